/-! Rows of OneDecisionModel, second part. Printed. -/
def bX12_starts_0 : List rm_J := [
  (.aload 0, .aload_n 0, 1, 0, 0, 0, .null, rm_M0, []),
  (.nop, .iconst 0, 1, 0, 0, 0, .int 0, rm_M0, []),
  (.putfield 162, .putfield 162, 3, 12, 19, 1158, .int 0, rm_M0, []),
  (.aload 0, .aload_n 0, 1, 0, 0, 0, .null, rm_M0, []),
  (.nop, .iconst 0, 1, 0, 0, 0, .int 0, rm_M0, []),
  (.putfield 159, .putfield 159, 3, 12, 20, 1159, .int 0, rm_M0, []),
  (.aload 0, .aload_n 0, 1, 0, 0, 0, .null, rm_M0, []),
  (.nop, .iconst 0, 1, 0, 0, 0, .int 0, rm_M0, []),
  (.putfield 192, .putfield 192, 3, 12, 23, 1162, .int 0, rm_M0, []),
  (.aload 0, .aload_n 0, 1, 0, 0, 0, .null, rm_M0, []),
  (.nop, .iconst 0, 1, 0, 0, 0, .int 0, rm_M0, []),
  (.putfield 233, .putfield 233, 3, 12, 24, 1163, .int 0, rm_M0, []),
  (.aload 0, .aload_n 0, 1, 0, 0, 0, .null, rm_M0, []),
  (.nop, .iconst 0, 1, 0, 0, 0, .int 0, rm_M0, []),
  (.putfield 195, .putfield 195, 3, 12, 25, 1164, .int 0, rm_M0, []),
  (.return_, .return_, 1, 0, 0, 0, .null, rm_M0, [])]
def tX12_starts : rm_P := [(0, bX12_starts_0)]
theorem ok_X12_starts_t : rm_okP mX12_starts tX12_starts = true := by decide +kernel
theorem ok_X12_starts : rm_okM mX12_starts tX12_starts := ⟨ok_X12_starts_t, fun _ h => absurd h List.not_mem_nil⟩
theorem atX12_starts_0 : rm_at tX12_starts 0 = some bX12_starts_0 := rfl
def bX12_readsAll_0 : List rm_J := [
  (.aload 0, .aload_n 0, 1, 0, 0, 0, .null, rm_M0, []),
  (.invokevirtual 278, .invokevirtual 278, 3, 0, 0, 0, .null, mX12_starts, [(0, 1323), (0, 1325), (0, 36)]),
  (.nop, .iconst 0, 1, 0, 0, 0, .int 0, rm_M0, []),
  (.istore 1, .istore_n 1, 1, 0, 0, 0, .null, rm_M0, [])]
def bX12_readsAll_6 : List rm_J := [
  (.iload 1, .iload_n 1, 1, 0, 0, 0, .null, rm_M0, []),
  (.nop, .iconst 4, 1, 0, 0, 0, .int 4, rm_M0, []),
  (.if_icmp .ge 16, .if_icmp .ge 16, 3, 24, 0, 0, .null, rm_M0, []),
  (.aload 0, .aload_n 0, 1, 0, 0, 0, .null, rm_M0, []),
  (.getfield 43, .getfield 43, 3, 12, 12, 1151, .null, rm_M0, []),
  (.iload 1, .iload_n 1, 1, 0, 0, 0, .null, rm_M0, []),
  (.nop, .iconst 0, 1, 0, 0, 0, .int 0, rm_M0, []),
  (.iastore, .iastore, 1, 0, 0, 0, .null, rm_M0, []),
  (.iinc 1 1, .iinc 1 1, 3, 0, 0, 0, .int 1, rm_M0, []),
  (.goto (-15), .goto (-15), 3, 6, 0, 0, .null, rm_M0, [])]
def bX12_readsAll_24 : List rm_J := [
  (.nop, .iconst 0, 1, 0, 0, 0, .int 0, rm_M0, []),
  (.istore 1, .istore_n 1, 1, 0, 0, 0, .null, rm_M0, [])]
def bX12_readsAll_26 : List rm_J := [
  (.iload 1, .iload_n 1, 1, 0, 0, 0, .null, rm_M0, []),
  (.nop, .bipush 61, 2, 0, 0, 0, .int 61, rm_M0, []),
  (.if_icmp .ge 16, .if_icmp .ge 16, 3, 45, 0, 0, .null, rm_M0, []),
  (.aload 0, .aload_n 0, 1, 0, 0, 0, .null, rm_M0, []),
  (.getfield 58, .getfield 58, 3, 12, 17, 1156, .null, rm_M0, []),
  (.iload 1, .iload_n 1, 1, 0, 0, 0, .null, rm_M0, []),
  (.nop, .iconst 0, 1, 0, 0, 0, .int 0, rm_M0, []),
  (.iastore, .iastore, 1, 0, 0, 0, .null, rm_M0, []),
  (.iinc 1 1, .iinc 1 1, 3, 0, 0, 0, .int 1, rm_M0, []),
  (.goto (-16), .goto (-16), 3, 26, 0, 0, .null, rm_M0, [])]
def bX12_readsAll_45 : List rm_J := [
  (.nop, .iconst 0, 1, 0, 0, 0, .int 0, rm_M0, []),
  (.istore 1, .istore_n 1, 1, 0, 0, 0, .null, rm_M0, [])]
def bX12_readsAll_47 : List rm_J := [
  (.iload 1, .iload_n 1, 1, 0, 0, 0, .null, rm_M0, []),
  (.nop, .bipush 8, 2, 0, 0, 0, .int 8, rm_M0, []),
  (.if_icmp .ge 23, .if_icmp .ge 23, 3, 73, 0, 0, .null, rm_M0, []),
  (.aload 0, .aload_n 0, 1, 0, 0, 0, .null, rm_M0, []),
  (.getfield 49, .getfield 49, 3, 12, 14, 1153, .null, rm_M0, []),
  (.iload 1, .iload_n 1, 1, 0, 0, 0, .null, rm_M0, []),
  (.nop, .iconst 0, 1, 0, 0, 0, .int 0, rm_M0, []),
  (.iastore, .iastore, 1, 0, 0, 0, .null, rm_M0, []),
  (.aload 0, .aload_n 0, 1, 0, 0, 0, .null, rm_M0, []),
  (.getfield 46, .getfield 46, 3, 12, 13, 1152, .null, rm_M0, []),
  (.iload 1, .iload_n 1, 1, 0, 0, 0, .null, rm_M0, []),
  (.nop, .iconst 0, 1, 0, 0, 0, .int 0, rm_M0, []),
  (.iastore, .iastore, 1, 0, 0, 0, .null, rm_M0, []),
  (.iinc 1 1, .iinc 1 1, 3, 0, 0, 0, .int 1, rm_M0, []),
  (.goto (-23), .goto (-23), 3, 47, 0, 0, .null, rm_M0, [])]
def bX12_readsAll_73 : List rm_J := [
  (.nop, .iconst 0, 1, 0, 0, 0, .int 0, rm_M0, []),
  (.istore 1, .istore_n 1, 1, 0, 0, 0, .null, rm_M0, []),
  (.nop, .iconst 1, 1, 0, 0, 0, .int 1, rm_M0, []),
  (.istore 2, .istore_n 2, 1, 0, 0, 0, .null, rm_M0, [])]
def bX12_readsAll_77 : List rm_J := [
  (.iload 2, .iload_n 2, 1, 0, 0, 0, .null, rm_M0, []),
  (.ifCond .eq 19, .ifCond .eq 19, 3, 97, 0, 0, .null, rm_M0, []),
  (.aload 0, .aload_n 0, 1, 0, 0, 0, .null, rm_M0, []),
  (.iload 1, .iload_n 1, 1, 0, 0, 0, .null, rm_M0, []),
  (.invokevirtual 281, .invokevirtual 281, 3, 0, 1, 0, .null, mX12_realmClause, [(0, 1327), (0, 1329), (0, 37)]),
  (.iinc 1 1, .iinc 1 1, 3, 0, 0, 0, .int 1, rm_M0, []),
  (.aload 0, .aload_n 0, 1, 0, 0, 0, .null, rm_M0, []),
  (.invokevirtual 284, .invokevirtual 284, 3, 0, 0, 0, .null, mX12_goesOn, [(0, 1386), (0, 1388), (0, 48)]),
  (.istore 2, .istore_n 2, 1, 0, 0, 0, .null, rm_M0, []),
  (.goto (-17), .goto (-17), 3, 77, 0, 0, .null, rm_M0, [])]
def bX12_readsAll_97 : List rm_J := [
  (.aload 0, .aload_n 0, 1, 0, 0, 0, .null, rm_M0, []),
  (.nop, .iconst 0, 1, 0, 0, 0, .int 0, rm_M0, []),
  (.putfield 129, .putfield 129, 3, 12, 18, 1157, .int 0, rm_M0, []),
  (.return_, .return_, 1, 0, 0, 0, .null, rm_M0, [])]
def tX12_readsAll : rm_P := [(0, bX12_readsAll_0), (6, bX12_readsAll_6), (24, bX12_readsAll_24), (26, bX12_readsAll_26), (45, bX12_readsAll_45), (47, bX12_readsAll_47), (73, bX12_readsAll_73), (77, bX12_readsAll_77), (97, bX12_readsAll_97)]
theorem ok_X12_readsAll_t : rm_okP mX12_readsAll tX12_readsAll = true := by decide +kernel
theorem ok_X12_readsAll : rm_okM mX12_readsAll tX12_readsAll := ⟨ok_X12_readsAll_t, List.forall_mem_cons.mpr ⟨cw_X12_starts, List.forall_mem_cons.mpr ⟨cw_X12_realmClause, List.forall_mem_cons.mpr ⟨cw_X12_goesOn, fun _ h => absurd h List.not_mem_nil⟩⟩⟩⟩
theorem atX12_readsAll_0 : rm_at tX12_readsAll 0 = some bX12_readsAll_0 := rfl
theorem atX12_readsAll_6 : rm_at tX12_readsAll 6 = some bX12_readsAll_6 := rfl
theorem atX12_readsAll_24 : rm_at tX12_readsAll 24 = some bX12_readsAll_24 := rfl
theorem atX12_readsAll_26 : rm_at tX12_readsAll 26 = some bX12_readsAll_26 := rfl
theorem atX12_readsAll_45 : rm_at tX12_readsAll 45 = some bX12_readsAll_45 := rfl
theorem atX12_readsAll_47 : rm_at tX12_readsAll 47 = some bX12_readsAll_47 := rfl
theorem atX12_readsAll_73 : rm_at tX12_readsAll 73 = some bX12_readsAll_73 := rfl
theorem atX12_readsAll_77 : rm_at tX12_readsAll 77 = some bX12_readsAll_77 := rfl
theorem atX12_readsAll_97 : rm_at tX12_readsAll 97 = some bX12_readsAll_97 := rfl
def bX12_begins_0 : List rm_J := [
  (.aload 0, .aload_n 0, 1, 0, 0, 0, .null, rm_M0, []),
  (.getfield 37, .getfield 37, 3, 12, 10, 1149, .null, rm_M0, []),
  (.aload 0, .aload_n 0, 1, 0, 0, 0, .null, rm_M0, []),
  (.getfield 13, .getfield 13, 3, 12, 2, 1141, .null, rm_M0, []),
  (.invokestatic 287, .invokestatic 287, 3, 0, 2, 0, .null, mX12_copies, [(0, 1390), (0, 1391)]),
  (.aload 0, .aload_n 0, 1, 0, 0, 0, .null, rm_M0, []),
  (.getfield 40, .getfield 40, 3, 12, 11, 1150, .null, rm_M0, []),
  (.aload 0, .aload_n 0, 1, 0, 0, 0, .null, rm_M0, []),
  (.getfield 19, .getfield 19, 3, 12, 4, 1143, .null, rm_M0, []),
  (.invokestatic 287, .invokestatic 287, 3, 0, 2, 0, .null, mX12_copies, [(0, 1390), (0, 1391)]),
  (.nop, .iconst 4, 1, 0, 0, 0, .int 4, rm_M0, []),
  (.istore 1, .istore_n 1, 1, 0, 0, 0, .null, rm_M0, [])]
def bX12_begins_24 : List rm_J := [
  (.iload 1, .iload_n 1, 1, 0, 0, 0, .null, rm_M0, []),
  (.nop, .bipush 10, 2, 0, 0, 0, .int 10, rm_M0, []),
  (.if_icmp .ge 16, .if_icmp .ge 16, 3, 43, 0, 0, .null, rm_M0, []),
  (.aload 0, .aload_n 0, 1, 0, 0, 0, .null, rm_M0, []),
  (.getfield 9, .getfield 9, 3, 12, 1, 1140, .null, rm_M0, []),
  (.iload 1, .iload_n 1, 1, 0, 0, 0, .null, rm_M0, []),
  (.nop, .iconst 0, 1, 0, 0, 0, .int 0, rm_M0, []),
  (.iastore, .iastore, 1, 0, 0, 0, .null, rm_M0, []),
  (.iinc 1 1, .iinc 1 1, 3, 0, 0, 0, .int 1, rm_M0, []),
  (.goto (-16), .goto (-16), 3, 24, 0, 0, .null, rm_M0, [])]
def bX12_begins_43 : List rm_J := [
  (.nop, .iconst 0, 1, 0, 0, 0, .int 0, rm_M0, []),
  (.istore 1, .istore_n 1, 1, 0, 0, 0, .null, rm_M0, [])]
def bX12_begins_45 : List rm_J := [
  (.iload 1, .iload_n 1, 1, 0, 0, 0, .null, rm_M0, []),
  (.nop, .bipush 8, 2, 0, 0, 0, .int 8, rm_M0, []),
  (.if_icmp .ge 16, .if_icmp .ge 16, 3, 64, 0, 0, .null, rm_M0, []),
  (.aload 0, .aload_n 0, 1, 0, 0, 0, .null, rm_M0, []),
  (.getfield 16, .getfield 16, 3, 12, 3, 1142, .null, rm_M0, []),
  (.iload 1, .iload_n 1, 1, 0, 0, 0, .null, rm_M0, []),
  (.nop, .iconst 0, 1, 0, 0, 0, .int 0, rm_M0, []),
  (.iastore, .iastore, 1, 0, 0, 0, .null, rm_M0, []),
  (.iinc 1 1, .iinc 1 1, 3, 0, 0, 0, .int 1, rm_M0, []),
  (.goto (-16), .goto (-16), 3, 45, 0, 0, .null, rm_M0, [])]
def bX12_begins_64 : List rm_J := [
  (.return_, .return_, 1, 0, 0, 0, .null, rm_M0, [])]
def tX12_begins : rm_P := [(0, bX12_begins_0), (24, bX12_begins_24), (43, bX12_begins_43), (45, bX12_begins_45), (64, bX12_begins_64)]
theorem ok_X12_begins_t : rm_okP mX12_begins tX12_begins = true := by decide +kernel
theorem ok_X12_begins : rm_okM mX12_begins tX12_begins := ⟨ok_X12_begins_t, List.forall_mem_cons.mpr ⟨cw_X12_copies, List.forall_mem_cons.mpr ⟨cw_X12_copies, fun _ h => absurd h List.not_mem_nil⟩⟩⟩
theorem atX12_begins_0 : rm_at tX12_begins 0 = some bX12_begins_0 := rfl
theorem atX12_begins_24 : rm_at tX12_begins 24 = some bX12_begins_24 := rfl
theorem atX12_begins_43 : rm_at tX12_begins 43 = some bX12_begins_43 := rfl
theorem atX12_begins_45 : rm_at tX12_begins 45 = some bX12_begins_45 := rfl
theorem atX12_begins_64 : rm_at tX12_begins 64 = some bX12_begins_64 := rfl
def bX12_realm_0 : List rm_J := [
  (.aload 0, .aload_n 0, 1, 0, 0, 0, .null, rm_M0, []),
  (.invokevirtual 291, .invokevirtual 291, 3, 0, 0, 0, .null, mX12_readsAll, [(0, 1319), (0, 1321), (0, 35)]),
  (.aload 0, .aload_n 0, 1, 0, 0, 0, .null, rm_M0, []),
  (.getfield 159, .getfield 159, 3, 12, 20, 1159, .null, rm_M0, []),
  (.ifCond .le 11, .ifCond .le 11, 3, 19, 0, 0, .null, rm_M0, []),
  (.nop, .bipush (-2), 2, 0, 0, 0, .int (-2), rm_M0, []),
  (.aload 0, .aload_n 0, 1, 0, 0, 0, .null, rm_M0, []),
  (.getfield 159, .getfield 159, 3, 12, 20, 1159, .null, rm_M0, []),
  (.isub, .isub, 1, 0, 0, 0, .null, rm_M0, []),
  (.ireturn, .ireturn, 1, 0, 0, 0, .null, rm_M0, [])]
def bX12_realm_19 : List rm_J := [
  (.nop, .iconst 0, 1, 0, 0, 0, .int 0, rm_M0, []),
  (.istore 1, .istore_n 1, 1, 0, 0, 0, .null, rm_M0, [])]
def bX12_realm_21 : List rm_J := [
  (.iload 1, .iload_n 1, 1, 0, 0, 0, .null, rm_M0, []),
  (.nop, .iconst 4, 1, 0, 0, 0, .int 4, rm_M0, []),
  (.if_icmp .ge 21, .if_icmp .ge 21, 3, 44, 0, 0, .null, rm_M0, []),
  (.aload 0, .aload_n 0, 1, 0, 0, 0, .null, rm_M0, []),
  (.getfield 9, .getfield 9, 3, 12, 1, 1140, .null, rm_M0, []),
  (.iload 1, .iload_n 1, 1, 0, 0, 0, .null, rm_M0, []),
  (.aload 0, .aload_n 0, 1, 0, 0, 0, .null, rm_M0, []),
  (.getfield 43, .getfield 43, 3, 12, 12, 1151, .null, rm_M0, []),
  (.iload 1, .iload_n 1, 1, 0, 0, 0, .null, rm_M0, []),
  (.iaload, .iaload, 1, 0, 0, 0, .null, rm_M0, []),
  (.iastore, .iastore, 1, 0, 0, 0, .null, rm_M0, []),
  (.iinc 1 1, .iinc 1 1, 3, 0, 0, 0, .int 1, rm_M0, []),
  (.goto (-20), .goto (-20), 3, 21, 0, 0, .null, rm_M0, [])]
def bX12_realm_44 : List rm_J := [
  (.aload 0, .aload_n 0, 1, 0, 0, 0, .null, rm_M0, []),
  (.getfield 9, .getfield 9, 3, 12, 1, 1140, .null, rm_M0, []),
  (.nop, .bipush 10, 2, 0, 0, 0, .int 10, rm_M0, []),
  (.nop, .iconst 0, 1, 0, 0, 0, .int 0, rm_M0, []),
  (.iastore, .iastore, 1, 0, 0, 0, .null, rm_M0, []),
  (.aload 0, .aload_n 0, 1, 0, 0, 0, .null, rm_M0, []),
  (.getfield 46, .getfield 46, 3, 12, 13, 1152, .null, rm_M0, []),
  (.aload 0, .aload_n 0, 1, 0, 0, 0, .null, rm_M0, []),
  (.getfield 37, .getfield 37, 3, 12, 10, 1149, .null, rm_M0, []),
  (.invokestatic 287, .invokestatic 287, 3, 0, 2, 0, .null, mX12_copies, [(0, 1390), (0, 1391)]),
  (.aload 0, .aload_n 0, 1, 0, 0, 0, .null, rm_M0, []),
  (.getfield 49, .getfield 49, 3, 12, 14, 1153, .null, rm_M0, []),
  (.aload 0, .aload_n 0, 1, 0, 0, 0, .null, rm_M0, []),
  (.getfield 40, .getfield 40, 3, 12, 11, 1150, .null, rm_M0, []),
  (.invokestatic 287, .invokestatic 287, 3, 0, 2, 0, .null, mX12_copies, [(0, 1390), (0, 1391)]),
  (.aload 0, .aload_n 0, 1, 0, 0, 0, .null, rm_M0, []),
  (.getfield 52, .getfield 52, 3, 12, 15, 1154, .null, rm_M0, []),
  (.aload 0, .aload_n 0, 1, 0, 0, 0, .null, rm_M0, []),
  (.getfield 22, .getfield 22, 3, 12, 5, 1144, .null, rm_M0, []),
  (.invokestatic 287, .invokestatic 287, 3, 0, 2, 0, .null, mX12_copies, [(0, 1390), (0, 1391)]),
  (.aload 0, .aload_n 0, 1, 0, 0, 0, .null, rm_M0, []),
  (.getfield 55, .getfield 55, 3, 12, 16, 1155, .null, rm_M0, []),
  (.aload 0, .aload_n 0, 1, 0, 0, 0, .null, rm_M0, []),
  (.getfield 25, .getfield 25, 3, 12, 6, 1145, .null, rm_M0, []),
  (.invokestatic 287, .invokestatic 287, 3, 0, 2, 0, .null, mX12_copies, [(0, 1390), (0, 1391)]),
  (.aload 0, .aload_n 0, 1, 0, 0, 0, .null, rm_M0, []),
  (.getfield 58, .getfield 58, 3, 12, 17, 1156, .null, rm_M0, []),
  (.aload 0, .aload_n 0, 1, 0, 0, 0, .null, rm_M0, []),
  (.getfield 28, .getfield 28, 3, 12, 7, 1146, .null, rm_M0, []),
  (.invokestatic 287, .invokestatic 287, 3, 0, 2, 0, .null, mX12_copies, [(0, 1390), (0, 1391)]),
  (.aload 0, .aload_n 0, 1, 0, 0, 0, .null, rm_M0, []),
  (.invokevirtual 294, .invokevirtual 294, 3, 0, 0, 0, .null, mX12_begins, [(0, 1393), (0, 1395), (0, 49)]),
  (.aload 0, .aload_n 0, 1, 0, 0, 0, .null, rm_M0, []),
  (.nop, .iconst 0, 1, 0, 0, 0, .int 0, rm_M0, []),
  (.putfield 297, .putfield 297, 3, 12, 40, 1179, .int 0, rm_M0, []),
  (.aload 0, .aload_n 0, 1, 0, 0, 0, .null, rm_M0, []),
  (.getfield 9, .getfield 9, 3, 12, 1, 1140, .null, rm_M0, []),
  (.nop, .iconst 3, 1, 0, 0, 0, .int 3, rm_M0, []),
  (.iaload, .iaload, 1, 0, 0, 0, .null, rm_M0, []),
  (.ireturn, .ireturn, 1, 0, 0, 0, .null, rm_M0, [])]
def tX12_realm : rm_P := [(0, bX12_realm_0), (19, bX12_realm_19), (21, bX12_realm_21), (44, bX12_realm_44)]
theorem ok_X12_realm_t : rm_okP mX12_realm tX12_realm = true := by decide +kernel
theorem ok_X12_realm : rm_okM mX12_realm tX12_realm := ⟨ok_X12_realm_t, List.forall_mem_cons.mpr ⟨cw_X12_readsAll, List.forall_mem_cons.mpr ⟨cw_X12_copies, List.forall_mem_cons.mpr ⟨cw_X12_copies, List.forall_mem_cons.mpr ⟨cw_X12_copies, List.forall_mem_cons.mpr ⟨cw_X12_copies, List.forall_mem_cons.mpr ⟨cw_X12_copies, List.forall_mem_cons.mpr ⟨cw_X12_begins, fun _ h => absurd h List.not_mem_nil⟩⟩⟩⟩⟩⟩⟩⟩
theorem atX12_realm_0 : rm_at tX12_realm 0 = some bX12_realm_0 := rfl
theorem atX12_realm_19 : rm_at tX12_realm 19 = some bX12_realm_19 := rfl
theorem atX12_realm_21 : rm_at tX12_realm 21 = some bX12_realm_21 := rfl
theorem atX12_realm_44 : rm_at tX12_realm 44 = some bX12_realm_44 := rfl
def bX12_ruleClause_0 : List rm_J := [
  (.aload 0, .aload_n 0, 1, 0, 0, 0, .null, rm_M0, []),
  (.invokevirtual 182, .invokevirtual 182, 3, 0, 0, 0, .null, mX12_blanks, [(0, 1331), (0, 1333), (0, 38)]),
  (.aload 0, .aload_n 0, 1, 0, 0, 0, .null, rm_M0, []),
  (.getfield 162, .getfield 162, 3, 12, 19, 1158, .null, rm_M0, []),
  (.istore 2, .istore_n 2, 1, 0, 0, 0, .null, rm_M0, []),
  (.aload 0, .aload_n 0, 1, 0, 0, 0, .null, rm_M0, []),
  (.nop, .ldc_w 300, 3, 0, 0, 0, .ref 1000000006, rm_M0, []),
  (.invokevirtual 185, .invokevirtual 185, 3, 0, 1, 0, .null, mX12_stood, [(0, 1346), (0, 1348), (0, 40)]),
  (.ifCond .ne 10, .ifCond .ne 10, 3, 26, 0, 0, .null, rm_M0, []),
  (.aload 0, .aload_n 0, 1, 0, 0, 0, .null, rm_M0, []),
  (.nop, .iconst 0, 1, 0, 0, 0, .int 0, rm_M0, []),
  (.iload 2, .iload_n 2, 1, 0, 0, 0, .null, rm_M0, []),
  (.invokevirtual 198, .invokevirtual 198, 3, 0, 2, 0, .null, mX12_fails, [(0, 1352), (0, 1354), (0, 41)]),
  (.return_, .return_, 1, 0, 0, 0, .null, rm_M0, [])]
def bX12_ruleClause_26 : List rm_J := [
  (.iload 1, .iload_n 1, 1, 0, 0, 0, .null, rm_M0, []),
  (.nop, .bipush 12, 2, 0, 0, 0, .int 12, rm_M0, []),
  (.if_icmp .ne 10, .if_icmp .ne 10, 3, 39, 0, 0, .null, rm_M0, []),
  (.aload 0, .aload_n 0, 1, 0, 0, 0, .null, rm_M0, []),
  (.nop, .iconst 4, 1, 0, 0, 0, .int 4, rm_M0, []),
  (.iload 2, .iload_n 2, 1, 0, 0, 0, .null, rm_M0, []),
  (.invokevirtual 198, .invokevirtual 198, 3, 0, 2, 0, .null, mX12_fails, [(0, 1352), (0, 1354), (0, 41)]),
  (.return_, .return_, 1, 0, 0, 0, .null, rm_M0, [])]
def bX12_ruleClause_39 : List rm_J := [
  (.aload 0, .aload_n 0, 1, 0, 0, 0, .null, rm_M0, []),
  (.dup, .dup, 1, 0, 0, 0, .null, rm_M0, []),
  (.getfield 162, .getfield 162, 3, 12, 19, 1158, .null, rm_M0, []),
  (.nop, .iconst 3, 1, 0, 0, 0, .int 3, rm_M0, []),
  (.iadd, .iadd, 1, 0, 0, 0, .null, rm_M0, []),
  (.putfield 162, .putfield 162, 3, 12, 19, 1158, .int 0, rm_M0, []),
  (.nop, .bipush 12, 2, 0, 0, 0, .int 12, rm_M0, []),
  (.aload 0, .aload_n 0, 1, 0, 0, 0, .null, rm_M0, []),
  (.getfield 189, .getfield 189, 3, 12, 21, 1160, .null, rm_M0, []),
  (.imul, .imul, 1, 0, 0, 0, .null, rm_M0, []),
  (.iload 1, .iload_n 1, 1, 0, 0, 0, .null, rm_M0, []),
  (.iadd, .iadd, 1, 0, 0, 0, .null, rm_M0, []),
  (.istore 3, .istore_n 3, 1, 0, 0, 0, .null, rm_M0, []),
  (.aload 0, .aload_n 0, 1, 0, 0, 0, .null, rm_M0, []),
  (.getfield 78, .getfield 78, 3, 12, 32, 1171, .null, rm_M0, []),
  (.iload 3, .iload_n 3, 1, 0, 0, 0, .null, rm_M0, []),
  (.aload 0, .aload_n 0, 1, 0, 0, 0, .null, rm_M0, []),
  (.getfield 192, .getfield 192, 3, 12, 23, 1162, .null, rm_M0, []),
  (.iastore, .iastore, 1, 0, 0, 0, .null, rm_M0, []),
  (.aload 0, .aload_n 0, 1, 0, 0, 0, .null, rm_M0, []),
  (.invokevirtual 227, .invokevirtual 227, 3, 0, 0, 0, .null, mX12_sum, [(0, 1406), (0, 1408), (0, 51)]),
  (.aload 0, .aload_n 0, 1, 0, 0, 0, .null, rm_M0, []),
  (.getfield 81, .getfield 81, 3, 12, 33, 1172, .null, rm_M0, []),
  (.iload 3, .iload_n 3, 1, 0, 0, 0, .null, rm_M0, []),
  (.aload 0, .aload_n 0, 1, 0, 0, 0, .null, rm_M0, []),
  (.getfield 192, .getfield 192, 3, 12, 23, 1162, .null, rm_M0, []),
  (.iastore, .iastore, 1, 0, 0, 0, .null, rm_M0, []),
  (.aload 0, .aload_n 0, 1, 0, 0, 0, .null, rm_M0, []),
  (.getfield 159, .getfield 159, 3, 12, 20, 1159, .null, rm_M0, []),
  (.ifCond .ne 17, .ifCond .ne 17, 3, 104, 0, 0, .null, rm_M0, []),
  (.aload 0, .aload_n 0, 1, 0, 0, 0, .null, rm_M0, []),
  (.nop, .ldc_w 302, 3, 0, 0, 0, .ref 1000000019, rm_M0, []),
  (.invokevirtual 304, .invokevirtual 304, 3, 0, 1, 0, .null, mX12_takes, [(0, 1442), (0, 1444), (0, 56)]),
  (.ifCond .eq 7, .ifCond .eq 7, 3, 104, 0, 0, .null, rm_M0, []),
  (.aload 0, .aload_n 0, 1, 0, 0, 0, .null, rm_M0, []),
  (.invokevirtual 307, .invokevirtual 307, 3, 0, 0, 0, .null, mX12_test, [(0, 1446), (0, 1448), (0, 57)])]
def bX12_ruleClause_104 : List rm_J := [
  (.aload 0, .aload_n 0, 1, 0, 0, 0, .null, rm_M0, []),
  (.getfield 84, .getfield 84, 3, 12, 34, 1173, .null, rm_M0, []),
  (.iload 3, .iload_n 3, 1, 0, 0, 0, .null, rm_M0, []),
  (.aload 0, .aload_n 0, 1, 0, 0, 0, .null, rm_M0, []),
  (.getfield 192, .getfield 192, 3, 12, 23, 1162, .null, rm_M0, []),
  (.iastore, .iastore, 1, 0, 0, 0, .null, rm_M0, []),
  (.return_, .return_, 1, 0, 0, 0, .null, rm_M0, [])]
def tX12_ruleClause : rm_P := [(0, bX12_ruleClause_0), (26, bX12_ruleClause_26), (39, bX12_ruleClause_39), (104, bX12_ruleClause_104)]
theorem ok_X12_ruleClause_t : rm_okP mX12_ruleClause tX12_ruleClause = true := by decide +kernel
theorem ok_X12_ruleClause : rm_okM mX12_ruleClause tX12_ruleClause := ⟨ok_X12_ruleClause_t, List.forall_mem_cons.mpr ⟨cw_X12_blanks, List.forall_mem_cons.mpr ⟨cw_X12_stood, List.forall_mem_cons.mpr ⟨cw_X12_fails, List.forall_mem_cons.mpr ⟨cw_X12_fails, List.forall_mem_cons.mpr ⟨cw_X12_sum, List.forall_mem_cons.mpr ⟨cw_X12_takes, List.forall_mem_cons.mpr ⟨cw_X12_test, fun _ h => absurd h List.not_mem_nil⟩⟩⟩⟩⟩⟩⟩⟩
theorem atX12_ruleClause_0 : rm_at tX12_ruleClause 0 = some bX12_ruleClause_0 := rfl
theorem atX12_ruleClause_26 : rm_at tX12_ruleClause 26 = some bX12_ruleClause_26 := rfl
theorem atX12_ruleClause_39 : rm_at tX12_ruleClause 39 = some bX12_ruleClause_39 := rfl
theorem atX12_ruleClause_104 : rm_at tX12_ruleClause 104 = some bX12_ruleClause_104 := rfl
def bX12_rule_0 : List rm_J := [
  (.aload 0, .aload_n 0, 1, 0, 0, 0, .null, rm_M0, []),
  (.getfield 310, .getfield 310, 3, 12, 22, 1161, .null, rm_M0, []),
  (.nop, .bipush 6, 2, 0, 0, 0, .int 6, rm_M0, []),
  (.if_icmp .ne 5, .if_icmp .ne 5, 3, 11, 0, 0, .null, rm_M0, []),
  (.nop, .iconst (-1), 1, 0, 0, 0, .int (-1), rm_M0, []),
  (.ireturn, .ireturn, 1, 0, 0, 0, .null, rm_M0, [])]
def bX12_rule_11 : List rm_J := [
  (.aload 0, .aload_n 0, 1, 0, 0, 0, .null, rm_M0, []),
  (.aload 0, .aload_n 0, 1, 0, 0, 0, .null, rm_M0, []),
  (.getfield 310, .getfield 310, 3, 12, 22, 1161, .null, rm_M0, []),
  (.putfield 189, .putfield 189, 3, 12, 21, 1160, .int 0, rm_M0, []),
  (.aload 0, .aload_n 0, 1, 0, 0, 0, .null, rm_M0, []),
  (.invokevirtual 278, .invokevirtual 278, 3, 0, 0, 0, .null, mX12_starts, [(0, 1323), (0, 1325), (0, 36)]),
  (.nop, .iconst 0, 1, 0, 0, 0, .int 0, rm_M0, []),
  (.istore 1, .istore_n 1, 1, 0, 0, 0, .null, rm_M0, []),
  (.nop, .iconst 1, 1, 0, 0, 0, .int 1, rm_M0, []),
  (.istore 2, .istore_n 2, 1, 0, 0, 0, .null, rm_M0, [])]
def bX12_rule_27 : List rm_J := [
  (.iload 2, .iload_n 2, 1, 0, 0, 0, .null, rm_M0, []),
  (.ifCond .eq 19, .ifCond .eq 19, 3, 47, 0, 0, .null, rm_M0, []),
  (.aload 0, .aload_n 0, 1, 0, 0, 0, .null, rm_M0, []),
  (.iload 1, .iload_n 1, 1, 0, 0, 0, .null, rm_M0, []),
  (.invokevirtual 313, .invokevirtual 313, 3, 0, 1, 0, .null, mX12_ruleClause, [(0, 1401), (0, 1403), (0, 50)]),
  (.iinc 1 1, .iinc 1 1, 3, 0, 0, 0, .int 1, rm_M0, []),
  (.aload 0, .aload_n 0, 1, 0, 0, 0, .null, rm_M0, []),
  (.invokevirtual 284, .invokevirtual 284, 3, 0, 0, 0, .null, mX12_goesOn, [(0, 1386), (0, 1388), (0, 48)]),
  (.istore 2, .istore_n 2, 1, 0, 0, 0, .null, rm_M0, []),
  (.goto (-17), .goto (-17), 3, 27, 0, 0, .null, rm_M0, [])]
def bX12_rule_47 : List rm_J := [
  (.aload 0, .aload_n 0, 1, 0, 0, 0, .null, rm_M0, []),
  (.nop, .iconst 0, 1, 0, 0, 0, .int 0, rm_M0, []),
  (.putfield 129, .putfield 129, 3, 12, 18, 1157, .int 0, rm_M0, []),
  (.aload 0, .aload_n 0, 1, 0, 0, 0, .null, rm_M0, []),
  (.getfield 75, .getfield 75, 3, 12, 31, 1170, .null, rm_M0, []),
  (.aload 0, .aload_n 0, 1, 0, 0, 0, .null, rm_M0, []),
  (.getfield 189, .getfield 189, 3, 12, 21, 1160, .null, rm_M0, []),
  (.iload 1, .iload_n 1, 1, 0, 0, 0, .null, rm_M0, []),
  (.iastore, .iastore, 1, 0, 0, 0, .null, rm_M0, []),
  (.aload 0, .aload_n 0, 1, 0, 0, 0, .null, rm_M0, []),
  (.dup, .dup, 1, 0, 0, 0, .null, rm_M0, []),
  (.getfield 310, .getfield 310, 3, 12, 22, 1161, .null, rm_M0, []),
  (.aload 0, .aload_n 0, 1, 0, 0, 0, .null, rm_M0, []),
  (.getfield 159, .getfield 159, 3, 12, 20, 1159, .null, rm_M0, []),
  (.ifCond .ne 7, .ifCond .ne 7, 3, 78, 0, 0, .null, rm_M0, []),
  (.nop, .iconst 1, 1, 0, 0, 0, .int 1, rm_M0, []),
  (.goto 4, .goto 4, 3, 79, 0, 0, .null, rm_M0, [])]
def bX12_rule_78 : List rm_J := [
  (.nop, .iconst 0, 1, 0, 0, 0, .int 0, rm_M0, [])]
def bX12_rule_79 : List rm_J := [
  (.iadd, .iadd, 1, 0, 0, 0, .null, rm_M0, []),
  (.putfield 310, .putfield 310, 3, 12, 22, 1161, .int 0, rm_M0, []),
  (.aload 0, .aload_n 0, 1, 0, 0, 0, .null, rm_M0, []),
  (.getfield 159, .getfield 159, 3, 12, 20, 1159, .null, rm_M0, []),
  (.ifCond .le 13, .ifCond .le 13, 3, 100, 0, 0, .null, rm_M0, []),
  (.nop, .bipush (-2), 2, 0, 0, 0, .int (-2), rm_M0, []),
  (.aload 0, .aload_n 0, 1, 0, 0, 0, .null, rm_M0, []),
  (.getfield 159, .getfield 159, 3, 12, 20, 1159, .null, rm_M0, []),
  (.isub, .isub, 1, 0, 0, 0, .null, rm_M0, []),
  (.goto 9, .goto 9, 3, 106, 0, 0, .null, rm_M0, [])]
def bX12_rule_100 : List rm_J := [
  (.aload 0, .aload_n 0, 1, 0, 0, 0, .null, rm_M0, []),
  (.getfield 310, .getfield 310, 3, 12, 22, 1161, .null, rm_M0, []),
  (.nop, .iconst 1, 1, 0, 0, 0, .int 1, rm_M0, []),
  (.isub, .isub, 1, 0, 0, 0, .null, rm_M0, [])]
def bX12_rule_106 : List rm_J := [
  (.ireturn, .ireturn, 1, 0, 0, 0, .null, rm_M0, [])]
def tX12_rule : rm_P := [(0, bX12_rule_0), (11, bX12_rule_11), (27, bX12_rule_27), (47, bX12_rule_47), (78, bX12_rule_78), (79, bX12_rule_79), (100, bX12_rule_100), (106, bX12_rule_106)]
theorem ok_X12_rule_t : rm_okP mX12_rule tX12_rule = true := by decide +kernel
theorem ok_X12_rule : rm_okM mX12_rule tX12_rule := ⟨ok_X12_rule_t, List.forall_mem_cons.mpr ⟨cw_X12_starts, List.forall_mem_cons.mpr ⟨cw_X12_ruleClause, List.forall_mem_cons.mpr ⟨cw_X12_goesOn, fun _ h => absurd h List.not_mem_nil⟩⟩⟩⟩
theorem atX12_rule_0 : rm_at tX12_rule 0 = some bX12_rule_0 := rfl
theorem atX12_rule_11 : rm_at tX12_rule 11 = some bX12_rule_11 := rfl
theorem atX12_rule_27 : rm_at tX12_rule 27 = some bX12_rule_27 := rfl
theorem atX12_rule_47 : rm_at tX12_rule 47 = some bX12_rule_47 := rfl
theorem atX12_rule_78 : rm_at tX12_rule 78 = some bX12_rule_78 := rfl
theorem atX12_rule_79 : rm_at tX12_rule 79 = some bX12_rule_79 := rfl
theorem atX12_rule_100 : rm_at tX12_rule 100 = some bX12_rule_100 := rfl
theorem atX12_rule_106 : rm_at tX12_rule 106 = some bX12_rule_106 := rfl
def bX12_force_0 : List rm_J := [
  (.iload 1, .iload_n 1, 1, 0, 0, 0, .null, rm_M0, []),
  (.i2l, .i2l, 1, 0, 0, 0, .null, rm_M0, []),
  (.nop, .ldc2_w 316, 3, 0, 0, 1477, .long (-1), rm_M0, []),
  (.aload 0, .aload_n 0, 1, 0, 0, 0, .null, rm_M0, []),
  (.getfield 310, .getfield 310, 3, 12, 22, 1161, .null, rm_M0, []),
  (.nop, .iconst 1, 1, 0, 0, 0, .int 1, rm_M0, []),
  (.isub, .isub, 1, 0, 0, 0, .null, rm_M0, []),
  (.i2l, .i2l, 1, 0, 0, 0, .null, rm_M0, []),
  (.invokestatic 125, .invokestatic 125, 3, 0, 3, 0, .null, mX12_in, [(0, 1379), (0, 1380)]),
  (.ifCond .ne 6, .ifCond .ne 6, 3, 21, 0, 0, .null, rm_M0, []),
  (.nop, .bipush (-2), 2, 0, 0, 0, .int (-2), rm_M0, []),
  (.ireturn, .ireturn, 1, 0, 0, 0, .null, rm_M0, [])]
def bX12_force_21 : List rm_J := [
  (.aload 0, .aload_n 0, 1, 0, 0, 0, .null, rm_M0, []),
  (.getfield 9, .getfield 9, 3, 12, 1, 1140, .null, rm_M0, []),
  (.nop, .bipush 12, 2, 0, 0, 0, .int 12, rm_M0, []),
  (.iaload, .iaload, 1, 0, 0, 0, .null, rm_M0, []),
  (.istore 2, .istore_n 2, 1, 0, 0, 0, .null, rm_M0, []),
  (.aload 0, .aload_n 0, 1, 0, 0, 0, .null, rm_M0, []),
  (.getfield 9, .getfield 9, 3, 12, 1, 1140, .null, rm_M0, []),
  (.nop, .bipush 12, 2, 0, 0, 0, .int 12, rm_M0, []),
  (.iload 1, .iload_n 1, 1, 0, 0, 0, .null, rm_M0, []),
  (.iastore, .iastore, 1, 0, 0, 0, .null, rm_M0, []),
  (.iload 2, .iload_n 2, 1, 0, 0, 0, .null, rm_M0, []),
  (.ireturn, .ireturn, 1, 0, 0, 0, .null, rm_M0, [])]
def tX12_force : rm_P := [(0, bX12_force_0), (21, bX12_force_21)]
theorem ok_X12_force_t : rm_okP mX12_force tX12_force = true := by decide +kernel
theorem ok_X12_force : rm_okM mX12_force tX12_force := ⟨ok_X12_force_t, List.forall_mem_cons.mpr ⟨cw_X12_in, fun _ h => absurd h List.not_mem_nil⟩⟩
theorem atX12_force_0 : rm_at tX12_force 0 = some bX12_force_0 := rfl
theorem atX12_force_21 : rm_at tX12_force 21 = some bX12_force_21 := rfl
def bX12_wanted_0 : List rm_J := [
  (.aload 0, .aload_n 0, 1, 0, 0, 0, .null, rm_M0, []),
  (.getfield 9, .getfield 9, 3, 12, 1, 1140, .null, rm_M0, []),
  (.nop, .bipush 12, 2, 0, 0, 0, .int 12, rm_M0, []),
  (.iaload, .iaload, 1, 0, 0, 0, .null, rm_M0, []),
  (.istore 1, .istore_n 1, 1, 0, 0, 0, .null, rm_M0, []),
  (.nop, .bipush 12, 2, 0, 0, 0, .int 12, rm_M0, []),
  (.iload 1, .iload_n 1, 1, 0, 0, 0, .null, rm_M0, []),
  (.imul, .imul, 1, 0, 0, 0, .null, rm_M0, []),
  (.istore 2, .istore_n 2, 1, 0, 0, 0, .null, rm_M0, [])]
def bX12_wanted_13 : List rm_J := [
  (.iload 2, .iload_n 2, 1, 0, 0, 0, .null, rm_M0, []),
  (.nop, .bipush 12, 2, 0, 0, 0, .int 12, rm_M0, []),
  (.iload 1, .iload_n 1, 1, 0, 0, 0, .null, rm_M0, []),
  (.imul, .imul, 1, 0, 0, 0, .null, rm_M0, []),
  (.aload 0, .aload_n 0, 1, 0, 0, 0, .null, rm_M0, []),
  (.getfield 75, .getfield 75, 3, 12, 31, 1170, .null, rm_M0, []),
  (.iload 1, .iload_n 1, 1, 0, 0, 0, .null, rm_M0, []),
  (.iaload, .iaload, 1, 0, 0, 0, .null, rm_M0, []),
  (.iadd, .iadd, 1, 0, 0, 0, .null, rm_M0, []),
  (.if_icmp .ge 64, .if_icmp .ge 64, 3, 89, 0, 0, .null, rm_M0, []),
  (.aload 0, .aload_n 0, 1, 0, 0, 0, .null, rm_M0, []),
  (.getfield 81, .getfield 81, 3, 12, 33, 1172, .null, rm_M0, []),
  (.iload 2, .iload_n 2, 1, 0, 0, 0, .null, rm_M0, []),
  (.iaload, .iaload, 1, 0, 0, 0, .null, rm_M0, []),
  (.aload 0, .aload_n 0, 1, 0, 0, 0, .null, rm_M0, []),
  (.getfield 84, .getfield 84, 3, 12, 34, 1173, .null, rm_M0, []),
  (.iload 2, .iload_n 2, 1, 0, 0, 0, .null, rm_M0, []),
  (.iaload, .iaload, 1, 0, 0, 0, .null, rm_M0, []),
  (.if_icmp .eq 25, .if_icmp .eq 25, 3, 65, 0, 0, .null, rm_M0, []),
  (.aload 0, .aload_n 0, 1, 0, 0, 0, .null, rm_M0, []),
  (.iload 1, .iload_n 1, 1, 0, 0, 0, .null, rm_M0, []),
  (.aload 0, .aload_n 0, 1, 0, 0, 0, .null, rm_M0, []),
  (.getfield 81, .getfield 81, 3, 12, 33, 1172, .null, rm_M0, []),
  (.iload 2, .iload_n 2, 1, 0, 0, 0, .null, rm_M0, []),
  (.iaload, .iaload, 1, 0, 0, 0, .null, rm_M0, []),
  (.aload 0, .aload_n 0, 1, 0, 0, 0, .null, rm_M0, []),
  (.getfield 84, .getfield 84, 3, 12, 34, 1173, .null, rm_M0, []),
  (.iload 2, .iload_n 2, 1, 0, 0, 0, .null, rm_M0, []),
  (.iaload, .iaload, 1, 0, 0, 0, .null, rm_M0, []),
  (.invokevirtual 318, .invokevirtual 318, 3, 0, 3, 0, .null, mX12_answer, [(0, 1557), (0, 1559), (0, 78)]),
  (.nop, .lconst 1, 1, 0, 0, 0, .long 1, rm_M0, []),
  (.lcmp, .lcmp, 1, 0, 0, 0, .null, rm_M0, []),
  (.ifCond .ne 21, .ifCond .ne 21, 3, 83, 0, 0, .null, rm_M0, [])]
def bX12_wanted_65 : List rm_J := [
  (.aload 0, .aload_n 0, 1, 0, 0, 0, .null, rm_M0, []),
  (.iload 1, .iload_n 1, 1, 0, 0, 0, .null, rm_M0, []),
  (.aload 0, .aload_n 0, 1, 0, 0, 0, .null, rm_M0, []),
  (.getfield 78, .getfield 78, 3, 12, 32, 1171, .null, rm_M0, []),
  (.iload 2, .iload_n 2, 1, 0, 0, 0, .null, rm_M0, []),
  (.iaload, .iaload, 1, 0, 0, 0, .null, rm_M0, []),
  (.aload 0, .aload_n 0, 1, 0, 0, 0, .null, rm_M0, []),
  (.getfield 81, .getfield 81, 3, 12, 33, 1172, .null, rm_M0, []),
  (.iload 2, .iload_n 2, 1, 0, 0, 0, .null, rm_M0, []),
  (.iaload, .iaload, 1, 0, 0, 0, .null, rm_M0, []),
  (.invokevirtual 318, .invokevirtual 318, 3, 0, 3, 0, .null, mX12_answer, [(0, 1557), (0, 1559), (0, 78)]),
  (.lreturn, .lreturn, 1, 0, 0, 0, .null, rm_M0, [])]
def bX12_wanted_83 : List rm_J := [
  (.iinc 2 1, .iinc 2 1, 3, 0, 0, 0, .int 1, rm_M0, []),
  (.goto (-73), .goto (-73), 3, 13, 0, 0, .null, rm_M0, [])]
def bX12_wanted_89 : List rm_J := [
  (.nop, .lconst 0, 1, 0, 0, 0, .long 0, rm_M0, []),
  (.lreturn, .lreturn, 1, 0, 0, 0, .null, rm_M0, [])]
def tX12_wanted : rm_P := [(0, bX12_wanted_0), (13, bX12_wanted_13), (65, bX12_wanted_65), (83, bX12_wanted_83), (89, bX12_wanted_89)]
theorem ok_X12_wanted_t : rm_okP mX12_wanted tX12_wanted = true := by decide +kernel
theorem ok_X12_wanted : rm_okM mX12_wanted tX12_wanted := ⟨ok_X12_wanted_t, List.forall_mem_cons.mpr ⟨cw_X12_answer, List.forall_mem_cons.mpr ⟨cw_X12_answer, fun _ h => absurd h List.not_mem_nil⟩⟩⟩
theorem atX12_wanted_0 : rm_at tX12_wanted 0 = some bX12_wanted_0 := rfl
theorem atX12_wanted_13 : rm_at tX12_wanted 13 = some bX12_wanted_13 := rfl
theorem atX12_wanted_65 : rm_at tX12_wanted 65 = some bX12_wanted_65 := rfl
theorem atX12_wanted_83 : rm_at tX12_wanted 83 = some bX12_wanted_83 := rfl
theorem atX12_wanted_89 : rm_at tX12_wanted 89 = some bX12_wanted_89 := rfl
def bX12_truth_0 : List rm_J := [
  (.iload 0, .iload_n 0, 1, 0, 0, 0, .null, rm_M0, []),
  (.ifCond .eq 7, .ifCond .eq 7, 3, 8, 0, 0, .null, rm_M0, []),
  (.nop, .lconst 1, 1, 0, 0, 0, .long 1, rm_M0, []),
  (.goto 4, .goto 4, 3, 9, 0, 0, .null, rm_M0, [])]
def bX12_truth_8 : List rm_J := [
  (.nop, .lconst 0, 1, 0, 0, 0, .long 0, rm_M0, [])]
def bX12_truth_9 : List rm_J := [
  (.lreturn, .lreturn, 1, 0, 0, 0, .null, rm_M0, [])]
def tX12_truth : rm_P := [(0, bX12_truth_0), (8, bX12_truth_8), (9, bX12_truth_9)]
theorem ok_X12_truth_t : rm_okP mX12_truth tX12_truth = true := by decide +kernel
theorem ok_X12_truth : rm_okM mX12_truth tX12_truth := ⟨ok_X12_truth_t, fun _ h => absurd h List.not_mem_nil⟩
theorem atX12_truth_0 : rm_at tX12_truth 0 = some bX12_truth_0 := rfl
theorem atX12_truth_8 : rm_at tX12_truth 8 = some bX12_truth_8 := rfl
theorem atX12_truth_9 : rm_at tX12_truth 9 = some bX12_truth_9 := rfl
def bX12_both_0 : List rm_J := [
  (.iload 0, .iload_n 0, 1, 0, 0, 0, .null, rm_M0, []),
  (.tableswitch 190 2 15 #[71, 75, 111, 126, 141, 156, 171, 190, 186, 190, 190, 79, 83, 97], .tableswitch 190 2 15 #[71, 75, 111, 126, 141, 156, 171, 190, 186, 190, 190, 79, 83, 97], 71, 191, 0, 0, .null, rm_M0, [(2, 72), (3, 76), (4, 112), (5, 127), (6, 142), (7, 157), (8, 172), (9, 191), (10, 187), (11, 191), (12, 191), (13, 80), (14, 84), (15, 98)])]
def bX12_both_72 : List rm_J := [
  (.lload 1, .lload_n 1, 1, 0, 0, 0, .null, rm_M0, []),
  (.lload 3, .lload_n 3, 1, 0, 0, 0, .null, rm_M0, []),
  (.ladd, .ladd, 1, 0, 0, 0, .null, rm_M0, []),
  (.lreturn, .lreturn, 1, 0, 0, 0, .null, rm_M0, [])]
def bX12_both_76 : List rm_J := [
  (.lload 1, .lload_n 1, 1, 0, 0, 0, .null, rm_M0, []),
  (.lload 3, .lload_n 3, 1, 0, 0, 0, .null, rm_M0, []),
  (.lsub, .lsub, 1, 0, 0, 0, .null, rm_M0, []),
  (.lreturn, .lreturn, 1, 0, 0, 0, .null, rm_M0, [])]
def bX12_both_80 : List rm_J := [
  (.lload 1, .lload_n 1, 1, 0, 0, 0, .null, rm_M0, []),
  (.lload 3, .lload_n 3, 1, 0, 0, 0, .null, rm_M0, []),
  (.lmul, .lmul, 1, 0, 0, 0, .null, rm_M0, []),
  (.lreturn, .lreturn, 1, 0, 0, 0, .null, rm_M0, [])]
def bX12_both_84 : List rm_J := [
  (.lload 3, .lload_n 3, 1, 0, 0, 0, .null, rm_M0, []),
  (.nop, .lconst 0, 1, 0, 0, 0, .long 0, rm_M0, []),
  (.lcmp, .lcmp, 1, 0, 0, 0, .null, rm_M0, []),
  (.ifCond .ne 7, .ifCond .ne 7, 3, 94, 0, 0, .null, rm_M0, []),
  (.nop, .lconst 0, 1, 0, 0, 0, .long 0, rm_M0, []),
  (.goto 6, .goto 6, 3, 97, 0, 0, .null, rm_M0, [])]
def bX12_both_94 : List rm_J := [
  (.lload 1, .lload_n 1, 1, 0, 0, 0, .null, rm_M0, []),
  (.lload 3, .lload_n 3, 1, 0, 0, 0, .null, rm_M0, []),
  (.ldiv, .ldiv, 1, 0, 0, 0, .null, rm_M0, [])]
def bX12_both_97 : List rm_J := [
  (.lreturn, .lreturn, 1, 0, 0, 0, .null, rm_M0, [])]
def bX12_both_98 : List rm_J := [
  (.lload 3, .lload_n 3, 1, 0, 0, 0, .null, rm_M0, []),
  (.nop, .lconst 0, 1, 0, 0, 0, .long 0, rm_M0, []),
  (.lcmp, .lcmp, 1, 0, 0, 0, .null, rm_M0, []),
  (.ifCond .ne 7, .ifCond .ne 7, 3, 108, 0, 0, .null, rm_M0, []),
  (.nop, .lconst 0, 1, 0, 0, 0, .long 0, rm_M0, []),
  (.goto 6, .goto 6, 3, 111, 0, 0, .null, rm_M0, [])]
def bX12_both_108 : List rm_J := [
  (.lload 1, .lload_n 1, 1, 0, 0, 0, .null, rm_M0, []),
  (.lload 3, .lload_n 3, 1, 0, 0, 0, .null, rm_M0, []),
  (.lrem, .lrem, 1, 0, 0, 0, .null, rm_M0, [])]
def bX12_both_111 : List rm_J := [
  (.lreturn, .lreturn, 1, 0, 0, 0, .null, rm_M0, [])]
def bX12_both_112 : List rm_J := [
  (.lload 1, .lload_n 1, 1, 0, 0, 0, .null, rm_M0, []),
  (.lload 3, .lload_n 3, 1, 0, 0, 0, .null, rm_M0, []),
  (.lcmp, .lcmp, 1, 0, 0, 0, .null, rm_M0, []),
  (.ifCond .ge 7, .ifCond .ge 7, 3, 122, 0, 0, .null, rm_M0, []),
  (.nop, .iconst 1, 1, 0, 0, 0, .int 1, rm_M0, []),
  (.goto 4, .goto 4, 3, 123, 0, 0, .null, rm_M0, [])]
def bX12_both_122 : List rm_J := [
  (.nop, .iconst 0, 1, 0, 0, 0, .int 0, rm_M0, [])]
def bX12_both_123 : List rm_J := [
  (.invokestatic 322, .invokestatic 322, 3, 0, 1, 0, .null, mX12_truth, [(0, 1564), (0, 1565)]),
  (.lreturn, .lreturn, 1, 0, 0, 0, .null, rm_M0, [])]
def bX12_both_127 : List rm_J := [
  (.lload 1, .lload_n 1, 1, 0, 0, 0, .null, rm_M0, []),
  (.lload 3, .lload_n 3, 1, 0, 0, 0, .null, rm_M0, []),
  (.lcmp, .lcmp, 1, 0, 0, 0, .null, rm_M0, []),
  (.ifCond .gt 7, .ifCond .gt 7, 3, 137, 0, 0, .null, rm_M0, []),
  (.nop, .iconst 1, 1, 0, 0, 0, .int 1, rm_M0, []),
  (.goto 4, .goto 4, 3, 138, 0, 0, .null, rm_M0, [])]
def bX12_both_137 : List rm_J := [
  (.nop, .iconst 0, 1, 0, 0, 0, .int 0, rm_M0, [])]
def bX12_both_138 : List rm_J := [
  (.invokestatic 322, .invokestatic 322, 3, 0, 1, 0, .null, mX12_truth, [(0, 1564), (0, 1565)]),
  (.lreturn, .lreturn, 1, 0, 0, 0, .null, rm_M0, [])]
def bX12_both_142 : List rm_J := [
  (.lload 1, .lload_n 1, 1, 0, 0, 0, .null, rm_M0, []),
  (.lload 3, .lload_n 3, 1, 0, 0, 0, .null, rm_M0, []),
  (.lcmp, .lcmp, 1, 0, 0, 0, .null, rm_M0, []),
  (.ifCond .ne 7, .ifCond .ne 7, 3, 152, 0, 0, .null, rm_M0, []),
  (.nop, .iconst 1, 1, 0, 0, 0, .int 1, rm_M0, []),
  (.goto 4, .goto 4, 3, 153, 0, 0, .null, rm_M0, [])]
def bX12_both_152 : List rm_J := [
  (.nop, .iconst 0, 1, 0, 0, 0, .int 0, rm_M0, [])]
def bX12_both_153 : List rm_J := [
  (.invokestatic 322, .invokestatic 322, 3, 0, 1, 0, .null, mX12_truth, [(0, 1564), (0, 1565)]),
  (.lreturn, .lreturn, 1, 0, 0, 0, .null, rm_M0, [])]
def bX12_both_157 : List rm_J := [
  (.lload 1, .lload_n 1, 1, 0, 0, 0, .null, rm_M0, []),
  (.lload 3, .lload_n 3, 1, 0, 0, 0, .null, rm_M0, []),
  (.lcmp, .lcmp, 1, 0, 0, 0, .null, rm_M0, []),
  (.ifCond .lt 7, .ifCond .lt 7, 3, 167, 0, 0, .null, rm_M0, []),
  (.nop, .iconst 1, 1, 0, 0, 0, .int 1, rm_M0, []),
  (.goto 4, .goto 4, 3, 168, 0, 0, .null, rm_M0, [])]
def bX12_both_167 : List rm_J := [
  (.nop, .iconst 0, 1, 0, 0, 0, .int 0, rm_M0, [])]
def bX12_both_168 : List rm_J := [
  (.invokestatic 322, .invokestatic 322, 3, 0, 1, 0, .null, mX12_truth, [(0, 1564), (0, 1565)]),
  (.lreturn, .lreturn, 1, 0, 0, 0, .null, rm_M0, [])]
def bX12_both_172 : List rm_J := [
  (.lload 1, .lload_n 1, 1, 0, 0, 0, .null, rm_M0, []),
  (.lload 3, .lload_n 3, 1, 0, 0, 0, .null, rm_M0, []),
  (.lcmp, .lcmp, 1, 0, 0, 0, .null, rm_M0, []),
  (.ifCond .le 7, .ifCond .le 7, 3, 182, 0, 0, .null, rm_M0, []),
  (.nop, .iconst 1, 1, 0, 0, 0, .int 1, rm_M0, []),
  (.goto 4, .goto 4, 3, 183, 0, 0, .null, rm_M0, [])]
def bX12_both_182 : List rm_J := [
  (.nop, .iconst 0, 1, 0, 0, 0, .int 0, rm_M0, [])]
def bX12_both_183 : List rm_J := [
  (.invokestatic 322, .invokestatic 322, 3, 0, 1, 0, .null, mX12_truth, [(0, 1564), (0, 1565)]),
  (.lreturn, .lreturn, 1, 0, 0, 0, .null, rm_M0, [])]
def bX12_both_187 : List rm_J := [
  (.lload 1, .lload_n 1, 1, 0, 0, 0, .null, rm_M0, []),
  (.lload 3, .lload_n 3, 1, 0, 0, 0, .null, rm_M0, []),
  (.land, .land, 1, 0, 0, 0, .null, rm_M0, []),
  (.lreturn, .lreturn, 1, 0, 0, 0, .null, rm_M0, [])]
def bX12_both_191 : List rm_J := [
  (.lload 1, .lload_n 1, 1, 0, 0, 0, .null, rm_M0, []),
  (.lload 3, .lload_n 3, 1, 0, 0, 0, .null, rm_M0, []),
  (.lor, .lor, 1, 0, 0, 0, .null, rm_M0, []),
  (.lreturn, .lreturn, 1, 0, 0, 0, .null, rm_M0, [])]
def tX12_both : rm_P := [(0, bX12_both_0), (72, bX12_both_72), (76, bX12_both_76), (80, bX12_both_80), (84, bX12_both_84), (94, bX12_both_94), (97, bX12_both_97), (98, bX12_both_98), (108, bX12_both_108), (111, bX12_both_111), (112, bX12_both_112), (122, bX12_both_122), (123, bX12_both_123), (127, bX12_both_127), (137, bX12_both_137), (138, bX12_both_138), (142, bX12_both_142), (152, bX12_both_152), (153, bX12_both_153), (157, bX12_both_157), (167, bX12_both_167), (168, bX12_both_168), (172, bX12_both_172), (182, bX12_both_182), (183, bX12_both_183), (187, bX12_both_187), (191, bX12_both_191)]
theorem ok_X12_both_t : rm_okP mX12_both tX12_both = true := by decide +kernel
theorem ok_X12_both : rm_okM mX12_both tX12_both := ⟨ok_X12_both_t, List.forall_mem_cons.mpr ⟨cw_X12_truth, List.forall_mem_cons.mpr ⟨cw_X12_truth, List.forall_mem_cons.mpr ⟨cw_X12_truth, List.forall_mem_cons.mpr ⟨cw_X12_truth, List.forall_mem_cons.mpr ⟨cw_X12_truth, fun _ h => absurd h List.not_mem_nil⟩⟩⟩⟩⟩⟩
theorem atX12_both_0 : rm_at tX12_both 0 = some bX12_both_0 := rfl
theorem atX12_both_72 : rm_at tX12_both 72 = some bX12_both_72 := rfl
theorem atX12_both_76 : rm_at tX12_both 76 = some bX12_both_76 := rfl
theorem atX12_both_80 : rm_at tX12_both 80 = some bX12_both_80 := rfl
theorem atX12_both_84 : rm_at tX12_both 84 = some bX12_both_84 := rfl
theorem atX12_both_94 : rm_at tX12_both 94 = some bX12_both_94 := rfl
theorem atX12_both_97 : rm_at tX12_both 97 = some bX12_both_97 := rfl
theorem atX12_both_98 : rm_at tX12_both 98 = some bX12_both_98 := rfl
theorem atX12_both_108 : rm_at tX12_both 108 = some bX12_both_108 := rfl
theorem atX12_both_111 : rm_at tX12_both 111 = some bX12_both_111 := rfl
theorem atX12_both_112 : rm_at tX12_both 112 = some bX12_both_112 := rfl
theorem atX12_both_122 : rm_at tX12_both 122 = some bX12_both_122 := rfl
theorem atX12_both_123 : rm_at tX12_both 123 = some bX12_both_123 := rfl
theorem atX12_both_127 : rm_at tX12_both 127 = some bX12_both_127 := rfl
theorem atX12_both_137 : rm_at tX12_both 137 = some bX12_both_137 := rfl
theorem atX12_both_138 : rm_at tX12_both 138 = some bX12_both_138 := rfl
theorem atX12_both_142 : rm_at tX12_both 142 = some bX12_both_142 := rfl
theorem atX12_both_152 : rm_at tX12_both 152 = some bX12_both_152 := rfl
theorem atX12_both_153 : rm_at tX12_both 153 = some bX12_both_153 := rfl
theorem atX12_both_157 : rm_at tX12_both 157 = some bX12_both_157 := rfl
theorem atX12_both_167 : rm_at tX12_both 167 = some bX12_both_167 := rfl
theorem atX12_both_168 : rm_at tX12_both 168 = some bX12_both_168 := rfl
theorem atX12_both_172 : rm_at tX12_both 172 = some bX12_both_172 := rfl
theorem atX12_both_182 : rm_at tX12_both 182 = some bX12_both_182 := rfl
theorem atX12_both_183 : rm_at tX12_both 183 = some bX12_both_183 := rfl
theorem atX12_both_187 : rm_at tX12_both 187 = some bX12_both_187 := rfl
theorem atX12_both_191 : rm_at tX12_both 191 = some bX12_both_191 := rfl
def bX12_answer_0 : List rm_J := [
  (.nop, .iconst 0, 1, 0, 0, 0, .int 0, rm_M0, []),
  (.istore 4, .istore 4, 2, 0, 0, 0, .null, rm_M0, []),
  (.iload 2, .iload_n 2, 1, 0, 0, 0, .null, rm_M0, []),
  (.istore 5, .istore 5, 2, 0, 0, 0, .null, rm_M0, [])]
def bX12_answer_6 : List rm_J := [
  (.iload 5, .iload 5, 2, 0, 0, 0, .null, rm_M0, []),
  (.iload 3, .iload_n 3, 1, 0, 0, 0, .null, rm_M0, []),
  (.if_icmp .ge 144, .if_icmp .ge 144, 3, 153, 0, 0, .null, rm_M0, []),
  (.aload 0, .aload_n 0, 1, 0, 0, 0, .null, rm_M0, []),
  (.getfield 69, .getfield 69, 3, 12, 29, 1168, .null, rm_M0, []),
  (.nop, .sipush 300, 3, 0, 0, 0, .int 300, rm_M0, []),
  (.iload 1, .iload_n 1, 1, 0, 0, 0, .null, rm_M0, []),
  (.imul, .imul, 1, 0, 0, 0, .null, rm_M0, []),
  (.iload 5, .iload 5, 2, 0, 0, 0, .null, rm_M0, []),
  (.iadd, .iadd, 1, 0, 0, 0, .null, rm_M0, []),
  (.iaload, .iaload, 1, 0, 0, 0, .null, rm_M0, []),
  (.istore 6, .istore 6, 2, 0, 0, 0, .null, rm_M0, []),
  (.aload 0, .aload_n 0, 1, 0, 0, 0, .null, rm_M0, []),
  (.getfield 72, .getfield 72, 3, 12, 30, 1169, .null, rm_M0, []),
  (.nop, .sipush 300, 3, 0, 0, 0, .int 300, rm_M0, []),
  (.iload 1, .iload_n 1, 1, 0, 0, 0, .null, rm_M0, []),
  (.imul, .imul, 1, 0, 0, 0, .null, rm_M0, []),
  (.iload 5, .iload 5, 2, 0, 0, 0, .null, rm_M0, []),
  (.iadd, .iadd, 1, 0, 0, 0, .null, rm_M0, []),
  (.iaload, .iaload, 1, 0, 0, 0, .null, rm_M0, []),
  (.istore 7, .istore 7, 2, 0, 0, 0, .null, rm_M0, []),
  (.iload 6, .iload 6, 2, 0, 0, 0, .null, rm_M0, []),
  (.ifCond .eq 9, .ifCond .eq 9, 3, 53, 0, 0, .null, rm_M0, []),
  (.iload 6, .iload 6, 2, 0, 0, 0, .null, rm_M0, []),
  (.nop, .iconst 1, 1, 0, 0, 0, .int 1, rm_M0, []),
  (.if_icmp .ne 34, .if_icmp .ne 34, 3, 84, 0, 0, .null, rm_M0, [])]
def bX12_answer_53 : List rm_J := [
  (.aload 0, .aload_n 0, 1, 0, 0, 0, .null, rm_M0, []),
  (.getfield 94, .getfield 94, 3, 12, 37, 1176, .null, rm_M0, []),
  (.iload 4, .iload 4, 2, 0, 0, 0, .null, rm_M0, []),
  (.iload 6, .iload 6, 2, 0, 0, 0, .null, rm_M0, []),
  (.ifCond .ne 9, .ifCond .ne 9, 3, 70, 0, 0, .null, rm_M0, []),
  (.iload 7, .iload 7, 2, 0, 0, 0, .null, rm_M0, []),
  (.i2l, .i2l, 1, 0, 0, 0, .null, rm_M0, []),
  (.goto 10, .goto 10, 3, 77, 0, 0, .null, rm_M0, [])]
def bX12_answer_70 : List rm_J := [
  (.aload 0, .aload_n 0, 1, 0, 0, 0, .null, rm_M0, []),
  (.getfield 90, .getfield 90, 3, 12, 36, 1175, .null, rm_M0, []),
  (.iload 7, .iload 7, 2, 0, 0, 0, .null, rm_M0, []),
  (.laload, .laload, 1, 0, 0, 0, .null, rm_M0, [])]
def bX12_answer_77 : List rm_J := [
  (.lastore, .lastore, 1, 0, 0, 0, .null, rm_M0, []),
  (.iinc 4 1, .iinc 4 1, 3, 0, 0, 0, .int 1, rm_M0, []),
  (.goto 66, .goto 66, 3, 147, 0, 0, .null, rm_M0, [])]
def bX12_answer_84 : List rm_J := [
  (.iload 6, .iload 6, 2, 0, 0, 0, .null, rm_M0, []),
  (.nop, .bipush 9, 2, 0, 0, 0, .int 9, rm_M0, []),
  (.if_icmp .ne 26, .if_icmp .ne 26, 3, 114, 0, 0, .null, rm_M0, []),
  (.aload 0, .aload_n 0, 1, 0, 0, 0, .null, rm_M0, []),
  (.getfield 94, .getfield 94, 3, 12, 37, 1176, .null, rm_M0, []),
  (.iload 4, .iload 4, 2, 0, 0, 0, .null, rm_M0, []),
  (.nop, .iconst 1, 1, 0, 0, 0, .int 1, rm_M0, []),
  (.isub, .isub, 1, 0, 0, 0, .null, rm_M0, []),
  (.nop, .lconst 1, 1, 0, 0, 0, .long 1, rm_M0, []),
  (.aload 0, .aload_n 0, 1, 0, 0, 0, .null, rm_M0, []),
  (.getfield 94, .getfield 94, 3, 12, 37, 1176, .null, rm_M0, []),
  (.iload 4, .iload 4, 2, 0, 0, 0, .null, rm_M0, []),
  (.nop, .iconst 1, 1, 0, 0, 0, .int 1, rm_M0, []),
  (.isub, .isub, 1, 0, 0, 0, .null, rm_M0, []),
  (.laload, .laload, 1, 0, 0, 0, .null, rm_M0, []),
  (.lsub, .lsub, 1, 0, 0, 0, .null, rm_M0, []),
  (.lastore, .lastore, 1, 0, 0, 0, .null, rm_M0, []),
  (.goto 36, .goto 36, 3, 147, 0, 0, .null, rm_M0, [])]
def bX12_answer_114 : List rm_J := [
  (.iinc 4 (-1), .iinc 4 (-1), 3, 0, 0, 0, .int (-1), rm_M0, []),
  (.aload 0, .aload_n 0, 1, 0, 0, 0, .null, rm_M0, []),
  (.getfield 94, .getfield 94, 3, 12, 37, 1176, .null, rm_M0, []),
  (.iload 4, .iload 4, 2, 0, 0, 0, .null, rm_M0, []),
  (.nop, .iconst 1, 1, 0, 0, 0, .int 1, rm_M0, []),
  (.isub, .isub, 1, 0, 0, 0, .null, rm_M0, []),
  (.iload 6, .iload 6, 2, 0, 0, 0, .null, rm_M0, []),
  (.aload 0, .aload_n 0, 1, 0, 0, 0, .null, rm_M0, []),
  (.getfield 94, .getfield 94, 3, 12, 37, 1176, .null, rm_M0, []),
  (.iload 4, .iload 4, 2, 0, 0, 0, .null, rm_M0, []),
  (.nop, .iconst 1, 1, 0, 0, 0, .int 1, rm_M0, []),
  (.isub, .isub, 1, 0, 0, 0, .null, rm_M0, []),
  (.laload, .laload, 1, 0, 0, 0, .null, rm_M0, []),
  (.aload 0, .aload_n 0, 1, 0, 0, 0, .null, rm_M0, []),
  (.getfield 94, .getfield 94, 3, 12, 37, 1176, .null, rm_M0, []),
  (.iload 4, .iload 4, 2, 0, 0, 0, .null, rm_M0, []),
  (.laload, .laload, 1, 0, 0, 0, .null, rm_M0, []),
  (.invokestatic 326, .invokestatic 326, 3, 0, 3, 0, .null, mX12_both, [(0, 1561), (0, 1562)]),
  (.lastore, .lastore, 1, 0, 0, 0, .null, rm_M0, [])]
def bX12_answer_147 : List rm_J := [
  (.iinc 5 1, .iinc 5 1, 3, 0, 0, 0, .int 1, rm_M0, []),
  (.goto (-144), .goto (-144), 3, 6, 0, 0, .null, rm_M0, [])]
def bX12_answer_153 : List rm_J := [
  (.aload 0, .aload_n 0, 1, 0, 0, 0, .null, rm_M0, []),
  (.getfield 94, .getfield 94, 3, 12, 37, 1176, .null, rm_M0, []),
  (.nop, .iconst 0, 1, 0, 0, 0, .int 0, rm_M0, []),
  (.laload, .laload, 1, 0, 0, 0, .null, rm_M0, []),
  (.lreturn, .lreturn, 1, 0, 0, 0, .null, rm_M0, [])]
def tX12_answer : rm_P := [(0, bX12_answer_0), (6, bX12_answer_6), (53, bX12_answer_53), (70, bX12_answer_70), (77, bX12_answer_77), (84, bX12_answer_84), (114, bX12_answer_114), (147, bX12_answer_147), (153, bX12_answer_153)]
theorem ok_X12_answer_t : rm_okP mX12_answer tX12_answer = true := by decide +kernel
theorem ok_X12_answer : rm_okM mX12_answer tX12_answer := ⟨ok_X12_answer_t, List.forall_mem_cons.mpr ⟨cw_X12_both, fun _ h => absurd h List.not_mem_nil⟩⟩
theorem atX12_answer_0 : rm_at tX12_answer 0 = some bX12_answer_0 := rfl
theorem atX12_answer_6 : rm_at tX12_answer 6 = some bX12_answer_6 := rfl
theorem atX12_answer_53 : rm_at tX12_answer 53 = some bX12_answer_53 := rfl
theorem atX12_answer_70 : rm_at tX12_answer 70 = some bX12_answer_70 := rfl
theorem atX12_answer_77 : rm_at tX12_answer 77 = some bX12_answer_77 := rfl
theorem atX12_answer_84 : rm_at tX12_answer 84 = some bX12_answer_84 := rfl
theorem atX12_answer_114 : rm_at tX12_answer 114 = some bX12_answer_114 := rfl
theorem atX12_answer_147 : rm_at tX12_answer 147 = some bX12_answer_147 := rfl
theorem atX12_answer_153 : rm_at tX12_answer 153 = some bX12_answer_153 := rfl
def bX12_isOpen_0 : List rm_J := [
  (.aload 0, .aload_n 0, 1, 0, 0, 0, .null, rm_M0, []),
  (.getfield 16, .getfield 16, 3, 12, 3, 1142, .null, rm_M0, []),
  (.iload 1, .iload_n 1, 1, 0, 0, 0, .null, rm_M0, []),
  (.iaload, .iaload, 1, 0, 0, 0, .null, rm_M0, []),
  (.ifCond .ne 22, .ifCond .ne 22, 3, 28, 0, 0, .null, rm_M0, []),
  (.aload 0, .aload_n 0, 1, 0, 0, 0, .null, rm_M0, []),
  (.getfield 22, .getfield 22, 3, 12, 5, 1144, .null, rm_M0, []),
  (.iload 1, .iload_n 1, 1, 0, 0, 0, .null, rm_M0, []),
  (.iaload, .iaload, 1, 0, 0, 0, .null, rm_M0, []),
  (.aload 0, .aload_n 0, 1, 0, 0, 0, .null, rm_M0, []),
  (.getfield 9, .getfield 9, 3, 12, 1, 1140, .null, rm_M0, []),
  (.nop, .iconst 4, 1, 0, 0, 0, .int 4, rm_M0, []),
  (.iaload, .iaload, 1, 0, 0, 0, .null, rm_M0, []),
  (.if_icmp .gt 7, .if_icmp .gt 7, 3, 28, 0, 0, .null, rm_M0, []),
  (.nop, .iconst 1, 1, 0, 0, 0, .int 1, rm_M0, []),
  (.goto 4, .goto 4, 3, 29, 0, 0, .null, rm_M0, [])]
def bX12_isOpen_28 : List rm_J := [
  (.nop, .iconst 0, 1, 0, 0, 0, .int 0, rm_M0, [])]
def bX12_isOpen_29 : List rm_J := [
  (.ireturn, .ireturn, 1, 0, 0, 0, .null, rm_M0, [])]
def tX12_isOpen : rm_P := [(0, bX12_isOpen_0), (28, bX12_isOpen_28), (29, bX12_isOpen_29)]
theorem ok_X12_isOpen_t : rm_okP mX12_isOpen tX12_isOpen = true := by decide +kernel
theorem ok_X12_isOpen : rm_okM mX12_isOpen tX12_isOpen := ⟨ok_X12_isOpen_t, fun _ h => absurd h List.not_mem_nil⟩
theorem atX12_isOpen_0 : rm_at tX12_isOpen 0 = some bX12_isOpen_0 := rfl
theorem atX12_isOpen_28 : rm_at tX12_isOpen 28 = some bX12_isOpen_28 := rfl
theorem atX12_isOpen_29 : rm_at tX12_isOpen 29 = some bX12_isOpen_29 := rfl
def bX12_openOnes_0 : List rm_J := [
  (.nop, .iconst 0, 1, 0, 0, 0, .int 0, rm_M0, []),
  (.istore 1, .istore_n 1, 1, 0, 0, 0, .null, rm_M0, []),
  (.nop, .iconst 0, 1, 0, 0, 0, .int 0, rm_M0, []),
  (.istore 2, .istore_n 2, 1, 0, 0, 0, .null, rm_M0, [])]
def bX12_openOnes_4 : List rm_J := [
  (.iload 2, .iload_n 2, 1, 0, 0, 0, .null, rm_M0, []),
  (.aload 0, .aload_n 0, 1, 0, 0, 0, .null, rm_M0, []),
  (.getfield 9, .getfield 9, 3, 12, 1, 1140, .null, rm_M0, []),
  (.nop, .iconst 3, 1, 0, 0, 0, .int 3, rm_M0, []),
  (.iaload, .iaload, 1, 0, 0, 0, .null, rm_M0, []),
  (.if_icmp .ge 27, .if_icmp .ge 27, 3, 38, 0, 0, .null, rm_M0, []),
  (.iload 1, .iload_n 1, 1, 0, 0, 0, .null, rm_M0, []),
  (.aload 0, .aload_n 0, 1, 0, 0, 0, .null, rm_M0, []),
  (.iload 2, .iload_n 2, 1, 0, 0, 0, .null, rm_M0, []),
  (.invokevirtual 330, .invokevirtual 330, 3, 0, 1, 0, .null, mX12_isOpen, [(0, 1486), (0, 1488), (0, 64)]),
  (.ifCond .eq 9, .ifCond .eq 9, 3, 29, 0, 0, .null, rm_M0, []),
  (.nop, .iconst 1, 1, 0, 0, 0, .int 1, rm_M0, []),
  (.iload 2, .iload_n 2, 1, 0, 0, 0, .null, rm_M0, []),
  (.ishl, .ishl, 1, 0, 0, 0, .null, rm_M0, []),
  (.goto 4, .goto 4, 3, 30, 0, 0, .null, rm_M0, [])]
def bX12_openOnes_29 : List rm_J := [
  (.nop, .iconst 0, 1, 0, 0, 0, .int 0, rm_M0, [])]
def bX12_openOnes_30 : List rm_J := [
  (.ior, .ior, 1, 0, 0, 0, .null, rm_M0, []),
  (.istore 1, .istore_n 1, 1, 0, 0, 0, .null, rm_M0, []),
  (.iinc 2 1, .iinc 2 1, 3, 0, 0, 0, .int 1, rm_M0, []),
  (.goto (-31), .goto (-31), 3, 4, 0, 0, .null, rm_M0, [])]
def bX12_openOnes_38 : List rm_J := [
  (.iload 1, .iload_n 1, 1, 0, 0, 0, .null, rm_M0, []),
  (.ireturn, .ireturn, 1, 0, 0, 0, .null, rm_M0, [])]
def tX12_openOnes : rm_P := [(0, bX12_openOnes_0), (4, bX12_openOnes_4), (29, bX12_openOnes_29), (30, bX12_openOnes_30), (38, bX12_openOnes_38)]
theorem ok_X12_openOnes_t : rm_okP mX12_openOnes tX12_openOnes = true := by decide +kernel
theorem ok_X12_openOnes : rm_okM mX12_openOnes tX12_openOnes := ⟨ok_X12_openOnes_t, List.forall_mem_cons.mpr ⟨cw_X12_isOpen, fun _ h => absurd h List.not_mem_nil⟩⟩
theorem atX12_openOnes_0 : rm_at tX12_openOnes 0 = some bX12_openOnes_0 := rfl
theorem atX12_openOnes_4 : rm_at tX12_openOnes 4 = some bX12_openOnes_4 := rfl
theorem atX12_openOnes_29 : rm_at tX12_openOnes 29 = some bX12_openOnes_29 := rfl
theorem atX12_openOnes_30 : rm_at tX12_openOnes 30 = some bX12_openOnes_30 := rfl
theorem atX12_openOnes_38 : rm_at tX12_openOnes 38 = some bX12_openOnes_38 := rfl
def bX12_inBundle_0 : List rm_J := [
  (.aload 0, .aload_n 0, 1, 0, 0, 0, .null, rm_M0, []),
  (.getfield 13, .getfield 13, 3, 12, 2, 1141, .null, rm_M0, []),
  (.iload 1, .iload_n 1, 1, 0, 0, 0, .null, rm_M0, []),
  (.iaload, .iaload, 1, 0, 0, 0, .null, rm_M0, []),
  (.aload 0, .aload_n 0, 1, 0, 0, 0, .null, rm_M0, []),
  (.getfield 9, .getfield 9, 3, 12, 1, 1140, .null, rm_M0, []),
  (.nop, .iconst 2, 1, 0, 0, 0, .int 2, rm_M0, []),
  (.iaload, .iaload, 1, 0, 0, 0, .null, rm_M0, []),
  (.imul, .imul, 1, 0, 0, 0, .null, rm_M0, []),
  (.nop, .bipush 10, 2, 0, 0, 0, .int 10, rm_M0, []),
  (.idiv, .idiv, 1, 0, 0, 0, .null, rm_M0, []),
  (.ireturn, .ireturn, 1, 0, 0, 0, .null, rm_M0, [])]
def tX12_inBundle : rm_P := [(0, bX12_inBundle_0)]
theorem ok_X12_inBundle_t : rm_okP mX12_inBundle tX12_inBundle = true := by decide +kernel
theorem ok_X12_inBundle : rm_okM mX12_inBundle tX12_inBundle := ⟨ok_X12_inBundle_t, fun _ h => absurd h List.not_mem_nil⟩
theorem atX12_inBundle_0 : rm_at tX12_inBundle 0 = some bX12_inBundle_0 := rfl
def bX12_brings_0 : List rm_J := [
  (.aload 0, .aload_n 0, 1, 0, 0, 0, .null, rm_M0, []),
  (.getfield 13, .getfield 13, 3, 12, 2, 1141, .null, rm_M0, []),
  (.iload 1, .iload_n 1, 1, 0, 0, 0, .null, rm_M0, []),
  (.iaload, .iaload, 1, 0, 0, 0, .null, rm_M0, []),
  (.istore 2, .istore_n 2, 1, 0, 0, 0, .null, rm_M0, []),
  (.nop, .iconst 0, 1, 0, 0, 0, .int 0, rm_M0, []),
  (.istore 3, .istore_n 3, 1, 0, 0, 0, .null, rm_M0, [])]
def bX12_brings_9 : List rm_J := [
  (.iload 3, .iload_n 3, 1, 0, 0, 0, .null, rm_M0, []),
  (.aload 0, .aload_n 0, 1, 0, 0, 0, .null, rm_M0, []),
  (.getfield 9, .getfield 9, 3, 12, 1, 1140, .null, rm_M0, []),
  (.nop, .iconst 3, 1, 0, 0, 0, .int 3, rm_M0, []),
  (.iaload, .iaload, 1, 0, 0, 0, .null, rm_M0, []),
  (.if_icmp .ge 42, .if_icmp .ge 42, 3, 58, 0, 0, .null, rm_M0, []),
  (.iload 2, .iload_n 2, 1, 0, 0, 0, .null, rm_M0, []),
  (.aload 0, .aload_n 0, 1, 0, 0, 0, .null, rm_M0, []),
  (.getfield 19, .getfield 19, 3, 12, 4, 1143, .null, rm_M0, []),
  (.iload 1, .iload_n 1, 1, 0, 0, 0, .null, rm_M0, []),
  (.iaload, .iaload, 1, 0, 0, 0, .null, rm_M0, []),
  (.iload 3, .iload_n 3, 1, 0, 0, 0, .null, rm_M0, []),
  (.invokestatic 334, .invokestatic 334, 3, 0, 2, 0, .null, mX12_has, [(0, 1494), (0, 1495)]),
  (.ifCond .eq 19, .ifCond .eq 19, 3, 49, 0, 0, .null, rm_M0, []),
  (.aload 0, .aload_n 0, 1, 0, 0, 0, .null, rm_M0, []),
  (.iload 3, .iload_n 3, 1, 0, 0, 0, .null, rm_M0, []),
  (.invokevirtual 330, .invokevirtual 330, 3, 0, 1, 0, .null, mX12_isOpen, [(0, 1486), (0, 1488), (0, 64)]),
  (.ifCond .eq 11, .ifCond .eq 11, 3, 49, 0, 0, .null, rm_M0, []),
  (.aload 0, .aload_n 0, 1, 0, 0, 0, .null, rm_M0, []),
  (.iload 3, .iload_n 3, 1, 0, 0, 0, .null, rm_M0, []),
  (.invokevirtual 337, .invokevirtual 337, 3, 0, 1, 0, .null, mX12_inBundle, [(0, 1497), (0, 1499), (0, 66)]),
  (.goto 4, .goto 4, 3, 50, 0, 0, .null, rm_M0, [])]
def bX12_brings_49 : List rm_J := [
  (.nop, .iconst 0, 1, 0, 0, 0, .int 0, rm_M0, [])]
def bX12_brings_50 : List rm_J := [
  (.iadd, .iadd, 1, 0, 0, 0, .null, rm_M0, []),
  (.istore 2, .istore_n 2, 1, 0, 0, 0, .null, rm_M0, []),
  (.iinc 3 1, .iinc 3 1, 3, 0, 0, 0, .int 1, rm_M0, []),
  (.goto (-46), .goto (-46), 3, 9, 0, 0, .null, rm_M0, [])]
def bX12_brings_58 : List rm_J := [
  (.iload 2, .iload_n 2, 1, 0, 0, 0, .null, rm_M0, []),
  (.ireturn, .ireturn, 1, 0, 0, 0, .null, rm_M0, [])]
def tX12_brings : rm_P := [(0, bX12_brings_0), (9, bX12_brings_9), (49, bX12_brings_49), (50, bX12_brings_50), (58, bX12_brings_58)]
theorem ok_X12_brings_t : rm_okP mX12_brings tX12_brings = true := by decide +kernel
theorem ok_X12_brings : rm_okM mX12_brings tX12_brings := ⟨ok_X12_brings_t, List.forall_mem_cons.mpr ⟨cw_X12_has, List.forall_mem_cons.mpr ⟨cw_X12_isOpen, List.forall_mem_cons.mpr ⟨cw_X12_inBundle, fun _ h => absurd h List.not_mem_nil⟩⟩⟩⟩
theorem atX12_brings_0 : rm_at tX12_brings 0 = some bX12_brings_0 := rfl
theorem atX12_brings_9 : rm_at tX12_brings 9 = some bX12_brings_9 := rfl
theorem atX12_brings_49 : rm_at tX12_brings 49 = some bX12_brings_49 := rfl
theorem atX12_brings_50 : rm_at tX12_brings 50 = some bX12_brings_50 := rfl
theorem atX12_brings_58 : rm_at tX12_brings 58 = some bX12_brings_58 := rfl
def bX12_question_0 : List rm_J := [
  (.aload 0, .aload_n 0, 1, 0, 0, 0, .null, rm_M0, []),
  (.iload 1, .iload_n 1, 1, 0, 0, 0, .null, rm_M0, []),
  (.invokevirtual 340, .invokevirtual 340, 3, 0, 1, 0, .null, mX12_isQuestion, [(0, 1482), (0, 1484), (0, 63)]),
  (.ifCond .ne 5, .ifCond .ne 5, 3, 10, 0, 0, .null, rm_M0, []),
  (.nop, .iconst (-1), 1, 0, 0, 0, .int (-1), rm_M0, []),
  (.ireturn, .ireturn, 1, 0, 0, 0, .null, rm_M0, [])]
def bX12_question_10 : List rm_J := [
  (.iload 2, .iload_n 2, 1, 0, 0, 0, .null, rm_M0, []),
  (.tableswitch 108 0 6 #[41, 48, 55, 62, 69, 83, 90], .tableswitch 108 0 6 #[41, 48, 55, 62, 69, 83, 90], 41, 119, 0, 0, .null, rm_M0, [(0, 52), (1, 59), (2, 66), (3, 73), (4, 80), (5, 94), (6, 101)])]
def bX12_question_52 : List rm_J := [
  (.aload 0, .aload_n 0, 1, 0, 0, 0, .null, rm_M0, []),
  (.getfield 13, .getfield 13, 3, 12, 2, 1141, .null, rm_M0, []),
  (.iload 1, .iload_n 1, 1, 0, 0, 0, .null, rm_M0, []),
  (.iaload, .iaload, 1, 0, 0, 0, .null, rm_M0, []),
  (.ireturn, .ireturn, 1, 0, 0, 0, .null, rm_M0, [])]
def bX12_question_59 : List rm_J := [
  (.aload 0, .aload_n 0, 1, 0, 0, 0, .null, rm_M0, []),
  (.getfield 22, .getfield 22, 3, 12, 5, 1144, .null, rm_M0, []),
  (.iload 1, .iload_n 1, 1, 0, 0, 0, .null, rm_M0, []),
  (.iaload, .iaload, 1, 0, 0, 0, .null, rm_M0, []),
  (.ireturn, .ireturn, 1, 0, 0, 0, .null, rm_M0, [])]
def bX12_question_66 : List rm_J := [
  (.aload 0, .aload_n 0, 1, 0, 0, 0, .null, rm_M0, []),
  (.getfield 25, .getfield 25, 3, 12, 6, 1145, .null, rm_M0, []),
  (.iload 1, .iload_n 1, 1, 0, 0, 0, .null, rm_M0, []),
  (.iaload, .iaload, 1, 0, 0, 0, .null, rm_M0, []),
  (.ireturn, .ireturn, 1, 0, 0, 0, .null, rm_M0, [])]
def bX12_question_73 : List rm_J := [
  (.aload 0, .aload_n 0, 1, 0, 0, 0, .null, rm_M0, []),
  (.getfield 16, .getfield 16, 3, 12, 3, 1142, .null, rm_M0, []),
  (.iload 1, .iload_n 1, 1, 0, 0, 0, .null, rm_M0, []),
  (.iaload, .iaload, 1, 0, 0, 0, .null, rm_M0, []),
  (.ireturn, .ireturn, 1, 0, 0, 0, .null, rm_M0, [])]
def bX12_question_80 : List rm_J := [
  (.aload 0, .aload_n 0, 1, 0, 0, 0, .null, rm_M0, []),
  (.iload 1, .iload_n 1, 1, 0, 0, 0, .null, rm_M0, []),
  (.invokevirtual 330, .invokevirtual 330, 3, 0, 1, 0, .null, mX12_isOpen, [(0, 1486), (0, 1488), (0, 64)]),
  (.ifCond .eq 7, .ifCond .eq 7, 3, 92, 0, 0, .null, rm_M0, []),
  (.nop, .iconst 1, 1, 0, 0, 0, .int 1, rm_M0, []),
  (.goto 4, .goto 4, 3, 93, 0, 0, .null, rm_M0, [])]
def bX12_question_92 : List rm_J := [
  (.nop, .iconst 0, 1, 0, 0, 0, .int 0, rm_M0, [])]
def bX12_question_93 : List rm_J := [
  (.ireturn, .ireturn, 1, 0, 0, 0, .null, rm_M0, [])]
def bX12_question_94 : List rm_J := [
  (.aload 0, .aload_n 0, 1, 0, 0, 0, .null, rm_M0, []),
  (.getfield 19, .getfield 19, 3, 12, 4, 1143, .null, rm_M0, []),
  (.iload 1, .iload_n 1, 1, 0, 0, 0, .null, rm_M0, []),
  (.iaload, .iaload, 1, 0, 0, 0, .null, rm_M0, []),
  (.ireturn, .ireturn, 1, 0, 0, 0, .null, rm_M0, [])]
def bX12_question_101 : List rm_J := [
  (.aload 0, .aload_n 0, 1, 0, 0, 0, .null, rm_M0, []),
  (.iload 1, .iload_n 1, 1, 0, 0, 0, .null, rm_M0, []),
  (.invokevirtual 330, .invokevirtual 330, 3, 0, 1, 0, .null, mX12_isOpen, [(0, 1486), (0, 1488), (0, 64)]),
  (.ifCond .eq 11, .ifCond .eq 11, 3, 117, 0, 0, .null, rm_M0, []),
  (.aload 0, .aload_n 0, 1, 0, 0, 0, .null, rm_M0, []),
  (.iload 1, .iload_n 1, 1, 0, 0, 0, .null, rm_M0, []),
  (.invokevirtual 343, .invokevirtual 343, 3, 0, 1, 0, .null, mX12_brings, [(0, 1490), (0, 1492), (0, 65)]),
  (.goto 4, .goto 4, 3, 118, 0, 0, .null, rm_M0, [])]
def bX12_question_117 : List rm_J := [
  (.nop, .iconst 0, 1, 0, 0, 0, .int 0, rm_M0, [])]
def bX12_question_118 : List rm_J := [
  (.ireturn, .ireturn, 1, 0, 0, 0, .null, rm_M0, [])]
def bX12_question_119 : List rm_J := [
  (.nop, .iconst (-1), 1, 0, 0, 0, .int (-1), rm_M0, []),
  (.ireturn, .ireturn, 1, 0, 0, 0, .null, rm_M0, [])]
def tX12_question : rm_P := [(0, bX12_question_0), (10, bX12_question_10), (52, bX12_question_52), (59, bX12_question_59), (66, bX12_question_66), (73, bX12_question_73), (80, bX12_question_80), (92, bX12_question_92), (93, bX12_question_93), (94, bX12_question_94), (101, bX12_question_101), (117, bX12_question_117), (118, bX12_question_118), (119, bX12_question_119)]
theorem ok_X12_question_t : rm_okP mX12_question tX12_question = true := by decide +kernel
theorem ok_X12_question : rm_okM mX12_question tX12_question := ⟨ok_X12_question_t, List.forall_mem_cons.mpr ⟨cw_X12_isQuestion, List.forall_mem_cons.mpr ⟨cw_X12_isOpen, List.forall_mem_cons.mpr ⟨cw_X12_isOpen, List.forall_mem_cons.mpr ⟨cw_X12_brings, fun _ h => absurd h List.not_mem_nil⟩⟩⟩⟩⟩
theorem atX12_question_0 : rm_at tX12_question 0 = some bX12_question_0 := rfl
theorem atX12_question_10 : rm_at tX12_question 10 = some bX12_question_10 := rfl
theorem atX12_question_52 : rm_at tX12_question 52 = some bX12_question_52 := rfl
theorem atX12_question_59 : rm_at tX12_question 59 = some bX12_question_59 := rfl
theorem atX12_question_66 : rm_at tX12_question 66 = some bX12_question_66 := rfl
theorem atX12_question_73 : rm_at tX12_question 73 = some bX12_question_73 := rfl
theorem atX12_question_80 : rm_at tX12_question 80 = some bX12_question_80 := rfl
theorem atX12_question_92 : rm_at tX12_question 92 = some bX12_question_92 := rfl
theorem atX12_question_93 : rm_at tX12_question 93 = some bX12_question_93 := rfl
theorem atX12_question_94 : rm_at tX12_question 94 = some bX12_question_94 := rfl
theorem atX12_question_101 : rm_at tX12_question 101 = some bX12_question_101 := rfl
theorem atX12_question_117 : rm_at tX12_question 117 = some bX12_question_117 := rfl
theorem atX12_question_118 : rm_at tX12_question 118 = some bX12_question_118 := rfl
theorem atX12_question_119 : rm_at tX12_question 119 = some bX12_question_119 := rfl
def bX12_upTo_0 : List rm_J := [
  (.iload 0, .iload_n 0, 1, 0, 0, 0, .null, rm_M0, []),
  (.iload 1, .iload_n 1, 1, 0, 0, 0, .null, rm_M0, []),
  (.if_icmp .le 7, .if_icmp .le 7, 3, 9, 0, 0, .null, rm_M0, []),
  (.iload 1, .iload_n 1, 1, 0, 0, 0, .null, rm_M0, []),
  (.goto 4, .goto 4, 3, 10, 0, 0, .null, rm_M0, [])]
def bX12_upTo_9 : List rm_J := [
  (.iload 0, .iload_n 0, 1, 0, 0, 0, .null, rm_M0, [])]
def bX12_upTo_10 : List rm_J := [
  (.ireturn, .ireturn, 1, 0, 0, 0, .null, rm_M0, [])]
def tX12_upTo : rm_P := [(0, bX12_upTo_0), (9, bX12_upTo_9), (10, bX12_upTo_10)]
theorem ok_X12_upTo_t : rm_okP mX12_upTo tX12_upTo = true := by decide +kernel
theorem ok_X12_upTo : rm_okM mX12_upTo tX12_upTo := ⟨ok_X12_upTo_t, fun _ h => absurd h List.not_mem_nil⟩
theorem atX12_upTo_0 : rm_at tX12_upTo 0 = some bX12_upTo_0 := rfl
theorem atX12_upTo_9 : rm_at tX12_upTo 9 = some bX12_upTo_9 := rfl
theorem atX12_upTo_10 : rm_at tX12_upTo 10 = some bX12_upTo_10 := rfl
def bX12_answered_0 : List rm_J := [
  (.aload 0, .aload_n 0, 1, 0, 0, 0, .null, rm_M0, []),
  (.iload 1, .iload_n 1, 1, 0, 0, 0, .null, rm_M0, []),
  (.invokevirtual 343, .invokevirtual 343, 3, 0, 1, 0, .null, mX12_brings, [(0, 1490), (0, 1492), (0, 65)]),
  (.istore 2, .istore_n 2, 1, 0, 0, 0, .null, rm_M0, []),
  (.nop, .iconst 0, 1, 0, 0, 0, .int 0, rm_M0, []),
  (.istore 3, .istore_n 3, 1, 0, 0, 0, .null, rm_M0, [])]
def bX12_answered_8 : List rm_J := [
  (.iload 3, .iload_n 3, 1, 0, 0, 0, .null, rm_M0, []),
  (.aload 0, .aload_n 0, 1, 0, 0, 0, .null, rm_M0, []),
  (.getfield 9, .getfield 9, 3, 12, 1, 1140, .null, rm_M0, []),
  (.nop, .iconst 3, 1, 0, 0, 0, .int 3, rm_M0, []),
  (.iaload, .iaload, 1, 0, 0, 0, .null, rm_M0, []),
  (.if_icmp .ge 37, .if_icmp .ge 37, 3, 52, 0, 0, .null, rm_M0, []),
  (.aload 0, .aload_n 0, 1, 0, 0, 0, .null, rm_M0, []),
  (.getfield 19, .getfield 19, 3, 12, 4, 1143, .null, rm_M0, []),
  (.iload 1, .iload_n 1, 1, 0, 0, 0, .null, rm_M0, []),
  (.iaload, .iaload, 1, 0, 0, 0, .null, rm_M0, []),
  (.iload 3, .iload_n 3, 1, 0, 0, 0, .null, rm_M0, []),
  (.invokestatic 334, .invokestatic 334, 3, 0, 2, 0, .null, mX12_has, [(0, 1494), (0, 1495)]),
  (.ifCond .eq 18, .ifCond .eq 18, 3, 46, 0, 0, .null, rm_M0, []),
  (.aload 0, .aload_n 0, 1, 0, 0, 0, .null, rm_M0, []),
  (.iload 3, .iload_n 3, 1, 0, 0, 0, .null, rm_M0, []),
  (.invokevirtual 330, .invokevirtual 330, 3, 0, 1, 0, .null, mX12_isOpen, [(0, 1486), (0, 1488), (0, 64)]),
  (.ifCond .eq 10, .ifCond .eq 10, 3, 46, 0, 0, .null, rm_M0, []),
  (.aload 0, .aload_n 0, 1, 0, 0, 0, .null, rm_M0, []),
  (.getfield 16, .getfield 16, 3, 12, 3, 1142, .null, rm_M0, []),
  (.iload 3, .iload_n 3, 1, 0, 0, 0, .null, rm_M0, []),
  (.nop, .iconst 2, 1, 0, 0, 0, .int 2, rm_M0, []),
  (.iastore, .iastore, 1, 0, 0, 0, .null, rm_M0, [])]
def bX12_answered_46 : List rm_J := [
  (.iinc 3 1, .iinc 3 1, 3, 0, 0, 0, .int 1, rm_M0, []),
  (.goto (-41), .goto (-41), 3, 8, 0, 0, .null, rm_M0, [])]
def bX12_answered_52 : List rm_J := [
  (.aload 0, .aload_n 0, 1, 0, 0, 0, .null, rm_M0, []),
  (.getfield 16, .getfield 16, 3, 12, 3, 1142, .null, rm_M0, []),
  (.iload 1, .iload_n 1, 1, 0, 0, 0, .null, rm_M0, []),
  (.nop, .iconst 1, 1, 0, 0, 0, .int 1, rm_M0, []),
  (.iastore, .iastore, 1, 0, 0, 0, .null, rm_M0, []),
  (.aload 0, .aload_n 0, 1, 0, 0, 0, .null, rm_M0, []),
  (.getfield 9, .getfield 9, 3, 12, 1, 1140, .null, rm_M0, []),
  (.nop, .bipush 6, 2, 0, 0, 0, .int 6, rm_M0, []),
  (.aload 0, .aload_n 0, 1, 0, 0, 0, .null, rm_M0, []),
  (.getfield 9, .getfield 9, 3, 12, 1, 1140, .null, rm_M0, []),
  (.nop, .bipush 6, 2, 0, 0, 0, .int 6, rm_M0, []),
  (.iaload, .iaload, 1, 0, 0, 0, .null, rm_M0, []),
  (.iload 2, .iload_n 2, 1, 0, 0, 0, .null, rm_M0, []),
  (.iadd, .iadd, 1, 0, 0, 0, .null, rm_M0, []),
  (.nop, .ldc 206, 2, 0, 0, 1368, .int 99999, rm_M0, []),
  (.invokestatic 345, .invokestatic 345, 3, 0, 2, 0, .null, mX12_upTo, [(0, 1571), (0, 1572)]),
  (.iastore, .iastore, 1, 0, 0, 0, .null, rm_M0, []),
  (.iload 2, .iload_n 2, 1, 0, 0, 0, .null, rm_M0, []),
  (.ireturn, .ireturn, 1, 0, 0, 0, .null, rm_M0, [])]
def tX12_answered : rm_P := [(0, bX12_answered_0), (8, bX12_answered_8), (46, bX12_answered_46), (52, bX12_answered_52)]
theorem ok_X12_answered_t : rm_okP mX12_answered tX12_answered = true := by decide +kernel
theorem ok_X12_answered : rm_okM mX12_answered tX12_answered := ⟨ok_X12_answered_t, List.forall_mem_cons.mpr ⟨cw_X12_brings, List.forall_mem_cons.mpr ⟨cw_X12_has, List.forall_mem_cons.mpr ⟨cw_X12_isOpen, List.forall_mem_cons.mpr ⟨cw_X12_upTo, fun _ h => absurd h List.not_mem_nil⟩⟩⟩⟩⟩
theorem atX12_answered_0 : rm_at tX12_answered 0 = some bX12_answered_0 := rfl
theorem atX12_answered_8 : rm_at tX12_answered 8 = some bX12_answered_8 := rfl
theorem atX12_answered_46 : rm_at tX12_answered 46 = some bX12_answered_46 := rfl
theorem atX12_answered_52 : rm_at tX12_answered 52 = some bX12_answered_52 := rfl
def bX12_sumOf_0 : List rm_J := [
  (.nop, .iconst 0, 1, 0, 0, 0, .int 0, rm_M0, []),
  (.istore 2, .istore_n 2, 1, 0, 0, 0, .null, rm_M0, []),
  (.nop, .iconst 0, 1, 0, 0, 0, .int 0, rm_M0, []),
  (.istore 3, .istore_n 3, 1, 0, 0, 0, .null, rm_M0, [])]
def bX12_sumOf_4 : List rm_J := [
  (.iload 3, .iload_n 3, 1, 0, 0, 0, .null, rm_M0, []),
  (.aload 0, .aload_n 0, 1, 0, 0, 0, .null, rm_M0, []),
  (.getfield 9, .getfield 9, 3, 12, 1, 1140, .null, rm_M0, []),
  (.nop, .iconst 3, 1, 0, 0, 0, .int 3, rm_M0, []),
  (.iaload, .iaload, 1, 0, 0, 0, .null, rm_M0, []),
  (.if_icmp .ge 38, .if_icmp .ge 38, 3, 49, 0, 0, .null, rm_M0, []),
  (.iload 2, .iload_n 2, 1, 0, 0, 0, .null, rm_M0, []),
  (.aload 0, .aload_n 0, 1, 0, 0, 0, .null, rm_M0, []),
  (.getfield 19, .getfield 19, 3, 12, 4, 1143, .null, rm_M0, []),
  (.iload 1, .iload_n 1, 1, 0, 0, 0, .null, rm_M0, []),
  (.iaload, .iaload, 1, 0, 0, 0, .null, rm_M0, []),
  (.iload 3, .iload_n 3, 1, 0, 0, 0, .null, rm_M0, []),
  (.invokestatic 334, .invokestatic 334, 3, 0, 2, 0, .null, mX12_has, [(0, 1494), (0, 1495)]),
  (.ifCond .eq 15, .ifCond .eq 15, 3, 40, 0, 0, .null, rm_M0, []),
  (.aload 0, .aload_n 0, 1, 0, 0, 0, .null, rm_M0, []),
  (.iload 3, .iload_n 3, 1, 0, 0, 0, .null, rm_M0, []),
  (.invokevirtual 330, .invokevirtual 330, 3, 0, 1, 0, .null, mX12_isOpen, [(0, 1486), (0, 1488), (0, 64)]),
  (.ifCond .eq 7, .ifCond .eq 7, 3, 40, 0, 0, .null, rm_M0, []),
  (.nop, .iconst 1, 1, 0, 0, 0, .int 1, rm_M0, []),
  (.goto 4, .goto 4, 3, 41, 0, 0, .null, rm_M0, [])]
def bX12_sumOf_40 : List rm_J := [
  (.nop, .iconst 0, 1, 0, 0, 0, .int 0, rm_M0, [])]
def bX12_sumOf_41 : List rm_J := [
  (.iadd, .iadd, 1, 0, 0, 0, .null, rm_M0, []),
  (.istore 2, .istore_n 2, 1, 0, 0, 0, .null, rm_M0, []),
  (.iinc 3 1, .iinc 3 1, 3, 0, 0, 0, .int 1, rm_M0, []),
  (.goto (-42), .goto (-42), 3, 4, 0, 0, .null, rm_M0, [])]
def bX12_sumOf_49 : List rm_J := [
  (.aload 0, .aload_n 0, 1, 0, 0, 0, .null, rm_M0, []),
  (.getfield 90, .getfield 90, 3, 12, 36, 1175, .null, rm_M0, []),
  (.nop, .iconst 0, 1, 0, 0, 0, .int 0, rm_M0, []),
  (.iload 1, .iload_n 1, 1, 0, 0, 0, .null, rm_M0, []),
  (.i2l, .i2l, 1, 0, 0, 0, .null, rm_M0, []),
  (.lastore, .lastore, 1, 0, 0, 0, .null, rm_M0, []),
  (.aload 0, .aload_n 0, 1, 0, 0, 0, .null, rm_M0, []),
  (.getfield 90, .getfield 90, 3, 12, 36, 1175, .null, rm_M0, []),
  (.nop, .iconst 1, 1, 0, 0, 0, .int 1, rm_M0, []),
  (.aload 0, .aload_n 0, 1, 0, 0, 0, .null, rm_M0, []),
  (.getfield 13, .getfield 13, 3, 12, 2, 1141, .null, rm_M0, []),
  (.iload 1, .iload_n 1, 1, 0, 0, 0, .null, rm_M0, []),
  (.iaload, .iaload, 1, 0, 0, 0, .null, rm_M0, []),
  (.i2l, .i2l, 1, 0, 0, 0, .null, rm_M0, []),
  (.lastore, .lastore, 1, 0, 0, 0, .null, rm_M0, []),
  (.aload 0, .aload_n 0, 1, 0, 0, 0, .null, rm_M0, []),
  (.getfield 90, .getfield 90, 3, 12, 36, 1175, .null, rm_M0, []),
  (.nop, .iconst 2, 1, 0, 0, 0, .int 2, rm_M0, []),
  (.aload 0, .aload_n 0, 1, 0, 0, 0, .null, rm_M0, []),
  (.getfield 22, .getfield 22, 3, 12, 5, 1144, .null, rm_M0, []),
  (.iload 1, .iload_n 1, 1, 0, 0, 0, .null, rm_M0, []),
  (.iaload, .iaload, 1, 0, 0, 0, .null, rm_M0, []),
  (.i2l, .i2l, 1, 0, 0, 0, .null, rm_M0, []),
  (.lastore, .lastore, 1, 0, 0, 0, .null, rm_M0, []),
  (.aload 0, .aload_n 0, 1, 0, 0, 0, .null, rm_M0, []),
  (.getfield 90, .getfield 90, 3, 12, 36, 1175, .null, rm_M0, []),
  (.nop, .iconst 3, 1, 0, 0, 0, .int 3, rm_M0, []),
  (.aload 0, .aload_n 0, 1, 0, 0, 0, .null, rm_M0, []),
  (.getfield 25, .getfield 25, 3, 12, 6, 1145, .null, rm_M0, []),
  (.iload 1, .iload_n 1, 1, 0, 0, 0, .null, rm_M0, []),
  (.iaload, .iaload, 1, 0, 0, 0, .null, rm_M0, []),
  (.i2l, .i2l, 1, 0, 0, 0, .null, rm_M0, []),
  (.lastore, .lastore, 1, 0, 0, 0, .null, rm_M0, []),
  (.aload 0, .aload_n 0, 1, 0, 0, 0, .null, rm_M0, []),
  (.getfield 90, .getfield 90, 3, 12, 36, 1175, .null, rm_M0, []),
  (.nop, .iconst 4, 1, 0, 0, 0, .int 4, rm_M0, []),
  (.aload 0, .aload_n 0, 1, 0, 0, 0, .null, rm_M0, []),
  (.getfield 25, .getfield 25, 3, 12, 6, 1145, .null, rm_M0, []),
  (.iload 1, .iload_n 1, 1, 0, 0, 0, .null, rm_M0, []),
  (.iaload, .iaload, 1, 0, 0, 0, .null, rm_M0, []),
  (.aload 0, .aload_n 0, 1, 0, 0, 0, .null, rm_M0, []),
  (.getfield 9, .getfield 9, 3, 12, 1, 1140, .null, rm_M0, []),
  (.nop, .iconst 4, 1, 0, 0, 0, .int 4, rm_M0, []),
  (.iaload, .iaload, 1, 0, 0, 0, .null, rm_M0, []),
  (.isub, .isub, 1, 0, 0, 0, .null, rm_M0, []),
  (.i2l, .i2l, 1, 0, 0, 0, .null, rm_M0, []),
  (.lastore, .lastore, 1, 0, 0, 0, .null, rm_M0, []),
  (.aload 0, .aload_n 0, 1, 0, 0, 0, .null, rm_M0, []),
  (.getfield 90, .getfield 90, 3, 12, 36, 1175, .null, rm_M0, []),
  (.nop, .iconst 5, 1, 0, 0, 0, .int 5, rm_M0, []),
  (.iload 2, .iload_n 2, 1, 0, 0, 0, .null, rm_M0, []),
  (.i2l, .i2l, 1, 0, 0, 0, .null, rm_M0, []),
  (.lastore, .lastore, 1, 0, 0, 0, .null, rm_M0, []),
  (.aload 0, .aload_n 0, 1, 0, 0, 0, .null, rm_M0, []),
  (.getfield 90, .getfield 90, 3, 12, 36, 1175, .null, rm_M0, []),
  (.nop, .bipush 6, 2, 0, 0, 0, .int 6, rm_M0, []),
  (.aload 0, .aload_n 0, 1, 0, 0, 0, .null, rm_M0, []),
  (.iload 1, .iload_n 1, 1, 0, 0, 0, .null, rm_M0, []),
  (.invokevirtual 343, .invokevirtual 343, 3, 0, 1, 0, .null, mX12_brings, [(0, 1490), (0, 1492), (0, 65)]),
  (.i2l, .i2l, 1, 0, 0, 0, .null, rm_M0, []),
  (.lastore, .lastore, 1, 0, 0, 0, .null, rm_M0, []),
  (.aload 0, .aload_n 0, 1, 0, 0, 0, .null, rm_M0, []),
  (.getfield 90, .getfield 90, 3, 12, 36, 1175, .null, rm_M0, []),
  (.nop, .bipush 7, 2, 0, 0, 0, .int 7, rm_M0, []),
  (.aload 0, .aload_n 0, 1, 0, 0, 0, .null, rm_M0, []),
  (.invokevirtual 348, .invokevirtual 348, 3, 0, 0, 0, .null, mX12_openOnes, [(0, 1546), (0, 1548), (0, 76)]),
  (.invokestatic 351, .invokestatic 351, 3, 0, 1, 0, .null, mX12_bits, [(0, 1550), (0, 1551)]),
  (.i2l, .i2l, 1, 0, 0, 0, .null, rm_M0, []),
  (.lastore, .lastore, 1, 0, 0, 0, .null, rm_M0, []),
  (.aload 0, .aload_n 0, 1, 0, 0, 0, .null, rm_M0, []),
  (.getfield 90, .getfield 90, 3, 12, 36, 1175, .null, rm_M0, []),
  (.nop, .bipush 8, 2, 0, 0, 0, .int 8, rm_M0, []),
  (.aload 0, .aload_n 0, 1, 0, 0, 0, .null, rm_M0, []),
  (.getfield 9, .getfield 9, 3, 12, 1, 1140, .null, rm_M0, []),
  (.nop, .iconst 5, 1, 0, 0, 0, .int 5, rm_M0, []),
  (.iaload, .iaload, 1, 0, 0, 0, .null, rm_M0, []),
  (.i2l, .i2l, 1, 0, 0, 0, .null, rm_M0, []),
  (.lastore, .lastore, 1, 0, 0, 0, .null, rm_M0, []),
  (.aload 0, .aload_n 0, 1, 0, 0, 0, .null, rm_M0, []),
  (.getfield 90, .getfield 90, 3, 12, 36, 1175, .null, rm_M0, []),
  (.nop, .bipush 9, 2, 0, 0, 0, .int 9, rm_M0, []),
  (.aload 0, .aload_n 0, 1, 0, 0, 0, .null, rm_M0, []),
  (.getfield 9, .getfield 9, 3, 12, 1, 1140, .null, rm_M0, []),
  (.nop, .bipush 6, 2, 0, 0, 0, .int 6, rm_M0, []),
  (.iaload, .iaload, 1, 0, 0, 0, .null, rm_M0, []),
  (.i2l, .i2l, 1, 0, 0, 0, .null, rm_M0, []),
  (.lastore, .lastore, 1, 0, 0, 0, .null, rm_M0, []),
  (.aload 0, .aload_n 0, 1, 0, 0, 0, .null, rm_M0, []),
  (.getfield 90, .getfield 90, 3, 12, 36, 1175, .null, rm_M0, []),
  (.nop, .bipush 10, 2, 0, 0, 0, .int 10, rm_M0, []),
  (.aload 0, .aload_n 0, 1, 0, 0, 0, .null, rm_M0, []),
  (.getfield 9, .getfield 9, 3, 12, 1, 1140, .null, rm_M0, []),
  (.nop, .bipush 7, 2, 0, 0, 0, .int 7, rm_M0, []),
  (.iaload, .iaload, 1, 0, 0, 0, .null, rm_M0, []),
  (.i2l, .i2l, 1, 0, 0, 0, .null, rm_M0, []),
  (.lastore, .lastore, 1, 0, 0, 0, .null, rm_M0, []),
  (.aload 0, .aload_n 0, 1, 0, 0, 0, .null, rm_M0, []),
  (.getfield 90, .getfield 90, 3, 12, 36, 1175, .null, rm_M0, []),
  (.nop, .bipush 11, 2, 0, 0, 0, .int 11, rm_M0, []),
  (.aload 0, .aload_n 0, 1, 0, 0, 0, .null, rm_M0, []),
  (.getfield 9, .getfield 9, 3, 12, 1, 1140, .null, rm_M0, []),
  (.nop, .bipush 8, 2, 0, 0, 0, .int 8, rm_M0, []),
  (.iaload, .iaload, 1, 0, 0, 0, .null, rm_M0, []),
  (.i2l, .i2l, 1, 0, 0, 0, .null, rm_M0, []),
  (.lastore, .lastore, 1, 0, 0, 0, .null, rm_M0, []),
  (.aload 0, .aload_n 0, 1, 0, 0, 0, .null, rm_M0, []),
  (.getfield 90, .getfield 90, 3, 12, 36, 1175, .null, rm_M0, []),
  (.nop, .bipush 12, 2, 0, 0, 0, .int 12, rm_M0, []),
  (.aload 0, .aload_n 0, 1, 0, 0, 0, .null, rm_M0, []),
  (.getfield 9, .getfield 9, 3, 12, 1, 1140, .null, rm_M0, []),
  (.nop, .iconst 4, 1, 0, 0, 0, .int 4, rm_M0, []),
  (.iaload, .iaload, 1, 0, 0, 0, .null, rm_M0, []),
  (.i2l, .i2l, 1, 0, 0, 0, .null, rm_M0, []),
  (.lastore, .lastore, 1, 0, 0, 0, .null, rm_M0, []),
  (.aload 0, .aload_n 0, 1, 0, 0, 0, .null, rm_M0, []),
  (.invokevirtual 354, .invokevirtual 354, 3, 0, 0, 0, .null, mX12_wanted, [(0, 1553), (0, 1555), (0, 77)]),
  (.lreturn, .lreturn, 1, 0, 0, 0, .null, rm_M0, [])]
def tX12_sumOf : rm_P := [(0, bX12_sumOf_0), (4, bX12_sumOf_4), (40, bX12_sumOf_40), (41, bX12_sumOf_41), (49, bX12_sumOf_49)]
theorem ok_X12_sumOf_t : rm_okP mX12_sumOf tX12_sumOf = true := by decide +kernel
theorem ok_X12_sumOf : rm_okM mX12_sumOf tX12_sumOf := ⟨ok_X12_sumOf_t, List.forall_mem_cons.mpr ⟨cw_X12_has, List.forall_mem_cons.mpr ⟨cw_X12_isOpen, List.forall_mem_cons.mpr ⟨cw_X12_brings, List.forall_mem_cons.mpr ⟨cw_X12_openOnes, List.forall_mem_cons.mpr ⟨cw_X12_bits, List.forall_mem_cons.mpr ⟨cw_X12_wanted, fun _ h => absurd h List.not_mem_nil⟩⟩⟩⟩⟩⟩⟩
theorem atX12_sumOf_0 : rm_at tX12_sumOf 0 = some bX12_sumOf_0 := rfl
theorem atX12_sumOf_4 : rm_at tX12_sumOf 4 = some bX12_sumOf_4 := rfl
theorem atX12_sumOf_40 : rm_at tX12_sumOf 40 = some bX12_sumOf_40 := rfl
theorem atX12_sumOf_41 : rm_at tX12_sumOf 41 = some bX12_sumOf_41 := rfl
theorem atX12_sumOf_49 : rm_at tX12_sumOf 49 = some bX12_sumOf_49 := rfl
def bX12_choice_0 : List rm_J := [
  (.nop, .iconst (-1), 1, 0, 0, 0, .int (-1), rm_M0, []),
  (.istore 1, .istore_n 1, 1, 0, 0, 0, .null, rm_M0, []),
  (.nop, .lconst 0, 1, 0, 0, 0, .long 0, rm_M0, []),
  (.lstore 2, .lstore_n 2, 1, 0, 0, 0, .null, rm_M0, []),
  (.nop, .iconst 0, 1, 0, 0, 0, .int 0, rm_M0, []),
  (.istore 4, .istore 4, 2, 0, 0, 0, .null, rm_M0, [])]
def bX12_choice_7 : List rm_J := [
  (.iload 4, .iload 4, 2, 0, 0, 0, .null, rm_M0, []),
  (.aload 0, .aload_n 0, 1, 0, 0, 0, .null, rm_M0, []),
  (.getfield 9, .getfield 9, 3, 12, 1, 1140, .null, rm_M0, []),
  (.nop, .iconst 3, 1, 0, 0, 0, .int 3, rm_M0, []),
  (.iaload, .iaload, 1, 0, 0, 0, .null, rm_M0, []),
  (.if_icmp .ge 65, .if_icmp .ge 65, 3, 80, 0, 0, .null, rm_M0, []),
  (.aload 0, .aload_n 0, 1, 0, 0, 0, .null, rm_M0, []),
  (.iload 4, .iload 4, 2, 0, 0, 0, .null, rm_M0, []),
  (.invokevirtual 330, .invokevirtual 330, 3, 0, 1, 0, .null, mX12_isOpen, [(0, 1486), (0, 1488), (0, 64)]),
  (.ifCond .eq 50, .ifCond .eq 50, 3, 74, 0, 0, .null, rm_M0, []),
  (.aload 0, .aload_n 0, 1, 0, 0, 0, .null, rm_M0, []),
  (.getfield 9, .getfield 9, 3, 12, 1, 1140, .null, rm_M0, []),
  (.nop, .bipush 12, 2, 0, 0, 0, .int 12, rm_M0, []),
  (.iaload, .iaload, 1, 0, 0, 0, .null, rm_M0, []),
  (.nop, .iconst (-1), 1, 0, 0, 0, .int (-1), rm_M0, []),
  (.if_icmp .ne 18, .if_icmp .ne 18, 3, 53, 0, 0, .null, rm_M0, []),
  (.nop, .ldc2_w 358, 3, 0, 0, 1541, .long 100, rm_M0, []),
  (.aload 0, .aload_n 0, 1, 0, 0, 0, .null, rm_M0, []),
  (.getfield 25, .getfield 25, 3, 12, 6, 1145, .null, rm_M0, []),
  (.iload 4, .iload 4, 2, 0, 0, 0, .null, rm_M0, []),
  (.iaload, .iaload, 1, 0, 0, 0, .null, rm_M0, []),
  (.i2l, .i2l, 1, 0, 0, 0, .null, rm_M0, []),
  (.lsub, .lsub, 1, 0, 0, 0, .null, rm_M0, []),
  (.goto 9, .goto 9, 3, 59, 0, 0, .null, rm_M0, [])]
def bX12_choice_53 : List rm_J := [
  (.aload 0, .aload_n 0, 1, 0, 0, 0, .null, rm_M0, []),
  (.iload 4, .iload 4, 2, 0, 0, 0, .null, rm_M0, []),
  (.invokevirtual 360, .invokevirtual 360, 3, 0, 1, 0, .null, mX12_sumOf, [(0, 1542), (0, 1544), (0, 75)])]
def bX12_choice_59 : List rm_J := [
  (.lstore 5, .lstore 5, 2, 0, 0, 0, .null, rm_M0, []),
  (.lload 5, .lload 5, 2, 0, 0, 0, .null, rm_M0, []),
  (.lload 2, .lload_n 2, 1, 0, 0, 0, .null, rm_M0, []),
  (.lcmp, .lcmp, 1, 0, 0, 0, .null, rm_M0, []),
  (.ifCond .le 9, .ifCond .le 9, 3, 74, 0, 0, .null, rm_M0, []),
  (.iload 4, .iload 4, 2, 0, 0, 0, .null, rm_M0, []),
  (.istore 1, .istore_n 1, 1, 0, 0, 0, .null, rm_M0, []),
  (.lload 5, .lload 5, 2, 0, 0, 0, .null, rm_M0, []),
  (.lstore 2, .lstore_n 2, 1, 0, 0, 0, .null, rm_M0, [])]
def bX12_choice_74 : List rm_J := [
  (.iinc 4 1, .iinc 4 1, 3, 0, 0, 0, .int 1, rm_M0, []),
  (.goto (-70), .goto (-70), 3, 7, 0, 0, .null, rm_M0, [])]
def bX12_choice_80 : List rm_J := [
  (.iload 1, .iload_n 1, 1, 0, 0, 0, .null, rm_M0, []),
  (.ireturn, .ireturn, 1, 0, 0, 0, .null, rm_M0, [])]
def tX12_choice : rm_P := [(0, bX12_choice_0), (7, bX12_choice_7), (53, bX12_choice_53), (59, bX12_choice_59), (74, bX12_choice_74), (80, bX12_choice_80)]
theorem ok_X12_choice_t : rm_okP mX12_choice tX12_choice = true := by decide +kernel
theorem ok_X12_choice : rm_okM mX12_choice tX12_choice := ⟨ok_X12_choice_t, List.forall_mem_cons.mpr ⟨cw_X12_isOpen, List.forall_mem_cons.mpr ⟨cw_X12_sumOf, fun _ h => absurd h List.not_mem_nil⟩⟩⟩
theorem atX12_choice_0 : rm_at tX12_choice 0 = some bX12_choice_0 := rfl
theorem atX12_choice_7 : rm_at tX12_choice 7 = some bX12_choice_7 := rfl
theorem atX12_choice_53 : rm_at tX12_choice 53 = some bX12_choice_53 := rfl
theorem atX12_choice_59 : rm_at tX12_choice 59 = some bX12_choice_59 := rfl
theorem atX12_choice_74 : rm_at tX12_choice 74 = some bX12_choice_74 := rfl
theorem atX12_choice_80 : rm_at tX12_choice 80 = some bX12_choice_80 := rfl
def bX12_isWaste_0 : List rm_J := [
  (.aload 0, .aload_n 0, 1, 0, 0, 0, .null, rm_M0, []),
  (.getfield 9, .getfield 9, 3, 12, 1, 1140, .null, rm_M0, []),
  (.nop, .bipush 9, 2, 0, 0, 0, .int 9, rm_M0, []),
  (.iaload, .iaload, 1, 0, 0, 0, .null, rm_M0, []),
  (.nop, .iconst 1, 1, 0, 0, 0, .int 1, rm_M0, []),
  (.if_icmp .eq 29, .if_icmp .eq 29, 3, 37, 0, 0, .null, rm_M0, []),
  (.aload 0, .aload_n 0, 1, 0, 0, 0, .null, rm_M0, []),
  (.getfield 9, .getfield 9, 3, 12, 1, 1140, .null, rm_M0, []),
  (.nop, .iconst 4, 1, 0, 0, 0, .int 4, rm_M0, []),
  (.iaload, .iaload, 1, 0, 0, 0, .null, rm_M0, []),
  (.nop, .bipush 61, 2, 0, 0, 0, .int 61, rm_M0, []),
  (.if_icmp .ge 22, .if_icmp .ge 22, 3, 41, 0, 0, .null, rm_M0, []),
  (.aload 0, .aload_n 0, 1, 0, 0, 0, .null, rm_M0, []),
  (.getfield 28, .getfield 28, 3, 12, 7, 1146, .null, rm_M0, []),
  (.aload 0, .aload_n 0, 1, 0, 0, 0, .null, rm_M0, []),
  (.getfield 9, .getfield 9, 3, 12, 1, 1140, .null, rm_M0, []),
  (.nop, .iconst 4, 1, 0, 0, 0, .int 4, rm_M0, []),
  (.iaload, .iaload, 1, 0, 0, 0, .null, rm_M0, []),
  (.iaload, .iaload, 1, 0, 0, 0, .null, rm_M0, []),
  (.nop, .iconst 1, 1, 0, 0, 0, .int 1, rm_M0, []),
  (.if_icmp .ne 7, .if_icmp .ne 7, 3, 41, 0, 0, .null, rm_M0, [])]
def bX12_isWaste_37 : List rm_J := [
  (.nop, .iconst 1, 1, 0, 0, 0, .int 1, rm_M0, []),
  (.goto 4, .goto 4, 3, 42, 0, 0, .null, rm_M0, [])]
def bX12_isWaste_41 : List rm_J := [
  (.nop, .iconst 0, 1, 0, 0, 0, .int 0, rm_M0, [])]
def bX12_isWaste_42 : List rm_J := [
  (.ireturn, .ireturn, 1, 0, 0, 0, .null, rm_M0, [])]
def tX12_isWaste : rm_P := [(0, bX12_isWaste_0), (37, bX12_isWaste_37), (41, bX12_isWaste_41), (42, bX12_isWaste_42)]
theorem ok_X12_isWaste_t : rm_okP mX12_isWaste tX12_isWaste = true := by decide +kernel
theorem ok_X12_isWaste : rm_okM mX12_isWaste tX12_isWaste := ⟨ok_X12_isWaste_t, fun _ h => absurd h List.not_mem_nil⟩
theorem atX12_isWaste_0 : rm_at tX12_isWaste 0 = some bX12_isWaste_0 := rfl
theorem atX12_isWaste_37 : rm_at tX12_isWaste 37 = some bX12_isWaste_37 := rfl
theorem atX12_isWaste_41 : rm_at tX12_isWaste 41 = some bX12_isWaste_41 := rfl
theorem atX12_isWaste_42 : rm_at tX12_isWaste 42 = some bX12_isWaste_42 := rfl
def bX12_goesWith_0 : List rm_J := [
  (.aload 0, .aload_n 0, 1, 0, 0, 0, .null, rm_M0, []),
  (.invokevirtual 364, .invokevirtual 364, 3, 0, 0, 0, .null, mX12_isWaste, [(0, 1533), (0, 1535), (0, 73)]),
  (.ifCond .eq 17, .ifCond .eq 17, 3, 21, 0, 0, .null, rm_M0, []),
  (.aload 0, .aload_n 0, 1, 0, 0, 0, .null, rm_M0, []),
  (.getfield 9, .getfield 9, 3, 12, 1, 1140, .null, rm_M0, []),
  (.nop, .bipush 8, 2, 0, 0, 0, .int 8, rm_M0, []),
  (.dup2, .dup2, 1, 0, 0, 0, .null, rm_M0, []),
  (.iaload, .iaload, 1, 0, 0, 0, .null, rm_M0, []),
  (.nop, .iconst 1, 1, 0, 0, 0, .int 1, rm_M0, []),
  (.iadd, .iadd, 1, 0, 0, 0, .null, rm_M0, []),
  (.iastore, .iastore, 1, 0, 0, 0, .null, rm_M0, []),
  (.goto 40, .goto 40, 3, 58, 0, 0, .null, rm_M0, [])]
def bX12_goesWith_21 : List rm_J := [
  (.iload 1, .iload_n 1, 1, 0, 0, 0, .null, rm_M0, []),
  (.nop, .iconst (-1), 1, 0, 0, 0, .int (-1), rm_M0, []),
  (.if_icmp .ne 29, .if_icmp .ne 29, 3, 52, 0, 0, .null, rm_M0, []),
  (.aload 0, .aload_n 0, 1, 0, 0, 0, .null, rm_M0, []),
  (.getfield 9, .getfield 9, 3, 12, 1, 1140, .null, rm_M0, []),
  (.nop, .iconst 5, 1, 0, 0, 0, .int 5, rm_M0, []),
  (.aload 0, .aload_n 0, 1, 0, 0, 0, .null, rm_M0, []),
  (.getfield 9, .getfield 9, 3, 12, 1, 1140, .null, rm_M0, []),
  (.nop, .iconst 5, 1, 0, 0, 0, .int 5, rm_M0, []),
  (.iaload, .iaload, 1, 0, 0, 0, .null, rm_M0, []),
  (.nop, .iconst 1, 1, 0, 0, 0, .int 1, rm_M0, []),
  (.iadd, .iadd, 1, 0, 0, 0, .null, rm_M0, []),
  (.aload 0, .aload_n 0, 1, 0, 0, 0, .null, rm_M0, []),
  (.getfield 9, .getfield 9, 3, 12, 1, 1140, .null, rm_M0, []),
  (.nop, .iconst 1, 1, 0, 0, 0, .int 1, rm_M0, []),
  (.iaload, .iaload, 1, 0, 0, 0, .null, rm_M0, []),
  (.invokestatic 345, .invokestatic 345, 3, 0, 2, 0, .null, mX12_upTo, [(0, 1571), (0, 1572)]),
  (.iastore, .iastore, 1, 0, 0, 0, .null, rm_M0, []),
  (.goto 9, .goto 9, 3, 58, 0, 0, .null, rm_M0, [])]
def bX12_goesWith_52 : List rm_J := [
  (.aload 0, .aload_n 0, 1, 0, 0, 0, .null, rm_M0, []),
  (.iload 1, .iload_n 1, 1, 0, 0, 0, .null, rm_M0, []),
  (.invokevirtual 367, .invokevirtual 367, 3, 0, 1, 0, .null, mX12_answered, [(0, 1574), (0, 1576), (0, 80)]),
  (.pop, .pop, 1, 0, 0, 0, .null, rm_M0, [])]
def bX12_goesWith_58 : List rm_J := [
  (.nop, .iconst 0, 1, 0, 0, 0, .int 0, rm_M0, []),
  (.istore 2, .istore_n 2, 1, 0, 0, 0, .null, rm_M0, [])]
def bX12_goesWith_60 : List rm_J := [
  (.iload 2, .iload_n 2, 1, 0, 0, 0, .null, rm_M0, []),
  (.aload 0, .aload_n 0, 1, 0, 0, 0, .null, rm_M0, []),
  (.getfield 9, .getfield 9, 3, 12, 1, 1140, .null, rm_M0, []),
  (.nop, .iconst 3, 1, 0, 0, 0, .int 3, rm_M0, []),
  (.iaload, .iaload, 1, 0, 0, 0, .null, rm_M0, []),
  (.if_icmp .ge 65, .if_icmp .ge 65, 3, 132, 0, 0, .null, rm_M0, []),
  (.aload 0, .aload_n 0, 1, 0, 0, 0, .null, rm_M0, []),
  (.iload 2, .iload_n 2, 1, 0, 0, 0, .null, rm_M0, []),
  (.invokevirtual 330, .invokevirtual 330, 3, 0, 1, 0, .null, mX12_isOpen, [(0, 1486), (0, 1488), (0, 64)]),
  (.ifCond .eq 51, .ifCond .eq 51, 3, 126, 0, 0, .null, rm_M0, []),
  (.aload 0, .aload_n 0, 1, 0, 0, 0, .null, rm_M0, []),
  (.getfield 25, .getfield 25, 3, 12, 6, 1145, .null, rm_M0, []),
  (.iload 2, .iload_n 2, 1, 0, 0, 0, .null, rm_M0, []),
  (.iaload, .iaload, 1, 0, 0, 0, .null, rm_M0, []),
  (.aload 0, .aload_n 0, 1, 0, 0, 0, .null, rm_M0, []),
  (.getfield 9, .getfield 9, 3, 12, 1, 1140, .null, rm_M0, []),
  (.nop, .iconst 4, 1, 0, 0, 0, .int 4, rm_M0, []),
  (.iaload, .iaload, 1, 0, 0, 0, .null, rm_M0, []),
  (.if_icmp .gt 36, .if_icmp .gt 36, 3, 126, 0, 0, .null, rm_M0, []),
  (.aload 0, .aload_n 0, 1, 0, 0, 0, .null, rm_M0, []),
  (.getfield 16, .getfield 16, 3, 12, 3, 1142, .null, rm_M0, []),
  (.iload 2, .iload_n 2, 1, 0, 0, 0, .null, rm_M0, []),
  (.nop, .iconst 3, 1, 0, 0, 0, .int 3, rm_M0, []),
  (.iastore, .iastore, 1, 0, 0, 0, .null, rm_M0, []),
  (.aload 0, .aload_n 0, 1, 0, 0, 0, .null, rm_M0, []),
  (.getfield 9, .getfield 9, 3, 12, 1, 1140, .null, rm_M0, []),
  (.nop, .bipush 7, 2, 0, 0, 0, .int 7, rm_M0, []),
  (.aload 0, .aload_n 0, 1, 0, 0, 0, .null, rm_M0, []),
  (.getfield 9, .getfield 9, 3, 12, 1, 1140, .null, rm_M0, []),
  (.nop, .bipush 7, 2, 0, 0, 0, .int 7, rm_M0, []),
  (.iaload, .iaload, 1, 0, 0, 0, .null, rm_M0, []),
  (.aload 0, .aload_n 0, 1, 0, 0, 0, .null, rm_M0, []),
  (.getfield 13, .getfield 13, 3, 12, 2, 1141, .null, rm_M0, []),
  (.iload 2, .iload_n 2, 1, 0, 0, 0, .null, rm_M0, []),
  (.iaload, .iaload, 1, 0, 0, 0, .null, rm_M0, []),
  (.iadd, .iadd, 1, 0, 0, 0, .null, rm_M0, []),
  (.nop, .ldc 206, 2, 0, 0, 1368, .int 99999, rm_M0, []),
  (.invokestatic 345, .invokestatic 345, 3, 0, 2, 0, .null, mX12_upTo, [(0, 1571), (0, 1572)]),
  (.iastore, .iastore, 1, 0, 0, 0, .null, rm_M0, [])]
def bX12_goesWith_126 : List rm_J := [
  (.iinc 2 1, .iinc 2 1, 3, 0, 0, 0, .int 1, rm_M0, []),
  (.goto (-69), .goto (-69), 3, 60, 0, 0, .null, rm_M0, [])]
def bX12_goesWith_132 : List rm_J := [
  (.aload 0, .aload_n 0, 1, 0, 0, 0, .null, rm_M0, []),
  (.getfield 9, .getfield 9, 3, 12, 1, 1140, .null, rm_M0, []),
  (.nop, .bipush 9, 2, 0, 0, 0, .int 9, rm_M0, []),
  (.nop, .iconst 0, 1, 0, 0, 0, .int 0, rm_M0, []),
  (.iastore, .iastore, 1, 0, 0, 0, .null, rm_M0, []),
  (.aload 0, .aload_n 0, 1, 0, 0, 0, .null, rm_M0, []),
  (.getfield 9, .getfield 9, 3, 12, 1, 1140, .null, rm_M0, []),
  (.nop, .iconst 4, 1, 0, 0, 0, .int 4, rm_M0, []),
  (.dup2, .dup2, 1, 0, 0, 0, .null, rm_M0, []),
  (.iaload, .iaload, 1, 0, 0, 0, .null, rm_M0, []),
  (.nop, .iconst 1, 1, 0, 0, 0, .int 1, rm_M0, []),
  (.iadd, .iadd, 1, 0, 0, 0, .null, rm_M0, []),
  (.iastore, .iastore, 1, 0, 0, 0, .null, rm_M0, []),
  (.return_, .return_, 1, 0, 0, 0, .null, rm_M0, [])]
def tX12_goesWith : rm_P := [(0, bX12_goesWith_0), (21, bX12_goesWith_21), (52, bX12_goesWith_52), (58, bX12_goesWith_58), (60, bX12_goesWith_60), (126, bX12_goesWith_126), (132, bX12_goesWith_132)]
theorem ok_X12_goesWith_t : rm_okP mX12_goesWith tX12_goesWith = true := by decide +kernel
theorem ok_X12_goesWith : rm_okM mX12_goesWith tX12_goesWith := ⟨ok_X12_goesWith_t, List.forall_mem_cons.mpr ⟨cw_X12_isWaste, List.forall_mem_cons.mpr ⟨cw_X12_upTo, List.forall_mem_cons.mpr ⟨cw_X12_answered, List.forall_mem_cons.mpr ⟨cw_X12_isOpen, List.forall_mem_cons.mpr ⟨cw_X12_upTo, fun _ h => absurd h List.not_mem_nil⟩⟩⟩⟩⟩⟩
theorem atX12_goesWith_0 : rm_at tX12_goesWith 0 = some bX12_goesWith_0 := rfl
theorem atX12_goesWith_21 : rm_at tX12_goesWith 21 = some bX12_goesWith_21 := rfl
theorem atX12_goesWith_52 : rm_at tX12_goesWith 52 = some bX12_goesWith_52 := rfl
theorem atX12_goesWith_58 : rm_at tX12_goesWith 58 = some bX12_goesWith_58 := rfl
theorem atX12_goesWith_60 : rm_at tX12_goesWith 60 = some bX12_goesWith_60 := rfl
theorem atX12_goesWith_126 : rm_at tX12_goesWith 126 = some bX12_goesWith_126 := rfl
theorem atX12_goesWith_132 : rm_at tX12_goesWith 132 = some bX12_goesWith_132 := rfl
def bX12_goes_0 : List rm_J := [
  (.aload 0, .aload_n 0, 1, 0, 0, 0, .null, rm_M0, []),
  (.invokevirtual 364, .invokevirtual 364, 3, 0, 0, 0, .null, mX12_isWaste, [(0, 1533), (0, 1535), (0, 73)]),
  (.ifCond .eq 7, .ifCond .eq 7, 3, 11, 0, 0, .null, rm_M0, []),
  (.nop, .iconst (-1), 1, 0, 0, 0, .int (-1), rm_M0, []),
  (.goto 7, .goto 7, 3, 15, 0, 0, .null, rm_M0, [])]
def bX12_goes_11 : List rm_J := [
  (.aload 0, .aload_n 0, 1, 0, 0, 0, .null, rm_M0, []),
  (.invokevirtual 370, .invokevirtual 370, 3, 0, 0, 0, .null, mX12_choice, [(0, 1537), (0, 1539), (0, 74)])]
def bX12_goes_15 : List rm_J := [
  (.istore 1, .istore_n 1, 1, 0, 0, 0, .null, rm_M0, []),
  (.aload 0, .aload_n 0, 1, 0, 0, 0, .null, rm_M0, []),
  (.iload 1, .iload_n 1, 1, 0, 0, 0, .null, rm_M0, []),
  (.invokevirtual 373, .invokevirtual 373, 3, 0, 1, 0, .null, mX12_goesWith, [(0, 1567), (0, 1569), (0, 79)]),
  (.iload 1, .iload_n 1, 1, 0, 0, 0, .null, rm_M0, []),
  (.ireturn, .ireturn, 1, 0, 0, 0, .null, rm_M0, [])]
def tX12_goes : rm_P := [(0, bX12_goes_0), (11, bX12_goes_11), (15, bX12_goes_15)]
theorem ok_X12_goes_t : rm_okP mX12_goes tX12_goes = true := by decide +kernel
theorem ok_X12_goes : rm_okM mX12_goes tX12_goes := ⟨ok_X12_goes_t, List.forall_mem_cons.mpr ⟨cw_X12_isWaste, List.forall_mem_cons.mpr ⟨cw_X12_choice, List.forall_mem_cons.mpr ⟨cw_X12_goesWith, fun _ h => absurd h List.not_mem_nil⟩⟩⟩⟩
theorem atX12_goes_0 : rm_at tX12_goes 0 = some bX12_goes_0 := rfl
theorem atX12_goes_11 : rm_at tX12_goes 11 = some bX12_goes_11 := rfl
theorem atX12_goes_15 : rm_at tX12_goes 15 = some bX12_goes_15 := rfl
def bX12_goFor_0 : List rm_J := [
  (.nop, .iconst 0, 1, 0, 0, 0, .int 0, rm_M0, []),
  (.istore 2, .istore_n 2, 1, 0, 0, 0, .null, rm_M0, [])]
def bX12_goFor_2 : List rm_J := [
  (.iload 2, .iload_n 2, 1, 0, 0, 0, .null, rm_M0, []),
  (.iload 1, .iload_n 1, 1, 0, 0, 0, .null, rm_M0, []),
  (.if_icmp .ge 14, .if_icmp .ge 14, 3, 18, 0, 0, .null, rm_M0, []),
  (.aload 0, .aload_n 0, 1, 0, 0, 0, .null, rm_M0, []),
  (.invokevirtual 376, .invokevirtual 376, 3, 0, 0, 0, .null, mX12_goes, [(0, 1529), (0, 1531), (0, 72)]),
  (.pop, .pop, 1, 0, 0, 0, .null, rm_M0, []),
  (.iinc 2 1, .iinc 2 1, 3, 0, 0, 0, .int 1, rm_M0, []),
  (.goto (-13), .goto (-13), 3, 2, 0, 0, .null, rm_M0, [])]
def bX12_goFor_18 : List rm_J := [
  (.return_, .return_, 1, 0, 0, 0, .null, rm_M0, [])]
def tX12_goFor : rm_P := [(0, bX12_goFor_0), (2, bX12_goFor_2), (18, bX12_goFor_18)]
theorem ok_X12_goFor_t : rm_okP mX12_goFor tX12_goFor = true := by decide +kernel
theorem ok_X12_goFor : rm_okM mX12_goFor tX12_goFor := ⟨ok_X12_goFor_t, List.forall_mem_cons.mpr ⟨cw_X12_goes, fun _ h => absurd h List.not_mem_nil⟩⟩
theorem atX12_goFor_0 : rm_at tX12_goFor 0 = some bX12_goFor_0 := rfl
theorem atX12_goFor_2 : rm_at tX12_goFor 2 = some bX12_goFor_2 := rfl
theorem atX12_goFor_18 : rm_at tX12_goFor 18 = some bX12_goFor_18 := rfl
def bX12_moves_0 : List rm_J := [
  (.aload 0, .aload_n 0, 1, 0, 0, 0, .null, rm_M0, []),
  (.getfield 379, .getfield 379, 3, 12, 42, 1181, .null, rm_M0, []),
  (.ifCond .eq 15, .ifCond .eq 15, 3, 19, 0, 0, .null, rm_M0, []),
  (.aload 0, .aload_n 0, 1, 0, 0, 0, .null, rm_M0, []),
  (.getfield 97, .getfield 97, 3, 12, 38, 1177, .null, rm_M0, []),
  (.aload 0, .aload_n 0, 1, 0, 0, 0, .null, rm_M0, []),
  (.getfield 383, .getfield 383, 3, 12, 41, 1180, .null, rm_M0, []),
  (.iaload, .iaload, 1, 0, 0, 0, .null, rm_M0, []),
  (.goto 4, .goto 4, 3, 20, 0, 0, .null, rm_M0, [])]
def bX12_moves_19 : List rm_J := [
  (.iload 1, .iload_n 1, 1, 0, 0, 0, .null, rm_M0, [])]
def bX12_moves_20 : List rm_J := [
  (.istore 2, .istore_n 2, 1, 0, 0, 0, .null, rm_M0, []),
  (.aload 0, .aload_n 0, 1, 0, 0, 0, .null, rm_M0, []),
  (.getfield 97, .getfield 97, 3, 12, 38, 1177, .null, rm_M0, []),
  (.aload 0, .aload_n 0, 1, 0, 0, 0, .null, rm_M0, []),
  (.getfield 383, .getfield 383, 3, 12, 41, 1180, .null, rm_M0, []),
  (.iload 2, .iload_n 2, 1, 0, 0, 0, .null, rm_M0, []),
  (.iastore, .iastore, 1, 0, 0, 0, .null, rm_M0, []),
  (.aload 0, .aload_n 0, 1, 0, 0, 0, .null, rm_M0, []),
  (.dup, .dup, 1, 0, 0, 0, .null, rm_M0, []),
  (.getfield 383, .getfield 383, 3, 12, 41, 1180, .null, rm_M0, []),
  (.nop, .iconst 1, 1, 0, 0, 0, .int 1, rm_M0, []),
  (.iadd, .iadd, 1, 0, 0, 0, .null, rm_M0, []),
  (.putfield 383, .putfield 383, 3, 12, 41, 1180, .int 0, rm_M0, []),
  (.iload 2, .iload_n 2, 1, 0, 0, 0, .null, rm_M0, []),
  (.ireturn, .ireturn, 1, 0, 0, 0, .null, rm_M0, [])]
def tX12_moves : rm_P := [(0, bX12_moves_0), (19, bX12_moves_19), (20, bX12_moves_20)]
theorem ok_X12_moves_t : rm_okP mX12_moves tX12_moves = true := by decide +kernel
theorem ok_X12_moves : rm_okM mX12_moves tX12_moves := ⟨ok_X12_moves_t, fun _ h => absurd h List.not_mem_nil⟩
theorem atX12_moves_0 : rm_at tX12_moves 0 = some bX12_moves_0 := rfl
theorem atX12_moves_19 : rm_at tX12_moves 19 = some bX12_moves_19 := rfl
theorem atX12_moves_20 : rm_at tX12_moves 20 = some bX12_moves_20 := rfl
def bX12_movesRow_0 : List rm_J := [
  (.nop, .iconst 0, 1, 0, 0, 0, .int 0, rm_M0, []),
  (.istore 2, .istore_n 2, 1, 0, 0, 0, .null, rm_M0, [])]
def bX12_movesRow_2 : List rm_J := [
  (.iload 2, .iload_n 2, 1, 0, 0, 0, .null, rm_M0, []),
  (.aload 1, .aload_n 1, 1, 0, 0, 0, .null, rm_M0, []),
  (.arraylength, .arraylength, 1, 0, 0, 0, .null, rm_M0, []),
  (.if_icmp .ge 19, .if_icmp .ge 19, 3, 24, 0, 0, .null, rm_M0, []),
  (.aload 1, .aload_n 1, 1, 0, 0, 0, .null, rm_M0, []),
  (.iload 2, .iload_n 2, 1, 0, 0, 0, .null, rm_M0, []),
  (.aload 0, .aload_n 0, 1, 0, 0, 0, .null, rm_M0, []),
  (.aload 1, .aload_n 1, 1, 0, 0, 0, .null, rm_M0, []),
  (.iload 2, .iload_n 2, 1, 0, 0, 0, .null, rm_M0, []),
  (.iaload, .iaload, 1, 0, 0, 0, .null, rm_M0, []),
  (.invokevirtual 386, .invokevirtual 386, 3, 0, 1, 0, .null, mX12_moves, [(0, 1509), (0, 1511), (0, 68)]),
  (.iastore, .iastore, 1, 0, 0, 0, .null, rm_M0, []),
  (.iinc 2 1, .iinc 2 1, 3, 0, 0, 0, .int 1, rm_M0, []),
  (.goto (-19), .goto (-19), 3, 2, 0, 0, .null, rm_M0, [])]
def bX12_movesRow_24 : List rm_J := [
  (.return_, .return_, 1, 0, 0, 0, .null, rm_M0, [])]
def tX12_movesRow : rm_P := [(0, bX12_movesRow_0), (2, bX12_movesRow_2), (24, bX12_movesRow_24)]
theorem ok_X12_movesRow_t : rm_okP mX12_movesRow tX12_movesRow = true := by decide +kernel
theorem ok_X12_movesRow : rm_okM mX12_movesRow tX12_movesRow := ⟨ok_X12_movesRow_t, List.forall_mem_cons.mpr ⟨cw_X12_moves, fun _ h => absurd h List.not_mem_nil⟩⟩
theorem atX12_movesRow_0 : rm_at tX12_movesRow 0 = some bX12_movesRow_0 := rfl
theorem atX12_movesRow_2 : rm_at tX12_movesRow 2 = some bX12_movesRow_2 := rfl
theorem atX12_movesRow_24 : rm_at tX12_movesRow 24 = some bX12_movesRow_24 := rfl
def bX12_movesAll_0 : List rm_J := [
  (.aload 0, .aload_n 0, 1, 0, 0, 0, .null, rm_M0, []),
  (.nop, .bipush 30, 2, 0, 0, 0, .int 30, rm_M0, []),
  (.iload 1, .iload_n 1, 1, 0, 0, 0, .null, rm_M0, []),
  (.imul, .imul, 1, 0, 0, 0, .null, rm_M0, []),
  (.putfield 383, .putfield 383, 3, 12, 41, 1180, .int 0, rm_M0, []),
  (.aload 0, .aload_n 0, 1, 0, 0, 0, .null, rm_M0, []),
  (.iload 2, .iload_n 2, 1, 0, 0, 0, .null, rm_M0, []),
  (.putfield 379, .putfield 379, 3, 12, 42, 1181, .int 2, rm_M0, []),
  (.nop, .iconst 4, 1, 0, 0, 0, .int 4, rm_M0, []),
  (.istore 3, .istore_n 3, 1, 0, 0, 0, .null, rm_M0, [])]
def bX12_movesAll_15 : List rm_J := [
  (.iload 3, .iload_n 3, 1, 0, 0, 0, .null, rm_M0, []),
  (.nop, .bipush 10, 2, 0, 0, 0, .int 10, rm_M0, []),
  (.if_icmp .ge 25, .if_icmp .ge 25, 3, 43, 0, 0, .null, rm_M0, []),
  (.aload 0, .aload_n 0, 1, 0, 0, 0, .null, rm_M0, []),
  (.getfield 9, .getfield 9, 3, 12, 1, 1140, .null, rm_M0, []),
  (.iload 3, .iload_n 3, 1, 0, 0, 0, .null, rm_M0, []),
  (.aload 0, .aload_n 0, 1, 0, 0, 0, .null, rm_M0, []),
  (.aload 0, .aload_n 0, 1, 0, 0, 0, .null, rm_M0, []),
  (.getfield 9, .getfield 9, 3, 12, 1, 1140, .null, rm_M0, []),
  (.iload 3, .iload_n 3, 1, 0, 0, 0, .null, rm_M0, []),
  (.iaload, .iaload, 1, 0, 0, 0, .null, rm_M0, []),
  (.invokevirtual 386, .invokevirtual 386, 3, 0, 1, 0, .null, mX12_moves, [(0, 1509), (0, 1511), (0, 68)]),
  (.iastore, .iastore, 1, 0, 0, 0, .null, rm_M0, []),
  (.iinc 3 1, .iinc 3 1, 3, 0, 0, 0, .int 1, rm_M0, []),
  (.goto (-25), .goto (-25), 3, 15, 0, 0, .null, rm_M0, [])]
def bX12_movesAll_43 : List rm_J := [
  (.aload 0, .aload_n 0, 1, 0, 0, 0, .null, rm_M0, []),
  (.aload 0, .aload_n 0, 1, 0, 0, 0, .null, rm_M0, []),
  (.getfield 13, .getfield 13, 3, 12, 2, 1141, .null, rm_M0, []),
  (.invokevirtual 389, .invokevirtual 389, 3, 0, 1, 0, .null, mX12_movesRow, [(0, 1513), (0, 1515), (0, 69)]),
  (.aload 0, .aload_n 0, 1, 0, 0, 0, .null, rm_M0, []),
  (.aload 0, .aload_n 0, 1, 0, 0, 0, .null, rm_M0, []),
  (.getfield 16, .getfield 16, 3, 12, 3, 1142, .null, rm_M0, []),
  (.invokevirtual 389, .invokevirtual 389, 3, 0, 1, 0, .null, mX12_movesRow, [(0, 1513), (0, 1515), (0, 69)]),
  (.aload 0, .aload_n 0, 1, 0, 0, 0, .null, rm_M0, []),
  (.aload 0, .aload_n 0, 1, 0, 0, 0, .null, rm_M0, []),
  (.getfield 19, .getfield 19, 3, 12, 4, 1143, .null, rm_M0, []),
  (.invokevirtual 389, .invokevirtual 389, 3, 0, 1, 0, .null, mX12_movesRow, [(0, 1513), (0, 1515), (0, 69)]),
  (.return_, .return_, 1, 0, 0, 0, .null, rm_M0, [])]
def tX12_movesAll : rm_P := [(0, bX12_movesAll_0), (15, bX12_movesAll_15), (43, bX12_movesAll_43)]
theorem ok_X12_movesAll_t : rm_okP mX12_movesAll tX12_movesAll = true := by decide +kernel
theorem ok_X12_movesAll : rm_okM mX12_movesAll tX12_movesAll := ⟨ok_X12_movesAll_t, List.forall_mem_cons.mpr ⟨cw_X12_moves, List.forall_mem_cons.mpr ⟨cw_X12_movesRow, List.forall_mem_cons.mpr ⟨cw_X12_movesRow, List.forall_mem_cons.mpr ⟨cw_X12_movesRow, fun _ h => absurd h List.not_mem_nil⟩⟩⟩⟩⟩
theorem atX12_movesAll_0 : rm_at tX12_movesAll 0 = some bX12_movesAll_0 := rfl
theorem atX12_movesAll_15 : rm_at tX12_movesAll 15 = some bX12_movesAll_15 := rfl
theorem atX12_movesAll_43 : rm_at tX12_movesAll 43 = some bX12_movesAll_43 := rfl
def bX12_keepsAct_0 : List rm_J := [
  (.aload 0, .aload_n 0, 1, 0, 0, 0, .null, rm_M0, []),
  (.getfield 297, .getfield 297, 3, 12, 40, 1179, .null, rm_M0, []),
  (.nop, .bipush 20, 2, 0, 0, 0, .int 20, rm_M0, []),
  (.if_icmp .ne 44, .if_icmp .ne 44, 3, 50, 0, 0, .null, rm_M0, []),
  (.nop, .bipush 30, 2, 0, 0, 0, .int 30, rm_M0, []),
  (.istore 1, .istore_n 1, 1, 0, 0, 0, .null, rm_M0, [])]
def bX12_keepsAct_12 : List rm_J := [
  (.iload 1, .iload_n 1, 1, 0, 0, 0, .null, rm_M0, []),
  (.nop, .sipush 600, 3, 0, 0, 0, .int 600, rm_M0, []),
  (.if_icmp .ge 24, .if_icmp .ge 24, 3, 40, 0, 0, .null, rm_M0, []),
  (.aload 0, .aload_n 0, 1, 0, 0, 0, .null, rm_M0, []),
  (.getfield 97, .getfield 97, 3, 12, 38, 1177, .null, rm_M0, []),
  (.iload 1, .iload_n 1, 1, 0, 0, 0, .null, rm_M0, []),
  (.nop, .bipush 30, 2, 0, 0, 0, .int 30, rm_M0, []),
  (.isub, .isub, 1, 0, 0, 0, .null, rm_M0, []),
  (.aload 0, .aload_n 0, 1, 0, 0, 0, .null, rm_M0, []),
  (.getfield 97, .getfield 97, 3, 12, 38, 1177, .null, rm_M0, []),
  (.iload 1, .iload_n 1, 1, 0, 0, 0, .null, rm_M0, []),
  (.iaload, .iaload, 1, 0, 0, 0, .null, rm_M0, []),
  (.iastore, .iastore, 1, 0, 0, 0, .null, rm_M0, []),
  (.iinc 1 1, .iinc 1 1, 3, 0, 0, 0, .int 1, rm_M0, []),
  (.goto (-25), .goto (-25), 3, 12, 0, 0, .null, rm_M0, [])]
def bX12_keepsAct_40 : List rm_J := [
  (.aload 0, .aload_n 0, 1, 0, 0, 0, .null, rm_M0, []),
  (.dup, .dup, 1, 0, 0, 0, .null, rm_M0, []),
  (.getfield 297, .getfield 297, 3, 12, 40, 1179, .null, rm_M0, []),
  (.nop, .iconst 1, 1, 0, 0, 0, .int 1, rm_M0, []),
  (.isub, .isub, 1, 0, 0, 0, .null, rm_M0, []),
  (.putfield 297, .putfield 297, 3, 12, 40, 1179, .int 0, rm_M0, [])]
def bX12_keepsAct_50 : List rm_J := [
  (.aload 0, .aload_n 0, 1, 0, 0, 0, .null, rm_M0, []),
  (.aload 0, .aload_n 0, 1, 0, 0, 0, .null, rm_M0, []),
  (.getfield 297, .getfield 297, 3, 12, 40, 1179, .null, rm_M0, []),
  (.nop, .iconst 0, 1, 0, 0, 0, .int 0, rm_M0, []),
  (.invokevirtual 393, .invokevirtual 393, 3, 0, 2, 0, .null, mX12_movesAll, [(0, 1505), (0, 1507), (0, 67)]),
  (.aload 0, .aload_n 0, 1, 0, 0, 0, .null, rm_M0, []),
  (.dup, .dup, 1, 0, 0, 0, .null, rm_M0, []),
  (.getfield 297, .getfield 297, 3, 12, 40, 1179, .null, rm_M0, []),
  (.nop, .iconst 1, 1, 0, 0, 0, .int 1, rm_M0, []),
  (.iadd, .iadd, 1, 0, 0, 0, .null, rm_M0, []),
  (.putfield 297, .putfield 297, 3, 12, 40, 1179, .int 0, rm_M0, []),
  (.return_, .return_, 1, 0, 0, 0, .null, rm_M0, [])]
def tX12_keepsAct : rm_P := [(0, bX12_keepsAct_0), (12, bX12_keepsAct_12), (40, bX12_keepsAct_40), (50, bX12_keepsAct_50)]
theorem ok_X12_keepsAct_t : rm_okP mX12_keepsAct tX12_keepsAct = true := by decide +kernel
theorem ok_X12_keepsAct : rm_okM mX12_keepsAct tX12_keepsAct := ⟨ok_X12_keepsAct_t, List.forall_mem_cons.mpr ⟨cw_X12_movesAll, fun _ h => absurd h List.not_mem_nil⟩⟩
theorem atX12_keepsAct_0 : rm_at tX12_keepsAct 0 = some bX12_keepsAct_0 := rfl
theorem atX12_keepsAct_12 : rm_at tX12_keepsAct 12 = some bX12_keepsAct_12 := rfl
theorem atX12_keepsAct_40 : rm_at tX12_keepsAct 40 = some bX12_keepsAct_40 := rfl
theorem atX12_keepsAct_50 : rm_at tX12_keepsAct 50 = some bX12_keepsAct_50 := rfl
def bX12_undo_0 : List rm_J := [
  (.aload 0, .aload_n 0, 1, 0, 0, 0, .null, rm_M0, []),
  (.getfield 297, .getfield 297, 3, 12, 40, 1179, .null, rm_M0, []),
  (.ifCond .ne 6, .ifCond .ne 6, 3, 10, 0, 0, .null, rm_M0, []),
  (.nop, .bipush (-2), 2, 0, 0, 0, .int (-2), rm_M0, []),
  (.ireturn, .ireturn, 1, 0, 0, 0, .null, rm_M0, [])]
def bX12_undo_10 : List rm_J := [
  (.aload 0, .aload_n 0, 1, 0, 0, 0, .null, rm_M0, []),
  (.dup, .dup, 1, 0, 0, 0, .null, rm_M0, []),
  (.getfield 297, .getfield 297, 3, 12, 40, 1179, .null, rm_M0, []),
  (.nop, .iconst 1, 1, 0, 0, 0, .int 1, rm_M0, []),
  (.isub, .isub, 1, 0, 0, 0, .null, rm_M0, []),
  (.putfield 297, .putfield 297, 3, 12, 40, 1179, .int 0, rm_M0, []),
  (.aload 0, .aload_n 0, 1, 0, 0, 0, .null, rm_M0, []),
  (.aload 0, .aload_n 0, 1, 0, 0, 0, .null, rm_M0, []),
  (.getfield 297, .getfield 297, 3, 12, 40, 1179, .null, rm_M0, []),
  (.nop, .iconst 1, 1, 0, 0, 0, .int 1, rm_M0, []),
  (.invokevirtual 393, .invokevirtual 393, 3, 0, 2, 0, .null, mX12_movesAll, [(0, 1505), (0, 1507), (0, 67)]),
  (.aload 0, .aload_n 0, 1, 0, 0, 0, .null, rm_M0, []),
  (.getfield 297, .getfield 297, 3, 12, 40, 1179, .null, rm_M0, []),
  (.ireturn, .ireturn, 1, 0, 0, 0, .null, rm_M0, [])]
def tX12_undo : rm_P := [(0, bX12_undo_0), (10, bX12_undo_10)]
theorem ok_X12_undo_t : rm_okP mX12_undo tX12_undo = true := by decide +kernel
theorem ok_X12_undo : rm_okM mX12_undo tX12_undo := ⟨ok_X12_undo_t, List.forall_mem_cons.mpr ⟨cw_X12_movesAll, fun _ h => absurd h List.not_mem_nil⟩⟩
theorem atX12_undo_0 : rm_at tX12_undo 0 = some bX12_undo_0 := rfl
theorem atX12_undo_10 : rm_at tX12_undo 10 = some bX12_undo_10 := rfl
def bX12_day_0 : List rm_J := [
  (.aload 0, .aload_n 0, 1, 0, 0, 0, .null, rm_M0, []),
  (.invokevirtual 397, .invokevirtual 397, 3, 0, 0, 0, .null, mX12_isRealm, [(0, 1521), (0, 1523), (0, 70)]),
  (.ifCond .eq 15, .ifCond .eq 15, 3, 19, 0, 0, .null, rm_M0, []),
  (.aload 0, .aload_n 0, 1, 0, 0, 0, .null, rm_M0, []),
  (.getfield 9, .getfield 9, 3, 12, 1, 1140, .null, rm_M0, []),
  (.nop, .iconst 4, 1, 0, 0, 0, .int 4, rm_M0, []),
  (.iaload, .iaload, 1, 0, 0, 0, .null, rm_M0, []),
  (.nop, .sipush 999, 3, 0, 0, 0, .int 999, rm_M0, []),
  (.if_icmp .ne 6, .if_icmp .ne 6, 3, 22, 0, 0, .null, rm_M0, [])]
def bX12_day_19 : List rm_J := [
  (.nop, .bipush (-2), 2, 0, 0, 0, .int (-2), rm_M0, []),
  (.ireturn, .ireturn, 1, 0, 0, 0, .null, rm_M0, [])]
def bX12_day_22 : List rm_J := [
  (.aload 0, .aload_n 0, 1, 0, 0, 0, .null, rm_M0, []),
  (.invokevirtual 400, .invokevirtual 400, 3, 0, 0, 0, .null, mX12_keepsAct, [(0, 1525), (0, 1527), (0, 71)]),
  (.aload 0, .aload_n 0, 1, 0, 0, 0, .null, rm_M0, []),
  (.invokevirtual 376, .invokevirtual 376, 3, 0, 0, 0, .null, mX12_goes, [(0, 1529), (0, 1531), (0, 72)]),
  (.ireturn, .ireturn, 1, 0, 0, 0, .null, rm_M0, [])]
def tX12_day : rm_P := [(0, bX12_day_0), (19, bX12_day_19), (22, bX12_day_22)]
theorem ok_X12_day_t : rm_okP mX12_day tX12_day = true := by decide +kernel
theorem ok_X12_day : rm_okM mX12_day tX12_day := ⟨ok_X12_day_t, List.forall_mem_cons.mpr ⟨cw_X12_isRealm, List.forall_mem_cons.mpr ⟨cw_X12_keepsAct, List.forall_mem_cons.mpr ⟨cw_X12_goes, fun _ h => absurd h List.not_mem_nil⟩⟩⟩⟩
theorem atX12_day_0 : rm_at tX12_day 0 = some bX12_day_0 := rfl
theorem atX12_day_19 : rm_at tX12_day 19 = some bX12_day_19 := rfl
theorem atX12_day_22 : rm_at tX12_day 22 = some bX12_day_22 := rfl
def bX12_use_0 : List rm_J := [
  (.aload 0, .aload_n 0, 1, 0, 0, 0, .null, rm_M0, []),
  (.iload 1, .iload_n 1, 1, 0, 0, 0, .null, rm_M0, []),
  (.invokevirtual 340, .invokevirtual 340, 3, 0, 1, 0, .null, mX12_isQuestion, [(0, 1482), (0, 1484), (0, 63)]),
  (.ifCond .eq 20, .ifCond .eq 20, 3, 25, 0, 0, .null, rm_M0, []),
  (.aload 0, .aload_n 0, 1, 0, 0, 0, .null, rm_M0, []),
  (.getfield 9, .getfield 9, 3, 12, 1, 1140, .null, rm_M0, []),
  (.nop, .iconst 5, 1, 0, 0, 0, .int 5, rm_M0, []),
  (.iaload, .iaload, 1, 0, 0, 0, .null, rm_M0, []),
  (.ifCond .eq 11, .ifCond .eq 11, 3, 25, 0, 0, .null, rm_M0, []),
  (.aload 0, .aload_n 0, 1, 0, 0, 0, .null, rm_M0, []),
  (.iload 1, .iload_n 1, 1, 0, 0, 0, .null, rm_M0, []),
  (.invokevirtual 330, .invokevirtual 330, 3, 0, 1, 0, .null, mX12_isOpen, [(0, 1486), (0, 1488), (0, 64)]),
  (.ifCond .ne 5, .ifCond .ne 5, 3, 27, 0, 0, .null, rm_M0, [])]
def bX12_use_25 : List rm_J := [
  (.nop, .iconst (-1), 1, 0, 0, 0, .int (-1), rm_M0, []),
  (.ireturn, .ireturn, 1, 0, 0, 0, .null, rm_M0, [])]
def bX12_use_27 : List rm_J := [
  (.aload 0, .aload_n 0, 1, 0, 0, 0, .null, rm_M0, []),
  (.invokevirtual 400, .invokevirtual 400, 3, 0, 0, 0, .null, mX12_keepsAct, [(0, 1525), (0, 1527), (0, 71)]),
  (.aload 0, .aload_n 0, 1, 0, 0, 0, .null, rm_M0, []),
  (.getfield 9, .getfield 9, 3, 12, 1, 1140, .null, rm_M0, []),
  (.nop, .iconst 5, 1, 0, 0, 0, .int 5, rm_M0, []),
  (.dup2, .dup2, 1, 0, 0, 0, .null, rm_M0, []),
  (.iaload, .iaload, 1, 0, 0, 0, .null, rm_M0, []),
  (.nop, .iconst 1, 1, 0, 0, 0, .int 1, rm_M0, []),
  (.isub, .isub, 1, 0, 0, 0, .null, rm_M0, []),
  (.iastore, .iastore, 1, 0, 0, 0, .null, rm_M0, []),
  (.aload 0, .aload_n 0, 1, 0, 0, 0, .null, rm_M0, []),
  (.iload 1, .iload_n 1, 1, 0, 0, 0, .null, rm_M0, []),
  (.invokevirtual 367, .invokevirtual 367, 3, 0, 1, 0, .null, mX12_answered, [(0, 1574), (0, 1576), (0, 80)]),
  (.ireturn, .ireturn, 1, 0, 0, 0, .null, rm_M0, [])]
def tX12_use : rm_P := [(0, bX12_use_0), (25, bX12_use_25), (27, bX12_use_27)]
theorem ok_X12_use_t : rm_okP mX12_use tX12_use = true := by decide +kernel
theorem ok_X12_use : rm_okM mX12_use tX12_use := ⟨ok_X12_use_t, List.forall_mem_cons.mpr ⟨cw_X12_isQuestion, List.forall_mem_cons.mpr ⟨cw_X12_isOpen, List.forall_mem_cons.mpr ⟨cw_X12_keepsAct, List.forall_mem_cons.mpr ⟨cw_X12_answered, fun _ h => absurd h List.not_mem_nil⟩⟩⟩⟩⟩
theorem atX12_use_0 : rm_at tX12_use 0 = some bX12_use_0 := rfl
theorem atX12_use_25 : rm_at tX12_use 25 = some bX12_use_25 := rfl
theorem atX12_use_27 : rm_at tX12_use 27 = some bX12_use_27 := rfl
def bX12_egg_0 : List rm_J := [
  (.aload 0, .aload_n 0, 1, 0, 0, 0, .null, rm_M0, []),
  (.invokevirtual 397, .invokevirtual 397, 3, 0, 0, 0, .null, mX12_isRealm, [(0, 1521), (0, 1523), (0, 70)]),
  (.ifCond .eq 14, .ifCond .eq 14, 3, 18, 0, 0, .null, rm_M0, []),
  (.aload 0, .aload_n 0, 1, 0, 0, 0, .null, rm_M0, []),
  (.getfield 9, .getfield 9, 3, 12, 1, 1140, .null, rm_M0, []),
  (.nop, .bipush 9, 2, 0, 0, 0, .int 9, rm_M0, []),
  (.iaload, .iaload, 1, 0, 0, 0, .null, rm_M0, []),
  (.nop, .iconst 1, 1, 0, 0, 0, .int 1, rm_M0, []),
  (.if_icmp .ne 5, .if_icmp .ne 5, 3, 20, 0, 0, .null, rm_M0, [])]
def bX12_egg_18 : List rm_J := [
  (.nop, .iconst (-1), 1, 0, 0, 0, .int (-1), rm_M0, []),
  (.ireturn, .ireturn, 1, 0, 0, 0, .null, rm_M0, [])]
def bX12_egg_20 : List rm_J := [
  (.aload 0, .aload_n 0, 1, 0, 0, 0, .null, rm_M0, []),
  (.invokevirtual 400, .invokevirtual 400, 3, 0, 0, 0, .null, mX12_keepsAct, [(0, 1525), (0, 1527), (0, 71)]),
  (.aload 0, .aload_n 0, 1, 0, 0, 0, .null, rm_M0, []),
  (.getfield 9, .getfield 9, 3, 12, 1, 1140, .null, rm_M0, []),
  (.nop, .bipush 9, 2, 0, 0, 0, .int 9, rm_M0, []),
  (.nop, .iconst 1, 1, 0, 0, 0, .int 1, rm_M0, []),
  (.iastore, .iastore, 1, 0, 0, 0, .null, rm_M0, []),
  (.aload 0, .aload_n 0, 1, 0, 0, 0, .null, rm_M0, []),
  (.getfield 9, .getfield 9, 3, 12, 1, 1140, .null, rm_M0, []),
  (.nop, .iconst 4, 1, 0, 0, 0, .int 4, rm_M0, []),
  (.iaload, .iaload, 1, 0, 0, 0, .null, rm_M0, []),
  (.ireturn, .ireturn, 1, 0, 0, 0, .null, rm_M0, [])]
def tX12_egg : rm_P := [(0, bX12_egg_0), (18, bX12_egg_18), (20, bX12_egg_20)]
theorem ok_X12_egg_t : rm_okP mX12_egg tX12_egg = true := by decide +kernel
theorem ok_X12_egg : rm_okM mX12_egg tX12_egg := ⟨ok_X12_egg_t, List.forall_mem_cons.mpr ⟨cw_X12_isRealm, List.forall_mem_cons.mpr ⟨cw_X12_keepsAct, fun _ h => absurd h List.not_mem_nil⟩⟩⟩
theorem atX12_egg_0 : rm_at tX12_egg 0 = some bX12_egg_0 := rfl
theorem atX12_egg_18 : rm_at tX12_egg 18 = some bX12_egg_18 := rfl
theorem atX12_egg_20 : rm_at tX12_egg 20 = some bX12_egg_20 := rfl
def bX12_ties_0 : List rm_J := [
  (.aload 0, .aload_n 0, 1, 0, 0, 0, .null, rm_M0, []),
  (.getfield 19, .getfield 19, 3, 12, 4, 1143, .null, rm_M0, []),
  (.iload 1, .iload_n 1, 1, 0, 0, 0, .null, rm_M0, []),
  (.dup2, .dup2, 1, 0, 0, 0, .null, rm_M0, []),
  (.iaload, .iaload, 1, 0, 0, 0, .null, rm_M0, []),
  (.nop, .iconst 1, 1, 0, 0, 0, .int 1, rm_M0, []),
  (.iload 2, .iload_n 2, 1, 0, 0, 0, .null, rm_M0, []),
  (.ishl, .ishl, 1, 0, 0, 0, .null, rm_M0, []),
  (.ixor, .ixor, 1, 0, 0, 0, .null, rm_M0, []),
  (.iastore, .iastore, 1, 0, 0, 0, .null, rm_M0, []),
  (.aload 0, .aload_n 0, 1, 0, 0, 0, .null, rm_M0, []),
  (.getfield 19, .getfield 19, 3, 12, 4, 1143, .null, rm_M0, []),
  (.iload 2, .iload_n 2, 1, 0, 0, 0, .null, rm_M0, []),
  (.dup2, .dup2, 1, 0, 0, 0, .null, rm_M0, []),
  (.iaload, .iaload, 1, 0, 0, 0, .null, rm_M0, []),
  (.nop, .iconst 1, 1, 0, 0, 0, .int 1, rm_M0, []),
  (.iload 1, .iload_n 1, 1, 0, 0, 0, .null, rm_M0, []),
  (.ishl, .ishl, 1, 0, 0, 0, .null, rm_M0, []),
  (.ixor, .ixor, 1, 0, 0, 0, .null, rm_M0, []),
  (.iastore, .iastore, 1, 0, 0, 0, .null, rm_M0, []),
  (.return_, .return_, 1, 0, 0, 0, .null, rm_M0, [])]
def tX12_ties : rm_P := [(0, bX12_ties_0)]
theorem ok_X12_ties_t : rm_okP mX12_ties tX12_ties = true := by decide +kernel
theorem ok_X12_ties : rm_okM mX12_ties tX12_ties := ⟨ok_X12_ties_t, fun _ h => absurd h List.not_mem_nil⟩
theorem atX12_ties_0 : rm_at tX12_ties 0 = some bX12_ties_0 := rfl
def bX12_tie_0 : List rm_J := [
  (.aload 0, .aload_n 0, 1, 0, 0, 0, .null, rm_M0, []),
  (.iload 1, .iload_n 1, 1, 0, 0, 0, .null, rm_M0, []),
  (.invokevirtual 340, .invokevirtual 340, 3, 0, 1, 0, .null, mX12_isQuestion, [(0, 1482), (0, 1484), (0, 63)]),
  (.ifCond .eq 16, .ifCond .eq 16, 3, 21, 0, 0, .null, rm_M0, []),
  (.aload 0, .aload_n 0, 1, 0, 0, 0, .null, rm_M0, []),
  (.iload 2, .iload_n 2, 1, 0, 0, 0, .null, rm_M0, []),
  (.invokevirtual 340, .invokevirtual 340, 3, 0, 1, 0, .null, mX12_isQuestion, [(0, 1482), (0, 1484), (0, 63)]),
  (.ifCond .eq 8, .ifCond .eq 8, 3, 21, 0, 0, .null, rm_M0, []),
  (.iload 1, .iload_n 1, 1, 0, 0, 0, .null, rm_M0, []),
  (.iload 2, .iload_n 2, 1, 0, 0, 0, .null, rm_M0, []),
  (.if_icmp .ne 5, .if_icmp .ne 5, 3, 23, 0, 0, .null, rm_M0, [])]
def bX12_tie_21 : List rm_J := [
  (.nop, .iconst (-1), 1, 0, 0, 0, .int (-1), rm_M0, []),
  (.ireturn, .ireturn, 1, 0, 0, 0, .null, rm_M0, [])]
def bX12_tie_23 : List rm_J := [
  (.aload 0, .aload_n 0, 1, 0, 0, 0, .null, rm_M0, []),
  (.invokevirtual 400, .invokevirtual 400, 3, 0, 0, 0, .null, mX12_keepsAct, [(0, 1525), (0, 1527), (0, 71)]),
  (.aload 0, .aload_n 0, 1, 0, 0, 0, .null, rm_M0, []),
  (.iload 1, .iload_n 1, 1, 0, 0, 0, .null, rm_M0, []),
  (.iload 2, .iload_n 2, 1, 0, 0, 0, .null, rm_M0, []),
  (.invokevirtual 403, .invokevirtual 403, 3, 0, 2, 0, .null, mX12_ties, [(0, 1590), (0, 1592), (0, 81)]),
  (.aload 0, .aload_n 0, 1, 0, 0, 0, .null, rm_M0, []),
  (.getfield 19, .getfield 19, 3, 12, 4, 1143, .null, rm_M0, []),
  (.iload 1, .iload_n 1, 1, 0, 0, 0, .null, rm_M0, []),
  (.iaload, .iaload, 1, 0, 0, 0, .null, rm_M0, []),
  (.iload 2, .iload_n 2, 1, 0, 0, 0, .null, rm_M0, []),
  (.ishr, .ishr, 1, 0, 0, 0, .null, rm_M0, []),
  (.nop, .iconst 1, 1, 0, 0, 0, .int 1, rm_M0, []),
  (.iand, .iand, 1, 0, 0, 0, .null, rm_M0, []),
  (.ireturn, .ireturn, 1, 0, 0, 0, .null, rm_M0, [])]
def tX12_tie : rm_P := [(0, bX12_tie_0), (21, bX12_tie_21), (23, bX12_tie_23)]
theorem ok_X12_tie_t : rm_okP mX12_tie tX12_tie = true := by decide +kernel
theorem ok_X12_tie : rm_okM mX12_tie tX12_tie := ⟨ok_X12_tie_t, List.forall_mem_cons.mpr ⟨cw_X12_isQuestion, List.forall_mem_cons.mpr ⟨cw_X12_isQuestion, List.forall_mem_cons.mpr ⟨cw_X12_keepsAct, List.forall_mem_cons.mpr ⟨cw_X12_ties, fun _ h => absurd h List.not_mem_nil⟩⟩⟩⟩⟩
theorem atX12_tie_0 : rm_at tX12_tie 0 = some bX12_tie_0 := rfl
theorem atX12_tie_21 : rm_at tX12_tie 21 = some bX12_tie_21 := rfl
theorem atX12_tie_23 : rm_at tX12_tie 23 = some bX12_tie_23 := rfl
