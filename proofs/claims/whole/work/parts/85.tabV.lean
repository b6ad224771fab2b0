/-! The table of carriesAll, cut behind each call -/
def bX12_carriesAllV_0 : List rm_J := [
  (.aload 0, .aload_n 0, 1, 0, 0, 0, .null, rm_M0, []),
  (.nop, .sipush 800, 3, 0, 0, 0, .int 800, rm_M0, []),
  (.iload 1, .iload_n 1, 1, 0, 0, 0, .null, rm_M0, []),
  (.imul, .imul, 1, 0, 0, 0, .null, rm_M0, []),
  (.putfield 485, .putfield 485, 3, 12, 52, 1191, .int 0, rm_M0, []),
  (.aload 0, .aload_n 0, 1, 0, 0, 0, .null, rm_M0, []),
  (.iload 2, .iload_n 2, 1, 0, 0, 0, .null, rm_M0, []),
  (.putfield 482, .putfield 482, 3, 12, 53, 1192, .int 2, rm_M0, []),
  (.aload 0, .aload_n 0, 1, 0, 0, 0, .null, rm_M0, []),
  (.aload 0, .aload_n 0, 1, 0, 0, 0, .null, rm_M0, []),
  (.getfield 9, .getfield 9, 3, 12, 1, 1140, .null, rm_M0, []),
  (.invokevirtual 488, .invokevirtual 488, 3, 0, 1, 0, .null, mX12_carryRow, [(0, 1612), (0, 1614), (0, 84)])]
def bX12_carriesAllV_22 : List rm_J := [
  (.aload 0, .aload_n 0, 1, 0, 0, 0, .null, rm_M0, []),
  (.aload 0, .aload_n 0, 1, 0, 0, 0, .null, rm_M0, []),
  (.getfield 13, .getfield 13, 3, 12, 2, 1141, .null, rm_M0, []),
  (.invokevirtual 488, .invokevirtual 488, 3, 0, 1, 0, .null, mX12_carryRow, [(0, 1612), (0, 1614), (0, 84)])]
def bX12_carriesAllV_30 : List rm_J := [
  (.aload 0, .aload_n 0, 1, 0, 0, 0, .null, rm_M0, []),
  (.aload 0, .aload_n 0, 1, 0, 0, 0, .null, rm_M0, []),
  (.getfield 16, .getfield 16, 3, 12, 3, 1142, .null, rm_M0, []),
  (.invokevirtual 488, .invokevirtual 488, 3, 0, 1, 0, .null, mX12_carryRow, [(0, 1612), (0, 1614), (0, 84)])]
def bX12_carriesAllV_38 : List rm_J := [
  (.aload 0, .aload_n 0, 1, 0, 0, 0, .null, rm_M0, []),
  (.aload 0, .aload_n 0, 1, 0, 0, 0, .null, rm_M0, []),
  (.getfield 19, .getfield 19, 3, 12, 4, 1143, .null, rm_M0, []),
  (.invokevirtual 488, .invokevirtual 488, 3, 0, 1, 0, .null, mX12_carryRow, [(0, 1612), (0, 1614), (0, 84)])]
def bX12_carriesAllV_46 : List rm_J := [
  (.aload 0, .aload_n 0, 1, 0, 0, 0, .null, rm_M0, []),
  (.aload 0, .aload_n 0, 1, 0, 0, 0, .null, rm_M0, []),
  (.getfield 28, .getfield 28, 3, 12, 7, 1146, .null, rm_M0, []),
  (.invokevirtual 488, .invokevirtual 488, 3, 0, 1, 0, .null, mX12_carryRow, [(0, 1612), (0, 1614), (0, 84)])]
def bX12_carriesAllV_54 : List rm_J := [
  (.iload 1, .iload_n 1, 1, 0, 0, 0, .null, rm_M0, []),
  (.nop, .iconst 4, 1, 0, 0, 0, .int 4, rm_M0, []),
  (.if_icmp .ne 4, .if_icmp .ne 4, 3, 60, 0, 0, .null, rm_M0, []),
  (.return_, .return_, 1, 0, 0, 0, .null, rm_M0, [])]
def bX12_carriesAllV_60 : List rm_J := [
  (.aload 0, .aload_n 0, 1, 0, 0, 0, .null, rm_M0, []),
  (.getfield 100, .getfield 100, 3, 12, 39, 1178, .null, rm_M0, []),
  (.nop, .iconst 0, 1, 0, 0, 0, .int 0, rm_M0, []),
  (.aload 0, .aload_n 0, 1, 0, 0, 0, .null, rm_M0, []),
  (.getfield 297, .getfield 297, 3, 12, 40, 1179, .null, rm_M0, []),
  (.iastore, .iastore, 1, 0, 0, 0, .null, rm_M0, []),
  (.aload 0, .aload_n 0, 1, 0, 0, 0, .null, rm_M0, []),
  (.aload 0, .aload_n 0, 1, 0, 0, 0, .null, rm_M0, []),
  (.getfield 100, .getfield 100, 3, 12, 39, 1178, .null, rm_M0, []),
  (.invokevirtual 488, .invokevirtual 488, 3, 0, 1, 0, .null, mX12_carryRow, [(0, 1612), (0, 1614), (0, 84)])]
def bX12_carriesAllV_78 : List rm_J := [
  (.aload 0, .aload_n 0, 1, 0, 0, 0, .null, rm_M0, []),
  (.aload 0, .aload_n 0, 1, 0, 0, 0, .null, rm_M0, []),
  (.getfield 100, .getfield 100, 3, 12, 39, 1178, .null, rm_M0, []),
  (.nop, .iconst 0, 1, 0, 0, 0, .int 0, rm_M0, []),
  (.iaload, .iaload, 1, 0, 0, 0, .null, rm_M0, []),
  (.putfield 297, .putfield 297, 3, 12, 40, 1179, .int 0, rm_M0, []),
  (.aload 0, .aload_n 0, 1, 0, 0, 0, .null, rm_M0, []),
  (.aload 0, .aload_n 0, 1, 0, 0, 0, .null, rm_M0, []),
  (.getfield 22, .getfield 22, 3, 12, 5, 1144, .null, rm_M0, []),
  (.invokevirtual 488, .invokevirtual 488, 3, 0, 1, 0, .null, mX12_carryRow, [(0, 1612), (0, 1614), (0, 84)])]
def bX12_carriesAllV_96 : List rm_J := [
  (.aload 0, .aload_n 0, 1, 0, 0, 0, .null, rm_M0, []),
  (.aload 0, .aload_n 0, 1, 0, 0, 0, .null, rm_M0, []),
  (.getfield 25, .getfield 25, 3, 12, 6, 1145, .null, rm_M0, []),
  (.invokevirtual 488, .invokevirtual 488, 3, 0, 1, 0, .null, mX12_carryRow, [(0, 1612), (0, 1614), (0, 84)])]
def bX12_carriesAllV_104 : List rm_J := [
  (.aload 0, .aload_n 0, 1, 0, 0, 0, .null, rm_M0, []),
  (.aload 0, .aload_n 0, 1, 0, 0, 0, .null, rm_M0, []),
  (.getfield 31, .getfield 31, 3, 12, 8, 1147, .null, rm_M0, []),
  (.invokevirtual 488, .invokevirtual 488, 3, 0, 1, 0, .null, mX12_carryRow, [(0, 1612), (0, 1614), (0, 84)])]
def bX12_carriesAllV_112 : List rm_J := [
  (.aload 0, .aload_n 0, 1, 0, 0, 0, .null, rm_M0, []),
  (.aload 0, .aload_n 0, 1, 0, 0, 0, .null, rm_M0, []),
  (.getfield 34, .getfield 34, 3, 12, 9, 1148, .null, rm_M0, []),
  (.invokevirtual 488, .invokevirtual 488, 3, 0, 1, 0, .null, mX12_carryRow, [(0, 1612), (0, 1614), (0, 84)])]
def bX12_carriesAllV_120 : List rm_J := [
  (.aload 0, .aload_n 0, 1, 0, 0, 0, .null, rm_M0, []),
  (.aload 0, .aload_n 0, 1, 0, 0, 0, .null, rm_M0, []),
  (.getfield 37, .getfield 37, 3, 12, 10, 1149, .null, rm_M0, []),
  (.invokevirtual 488, .invokevirtual 488, 3, 0, 1, 0, .null, mX12_carryRow, [(0, 1612), (0, 1614), (0, 84)])]
def bX12_carriesAllV_128 : List rm_J := [
  (.aload 0, .aload_n 0, 1, 0, 0, 0, .null, rm_M0, []),
  (.aload 0, .aload_n 0, 1, 0, 0, 0, .null, rm_M0, []),
  (.getfield 40, .getfield 40, 3, 12, 11, 1150, .null, rm_M0, []),
  (.invokevirtual 488, .invokevirtual 488, 3, 0, 1, 0, .null, mX12_carryRow, [(0, 1612), (0, 1614), (0, 84)])]
def bX12_carriesAllV_136 : List rm_J := [
  (.aload 0, .aload_n 0, 1, 0, 0, 0, .null, rm_M0, []),
  (.aload 0, .aload_n 0, 1, 0, 0, 0, .null, rm_M0, []),
  (.getfield 97, .getfield 97, 3, 12, 38, 1177, .null, rm_M0, []),
  (.invokevirtual 488, .invokevirtual 488, 3, 0, 1, 0, .null, mX12_carryRow, [(0, 1612), (0, 1614), (0, 84)])]
def bX12_carriesAllV_144 : List rm_J := [
  (.return_, .return_, 1, 0, 0, 0, .null, rm_M0, [])]
def tX12_carriesAllV : rm_P := [(0, bX12_carriesAllV_0), (22, bX12_carriesAllV_22), (30, bX12_carriesAllV_30), (38, bX12_carriesAllV_38), (46, bX12_carriesAllV_46), (54, bX12_carriesAllV_54), (60, bX12_carriesAllV_60), (78, bX12_carriesAllV_78), (96, bX12_carriesAllV_96), (104, bX12_carriesAllV_104), (112, bX12_carriesAllV_112), (120, bX12_carriesAllV_120), (128, bX12_carriesAllV_128), (136, bX12_carriesAllV_136), (144, bX12_carriesAllV_144)]
theorem ok_X12_carriesAllV_t : rm_okP mX12_carriesAll tX12_carriesAllV = true := by decide +kernel
theorem ok_X12_carriesAllV : rm_okM mX12_carriesAll tX12_carriesAllV := ⟨ok_X12_carriesAllV_t, List.forall_mem_cons.mpr ⟨cw_X12_carryRow, List.forall_mem_cons.mpr ⟨cw_X12_carryRow, List.forall_mem_cons.mpr ⟨cw_X12_carryRow, List.forall_mem_cons.mpr ⟨cw_X12_carryRow, List.forall_mem_cons.mpr ⟨cw_X12_carryRow, List.forall_mem_cons.mpr ⟨cw_X12_carryRow, List.forall_mem_cons.mpr ⟨cw_X12_carryRow, List.forall_mem_cons.mpr ⟨cw_X12_carryRow, List.forall_mem_cons.mpr ⟨cw_X12_carryRow, List.forall_mem_cons.mpr ⟨cw_X12_carryRow, List.forall_mem_cons.mpr ⟨cw_X12_carryRow, List.forall_mem_cons.mpr ⟨cw_X12_carryRow, List.forall_mem_cons.mpr ⟨cw_X12_carryRow, fun _ h => absurd h List.not_mem_nil⟩⟩⟩⟩⟩⟩⟩⟩⟩⟩⟩⟩⟩⟩
theorem atX12_carriesAllV_0 : rm_at tX12_carriesAllV 0 = some bX12_carriesAllV_0 := rfl
theorem atX12_carriesAllV_22 : rm_at tX12_carriesAllV 22 = some bX12_carriesAllV_22 := rfl
theorem atX12_carriesAllV_30 : rm_at tX12_carriesAllV 30 = some bX12_carriesAllV_30 := rfl
theorem atX12_carriesAllV_38 : rm_at tX12_carriesAllV 38 = some bX12_carriesAllV_38 := rfl
theorem atX12_carriesAllV_46 : rm_at tX12_carriesAllV 46 = some bX12_carriesAllV_46 := rfl
theorem atX12_carriesAllV_54 : rm_at tX12_carriesAllV 54 = some bX12_carriesAllV_54 := rfl
theorem atX12_carriesAllV_60 : rm_at tX12_carriesAllV 60 = some bX12_carriesAllV_60 := rfl
theorem atX12_carriesAllV_78 : rm_at tX12_carriesAllV 78 = some bX12_carriesAllV_78 := rfl
theorem atX12_carriesAllV_96 : rm_at tX12_carriesAllV 96 = some bX12_carriesAllV_96 := rfl
theorem atX12_carriesAllV_104 : rm_at tX12_carriesAllV 104 = some bX12_carriesAllV_104 := rfl
theorem atX12_carriesAllV_112 : rm_at tX12_carriesAllV 112 = some bX12_carriesAllV_112 := rfl
theorem atX12_carriesAllV_120 : rm_at tX12_carriesAllV 120 = some bX12_carriesAllV_120 := rfl
theorem atX12_carriesAllV_128 : rm_at tX12_carriesAllV 128 = some bX12_carriesAllV_128 := rfl
theorem atX12_carriesAllV_136 : rm_at tX12_carriesAllV 136 = some bX12_carriesAllV_136 := rfl
theorem atX12_carriesAllV_144 : rm_at tX12_carriesAllV 144 = some bX12_carriesAllV_144 := rfl

