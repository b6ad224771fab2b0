/-! Rows of OneDecisionModel, third part. Printed. -/
def bX12_grow_0 : List rm_J := [
  (.aload 0, .aload_n 0, 1, 0, 0, 0, .null, rm_M0, []),
  (.iload 1, .iload_n 1, 1, 0, 0, 0, .null, rm_M0, []),
  (.invokevirtual 340, .invokevirtual 340, 3, 0, 1, 0, .null, mX12_isQuestion, [(0, 1482), (0, 1484), (0, 63)]),
  (.ifCond .eq 24, .ifCond .eq 24, 3, 29, 0, 0, .null, rm_M0, []),
  (.iload 2, .iload_n 2, 1, 0, 0, 0, .null, rm_M0, []),
  (.i2l, .i2l, 1, 0, 0, 0, .null, rm_M0, []),
  (.nop, .lconst 1, 1, 0, 0, 0, .long 1, rm_M0, []),
  (.nop, .ldc2_w 406, 3, 0, 0, 1598, .long 99, rm_M0, []),
  (.invokestatic 125, .invokestatic 125, 3, 0, 3, 0, .null, mX12_in, [(0, 1379), (0, 1380)]),
  (.ifCond .eq 12, .ifCond .eq 12, 3, 29, 0, 0, .null, rm_M0, []),
  (.aload 0, .aload_n 0, 1, 0, 0, 0, .null, rm_M0, []),
  (.getfield 16, .getfield 16, 3, 12, 3, 1142, .null, rm_M0, []),
  (.iload 1, .iload_n 1, 1, 0, 0, 0, .null, rm_M0, []),
  (.iaload, .iaload, 1, 0, 0, 0, .null, rm_M0, []),
  (.ifCond .le 5, .ifCond .le 5, 3, 31, 0, 0, .null, rm_M0, [])]
def bX12_grow_29 : List rm_J := [
  (.nop, .iconst (-1), 1, 0, 0, 0, .int (-1), rm_M0, []),
  (.ireturn, .ireturn, 1, 0, 0, 0, .null, rm_M0, [])]
def bX12_grow_31 : List rm_J := [
  (.aload 0, .aload_n 0, 1, 0, 0, 0, .null, rm_M0, []),
  (.invokevirtual 400, .invokevirtual 400, 3, 0, 0, 0, .null, mX12_keepsAct, [(0, 1525), (0, 1527), (0, 71)]),
  (.aload 0, .aload_n 0, 1, 0, 0, 0, .null, rm_M0, []),
  (.getfield 13, .getfield 13, 3, 12, 2, 1141, .null, rm_M0, []),
  (.iload 1, .iload_n 1, 1, 0, 0, 0, .null, rm_M0, []),
  (.aload 0, .aload_n 0, 1, 0, 0, 0, .null, rm_M0, []),
  (.getfield 13, .getfield 13, 3, 12, 2, 1141, .null, rm_M0, []),
  (.iload 1, .iload_n 1, 1, 0, 0, 0, .null, rm_M0, []),
  (.iaload, .iaload, 1, 0, 0, 0, .null, rm_M0, []),
  (.iload 2, .iload_n 2, 1, 0, 0, 0, .null, rm_M0, []),
  (.iadd, .iadd, 1, 0, 0, 0, .null, rm_M0, []),
  (.nop, .sipush 999, 3, 0, 0, 0, .int 999, rm_M0, []),
  (.invokestatic 345, .invokestatic 345, 3, 0, 2, 0, .null, mX12_upTo, [(0, 1571), (0, 1572)]),
  (.iastore, .iastore, 1, 0, 0, 0, .null, rm_M0, []),
  (.aload 0, .aload_n 0, 1, 0, 0, 0, .null, rm_M0, []),
  (.getfield 13, .getfield 13, 3, 12, 2, 1141, .null, rm_M0, []),
  (.iload 1, .iload_n 1, 1, 0, 0, 0, .null, rm_M0, []),
  (.iaload, .iaload, 1, 0, 0, 0, .null, rm_M0, []),
  (.ireturn, .ireturn, 1, 0, 0, 0, .null, rm_M0, [])]
def tX12_grow : rm_P := [(0, bX12_grow_0), (29, bX12_grow_29), (31, bX12_grow_31)]
theorem ok_X12_grow_t : rm_okP mX12_grow tX12_grow = true := by decide +kernel
theorem ok_X12_grow : rm_okM mX12_grow tX12_grow := ⟨ok_X12_grow_t, List.forall_mem_cons.mpr ⟨cw_X12_isQuestion, List.forall_mem_cons.mpr ⟨cw_X12_in, List.forall_mem_cons.mpr ⟨cw_X12_keepsAct, List.forall_mem_cons.mpr ⟨cw_X12_upTo, fun _ h => absurd h List.not_mem_nil⟩⟩⟩⟩⟩
theorem atX12_grow_0 : rm_at tX12_grow 0 = some bX12_grow_0 := rfl
theorem atX12_grow_29 : rm_at tX12_grow 29 = some bX12_grow_29 := rfl
theorem atX12_grow_31 : rm_at tX12_grow 31 = some bX12_grow_31 := rfl
def bX12_keepsAll_0 : List rm_J := [
  (.aload 0, .aload_n 0, 1, 0, 0, 0, .null, rm_M0, []),
  (.nop, .iconst 4, 1, 0, 0, 0, .int 4, rm_M0, []),
  (.nop, .iconst 0, 1, 0, 0, 0, .int 0, rm_M0, []),
  (.invokevirtual 408, .invokevirtual 408, 3, 0, 2, 0, .null, mX12_carriesAll, [(0, 1608), (0, 1610), (0, 83)]),
  (.return_, .return_, 1, 0, 0, 0, .null, rm_M0, [])]
def tX12_keepsAll : rm_P := [(0, bX12_keepsAll_0)]
theorem ok_X12_keepsAll_t : rm_okP mX12_keepsAll tX12_keepsAll = true := by decide +kernel
theorem ok_X12_keepsAll : rm_okM mX12_keepsAll tX12_keepsAll := ⟨ok_X12_keepsAll_t, List.forall_mem_cons.mpr ⟨cw_X12_carriesAll, fun _ h => absurd h List.not_mem_nil⟩⟩
theorem atX12_keepsAll_0 : rm_at tX12_keepsAll 0 = some bX12_keepsAll_0 := rfl
def bX12_laysBack_0 : List rm_J := [
  (.aload 0, .aload_n 0, 1, 0, 0, 0, .null, rm_M0, []),
  (.nop, .iconst 4, 1, 0, 0, 0, .int 4, rm_M0, []),
  (.nop, .iconst 1, 1, 0, 0, 0, .int 1, rm_M0, []),
  (.invokevirtual 408, .invokevirtual 408, 3, 0, 2, 0, .null, mX12_carriesAll, [(0, 1608), (0, 1610), (0, 83)]),
  (.return_, .return_, 1, 0, 0, 0, .null, rm_M0, [])]
def tX12_laysBack : rm_P := [(0, bX12_laysBack_0)]
theorem ok_X12_laysBack_t : rm_okP mX12_laysBack tX12_laysBack = true := by decide +kernel
theorem ok_X12_laysBack : rm_okM mX12_laysBack tX12_laysBack := ⟨ok_X12_laysBack_t, List.forall_mem_cons.mpr ⟨cw_X12_carriesAll, fun _ h => absurd h List.not_mem_nil⟩⟩
theorem atX12_laysBack_0 : rm_at tX12_laysBack 0 = some bX12_laysBack_0 := rfl
def bX12_net_0 : List rm_J := [
  (.aload 0, .aload_n 0, 1, 0, 0, 0, .null, rm_M0, []),
  (.getfield 9, .getfield 9, 3, 12, 1, 1140, .null, rm_M0, []),
  (.nop, .bipush 6, 2, 0, 0, 0, .int 6, rm_M0, []),
  (.iaload, .iaload, 1, 0, 0, 0, .null, rm_M0, []),
  (.aload 0, .aload_n 0, 1, 0, 0, 0, .null, rm_M0, []),
  (.getfield 9, .getfield 9, 3, 12, 1, 1140, .null, rm_M0, []),
  (.nop, .bipush 7, 2, 0, 0, 0, .int 7, rm_M0, []),
  (.iaload, .iaload, 1, 0, 0, 0, .null, rm_M0, []),
  (.isub, .isub, 1, 0, 0, 0, .null, rm_M0, []),
  (.ireturn, .ireturn, 1, 0, 0, 0, .null, rm_M0, [])]
def tX12_net : rm_P := [(0, bX12_net_0)]
theorem ok_X12_net_t : rm_okP mX12_net tX12_net = true := by decide +kernel
theorem ok_X12_net : rm_okM mX12_net tX12_net := ⟨ok_X12_net_t, fun _ h => absurd h List.not_mem_nil⟩
theorem atX12_net_0 : rm_at tX12_net 0 = some bX12_net_0 := rfl
def bX12_netIn_0 : List rm_J := [
  (.aload 0, .aload_n 0, 1, 0, 0, 0, .null, rm_M0, []),
  (.iload 1, .iload_n 1, 1, 0, 0, 0, .null, rm_M0, []),
  (.invokevirtual 411, .invokevirtual 411, 3, 0, 1, 0, .null, mX12_goFor, [(0, 1616), (0, 1618), (0, 85)]),
  (.aload 0, .aload_n 0, 1, 0, 0, 0, .null, rm_M0, []),
  (.invokevirtual 414, .invokevirtual 414, 3, 0, 0, 0, .null, mX12_net, [(0, 1634), (0, 1636), (0, 87)]),
  (.istore 2, .istore_n 2, 1, 0, 0, 0, .null, rm_M0, []),
  (.aload 0, .aload_n 0, 1, 0, 0, 0, .null, rm_M0, []),
  (.invokevirtual 417, .invokevirtual 417, 3, 0, 0, 0, .null, mX12_laysBack, [(0, 1620), (0, 1622), (0, 86)]),
  (.iload 2, .iload_n 2, 1, 0, 0, 0, .null, rm_M0, []),
  (.ireturn, .ireturn, 1, 0, 0, 0, .null, rm_M0, [])]
def tX12_netIn : rm_P := [(0, bX12_netIn_0)]
theorem ok_X12_netIn_t : rm_okP mX12_netIn tX12_netIn = true := by decide +kernel
theorem ok_X12_netIn : rm_okM mX12_netIn tX12_netIn := ⟨ok_X12_netIn_t, List.forall_mem_cons.mpr ⟨cw_X12_goFor, List.forall_mem_cons.mpr ⟨cw_X12_net, List.forall_mem_cons.mpr ⟨cw_X12_laysBack, fun _ h => absurd h List.not_mem_nil⟩⟩⟩⟩
theorem atX12_netIn_0 : rm_at tX12_netIn 0 = some bX12_netIn_0 := rfl
def bX12_ahead_0 : List rm_J := [
  (.aload 0, .aload_n 0, 1, 0, 0, 0, .null, rm_M0, []),
  (.invokevirtual 397, .invokevirtual 397, 3, 0, 0, 0, .null, mX12_isRealm, [(0, 1521), (0, 1523), (0, 70)]),
  (.ifCond .eq 39, .ifCond .eq 39, 3, 43, 0, 0, .null, rm_M0, []),
  (.iload 3, .iload_n 3, 1, 0, 0, 0, .null, rm_M0, []),
  (.i2l, .i2l, 1, 0, 0, 0, .null, rm_M0, []),
  (.nop, .lconst 0, 1, 0, 0, 0, .long 0, rm_M0, []),
  (.nop, .ldc2_w 420, 3, 0, 0, 1603, .long 3, rm_M0, []),
  (.invokestatic 125, .invokestatic 125, 3, 0, 3, 0, .null, mX12_in, [(0, 1379), (0, 1380)]),
  (.ifCond .eq 27, .ifCond .eq 27, 3, 43, 0, 0, .null, rm_M0, []),
  (.iload 3, .iload_n 3, 1, 0, 0, 0, .null, rm_M0, []),
  (.ifCond .ne 11, .ifCond .ne 11, 3, 31, 0, 0, .null, rm_M0, []),
  (.aload 0, .aload_n 0, 1, 0, 0, 0, .null, rm_M0, []),
  (.iload 1, .iload_n 1, 1, 0, 0, 0, .null, rm_M0, []),
  (.invokevirtual 340, .invokevirtual 340, 3, 0, 1, 0, .null, mX12_isQuestion, [(0, 1482), (0, 1484), (0, 63)]),
  (.ifCond .eq 15, .ifCond .eq 15, 3, 43, 0, 0, .null, rm_M0, [])]
def bX12_ahead_31 : List rm_J := [
  (.iload 2, .iload_n 2, 1, 0, 0, 0, .null, rm_M0, []),
  (.i2l, .i2l, 1, 0, 0, 0, .null, rm_M0, []),
  (.nop, .lconst 0, 1, 0, 0, 0, .long 0, rm_M0, []),
  (.nop, .ldc2_w 358, 3, 0, 0, 1541, .long 100, rm_M0, []),
  (.invokestatic 125, .invokestatic 125, 3, 0, 3, 0, .null, mX12_in, [(0, 1379), (0, 1380)]),
  (.ifCond .ne 5, .ifCond .ne 5, 3, 45, 0, 0, .null, rm_M0, [])]
def bX12_ahead_43 : List rm_J := [
  (.nop, .iconst (-1), 1, 0, 0, 0, .int (-1), rm_M0, []),
  (.ireturn, .ireturn, 1, 0, 0, 0, .null, rm_M0, [])]
def bX12_ahead_45 : List rm_J := [
  (.aload 0, .aload_n 0, 1, 0, 0, 0, .null, rm_M0, []),
  (.invokevirtual 422, .invokevirtual 422, 3, 0, 0, 0, .null, mX12_keepsAll, [(0, 1604), (0, 1606), (0, 82)]),
  (.aload 0, .aload_n 0, 1, 0, 0, 0, .null, rm_M0, []),
  (.iload 2, .iload_n 2, 1, 0, 0, 0, .null, rm_M0, []),
  (.invokevirtual 411, .invokevirtual 411, 3, 0, 1, 0, .null, mX12_goFor, [(0, 1616), (0, 1618), (0, 85)]),
  (.iload 3, .iload_n 3, 1, 0, 0, 0, .null, rm_M0, []),
  (.ifCond .ne 12, .ifCond .ne 12, 3, 67, 0, 0, .null, rm_M0, []),
  (.aload 0, .aload_n 0, 1, 0, 0, 0, .null, rm_M0, []),
  (.getfield 16, .getfield 16, 3, 12, 3, 1142, .null, rm_M0, []),
  (.iload 1, .iload_n 1, 1, 0, 0, 0, .null, rm_M0, []),
  (.iaload, .iaload, 1, 0, 0, 0, .null, rm_M0, []),
  (.goto 39, .goto 39, 3, 103, 0, 0, .null, rm_M0, [])]
def bX12_ahead_67 : List rm_J := [
  (.iload 3, .iload_n 3, 1, 0, 0, 0, .null, rm_M0, []),
  (.nop, .iconst 1, 1, 0, 0, 0, .int 1, rm_M0, []),
  (.if_icmp .ne 13, .if_icmp .ne 13, 3, 82, 0, 0, .null, rm_M0, []),
  (.aload 0, .aload_n 0, 1, 0, 0, 0, .null, rm_M0, []),
  (.getfield 9, .getfield 9, 3, 12, 1, 1140, .null, rm_M0, []),
  (.nop, .bipush 6, 2, 0, 0, 0, .int 6, rm_M0, []),
  (.iaload, .iaload, 1, 0, 0, 0, .null, rm_M0, []),
  (.goto 24, .goto 24, 3, 103, 0, 0, .null, rm_M0, [])]
def bX12_ahead_82 : List rm_J := [
  (.iload 3, .iload_n 3, 1, 0, 0, 0, .null, rm_M0, []),
  (.nop, .iconst 2, 1, 0, 0, 0, .int 2, rm_M0, []),
  (.if_icmp .ne 13, .if_icmp .ne 13, 3, 97, 0, 0, .null, rm_M0, []),
  (.aload 0, .aload_n 0, 1, 0, 0, 0, .null, rm_M0, []),
  (.getfield 9, .getfield 9, 3, 12, 1, 1140, .null, rm_M0, []),
  (.nop, .bipush 7, 2, 0, 0, 0, .int 7, rm_M0, []),
  (.iaload, .iaload, 1, 0, 0, 0, .null, rm_M0, []),
  (.goto 9, .goto 9, 3, 103, 0, 0, .null, rm_M0, [])]
def bX12_ahead_97 : List rm_J := [
  (.aload 0, .aload_n 0, 1, 0, 0, 0, .null, rm_M0, []),
  (.getfield 9, .getfield 9, 3, 12, 1, 1140, .null, rm_M0, []),
  (.nop, .iconst 5, 1, 0, 0, 0, .int 5, rm_M0, []),
  (.iaload, .iaload, 1, 0, 0, 0, .null, rm_M0, [])]
def bX12_ahead_103 : List rm_J := [
  (.istore 4, .istore 4, 2, 0, 0, 0, .null, rm_M0, []),
  (.aload 0, .aload_n 0, 1, 0, 0, 0, .null, rm_M0, []),
  (.invokevirtual 417, .invokevirtual 417, 3, 0, 0, 0, .null, mX12_laysBack, [(0, 1620), (0, 1622), (0, 86)]),
  (.iload 4, .iload 4, 2, 0, 0, 0, .null, rm_M0, []),
  (.ireturn, .ireturn, 1, 0, 0, 0, .null, rm_M0, [])]
def tX12_ahead : rm_P := [(0, bX12_ahead_0), (31, bX12_ahead_31), (43, bX12_ahead_43), (45, bX12_ahead_45), (67, bX12_ahead_67), (82, bX12_ahead_82), (97, bX12_ahead_97), (103, bX12_ahead_103)]
theorem ok_X12_ahead_t : rm_okP mX12_ahead tX12_ahead = true := by decide +kernel
theorem ok_X12_ahead : rm_okM mX12_ahead tX12_ahead := ⟨ok_X12_ahead_t, List.forall_mem_cons.mpr ⟨cw_X12_isRealm, List.forall_mem_cons.mpr ⟨cw_X12_in, List.forall_mem_cons.mpr ⟨cw_X12_isQuestion, List.forall_mem_cons.mpr ⟨cw_X12_in, List.forall_mem_cons.mpr ⟨cw_X12_keepsAll, List.forall_mem_cons.mpr ⟨cw_X12_goFor, List.forall_mem_cons.mpr ⟨cw_X12_laysBack, fun _ h => absurd h List.not_mem_nil⟩⟩⟩⟩⟩⟩⟩⟩
theorem atX12_ahead_0 : rm_at tX12_ahead 0 = some bX12_ahead_0 := rfl
theorem atX12_ahead_31 : rm_at tX12_ahead 31 = some bX12_ahead_31 := rfl
theorem atX12_ahead_43 : rm_at tX12_ahead 43 = some bX12_ahead_43 := rfl
theorem atX12_ahead_45 : rm_at tX12_ahead 45 = some bX12_ahead_45 := rfl
theorem atX12_ahead_67 : rm_at tX12_ahead 67 = some bX12_ahead_67 := rfl
theorem atX12_ahead_82 : rm_at tX12_ahead 82 = some bX12_ahead_82 := rfl
theorem atX12_ahead_97 : rm_at tX12_ahead 97 = some bX12_ahead_97 := rfl
theorem atX12_ahead_103 : rm_at tX12_ahead 103 = some bX12_ahead_103 := rfl
def bX12_fate_0 : List rm_J := [
  (.aload 0, .aload_n 0, 1, 0, 0, 0, .null, rm_M0, []),
  (.iload 1, .iload_n 1, 1, 0, 0, 0, .null, rm_M0, []),
  (.invokevirtual 340, .invokevirtual 340, 3, 0, 1, 0, .null, mX12_isQuestion, [(0, 1482), (0, 1484), (0, 63)]),
  (.ifCond .eq 22, .ifCond .eq 22, 3, 27, 0, 0, .null, rm_M0, []),
  (.aload 0, .aload_n 0, 1, 0, 0, 0, .null, rm_M0, []),
  (.getfield 16, .getfield 16, 3, 12, 3, 1142, .null, rm_M0, []),
  (.iload 1, .iload_n 1, 1, 0, 0, 0, .null, rm_M0, []),
  (.iaload, .iaload, 1, 0, 0, 0, .null, rm_M0, []),
  (.ifCond .gt 13, .ifCond .gt 13, 3, 27, 0, 0, .null, rm_M0, []),
  (.iload 2, .iload_n 2, 1, 0, 0, 0, .null, rm_M0, []),
  (.i2l, .i2l, 1, 0, 0, 0, .null, rm_M0, []),
  (.nop, .lconst 0, 1, 0, 0, 0, .long 0, rm_M0, []),
  (.nop, .lconst 1, 1, 0, 0, 0, .long 1, rm_M0, []),
  (.invokestatic 125, .invokestatic 125, 3, 0, 3, 0, .null, mX12_in, [(0, 1379), (0, 1380)]),
  (.ifCond .ne 5, .ifCond .ne 5, 3, 29, 0, 0, .null, rm_M0, [])]
def bX12_fate_27 : List rm_J := [
  (.nop, .iconst (-1), 1, 0, 0, 0, .int (-1), rm_M0, []),
  (.ireturn, .ireturn, 1, 0, 0, 0, .null, rm_M0, [])]
def bX12_fate_29 : List rm_J := [
  (.aload 0, .aload_n 0, 1, 0, 0, 0, .null, rm_M0, []),
  (.invokevirtual 422, .invokevirtual 422, 3, 0, 0, 0, .null, mX12_keepsAll, [(0, 1604), (0, 1606), (0, 82)]),
  (.nop, .iconst 0, 1, 0, 0, 0, .int 0, rm_M0, []),
  (.istore 3, .istore_n 3, 1, 0, 0, 0, .null, rm_M0, [])]
def bX12_fate_35 : List rm_J := [
  (.iload 3, .iload_n 3, 1, 0, 0, 0, .null, rm_M0, []),
  (.nop, .bipush 100, 2, 0, 0, 0, .int 100, rm_M0, []),
  (.if_icmp .ge 23, .if_icmp .ge 23, 3, 61, 0, 0, .null, rm_M0, []),
  (.aload 0, .aload_n 0, 1, 0, 0, 0, .null, rm_M0, []),
  (.getfield 16, .getfield 16, 3, 12, 3, 1142, .null, rm_M0, []),
  (.iload 1, .iload_n 1, 1, 0, 0, 0, .null, rm_M0, []),
  (.iaload, .iaload, 1, 0, 0, 0, .null, rm_M0, []),
  (.ifCond .ne 14, .ifCond .ne 14, 3, 61, 0, 0, .null, rm_M0, []),
  (.aload 0, .aload_n 0, 1, 0, 0, 0, .null, rm_M0, []),
  (.invokevirtual 376, .invokevirtual 376, 3, 0, 0, 0, .null, mX12_goes, [(0, 1529), (0, 1531), (0, 72)]),
  (.pop, .pop, 1, 0, 0, 0, .null, rm_M0, []),
  (.iinc 3 1, .iinc 3 1, 3, 0, 0, 0, .int 1, rm_M0, []),
  (.goto (-23), .goto (-23), 3, 35, 0, 0, .null, rm_M0, [])]
def bX12_fate_61 : List rm_J := [
  (.aload 0, .aload_n 0, 1, 0, 0, 0, .null, rm_M0, []),
  (.getfield 9, .getfield 9, 3, 12, 1, 1140, .null, rm_M0, []),
  (.nop, .iconst 4, 1, 0, 0, 0, .int 4, rm_M0, []),
  (.iaload, .iaload, 1, 0, 0, 0, .null, rm_M0, []),
  (.nop, .iconst 1, 1, 0, 0, 0, .int 1, rm_M0, []),
  (.isub, .isub, 1, 0, 0, 0, .null, rm_M0, []),
  (.istore 4, .istore 4, 2, 0, 0, 0, .null, rm_M0, []),
  (.aload 0, .aload_n 0, 1, 0, 0, 0, .null, rm_M0, []),
  (.getfield 16, .getfield 16, 3, 12, 3, 1142, .null, rm_M0, []),
  (.iload 1, .iload_n 1, 1, 0, 0, 0, .null, rm_M0, []),
  (.iaload, .iaload, 1, 0, 0, 0, .null, rm_M0, []),
  (.istore 5, .istore 5, 2, 0, 0, 0, .null, rm_M0, []),
  (.aload 0, .aload_n 0, 1, 0, 0, 0, .null, rm_M0, []),
  (.invokevirtual 417, .invokevirtual 417, 3, 0, 0, 0, .null, mX12_laysBack, [(0, 1620), (0, 1622), (0, 86)]),
  (.iload 5, .iload 5, 2, 0, 0, 0, .null, rm_M0, []),
  (.ifCond .ne 8, .ifCond .ne 8, 3, 93, 0, 0, .null, rm_M0, []),
  (.nop, .bipush (-2), 2, 0, 0, 0, .int (-2), rm_M0, []),
  (.goto 14, .goto 14, 3, 104, 0, 0, .null, rm_M0, [])]
def bX12_fate_93 : List rm_J := [
  (.iload 2, .iload_n 2, 1, 0, 0, 0, .null, rm_M0, []),
  (.ifCond .ne 8, .ifCond .ne 8, 3, 102, 0, 0, .null, rm_M0, []),
  (.iload 4, .iload 4, 2, 0, 0, 0, .null, rm_M0, []),
  (.goto 5, .goto 5, 3, 104, 0, 0, .null, rm_M0, [])]
def bX12_fate_102 : List rm_J := [
  (.iload 5, .iload 5, 2, 0, 0, 0, .null, rm_M0, [])]
def bX12_fate_104 : List rm_J := [
  (.ireturn, .ireturn, 1, 0, 0, 0, .null, rm_M0, [])]
def tX12_fate : rm_P := [(0, bX12_fate_0), (27, bX12_fate_27), (29, bX12_fate_29), (35, bX12_fate_35), (61, bX12_fate_61), (93, bX12_fate_93), (102, bX12_fate_102), (104, bX12_fate_104)]
theorem ok_X12_fate_t : rm_okP mX12_fate tX12_fate = true := by decide +kernel
theorem ok_X12_fate : rm_okM mX12_fate tX12_fate := ⟨ok_X12_fate_t, List.forall_mem_cons.mpr ⟨cw_X12_isQuestion, List.forall_mem_cons.mpr ⟨cw_X12_in, List.forall_mem_cons.mpr ⟨cw_X12_keepsAll, List.forall_mem_cons.mpr ⟨cw_X12_goes, List.forall_mem_cons.mpr ⟨cw_X12_laysBack, fun _ h => absurd h List.not_mem_nil⟩⟩⟩⟩⟩⟩
theorem atX12_fate_0 : rm_at tX12_fate 0 = some bX12_fate_0 := rfl
theorem atX12_fate_27 : rm_at tX12_fate 27 = some bX12_fate_27 := rfl
theorem atX12_fate_29 : rm_at tX12_fate 29 = some bX12_fate_29 := rfl
theorem atX12_fate_35 : rm_at tX12_fate 35 = some bX12_fate_35 := rfl
theorem atX12_fate_61 : rm_at tX12_fate 61 = some bX12_fate_61 := rfl
theorem atX12_fate_93 : rm_at tX12_fate 93 = some bX12_fate_93 := rfl
theorem atX12_fate_102 : rm_at tX12_fate 102 = some bX12_fate_102 := rfl
theorem atX12_fate_104 : rm_at tX12_fate 104 = some bX12_fate_104 := rfl
def bX12_goesRow_0 : List rm_J := [
  (.iload 3, .iload_n 3, 1, 0, 0, 0, .null, rm_M0, []),
  (.istore 4, .istore 4, 2, 0, 0, 0, .null, rm_M0, []),
  (.nop, .iconst 0, 1, 0, 0, 0, .int 0, rm_M0, []),
  (.istore 5, .istore 5, 2, 0, 0, 0, .null, rm_M0, [])]
def bX12_goesRow_6 : List rm_J := [
  (.iload 5, .iload 5, 2, 0, 0, 0, .null, rm_M0, []),
  (.iload 1, .iload_n 1, 1, 0, 0, 0, .null, rm_M0, []),
  (.if_icmp .ge 78, .if_icmp .ge 78, 3, 87, 0, 0, .null, rm_M0, []),
  (.iload 4, .iload 4, 2, 0, 0, 0, .null, rm_M0, []),
  (.aload 0, .aload_n 0, 1, 0, 0, 0, .null, rm_M0, []),
  (.getfield 9, .getfield 9, 3, 12, 1, 1140, .null, rm_M0, []),
  (.nop, .iconst 3, 1, 0, 0, 0, .int 3, rm_M0, []),
  (.iaload, .iaload, 1, 0, 0, 0, .null, rm_M0, []),
  (.nop, .iconst 1, 1, 0, 0, 0, .int 1, rm_M0, []),
  (.iadd, .iadd, 1, 0, 0, 0, .null, rm_M0, []),
  (.idiv, .idiv, 1, 0, 0, 0, .null, rm_M0, []),
  (.istore 4, .istore 4, 2, 0, 0, 0, .null, rm_M0, []),
  (.iload 2, .iload_n 2, 1, 0, 0, 0, .null, rm_M0, []),
  (.iload 4, .iload 4, 2, 0, 0, 0, .null, rm_M0, []),
  (.idiv, .idiv, 1, 0, 0, 0, .null, rm_M0, []),
  (.aload 0, .aload_n 0, 1, 0, 0, 0, .null, rm_M0, []),
  (.getfield 9, .getfield 9, 3, 12, 1, 1140, .null, rm_M0, []),
  (.nop, .iconst 3, 1, 0, 0, 0, .int 3, rm_M0, []),
  (.iaload, .iaload, 1, 0, 0, 0, .null, rm_M0, []),
  (.nop, .iconst 1, 1, 0, 0, 0, .int 1, rm_M0, []),
  (.iadd, .iadd, 1, 0, 0, 0, .null, rm_M0, []),
  (.irem, .irem, 1, 0, 0, 0, .null, rm_M0, []),
  (.nop, .iconst 1, 1, 0, 0, 0, .int 1, rm_M0, []),
  (.isub, .isub, 1, 0, 0, 0, .null, rm_M0, []),
  (.istore 6, .istore 6, 2, 0, 0, 0, .null, rm_M0, []),
  (.iload 6, .iload 6, 2, 0, 0, 0, .null, rm_M0, []),
  (.nop, .iconst (-1), 1, 0, 0, 0, .int (-1), rm_M0, []),
  (.if_icmp .eq 21, .if_icmp .eq 21, 3, 66, 0, 0, .null, rm_M0, []),
  (.aload 0, .aload_n 0, 1, 0, 0, 0, .null, rm_M0, []),
  (.invokevirtual 364, .invokevirtual 364, 3, 0, 0, 0, .null, mX12_isWaste, [(0, 1533), (0, 1535), (0, 73)]),
  (.ifCond .ne 12, .ifCond .ne 12, 3, 64, 0, 0, .null, rm_M0, []),
  (.aload 0, .aload_n 0, 1, 0, 0, 0, .null, rm_M0, []),
  (.iload 6, .iload 6, 2, 0, 0, 0, .null, rm_M0, []),
  (.invokevirtual 330, .invokevirtual 330, 3, 0, 1, 0, .null, mX12_isOpen, [(0, 1486), (0, 1488), (0, 64)]),
  (.ifCond .ne 5, .ifCond .ne 5, 3, 66, 0, 0, .null, rm_M0, [])]
def bX12_goesRow_64 : List rm_J := [
  (.nop, .iconst 0, 1, 0, 0, 0, .int 0, rm_M0, []),
  (.ireturn, .ireturn, 1, 0, 0, 0, .null, rm_M0, [])]
def bX12_goesRow_66 : List rm_J := [
  (.aload 0, .aload_n 0, 1, 0, 0, 0, .null, rm_M0, []),
  (.getfield 106, .getfield 106, 3, 12, 44, 1183, .null, rm_M0, []),
  (.iload 5, .iload 5, 2, 0, 0, 0, .null, rm_M0, []),
  (.iload 6, .iload 6, 2, 0, 0, 0, .null, rm_M0, []),
  (.iastore, .iastore, 1, 0, 0, 0, .null, rm_M0, []),
  (.aload 0, .aload_n 0, 1, 0, 0, 0, .null, rm_M0, []),
  (.iload 6, .iload 6, 2, 0, 0, 0, .null, rm_M0, []),
  (.invokevirtual 373, .invokevirtual 373, 3, 0, 1, 0, .null, mX12_goesWith, [(0, 1567), (0, 1569), (0, 79)]),
  (.iinc 5 1, .iinc 5 1, 3, 0, 0, 0, .int 1, rm_M0, []),
  (.goto (-78), .goto (-78), 3, 6, 0, 0, .null, rm_M0, [])]
def bX12_goesRow_87 : List rm_J := [
  (.nop, .iconst 1, 1, 0, 0, 0, .int 1, rm_M0, []),
  (.ireturn, .ireturn, 1, 0, 0, 0, .null, rm_M0, [])]
def tX12_goesRow : rm_P := [(0, bX12_goesRow_0), (6, bX12_goesRow_6), (64, bX12_goesRow_64), (66, bX12_goesRow_66), (87, bX12_goesRow_87)]
theorem ok_X12_goesRow_t : rm_okP mX12_goesRow tX12_goesRow = true := by decide +kernel
theorem ok_X12_goesRow : rm_okM mX12_goesRow tX12_goesRow := ⟨ok_X12_goesRow_t, List.forall_mem_cons.mpr ⟨cw_X12_isWaste, List.forall_mem_cons.mpr ⟨cw_X12_isOpen, List.forall_mem_cons.mpr ⟨cw_X12_goesWith, fun _ h => absurd h List.not_mem_nil⟩⟩⟩⟩
theorem atX12_goesRow_0 : rm_at tX12_goesRow 0 = some bX12_goesRow_0 := rfl
theorem atX12_goesRow_6 : rm_at tX12_goesRow 6 = some bX12_goesRow_6 := rfl
theorem atX12_goesRow_64 : rm_at tX12_goesRow 64 = some bX12_goesRow_64 := rfl
theorem atX12_goesRow_66 : rm_at tX12_goesRow 66 = some bX12_goesRow_66 := rfl
theorem atX12_goesRow_87 : rm_at tX12_goesRow 87 = some bX12_goesRow_87 := rfl
def bX12_row_0 : List rm_J := [
  (.aload 0, .aload_n 0, 1, 0, 0, 0, .null, rm_M0, []),
  (.invokevirtual 397, .invokevirtual 397, 3, 0, 0, 0, .null, mX12_isRealm, [(0, 1521), (0, 1523), (0, 70)]),
  (.ifCond .eq 27, .ifCond .eq 27, 3, 31, 0, 0, .null, rm_M0, []),
  (.iload 1, .iload_n 1, 1, 0, 0, 0, .null, rm_M0, []),
  (.i2l, .i2l, 1, 0, 0, 0, .null, rm_M0, []),
  (.nop, .lconst 1, 1, 0, 0, 0, .long 1, rm_M0, []),
  (.nop, .ldc2_w 425, 3, 0, 0, 1632, .long 4, rm_M0, []),
  (.invokestatic 125, .invokestatic 125, 3, 0, 3, 0, .null, mX12_in, [(0, 1379), (0, 1380)]),
  (.ifCond .eq 15, .ifCond .eq 15, 3, 31, 0, 0, .null, rm_M0, []),
  (.iload 2, .iload_n 2, 1, 0, 0, 0, .null, rm_M0, []),
  (.i2l, .i2l, 1, 0, 0, 0, .null, rm_M0, []),
  (.nop, .lconst 0, 1, 0, 0, 0, .long 0, rm_M0, []),
  (.nop, .ldc2_w 425, 3, 0, 0, 1632, .long 4, rm_M0, []),
  (.invokestatic 125, .invokestatic 125, 3, 0, 3, 0, .null, mX12_in, [(0, 1379), (0, 1380)]),
  (.ifCond .ne 7, .ifCond .ne 7, 3, 35, 0, 0, .null, rm_M0, [])]
def bX12_row_31 : List rm_J := [
  (.nop, .ldc_w 427, 3, 0, 0, 1633, .int (-100000), rm_M0, []),
  (.ireturn, .ireturn, 1, 0, 0, 0, .null, rm_M0, [])]
def bX12_row_35 : List rm_J := [
  (.nop, .iconst 1, 1, 0, 0, 0, .int 1, rm_M0, []),
  (.istore 3, .istore_n 3, 1, 0, 0, 0, .null, rm_M0, []),
  (.nop, .iconst 0, 1, 0, 0, 0, .int 0, rm_M0, []),
  (.istore 4, .istore 4, 2, 0, 0, 0, .null, rm_M0, [])]
def bX12_row_40 : List rm_J := [
  (.iload 4, .iload 4, 2, 0, 0, 0, .null, rm_M0, []),
  (.iload 1, .iload_n 1, 1, 0, 0, 0, .null, rm_M0, []),
  (.if_icmp .ge 20, .if_icmp .ge 20, 3, 63, 0, 0, .null, rm_M0, []),
  (.iload 3, .iload_n 3, 1, 0, 0, 0, .null, rm_M0, []),
  (.aload 0, .aload_n 0, 1, 0, 0, 0, .null, rm_M0, []),
  (.getfield 9, .getfield 9, 3, 12, 1, 1140, .null, rm_M0, []),
  (.nop, .iconst 3, 1, 0, 0, 0, .int 3, rm_M0, []),
  (.iaload, .iaload, 1, 0, 0, 0, .null, rm_M0, []),
  (.nop, .iconst 1, 1, 0, 0, 0, .int 1, rm_M0, []),
  (.iadd, .iadd, 1, 0, 0, 0, .null, rm_M0, []),
  (.imul, .imul, 1, 0, 0, 0, .null, rm_M0, []),
  (.istore 3, .istore_n 3, 1, 0, 0, 0, .null, rm_M0, []),
  (.iinc 4 1, .iinc 4 1, 3, 0, 0, 0, .int 1, rm_M0, []),
  (.goto (-20), .goto (-20), 3, 40, 0, 0, .null, rm_M0, [])]
def bX12_row_63 : List rm_J := [
  (.aload 0, .aload_n 0, 1, 0, 0, 0, .null, rm_M0, []),
  (.invokevirtual 414, .invokevirtual 414, 3, 0, 0, 0, .null, mX12_net, [(0, 1634), (0, 1636), (0, 87)]),
  (.istore 4, .istore 4, 2, 0, 0, 0, .null, rm_M0, []),
  (.nop, .ldc_w 427, 3, 0, 0, 1633, .int (-100000), rm_M0, []),
  (.istore 5, .istore 5, 2, 0, 0, 0, .null, rm_M0, []),
  (.aload 0, .aload_n 0, 1, 0, 0, 0, .null, rm_M0, []),
  (.invokevirtual 422, .invokevirtual 422, 3, 0, 0, 0, .null, mX12_keepsAll, [(0, 1604), (0, 1606), (0, 82)]),
  (.nop, .iconst 0, 1, 0, 0, 0, .int 0, rm_M0, []),
  (.istore 6, .istore 6, 2, 0, 0, 0, .null, rm_M0, [])]
def bX12_row_81 : List rm_J := [
  (.iload 6, .iload 6, 2, 0, 0, 0, .null, rm_M0, []),
  (.iload 3, .iload_n 3, 1, 0, 0, 0, .null, rm_M0, []),
  (.if_icmp .ge 56, .if_icmp .ge 56, 3, 140, 0, 0, .null, rm_M0, []),
  (.aload 0, .aload_n 0, 1, 0, 0, 0, .null, rm_M0, []),
  (.iload 1, .iload_n 1, 1, 0, 0, 0, .null, rm_M0, []),
  (.iload 6, .iload 6, 2, 0, 0, 0, .null, rm_M0, []),
  (.iload 3, .iload_n 3, 1, 0, 0, 0, .null, rm_M0, []),
  (.invokevirtual 428, .invokevirtual 428, 3, 0, 3, 0, .null, mX12_goesRow, [(0, 1638), (0, 1640), (0, 88)]),
  (.ifCond .eq 35, .ifCond .eq 35, 3, 130, 0, 0, .null, rm_M0, []),
  (.aload 0, .aload_n 0, 1, 0, 0, 0, .null, rm_M0, []),
  (.invokevirtual 414, .invokevirtual 414, 3, 0, 0, 0, .null, mX12_net, [(0, 1634), (0, 1636), (0, 87)]),
  (.iload 4, .iload 4, 2, 0, 0, 0, .null, rm_M0, []),
  (.isub, .isub, 1, 0, 0, 0, .null, rm_M0, []),
  (.iload 5, .iload 5, 2, 0, 0, 0, .null, rm_M0, []),
  (.if_icmp .le 23, .if_icmp .le 23, 3, 130, 0, 0, .null, rm_M0, []),
  (.aload 0, .aload_n 0, 1, 0, 0, 0, .null, rm_M0, []),
  (.invokevirtual 414, .invokevirtual 414, 3, 0, 0, 0, .null, mX12_net, [(0, 1634), (0, 1636), (0, 87)]),
  (.iload 4, .iload 4, 2, 0, 0, 0, .null, rm_M0, []),
  (.isub, .isub, 1, 0, 0, 0, .null, rm_M0, []),
  (.istore 5, .istore 5, 2, 0, 0, 0, .null, rm_M0, []),
  (.aload 0, .aload_n 0, 1, 0, 0, 0, .null, rm_M0, []),
  (.getfield 106, .getfield 106, 3, 12, 44, 1183, .null, rm_M0, []),
  (.aload 0, .aload_n 0, 1, 0, 0, 0, .null, rm_M0, []),
  (.getfield 103, .getfield 103, 3, 12, 43, 1182, .null, rm_M0, []),
  (.invokestatic 287, .invokestatic 287, 3, 0, 2, 0, .null, mX12_copies, [(0, 1390), (0, 1391)])]
def bX12_row_130 : List rm_J := [
  (.aload 0, .aload_n 0, 1, 0, 0, 0, .null, rm_M0, []),
  (.invokevirtual 417, .invokevirtual 417, 3, 0, 0, 0, .null, mX12_laysBack, [(0, 1620), (0, 1622), (0, 86)]),
  (.iinc 6 1, .iinc 6 1, 3, 0, 0, 0, .int 1, rm_M0, []),
  (.goto (-56), .goto (-56), 3, 81, 0, 0, .null, rm_M0, [])]
def bX12_row_140 : List rm_J := [
  (.iload 2, .iload_n 2, 1, 0, 0, 0, .null, rm_M0, []),
  (.ifCond .ne 8, .ifCond .ne 8, 3, 149, 0, 0, .null, rm_M0, []),
  (.iload 5, .iload 5, 2, 0, 0, 0, .null, rm_M0, []),
  (.goto 21, .goto 21, 3, 167, 0, 0, .null, rm_M0, [])]
def bX12_row_149 : List rm_J := [
  (.iload 2, .iload_n 2, 1, 0, 0, 0, .null, rm_M0, []),
  (.iload 1, .iload_n 1, 1, 0, 0, 0, .null, rm_M0, []),
  (.if_icmp .gt 14, .if_icmp .gt 14, 3, 165, 0, 0, .null, rm_M0, []),
  (.aload 0, .aload_n 0, 1, 0, 0, 0, .null, rm_M0, []),
  (.getfield 103, .getfield 103, 3, 12, 43, 1182, .null, rm_M0, []),
  (.iload 2, .iload_n 2, 1, 0, 0, 0, .null, rm_M0, []),
  (.nop, .iconst 1, 1, 0, 0, 0, .int 1, rm_M0, []),
  (.isub, .isub, 1, 0, 0, 0, .null, rm_M0, []),
  (.iaload, .iaload, 1, 0, 0, 0, .null, rm_M0, []),
  (.goto 5, .goto 5, 3, 167, 0, 0, .null, rm_M0, [])]
def bX12_row_165 : List rm_J := [
  (.nop, .bipush (-2), 2, 0, 0, 0, .int (-2), rm_M0, [])]
def bX12_row_167 : List rm_J := [
  (.ireturn, .ireturn, 1, 0, 0, 0, .null, rm_M0, [])]
def tX12_row : rm_P := [(0, bX12_row_0), (31, bX12_row_31), (35, bX12_row_35), (40, bX12_row_40), (63, bX12_row_63), (81, bX12_row_81), (130, bX12_row_130), (140, bX12_row_140), (149, bX12_row_149), (165, bX12_row_165), (167, bX12_row_167)]
theorem ok_X12_row_t : rm_okP mX12_row tX12_row = true := by decide +kernel
theorem ok_X12_row : rm_okM mX12_row tX12_row := ⟨ok_X12_row_t, List.forall_mem_cons.mpr ⟨cw_X12_isRealm, List.forall_mem_cons.mpr ⟨cw_X12_in, List.forall_mem_cons.mpr ⟨cw_X12_in, List.forall_mem_cons.mpr ⟨cw_X12_net, List.forall_mem_cons.mpr ⟨cw_X12_keepsAll, List.forall_mem_cons.mpr ⟨cw_X12_goesRow, List.forall_mem_cons.mpr ⟨cw_X12_net, List.forall_mem_cons.mpr ⟨cw_X12_net, List.forall_mem_cons.mpr ⟨cw_X12_copies, List.forall_mem_cons.mpr ⟨cw_X12_laysBack, fun _ h => absurd h List.not_mem_nil⟩⟩⟩⟩⟩⟩⟩⟩⟩⟩⟩
theorem atX12_row_0 : rm_at tX12_row 0 = some bX12_row_0 := rfl
theorem atX12_row_31 : rm_at tX12_row 31 = some bX12_row_31 := rfl
theorem atX12_row_35 : rm_at tX12_row 35 = some bX12_row_35 := rfl
theorem atX12_row_40 : rm_at tX12_row 40 = some bX12_row_40 := rfl
theorem atX12_row_63 : rm_at tX12_row 63 = some bX12_row_63 := rfl
theorem atX12_row_81 : rm_at tX12_row 81 = some bX12_row_81 := rfl
theorem atX12_row_130 : rm_at tX12_row 130 = some bX12_row_130 := rfl
theorem atX12_row_140 : rm_at tX12_row 140 = some bX12_row_140 := rfl
theorem atX12_row_149 : rm_at tX12_row 149 = some bX12_row_149 := rfl
theorem atX12_row_165 : rm_at tX12_row 165 = some bX12_row_165 := rfl
theorem atX12_row_167 : rm_at tX12_row 167 = some bX12_row_167 := rfl
def bX12_bind_0 : List rm_J := [
  (.aload 0, .aload_n 0, 1, 0, 0, 0, .null, rm_M0, []),
  (.invokevirtual 397, .invokevirtual 397, 3, 0, 0, 0, .null, mX12_isRealm, [(0, 1521), (0, 1523), (0, 70)]),
  (.ifCond .eq 27, .ifCond .eq 27, 3, 31, 0, 0, .null, rm_M0, []),
  (.iload 1, .iload_n 1, 1, 0, 0, 0, .null, rm_M0, []),
  (.i2l, .i2l, 1, 0, 0, 0, .null, rm_M0, []),
  (.nop, .lconst 1, 1, 0, 0, 0, .long 1, rm_M0, []),
  (.nop, .ldc2_w 432, 3, 0, 0, 1646, .long 60, rm_M0, []),
  (.invokestatic 125, .invokestatic 125, 3, 0, 3, 0, .null, mX12_in, [(0, 1379), (0, 1380)]),
  (.ifCond .eq 15, .ifCond .eq 15, 3, 31, 0, 0, .null, rm_M0, []),
  (.iload 2, .iload_n 2, 1, 0, 0, 0, .null, rm_M0, []),
  (.i2l, .i2l, 1, 0, 0, 0, .null, rm_M0, []),
  (.nop, .lconst 0, 1, 0, 0, 0, .long 0, rm_M0, []),
  (.nop, .ldc2_w 434, 3, 0, 0, 1647, .long 2, rm_M0, []),
  (.invokestatic 125, .invokestatic 125, 3, 0, 3, 0, .null, mX12_in, [(0, 1379), (0, 1380)]),
  (.ifCond .ne 7, .ifCond .ne 7, 3, 35, 0, 0, .null, rm_M0, [])]
def bX12_bind_31 : List rm_J := [
  (.nop, .ldc_w 427, 3, 0, 0, 1633, .int (-100000), rm_M0, []),
  (.ireturn, .ireturn, 1, 0, 0, 0, .null, rm_M0, [])]
def bX12_bind_35 : List rm_J := [
  (.aload 0, .aload_n 0, 1, 0, 0, 0, .null, rm_M0, []),
  (.invokevirtual 414, .invokevirtual 414, 3, 0, 0, 0, .null, mX12_net, [(0, 1634), (0, 1636), (0, 87)]),
  (.istore 3, .istore_n 3, 1, 0, 0, 0, .null, rm_M0, []),
  (.aload 0, .aload_n 0, 1, 0, 0, 0, .null, rm_M0, []),
  (.invokevirtual 422, .invokevirtual 422, 3, 0, 0, 0, .null, mX12_keepsAll, [(0, 1604), (0, 1606), (0, 82)]),
  (.aload 0, .aload_n 0, 1, 0, 0, 0, .null, rm_M0, []),
  (.iload 1, .iload_n 1, 1, 0, 0, 0, .null, rm_M0, []),
  (.invokevirtual 436, .invokevirtual 436, 3, 0, 1, 0, .null, mX12_netIn, [(0, 1648), (0, 1650), (0, 89)]),
  (.istore 4, .istore 4, 2, 0, 0, 0, .null, rm_M0, []),
  (.nop, .iconst (-1), 1, 0, 0, 0, .int (-1), rm_M0, []),
  (.istore 5, .istore 5, 2, 0, 0, 0, .null, rm_M0, []),
  (.nop, .iconst (-1), 1, 0, 0, 0, .int (-1), rm_M0, []),
  (.istore 6, .istore 6, 2, 0, 0, 0, .null, rm_M0, []),
  (.nop, .iconst 0, 1, 0, 0, 0, .int 0, rm_M0, []),
  (.istore 7, .istore 7, 2, 0, 0, 0, .null, rm_M0, [])]
def bX12_bind_60 : List rm_J := [
  (.iload 7, .iload 7, 2, 0, 0, 0, .null, rm_M0, []),
  (.aload 0, .aload_n 0, 1, 0, 0, 0, .null, rm_M0, []),
  (.getfield 9, .getfield 9, 3, 12, 1, 1140, .null, rm_M0, []),
  (.nop, .iconst 3, 1, 0, 0, 0, .int 3, rm_M0, []),
  (.iaload, .iaload, 1, 0, 0, 0, .null, rm_M0, []),
  (.if_icmp .ge 81, .if_icmp .ge 81, 3, 149, 0, 0, .null, rm_M0, []),
  (.iload 7, .iload 7, 2, 0, 0, 0, .null, rm_M0, []),
  (.nop, .iconst 1, 1, 0, 0, 0, .int 1, rm_M0, []),
  (.iadd, .iadd, 1, 0, 0, 0, .null, rm_M0, []),
  (.istore 8, .istore 8, 2, 0, 0, 0, .null, rm_M0, [])]
def bX12_bind_77 : List rm_J := [
  (.iload 8, .iload 8, 2, 0, 0, 0, .null, rm_M0, []),
  (.aload 0, .aload_n 0, 1, 0, 0, 0, .null, rm_M0, []),
  (.getfield 9, .getfield 9, 3, 12, 1, 1140, .null, rm_M0, []),
  (.nop, .iconst 3, 1, 0, 0, 0, .int 3, rm_M0, []),
  (.iaload, .iaload, 1, 0, 0, 0, .null, rm_M0, []),
  (.if_icmp .ge 58, .if_icmp .ge 58, 3, 143, 0, 0, .null, rm_M0, []),
  (.aload 0, .aload_n 0, 1, 0, 0, 0, .null, rm_M0, []),
  (.getfield 19, .getfield 19, 3, 12, 4, 1143, .null, rm_M0, []),
  (.iload 7, .iload 7, 2, 0, 0, 0, .null, rm_M0, []),
  (.iaload, .iaload, 1, 0, 0, 0, .null, rm_M0, []),
  (.iload 8, .iload 8, 2, 0, 0, 0, .null, rm_M0, []),
  (.invokestatic 334, .invokestatic 334, 3, 0, 2, 0, .null, mX12_has, [(0, 1494), (0, 1495)]),
  (.ifCond .ne 37, .ifCond .ne 37, 3, 137, 0, 0, .null, rm_M0, []),
  (.aload 0, .aload_n 0, 1, 0, 0, 0, .null, rm_M0, []),
  (.iload 7, .iload 7, 2, 0, 0, 0, .null, rm_M0, []),
  (.iload 8, .iload 8, 2, 0, 0, 0, .null, rm_M0, []),
  (.invokevirtual 403, .invokevirtual 403, 3, 0, 2, 0, .null, mX12_ties, [(0, 1590), (0, 1592), (0, 81)]),
  (.aload 0, .aload_n 0, 1, 0, 0, 0, .null, rm_M0, []),
  (.iload 1, .iload_n 1, 1, 0, 0, 0, .null, rm_M0, []),
  (.invokevirtual 436, .invokevirtual 436, 3, 0, 1, 0, .null, mX12_netIn, [(0, 1648), (0, 1650), (0, 89)]),
  (.istore 9, .istore 9, 2, 0, 0, 0, .null, rm_M0, []),
  (.iload 9, .iload 9, 2, 0, 0, 0, .null, rm_M0, []),
  (.iload 4, .iload 4, 2, 0, 0, 0, .null, rm_M0, []),
  (.if_icmp .le 15, .if_icmp .le 15, 3, 137, 0, 0, .null, rm_M0, []),
  (.iload 9, .iload 9, 2, 0, 0, 0, .null, rm_M0, []),
  (.istore 4, .istore 4, 2, 0, 0, 0, .null, rm_M0, []),
  (.iload 7, .iload 7, 2, 0, 0, 0, .null, rm_M0, []),
  (.istore 5, .istore 5, 2, 0, 0, 0, .null, rm_M0, []),
  (.iload 8, .iload 8, 2, 0, 0, 0, .null, rm_M0, []),
  (.istore 6, .istore 6, 2, 0, 0, 0, .null, rm_M0, [])]
def bX12_bind_137 : List rm_J := [
  (.iinc 8 1, .iinc 8 1, 3, 0, 0, 0, .int 1, rm_M0, []),
  (.goto (-63), .goto (-63), 3, 77, 0, 0, .null, rm_M0, [])]
def bX12_bind_143 : List rm_J := [
  (.iinc 7 1, .iinc 7 1, 3, 0, 0, 0, .int 1, rm_M0, []),
  (.goto (-86), .goto (-86), 3, 60, 0, 0, .null, rm_M0, [])]
def bX12_bind_149 : List rm_J := [
  (.iload 2, .iload_n 2, 1, 0, 0, 0, .null, rm_M0, []),
  (.ifCond .ne 10, .ifCond .ne 10, 3, 160, 0, 0, .null, rm_M0, []),
  (.iload 4, .iload 4, 2, 0, 0, 0, .null, rm_M0, []),
  (.iload 3, .iload_n 3, 1, 0, 0, 0, .null, rm_M0, []),
  (.isub, .isub, 1, 0, 0, 0, .null, rm_M0, []),
  (.goto 15, .goto 15, 3, 172, 0, 0, .null, rm_M0, [])]
def bX12_bind_160 : List rm_J := [
  (.iload 2, .iload_n 2, 1, 0, 0, 0, .null, rm_M0, []),
  (.nop, .iconst 1, 1, 0, 0, 0, .int 1, rm_M0, []),
  (.if_icmp .ne 8, .if_icmp .ne 8, 3, 170, 0, 0, .null, rm_M0, []),
  (.iload 5, .iload 5, 2, 0, 0, 0, .null, rm_M0, []),
  (.goto 5, .goto 5, 3, 172, 0, 0, .null, rm_M0, [])]
def bX12_bind_170 : List rm_J := [
  (.iload 6, .iload 6, 2, 0, 0, 0, .null, rm_M0, [])]
def bX12_bind_172 : List rm_J := [
  (.ireturn, .ireturn, 1, 0, 0, 0, .null, rm_M0, [])]
def tX12_bind : rm_P := [(0, bX12_bind_0), (31, bX12_bind_31), (35, bX12_bind_35), (60, bX12_bind_60), (77, bX12_bind_77), (137, bX12_bind_137), (143, bX12_bind_143), (149, bX12_bind_149), (160, bX12_bind_160), (170, bX12_bind_170), (172, bX12_bind_172)]
theorem ok_X12_bind_t : rm_okP mX12_bind tX12_bind = true := by decide +kernel
theorem ok_X12_bind : rm_okM mX12_bind tX12_bind := ⟨ok_X12_bind_t, List.forall_mem_cons.mpr ⟨cw_X12_isRealm, List.forall_mem_cons.mpr ⟨cw_X12_in, List.forall_mem_cons.mpr ⟨cw_X12_in, List.forall_mem_cons.mpr ⟨cw_X12_net, List.forall_mem_cons.mpr ⟨cw_X12_keepsAll, List.forall_mem_cons.mpr ⟨cw_X12_netIn, List.forall_mem_cons.mpr ⟨cw_X12_has, List.forall_mem_cons.mpr ⟨cw_X12_ties, List.forall_mem_cons.mpr ⟨cw_X12_netIn, fun _ h => absurd h List.not_mem_nil⟩⟩⟩⟩⟩⟩⟩⟩⟩⟩
theorem atX12_bind_0 : rm_at tX12_bind 0 = some bX12_bind_0 := rfl
theorem atX12_bind_31 : rm_at tX12_bind 31 = some bX12_bind_31 := rfl
theorem atX12_bind_35 : rm_at tX12_bind 35 = some bX12_bind_35 := rfl
theorem atX12_bind_60 : rm_at tX12_bind 60 = some bX12_bind_60 := rfl
theorem atX12_bind_77 : rm_at tX12_bind 77 = some bX12_bind_77 := rfl
theorem atX12_bind_137 : rm_at tX12_bind 137 = some bX12_bind_137 := rfl
theorem atX12_bind_143 : rm_at tX12_bind 143 = some bX12_bind_143 := rfl
theorem atX12_bind_149 : rm_at tX12_bind 149 = some bX12_bind_149 := rfl
theorem atX12_bind_160 : rm_at tX12_bind 160 = some bX12_bind_160 := rfl
theorem atX12_bind_170 : rm_at tX12_bind 170 = some bX12_bind_170 := rfl
theorem atX12_bind_172 : rm_at tX12_bind 172 = some bX12_bind_172 := rfl
def bX12_isRescued_0 : List rm_J := [
  (.nop, .iconst 0, 1, 0, 0, 0, .int 0, rm_M0, []),
  (.istore 3, .istore_n 3, 1, 0, 0, 0, .null, rm_M0, []),
  (.nop, .iconst 0, 1, 0, 0, 0, .int 0, rm_M0, []),
  (.istore 4, .istore 4, 2, 0, 0, 0, .null, rm_M0, []),
  (.nop, .iconst 0, 1, 0, 0, 0, .int 0, rm_M0, []),
  (.istore 5, .istore 5, 2, 0, 0, 0, .null, rm_M0, [])]
def bX12_isRescued_8 : List rm_J := [
  (.iload 5, .iload 5, 2, 0, 0, 0, .null, rm_M0, []),
  (.aload 0, .aload_n 0, 1, 0, 0, 0, .null, rm_M0, []),
  (.getfield 9, .getfield 9, 3, 12, 1, 1140, .null, rm_M0, []),
  (.nop, .iconst 3, 1, 0, 0, 0, .int 3, rm_M0, []),
  (.iaload, .iaload, 1, 0, 0, 0, .null, rm_M0, []),
  (.if_icmp .ge 34, .if_icmp .ge 34, 3, 50, 0, 0, .null, rm_M0, []),
  (.iload 1, .iload_n 1, 1, 0, 0, 0, .null, rm_M0, []),
  (.iload 5, .iload 5, 2, 0, 0, 0, .null, rm_M0, []),
  (.invokestatic 334, .invokestatic 334, 3, 0, 2, 0, .null, mX12_has, [(0, 1494), (0, 1495)]),
  (.ifCond .eq 19, .ifCond .eq 19, 3, 44, 0, 0, .null, rm_M0, []),
  (.aload 0, .aload_n 0, 1, 0, 0, 0, .null, rm_M0, []),
  (.iload 5, .iload 5, 2, 0, 0, 0, .null, rm_M0, []),
  (.invokevirtual 330, .invokevirtual 330, 3, 0, 1, 0, .null, mX12_isOpen, [(0, 1486), (0, 1488), (0, 64)]),
  (.ifCond .eq 10, .ifCond .eq 10, 3, 44, 0, 0, .null, rm_M0, []),
  (.aload 0, .aload_n 0, 1, 0, 0, 0, .null, rm_M0, []),
  (.iload 5, .iload 5, 2, 0, 0, 0, .null, rm_M0, []),
  (.invokevirtual 367, .invokevirtual 367, 3, 0, 1, 0, .null, mX12_answered, [(0, 1574), (0, 1576), (0, 80)]),
  (.pop, .pop, 1, 0, 0, 0, .null, rm_M0, [])]
def bX12_isRescued_44 : List rm_J := [
  (.iinc 5 1, .iinc 5 1, 3, 0, 0, 0, .int 1, rm_M0, []),
  (.goto (-39), .goto (-39), 3, 8, 0, 0, .null, rm_M0, [])]
def bX12_isRescued_50 : List rm_J := [
  (.nop, .iconst 0, 1, 0, 0, 0, .int 0, rm_M0, []),
  (.istore 5, .istore 5, 2, 0, 0, 0, .null, rm_M0, [])]
def bX12_isRescued_53 : List rm_J := [
  (.iload 5, .iload 5, 2, 0, 0, 0, .null, rm_M0, []),
  (.aload 0, .aload_n 0, 1, 0, 0, 0, .null, rm_M0, []),
  (.getfield 9, .getfield 9, 3, 12, 1, 1140, .null, rm_M0, []),
  (.nop, .iconst 3, 1, 0, 0, 0, .int 3, rm_M0, []),
  (.iaload, .iaload, 1, 0, 0, 0, .null, rm_M0, []),
  (.if_icmp .ge 30, .if_icmp .ge 30, 3, 91, 0, 0, .null, rm_M0, []),
  (.iload 4, .iload 4, 2, 0, 0, 0, .null, rm_M0, []),
  (.aload 0, .aload_n 0, 1, 0, 0, 0, .null, rm_M0, []),
  (.getfield 16, .getfield 16, 3, 12, 3, 1142, .null, rm_M0, []),
  (.iload 5, .iload 5, 2, 0, 0, 0, .null, rm_M0, []),
  (.iaload, .iaload, 1, 0, 0, 0, .null, rm_M0, []),
  (.nop, .iconst 3, 1, 0, 0, 0, .int 3, rm_M0, []),
  (.if_icmp .ne 7, .if_icmp .ne 7, 3, 81, 0, 0, .null, rm_M0, []),
  (.nop, .iconst 1, 1, 0, 0, 0, .int 1, rm_M0, []),
  (.goto 4, .goto 4, 3, 82, 0, 0, .null, rm_M0, [])]
def bX12_isRescued_81 : List rm_J := [
  (.nop, .iconst 0, 1, 0, 0, 0, .int 0, rm_M0, [])]
def bX12_isRescued_82 : List rm_J := [
  (.iadd, .iadd, 1, 0, 0, 0, .null, rm_M0, []),
  (.istore 4, .istore 4, 2, 0, 0, 0, .null, rm_M0, []),
  (.iinc 5 1, .iinc 5 1, 3, 0, 0, 0, .int 1, rm_M0, []),
  (.goto (-35), .goto (-35), 3, 53, 0, 0, .null, rm_M0, [])]
def bX12_isRescued_91 : List rm_J := [
  (.aload 0, .aload_n 0, 1, 0, 0, 0, .null, rm_M0, []),
  (.iload 2, .iload_n 2, 1, 0, 0, 0, .null, rm_M0, []),
  (.invokevirtual 411, .invokevirtual 411, 3, 0, 1, 0, .null, mX12_goFor, [(0, 1616), (0, 1618), (0, 85)]),
  (.nop, .iconst 0, 1, 0, 0, 0, .int 0, rm_M0, []),
  (.istore 5, .istore 5, 2, 0, 0, 0, .null, rm_M0, [])]
def bX12_isRescued_99 : List rm_J := [
  (.iload 5, .iload 5, 2, 0, 0, 0, .null, rm_M0, []),
  (.aload 0, .aload_n 0, 1, 0, 0, 0, .null, rm_M0, []),
  (.getfield 9, .getfield 9, 3, 12, 1, 1140, .null, rm_M0, []),
  (.nop, .iconst 3, 1, 0, 0, 0, .int 3, rm_M0, []),
  (.iaload, .iaload, 1, 0, 0, 0, .null, rm_M0, []),
  (.if_icmp .ge 28, .if_icmp .ge 28, 3, 135, 0, 0, .null, rm_M0, []),
  (.iload 3, .iload_n 3, 1, 0, 0, 0, .null, rm_M0, []),
  (.aload 0, .aload_n 0, 1, 0, 0, 0, .null, rm_M0, []),
  (.getfield 16, .getfield 16, 3, 12, 3, 1142, .null, rm_M0, []),
  (.iload 5, .iload 5, 2, 0, 0, 0, .null, rm_M0, []),
  (.iaload, .iaload, 1, 0, 0, 0, .null, rm_M0, []),
  (.nop, .iconst 3, 1, 0, 0, 0, .int 3, rm_M0, []),
  (.if_icmp .ne 7, .if_icmp .ne 7, 3, 126, 0, 0, .null, rm_M0, []),
  (.nop, .iconst 1, 1, 0, 0, 0, .int 1, rm_M0, []),
  (.goto 4, .goto 4, 3, 127, 0, 0, .null, rm_M0, [])]
def bX12_isRescued_126 : List rm_J := [
  (.nop, .iconst 0, 1, 0, 0, 0, .int 0, rm_M0, [])]
def bX12_isRescued_127 : List rm_J := [
  (.iadd, .iadd, 1, 0, 0, 0, .null, rm_M0, []),
  (.istore 3, .istore_n 3, 1, 0, 0, 0, .null, rm_M0, []),
  (.iinc 5 1, .iinc 5 1, 3, 0, 0, 0, .int 1, rm_M0, []),
  (.goto (-33), .goto (-33), 3, 99, 0, 0, .null, rm_M0, [])]
def bX12_isRescued_135 : List rm_J := [
  (.aload 0, .aload_n 0, 1, 0, 0, 0, .null, rm_M0, []),
  (.invokevirtual 417, .invokevirtual 417, 3, 0, 0, 0, .null, mX12_laysBack, [(0, 1620), (0, 1622), (0, 86)]),
  (.iload 3, .iload_n 3, 1, 0, 0, 0, .null, rm_M0, []),
  (.iload 4, .iload 4, 2, 0, 0, 0, .null, rm_M0, []),
  (.if_icmp .ne 7, .if_icmp .ne 7, 3, 149, 0, 0, .null, rm_M0, []),
  (.nop, .iconst 1, 1, 0, 0, 0, .int 1, rm_M0, []),
  (.goto 4, .goto 4, 3, 150, 0, 0, .null, rm_M0, [])]
def bX12_isRescued_149 : List rm_J := [
  (.nop, .iconst 0, 1, 0, 0, 0, .int 0, rm_M0, [])]
def bX12_isRescued_150 : List rm_J := [
  (.ireturn, .ireturn, 1, 0, 0, 0, .null, rm_M0, [])]
def tX12_isRescued : rm_P := [(0, bX12_isRescued_0), (8, bX12_isRescued_8), (44, bX12_isRescued_44), (50, bX12_isRescued_50), (53, bX12_isRescued_53), (81, bX12_isRescued_81), (82, bX12_isRescued_82), (91, bX12_isRescued_91), (99, bX12_isRescued_99), (126, bX12_isRescued_126), (127, bX12_isRescued_127), (135, bX12_isRescued_135), (149, bX12_isRescued_149), (150, bX12_isRescued_150)]
theorem ok_X12_isRescued_t : rm_okP mX12_isRescued tX12_isRescued = true := by decide +kernel
theorem ok_X12_isRescued : rm_okM mX12_isRescued tX12_isRescued := ⟨ok_X12_isRescued_t, List.forall_mem_cons.mpr ⟨cw_X12_has, List.forall_mem_cons.mpr ⟨cw_X12_isOpen, List.forall_mem_cons.mpr ⟨cw_X12_answered, List.forall_mem_cons.mpr ⟨cw_X12_goFor, List.forall_mem_cons.mpr ⟨cw_X12_laysBack, fun _ h => absurd h List.not_mem_nil⟩⟩⟩⟩⟩⟩
theorem atX12_isRescued_0 : rm_at tX12_isRescued 0 = some bX12_isRescued_0 := rfl
theorem atX12_isRescued_8 : rm_at tX12_isRescued 8 = some bX12_isRescued_8 := rfl
theorem atX12_isRescued_44 : rm_at tX12_isRescued 44 = some bX12_isRescued_44 := rfl
theorem atX12_isRescued_50 : rm_at tX12_isRescued 50 = some bX12_isRescued_50 := rfl
theorem atX12_isRescued_53 : rm_at tX12_isRescued 53 = some bX12_isRescued_53 := rfl
theorem atX12_isRescued_81 : rm_at tX12_isRescued 81 = some bX12_isRescued_81 := rfl
theorem atX12_isRescued_82 : rm_at tX12_isRescued 82 = some bX12_isRescued_82 := rfl
theorem atX12_isRescued_91 : rm_at tX12_isRescued 91 = some bX12_isRescued_91 := rfl
theorem atX12_isRescued_99 : rm_at tX12_isRescued 99 = some bX12_isRescued_99 := rfl
theorem atX12_isRescued_126 : rm_at tX12_isRescued 126 = some bX12_isRescued_126 := rfl
theorem atX12_isRescued_127 : rm_at tX12_isRescued 127 = some bX12_isRescued_127 := rfl
theorem atX12_isRescued_135 : rm_at tX12_isRescued 135 = some bX12_isRescued_135 := rfl
theorem atX12_isRescued_149 : rm_at tX12_isRescued 149 = some bX12_isRescued_149 := rfl
theorem atX12_isRescued_150 : rm_at tX12_isRescued 150 = some bX12_isRescued_150 := rfl
def bX12_rescue_0 : List rm_J := [
  (.aload 0, .aload_n 0, 1, 0, 0, 0, .null, rm_M0, []),
  (.invokevirtual 397, .invokevirtual 397, 3, 0, 0, 0, .null, mX12_isRealm, [(0, 1521), (0, 1523), (0, 70)]),
  (.ifCond .eq 25, .ifCond .eq 25, 3, 29, 0, 0, .null, rm_M0, []),
  (.iload 1, .iload_n 1, 1, 0, 0, 0, .null, rm_M0, []),
  (.i2l, .i2l, 1, 0, 0, 0, .null, rm_M0, []),
  (.nop, .lconst 1, 1, 0, 0, 0, .long 1, rm_M0, []),
  (.nop, .ldc2_w 432, 3, 0, 0, 1646, .long 60, rm_M0, []),
  (.invokestatic 125, .invokestatic 125, 3, 0, 3, 0, .null, mX12_in, [(0, 1379), (0, 1380)]),
  (.ifCond .eq 13, .ifCond .eq 13, 3, 29, 0, 0, .null, rm_M0, []),
  (.iload 2, .iload_n 2, 1, 0, 0, 0, .null, rm_M0, []),
  (.i2l, .i2l, 1, 0, 0, 0, .null, rm_M0, []),
  (.nop, .lconst 0, 1, 0, 0, 0, .long 0, rm_M0, []),
  (.nop, .lconst 1, 1, 0, 0, 0, .long 1, rm_M0, []),
  (.invokestatic 125, .invokestatic 125, 3, 0, 3, 0, .null, mX12_in, [(0, 1379), (0, 1380)]),
  (.ifCond .ne 5, .ifCond .ne 5, 3, 31, 0, 0, .null, rm_M0, [])]
def bX12_rescue_29 : List rm_J := [
  (.nop, .iconst (-1), 1, 0, 0, 0, .int (-1), rm_M0, []),
  (.ireturn, .ireturn, 1, 0, 0, 0, .null, rm_M0, [])]
def bX12_rescue_31 : List rm_J := [
  (.aload 0, .aload_n 0, 1, 0, 0, 0, .null, rm_M0, []),
  (.invokevirtual 348, .invokevirtual 348, 3, 0, 0, 0, .null, mX12_openOnes, [(0, 1546), (0, 1548), (0, 76)]),
  (.istore 3, .istore_n 3, 1, 0, 0, 0, .null, rm_M0, []),
  (.nop, .bipush (-2), 2, 0, 0, 0, .int (-2), rm_M0, []),
  (.istore 4, .istore 4, 2, 0, 0, 0, .null, rm_M0, []),
  (.aload 0, .aload_n 0, 1, 0, 0, 0, .null, rm_M0, []),
  (.invokevirtual 422, .invokevirtual 422, 3, 0, 0, 0, .null, mX12_keepsAll, [(0, 1604), (0, 1606), (0, 82)]),
  (.nop, .iconst 0, 1, 0, 0, 0, .int 0, rm_M0, []),
  (.istore 5, .istore 5, 2, 0, 0, 0, .null, rm_M0, [])]
def bX12_rescue_47 : List rm_J := [
  (.iload 5, .iload 5, 2, 0, 0, 0, .null, rm_M0, []),
  (.iload 3, .iload_n 3, 1, 0, 0, 0, .null, rm_M0, []),
  (.if_icmp .gt 57, .if_icmp .gt 57, 3, 107, 0, 0, .null, rm_M0, []),
  (.iload 5, .iload 5, 2, 0, 0, 0, .null, rm_M0, []),
  (.iload 3, .iload_n 3, 1, 0, 0, 0, .null, rm_M0, []),
  (.nop, .iconst (-1), 1, 0, 0, 0, .int (-1), rm_M0, []),
  (.ixor, .ixor, 1, 0, 0, 0, .null, rm_M0, []),
  (.iand, .iand, 1, 0, 0, 0, .null, rm_M0, []),
  (.ifCond .ne 42, .ifCond .ne 42, 3, 101, 0, 0, .null, rm_M0, []),
  (.iload 4, .iload 4, 2, 0, 0, 0, .null, rm_M0, []),
  (.nop, .bipush (-2), 2, 0, 0, 0, .int (-2), rm_M0, []),
  (.if_icmp .eq 16, .if_icmp .eq 16, 3, 82, 0, 0, .null, rm_M0, []),
  (.iload 5, .iload 5, 2, 0, 0, 0, .null, rm_M0, []),
  (.invokestatic 351, .invokestatic 351, 3, 0, 1, 0, .null, mX12_bits, [(0, 1550), (0, 1551)]),
  (.iload 4, .iload 4, 2, 0, 0, 0, .null, rm_M0, []),
  (.invokestatic 351, .invokestatic 351, 3, 0, 1, 0, .null, mX12_bits, [(0, 1550), (0, 1551)]),
  (.if_icmp .ge 22, .if_icmp .ge 22, 3, 101, 0, 0, .null, rm_M0, [])]
def bX12_rescue_82 : List rm_J := [
  (.aload 0, .aload_n 0, 1, 0, 0, 0, .null, rm_M0, []),
  (.iload 5, .iload 5, 2, 0, 0, 0, .null, rm_M0, []),
  (.iload 1, .iload_n 1, 1, 0, 0, 0, .null, rm_M0, []),
  (.invokevirtual 439, .invokevirtual 439, 3, 0, 2, 0, .null, mX12_isRescued, [(0, 1656), (0, 1658), (0, 90)]),
  (.ifCond .eq 8, .ifCond .eq 8, 3, 97, 0, 0, .null, rm_M0, []),
  (.iload 5, .iload 5, 2, 0, 0, 0, .null, rm_M0, []),
  (.goto 5, .goto 5, 3, 99, 0, 0, .null, rm_M0, [])]
def bX12_rescue_97 : List rm_J := [
  (.iload 4, .iload 4, 2, 0, 0, 0, .null, rm_M0, [])]
def bX12_rescue_99 : List rm_J := [
  (.istore 4, .istore 4, 2, 0, 0, 0, .null, rm_M0, [])]
def bX12_rescue_101 : List rm_J := [
  (.iinc 5 1, .iinc 5 1, 3, 0, 0, 0, .int 1, rm_M0, []),
  (.goto (-57), .goto (-57), 3, 47, 0, 0, .null, rm_M0, [])]
def bX12_rescue_107 : List rm_J := [
  (.iload 4, .iload 4, 2, 0, 0, 0, .null, rm_M0, []),
  (.nop, .bipush (-2), 2, 0, 0, 0, .int (-2), rm_M0, []),
  (.if_icmp .eq 8, .if_icmp .eq 8, 3, 119, 0, 0, .null, rm_M0, []),
  (.iload 2, .iload_n 2, 1, 0, 0, 0, .null, rm_M0, []),
  (.nop, .iconst 1, 1, 0, 0, 0, .int 1, rm_M0, []),
  (.if_icmp .ne 8, .if_icmp .ne 8, 3, 124, 0, 0, .null, rm_M0, [])]
def bX12_rescue_119 : List rm_J := [
  (.iload 4, .iload 4, 2, 0, 0, 0, .null, rm_M0, []),
  (.goto 8, .goto 8, 3, 129, 0, 0, .null, rm_M0, [])]
def bX12_rescue_124 : List rm_J := [
  (.iload 4, .iload 4, 2, 0, 0, 0, .null, rm_M0, []),
  (.invokestatic 351, .invokestatic 351, 3, 0, 1, 0, .null, mX12_bits, [(0, 1550), (0, 1551)])]
def bX12_rescue_129 : List rm_J := [
  (.ireturn, .ireturn, 1, 0, 0, 0, .null, rm_M0, [])]
def tX12_rescue : rm_P := [(0, bX12_rescue_0), (29, bX12_rescue_29), (31, bX12_rescue_31), (47, bX12_rescue_47), (82, bX12_rescue_82), (97, bX12_rescue_97), (99, bX12_rescue_99), (101, bX12_rescue_101), (107, bX12_rescue_107), (119, bX12_rescue_119), (124, bX12_rescue_124), (129, bX12_rescue_129)]
theorem ok_X12_rescue_t : rm_okP mX12_rescue tX12_rescue = true := by decide +kernel
theorem ok_X12_rescue : rm_okM mX12_rescue tX12_rescue := ⟨ok_X12_rescue_t, List.forall_mem_cons.mpr ⟨cw_X12_isRealm, List.forall_mem_cons.mpr ⟨cw_X12_in, List.forall_mem_cons.mpr ⟨cw_X12_in, List.forall_mem_cons.mpr ⟨cw_X12_openOnes, List.forall_mem_cons.mpr ⟨cw_X12_keepsAll, List.forall_mem_cons.mpr ⟨cw_X12_bits, List.forall_mem_cons.mpr ⟨cw_X12_bits, List.forall_mem_cons.mpr ⟨cw_X12_isRescued, List.forall_mem_cons.mpr ⟨cw_X12_bits, fun _ h => absurd h List.not_mem_nil⟩⟩⟩⟩⟩⟩⟩⟩⟩⟩
theorem atX12_rescue_0 : rm_at tX12_rescue 0 = some bX12_rescue_0 := rfl
theorem atX12_rescue_29 : rm_at tX12_rescue 29 = some bX12_rescue_29 := rfl
theorem atX12_rescue_31 : rm_at tX12_rescue 31 = some bX12_rescue_31 := rfl
theorem atX12_rescue_47 : rm_at tX12_rescue 47 = some bX12_rescue_47 := rfl
theorem atX12_rescue_82 : rm_at tX12_rescue 82 = some bX12_rescue_82 := rfl
theorem atX12_rescue_97 : rm_at tX12_rescue 97 = some bX12_rescue_97 := rfl
theorem atX12_rescue_99 : rm_at tX12_rescue 99 = some bX12_rescue_99 := rfl
theorem atX12_rescue_101 : rm_at tX12_rescue 101 = some bX12_rescue_101 := rfl
theorem atX12_rescue_107 : rm_at tX12_rescue 107 = some bX12_rescue_107 := rfl
theorem atX12_rescue_119 : rm_at tX12_rescue 119 = some bX12_rescue_119 := rfl
theorem atX12_rescue_124 : rm_at tX12_rescue 124 = some bX12_rescue_124 := rfl
theorem atX12_rescue_129 : rm_at tX12_rescue 129 = some bX12_rescue_129 := rfl
def bX12_isCovered_0 : List rm_J := [
  (.nop, .iconst 0, 1, 0, 0, 0, .int 0, rm_M0, []),
  (.istore 2, .istore_n 2, 1, 0, 0, 0, .null, rm_M0, [])]
def bX12_isCovered_2 : List rm_J := [
  (.iload 2, .iload_n 2, 1, 0, 0, 0, .null, rm_M0, []),
  (.aload 0, .aload_n 0, 1, 0, 0, 0, .null, rm_M0, []),
  (.getfield 9, .getfield 9, 3, 12, 1, 1140, .null, rm_M0, []),
  (.nop, .iconst 3, 1, 0, 0, 0, .int 3, rm_M0, []),
  (.iaload, .iaload, 1, 0, 0, 0, .null, rm_M0, []),
  (.if_icmp .ge 38, .if_icmp .ge 38, 3, 47, 0, 0, .null, rm_M0, []),
  (.aload 0, .aload_n 0, 1, 0, 0, 0, .null, rm_M0, []),
  (.iload 2, .iload_n 2, 1, 0, 0, 0, .null, rm_M0, []),
  (.invokevirtual 330, .invokevirtual 330, 3, 0, 1, 0, .null, mX12_isOpen, [(0, 1486), (0, 1488), (0, 64)]),
  (.ifCond .eq 24, .ifCond .eq 24, 3, 41, 0, 0, .null, rm_M0, []),
  (.iload 1, .iload_n 1, 1, 0, 0, 0, .null, rm_M0, []),
  (.iload 2, .iload_n 2, 1, 0, 0, 0, .null, rm_M0, []),
  (.invokestatic 334, .invokestatic 334, 3, 0, 2, 0, .null, mX12_has, [(0, 1494), (0, 1495)]),
  (.ifCond .ne 16, .ifCond .ne 16, 3, 41, 0, 0, .null, rm_M0, []),
  (.aload 0, .aload_n 0, 1, 0, 0, 0, .null, rm_M0, []),
  (.getfield 19, .getfield 19, 3, 12, 4, 1143, .null, rm_M0, []),
  (.iload 2, .iload_n 2, 1, 0, 0, 0, .null, rm_M0, []),
  (.iaload, .iaload, 1, 0, 0, 0, .null, rm_M0, []),
  (.iload 1, .iload_n 1, 1, 0, 0, 0, .null, rm_M0, []),
  (.iand, .iand, 1, 0, 0, 0, .null, rm_M0, []),
  (.ifCond .ne 5, .ifCond .ne 5, 3, 41, 0, 0, .null, rm_M0, []),
  (.nop, .iconst 0, 1, 0, 0, 0, .int 0, rm_M0, []),
  (.ireturn, .ireturn, 1, 0, 0, 0, .null, rm_M0, [])]
def bX12_isCovered_41 : List rm_J := [
  (.iinc 2 1, .iinc 2 1, 3, 0, 0, 0, .int 1, rm_M0, []),
  (.goto (-42), .goto (-42), 3, 2, 0, 0, .null, rm_M0, [])]
def bX12_isCovered_47 : List rm_J := [
  (.nop, .iconst 1, 1, 0, 0, 0, .int 1, rm_M0, []),
  (.ireturn, .ireturn, 1, 0, 0, 0, .null, rm_M0, [])]
def tX12_isCovered : rm_P := [(0, bX12_isCovered_0), (2, bX12_isCovered_2), (41, bX12_isCovered_41), (47, bX12_isCovered_47)]
theorem ok_X12_isCovered_t : rm_okP mX12_isCovered tX12_isCovered = true := by decide +kernel
theorem ok_X12_isCovered : rm_okM mX12_isCovered tX12_isCovered := ⟨ok_X12_isCovered_t, List.forall_mem_cons.mpr ⟨cw_X12_isOpen, List.forall_mem_cons.mpr ⟨cw_X12_has, fun _ h => absurd h List.not_mem_nil⟩⟩⟩
theorem atX12_isCovered_0 : rm_at tX12_isCovered 0 = some bX12_isCovered_0 := rfl
theorem atX12_isCovered_2 : rm_at tX12_isCovered 2 = some bX12_isCovered_2 := rfl
theorem atX12_isCovered_41 : rm_at tX12_isCovered 41 = some bX12_isCovered_41 := rfl
theorem atX12_isCovered_47 : rm_at tX12_isCovered 47 = some bX12_isCovered_47 := rfl
def bX12_cover_0 : List rm_J := [
  (.aload 0, .aload_n 0, 1, 0, 0, 0, .null, rm_M0, []),
  (.invokevirtual 397, .invokevirtual 397, 3, 0, 0, 0, .null, mX12_isRealm, [(0, 1521), (0, 1523), (0, 70)]),
  (.ifCond .eq 13, .ifCond .eq 13, 3, 17, 0, 0, .null, rm_M0, []),
  (.iload 1, .iload_n 1, 1, 0, 0, 0, .null, rm_M0, []),
  (.i2l, .i2l, 1, 0, 0, 0, .null, rm_M0, []),
  (.nop, .lconst 0, 1, 0, 0, 0, .long 0, rm_M0, []),
  (.nop, .lconst 1, 1, 0, 0, 0, .long 1, rm_M0, []),
  (.invokestatic 125, .invokestatic 125, 3, 0, 3, 0, .null, mX12_in, [(0, 1379), (0, 1380)]),
  (.ifCond .ne 5, .ifCond .ne 5, 3, 19, 0, 0, .null, rm_M0, [])]
def bX12_cover_17 : List rm_J := [
  (.nop, .iconst (-1), 1, 0, 0, 0, .int (-1), rm_M0, []),
  (.ireturn, .ireturn, 1, 0, 0, 0, .null, rm_M0, [])]
def bX12_cover_19 : List rm_J := [
  (.aload 0, .aload_n 0, 1, 0, 0, 0, .null, rm_M0, []),
  (.invokevirtual 348, .invokevirtual 348, 3, 0, 0, 0, .null, mX12_openOnes, [(0, 1546), (0, 1548), (0, 76)]),
  (.istore 2, .istore_n 2, 1, 0, 0, 0, .null, rm_M0, []),
  (.iload 2, .iload_n 2, 1, 0, 0, 0, .null, rm_M0, []),
  (.istore 3, .istore_n 3, 1, 0, 0, 0, .null, rm_M0, []),
  (.nop, .iconst 0, 1, 0, 0, 0, .int 0, rm_M0, []),
  (.istore 4, .istore 4, 2, 0, 0, 0, .null, rm_M0, [])]
def bX12_cover_29 : List rm_J := [
  (.iload 4, .iload 4, 2, 0, 0, 0, .null, rm_M0, []),
  (.iload 2, .iload_n 2, 1, 0, 0, 0, .null, rm_M0, []),
  (.if_icmp .ge 42, .if_icmp .ge 42, 3, 74, 0, 0, .null, rm_M0, []),
  (.iload 4, .iload 4, 2, 0, 0, 0, .null, rm_M0, []),
  (.iload 2, .iload_n 2, 1, 0, 0, 0, .null, rm_M0, []),
  (.nop, .iconst (-1), 1, 0, 0, 0, .int (-1), rm_M0, []),
  (.ixor, .ixor, 1, 0, 0, 0, .null, rm_M0, []),
  (.iand, .iand, 1, 0, 0, 0, .null, rm_M0, []),
  (.ifCond .ne 27, .ifCond .ne 27, 3, 68, 0, 0, .null, rm_M0, []),
  (.iload 4, .iload 4, 2, 0, 0, 0, .null, rm_M0, []),
  (.invokestatic 351, .invokestatic 351, 3, 0, 1, 0, .null, mX12_bits, [(0, 1550), (0, 1551)]),
  (.iload 3, .iload_n 3, 1, 0, 0, 0, .null, rm_M0, []),
  (.invokestatic 351, .invokestatic 351, 3, 0, 1, 0, .null, mX12_bits, [(0, 1550), (0, 1551)]),
  (.if_icmp .ge 15, .if_icmp .ge 15, 3, 68, 0, 0, .null, rm_M0, []),
  (.aload 0, .aload_n 0, 1, 0, 0, 0, .null, rm_M0, []),
  (.iload 4, .iload 4, 2, 0, 0, 0, .null, rm_M0, []),
  (.invokevirtual 442, .invokevirtual 442, 3, 0, 1, 0, .null, mX12_isCovered, [(0, 1664), (0, 1666), (0, 91)]),
  (.ifCond .eq 6, .ifCond .eq 6, 3, 68, 0, 0, .null, rm_M0, []),
  (.iload 4, .iload 4, 2, 0, 0, 0, .null, rm_M0, []),
  (.istore 3, .istore_n 3, 1, 0, 0, 0, .null, rm_M0, [])]
def bX12_cover_68 : List rm_J := [
  (.iinc 4 1, .iinc 4 1, 3, 0, 0, 0, .int 1, rm_M0, []),
  (.goto (-42), .goto (-42), 3, 29, 0, 0, .null, rm_M0, [])]
def bX12_cover_74 : List rm_J := [
  (.iload 1, .iload_n 1, 1, 0, 0, 0, .null, rm_M0, []),
  (.ifCond .ne 10, .ifCond .ne 10, 3, 85, 0, 0, .null, rm_M0, []),
  (.iload 3, .iload_n 3, 1, 0, 0, 0, .null, rm_M0, []),
  (.invokestatic 351, .invokestatic 351, 3, 0, 1, 0, .null, mX12_bits, [(0, 1550), (0, 1551)]),
  (.goto 4, .goto 4, 3, 86, 0, 0, .null, rm_M0, [])]
def bX12_cover_85 : List rm_J := [
  (.iload 3, .iload_n 3, 1, 0, 0, 0, .null, rm_M0, [])]
def bX12_cover_86 : List rm_J := [
  (.ireturn, .ireturn, 1, 0, 0, 0, .null, rm_M0, [])]
def tX12_cover : rm_P := [(0, bX12_cover_0), (17, bX12_cover_17), (19, bX12_cover_19), (29, bX12_cover_29), (68, bX12_cover_68), (74, bX12_cover_74), (85, bX12_cover_85), (86, bX12_cover_86)]
theorem ok_X12_cover_t : rm_okP mX12_cover tX12_cover = true := by decide +kernel
theorem ok_X12_cover : rm_okM mX12_cover tX12_cover := ⟨ok_X12_cover_t, List.forall_mem_cons.mpr ⟨cw_X12_isRealm, List.forall_mem_cons.mpr ⟨cw_X12_in, List.forall_mem_cons.mpr ⟨cw_X12_openOnes, List.forall_mem_cons.mpr ⟨cw_X12_bits, List.forall_mem_cons.mpr ⟨cw_X12_bits, List.forall_mem_cons.mpr ⟨cw_X12_isCovered, List.forall_mem_cons.mpr ⟨cw_X12_bits, fun _ h => absurd h List.not_mem_nil⟩⟩⟩⟩⟩⟩⟩⟩
theorem atX12_cover_0 : rm_at tX12_cover 0 = some bX12_cover_0 := rfl
theorem atX12_cover_17 : rm_at tX12_cover 17 = some bX12_cover_17 := rfl
theorem atX12_cover_19 : rm_at tX12_cover 19 = some bX12_cover_19 := rfl
theorem atX12_cover_29 : rm_at tX12_cover 29 = some bX12_cover_29 := rfl
theorem atX12_cover_68 : rm_at tX12_cover 68 = some bX12_cover_68 := rfl
theorem atX12_cover_74 : rm_at tX12_cover 74 = some bX12_cover_74 := rfl
theorem atX12_cover_85 : rm_at tX12_cover 85 = some bX12_cover_85 := rfl
theorem atX12_cover_86 : rm_at tX12_cover 86 = some bX12_cover_86 := rfl
def bX12_today_0 : List rm_J := [
  (.aload 0, .aload_n 0, 1, 0, 0, 0, .null, rm_M0, []),
  (.invokevirtual 397, .invokevirtual 397, 3, 0, 0, 0, .null, mX12_isRealm, [(0, 1521), (0, 1523), (0, 70)]),
  (.ifCond .eq 15, .ifCond .eq 15, 3, 19, 0, 0, .null, rm_M0, []),
  (.iload 1, .iload_n 1, 1, 0, 0, 0, .null, rm_M0, []),
  (.i2l, .i2l, 1, 0, 0, 0, .null, rm_M0, []),
  (.nop, .lconst 1, 1, 0, 0, 0, .long 1, rm_M0, []),
  (.nop, .ldc2_w 432, 3, 0, 0, 1646, .long 60, rm_M0, []),
  (.invokestatic 125, .invokestatic 125, 3, 0, 3, 0, .null, mX12_in, [(0, 1379), (0, 1380)]),
  (.ifCond .ne 7, .ifCond .ne 7, 3, 23, 0, 0, .null, rm_M0, [])]
def bX12_today_19 : List rm_J := [
  (.nop, .ldc_w 427, 3, 0, 0, 1633, .int (-100000), rm_M0, []),
  (.ireturn, .ireturn, 1, 0, 0, 0, .null, rm_M0, [])]
def bX12_today_23 : List rm_J := [
  (.aload 0, .aload_n 0, 1, 0, 0, 0, .null, rm_M0, []),
  (.invokevirtual 422, .invokevirtual 422, 3, 0, 0, 0, .null, mX12_keepsAll, [(0, 1604), (0, 1606), (0, 82)]),
  (.aload 0, .aload_n 0, 1, 0, 0, 0, .null, rm_M0, []),
  (.iload 1, .iload_n 1, 1, 0, 0, 0, .null, rm_M0, []),
  (.invokevirtual 436, .invokevirtual 436, 3, 0, 1, 0, .null, mX12_netIn, [(0, 1648), (0, 1650), (0, 89)]),
  (.istore 2, .istore_n 2, 1, 0, 0, 0, .null, rm_M0, []),
  (.aload 0, .aload_n 0, 1, 0, 0, 0, .null, rm_M0, []),
  (.getfield 9, .getfield 9, 3, 12, 1, 1140, .null, rm_M0, []),
  (.nop, .bipush 9, 2, 0, 0, 0, .int 9, rm_M0, []),
  (.nop, .iconst 1, 1, 0, 0, 0, .int 1, rm_M0, []),
  (.iastore, .iastore, 1, 0, 0, 0, .null, rm_M0, []),
  (.iload 2, .iload_n 2, 1, 0, 0, 0, .null, rm_M0, []),
  (.aload 0, .aload_n 0, 1, 0, 0, 0, .null, rm_M0, []),
  (.iload 1, .iload_n 1, 1, 0, 0, 0, .null, rm_M0, []),
  (.invokevirtual 436, .invokevirtual 436, 3, 0, 1, 0, .null, mX12_netIn, [(0, 1648), (0, 1650), (0, 89)]),
  (.isub, .isub, 1, 0, 0, 0, .null, rm_M0, []),
  (.ireturn, .ireturn, 1, 0, 0, 0, .null, rm_M0, [])]
def tX12_today : rm_P := [(0, bX12_today_0), (19, bX12_today_19), (23, bX12_today_23)]
theorem ok_X12_today_t : rm_okP mX12_today tX12_today = true := by decide +kernel
theorem ok_X12_today : rm_okM mX12_today tX12_today := ⟨ok_X12_today_t, List.forall_mem_cons.mpr ⟨cw_X12_isRealm, List.forall_mem_cons.mpr ⟨cw_X12_in, List.forall_mem_cons.mpr ⟨cw_X12_keepsAll, List.forall_mem_cons.mpr ⟨cw_X12_netIn, List.forall_mem_cons.mpr ⟨cw_X12_netIn, fun _ h => absurd h List.not_mem_nil⟩⟩⟩⟩⟩⟩
theorem atX12_today_0 : rm_at tX12_today 0 = some bX12_today_0 := rfl
theorem atX12_today_19 : rm_at tX12_today 19 = some bX12_today_19 := rfl
theorem atX12_today_23 : rm_at tX12_today 23 = some bX12_today_23 := rfl
def bX12_waste_0 : List rm_J := [
  (.aload 0, .aload_n 0, 1, 0, 0, 0, .null, rm_M0, []),
  (.invokevirtual 397, .invokevirtual 397, 3, 0, 0, 0, .null, mX12_isRealm, [(0, 1521), (0, 1523), (0, 70)]),
  (.ifCond .eq 25, .ifCond .eq 25, 3, 29, 0, 0, .null, rm_M0, []),
  (.iload 1, .iload_n 1, 1, 0, 0, 0, .null, rm_M0, []),
  (.i2l, .i2l, 1, 0, 0, 0, .null, rm_M0, []),
  (.nop, .lconst 1, 1, 0, 0, 0, .long 1, rm_M0, []),
  (.nop, .ldc2_w 445, 3, 0, 0, 1676, .long 20, rm_M0, []),
  (.invokestatic 125, .invokestatic 125, 3, 0, 3, 0, .null, mX12_in, [(0, 1379), (0, 1380)]),
  (.ifCond .eq 13, .ifCond .eq 13, 3, 29, 0, 0, .null, rm_M0, []),
  (.iload 2, .iload_n 2, 1, 0, 0, 0, .null, rm_M0, []),
  (.i2l, .i2l, 1, 0, 0, 0, .null, rm_M0, []),
  (.nop, .lconst 0, 1, 0, 0, 0, .long 0, rm_M0, []),
  (.nop, .lconst 1, 1, 0, 0, 0, .long 1, rm_M0, []),
  (.invokestatic 125, .invokestatic 125, 3, 0, 3, 0, .null, mX12_in, [(0, 1379), (0, 1380)]),
  (.ifCond .ne 7, .ifCond .ne 7, 3, 33, 0, 0, .null, rm_M0, [])]
def bX12_waste_29 : List rm_J := [
  (.nop, .ldc_w 427, 3, 0, 0, 1633, .int (-100000), rm_M0, []),
  (.ireturn, .ireturn, 1, 0, 0, 0, .null, rm_M0, [])]
def bX12_waste_33 : List rm_J := [
  (.aload 0, .aload_n 0, 1, 0, 0, 0, .null, rm_M0, []),
  (.invokevirtual 414, .invokevirtual 414, 3, 0, 0, 0, .null, mX12_net, [(0, 1634), (0, 1636), (0, 87)]),
  (.istore 3, .istore_n 3, 1, 0, 0, 0, .null, rm_M0, []),
  (.nop, .ldc_w 427, 3, 0, 0, 1633, .int (-100000), rm_M0, []),
  (.istore 4, .istore 4, 2, 0, 0, 0, .null, rm_M0, []),
  (.nop, .iconst (-1), 1, 0, 0, 0, .int (-1), rm_M0, []),
  (.istore 5, .istore 5, 2, 0, 0, 0, .null, rm_M0, []),
  (.aload 0, .aload_n 0, 1, 0, 0, 0, .null, rm_M0, []),
  (.invokevirtual 422, .invokevirtual 422, 3, 0, 0, 0, .null, mX12_keepsAll, [(0, 1604), (0, 1606), (0, 82)]),
  (.nop, .iconst 0, 1, 0, 0, 0, .int 0, rm_M0, []),
  (.istore 6, .istore 6, 2, 0, 0, 0, .null, rm_M0, [])]
def bX12_waste_53 : List rm_J := [
  (.iload 6, .iload 6, 2, 0, 0, 0, .null, rm_M0, []),
  (.iload 1, .iload_n 1, 1, 0, 0, 0, .null, rm_M0, []),
  (.if_icmp .ge 50, .if_icmp .ge 50, 3, 106, 0, 0, .null, rm_M0, []),
  (.aload 0, .aload_n 0, 1, 0, 0, 0, .null, rm_M0, []),
  (.iload 6, .iload 6, 2, 0, 0, 0, .null, rm_M0, []),
  (.invokevirtual 411, .invokevirtual 411, 3, 0, 1, 0, .null, mX12_goFor, [(0, 1616), (0, 1618), (0, 85)]),
  (.aload 0, .aload_n 0, 1, 0, 0, 0, .null, rm_M0, []),
  (.getfield 9, .getfield 9, 3, 12, 1, 1140, .null, rm_M0, []),
  (.nop, .bipush 9, 2, 0, 0, 0, .int 9, rm_M0, []),
  (.nop, .iconst 1, 1, 0, 0, 0, .int 1, rm_M0, []),
  (.iastore, .iastore, 1, 0, 0, 0, .null, rm_M0, []),
  (.aload 0, .aload_n 0, 1, 0, 0, 0, .null, rm_M0, []),
  (.iload 1, .iload_n 1, 1, 0, 0, 0, .null, rm_M0, []),
  (.iload 6, .iload 6, 2, 0, 0, 0, .null, rm_M0, []),
  (.isub, .isub, 1, 0, 0, 0, .null, rm_M0, []),
  (.invokevirtual 436, .invokevirtual 436, 3, 0, 1, 0, .null, mX12_netIn, [(0, 1648), (0, 1650), (0, 89)]),
  (.iload 3, .iload_n 3, 1, 0, 0, 0, .null, rm_M0, []),
  (.isub, .isub, 1, 0, 0, 0, .null, rm_M0, []),
  (.istore 7, .istore 7, 2, 0, 0, 0, .null, rm_M0, []),
  (.iload 7, .iload 7, 2, 0, 0, 0, .null, rm_M0, []),
  (.iload 4, .iload 4, 2, 0, 0, 0, .null, rm_M0, []),
  (.if_icmp .le 11, .if_icmp .le 11, 3, 100, 0, 0, .null, rm_M0, []),
  (.iload 7, .iload 7, 2, 0, 0, 0, .null, rm_M0, []),
  (.istore 4, .istore 4, 2, 0, 0, 0, .null, rm_M0, []),
  (.iload 6, .iload 6, 2, 0, 0, 0, .null, rm_M0, []),
  (.istore 5, .istore 5, 2, 0, 0, 0, .null, rm_M0, [])]
def bX12_waste_100 : List rm_J := [
  (.iinc 6 1, .iinc 6 1, 3, 0, 0, 0, .int 1, rm_M0, []),
  (.goto (-50), .goto (-50), 3, 53, 0, 0, .null, rm_M0, [])]
def bX12_waste_106 : List rm_J := [
  (.iload 2, .iload_n 2, 1, 0, 0, 0, .null, rm_M0, []),
  (.ifCond .ne 8, .ifCond .ne 8, 3, 115, 0, 0, .null, rm_M0, []),
  (.iload 5, .iload 5, 2, 0, 0, 0, .null, rm_M0, []),
  (.goto 5, .goto 5, 3, 117, 0, 0, .null, rm_M0, [])]
def bX12_waste_115 : List rm_J := [
  (.iload 4, .iload 4, 2, 0, 0, 0, .null, rm_M0, [])]
def bX12_waste_117 : List rm_J := [
  (.ireturn, .ireturn, 1, 0, 0, 0, .null, rm_M0, [])]
def tX12_waste : rm_P := [(0, bX12_waste_0), (29, bX12_waste_29), (33, bX12_waste_33), (53, bX12_waste_53), (100, bX12_waste_100), (106, bX12_waste_106), (115, bX12_waste_115), (117, bX12_waste_117)]
theorem ok_X12_waste_t : rm_okP mX12_waste tX12_waste = true := by decide +kernel
theorem ok_X12_waste : rm_okM mX12_waste tX12_waste := ⟨ok_X12_waste_t, List.forall_mem_cons.mpr ⟨cw_X12_isRealm, List.forall_mem_cons.mpr ⟨cw_X12_in, List.forall_mem_cons.mpr ⟨cw_X12_in, List.forall_mem_cons.mpr ⟨cw_X12_net, List.forall_mem_cons.mpr ⟨cw_X12_keepsAll, List.forall_mem_cons.mpr ⟨cw_X12_goFor, List.forall_mem_cons.mpr ⟨cw_X12_netIn, fun _ h => absurd h List.not_mem_nil⟩⟩⟩⟩⟩⟩⟩⟩
theorem atX12_waste_0 : rm_at tX12_waste 0 = some bX12_waste_0 := rfl
theorem atX12_waste_29 : rm_at tX12_waste 29 = some bX12_waste_29 := rfl
theorem atX12_waste_33 : rm_at tX12_waste 33 = some bX12_waste_33 := rfl
theorem atX12_waste_53 : rm_at tX12_waste 53 = some bX12_waste_53 := rfl
theorem atX12_waste_100 : rm_at tX12_waste 100 = some bX12_waste_100 := rfl
theorem atX12_waste_106 : rm_at tX12_waste 106 = some bX12_waste_106 := rfl
theorem atX12_waste_115 : rm_at tX12_waste 115 = some bX12_waste_115 := rfl
theorem atX12_waste_117 : rm_at tX12_waste 117 = some bX12_waste_117 := rfl
def bX12_blame_0 : List rm_J := [
  (.aload 0, .aload_n 0, 1, 0, 0, 0, .null, rm_M0, []),
  (.iload 2, .iload_n 2, 1, 0, 0, 0, .null, rm_M0, []),
  (.invokevirtual 340, .invokevirtual 340, 3, 0, 1, 0, .null, mX12_isQuestion, [(0, 1482), (0, 1484), (0, 63)]),
  (.ifCond .eq 15, .ifCond .eq 15, 3, 20, 0, 0, .null, rm_M0, []),
  (.iload 1, .iload_n 1, 1, 0, 0, 0, .null, rm_M0, []),
  (.i2l, .i2l, 1, 0, 0, 0, .null, rm_M0, []),
  (.nop, .lconst 0, 1, 0, 0, 0, .long 0, rm_M0, []),
  (.nop, .ldc2_w 447, 3, 0, 0, 1681, .long 9999, rm_M0, []),
  (.invokestatic 125, .invokestatic 125, 3, 0, 3, 0, .null, mX12_in, [(0, 1379), (0, 1380)]),
  (.ifCond .ne 5, .ifCond .ne 5, 3, 22, 0, 0, .null, rm_M0, [])]
def bX12_blame_20 : List rm_J := [
  (.nop, .iconst (-1), 1, 0, 0, 0, .int (-1), rm_M0, []),
  (.ireturn, .ireturn, 1, 0, 0, 0, .null, rm_M0, [])]
def bX12_blame_22 : List rm_J := [
  (.aload 0, .aload_n 0, 1, 0, 0, 0, .null, rm_M0, []),
  (.getfield 16, .getfield 16, 3, 12, 3, 1142, .null, rm_M0, []),
  (.iload 2, .iload_n 2, 1, 0, 0, 0, .null, rm_M0, []),
  (.iaload, .iaload, 1, 0, 0, 0, .null, rm_M0, []),
  (.nop, .iconst 3, 1, 0, 0, 0, .int 3, rm_M0, []),
  (.if_icmp .eq 5, .if_icmp .eq 5, 3, 34, 0, 0, .null, rm_M0, []),
  (.nop, .iconst 0, 1, 0, 0, 0, .int 0, rm_M0, []),
  (.ireturn, .ireturn, 1, 0, 0, 0, .null, rm_M0, [])]
def bX12_blame_34 : List rm_J := [
  (.nop, .iconst 0, 1, 0, 0, 0, .int 0, rm_M0, []),
  (.istore 3, .istore_n 3, 1, 0, 0, 0, .null, rm_M0, []),
  (.nop, .iconst 0, 1, 0, 0, 0, .int 0, rm_M0, []),
  (.istore 4, .istore 4, 2, 0, 0, 0, .null, rm_M0, []),
  (.nop, .iconst 0, 1, 0, 0, 0, .int 0, rm_M0, []),
  (.istore 5, .istore 5, 2, 0, 0, 0, .null, rm_M0, [])]
def bX12_blame_42 : List rm_J := [
  (.iload 5, .iload 5, 2, 0, 0, 0, .null, rm_M0, []),
  (.aload 0, .aload_n 0, 1, 0, 0, 0, .null, rm_M0, []),
  (.getfield 9, .getfield 9, 3, 12, 1, 1140, .null, rm_M0, []),
  (.nop, .iconst 3, 1, 0, 0, 0, .int 3, rm_M0, []),
  (.iaload, .iaload, 1, 0, 0, 0, .null, rm_M0, []),
  (.if_icmp .ge 55, .if_icmp .ge 55, 3, 105, 0, 0, .null, rm_M0, []),
  (.iload 3, .iload_n 3, 1, 0, 0, 0, .null, rm_M0, []),
  (.aload 0, .aload_n 0, 1, 0, 0, 0, .null, rm_M0, []),
  (.getfield 16, .getfield 16, 3, 12, 3, 1142, .null, rm_M0, []),
  (.iload 5, .iload 5, 2, 0, 0, 0, .null, rm_M0, []),
  (.iaload, .iaload, 1, 0, 0, 0, .null, rm_M0, []),
  (.nop, .iconst 3, 1, 0, 0, 0, .int 3, rm_M0, []),
  (.if_icmp .ne 13, .if_icmp .ne 13, 3, 75, 0, 0, .null, rm_M0, []),
  (.aload 0, .aload_n 0, 1, 0, 0, 0, .null, rm_M0, []),
  (.getfield 13, .getfield 13, 3, 12, 2, 1141, .null, rm_M0, []),
  (.iload 5, .iload 5, 2, 0, 0, 0, .null, rm_M0, []),
  (.iaload, .iaload, 1, 0, 0, 0, .null, rm_M0, []),
  (.goto 4, .goto 4, 3, 76, 0, 0, .null, rm_M0, [])]
def bX12_blame_75 : List rm_J := [
  (.nop, .iconst 0, 1, 0, 0, 0, .int 0, rm_M0, [])]
def bX12_blame_76 : List rm_J := [
  (.iadd, .iadd, 1, 0, 0, 0, .null, rm_M0, []),
  (.istore 3, .istore_n 3, 1, 0, 0, 0, .null, rm_M0, []),
  (.iload 4, .iload 4, 2, 0, 0, 0, .null, rm_M0, []),
  (.aload 0, .aload_n 0, 1, 0, 0, 0, .null, rm_M0, []),
  (.getfield 16, .getfield 16, 3, 12, 3, 1142, .null, rm_M0, []),
  (.iload 5, .iload 5, 2, 0, 0, 0, .null, rm_M0, []),
  (.iaload, .iaload, 1, 0, 0, 0, .null, rm_M0, []),
  (.nop, .iconst 3, 1, 0, 0, 0, .int 3, rm_M0, []),
  (.if_icmp .ne 7, .if_icmp .ne 7, 3, 95, 0, 0, .null, rm_M0, []),
  (.nop, .iconst 1, 1, 0, 0, 0, .int 1, rm_M0, []),
  (.goto 4, .goto 4, 3, 96, 0, 0, .null, rm_M0, [])]
def bX12_blame_95 : List rm_J := [
  (.nop, .iconst 0, 1, 0, 0, 0, .int 0, rm_M0, [])]
def bX12_blame_96 : List rm_J := [
  (.iadd, .iadd, 1, 0, 0, 0, .null, rm_M0, []),
  (.istore 4, .istore 4, 2, 0, 0, 0, .null, rm_M0, []),
  (.iinc 5 1, .iinc 5 1, 3, 0, 0, 0, .int 1, rm_M0, []),
  (.goto (-60), .goto (-60), 3, 42, 0, 0, .null, rm_M0, [])]
def bX12_blame_105 : List rm_J := [
  (.iload 3, .iload_n 3, 1, 0, 0, 0, .null, rm_M0, []),
  (.ifCond .ne 7, .ifCond .ne 7, 3, 113, 0, 0, .null, rm_M0, []),
  (.nop, .iconst 1, 1, 0, 0, 0, .int 1, rm_M0, []),
  (.goto 4, .goto 4, 3, 114, 0, 0, .null, rm_M0, [])]
def bX12_blame_113 : List rm_J := [
  (.nop, .iconst 0, 1, 0, 0, 0, .int 0, rm_M0, [])]
def bX12_blame_114 : List rm_J := [
  (.istore 5, .istore 5, 2, 0, 0, 0, .null, rm_M0, []),
  (.iload 3, .iload_n 3, 1, 0, 0, 0, .null, rm_M0, []),
  (.iload 5, .iload 5, 2, 0, 0, 0, .null, rm_M0, []),
  (.iload 4, .iload 4, 2, 0, 0, 0, .null, rm_M0, []),
  (.imul, .imul, 1, 0, 0, 0, .null, rm_M0, []),
  (.iadd, .iadd, 1, 0, 0, 0, .null, rm_M0, []),
  (.istore 3, .istore_n 3, 1, 0, 0, 0, .null, rm_M0, []),
  (.iload 1, .iload_n 1, 1, 0, 0, 0, .null, rm_M0, []),
  (.istore 6, .istore 6, 2, 0, 0, 0, .null, rm_M0, []),
  (.nop, .iconst 0, 1, 0, 0, 0, .int 0, rm_M0, []),
  (.istore 7, .istore 7, 2, 0, 0, 0, .null, rm_M0, []),
  (.iload 1, .iload_n 1, 1, 0, 0, 0, .null, rm_M0, []),
  (.aload 0, .aload_n 0, 1, 0, 0, 0, .null, rm_M0, []),
  (.getfield 13, .getfield 13, 3, 12, 2, 1141, .null, rm_M0, []),
  (.iload 2, .iload_n 2, 1, 0, 0, 0, .null, rm_M0, []),
  (.iaload, .iaload, 1, 0, 0, 0, .null, rm_M0, []),
  (.iload 5, .iload 5, 2, 0, 0, 0, .null, rm_M0, []),
  (.iadd, .iadd, 1, 0, 0, 0, .null, rm_M0, []),
  (.imul, .imul, 1, 0, 0, 0, .null, rm_M0, []),
  (.istore 8, .istore 8, 2, 0, 0, 0, .null, rm_M0, []),
  (.nop, .iconst 0, 1, 0, 0, 0, .int 0, rm_M0, []),
  (.istore 9, .istore 9, 2, 0, 0, 0, .null, rm_M0, [])]
def bX12_blame_146 : List rm_J := [
  (.iload 9, .iload 9, 2, 0, 0, 0, .null, rm_M0, []),
  (.aload 0, .aload_n 0, 1, 0, 0, 0, .null, rm_M0, []),
  (.getfield 9, .getfield 9, 3, 12, 1, 1140, .null, rm_M0, []),
  (.nop, .iconst 3, 1, 0, 0, 0, .int 3, rm_M0, []),
  (.iaload, .iaload, 1, 0, 0, 0, .null, rm_M0, []),
  (.if_icmp .ge 81, .if_icmp .ge 81, 3, 235, 0, 0, .null, rm_M0, []),
  (.aload 0, .aload_n 0, 1, 0, 0, 0, .null, rm_M0, []),
  (.getfield 16, .getfield 16, 3, 12, 3, 1142, .null, rm_M0, []),
  (.iload 9, .iload 9, 2, 0, 0, 0, .null, rm_M0, []),
  (.iaload, .iaload, 1, 0, 0, 0, .null, rm_M0, []),
  (.nop, .iconst 3, 1, 0, 0, 0, .int 3, rm_M0, []),
  (.if_icmp .ne 64, .if_icmp .ne 64, 3, 229, 0, 0, .null, rm_M0, []),
  (.iload 1, .iload_n 1, 1, 0, 0, 0, .null, rm_M0, []),
  (.aload 0, .aload_n 0, 1, 0, 0, 0, .null, rm_M0, []),
  (.getfield 13, .getfield 13, 3, 12, 2, 1141, .null, rm_M0, []),
  (.iload 9, .iload 9, 2, 0, 0, 0, .null, rm_M0, []),
  (.iaload, .iaload, 1, 0, 0, 0, .null, rm_M0, []),
  (.iload 5, .iload 5, 2, 0, 0, 0, .null, rm_M0, []),
  (.iadd, .iadd, 1, 0, 0, 0, .null, rm_M0, []),
  (.imul, .imul, 1, 0, 0, 0, .null, rm_M0, []),
  (.istore 10, .istore 10, 2, 0, 0, 0, .null, rm_M0, []),
  (.iload 6, .iload 6, 2, 0, 0, 0, .null, rm_M0, []),
  (.iload 10, .iload 10, 2, 0, 0, 0, .null, rm_M0, []),
  (.iload 3, .iload_n 3, 1, 0, 0, 0, .null, rm_M0, []),
  (.idiv, .idiv, 1, 0, 0, 0, .null, rm_M0, []),
  (.isub, .isub, 1, 0, 0, 0, .null, rm_M0, []),
  (.istore 6, .istore 6, 2, 0, 0, 0, .null, rm_M0, []),
  (.iload 7, .iload 7, 2, 0, 0, 0, .null, rm_M0, []),
  (.iload 10, .iload 10, 2, 0, 0, 0, .null, rm_M0, []),
  (.iload 3, .iload_n 3, 1, 0, 0, 0, .null, rm_M0, []),
  (.irem, .irem, 1, 0, 0, 0, .null, rm_M0, []),
  (.iload 8, .iload 8, 2, 0, 0, 0, .null, rm_M0, []),
  (.iload 3, .iload_n 3, 1, 0, 0, 0, .null, rm_M0, []),
  (.irem, .irem, 1, 0, 0, 0, .null, rm_M0, []),
  (.if_icmp .gt 20, .if_icmp .gt 20, 3, 221, 0, 0, .null, rm_M0, []),
  (.iload 10, .iload 10, 2, 0, 0, 0, .null, rm_M0, []),
  (.iload 3, .iload_n 3, 1, 0, 0, 0, .null, rm_M0, []),
  (.irem, .irem, 1, 0, 0, 0, .null, rm_M0, []),
  (.iload 8, .iload 8, 2, 0, 0, 0, .null, rm_M0, []),
  (.iload 3, .iload_n 3, 1, 0, 0, 0, .null, rm_M0, []),
  (.irem, .irem, 1, 0, 0, 0, .null, rm_M0, []),
  (.if_icmp .ne 13, .if_icmp .ne 13, 3, 225, 0, 0, .null, rm_M0, []),
  (.iload 9, .iload 9, 2, 0, 0, 0, .null, rm_M0, []),
  (.iload 2, .iload_n 2, 1, 0, 0, 0, .null, rm_M0, []),
  (.if_icmp .ge 7, .if_icmp .ge 7, 3, 225, 0, 0, .null, rm_M0, [])]
def bX12_blame_221 : List rm_J := [
  (.nop, .iconst 1, 1, 0, 0, 0, .int 1, rm_M0, []),
  (.goto 4, .goto 4, 3, 226, 0, 0, .null, rm_M0, [])]
def bX12_blame_225 : List rm_J := [
  (.nop, .iconst 0, 1, 0, 0, 0, .int 0, rm_M0, [])]
def bX12_blame_226 : List rm_J := [
  (.iadd, .iadd, 1, 0, 0, 0, .null, rm_M0, []),
  (.istore 7, .istore 7, 2, 0, 0, 0, .null, rm_M0, [])]
def bX12_blame_229 : List rm_J := [
  (.iinc 9 1, .iinc 9 1, 3, 0, 0, 0, .int 1, rm_M0, []),
  (.goto (-86), .goto (-86), 3, 146, 0, 0, .null, rm_M0, [])]
def bX12_blame_235 : List rm_J := [
  (.iload 8, .iload 8, 2, 0, 0, 0, .null, rm_M0, []),
  (.iload 3, .iload_n 3, 1, 0, 0, 0, .null, rm_M0, []),
  (.idiv, .idiv, 1, 0, 0, 0, .null, rm_M0, []),
  (.iload 7, .iload 7, 2, 0, 0, 0, .null, rm_M0, []),
  (.iload 6, .iload 6, 2, 0, 0, 0, .null, rm_M0, []),
  (.if_icmp .ge 7, .if_icmp .ge 7, 3, 250, 0, 0, .null, rm_M0, []),
  (.nop, .iconst 1, 1, 0, 0, 0, .int 1, rm_M0, []),
  (.goto 4, .goto 4, 3, 251, 0, 0, .null, rm_M0, [])]
def bX12_blame_250 : List rm_J := [
  (.nop, .iconst 0, 1, 0, 0, 0, .int 0, rm_M0, [])]
def bX12_blame_251 : List rm_J := [
  (.iadd, .iadd, 1, 0, 0, 0, .null, rm_M0, []),
  (.ireturn, .ireturn, 1, 0, 0, 0, .null, rm_M0, [])]
def tX12_blame : rm_P := [(0, bX12_blame_0), (20, bX12_blame_20), (22, bX12_blame_22), (34, bX12_blame_34), (42, bX12_blame_42), (75, bX12_blame_75), (76, bX12_blame_76), (95, bX12_blame_95), (96, bX12_blame_96), (105, bX12_blame_105), (113, bX12_blame_113), (114, bX12_blame_114), (146, bX12_blame_146), (221, bX12_blame_221), (225, bX12_blame_225), (226, bX12_blame_226), (229, bX12_blame_229), (235, bX12_blame_235), (250, bX12_blame_250), (251, bX12_blame_251)]
theorem ok_X12_blame_t : rm_okP mX12_blame tX12_blame = true := by decide +kernel
theorem ok_X12_blame : rm_okM mX12_blame tX12_blame := ⟨ok_X12_blame_t, List.forall_mem_cons.mpr ⟨cw_X12_isQuestion, List.forall_mem_cons.mpr ⟨cw_X12_in, fun _ h => absurd h List.not_mem_nil⟩⟩⟩
theorem atX12_blame_0 : rm_at tX12_blame 0 = some bX12_blame_0 := rfl
theorem atX12_blame_20 : rm_at tX12_blame 20 = some bX12_blame_20 := rfl
theorem atX12_blame_22 : rm_at tX12_blame 22 = some bX12_blame_22 := rfl
theorem atX12_blame_34 : rm_at tX12_blame 34 = some bX12_blame_34 := rfl
theorem atX12_blame_42 : rm_at tX12_blame 42 = some bX12_blame_42 := rfl
theorem atX12_blame_75 : rm_at tX12_blame 75 = some bX12_blame_75 := rfl
theorem atX12_blame_76 : rm_at tX12_blame 76 = some bX12_blame_76 := rfl
theorem atX12_blame_95 : rm_at tX12_blame 95 = some bX12_blame_95 := rfl
theorem atX12_blame_96 : rm_at tX12_blame 96 = some bX12_blame_96 := rfl
theorem atX12_blame_105 : rm_at tX12_blame 105 = some bX12_blame_105 := rfl
theorem atX12_blame_113 : rm_at tX12_blame 113 = some bX12_blame_113 := rfl
theorem atX12_blame_114 : rm_at tX12_blame 114 = some bX12_blame_114 := rfl
theorem atX12_blame_146 : rm_at tX12_blame 146 = some bX12_blame_146 := rfl
theorem atX12_blame_221 : rm_at tX12_blame 221 = some bX12_blame_221 := rfl
theorem atX12_blame_225 : rm_at tX12_blame 225 = some bX12_blame_225 := rfl
theorem atX12_blame_226 : rm_at tX12_blame 226 = some bX12_blame_226 := rfl
theorem atX12_blame_229 : rm_at tX12_blame 229 = some bX12_blame_229 := rfl
theorem atX12_blame_235 : rm_at tX12_blame 235 = some bX12_blame_235 := rfl
theorem atX12_blame_250 : rm_at tX12_blame 250 = some bX12_blame_250 := rfl
theorem atX12_blame_251 : rm_at tX12_blame 251 = some bX12_blame_251 := rfl
def bX12_triesWoke_0 : List rm_J := [
  (.aload 0, .aload_n 0, 1, 0, 0, 0, .null, rm_M0, []),
  (.getfield 9, .getfield 9, 3, 12, 1, 1140, .null, rm_M0, []),
  (.nop, .bipush 12, 2, 0, 0, 0, .int 12, rm_M0, []),
  (.iload 2, .iload_n 2, 1, 0, 0, 0, .null, rm_M0, []),
  (.iastore, .iastore, 1, 0, 0, 0, .null, rm_M0, []),
  (.aload 0, .aload_n 0, 1, 0, 0, 0, .null, rm_M0, []),
  (.invokevirtual 294, .invokevirtual 294, 3, 0, 0, 0, .null, mX12_begins, [(0, 1393), (0, 1395), (0, 49)]),
  (.nop, .iconst 0, 1, 0, 0, 0, .int 0, rm_M0, []),
  (.istore 5, .istore 5, 2, 0, 0, 0, .null, rm_M0, [])]
def bX12_triesWoke_15 : List rm_J := [
  (.iload 5, .iload 5, 2, 0, 0, 0, .null, rm_M0, []),
  (.nop, .bipush 8, 2, 0, 0, 0, .int 8, rm_M0, []),
  (.if_icmp .ge 22, .if_icmp .ge 22, 3, 41, 0, 0, .null, rm_M0, []),
  (.aload 0, .aload_n 0, 1, 0, 0, 0, .null, rm_M0, []),
  (.getfield 28, .getfield 28, 3, 12, 7, 1146, .null, rm_M0, []),
  (.iload 5, .iload 5, 2, 0, 0, 0, .null, rm_M0, []),
  (.iload 1, .iload_n 1, 1, 0, 0, 0, .null, rm_M0, []),
  (.iload 5, .iload 5, 2, 0, 0, 0, .null, rm_M0, []),
  (.ishr, .ishr, 1, 0, 0, 0, .null, rm_M0, []),
  (.nop, .iconst 1, 1, 0, 0, 0, .int 1, rm_M0, []),
  (.iand, .iand, 1, 0, 0, 0, .null, rm_M0, []),
  (.iastore, .iastore, 1, 0, 0, 0, .null, rm_M0, []),
  (.iinc 5 1, .iinc 5 1, 3, 0, 0, 0, .int 1, rm_M0, []),
  (.goto (-23), .goto (-23), 3, 15, 0, 0, .null, rm_M0, [])]
def bX12_triesWoke_41 : List rm_J := [
  (.aload 0, .aload_n 0, 1, 0, 0, 0, .null, rm_M0, []),
  (.iload 3, .iload_n 3, 1, 0, 0, 0, .null, rm_M0, []),
  (.invokevirtual 411, .invokevirtual 411, 3, 0, 1, 0, .null, mX12_goFor, [(0, 1616), (0, 1618), (0, 85)]),
  (.aload 0, .aload_n 0, 1, 0, 0, 0, .null, rm_M0, []),
  (.getfield 9, .getfield 9, 3, 12, 1, 1140, .null, rm_M0, []),
  (.nop, .bipush 6, 2, 0, 0, 0, .int 6, rm_M0, []),
  (.iaload, .iaload, 1, 0, 0, 0, .null, rm_M0, []),
  (.iload 4, .iload 4, 2, 0, 0, 0, .null, rm_M0, []),
  (.if_icmp .ne 7, .if_icmp .ne 7, 3, 62, 0, 0, .null, rm_M0, []),
  (.nop, .iconst 1, 1, 0, 0, 0, .int 1, rm_M0, []),
  (.goto 4, .goto 4, 3, 63, 0, 0, .null, rm_M0, [])]
def bX12_triesWoke_62 : List rm_J := [
  (.nop, .iconst 0, 1, 0, 0, 0, .int 0, rm_M0, [])]
def bX12_triesWoke_63 : List rm_J := [
  (.istore 5, .istore 5, 2, 0, 0, 0, .null, rm_M0, []),
  (.aload 0, .aload_n 0, 1, 0, 0, 0, .null, rm_M0, []),
  (.invokevirtual 417, .invokevirtual 417, 3, 0, 0, 0, .null, mX12_laysBack, [(0, 1620), (0, 1622), (0, 86)]),
  (.iload 5, .iload 5, 2, 0, 0, 0, .null, rm_M0, []),
  (.ifCond .eq 53, .ifCond .eq 53, 3, 124, 0, 0, .null, rm_M0, []),
  (.aload 0, .aload_n 0, 1, 0, 0, 0, .null, rm_M0, []),
  (.aload 0, .aload_n 0, 1, 0, 0, 0, .null, rm_M0, []),
  (.getfield 449, .getfield 449, 3, 12, 45, 1184, .null, rm_M0, []),
  (.ifCond .ne 7, .ifCond .ne 7, 3, 86, 0, 0, .null, rm_M0, []),
  (.iload 1, .iload_n 1, 1, 0, 0, 0, .null, rm_M0, []),
  (.goto 7, .goto 7, 3, 90, 0, 0, .null, rm_M0, [])]
def bX12_triesWoke_86 : List rm_J := [
  (.aload 0, .aload_n 0, 1, 0, 0, 0, .null, rm_M0, []),
  (.getfield 452, .getfield 452, 3, 12, 46, 1185, .null, rm_M0, [])]
def bX12_triesWoke_90 : List rm_J := [
  (.putfield 452, .putfield 452, 3, 12, 46, 1185, .int 0, rm_M0, []),
  (.aload 0, .aload_n 0, 1, 0, 0, 0, .null, rm_M0, []),
  (.aload 0, .aload_n 0, 1, 0, 0, 0, .null, rm_M0, []),
  (.getfield 449, .getfield 449, 3, 12, 45, 1184, .null, rm_M0, []),
  (.ifCond .ne 7, .ifCond .ne 7, 3, 105, 0, 0, .null, rm_M0, []),
  (.iload 1, .iload_n 1, 1, 0, 0, 0, .null, rm_M0, []),
  (.goto 9, .goto 9, 3, 111, 0, 0, .null, rm_M0, [])]
def bX12_triesWoke_105 : List rm_J := [
  (.aload 0, .aload_n 0, 1, 0, 0, 0, .null, rm_M0, []),
  (.getfield 455, .getfield 455, 3, 12, 47, 1186, .null, rm_M0, []),
  (.iload 1, .iload_n 1, 1, 0, 0, 0, .null, rm_M0, []),
  (.iand, .iand, 1, 0, 0, 0, .null, rm_M0, [])]
def bX12_triesWoke_111 : List rm_J := [
  (.putfield 455, .putfield 455, 3, 12, 47, 1186, .int 0, rm_M0, []),
  (.aload 0, .aload_n 0, 1, 0, 0, 0, .null, rm_M0, []),
  (.dup, .dup, 1, 0, 0, 0, .null, rm_M0, []),
  (.getfield 449, .getfield 449, 3, 12, 45, 1184, .null, rm_M0, []),
  (.nop, .iconst 1, 1, 0, 0, 0, .int 1, rm_M0, []),
  (.iadd, .iadd, 1, 0, 0, 0, .null, rm_M0, []),
  (.putfield 449, .putfield 449, 3, 12, 45, 1184, .int 0, rm_M0, [])]
def bX12_triesWoke_124 : List rm_J := [
  (.return_, .return_, 1, 0, 0, 0, .null, rm_M0, [])]
def tX12_triesWoke : rm_P := [(0, bX12_triesWoke_0), (15, bX12_triesWoke_15), (41, bX12_triesWoke_41), (62, bX12_triesWoke_62), (63, bX12_triesWoke_63), (86, bX12_triesWoke_86), (90, bX12_triesWoke_90), (105, bX12_triesWoke_105), (111, bX12_triesWoke_111), (124, bX12_triesWoke_124)]
theorem ok_X12_triesWoke_t : rm_okP mX12_triesWoke tX12_triesWoke = true := by decide +kernel
theorem ok_X12_triesWoke : rm_okM mX12_triesWoke tX12_triesWoke := ⟨ok_X12_triesWoke_t, List.forall_mem_cons.mpr ⟨cw_X12_begins, List.forall_mem_cons.mpr ⟨cw_X12_goFor, List.forall_mem_cons.mpr ⟨cw_X12_laysBack, fun _ h => absurd h List.not_mem_nil⟩⟩⟩⟩
theorem atX12_triesWoke_0 : rm_at tX12_triesWoke 0 = some bX12_triesWoke_0 := rfl
theorem atX12_triesWoke_15 : rm_at tX12_triesWoke 15 = some bX12_triesWoke_15 := rfl
theorem atX12_triesWoke_41 : rm_at tX12_triesWoke 41 = some bX12_triesWoke_41 := rfl
theorem atX12_triesWoke_62 : rm_at tX12_triesWoke 62 = some bX12_triesWoke_62 := rfl
theorem atX12_triesWoke_63 : rm_at tX12_triesWoke 63 = some bX12_triesWoke_63 := rfl
theorem atX12_triesWoke_86 : rm_at tX12_triesWoke 86 = some bX12_triesWoke_86 := rfl
theorem atX12_triesWoke_90 : rm_at tX12_triesWoke 90 = some bX12_triesWoke_90 := rfl
theorem atX12_triesWoke_105 : rm_at tX12_triesWoke 105 = some bX12_triesWoke_105 := rfl
theorem atX12_triesWoke_111 : rm_at tX12_triesWoke 111 = some bX12_triesWoke_111 := rfl
theorem atX12_triesWoke_124 : rm_at tX12_triesWoke 124 = some bX12_triesWoke_124 := rfl
def bX12_woke_0 : List rm_J := [
  (.aload 0, .aload_n 0, 1, 0, 0, 0, .null, rm_M0, []),
  (.invokevirtual 397, .invokevirtual 397, 3, 0, 0, 0, .null, mX12_isRealm, [(0, 1521), (0, 1523), (0, 70)]),
  (.ifCond .eq 58, .ifCond .eq 58, 3, 62, 0, 0, .null, rm_M0, []),
  (.iload 1, .iload_n 1, 1, 0, 0, 0, .null, rm_M0, []),
  (.i2l, .i2l, 1, 0, 0, 0, .null, rm_M0, []),
  (.nop, .ldc2_w 316, 3, 0, 0, 1477, .long (-1), rm_M0, []),
  (.aload 0, .aload_n 0, 1, 0, 0, 0, .null, rm_M0, []),
  (.getfield 310, .getfield 310, 3, 12, 22, 1161, .null, rm_M0, []),
  (.nop, .iconst 1, 1, 0, 0, 0, .int 1, rm_M0, []),
  (.isub, .isub, 1, 0, 0, 0, .null, rm_M0, []),
  (.i2l, .i2l, 1, 0, 0, 0, .null, rm_M0, []),
  (.invokestatic 125, .invokestatic 125, 3, 0, 3, 0, .null, mX12_in, [(0, 1379), (0, 1380)]),
  (.ifCond .eq 40, .ifCond .eq 40, 3, 62, 0, 0, .null, rm_M0, []),
  (.iload 2, .iload_n 2, 1, 0, 0, 0, .null, rm_M0, []),
  (.i2l, .i2l, 1, 0, 0, 0, .null, rm_M0, []),
  (.nop, .lconst 1, 1, 0, 0, 0, .long 1, rm_M0, []),
  (.nop, .ldc2_w 432, 3, 0, 0, 1646, .long 60, rm_M0, []),
  (.invokestatic 125, .invokestatic 125, 3, 0, 3, 0, .null, mX12_in, [(0, 1379), (0, 1380)]),
  (.ifCond .eq 28, .ifCond .eq 28, 3, 62, 0, 0, .null, rm_M0, []),
  (.iload 3, .iload_n 3, 1, 0, 0, 0, .null, rm_M0, []),
  (.i2l, .i2l, 1, 0, 0, 0, .null, rm_M0, []),
  (.nop, .lconst 0, 1, 0, 0, 0, .long 0, rm_M0, []),
  (.nop, .ldc2_w 458, 3, 0, 0, 1686, .long 99999, rm_M0, []),
  (.invokestatic 125, .invokestatic 125, 3, 0, 3, 0, .null, mX12_in, [(0, 1379), (0, 1380)]),
  (.ifCond .eq 16, .ifCond .eq 16, 3, 62, 0, 0, .null, rm_M0, []),
  (.iload 4, .iload 4, 2, 0, 0, 0, .null, rm_M0, []),
  (.i2l, .i2l, 1, 0, 0, 0, .null, rm_M0, []),
  (.nop, .lconst 0, 1, 0, 0, 0, .long 0, rm_M0, []),
  (.nop, .ldc2_w 434, 3, 0, 0, 1647, .long 2, rm_M0, []),
  (.invokestatic 125, .invokestatic 125, 3, 0, 3, 0, .null, mX12_in, [(0, 1379), (0, 1380)]),
  (.ifCond .ne 6, .ifCond .ne 6, 3, 65, 0, 0, .null, rm_M0, [])]
def bX12_woke_62 : List rm_J := [
  (.nop, .bipush (-3), 2, 0, 0, 0, .int (-3), rm_M0, []),
  (.ireturn, .ireturn, 1, 0, 0, 0, .null, rm_M0, [])]
def bX12_woke_65 : List rm_J := [
  (.aload 0, .aload_n 0, 1, 0, 0, 0, .null, rm_M0, []),
  (.nop, .iconst 0, 1, 0, 0, 0, .int 0, rm_M0, []),
  (.putfield 449, .putfield 449, 3, 12, 45, 1184, .int 0, rm_M0, []),
  (.aload 0, .aload_n 0, 1, 0, 0, 0, .null, rm_M0, []),
  (.nop, .bipush (-2), 2, 0, 0, 0, .int (-2), rm_M0, []),
  (.putfield 452, .putfield 452, 3, 12, 46, 1185, .int 0, rm_M0, []),
  (.aload 0, .aload_n 0, 1, 0, 0, 0, .null, rm_M0, []),
  (.nop, .iconst 0, 1, 0, 0, 0, .int 0, rm_M0, []),
  (.putfield 455, .putfield 455, 3, 12, 47, 1186, .int 0, rm_M0, []),
  (.aload 0, .aload_n 0, 1, 0, 0, 0, .null, rm_M0, []),
  (.invokevirtual 422, .invokevirtual 422, 3, 0, 0, 0, .null, mX12_keepsAll, [(0, 1604), (0, 1606), (0, 82)]),
  (.nop, .iconst 0, 1, 0, 0, 0, .int 0, rm_M0, []),
  (.istore 5, .istore 5, 2, 0, 0, 0, .null, rm_M0, [])]
def bX12_woke_88 : List rm_J := [
  (.iload 5, .iload 5, 2, 0, 0, 0, .null, rm_M0, []),
  (.nop, .sipush 256, 3, 0, 0, 0, .int 256, rm_M0, []),
  (.if_icmp .ge 18, .if_icmp .ge 18, 3, 111, 0, 0, .null, rm_M0, []),
  (.aload 0, .aload_n 0, 1, 0, 0, 0, .null, rm_M0, []),
  (.iload 5, .iload 5, 2, 0, 0, 0, .null, rm_M0, []),
  (.iload 1, .iload_n 1, 1, 0, 0, 0, .null, rm_M0, []),
  (.iload 2, .iload_n 2, 1, 0, 0, 0, .null, rm_M0, []),
  (.iload 3, .iload_n 3, 1, 0, 0, 0, .null, rm_M0, []),
  (.invokevirtual 460, .invokevirtual 460, 3, 0, 4, 0, .null, mX12_triesWoke, [(0, 1687), (0, 1689), (0, 92)]),
  (.iinc 5 1, .iinc 5 1, 3, 0, 0, 0, .int 1, rm_M0, []),
  (.goto (-20), .goto (-20), 3, 88, 0, 0, .null, rm_M0, [])]
def bX12_woke_111 : List rm_J := [
  (.iload 4, .iload 4, 2, 0, 0, 0, .null, rm_M0, []),
  (.ifCond .ne 10, .ifCond .ne 10, 3, 123, 0, 0, .null, rm_M0, []),
  (.aload 0, .aload_n 0, 1, 0, 0, 0, .null, rm_M0, []),
  (.getfield 449, .getfield 449, 3, 12, 45, 1184, .null, rm_M0, []),
  (.goto 20, .goto 20, 3, 140, 0, 0, .null, rm_M0, [])]
def bX12_woke_123 : List rm_J := [
  (.iload 4, .iload 4, 2, 0, 0, 0, .null, rm_M0, []),
  (.nop, .iconst 1, 1, 0, 0, 0, .int 1, rm_M0, []),
  (.if_icmp .ne 10, .if_icmp .ne 10, 3, 136, 0, 0, .null, rm_M0, []),
  (.aload 0, .aload_n 0, 1, 0, 0, 0, .null, rm_M0, []),
  (.getfield 452, .getfield 452, 3, 12, 46, 1185, .null, rm_M0, []),
  (.goto 7, .goto 7, 3, 140, 0, 0, .null, rm_M0, [])]
def bX12_woke_136 : List rm_J := [
  (.aload 0, .aload_n 0, 1, 0, 0, 0, .null, rm_M0, []),
  (.getfield 455, .getfield 455, 3, 12, 47, 1186, .null, rm_M0, [])]
def bX12_woke_140 : List rm_J := [
  (.ireturn, .ireturn, 1, 0, 0, 0, .null, rm_M0, [])]
def tX12_woke : rm_P := [(0, bX12_woke_0), (62, bX12_woke_62), (65, bX12_woke_65), (88, bX12_woke_88), (111, bX12_woke_111), (123, bX12_woke_123), (136, bX12_woke_136), (140, bX12_woke_140)]
theorem ok_X12_woke_t : rm_okP mX12_woke tX12_woke = true := by decide +kernel
theorem ok_X12_woke : rm_okM mX12_woke tX12_woke := ⟨ok_X12_woke_t, List.forall_mem_cons.mpr ⟨cw_X12_isRealm, List.forall_mem_cons.mpr ⟨cw_X12_in, List.forall_mem_cons.mpr ⟨cw_X12_in, List.forall_mem_cons.mpr ⟨cw_X12_in, List.forall_mem_cons.mpr ⟨cw_X12_in, List.forall_mem_cons.mpr ⟨cw_X12_keepsAll, List.forall_mem_cons.mpr ⟨cw_X12_triesWoke, fun _ h => absurd h List.not_mem_nil⟩⟩⟩⟩⟩⟩⟩⟩
theorem atX12_woke_0 : rm_at tX12_woke 0 = some bX12_woke_0 := rfl
theorem atX12_woke_62 : rm_at tX12_woke 62 = some bX12_woke_62 := rfl
theorem atX12_woke_65 : rm_at tX12_woke 65 = some bX12_woke_65 := rfl
theorem atX12_woke_88 : rm_at tX12_woke 88 = some bX12_woke_88 := rfl
theorem atX12_woke_111 : rm_at tX12_woke 111 = some bX12_woke_111 := rfl
theorem atX12_woke_123 : rm_at tX12_woke 123 = some bX12_woke_123 := rfl
theorem atX12_woke_136 : rm_at tX12_woke 136 = some bX12_woke_136 := rfl
theorem atX12_woke_140 : rm_at tX12_woke 140 = some bX12_woke_140 := rfl
def bX12_note_0 : List rm_J := [
  (.iload 1, .iload_n 1, 1, 0, 0, 0, .null, rm_M0, []),
  (.nop, .iconst (-1), 1, 0, 0, 0, .int (-1), rm_M0, []),
  (.if_icmp .ne 13, .if_icmp .ne 13, 3, 15, 0, 0, .null, rm_M0, []),
  (.aload 0, .aload_n 0, 1, 0, 0, 0, .null, rm_M0, []),
  (.getfield 9, .getfield 9, 3, 12, 1, 1140, .null, rm_M0, []),
  (.nop, .bipush 10, 2, 0, 0, 0, .int 10, rm_M0, []),
  (.nop, .iconst 0, 1, 0, 0, 0, .int 0, rm_M0, []),
  (.iastore, .iastore, 1, 0, 0, 0, .null, rm_M0, []),
  (.nop, .iconst 0, 1, 0, 0, 0, .int 0, rm_M0, []),
  (.ireturn, .ireturn, 1, 0, 0, 0, .null, rm_M0, [])]
def bX12_note_15 : List rm_J := [
  (.aload 0, .aload_n 0, 1, 0, 0, 0, .null, rm_M0, []),
  (.getfield 9, .getfield 9, 3, 12, 1, 1140, .null, rm_M0, []),
  (.nop, .bipush 10, 2, 0, 0, 0, .int 10, rm_M0, []),
  (.iaload, .iaload, 1, 0, 0, 0, .null, rm_M0, []),
  (.istore 3, .istore_n 3, 1, 0, 0, 0, .null, rm_M0, []),
  (.aload 0, .aload_n 0, 1, 0, 0, 0, .null, rm_M0, []),
  (.invokevirtual 397, .invokevirtual 397, 3, 0, 0, 0, .null, mX12_isRealm, [(0, 1521), (0, 1523), (0, 70)]),
  (.ifCond .eq 34, .ifCond .eq 34, 3, 61, 0, 0, .null, rm_M0, []),
  (.iload 1, .iload_n 1, 1, 0, 0, 0, .null, rm_M0, []),
  (.i2l, .i2l, 1, 0, 0, 0, .null, rm_M0, []),
  (.nop, .lconst 0, 1, 0, 0, 0, .long 0, rm_M0, []),
  (.nop, .ldc2_w 432, 3, 0, 0, 1646, .long 60, rm_M0, []),
  (.invokestatic 125, .invokestatic 125, 3, 0, 3, 0, .null, mX12_in, [(0, 1379), (0, 1380)]),
  (.ifCond .eq 22, .ifCond .eq 22, 3, 61, 0, 0, .null, rm_M0, []),
  (.iload 2, .iload_n 2, 1, 0, 0, 0, .null, rm_M0, []),
  (.nop, .iconst (-1), 1, 0, 0, 0, .int (-1), rm_M0, []),
  (.if_icmp .eq 11, .if_icmp .eq 11, 3, 55, 0, 0, .null, rm_M0, []),
  (.aload 0, .aload_n 0, 1, 0, 0, 0, .null, rm_M0, []),
  (.iload 2, .iload_n 2, 1, 0, 0, 0, .null, rm_M0, []),
  (.invokevirtual 340, .invokevirtual 340, 3, 0, 1, 0, .null, mX12_isQuestion, [(0, 1482), (0, 1484), (0, 63)]),
  (.ifCond .eq 9, .ifCond .eq 9, 3, 61, 0, 0, .null, rm_M0, [])]
def bX12_note_55 : List rm_J := [
  (.iload 3, .iload_n 3, 1, 0, 0, 0, .null, rm_M0, []),
  (.nop, .bipush 10, 2, 0, 0, 0, .int 10, rm_M0, []),
  (.if_icmp .ne 6, .if_icmp .ne 6, 3, 64, 0, 0, .null, rm_M0, [])]
def bX12_note_61 : List rm_J := [
  (.nop, .bipush (-2), 2, 0, 0, 0, .int (-2), rm_M0, []),
  (.ireturn, .ireturn, 1, 0, 0, 0, .null, rm_M0, [])]
def bX12_note_64 : List rm_J := [
  (.aload 0, .aload_n 0, 1, 0, 0, 0, .null, rm_M0, []),
  (.getfield 31, .getfield 31, 3, 12, 8, 1147, .null, rm_M0, []),
  (.iload 3, .iload_n 3, 1, 0, 0, 0, .null, rm_M0, []),
  (.iload 1, .iload_n 1, 1, 0, 0, 0, .null, rm_M0, []),
  (.iastore, .iastore, 1, 0, 0, 0, .null, rm_M0, []),
  (.aload 0, .aload_n 0, 1, 0, 0, 0, .null, rm_M0, []),
  (.getfield 34, .getfield 34, 3, 12, 9, 1148, .null, rm_M0, []),
  (.iload 3, .iload_n 3, 1, 0, 0, 0, .null, rm_M0, []),
  (.iload 2, .iload_n 2, 1, 0, 0, 0, .null, rm_M0, []),
  (.iastore, .iastore, 1, 0, 0, 0, .null, rm_M0, []),
  (.aload 0, .aload_n 0, 1, 0, 0, 0, .null, rm_M0, []),
  (.getfield 9, .getfield 9, 3, 12, 1, 1140, .null, rm_M0, []),
  (.nop, .bipush 10, 2, 0, 0, 0, .int 10, rm_M0, []),
  (.dup2, .dup2, 1, 0, 0, 0, .null, rm_M0, []),
  (.iaload, .iaload, 1, 0, 0, 0, .null, rm_M0, []),
  (.nop, .iconst 1, 1, 0, 0, 0, .int 1, rm_M0, []),
  (.iadd, .iadd, 1, 0, 0, 0, .null, rm_M0, []),
  (.iastore, .iastore, 1, 0, 0, 0, .null, rm_M0, []),
  (.iload 3, .iload_n 3, 1, 0, 0, 0, .null, rm_M0, []),
  (.nop, .iconst 1, 1, 0, 0, 0, .int 1, rm_M0, []),
  (.iadd, .iadd, 1, 0, 0, 0, .null, rm_M0, []),
  (.ireturn, .ireturn, 1, 0, 0, 0, .null, rm_M0, [])]
def tX12_note : rm_P := [(0, bX12_note_0), (15, bX12_note_15), (55, bX12_note_55), (61, bX12_note_61), (64, bX12_note_64)]
theorem ok_X12_note_t : rm_okP mX12_note tX12_note = true := by decide +kernel
theorem ok_X12_note : rm_okM mX12_note tX12_note := ⟨ok_X12_note_t, List.forall_mem_cons.mpr ⟨cw_X12_isRealm, List.forall_mem_cons.mpr ⟨cw_X12_in, List.forall_mem_cons.mpr ⟨cw_X12_isQuestion, fun _ h => absurd h List.not_mem_nil⟩⟩⟩⟩
theorem atX12_note_0 : rm_at tX12_note 0 = some bX12_note_0 := rfl
theorem atX12_note_15 : rm_at tX12_note 15 = some bX12_note_15 := rfl
theorem atX12_note_55 : rm_at tX12_note 55 = some bX12_note_55 := rfl
theorem atX12_note_61 : rm_at tX12_note 61 = some bX12_note_61 := rfl
theorem atX12_note_64 : rm_at tX12_note 64 = some bX12_note_64 := rfl
def bX12_couldRule_0 : List rm_J := [
  (.aload 0, .aload_n 0, 1, 0, 0, 0, .null, rm_M0, []),
  (.getfield 9, .getfield 9, 3, 12, 1, 1140, .null, rm_M0, []),
  (.nop, .bipush 12, 2, 0, 0, 0, .int 12, rm_M0, []),
  (.iload 1, .iload_n 1, 1, 0, 0, 0, .null, rm_M0, []),
  (.iastore, .iastore, 1, 0, 0, 0, .null, rm_M0, []),
  (.aload 0, .aload_n 0, 1, 0, 0, 0, .null, rm_M0, []),
  (.invokevirtual 294, .invokevirtual 294, 3, 0, 0, 0, .null, mX12_begins, [(0, 1393), (0, 1395), (0, 49)]),
  (.nop, .iconst 0, 1, 0, 0, 0, .int 0, rm_M0, []),
  (.istore 2, .istore_n 2, 1, 0, 0, 0, .null, rm_M0, [])]
def bX12_couldRule_14 : List rm_J := [
  (.iload 2, .iload_n 2, 1, 0, 0, 0, .null, rm_M0, []),
  (.nop, .bipush 60, 2, 0, 0, 0, .int 60, rm_M0, []),
  (.if_icmp .gt 19, .if_icmp .gt 19, 3, 36, 0, 0, .null, rm_M0, []),
  (.aload 0, .aload_n 0, 1, 0, 0, 0, .null, rm_M0, []),
  (.getfield 109, .getfield 109, 3, 12, 48, 1187, .null, rm_M0, []),
  (.iload 2, .iload_n 2, 1, 0, 0, 0, .null, rm_M0, []),
  (.aload 0, .aload_n 0, 1, 0, 0, 0, .null, rm_M0, []),
  (.invokevirtual 376, .invokevirtual 376, 3, 0, 0, 0, .null, mX12_goes, [(0, 1529), (0, 1531), (0, 72)]),
  (.iastore, .iastore, 1, 0, 0, 0, .null, rm_M0, []),
  (.iinc 2 1, .iinc 2 1, 3, 0, 0, 0, .int 1, rm_M0, []),
  (.goto (-19), .goto (-19), 3, 14, 0, 0, .null, rm_M0, [])]
def bX12_couldRule_36 : List rm_J := [
  (.aload 0, .aload_n 0, 1, 0, 0, 0, .null, rm_M0, []),
  (.invokevirtual 417, .invokevirtual 417, 3, 0, 0, 0, .null, mX12_laysBack, [(0, 1620), (0, 1622), (0, 86)]),
  (.nop, .iconst 0, 1, 0, 0, 0, .int 0, rm_M0, []),
  (.istore 2, .istore_n 2, 1, 0, 0, 0, .null, rm_M0, [])]
def bX12_couldRule_42 : List rm_J := [
  (.iload 2, .iload_n 2, 1, 0, 0, 0, .null, rm_M0, []),
  (.aload 0, .aload_n 0, 1, 0, 0, 0, .null, rm_M0, []),
  (.getfield 9, .getfield 9, 3, 12, 1, 1140, .null, rm_M0, []),
  (.nop, .bipush 10, 2, 0, 0, 0, .int 10, rm_M0, []),
  (.iaload, .iaload, 1, 0, 0, 0, .null, rm_M0, []),
  (.if_icmp .ge 31, .if_icmp .ge 31, 3, 81, 0, 0, .null, rm_M0, []),
  (.aload 0, .aload_n 0, 1, 0, 0, 0, .null, rm_M0, []),
  (.getfield 109, .getfield 109, 3, 12, 48, 1187, .null, rm_M0, []),
  (.aload 0, .aload_n 0, 1, 0, 0, 0, .null, rm_M0, []),
  (.getfield 31, .getfield 31, 3, 12, 8, 1147, .null, rm_M0, []),
  (.iload 2, .iload_n 2, 1, 0, 0, 0, .null, rm_M0, []),
  (.iaload, .iaload, 1, 0, 0, 0, .null, rm_M0, []),
  (.iaload, .iaload, 1, 0, 0, 0, .null, rm_M0, []),
  (.aload 0, .aload_n 0, 1, 0, 0, 0, .null, rm_M0, []),
  (.getfield 34, .getfield 34, 3, 12, 9, 1148, .null, rm_M0, []),
  (.iload 2, .iload_n 2, 1, 0, 0, 0, .null, rm_M0, []),
  (.iaload, .iaload, 1, 0, 0, 0, .null, rm_M0, []),
  (.if_icmp .eq 5, .if_icmp .eq 5, 3, 75, 0, 0, .null, rm_M0, []),
  (.nop, .iconst 0, 1, 0, 0, 0, .int 0, rm_M0, []),
  (.ireturn, .ireturn, 1, 0, 0, 0, .null, rm_M0, [])]
def bX12_couldRule_75 : List rm_J := [
  (.iinc 2 1, .iinc 2 1, 3, 0, 0, 0, .int 1, rm_M0, []),
  (.goto (-36), .goto (-36), 3, 42, 0, 0, .null, rm_M0, [])]
def bX12_couldRule_81 : List rm_J := [
  (.nop, .iconst 1, 1, 0, 0, 0, .int 1, rm_M0, []),
  (.ireturn, .ireturn, 1, 0, 0, 0, .null, rm_M0, [])]
def tX12_couldRule : rm_P := [(0, bX12_couldRule_0), (14, bX12_couldRule_14), (36, bX12_couldRule_36), (42, bX12_couldRule_42), (75, bX12_couldRule_75), (81, bX12_couldRule_81)]
theorem ok_X12_couldRule_t : rm_okP mX12_couldRule tX12_couldRule = true := by decide +kernel
theorem ok_X12_couldRule : rm_okM mX12_couldRule tX12_couldRule := ⟨ok_X12_couldRule_t, List.forall_mem_cons.mpr ⟨cw_X12_begins, List.forall_mem_cons.mpr ⟨cw_X12_goes, List.forall_mem_cons.mpr ⟨cw_X12_laysBack, fun _ h => absurd h List.not_mem_nil⟩⟩⟩⟩
theorem atX12_couldRule_0 : rm_at tX12_couldRule 0 = some bX12_couldRule_0 := rfl
theorem atX12_couldRule_14 : rm_at tX12_couldRule 14 = some bX12_couldRule_14 := rfl
theorem atX12_couldRule_36 : rm_at tX12_couldRule 36 = some bX12_couldRule_36 := rfl
theorem atX12_couldRule_42 : rm_at tX12_couldRule 42 = some bX12_couldRule_42 := rfl
theorem atX12_couldRule_75 : rm_at tX12_couldRule 75 = some bX12_couldRule_75 := rfl
theorem atX12_couldRule_81 : rm_at tX12_couldRule 81 = some bX12_couldRule_81 := rfl
def bX12_ruled_0 : List rm_J := [
  (.aload 0, .aload_n 0, 1, 0, 0, 0, .null, rm_M0, []),
  (.invokevirtual 397, .invokevirtual 397, 3, 0, 0, 0, .null, mX12_isRealm, [(0, 1521), (0, 1523), (0, 70)]),
  (.ifCond .eq 13, .ifCond .eq 13, 3, 17, 0, 0, .null, rm_M0, []),
  (.iload 1, .iload_n 1, 1, 0, 0, 0, .null, rm_M0, []),
  (.i2l, .i2l, 1, 0, 0, 0, .null, rm_M0, []),
  (.nop, .lconst 0, 1, 0, 0, 0, .long 0, rm_M0, []),
  (.nop, .lconst 1, 1, 0, 0, 0, .long 1, rm_M0, []),
  (.invokestatic 125, .invokestatic 125, 3, 0, 3, 0, .null, mX12_in, [(0, 1379), (0, 1380)]),
  (.ifCond .ne 6, .ifCond .ne 6, 3, 20, 0, 0, .null, rm_M0, [])]
def bX12_ruled_17 : List rm_J := [
  (.nop, .bipush (-3), 2, 0, 0, 0, .int (-3), rm_M0, []),
  (.ireturn, .ireturn, 1, 0, 0, 0, .null, rm_M0, [])]
def bX12_ruled_20 : List rm_J := [
  (.aload 0, .aload_n 0, 1, 0, 0, 0, .null, rm_M0, []),
  (.invokevirtual 422, .invokevirtual 422, 3, 0, 0, 0, .null, mX12_keepsAll, [(0, 1604), (0, 1606), (0, 82)]),
  (.nop, .iconst 0, 1, 0, 0, 0, .int 0, rm_M0, []),
  (.istore 2, .istore_n 2, 1, 0, 0, 0, .null, rm_M0, []),
  (.nop, .bipush (-2), 2, 0, 0, 0, .int (-2), rm_M0, []),
  (.istore 3, .istore_n 3, 1, 0, 0, 0, .null, rm_M0, []),
  (.nop, .iconst (-1), 1, 0, 0, 0, .int (-1), rm_M0, []),
  (.istore 4, .istore 4, 2, 0, 0, 0, .null, rm_M0, [])]
def bX12_ruled_32 : List rm_J := [
  (.iload 4, .iload 4, 2, 0, 0, 0, .null, rm_M0, []),
  (.aload 0, .aload_n 0, 1, 0, 0, 0, .null, rm_M0, []),
  (.getfield 310, .getfield 310, 3, 12, 22, 1161, .null, rm_M0, []),
  (.if_icmp .ge 32, .if_icmp .ge 32, 3, 70, 0, 0, .null, rm_M0, []),
  (.aload 0, .aload_n 0, 1, 0, 0, 0, .null, rm_M0, []),
  (.iload 4, .iload 4, 2, 0, 0, 0, .null, rm_M0, []),
  (.invokevirtual 464, .invokevirtual 464, 3, 0, 1, 0, .null, mX12_couldRule, [(0, 1699), (0, 1701), (0, 93)]),
  (.ifCond .eq 17, .ifCond .eq 17, 3, 64, 0, 0, .null, rm_M0, []),
  (.iload 2, .iload_n 2, 1, 0, 0, 0, .null, rm_M0, []),
  (.ifCond .ne 8, .ifCond .ne 8, 3, 59, 0, 0, .null, rm_M0, []),
  (.iload 4, .iload 4, 2, 0, 0, 0, .null, rm_M0, []),
  (.goto 4, .goto 4, 3, 60, 0, 0, .null, rm_M0, [])]
def bX12_ruled_59 : List rm_J := [
  (.iload 3, .iload_n 3, 1, 0, 0, 0, .null, rm_M0, [])]
def bX12_ruled_60 : List rm_J := [
  (.istore 3, .istore_n 3, 1, 0, 0, 0, .null, rm_M0, []),
  (.iinc 2 1, .iinc 2 1, 3, 0, 0, 0, .int 1, rm_M0, [])]
def bX12_ruled_64 : List rm_J := [
  (.iinc 4 1, .iinc 4 1, 3, 0, 0, 0, .int 1, rm_M0, []),
  (.goto (-35), .goto (-35), 3, 32, 0, 0, .null, rm_M0, [])]
def bX12_ruled_70 : List rm_J := [
  (.iload 1, .iload_n 1, 1, 0, 0, 0, .null, rm_M0, []),
  (.ifCond .ne 7, .ifCond .ne 7, 3, 78, 0, 0, .null, rm_M0, []),
  (.iload 2, .iload_n 2, 1, 0, 0, 0, .null, rm_M0, []),
  (.goto 4, .goto 4, 3, 79, 0, 0, .null, rm_M0, [])]
def bX12_ruled_78 : List rm_J := [
  (.iload 3, .iload_n 3, 1, 0, 0, 0, .null, rm_M0, [])]
def bX12_ruled_79 : List rm_J := [
  (.ireturn, .ireturn, 1, 0, 0, 0, .null, rm_M0, [])]
def tX12_ruled : rm_P := [(0, bX12_ruled_0), (17, bX12_ruled_17), (20, bX12_ruled_20), (32, bX12_ruled_32), (59, bX12_ruled_59), (60, bX12_ruled_60), (64, bX12_ruled_64), (70, bX12_ruled_70), (78, bX12_ruled_78), (79, bX12_ruled_79)]
theorem ok_X12_ruled_t : rm_okP mX12_ruled tX12_ruled = true := by decide +kernel
theorem ok_X12_ruled : rm_okM mX12_ruled tX12_ruled := ⟨ok_X12_ruled_t, List.forall_mem_cons.mpr ⟨cw_X12_isRealm, List.forall_mem_cons.mpr ⟨cw_X12_in, List.forall_mem_cons.mpr ⟨cw_X12_keepsAll, List.forall_mem_cons.mpr ⟨cw_X12_couldRule, fun _ h => absurd h List.not_mem_nil⟩⟩⟩⟩⟩
theorem atX12_ruled_0 : rm_at tX12_ruled 0 = some bX12_ruled_0 := rfl
theorem atX12_ruled_17 : rm_at tX12_ruled 17 = some bX12_ruled_17 := rfl
theorem atX12_ruled_20 : rm_at tX12_ruled 20 = some bX12_ruled_20 := rfl
theorem atX12_ruled_32 : rm_at tX12_ruled 32 = some bX12_ruled_32 := rfl
theorem atX12_ruled_59 : rm_at tX12_ruled 59 = some bX12_ruled_59 := rfl
theorem atX12_ruled_60 : rm_at tX12_ruled 60 = some bX12_ruled_60 := rfl
theorem atX12_ruled_64 : rm_at tX12_ruled 64 = some bX12_ruled_64 := rfl
theorem atX12_ruled_70 : rm_at tX12_ruled 70 = some bX12_ruled_70 := rfl
theorem atX12_ruled_78 : rm_at tX12_ruled 78 = some bX12_ruled_78 := rfl
theorem atX12_ruled_79 : rm_at tX12_ruled 79 = some bX12_ruled_79 := rfl
def bX12_mostAlike_0 : List rm_J := [
  (.nop, .iconst 0, 1, 0, 0, 0, .int 0, rm_M0, []),
  (.istore 3, .istore_n 3, 1, 0, 0, 0, .null, rm_M0, []),
  (.nop, .iconst 0, 1, 0, 0, 0, .int 0, rm_M0, []),
  (.istore 4, .istore 4, 2, 0, 0, 0, .null, rm_M0, [])]
def bX12_mostAlike_5 : List rm_J := [
  (.iload 4, .iload 4, 2, 0, 0, 0, .null, rm_M0, []),
  (.iload 2, .iload_n 2, 1, 0, 0, 0, .null, rm_M0, []),
  (.if_icmp .ge 77, .if_icmp .ge 77, 3, 85, 0, 0, .null, rm_M0, []),
  (.nop, .iconst 0, 1, 0, 0, 0, .int 0, rm_M0, []),
  (.istore 5, .istore 5, 2, 0, 0, 0, .null, rm_M0, []),
  (.nop, .iconst 0, 1, 0, 0, 0, .int 0, rm_M0, []),
  (.istore 6, .istore 6, 2, 0, 0, 0, .null, rm_M0, [])]
def bX12_mostAlike_17 : List rm_J := [
  (.iload 6, .iload 6, 2, 0, 0, 0, .null, rm_M0, []),
  (.iload 2, .iload_n 2, 1, 0, 0, 0, .null, rm_M0, []),
  (.if_icmp .ge 46, .if_icmp .ge 46, 3, 66, 0, 0, .null, rm_M0, []),
  (.iload 5, .iload 5, 2, 0, 0, 0, .null, rm_M0, []),
  (.aload 0, .aload_n 0, 1, 0, 0, 0, .null, rm_M0, []),
  (.getfield 112, .getfield 112, 3, 12, 49, 1188, .null, rm_M0, []),
  (.nop, .bipush 61, 2, 0, 0, 0, .int 61, rm_M0, []),
  (.iload 6, .iload 6, 2, 0, 0, 0, .null, rm_M0, []),
  (.imul, .imul, 1, 0, 0, 0, .null, rm_M0, []),
  (.iload 1, .iload_n 1, 1, 0, 0, 0, .null, rm_M0, []),
  (.iadd, .iadd, 1, 0, 0, 0, .null, rm_M0, []),
  (.iaload, .iaload, 1, 0, 0, 0, .null, rm_M0, []),
  (.aload 0, .aload_n 0, 1, 0, 0, 0, .null, rm_M0, []),
  (.getfield 112, .getfield 112, 3, 12, 49, 1188, .null, rm_M0, []),
  (.nop, .bipush 61, 2, 0, 0, 0, .int 61, rm_M0, []),
  (.iload 4, .iload 4, 2, 0, 0, 0, .null, rm_M0, []),
  (.imul, .imul, 1, 0, 0, 0, .null, rm_M0, []),
  (.iload 1, .iload_n 1, 1, 0, 0, 0, .null, rm_M0, []),
  (.iadd, .iadd, 1, 0, 0, 0, .null, rm_M0, []),
  (.iaload, .iaload, 1, 0, 0, 0, .null, rm_M0, []),
  (.if_icmp .ne 7, .if_icmp .ne 7, 3, 56, 0, 0, .null, rm_M0, []),
  (.nop, .iconst 1, 1, 0, 0, 0, .int 1, rm_M0, []),
  (.goto 4, .goto 4, 3, 57, 0, 0, .null, rm_M0, [])]
def bX12_mostAlike_56 : List rm_J := [
  (.nop, .iconst 0, 1, 0, 0, 0, .int 0, rm_M0, [])]
def bX12_mostAlike_57 : List rm_J := [
  (.iadd, .iadd, 1, 0, 0, 0, .null, rm_M0, []),
  (.istore 5, .istore 5, 2, 0, 0, 0, .null, rm_M0, []),
  (.iinc 6 1, .iinc 6 1, 3, 0, 0, 0, .int 1, rm_M0, []),
  (.goto (-46), .goto (-46), 3, 17, 0, 0, .null, rm_M0, [])]
def bX12_mostAlike_66 : List rm_J := [
  (.iload 5, .iload 5, 2, 0, 0, 0, .null, rm_M0, []),
  (.iload 3, .iload_n 3, 1, 0, 0, 0, .null, rm_M0, []),
  (.if_icmp .le 8, .if_icmp .le 8, 3, 77, 0, 0, .null, rm_M0, []),
  (.iload 5, .iload 5, 2, 0, 0, 0, .null, rm_M0, []),
  (.goto 4, .goto 4, 3, 78, 0, 0, .null, rm_M0, [])]
def bX12_mostAlike_77 : List rm_J := [
  (.iload 3, .iload_n 3, 1, 0, 0, 0, .null, rm_M0, [])]
def bX12_mostAlike_78 : List rm_J := [
  (.istore 3, .istore_n 3, 1, 0, 0, 0, .null, rm_M0, []),
  (.iinc 4 1, .iinc 4 1, 3, 0, 0, 0, .int 1, rm_M0, []),
  (.goto (-77), .goto (-77), 3, 5, 0, 0, .null, rm_M0, [])]
def bX12_mostAlike_85 : List rm_J := [
  (.iload 3, .iload_n 3, 1, 0, 0, 0, .null, rm_M0, []),
  (.ireturn, .ireturn, 1, 0, 0, 0, .null, rm_M0, [])]
def tX12_mostAlike : rm_P := [(0, bX12_mostAlike_0), (5, bX12_mostAlike_5), (17, bX12_mostAlike_17), (56, bX12_mostAlike_56), (57, bX12_mostAlike_57), (66, bX12_mostAlike_66), (77, bX12_mostAlike_77), (78, bX12_mostAlike_78), (85, bX12_mostAlike_85)]
theorem ok_X12_mostAlike_t : rm_okP mX12_mostAlike tX12_mostAlike = true := by decide +kernel
theorem ok_X12_mostAlike : rm_okM mX12_mostAlike tX12_mostAlike := ⟨ok_X12_mostAlike_t, fun _ h => absurd h List.not_mem_nil⟩
theorem atX12_mostAlike_0 : rm_at tX12_mostAlike 0 = some bX12_mostAlike_0 := rfl
theorem atX12_mostAlike_5 : rm_at tX12_mostAlike 5 = some bX12_mostAlike_5 := rfl
theorem atX12_mostAlike_17 : rm_at tX12_mostAlike 17 = some bX12_mostAlike_17 := rfl
theorem atX12_mostAlike_56 : rm_at tX12_mostAlike 56 = some bX12_mostAlike_56 := rfl
theorem atX12_mostAlike_57 : rm_at tX12_mostAlike 57 = some bX12_mostAlike_57 := rfl
theorem atX12_mostAlike_66 : rm_at tX12_mostAlike 66 = some bX12_mostAlike_66 := rfl
theorem atX12_mostAlike_77 : rm_at tX12_mostAlike 77 = some bX12_mostAlike_77 := rfl
theorem atX12_mostAlike_78 : rm_at tX12_mostAlike 78 = some bX12_mostAlike_78 := rfl
theorem atX12_mostAlike_85 : rm_at tX12_mostAlike 85 = some bX12_mostAlike_85 := rfl
def bX12_look_0 : List rm_J := [
  (.aload 0, .aload_n 0, 1, 0, 0, 0, .null, rm_M0, []),
  (.invokevirtual 397, .invokevirtual 397, 3, 0, 0, 0, .null, mX12_isRealm, [(0, 1521), (0, 1523), (0, 70)]),
  (.ifCond .eq 13, .ifCond .eq 13, 3, 17, 0, 0, .null, rm_M0, []),
  (.iload 1, .iload_n 1, 1, 0, 0, 0, .null, rm_M0, []),
  (.i2l, .i2l, 1, 0, 0, 0, .null, rm_M0, []),
  (.nop, .lconst 0, 1, 0, 0, 0, .long 0, rm_M0, []),
  (.nop, .lconst 1, 1, 0, 0, 0, .long 1, rm_M0, []),
  (.invokestatic 125, .invokestatic 125, 3, 0, 3, 0, .null, mX12_in, [(0, 1379), (0, 1380)]),
  (.ifCond .ne 5, .ifCond .ne 5, 3, 19, 0, 0, .null, rm_M0, [])]
def bX12_look_17 : List rm_J := [
  (.nop, .iconst (-1), 1, 0, 0, 0, .int (-1), rm_M0, []),
  (.ireturn, .ireturn, 1, 0, 0, 0, .null, rm_M0, [])]
def bX12_look_19 : List rm_J := [
  (.aload 0, .aload_n 0, 1, 0, 0, 0, .null, rm_M0, []),
  (.invokevirtual 422, .invokevirtual 422, 3, 0, 0, 0, .null, mX12_keepsAll, [(0, 1604), (0, 1606), (0, 82)]),
  (.nop, .iconst 0, 1, 0, 0, 0, .int 0, rm_M0, []),
  (.istore 2, .istore_n 2, 1, 0, 0, 0, .null, rm_M0, []),
  (.nop, .iconst (-1), 1, 0, 0, 0, .int (-1), rm_M0, []),
  (.istore 3, .istore_n 3, 1, 0, 0, 0, .null, rm_M0, [])]
def bX12_look_27 : List rm_J := [
  (.iload 3, .iload_n 3, 1, 0, 0, 0, .null, rm_M0, []),
  (.aload 0, .aload_n 0, 1, 0, 0, 0, .null, rm_M0, []),
  (.getfield 310, .getfield 310, 3, 12, 22, 1161, .null, rm_M0, []),
  (.if_icmp .ge 55, .if_icmp .ge 55, 3, 87, 0, 0, .null, rm_M0, []),
  (.aload 0, .aload_n 0, 1, 0, 0, 0, .null, rm_M0, []),
  (.iload 3, .iload_n 3, 1, 0, 0, 0, .null, rm_M0, []),
  (.invokevirtual 464, .invokevirtual 464, 3, 0, 1, 0, .null, mX12_couldRule, [(0, 1699), (0, 1701), (0, 93)]),
  (.ifCond .eq 41, .ifCond .eq 41, 3, 81, 0, 0, .null, rm_M0, []),
  (.nop, .iconst 0, 1, 0, 0, 0, .int 0, rm_M0, []),
  (.istore 4, .istore 4, 2, 0, 0, 0, .null, rm_M0, [])]
def bX12_look_46 : List rm_J := [
  (.iload 4, .iload 4, 2, 0, 0, 0, .null, rm_M0, []),
  (.nop, .bipush 60, 2, 0, 0, 0, .int 60, rm_M0, []),
  (.if_icmp .gt 28, .if_icmp .gt 28, 3, 78, 0, 0, .null, rm_M0, []),
  (.aload 0, .aload_n 0, 1, 0, 0, 0, .null, rm_M0, []),
  (.getfield 112, .getfield 112, 3, 12, 49, 1188, .null, rm_M0, []),
  (.nop, .bipush 61, 2, 0, 0, 0, .int 61, rm_M0, []),
  (.iload 2, .iload_n 2, 1, 0, 0, 0, .null, rm_M0, []),
  (.imul, .imul, 1, 0, 0, 0, .null, rm_M0, []),
  (.iload 4, .iload 4, 2, 0, 0, 0, .null, rm_M0, []),
  (.iadd, .iadd, 1, 0, 0, 0, .null, rm_M0, []),
  (.aload 0, .aload_n 0, 1, 0, 0, 0, .null, rm_M0, []),
  (.getfield 109, .getfield 109, 3, 12, 48, 1187, .null, rm_M0, []),
  (.iload 4, .iload 4, 2, 0, 0, 0, .null, rm_M0, []),
  (.iaload, .iaload, 1, 0, 0, 0, .null, rm_M0, []),
  (.iastore, .iastore, 1, 0, 0, 0, .null, rm_M0, []),
  (.iinc 4 1, .iinc 4 1, 3, 0, 0, 0, .int 1, rm_M0, []),
  (.goto (-29), .goto (-29), 3, 46, 0, 0, .null, rm_M0, [])]
def bX12_look_78 : List rm_J := [
  (.iinc 2 1, .iinc 2 1, 3, 0, 0, 0, .int 1, rm_M0, [])]
def bX12_look_81 : List rm_J := [
  (.iinc 3 1, .iinc 3 1, 3, 0, 0, 0, .int 1, rm_M0, []),
  (.goto (-57), .goto (-57), 3, 27, 0, 0, .null, rm_M0, [])]
def bX12_look_87 : List rm_J := [
  (.iload 2, .iload_n 2, 1, 0, 0, 0, .null, rm_M0, []),
  (.ifCond .ne 6, .ifCond .ne 6, 3, 94, 0, 0, .null, rm_M0, []),
  (.nop, .bipush (-2), 2, 0, 0, 0, .int (-2), rm_M0, []),
  (.ireturn, .ireturn, 1, 0, 0, 0, .null, rm_M0, [])]
def bX12_look_94 : List rm_J := [
  (.nop, .iconst 0, 1, 0, 0, 0, .int 0, rm_M0, []),
  (.istore 3, .istore_n 3, 1, 0, 0, 0, .null, rm_M0, []),
  (.nop, .iconst 1, 1, 0, 0, 0, .int 1, rm_M0, []),
  (.istore 4, .istore 4, 2, 0, 0, 0, .null, rm_M0, [])]
def bX12_look_99 : List rm_J := [
  (.iload 4, .iload 4, 2, 0, 0, 0, .null, rm_M0, []),
  (.nop, .bipush 60, 2, 0, 0, 0, .int 60, rm_M0, []),
  (.if_icmp .gt 32, .if_icmp .gt 32, 3, 135, 0, 0, .null, rm_M0, []),
  (.aload 0, .aload_n 0, 1, 0, 0, 0, .null, rm_M0, []),
  (.iload 4, .iload 4, 2, 0, 0, 0, .null, rm_M0, []),
  (.iload 2, .iload_n 2, 1, 0, 0, 0, .null, rm_M0, []),
  (.invokevirtual 467, .invokevirtual 467, 3, 0, 2, 0, .null, mX12_mostAlike, [(0, 1707), (0, 1709), (0, 94)]),
  (.aload 0, .aload_n 0, 1, 0, 0, 0, .null, rm_M0, []),
  (.iload 3, .iload_n 3, 1, 0, 0, 0, .null, rm_M0, []),
  (.iload 2, .iload_n 2, 1, 0, 0, 0, .null, rm_M0, []),
  (.invokevirtual 467, .invokevirtual 467, 3, 0, 2, 0, .null, mX12_mostAlike, [(0, 1707), (0, 1709), (0, 94)]),
  (.if_icmp .ge 8, .if_icmp .ge 8, 3, 127, 0, 0, .null, rm_M0, []),
  (.iload 4, .iload 4, 2, 0, 0, 0, .null, rm_M0, []),
  (.goto 4, .goto 4, 3, 128, 0, 0, .null, rm_M0, [])]
def bX12_look_127 : List rm_J := [
  (.iload 3, .iload_n 3, 1, 0, 0, 0, .null, rm_M0, [])]
def bX12_look_128 : List rm_J := [
  (.istore 3, .istore_n 3, 1, 0, 0, 0, .null, rm_M0, []),
  (.iinc 4 1, .iinc 4 1, 3, 0, 0, 0, .int 1, rm_M0, []),
  (.goto (-33), .goto (-33), 3, 99, 0, 0, .null, rm_M0, [])]
def bX12_look_135 : List rm_J := [
  (.iload 1, .iload_n 1, 1, 0, 0, 0, .null, rm_M0, []),
  (.ifCond .ne 7, .ifCond .ne 7, 3, 143, 0, 0, .null, rm_M0, []),
  (.iload 3, .iload_n 3, 1, 0, 0, 0, .null, rm_M0, []),
  (.goto 9, .goto 9, 3, 149, 0, 0, .null, rm_M0, [])]
def bX12_look_143 : List rm_J := [
  (.aload 0, .aload_n 0, 1, 0, 0, 0, .null, rm_M0, []),
  (.iload 3, .iload_n 3, 1, 0, 0, 0, .null, rm_M0, []),
  (.iload 2, .iload_n 2, 1, 0, 0, 0, .null, rm_M0, []),
  (.invokevirtual 467, .invokevirtual 467, 3, 0, 2, 0, .null, mX12_mostAlike, [(0, 1707), (0, 1709), (0, 94)])]
def bX12_look_149 : List rm_J := [
  (.ireturn, .ireturn, 1, 0, 0, 0, .null, rm_M0, [])]
def tX12_look : rm_P := [(0, bX12_look_0), (17, bX12_look_17), (19, bX12_look_19), (27, bX12_look_27), (46, bX12_look_46), (78, bX12_look_78), (81, bX12_look_81), (87, bX12_look_87), (94, bX12_look_94), (99, bX12_look_99), (127, bX12_look_127), (128, bX12_look_128), (135, bX12_look_135), (143, bX12_look_143), (149, bX12_look_149)]
theorem ok_X12_look_t : rm_okP mX12_look tX12_look = true := by decide +kernel
theorem ok_X12_look : rm_okM mX12_look tX12_look := ⟨ok_X12_look_t, List.forall_mem_cons.mpr ⟨cw_X12_isRealm, List.forall_mem_cons.mpr ⟨cw_X12_in, List.forall_mem_cons.mpr ⟨cw_X12_keepsAll, List.forall_mem_cons.mpr ⟨cw_X12_couldRule, List.forall_mem_cons.mpr ⟨cw_X12_mostAlike, List.forall_mem_cons.mpr ⟨cw_X12_mostAlike, List.forall_mem_cons.mpr ⟨cw_X12_mostAlike, fun _ h => absurd h List.not_mem_nil⟩⟩⟩⟩⟩⟩⟩⟩
theorem atX12_look_0 : rm_at tX12_look 0 = some bX12_look_0 := rfl
theorem atX12_look_17 : rm_at tX12_look 17 = some bX12_look_17 := rfl
theorem atX12_look_19 : rm_at tX12_look 19 = some bX12_look_19 := rfl
theorem atX12_look_27 : rm_at tX12_look 27 = some bX12_look_27 := rfl
theorem atX12_look_46 : rm_at tX12_look 46 = some bX12_look_46 := rfl
theorem atX12_look_78 : rm_at tX12_look 78 = some bX12_look_78 := rfl
theorem atX12_look_81 : rm_at tX12_look 81 = some bX12_look_81 := rfl
theorem atX12_look_87 : rm_at tX12_look 87 = some bX12_look_87 := rfl
theorem atX12_look_94 : rm_at tX12_look 94 = some bX12_look_94 := rfl
theorem atX12_look_99 : rm_at tX12_look 99 = some bX12_look_99 := rfl
theorem atX12_look_127 : rm_at tX12_look 127 = some bX12_look_127 := rfl
theorem atX12_look_128 : rm_at tX12_look 128 = some bX12_look_128 := rfl
theorem atX12_look_135 : rm_at tX12_look 135 = some bX12_look_135 := rfl
theorem atX12_look_143 : rm_at tX12_look 143 = some bX12_look_143 := rfl
theorem atX12_look_149 : rm_at tX12_look 149 = some bX12_look_149 := rfl
def bX12_seed_0 : List rm_J := [
  (.iload 1, .iload_n 1, 1, 0, 0, 0, .null, rm_M0, []),
  (.ifCond .ge 5, .ifCond .ge 5, 3, 6, 0, 0, .null, rm_M0, []),
  (.nop, .iconst (-1), 1, 0, 0, 0, .int (-1), rm_M0, []),
  (.ireturn, .ireturn, 1, 0, 0, 0, .null, rm_M0, [])]
def bX12_seed_6 : List rm_J := [
  (.aload 0, .aload_n 0, 1, 0, 0, 0, .null, rm_M0, []),
  (.getfield 9, .getfield 9, 3, 12, 1, 1140, .null, rm_M0, []),
  (.nop, .bipush 11, 2, 0, 0, 0, .int 11, rm_M0, []),
  (.iaload, .iaload, 1, 0, 0, 0, .null, rm_M0, []),
  (.istore 2, .istore_n 2, 1, 0, 0, 0, .null, rm_M0, []),
  (.aload 0, .aload_n 0, 1, 0, 0, 0, .null, rm_M0, []),
  (.getfield 9, .getfield 9, 3, 12, 1, 1140, .null, rm_M0, []),
  (.nop, .bipush 11, 2, 0, 0, 0, .int 11, rm_M0, []),
  (.iload 1, .iload_n 1, 1, 0, 0, 0, .null, rm_M0, []),
  (.iastore, .iastore, 1, 0, 0, 0, .null, rm_M0, []),
  (.iload 2, .iload_n 2, 1, 0, 0, 0, .null, rm_M0, []),
  (.ireturn, .ireturn, 1, 0, 0, 0, .null, rm_M0, [])]
def tX12_seed : rm_P := [(0, bX12_seed_0), (6, bX12_seed_6)]
theorem ok_X12_seed_t : rm_okP mX12_seed tX12_seed = true := by decide +kernel
theorem ok_X12_seed : rm_okM mX12_seed tX12_seed := ⟨ok_X12_seed_t, fun _ h => absurd h List.not_mem_nil⟩
theorem atX12_seed_0 : rm_at tX12_seed 0 = some bX12_seed_0 := rfl
theorem atX12_seed_6 : rm_at tX12_seed 6 = some bX12_seed_6 := rfl
def bX12_draws_0 : List rm_J := [
  (.aload 0, .aload_n 0, 1, 0, 0, 0, .null, rm_M0, []),
  (.getfield 9, .getfield 9, 3, 12, 1, 1140, .null, rm_M0, []),
  (.nop, .bipush 11, 2, 0, 0, 0, .int 11, rm_M0, []),
  (.aload 0, .aload_n 0, 1, 0, 0, 0, .null, rm_M0, []),
  (.getfield 9, .getfield 9, 3, 12, 1, 1140, .null, rm_M0, []),
  (.nop, .bipush 11, 2, 0, 0, 0, .int 11, rm_M0, []),
  (.iaload, .iaload, 1, 0, 0, 0, .null, rm_M0, []),
  (.i2l, .i2l, 1, 0, 0, 0, .null, rm_M0, []),
  (.nop, .ldc2_w 470, 3, 0, 0, 1724, .long 1103515245, rm_M0, []),
  (.lmul, .lmul, 1, 0, 0, 0, .null, rm_M0, []),
  (.nop, .ldc2_w 472, 3, 0, 0, 1725, .long 12345, rm_M0, []),
  (.ladd, .ladd, 1, 0, 0, 0, .null, rm_M0, []),
  (.nop, .ldc2_w 474, 3, 0, 0, 1726, .long 2147483648, rm_M0, []),
  (.lrem, .lrem, 1, 0, 0, 0, .null, rm_M0, []),
  (.l2i, .l2i, 1, 0, 0, 0, .null, rm_M0, []),
  (.iastore, .iastore, 1, 0, 0, 0, .null, rm_M0, []),
  (.aload 0, .aload_n 0, 1, 0, 0, 0, .null, rm_M0, []),
  (.getfield 9, .getfield 9, 3, 12, 1, 1140, .null, rm_M0, []),
  (.nop, .bipush 11, 2, 0, 0, 0, .int 11, rm_M0, []),
  (.iaload, .iaload, 1, 0, 0, 0, .null, rm_M0, []),
  (.nop, .ldc_w 476, 3, 0, 0, 1727, .int 65536, rm_M0, []),
  (.idiv, .idiv, 1, 0, 0, 0, .null, rm_M0, []),
  (.iload 1, .iload_n 1, 1, 0, 0, 0, .null, rm_M0, []),
  (.irem, .irem, 1, 0, 0, 0, .null, rm_M0, []),
  (.ireturn, .ireturn, 1, 0, 0, 0, .null, rm_M0, [])]
def tX12_draws : rm_P := [(0, bX12_draws_0)]
theorem ok_X12_draws_t : rm_okP mX12_draws tX12_draws = true := by decide +kernel
theorem ok_X12_draws : rm_okM mX12_draws tX12_draws := ⟨ok_X12_draws_t, fun _ h => absurd h List.not_mem_nil⟩
theorem atX12_draws_0 : rm_at tX12_draws 0 = some bX12_draws_0 := rfl
def bX12_reigns_0 : List rm_J := [
  (.aload 0, .aload_n 0, 1, 0, 0, 0, .null, rm_M0, []),
  (.invokevirtual 397, .invokevirtual 397, 3, 0, 0, 0, .null, mX12_isRealm, [(0, 1521), (0, 1523), (0, 70)]),
  (.ifCond .eq 50, .ifCond .eq 50, 3, 54, 0, 0, .null, rm_M0, []),
  (.iload 1, .iload_n 1, 1, 0, 0, 0, .null, rm_M0, []),
  (.i2l, .i2l, 1, 0, 0, 0, .null, rm_M0, []),
  (.nop, .lconst 1, 1, 0, 0, 0, .long 1, rm_M0, []),
  (.nop, .ldc2_w 477, 3, 0, 0, 1719, .long 10, rm_M0, []),
  (.invokestatic 125, .invokestatic 125, 3, 0, 3, 0, .null, mX12_in, [(0, 1379), (0, 1380)]),
  (.ifCond .eq 38, .ifCond .eq 38, 3, 54, 0, 0, .null, rm_M0, []),
  (.iload 2, .iload_n 2, 1, 0, 0, 0, .null, rm_M0, []),
  (.i2l, .i2l, 1, 0, 0, 0, .null, rm_M0, []),
  (.nop, .lconst 1, 1, 0, 0, 0, .long 1, rm_M0, []),
  (.nop, .ldc2_w 432, 3, 0, 0, 1646, .long 60, rm_M0, []),
  (.invokestatic 125, .invokestatic 125, 3, 0, 3, 0, .null, mX12_in, [(0, 1379), (0, 1380)]),
  (.ifCond .eq 26, .ifCond .eq 26, 3, 54, 0, 0, .null, rm_M0, []),
  (.iload 3, .iload_n 3, 1, 0, 0, 0, .null, rm_M0, []),
  (.i2l, .i2l, 1, 0, 0, 0, .null, rm_M0, []),
  (.nop, .lconst 0, 1, 0, 0, 0, .long 0, rm_M0, []),
  (.nop, .ldc2_w 358, 3, 0, 0, 1541, .long 100, rm_M0, []),
  (.invokestatic 125, .invokestatic 125, 3, 0, 3, 0, .null, mX12_in, [(0, 1379), (0, 1380)]),
  (.ifCond .eq 14, .ifCond .eq 14, 3, 54, 0, 0, .null, rm_M0, []),
  (.iload 4, .iload 4, 2, 0, 0, 0, .null, rm_M0, []),
  (.i2l, .i2l, 1, 0, 0, 0, .null, rm_M0, []),
  (.nop, .lconst 0, 1, 0, 0, 0, .long 0, rm_M0, []),
  (.nop, .lconst 1, 1, 0, 0, 0, .long 1, rm_M0, []),
  (.invokestatic 125, .invokestatic 125, 3, 0, 3, 0, .null, mX12_in, [(0, 1379), (0, 1380)]),
  (.ifCond .ne 5, .ifCond .ne 5, 3, 56, 0, 0, .null, rm_M0, [])]
def bX12_reigns_54 : List rm_J := [
  (.nop, .iconst (-1), 1, 0, 0, 0, .int (-1), rm_M0, []),
  (.ireturn, .ireturn, 1, 0, 0, 0, .null, rm_M0, [])]
def bX12_reigns_56 : List rm_J := [
  (.aload 0, .aload_n 0, 1, 0, 0, 0, .null, rm_M0, []),
  (.getfield 9, .getfield 9, 3, 12, 1, 1140, .null, rm_M0, []),
  (.nop, .bipush 11, 2, 0, 0, 0, .int 11, rm_M0, []),
  (.iaload, .iaload, 1, 0, 0, 0, .null, rm_M0, []),
  (.istore 5, .istore 5, 2, 0, 0, 0, .null, rm_M0, []),
  (.iload 5, .iload 5, 2, 0, 0, 0, .null, rm_M0, []),
  (.istore 6, .istore 6, 2, 0, 0, 0, .null, rm_M0, []),
  (.aload 0, .aload_n 0, 1, 0, 0, 0, .null, rm_M0, []),
  (.getfield 9, .getfield 9, 3, 12, 1, 1140, .null, rm_M0, []),
  (.nop, .bipush 6, 2, 0, 0, 0, .int 6, rm_M0, []),
  (.iaload, .iaload, 1, 0, 0, 0, .null, rm_M0, []),
  (.istore 7, .istore 7, 2, 0, 0, 0, .null, rm_M0, []),
  (.aload 0, .aload_n 0, 1, 0, 0, 0, .null, rm_M0, []),
  (.getfield 9, .getfield 9, 3, 12, 1, 1140, .null, rm_M0, []),
  (.nop, .bipush 7, 2, 0, 0, 0, .int 7, rm_M0, []),
  (.iaload, .iaload, 1, 0, 0, 0, .null, rm_M0, []),
  (.istore 8, .istore 8, 2, 0, 0, 0, .null, rm_M0, []),
  (.nop, .iconst 0, 1, 0, 0, 0, .int 0, rm_M0, []),
  (.istore 9, .istore 9, 2, 0, 0, 0, .null, rm_M0, []),
  (.aload 0, .aload_n 0, 1, 0, 0, 0, .null, rm_M0, []),
  (.invokevirtual 422, .invokevirtual 422, 3, 0, 0, 0, .null, mX12_keepsAll, [(0, 1604), (0, 1606), (0, 82)]),
  (.nop, .iconst 0, 1, 0, 0, 0, .int 0, rm_M0, []),
  (.istore 10, .istore 10, 2, 0, 0, 0, .null, rm_M0, [])]
def bX12_reigns_97 : List rm_J := [
  (.iload 10, .iload 10, 2, 0, 0, 0, .null, rm_M0, []),
  (.iload 1, .iload_n 1, 1, 0, 0, 0, .null, rm_M0, []),
  (.if_icmp .ge 112, .if_icmp .ge 112, 3, 212, 0, 0, .null, rm_M0, []),
  (.aload 0, .aload_n 0, 1, 0, 0, 0, .null, rm_M0, []),
  (.getfield 9, .getfield 9, 3, 12, 1, 1140, .null, rm_M0, []),
  (.nop, .bipush 11, 2, 0, 0, 0, .int 11, rm_M0, []),
  (.iload 6, .iload 6, 2, 0, 0, 0, .null, rm_M0, []),
  (.iastore, .iastore, 1, 0, 0, 0, .null, rm_M0, []),
  (.nop, .iconst 0, 1, 0, 0, 0, .int 0, rm_M0, []),
  (.istore 11, .istore 11, 2, 0, 0, 0, .null, rm_M0, [])]
def bX12_reigns_115 : List rm_J := [
  (.iload 11, .iload 11, 2, 0, 0, 0, .null, rm_M0, []),
  (.iload 2, .iload_n 2, 1, 0, 0, 0, .null, rm_M0, []),
  (.if_icmp .ge 42, .if_icmp .ge 42, 3, 160, 0, 0, .null, rm_M0, []),
  (.aload 0, .aload_n 0, 1, 0, 0, 0, .null, rm_M0, []),
  (.getfield 9, .getfield 9, 3, 12, 1, 1140, .null, rm_M0, []),
  (.nop, .bipush 9, 2, 0, 0, 0, .int 9, rm_M0, []),
  (.aload 0, .aload_n 0, 1, 0, 0, 0, .null, rm_M0, []),
  (.nop, .bipush 100, 2, 0, 0, 0, .int 100, rm_M0, []),
  (.invokevirtual 479, .invokevirtual 479, 3, 0, 1, 0, .null, mX12_draws, [(0, 1720), (0, 1722), (0, 95)]),
  (.iload 3, .iload_n 3, 1, 0, 0, 0, .null, rm_M0, []),
  (.if_icmp .ge 7, .if_icmp .ge 7, 3, 141, 0, 0, .null, rm_M0, []),
  (.nop, .iconst 1, 1, 0, 0, 0, .int 1, rm_M0, []),
  (.goto 10, .goto 10, 3, 148, 0, 0, .null, rm_M0, [])]
def bX12_reigns_141 : List rm_J := [
  (.aload 0, .aload_n 0, 1, 0, 0, 0, .null, rm_M0, []),
  (.getfield 9, .getfield 9, 3, 12, 1, 1140, .null, rm_M0, []),
  (.nop, .bipush 9, 2, 0, 0, 0, .int 9, rm_M0, []),
  (.iaload, .iaload, 1, 0, 0, 0, .null, rm_M0, [])]
def bX12_reigns_148 : List rm_J := [
  (.iastore, .iastore, 1, 0, 0, 0, .null, rm_M0, []),
  (.aload 0, .aload_n 0, 1, 0, 0, 0, .null, rm_M0, []),
  (.invokevirtual 376, .invokevirtual 376, 3, 0, 0, 0, .null, mX12_goes, [(0, 1529), (0, 1531), (0, 72)]),
  (.pop, .pop, 1, 0, 0, 0, .null, rm_M0, []),
  (.iinc 11 1, .iinc 11 1, 3, 0, 0, 0, .int 1, rm_M0, []),
  (.goto (-42), .goto (-42), 3, 115, 0, 0, .null, rm_M0, [])]
def bX12_reigns_160 : List rm_J := [
  (.iload 9, .iload 9, 2, 0, 0, 0, .null, rm_M0, []),
  (.iload 4, .iload 4, 2, 0, 0, 0, .null, rm_M0, []),
  (.ifCond .ne 16, .ifCond .ne 16, 3, 180, 0, 0, .null, rm_M0, []),
  (.aload 0, .aload_n 0, 1, 0, 0, 0, .null, rm_M0, []),
  (.getfield 9, .getfield 9, 3, 12, 1, 1140, .null, rm_M0, []),
  (.nop, .bipush 6, 2, 0, 0, 0, .int 6, rm_M0, []),
  (.iaload, .iaload, 1, 0, 0, 0, .null, rm_M0, []),
  (.iload 7, .iload 7, 2, 0, 0, 0, .null, rm_M0, []),
  (.isub, .isub, 1, 0, 0, 0, .null, rm_M0, []),
  (.goto 13, .goto 13, 3, 190, 0, 0, .null, rm_M0, [])]
def bX12_reigns_180 : List rm_J := [
  (.aload 0, .aload_n 0, 1, 0, 0, 0, .null, rm_M0, []),
  (.getfield 9, .getfield 9, 3, 12, 1, 1140, .null, rm_M0, []),
  (.nop, .bipush 7, 2, 0, 0, 0, .int 7, rm_M0, []),
  (.iaload, .iaload, 1, 0, 0, 0, .null, rm_M0, []),
  (.iload 8, .iload 8, 2, 0, 0, 0, .null, rm_M0, []),
  (.isub, .isub, 1, 0, 0, 0, .null, rm_M0, [])]
def bX12_reigns_190 : List rm_J := [
  (.iadd, .iadd, 1, 0, 0, 0, .null, rm_M0, []),
  (.istore 9, .istore 9, 2, 0, 0, 0, .null, rm_M0, []),
  (.aload 0, .aload_n 0, 1, 0, 0, 0, .null, rm_M0, []),
  (.getfield 9, .getfield 9, 3, 12, 1, 1140, .null, rm_M0, []),
  (.nop, .bipush 11, 2, 0, 0, 0, .int 11, rm_M0, []),
  (.iaload, .iaload, 1, 0, 0, 0, .null, rm_M0, []),
  (.istore 6, .istore 6, 2, 0, 0, 0, .null, rm_M0, []),
  (.aload 0, .aload_n 0, 1, 0, 0, 0, .null, rm_M0, []),
  (.invokevirtual 417, .invokevirtual 417, 3, 0, 0, 0, .null, mX12_laysBack, [(0, 1620), (0, 1622), (0, 86)]),
  (.iinc 10 1, .iinc 10 1, 3, 0, 0, 0, .int 1, rm_M0, []),
  (.goto (-112), .goto (-112), 3, 97, 0, 0, .null, rm_M0, [])]
def bX12_reigns_212 : List rm_J := [
  (.aload 0, .aload_n 0, 1, 0, 0, 0, .null, rm_M0, []),
  (.getfield 9, .getfield 9, 3, 12, 1, 1140, .null, rm_M0, []),
  (.nop, .bipush 11, 2, 0, 0, 0, .int 11, rm_M0, []),
  (.iload 5, .iload 5, 2, 0, 0, 0, .null, rm_M0, []),
  (.iastore, .iastore, 1, 0, 0, 0, .null, rm_M0, []),
  (.iload 9, .iload 9, 2, 0, 0, 0, .null, rm_M0, []),
  (.ireturn, .ireturn, 1, 0, 0, 0, .null, rm_M0, [])]
def tX12_reigns : rm_P := [(0, bX12_reigns_0), (54, bX12_reigns_54), (56, bX12_reigns_56), (97, bX12_reigns_97), (115, bX12_reigns_115), (141, bX12_reigns_141), (148, bX12_reigns_148), (160, bX12_reigns_160), (180, bX12_reigns_180), (190, bX12_reigns_190), (212, bX12_reigns_212)]
theorem ok_X12_reigns_t : rm_okP mX12_reigns tX12_reigns = true := by decide +kernel
theorem ok_X12_reigns : rm_okM mX12_reigns tX12_reigns := ⟨ok_X12_reigns_t, List.forall_mem_cons.mpr ⟨cw_X12_isRealm, List.forall_mem_cons.mpr ⟨cw_X12_in, List.forall_mem_cons.mpr ⟨cw_X12_in, List.forall_mem_cons.mpr ⟨cw_X12_in, List.forall_mem_cons.mpr ⟨cw_X12_in, List.forall_mem_cons.mpr ⟨cw_X12_keepsAll, List.forall_mem_cons.mpr ⟨cw_X12_draws, List.forall_mem_cons.mpr ⟨cw_X12_goes, List.forall_mem_cons.mpr ⟨cw_X12_laysBack, fun _ h => absurd h List.not_mem_nil⟩⟩⟩⟩⟩⟩⟩⟩⟩⟩
theorem atX12_reigns_0 : rm_at tX12_reigns 0 = some bX12_reigns_0 := rfl
theorem atX12_reigns_54 : rm_at tX12_reigns 54 = some bX12_reigns_54 := rfl
theorem atX12_reigns_56 : rm_at tX12_reigns 56 = some bX12_reigns_56 := rfl
theorem atX12_reigns_97 : rm_at tX12_reigns 97 = some bX12_reigns_97 := rfl
theorem atX12_reigns_115 : rm_at tX12_reigns 115 = some bX12_reigns_115 := rfl
theorem atX12_reigns_141 : rm_at tX12_reigns 141 = some bX12_reigns_141 := rfl
theorem atX12_reigns_148 : rm_at tX12_reigns 148 = some bX12_reigns_148 := rfl
theorem atX12_reigns_160 : rm_at tX12_reigns 160 = some bX12_reigns_160 := rfl
theorem atX12_reigns_180 : rm_at tX12_reigns 180 = some bX12_reigns_180 := rfl
theorem atX12_reigns_190 : rm_at tX12_reigns 190 = some bX12_reigns_190 := rfl
theorem atX12_reigns_212 : rm_at tX12_reigns 212 = some bX12_reigns_212 := rfl
def bX12_count_0 : List rm_J := [
  (.iload 1, .iload_n 1, 1, 0, 0, 0, .null, rm_M0, []),
  (.tableswitch 221 0 16 #[83, 90, 97, 104, 109, 117, 124, 129, 136, 144, 152, 160, 168, 195, 203, 208, 216], .tableswitch 221 0 16 #[83, 90, 97, 104, 109, 117, 124, 129, 136, 144, 152, 160, 168, 195, 203, 208, 216], 83, 222, 0, 0, .null, rm_M0, [(0, 84), (1, 91), (2, 98), (3, 105), (4, 110), (5, 118), (6, 125), (7, 130), (8, 137), (9, 145), (10, 153), (11, 161), (12, 169), (13, 196), (14, 204), (15, 209), (16, 217)])]
def bX12_count_84 : List rm_J := [
  (.aload 0, .aload_n 0, 1, 0, 0, 0, .null, rm_M0, []),
  (.getfield 9, .getfield 9, 3, 12, 1, 1140, .null, rm_M0, []),
  (.nop, .iconst 1, 1, 0, 0, 0, .int 1, rm_M0, []),
  (.iaload, .iaload, 1, 0, 0, 0, .null, rm_M0, []),
  (.ireturn, .ireturn, 1, 0, 0, 0, .null, rm_M0, [])]
def bX12_count_91 : List rm_J := [
  (.aload 0, .aload_n 0, 1, 0, 0, 0, .null, rm_M0, []),
  (.getfield 9, .getfield 9, 3, 12, 1, 1140, .null, rm_M0, []),
  (.nop, .iconst 2, 1, 0, 0, 0, .int 2, rm_M0, []),
  (.iaload, .iaload, 1, 0, 0, 0, .null, rm_M0, []),
  (.ireturn, .ireturn, 1, 0, 0, 0, .null, rm_M0, [])]
def bX12_count_98 : List rm_J := [
  (.aload 0, .aload_n 0, 1, 0, 0, 0, .null, rm_M0, []),
  (.getfield 9, .getfield 9, 3, 12, 1, 1140, .null, rm_M0, []),
  (.nop, .iconst 3, 1, 0, 0, 0, .int 3, rm_M0, []),
  (.iaload, .iaload, 1, 0, 0, 0, .null, rm_M0, []),
  (.ireturn, .ireturn, 1, 0, 0, 0, .null, rm_M0, [])]
def bX12_count_105 : List rm_J := [
  (.aload 0, .aload_n 0, 1, 0, 0, 0, .null, rm_M0, []),
  (.getfield 310, .getfield 310, 3, 12, 22, 1161, .null, rm_M0, []),
  (.ireturn, .ireturn, 1, 0, 0, 0, .null, rm_M0, [])]
def bX12_count_110 : List rm_J := [
  (.aload 0, .aload_n 0, 1, 0, 0, 0, .null, rm_M0, []),
  (.getfield 9, .getfield 9, 3, 12, 1, 1140, .null, rm_M0, []),
  (.nop, .bipush 12, 2, 0, 0, 0, .int 12, rm_M0, []),
  (.iaload, .iaload, 1, 0, 0, 0, .null, rm_M0, []),
  (.ireturn, .ireturn, 1, 0, 0, 0, .null, rm_M0, [])]
def bX12_count_118 : List rm_J := [
  (.aload 0, .aload_n 0, 1, 0, 0, 0, .null, rm_M0, []),
  (.getfield 9, .getfield 9, 3, 12, 1, 1140, .null, rm_M0, []),
  (.nop, .iconst 4, 1, 0, 0, 0, .int 4, rm_M0, []),
  (.iaload, .iaload, 1, 0, 0, 0, .null, rm_M0, []),
  (.ireturn, .ireturn, 1, 0, 0, 0, .null, rm_M0, [])]
def bX12_count_125 : List rm_J := [
  (.aload 0, .aload_n 0, 1, 0, 0, 0, .null, rm_M0, []),
  (.invokevirtual 348, .invokevirtual 348, 3, 0, 0, 0, .null, mX12_openOnes, [(0, 1546), (0, 1548), (0, 76)]),
  (.ireturn, .ireturn, 1, 0, 0, 0, .null, rm_M0, [])]
def bX12_count_130 : List rm_J := [
  (.aload 0, .aload_n 0, 1, 0, 0, 0, .null, rm_M0, []),
  (.getfield 9, .getfield 9, 3, 12, 1, 1140, .null, rm_M0, []),
  (.nop, .iconst 5, 1, 0, 0, 0, .int 5, rm_M0, []),
  (.iaload, .iaload, 1, 0, 0, 0, .null, rm_M0, []),
  (.ireturn, .ireturn, 1, 0, 0, 0, .null, rm_M0, [])]
def bX12_count_137 : List rm_J := [
  (.aload 0, .aload_n 0, 1, 0, 0, 0, .null, rm_M0, []),
  (.getfield 9, .getfield 9, 3, 12, 1, 1140, .null, rm_M0, []),
  (.nop, .bipush 6, 2, 0, 0, 0, .int 6, rm_M0, []),
  (.iaload, .iaload, 1, 0, 0, 0, .null, rm_M0, []),
  (.ireturn, .ireturn, 1, 0, 0, 0, .null, rm_M0, [])]
def bX12_count_145 : List rm_J := [
  (.aload 0, .aload_n 0, 1, 0, 0, 0, .null, rm_M0, []),
  (.getfield 9, .getfield 9, 3, 12, 1, 1140, .null, rm_M0, []),
  (.nop, .bipush 7, 2, 0, 0, 0, .int 7, rm_M0, []),
  (.iaload, .iaload, 1, 0, 0, 0, .null, rm_M0, []),
  (.ireturn, .ireturn, 1, 0, 0, 0, .null, rm_M0, [])]
def bX12_count_153 : List rm_J := [
  (.aload 0, .aload_n 0, 1, 0, 0, 0, .null, rm_M0, []),
  (.getfield 9, .getfield 9, 3, 12, 1, 1140, .null, rm_M0, []),
  (.nop, .bipush 8, 2, 0, 0, 0, .int 8, rm_M0, []),
  (.iaload, .iaload, 1, 0, 0, 0, .null, rm_M0, []),
  (.ireturn, .ireturn, 1, 0, 0, 0, .null, rm_M0, [])]
def bX12_count_161 : List rm_J := [
  (.aload 0, .aload_n 0, 1, 0, 0, 0, .null, rm_M0, []),
  (.getfield 9, .getfield 9, 3, 12, 1, 1140, .null, rm_M0, []),
  (.nop, .bipush 9, 2, 0, 0, 0, .int 9, rm_M0, []),
  (.iaload, .iaload, 1, 0, 0, 0, .null, rm_M0, []),
  (.ireturn, .ireturn, 1, 0, 0, 0, .null, rm_M0, [])]
def bX12_count_169 : List rm_J := [
  (.aload 0, .aload_n 0, 1, 0, 0, 0, .null, rm_M0, []),
  (.getfield 9, .getfield 9, 3, 12, 1, 1140, .null, rm_M0, []),
  (.nop, .iconst 4, 1, 0, 0, 0, .int 4, rm_M0, []),
  (.iaload, .iaload, 1, 0, 0, 0, .null, rm_M0, []),
  (.nop, .bipush 61, 2, 0, 0, 0, .int 61, rm_M0, []),
  (.if_icmp .ge 17, .if_icmp .ge 17, 3, 194, 0, 0, .null, rm_M0, []),
  (.aload 0, .aload_n 0, 1, 0, 0, 0, .null, rm_M0, []),
  (.getfield 28, .getfield 28, 3, 12, 7, 1146, .null, rm_M0, []),
  (.aload 0, .aload_n 0, 1, 0, 0, 0, .null, rm_M0, []),
  (.getfield 9, .getfield 9, 3, 12, 1, 1140, .null, rm_M0, []),
  (.nop, .iconst 4, 1, 0, 0, 0, .int 4, rm_M0, []),
  (.iaload, .iaload, 1, 0, 0, 0, .null, rm_M0, []),
  (.iaload, .iaload, 1, 0, 0, 0, .null, rm_M0, []),
  (.goto 4, .goto 4, 3, 195, 0, 0, .null, rm_M0, [])]
def bX12_count_194 : List rm_J := [
  (.nop, .iconst 0, 1, 0, 0, 0, .int 0, rm_M0, [])]
def bX12_count_195 : List rm_J := [
  (.ireturn, .ireturn, 1, 0, 0, 0, .null, rm_M0, [])]
def bX12_count_196 : List rm_J := [
  (.aload 0, .aload_n 0, 1, 0, 0, 0, .null, rm_M0, []),
  (.getfield 9, .getfield 9, 3, 12, 1, 1140, .null, rm_M0, []),
  (.nop, .bipush 10, 2, 0, 0, 0, .int 10, rm_M0, []),
  (.iaload, .iaload, 1, 0, 0, 0, .null, rm_M0, []),
  (.ireturn, .ireturn, 1, 0, 0, 0, .null, rm_M0, [])]
def bX12_count_204 : List rm_J := [
  (.aload 0, .aload_n 0, 1, 0, 0, 0, .null, rm_M0, []),
  (.getfield 297, .getfield 297, 3, 12, 40, 1179, .null, rm_M0, []),
  (.ireturn, .ireturn, 1, 0, 0, 0, .null, rm_M0, [])]
def bX12_count_209 : List rm_J := [
  (.aload 0, .aload_n 0, 1, 0, 0, 0, .null, rm_M0, []),
  (.getfield 9, .getfield 9, 3, 12, 1, 1140, .null, rm_M0, []),
  (.nop, .bipush 11, 2, 0, 0, 0, .int 11, rm_M0, []),
  (.iaload, .iaload, 1, 0, 0, 0, .null, rm_M0, []),
  (.ireturn, .ireturn, 1, 0, 0, 0, .null, rm_M0, [])]
def bX12_count_217 : List rm_J := [
  (.aload 0, .aload_n 0, 1, 0, 0, 0, .null, rm_M0, []),
  (.getfield 129, .getfield 129, 3, 12, 18, 1157, .null, rm_M0, []),
  (.ireturn, .ireturn, 1, 0, 0, 0, .null, rm_M0, [])]
def bX12_count_222 : List rm_J := [
  (.nop, .iconst (-1), 1, 0, 0, 0, .int (-1), rm_M0, []),
  (.ireturn, .ireturn, 1, 0, 0, 0, .null, rm_M0, [])]
def tX12_count : rm_P := [(0, bX12_count_0), (84, bX12_count_84), (91, bX12_count_91), (98, bX12_count_98), (105, bX12_count_105), (110, bX12_count_110), (118, bX12_count_118), (125, bX12_count_125), (130, bX12_count_130), (137, bX12_count_137), (145, bX12_count_145), (153, bX12_count_153), (161, bX12_count_161), (169, bX12_count_169), (194, bX12_count_194), (195, bX12_count_195), (196, bX12_count_196), (204, bX12_count_204), (209, bX12_count_209), (217, bX12_count_217), (222, bX12_count_222)]
theorem ok_X12_count_t : rm_okP mX12_count tX12_count = true := by decide +kernel
theorem ok_X12_count : rm_okM mX12_count tX12_count := ⟨ok_X12_count_t, List.forall_mem_cons.mpr ⟨cw_X12_openOnes, fun _ h => absurd h List.not_mem_nil⟩⟩
theorem atX12_count_0 : rm_at tX12_count 0 = some bX12_count_0 := rfl
theorem atX12_count_84 : rm_at tX12_count 84 = some bX12_count_84 := rfl
theorem atX12_count_91 : rm_at tX12_count 91 = some bX12_count_91 := rfl
theorem atX12_count_98 : rm_at tX12_count 98 = some bX12_count_98 := rfl
theorem atX12_count_105 : rm_at tX12_count 105 = some bX12_count_105 := rfl
theorem atX12_count_110 : rm_at tX12_count 110 = some bX12_count_110 := rfl
theorem atX12_count_118 : rm_at tX12_count 118 = some bX12_count_118 := rfl
theorem atX12_count_125 : rm_at tX12_count 125 = some bX12_count_125 := rfl
theorem atX12_count_130 : rm_at tX12_count 130 = some bX12_count_130 := rfl
theorem atX12_count_137 : rm_at tX12_count 137 = some bX12_count_137 := rfl
theorem atX12_count_145 : rm_at tX12_count 145 = some bX12_count_145 := rfl
theorem atX12_count_153 : rm_at tX12_count 153 = some bX12_count_153 := rfl
theorem atX12_count_161 : rm_at tX12_count 161 = some bX12_count_161 := rfl
theorem atX12_count_169 : rm_at tX12_count 169 = some bX12_count_169 := rfl
theorem atX12_count_194 : rm_at tX12_count 194 = some bX12_count_194 := rfl
theorem atX12_count_195 : rm_at tX12_count 195 = some bX12_count_195 := rfl
theorem atX12_count_196 : rm_at tX12_count 196 = some bX12_count_196 := rfl
theorem atX12_count_204 : rm_at tX12_count 204 = some bX12_count_204 := rfl
theorem atX12_count_209 : rm_at tX12_count 209 = some bX12_count_209 := rfl
theorem atX12_count_217 : rm_at tX12_count 217 = some bX12_count_217 := rfl
theorem atX12_count_222 : rm_at tX12_count 222 = some bX12_count_222 := rfl
def bX12_carryRow_0 : List rm_J := [
  (.nop, .iconst 0, 1, 0, 0, 0, .int 0, rm_M0, []),
  (.istore 2, .istore_n 2, 1, 0, 0, 0, .null, rm_M0, [])]
def bX12_carryRow_2 : List rm_J := [
  (.iload 2, .iload_n 2, 1, 0, 0, 0, .null, rm_M0, []),
  (.aload 1, .aload_n 1, 1, 0, 0, 0, .null, rm_M0, []),
  (.arraylength, .arraylength, 1, 0, 0, 0, .null, rm_M0, []),
  (.if_icmp .ge 53, .if_icmp .ge 53, 3, 58, 0, 0, .null, rm_M0, []),
  (.aload 0, .aload_n 0, 1, 0, 0, 0, .null, rm_M0, []),
  (.getfield 482, .getfield 482, 3, 12, 53, 1192, .null, rm_M0, []),
  (.ifCond .eq 18, .ifCond .eq 18, 3, 30, 0, 0, .null, rm_M0, []),
  (.aload 1, .aload_n 1, 1, 0, 0, 0, .null, rm_M0, []),
  (.iload 2, .iload_n 2, 1, 0, 0, 0, .null, rm_M0, []),
  (.aload 0, .aload_n 0, 1, 0, 0, 0, .null, rm_M0, []),
  (.getfield 115, .getfield 115, 3, 12, 50, 1189, .null, rm_M0, []),
  (.aload 0, .aload_n 0, 1, 0, 0, 0, .null, rm_M0, []),
  (.getfield 485, .getfield 485, 3, 12, 52, 1191, .null, rm_M0, []),
  (.iaload, .iaload, 1, 0, 0, 0, .null, rm_M0, []),
  (.iastore, .iastore, 1, 0, 0, 0, .null, rm_M0, []),
  (.goto 15, .goto 15, 3, 42, 0, 0, .null, rm_M0, [])]
def bX12_carryRow_30 : List rm_J := [
  (.aload 0, .aload_n 0, 1, 0, 0, 0, .null, rm_M0, []),
  (.getfield 115, .getfield 115, 3, 12, 50, 1189, .null, rm_M0, []),
  (.aload 0, .aload_n 0, 1, 0, 0, 0, .null, rm_M0, []),
  (.getfield 485, .getfield 485, 3, 12, 52, 1191, .null, rm_M0, []),
  (.aload 1, .aload_n 1, 1, 0, 0, 0, .null, rm_M0, []),
  (.iload 2, .iload_n 2, 1, 0, 0, 0, .null, rm_M0, []),
  (.iaload, .iaload, 1, 0, 0, 0, .null, rm_M0, []),
  (.iastore, .iastore, 1, 0, 0, 0, .null, rm_M0, [])]
def bX12_carryRow_42 : List rm_J := [
  (.aload 0, .aload_n 0, 1, 0, 0, 0, .null, rm_M0, []),
  (.dup, .dup, 1, 0, 0, 0, .null, rm_M0, []),
  (.getfield 485, .getfield 485, 3, 12, 52, 1191, .null, rm_M0, []),
  (.nop, .iconst 1, 1, 0, 0, 0, .int 1, rm_M0, []),
  (.iadd, .iadd, 1, 0, 0, 0, .null, rm_M0, []),
  (.putfield 485, .putfield 485, 3, 12, 52, 1191, .int 0, rm_M0, []),
  (.iinc 2 1, .iinc 2 1, 3, 0, 0, 0, .int 1, rm_M0, []),
  (.goto (-53), .goto (-53), 3, 2, 0, 0, .null, rm_M0, [])]
def bX12_carryRow_58 : List rm_J := [
  (.return_, .return_, 1, 0, 0, 0, .null, rm_M0, [])]
def tX12_carryRow : rm_P := [(0, bX12_carryRow_0), (2, bX12_carryRow_2), (30, bX12_carryRow_30), (42, bX12_carryRow_42), (58, bX12_carryRow_58)]
theorem ok_X12_carryRow_t : rm_okP mX12_carryRow tX12_carryRow = true := by decide +kernel
theorem ok_X12_carryRow : rm_okM mX12_carryRow tX12_carryRow := ⟨ok_X12_carryRow_t, fun _ h => absurd h List.not_mem_nil⟩
theorem atX12_carryRow_0 : rm_at tX12_carryRow 0 = some bX12_carryRow_0 := rfl
theorem atX12_carryRow_2 : rm_at tX12_carryRow 2 = some bX12_carryRow_2 := rfl
theorem atX12_carryRow_30 : rm_at tX12_carryRow 30 = some bX12_carryRow_30 := rfl
theorem atX12_carryRow_42 : rm_at tX12_carryRow 42 = some bX12_carryRow_42 := rfl
theorem atX12_carryRow_58 : rm_at tX12_carryRow 58 = some bX12_carryRow_58 := rfl
def bX12_carriesAll_0 : List rm_J := [
  (.aload 0, .aload_n 0, 1, 0, 0, 0, .null, rm_M0, []),
  (.nop, .sipush 800, 3, 0, 0, 0, .int 800, rm_M0, []),
  (.iload 1, .iload_n 1, 1, 0, 0, 0, .null, rm_M0, []),
  (.imul, .imul, 1, 0, 0, 0, .null, rm_M0, []),
  (.putfield 485, .putfield 485, 3, 12, 52, 1191, .int 0, rm_M0, []),
  (.aload 0, .aload_n 0, 1, 0, 0, 0, .null, rm_M0, []),
  (.iload 2, .iload_n 2, 1, 0, 0, 0, .null, rm_M0, []),
  (.putfield 482, .putfield 482, 3, 12, 53, 1192, .int 2, rm_M0, []),
  (.aload 0, .aload_n 0, 1, 0, 0, 0, .null, rm_M0, []),
  (.aload 0, .aload_n 0, 1, 0, 0, 0, .null, rm_M0, []),
  (.getfield 9, .getfield 9, 3, 12, 1, 1140, .null, rm_M0, []),
  (.invokevirtual 488, .invokevirtual 488, 3, 0, 1, 0, .null, mX12_carryRow, [(0, 1612), (0, 1614), (0, 84)]),
  (.aload 0, .aload_n 0, 1, 0, 0, 0, .null, rm_M0, []),
  (.aload 0, .aload_n 0, 1, 0, 0, 0, .null, rm_M0, []),
  (.getfield 13, .getfield 13, 3, 12, 2, 1141, .null, rm_M0, []),
  (.invokevirtual 488, .invokevirtual 488, 3, 0, 1, 0, .null, mX12_carryRow, [(0, 1612), (0, 1614), (0, 84)]),
  (.aload 0, .aload_n 0, 1, 0, 0, 0, .null, rm_M0, []),
  (.aload 0, .aload_n 0, 1, 0, 0, 0, .null, rm_M0, []),
  (.getfield 16, .getfield 16, 3, 12, 3, 1142, .null, rm_M0, []),
  (.invokevirtual 488, .invokevirtual 488, 3, 0, 1, 0, .null, mX12_carryRow, [(0, 1612), (0, 1614), (0, 84)]),
  (.aload 0, .aload_n 0, 1, 0, 0, 0, .null, rm_M0, []),
  (.aload 0, .aload_n 0, 1, 0, 0, 0, .null, rm_M0, []),
  (.getfield 19, .getfield 19, 3, 12, 4, 1143, .null, rm_M0, []),
  (.invokevirtual 488, .invokevirtual 488, 3, 0, 1, 0, .null, mX12_carryRow, [(0, 1612), (0, 1614), (0, 84)]),
  (.aload 0, .aload_n 0, 1, 0, 0, 0, .null, rm_M0, []),
  (.aload 0, .aload_n 0, 1, 0, 0, 0, .null, rm_M0, []),
  (.getfield 28, .getfield 28, 3, 12, 7, 1146, .null, rm_M0, []),
  (.invokevirtual 488, .invokevirtual 488, 3, 0, 1, 0, .null, mX12_carryRow, [(0, 1612), (0, 1614), (0, 84)]),
  (.iload 1, .iload_n 1, 1, 0, 0, 0, .null, rm_M0, []),
  (.nop, .iconst 4, 1, 0, 0, 0, .int 4, rm_M0, []),
  (.if_icmp .ne 4, .if_icmp .ne 4, 3, 60, 0, 0, .null, rm_M0, []),
  (.return_, .return_, 1, 0, 0, 0, .null, rm_M0, [])]
def bX12_carriesAll_60 : List rm_J := [
  (.aload 0, .aload_n 0, 1, 0, 0, 0, .null, rm_M0, []),
  (.getfield 100, .getfield 100, 3, 12, 39, 1178, .null, rm_M0, []),
  (.nop, .iconst 0, 1, 0, 0, 0, .int 0, rm_M0, []),
  (.aload 0, .aload_n 0, 1, 0, 0, 0, .null, rm_M0, []),
  (.getfield 297, .getfield 297, 3, 12, 40, 1179, .null, rm_M0, []),
  (.iastore, .iastore, 1, 0, 0, 0, .null, rm_M0, []),
  (.aload 0, .aload_n 0, 1, 0, 0, 0, .null, rm_M0, []),
  (.aload 0, .aload_n 0, 1, 0, 0, 0, .null, rm_M0, []),
  (.getfield 100, .getfield 100, 3, 12, 39, 1178, .null, rm_M0, []),
  (.invokevirtual 488, .invokevirtual 488, 3, 0, 1, 0, .null, mX12_carryRow, [(0, 1612), (0, 1614), (0, 84)]),
  (.aload 0, .aload_n 0, 1, 0, 0, 0, .null, rm_M0, []),
  (.aload 0, .aload_n 0, 1, 0, 0, 0, .null, rm_M0, []),
  (.getfield 100, .getfield 100, 3, 12, 39, 1178, .null, rm_M0, []),
  (.nop, .iconst 0, 1, 0, 0, 0, .int 0, rm_M0, []),
  (.iaload, .iaload, 1, 0, 0, 0, .null, rm_M0, []),
  (.putfield 297, .putfield 297, 3, 12, 40, 1179, .int 0, rm_M0, []),
  (.aload 0, .aload_n 0, 1, 0, 0, 0, .null, rm_M0, []),
  (.aload 0, .aload_n 0, 1, 0, 0, 0, .null, rm_M0, []),
  (.getfield 22, .getfield 22, 3, 12, 5, 1144, .null, rm_M0, []),
  (.invokevirtual 488, .invokevirtual 488, 3, 0, 1, 0, .null, mX12_carryRow, [(0, 1612), (0, 1614), (0, 84)]),
  (.aload 0, .aload_n 0, 1, 0, 0, 0, .null, rm_M0, []),
  (.aload 0, .aload_n 0, 1, 0, 0, 0, .null, rm_M0, []),
  (.getfield 25, .getfield 25, 3, 12, 6, 1145, .null, rm_M0, []),
  (.invokevirtual 488, .invokevirtual 488, 3, 0, 1, 0, .null, mX12_carryRow, [(0, 1612), (0, 1614), (0, 84)]),
  (.aload 0, .aload_n 0, 1, 0, 0, 0, .null, rm_M0, []),
  (.aload 0, .aload_n 0, 1, 0, 0, 0, .null, rm_M0, []),
  (.getfield 31, .getfield 31, 3, 12, 8, 1147, .null, rm_M0, []),
  (.invokevirtual 488, .invokevirtual 488, 3, 0, 1, 0, .null, mX12_carryRow, [(0, 1612), (0, 1614), (0, 84)]),
  (.aload 0, .aload_n 0, 1, 0, 0, 0, .null, rm_M0, []),
  (.aload 0, .aload_n 0, 1, 0, 0, 0, .null, rm_M0, []),
  (.getfield 34, .getfield 34, 3, 12, 9, 1148, .null, rm_M0, []),
  (.invokevirtual 488, .invokevirtual 488, 3, 0, 1, 0, .null, mX12_carryRow, [(0, 1612), (0, 1614), (0, 84)]),
  (.aload 0, .aload_n 0, 1, 0, 0, 0, .null, rm_M0, []),
  (.aload 0, .aload_n 0, 1, 0, 0, 0, .null, rm_M0, []),
  (.getfield 37, .getfield 37, 3, 12, 10, 1149, .null, rm_M0, []),
  (.invokevirtual 488, .invokevirtual 488, 3, 0, 1, 0, .null, mX12_carryRow, [(0, 1612), (0, 1614), (0, 84)]),
  (.aload 0, .aload_n 0, 1, 0, 0, 0, .null, rm_M0, []),
  (.aload 0, .aload_n 0, 1, 0, 0, 0, .null, rm_M0, []),
  (.getfield 40, .getfield 40, 3, 12, 11, 1150, .null, rm_M0, []),
  (.invokevirtual 488, .invokevirtual 488, 3, 0, 1, 0, .null, mX12_carryRow, [(0, 1612), (0, 1614), (0, 84)]),
  (.aload 0, .aload_n 0, 1, 0, 0, 0, .null, rm_M0, []),
  (.aload 0, .aload_n 0, 1, 0, 0, 0, .null, rm_M0, []),
  (.getfield 97, .getfield 97, 3, 12, 38, 1177, .null, rm_M0, []),
  (.invokevirtual 488, .invokevirtual 488, 3, 0, 1, 0, .null, mX12_carryRow, [(0, 1612), (0, 1614), (0, 84)]),
  (.return_, .return_, 1, 0, 0, 0, .null, rm_M0, [])]
def tX12_carriesAll : rm_P := [(0, bX12_carriesAll_0), (60, bX12_carriesAll_60)]
theorem ok_X12_carriesAll_t : rm_okP mX12_carriesAll tX12_carriesAll = true := by decide +kernel
theorem ok_X12_carriesAll : rm_okM mX12_carriesAll tX12_carriesAll := ⟨ok_X12_carriesAll_t, List.forall_mem_cons.mpr ⟨cw_X12_carryRow, List.forall_mem_cons.mpr ⟨cw_X12_carryRow, List.forall_mem_cons.mpr ⟨cw_X12_carryRow, List.forall_mem_cons.mpr ⟨cw_X12_carryRow, List.forall_mem_cons.mpr ⟨cw_X12_carryRow, List.forall_mem_cons.mpr ⟨cw_X12_carryRow, List.forall_mem_cons.mpr ⟨cw_X12_carryRow, List.forall_mem_cons.mpr ⟨cw_X12_carryRow, List.forall_mem_cons.mpr ⟨cw_X12_carryRow, List.forall_mem_cons.mpr ⟨cw_X12_carryRow, List.forall_mem_cons.mpr ⟨cw_X12_carryRow, List.forall_mem_cons.mpr ⟨cw_X12_carryRow, List.forall_mem_cons.mpr ⟨cw_X12_carryRow, fun _ h => absurd h List.not_mem_nil⟩⟩⟩⟩⟩⟩⟩⟩⟩⟩⟩⟩⟩⟩
theorem atX12_carriesAll_0 : rm_at tX12_carriesAll 0 = some bX12_carriesAll_0 := rfl
theorem atX12_carriesAll_60 : rm_at tX12_carriesAll 60 = some bX12_carriesAll_60 := rfl
def bX12_image_0 : List rm_J := [
  (.iload 1, .iload_n 1, 1, 0, 0, 0, .null, rm_M0, []),
  (.i2l, .i2l, 1, 0, 0, 0, .null, rm_M0, []),
  (.nop, .lconst 0, 1, 0, 0, 0, .long 0, rm_M0, []),
  (.nop, .ldc2_w 420, 3, 0, 0, 1603, .long 3, rm_M0, []),
  (.invokestatic 125, .invokestatic 125, 3, 0, 3, 0, .null, mX12_in, [(0, 1379), (0, 1380)]),
  (.ifCond .ne 5, .ifCond .ne 5, 3, 14, 0, 0, .null, rm_M0, []),
  (.nop, .iconst (-1), 1, 0, 0, 0, .int (-1), rm_M0, []),
  (.ireturn, .ireturn, 1, 0, 0, 0, .null, rm_M0, [])]
def bX12_image_14 : List rm_J := [
  (.aload 0, .aload_n 0, 1, 0, 0, 0, .null, rm_M0, []),
  (.getfield 118, .getfield 118, 3, 12, 51, 1190, .null, rm_M0, []),
  (.iload 1, .iload_n 1, 1, 0, 0, 0, .null, rm_M0, []),
  (.nop, .iconst 1, 1, 0, 0, 0, .int 1, rm_M0, []),
  (.bastore, .bastore, 1, 0, 0, 0, .null, rm_M0, []),
  (.aload 0, .aload_n 0, 1, 0, 0, 0, .null, rm_M0, []),
  (.iload 1, .iload_n 1, 1, 0, 0, 0, .null, rm_M0, []),
  (.nop, .iconst 0, 1, 0, 0, 0, .int 0, rm_M0, []),
  (.invokevirtual 408, .invokevirtual 408, 3, 0, 2, 0, .null, mX12_carriesAll, [(0, 1608), (0, 1610), (0, 83)]),
  (.aload 0, .aload_n 0, 1, 0, 0, 0, .null, rm_M0, []),
  (.getfield 9, .getfield 9, 3, 12, 1, 1140, .null, rm_M0, []),
  (.nop, .iconst 4, 1, 0, 0, 0, .int 4, rm_M0, []),
  (.iaload, .iaload, 1, 0, 0, 0, .null, rm_M0, []),
  (.ireturn, .ireturn, 1, 0, 0, 0, .null, rm_M0, [])]
def tX12_image : rm_P := [(0, bX12_image_0), (14, bX12_image_14)]
theorem ok_X12_image_t : rm_okP mX12_image tX12_image = true := by decide +kernel
theorem ok_X12_image : rm_okM mX12_image tX12_image := ⟨ok_X12_image_t, List.forall_mem_cons.mpr ⟨cw_X12_in, List.forall_mem_cons.mpr ⟨cw_X12_carriesAll, fun _ h => absurd h List.not_mem_nil⟩⟩⟩
theorem atX12_image_0 : rm_at tX12_image 0 = some bX12_image_0 := rfl
theorem atX12_image_14 : rm_at tX12_image 14 = some bX12_image_14 := rfl
def bX12_back_0 : List rm_J := [
  (.iload 1, .iload_n 1, 1, 0, 0, 0, .null, rm_M0, []),
  (.i2l, .i2l, 1, 0, 0, 0, .null, rm_M0, []),
  (.nop, .lconst 0, 1, 0, 0, 0, .long 0, rm_M0, []),
  (.nop, .ldc2_w 420, 3, 0, 0, 1603, .long 3, rm_M0, []),
  (.invokestatic 125, .invokestatic 125, 3, 0, 3, 0, .null, mX12_in, [(0, 1379), (0, 1380)]),
  (.ifCond .eq 12, .ifCond .eq 12, 3, 21, 0, 0, .null, rm_M0, []),
  (.aload 0, .aload_n 0, 1, 0, 0, 0, .null, rm_M0, []),
  (.getfield 118, .getfield 118, 3, 12, 51, 1190, .null, rm_M0, []),
  (.iload 1, .iload_n 1, 1, 0, 0, 0, .null, rm_M0, []),
  (.baload, .baload, 1, 0, 0, 0, .null, rm_M0, []),
  (.ifCond .ne 5, .ifCond .ne 5, 3, 23, 0, 0, .null, rm_M0, [])]
def bX12_back_21 : List rm_J := [
  (.nop, .iconst (-1), 1, 0, 0, 0, .int (-1), rm_M0, []),
  (.ireturn, .ireturn, 1, 0, 0, 0, .null, rm_M0, [])]
def bX12_back_23 : List rm_J := [
  (.aload 0, .aload_n 0, 1, 0, 0, 0, .null, rm_M0, []),
  (.iload 1, .iload_n 1, 1, 0, 0, 0, .null, rm_M0, []),
  (.nop, .iconst 1, 1, 0, 0, 0, .int 1, rm_M0, []),
  (.invokevirtual 408, .invokevirtual 408, 3, 0, 2, 0, .null, mX12_carriesAll, [(0, 1608), (0, 1610), (0, 83)]),
  (.aload 0, .aload_n 0, 1, 0, 0, 0, .null, rm_M0, []),
  (.getfield 9, .getfield 9, 3, 12, 1, 1140, .null, rm_M0, []),
  (.nop, .iconst 4, 1, 0, 0, 0, .int 4, rm_M0, []),
  (.iaload, .iaload, 1, 0, 0, 0, .null, rm_M0, []),
  (.ireturn, .ireturn, 1, 0, 0, 0, .null, rm_M0, [])]
def tX12_back : rm_P := [(0, bX12_back_0), (21, bX12_back_21), (23, bX12_back_23)]
theorem ok_X12_back_t : rm_okP mX12_back tX12_back = true := by decide +kernel
theorem ok_X12_back : rm_okM mX12_back tX12_back := ⟨ok_X12_back_t, List.forall_mem_cons.mpr ⟨cw_X12_in, List.forall_mem_cons.mpr ⟨cw_X12_carriesAll, fun _ h => absurd h List.not_mem_nil⟩⟩⟩
theorem atX12_back_0 : rm_at tX12_back 0 = some bX12_back_0 := rfl
theorem atX12_back_21 : rm_at tX12_back 21 = some bX12_back_21 := rfl
theorem atX12_back_23 : rm_at tX12_back 23 = some bX12_back_23 := rfl
