/-! Rows of Text, RuleReader, RowSearch, WakeSearch. Printed. -/
def bX4_init_0 : List rm_J := [
  (.aload 0, .aload_n 0, 1, 0, 0, 0, .null, rm_M0, []),
  (.jsr 0, .invokespecial 3, 3, 0, 0, 3, .null, rm_M0, [(0, 397), (0, 125), (0, 126)]),
  (.aload 0, .aload_n 0, 1, 0, 0, 0, .null, rm_M0, []),
  (.nop, .iconst 4, 1, 0, 0, 0, .int 4, rm_M0, []),
  (.newarray .int, .newarray .int, 2, 0, 0, 0, .null, rm_M0, [(0, 163)]),
  (.putfield 11, .putfield 11, 3, 4, 0, 402, .int 3, rm_M0, []),
  (.aload 0, .aload_n 0, 1, 0, 0, 0, .null, rm_M0, []),
  (.nop, .iconst 4, 1, 0, 0, 0, .int 4, rm_M0, []),
  (.newarray .int, .newarray .int, 2, 0, 0, 0, .null, rm_M0, [(0, 163)]),
  (.putfield 15, .putfield 15, 3, 4, 2, 406, .int 3, rm_M0, []),
  (.aload 0, .aload_n 0, 1, 0, 0, 0, .null, rm_M0, []),
  (.nop, .iconst 5, 1, 0, 0, 0, .int 5, rm_M0, []),
  (.anewarray 18, .anewarray 18, 3, 6, 0, 0, .null, rm_M0, [(0, 398)]),
  (.putfield 20, .putfield 20, 3, 4, 3, 407, .int 3, rm_M0, []),
  (.new 24, .new 24, 3, 3, 0, 0, .null, rm_M0, [(0, 399), (0, 207), (0, 102)]),
  (.dup, .dup, 1, 0, 0, 0, .null, rm_M0, []),
  (.invokespecial 26, .invokespecial 26, 3, 0, 0, 400, .null, mX3_init, [(0, 209)]),
  (.astore 1, .astore_n 1, 1, 0, 0, 0, .null, rm_M0, []),
  (.nop, .iconst 0, 1, 0, 0, 0, .int 0, rm_M0, []),
  (.istore 2, .istore_n 2, 1, 0, 0, 0, .null, rm_M0, [])]
def bX4_init_36 : List rm_J := [
  (.iload 2, .iload_n 2, 1, 0, 0, 0, .null, rm_M0, []),
  (.nop, .iconst 4, 1, 0, 0, 0, .int 4, rm_M0, []),
  (.if_icmp .gt 23, .if_icmp .gt 23, 3, 61, 0, 0, .null, rm_M0, []),
  (.aload 0, .aload_n 0, 1, 0, 0, 0, .null, rm_M0, []),
  (.getfield 20, .getfield 20, 3, 4, 3, 407, .null, rm_M0, []),
  (.iload 2, .iload_n 2, 1, 0, 0, 0, .null, rm_M0, []),
  (.new 18, .new 18, 3, 7, 0, 0, .null, rm_M0, [(0, 398), (0, 257), (0, 103)]),
  (.dup, .dup, 1, 0, 0, 0, .null, rm_M0, []),
  (.aload 1, .aload_n 1, 1, 0, 0, 0, .null, rm_M0, []),
  (.invokespecial 27, .invokespecial 27, 3, 0, 1, 401, .null, mX7_init, [(0, 259)]),
  (.aastore, .aastore, 1, 0, 0, 0, .null, rm_M0, []),
  (.iinc 2 1, .iinc 2 1, 3, 0, 0, 0, .int 1, rm_M0, []),
  (.goto (-22), .goto (-22), 3, 36, 0, 0, .null, rm_M0, [])]
def bX4_init_61 : List rm_J := [
  (.return_, .return_, 1, 0, 0, 0, .null, rm_M0, [])]
def tX4_init : rm_P := [(0, bX4_init_0), (36, bX4_init_36), (61, bX4_init_61)]
theorem ok_X4_init_t : rm_okP mX4_init tX4_init = true := by decide +kernel
theorem ok_X4_init : rm_okM mX4_init tX4_init := ⟨ok_X4_init_t, List.forall_mem_cons.mpr ⟨cw_X3_init, List.forall_mem_cons.mpr ⟨cw_X7_init, fun _ h => absurd h List.not_mem_nil⟩⟩⟩
theorem atX4_init_0 : rm_at tX4_init 0 = some bX4_init_0 := rfl
theorem atX4_init_36 : rm_at tX4_init 36 = some bX4_init_36 := rfl
theorem atX4_init_61 : rm_at tX4_init 61 = some bX4_init_61 := rfl
def bX4_find_0 : List rm_J := [
  (.aload 0, .aload_n 0, 1, 0, 0, 0, .null, rm_M0, []),
  (.nop, .iconst 0, 1, 0, 0, 0, .int 0, rm_M0, []),
  (.putfield 30, .putfield 30, 3, 4, 4, 408, .int 2, rm_M0, []),
  (.aload 0, .aload_n 0, 1, 0, 0, 0, .null, rm_M0, []),
  (.getfield 20, .getfield 20, 3, 4, 3, 407, .null, rm_M0, []),
  (.nop, .iconst 0, 1, 0, 0, 0, .int 0, rm_M0, []),
  (.aaload, .aaload, 1, 0, 0, 0, .null, rm_M0, []),
  (.aload 1, .aload_n 1, 1, 0, 0, 0, .null, rm_M0, []),
  (.invokevirtual 34, .invokevirtual 34, 3, 0, 1, 0, .null, mX7_copyFrom, [(0, 957), (0, 820), (0, 821)]),
  (.aload 0, .aload_n 0, 1, 0, 0, 0, .null, rm_M0, []),
  (.nop, .iconst 0, 1, 0, 0, 0, .int 0, rm_M0, []),
  (.iload 2, .iload_n 2, 1, 0, 0, 0, .null, rm_M0, []),
  (.invokevirtual 38, .invokevirtual 38, 3, 0, 2, 0, .null, mX4_tryFrom, [(0, 958), (0, 960), (0, 26)]),
  (.return_, .return_, 1, 0, 0, 0, .null, rm_M0, [])]
def tX4_find : rm_P := [(0, bX4_find_0)]
theorem ok_X4_find_t : rm_okP mX4_find tX4_find = true := by decide +kernel
theorem ok_X4_find : rm_okM mX4_find tX4_find := ⟨ok_X4_find_t, List.forall_mem_cons.mpr ⟨cw_X7_copyFrom, List.forall_mem_cons.mpr ⟨cw_X4_tryFrom, fun _ h => absurd h List.not_mem_nil⟩⟩⟩
theorem atX4_find_0 : rm_at tX4_find 0 = some bX4_find_0 := rfl
def bX4_tryFrom_0 : List rm_J := [
  (.iload 1, .iload_n 1, 1, 0, 0, 0, .null, rm_M0, []),
  (.iload 2, .iload_n 2, 1, 0, 0, 0, .null, rm_M0, []),
  (.if_icmp .ge 8, .if_icmp .ge 8, 3, 10, 0, 0, .null, rm_M0, []),
  (.iload 1, .iload_n 1, 1, 0, 0, 0, .null, rm_M0, []),
  (.nop, .iconst 4, 1, 0, 0, 0, .int 4, rm_M0, []),
  (.if_icmp .lt 17, .if_icmp .lt 17, 3, 24, 0, 0, .null, rm_M0, [])]
def bX4_tryFrom_10 : List rm_J := [
  (.aload 0, .aload_n 0, 1, 0, 0, 0, .null, rm_M0, []),
  (.aload 0, .aload_n 0, 1, 0, 0, 0, .null, rm_M0, []),
  (.getfield 20, .getfield 20, 3, 4, 3, 407, .null, rm_M0, []),
  (.iload 1, .iload_n 1, 1, 0, 0, 0, .null, rm_M0, []),
  (.aaload, .aaload, 1, 0, 0, 0, .null, rm_M0, []),
  (.invokevirtual 42, .invokevirtual 42, 3, 0, 0, 0, .null, mX7_balance, [(0, 962), (0, 963), (0, 964)]),
  (.invokevirtual 46, .invokevirtual 46, 3, 0, 1, 0, .null, mX4_keepIfBetter, [(0, 966), (0, 968), (0, 27)]),
  (.return_, .return_, 1, 0, 0, 0, .null, rm_M0, [])]
def bX4_tryFrom_24 : List rm_J := [
  (.aload 0, .aload_n 0, 1, 0, 0, 0, .null, rm_M0, []),
  (.getfield 20, .getfield 20, 3, 4, 3, 407, .null, rm_M0, []),
  (.iload 1, .iload_n 1, 1, 0, 0, 0, .null, rm_M0, []),
  (.aaload, .aaload, 1, 0, 0, 0, .null, rm_M0, []),
  (.invokevirtual 50, .invokevirtual 50, 3, 0, 0, 0, .null, mX7_isDayWasted, [(0, 971), (0, 841), (0, 842)]),
  (.istore 3, .istore_n 3, 1, 0, 0, 0, .null, rm_M0, []),
  (.iload 3, .iload_n 3, 1, 0, 0, 0, .null, rm_M0, []),
  (.ifCond .eq 7, .ifCond .eq 7, 3, 42, 0, 0, .null, rm_M0, []),
  (.nop, .iconst 0, 1, 0, 0, 0, .int 0, rm_M0, []),
  (.goto 12, .goto 12, 3, 51, 0, 0, .null, rm_M0, [])]
def bX4_tryFrom_42 : List rm_J := [
  (.aload 0, .aload_n 0, 1, 0, 0, 0, .null, rm_M0, []),
  (.getfield 20, .getfield 20, 3, 4, 3, 407, .null, rm_M0, []),
  (.iload 1, .iload_n 1, 1, 0, 0, 0, .null, rm_M0, []),
  (.aaload, .aaload, 1, 0, 0, 0, .null, rm_M0, []),
  (.invokevirtual 54, .invokevirtual 54, 3, 0, 0, 0, .null, mX7_openSet, [(0, 972), (0, 799), (0, 800)])]
def bX4_tryFrom_51 : List rm_J := [
  (.istore 4, .istore 4, 2, 0, 0, 0, .null, rm_M0, []),
  (.nop, .iconst (-1), 1, 0, 0, 0, .int (-1), rm_M0, []),
  (.istore 5, .istore 5, 2, 0, 0, 0, .null, rm_M0, [])]
def bX4_tryFrom_56 : List rm_J := [
  (.iload 5, .iload 5, 2, 0, 0, 0, .null, rm_M0, []),
  (.nop, .bipush 8, 2, 0, 0, 0, .int 8, rm_M0, []),
  (.if_icmp .ge 78, .if_icmp .ge 78, 3, 138, 0, 0, .null, rm_M0, []),
  (.iload 5, .iload 5, 2, 0, 0, 0, .null, rm_M0, []),
  (.nop, .iconst (-1), 1, 0, 0, 0, .int (-1), rm_M0, []),
  (.if_icmp .eq 13, .if_icmp .eq 13, 3, 79, 0, 0, .null, rm_M0, []),
  (.iload 4, .iload 4, 2, 0, 0, 0, .null, rm_M0, []),
  (.iload 5, .iload 5, 2, 0, 0, 0, .null, rm_M0, []),
  (.ishr, .ishr, 1, 0, 0, 0, .null, rm_M0, []),
  (.nop, .iconst 1, 1, 0, 0, 0, .int 1, rm_M0, []),
  (.iand, .iand, 1, 0, 0, 0, .null, rm_M0, []),
  (.ifCond .eq 56, .ifCond .eq 56, 3, 132, 0, 0, .null, rm_M0, [])]
def bX4_tryFrom_79 : List rm_J := [
  (.aload 0, .aload_n 0, 1, 0, 0, 0, .null, rm_M0, []),
  (.getfield 15, .getfield 15, 3, 4, 2, 406, .null, rm_M0, []),
  (.iload 1, .iload_n 1, 1, 0, 0, 0, .null, rm_M0, []),
  (.iload 5, .iload 5, 2, 0, 0, 0, .null, rm_M0, []),
  (.iastore, .iastore, 1, 0, 0, 0, .null, rm_M0, []),
  (.aload 0, .aload_n 0, 1, 0, 0, 0, .null, rm_M0, []),
  (.getfield 20, .getfield 20, 3, 4, 3, 407, .null, rm_M0, []),
  (.iload 1, .iload_n 1, 1, 0, 0, 0, .null, rm_M0, []),
  (.nop, .iconst 1, 1, 0, 0, 0, .int 1, rm_M0, []),
  (.iadd, .iadd, 1, 0, 0, 0, .null, rm_M0, []),
  (.aaload, .aaload, 1, 0, 0, 0, .null, rm_M0, []),
  (.astore 6, .astore 6, 2, 0, 0, 0, .null, rm_M0, []),
  (.aload 6, .aload 6, 2, 0, 0, 0, .null, rm_M0, []),
  (.aload 0, .aload_n 0, 1, 0, 0, 0, .null, rm_M0, []),
  (.getfield 20, .getfield 20, 3, 4, 3, 407, .null, rm_M0, []),
  (.iload 1, .iload_n 1, 1, 0, 0, 0, .null, rm_M0, []),
  (.aaload, .aaload, 1, 0, 0, 0, .null, rm_M0, []),
  (.invokevirtual 34, .invokevirtual 34, 3, 0, 1, 0, .null, mX7_copyFrom, [(0, 957), (0, 820), (0, 821)]),
  (.iload 3, .iload_n 3, 1, 0, 0, 0, .null, rm_M0, []),
  (.ifCond .ne 10, .ifCond .ne 10, 3, 119, 0, 0, .null, rm_M0, []),
  (.aload 6, .aload 6, 2, 0, 0, 0, .null, rm_M0, []),
  (.iload 5, .iload 5, 2, 0, 0, 0, .null, rm_M0, []),
  (.invokevirtual 57, .invokevirtual 57, 3, 0, 1, 0, .null, mX7_decide, [(0, 973), (0, 879), (0, 880)])]
def bX4_tryFrom_119 : List rm_J := [
  (.aload 6, .aload 6, 2, 0, 0, 0, .null, rm_M0, []),
  (.invokevirtual 60, .invokevirtual 60, 3, 0, 0, 0, .null, mX7_endDay, [(0, 974), (0, 890), (0, 891)]),
  (.aload 0, .aload_n 0, 1, 0, 0, 0, .null, rm_M0, []),
  (.iload 1, .iload_n 1, 1, 0, 0, 0, .null, rm_M0, []),
  (.nop, .iconst 1, 1, 0, 0, 0, .int 1, rm_M0, []),
  (.iadd, .iadd, 1, 0, 0, 0, .null, rm_M0, []),
  (.iload 2, .iload_n 2, 1, 0, 0, 0, .null, rm_M0, []),
  (.invokevirtual 38, .invokevirtual 38, 3, 0, 2, 0, .null, mX4_tryFrom, [(0, 958), (0, 960), (0, 26)])]
def bX4_tryFrom_132 : List rm_J := [
  (.iinc 5 1, .iinc 5 1, 3, 0, 0, 0, .int 1, rm_M0, []),
  (.goto (-79), .goto (-79), 3, 56, 0, 0, .null, rm_M0, [])]
def bX4_tryFrom_138 : List rm_J := [
  (.return_, .return_, 1, 0, 0, 0, .null, rm_M0, [])]
def tX4_tryFrom : rm_P := [(0, bX4_tryFrom_0), (10, bX4_tryFrom_10), (24, bX4_tryFrom_24), (42, bX4_tryFrom_42), (51, bX4_tryFrom_51), (56, bX4_tryFrom_56), (79, bX4_tryFrom_79), (119, bX4_tryFrom_119), (132, bX4_tryFrom_132), (138, bX4_tryFrom_138)]
theorem ok_X4_tryFrom_t : rm_okP mX4_tryFrom tX4_tryFrom = true := by decide +kernel
theorem ok_X4_tryFrom : rm_okM mX4_tryFrom tX4_tryFrom := ⟨ok_X4_tryFrom_t, List.forall_mem_cons.mpr ⟨cw_X7_balance, List.forall_mem_cons.mpr ⟨cw_X4_keepIfBetter, List.forall_mem_cons.mpr ⟨cw_X7_isDayWasted, List.forall_mem_cons.mpr ⟨cw_X7_openSet, List.forall_mem_cons.mpr ⟨cw_X7_copyFrom, List.forall_mem_cons.mpr ⟨cw_X7_decide, List.forall_mem_cons.mpr ⟨cw_X7_endDay, List.forall_mem_cons.mpr ⟨cw_X4_tryFrom, fun _ h => absurd h List.not_mem_nil⟩⟩⟩⟩⟩⟩⟩⟩⟩
theorem atX4_tryFrom_0 : rm_at tX4_tryFrom 0 = some bX4_tryFrom_0 := rfl
theorem atX4_tryFrom_10 : rm_at tX4_tryFrom 10 = some bX4_tryFrom_10 := rfl
theorem atX4_tryFrom_24 : rm_at tX4_tryFrom 24 = some bX4_tryFrom_24 := rfl
theorem atX4_tryFrom_42 : rm_at tX4_tryFrom 42 = some bX4_tryFrom_42 := rfl
theorem atX4_tryFrom_51 : rm_at tX4_tryFrom 51 = some bX4_tryFrom_51 := rfl
theorem atX4_tryFrom_56 : rm_at tX4_tryFrom 56 = some bX4_tryFrom_56 := rfl
theorem atX4_tryFrom_79 : rm_at tX4_tryFrom 79 = some bX4_tryFrom_79 := rfl
theorem atX4_tryFrom_119 : rm_at tX4_tryFrom 119 = some bX4_tryFrom_119 := rfl
theorem atX4_tryFrom_132 : rm_at tX4_tryFrom 132 = some bX4_tryFrom_132 := rfl
theorem atX4_tryFrom_138 : rm_at tX4_tryFrom 138 = some bX4_tryFrom_138 := rfl
def bX4_keepIfBetter_0 : List rm_J := [
  (.aload 0, .aload_n 0, 1, 0, 0, 0, .null, rm_M0, []),
  (.getfield 30, .getfield 30, 3, 4, 4, 408, .null, rm_M0, []),
  (.ifCond .eq 11, .ifCond .eq 11, 3, 15, 0, 0, .null, rm_M0, []),
  (.iload 1, .iload_n 1, 1, 0, 0, 0, .null, rm_M0, []),
  (.aload 0, .aload_n 0, 1, 0, 0, 0, .null, rm_M0, []),
  (.getfield 63, .getfield 63, 3, 4, 1, 404, .null, rm_M0, []),
  (.if_icmp .le 27, .if_icmp .le 27, 3, 39, 0, 0, .null, rm_M0, [])]
def bX4_keepIfBetter_15 : List rm_J := [
  (.aload 0, .aload_n 0, 1, 0, 0, 0, .null, rm_M0, []),
  (.nop, .iconst 1, 1, 0, 0, 0, .int 1, rm_M0, []),
  (.putfield 30, .putfield 30, 3, 4, 4, 408, .int 2, rm_M0, []),
  (.aload 0, .aload_n 0, 1, 0, 0, 0, .null, rm_M0, []),
  (.iload 1, .iload_n 1, 1, 0, 0, 0, .null, rm_M0, []),
  (.putfield 63, .putfield 63, 3, 4, 1, 404, .int 0, rm_M0, []),
  (.aload 0, .aload_n 0, 1, 0, 0, 0, .null, rm_M0, []),
  (.getfield 15, .getfield 15, 3, 4, 2, 406, .null, rm_M0, []),
  (.nop, .iconst 0, 1, 0, 0, 0, .int 0, rm_M0, []),
  (.aload 0, .aload_n 0, 1, 0, 0, 0, .null, rm_M0, []),
  (.getfield 11, .getfield 11, 3, 4, 0, 402, .null, rm_M0, []),
  (.nop, .iconst 0, 1, 0, 0, 0, .int 0, rm_M0, []),
  (.nop, .iconst 4, 1, 0, 0, 0, .int 4, rm_M0, []),
  (.jsr_w 0, .invokestatic 67, 3, 0, 0, 67, .null, rm_M0, [(0, 970), (0, 701), (0, 700), (0, 115)])]
def bX4_keepIfBetter_39 : List rm_J := [
  (.return_, .return_, 1, 0, 0, 0, .null, rm_M0, [])]
def tX4_keepIfBetter : rm_P := [(0, bX4_keepIfBetter_0), (15, bX4_keepIfBetter_15), (39, bX4_keepIfBetter_39)]
theorem ok_X4_keepIfBetter_t : rm_okP mX4_keepIfBetter tX4_keepIfBetter = true := by decide +kernel
theorem ok_X4_keepIfBetter : rm_okM mX4_keepIfBetter tX4_keepIfBetter := ⟨ok_X4_keepIfBetter_t, fun _ h => absurd h List.not_mem_nil⟩
theorem atX4_keepIfBetter_0 : rm_at tX4_keepIfBetter 0 = some bX4_keepIfBetter_0 := rfl
theorem atX4_keepIfBetter_15 : rm_at tX4_keepIfBetter 15 = some bX4_keepIfBetter_15 := rfl
theorem atX4_keepIfBetter_39 : rm_at tX4_keepIfBetter 39 = some bX4_keepIfBetter_39 := rfl
def bX6_init_0 : List rm_J := [
  (.aload 0, .aload_n 0, 1, 0, 0, 0, .null, rm_M0, []),
  (.jsr 0, .invokespecial 1, 3, 0, 0, 1, .null, rm_M0, [(0, 169), (0, 125), (0, 126)]),
  (.aload 0, .aload_n 0, 1, 0, 0, 0, .null, rm_M0, []),
  (.nop, .sipush 400, 3, 0, 0, 0, .int 400, rm_M0, []),
  (.newarray .int, .newarray .int, 2, 0, 0, 0, .null, rm_M0, [(0, 163)]),
  (.putfield 9, .putfield 9, 3, 6, 0, 170, .int 3, rm_M0, []),
  (.return_, .return_, 1, 0, 0, 0, .null, rm_M0, [])]
def tX6_init : rm_P := [(0, bX6_init_0)]
theorem ok_X6_init_t : rm_okP mX6_init tX6_init = true := by decide +kernel
theorem ok_X6_init : rm_okM mX6_init tX6_init := ⟨ok_X6_init_t, fun _ h => absurd h List.not_mem_nil⟩
theorem atX6_init_0 : rm_at tX6_init 0 = some bX6_init_0 := rfl
def bX6_read_0 : List rm_J := [
  (.aload 0, .aload_n 0, 1, 0, 0, 0, .null, rm_M0, []),
  (.nop, .iconst 0, 1, 0, 0, 0, .int 0, rm_M0, []),
  (.putfield 15, .putfield 15, 3, 6, 1, 171, .int 0, rm_M0, []),
  (.aload 0, .aload_n 0, 1, 0, 0, 0, .null, rm_M0, []),
  (.nop, .iconst 0, 1, 0, 0, 0, .int 0, rm_M0, []),
  (.putfield 19, .putfield 19, 3, 6, 2, 172, .int 0, rm_M0, []),
  (.nop, .iconst 1, 1, 0, 0, 0, .int 1, rm_M0, []),
  (.istore 2, .istore_n 2, 1, 0, 0, 0, .null, rm_M0, []),
  (.nop, .iconst 0, 1, 0, 0, 0, .int 0, rm_M0, []),
  (.istore 3, .istore_n 3, 1, 0, 0, 0, .null, rm_M0, [])]
def bX6_read_14 : List rm_J := [
  (.iload 2, .iload_n 2, 1, 0, 0, 0, .null, rm_M0, []),
  (.ifCond .eq 101, .ifCond .eq 101, 3, 116, 0, 0, .null, rm_M0, []),
  (.iload 3, .iload_n 3, 1, 0, 0, 0, .null, rm_M0, []),
  (.nop, .bipush 12, 2, 0, 0, 0, .int 12, rm_M0, []),
  (.if_icmp .gt 95, .if_icmp .gt 95, 3, 116, 0, 0, .null, rm_M0, []),
  (.aload 1, .aload_n 1, 1, 0, 0, 0, .null, rm_M0, []),
  (.invokevirtual 22, .invokevirtual 22, 3, 0, 0, 0, .null, mX8_token, [(0, 710), (0, 658), (0, 659)]),
  (.nop, .bipush 16, 2, 0, 0, 0, .int 16, rm_M0, []),
  (.if_icmp .eq 11, .if_icmp .eq 11, 3, 41, 0, 0, .null, rm_M0, []),
  (.aload 1, .aload_n 1, 1, 0, 0, 0, .null, rm_M0, []),
  (.nop, .iconst 0, 1, 0, 0, 0, .int 0, rm_M0, []),
  (.invokevirtual 26, .invokevirtual 26, 3, 0, 1, 0, .null, mX8_fail, [(0, 711), (0, 662), (0, 663)]),
  (.goto 67, .goto 67, 3, 105, 0, 0, .null, rm_M0, [])]
def bX6_read_41 : List rm_J := [
  (.iload 3, .iload_n 3, 1, 0, 0, 0, .null, rm_M0, []),
  (.nop, .bipush 12, 2, 0, 0, 0, .int 12, rm_M0, []),
  (.if_icmp .lt 11, .if_icmp .lt 11, 3, 55, 0, 0, .null, rm_M0, []),
  (.aload 1, .aload_n 1, 1, 0, 0, 0, .null, rm_M0, []),
  (.nop, .iconst 4, 1, 0, 0, 0, .int 4, rm_M0, []),
  (.invokevirtual 26, .invokevirtual 26, 3, 0, 1, 0, .null, mX8_fail, [(0, 711), (0, 662), (0, 663)]),
  (.goto 53, .goto 53, 3, 105, 0, 0, .null, rm_M0, [])]
def bX6_read_55 : List rm_J := [
  (.aload 1, .aload_n 1, 1, 0, 0, 0, .null, rm_M0, []),
  (.invokevirtual 30, .invokevirtual 30, 3, 0, 0, 0, .null, mX8_step, [(0, 712), (0, 666), (0, 667)]),
  (.aload 0, .aload_n 0, 1, 0, 0, 0, .null, rm_M0, []),
  (.aload 1, .aload_n 1, 1, 0, 0, 0, .null, rm_M0, []),
  (.invokevirtual 33, .invokevirtual 33, 3, 0, 1, 0, .null, mX6_readSum, [(0, 713), (0, 715), (0, 11)]),
  (.aload 1, .aload_n 1, 1, 0, 0, 0, .null, rm_M0, []),
  (.invokevirtual 22, .invokevirtual 22, 3, 0, 0, 0, .null, mX8_token, [(0, 710), (0, 658), (0, 659)]),
  (.nop, .bipush 17, 2, 0, 0, 0, .int 17, rm_M0, []),
  (.if_icmp .ne 8, .if_icmp .ne 8, 3, 78, 0, 0, .null, rm_M0, []),
  (.nop, .bipush 17, 2, 0, 0, 0, .int 17, rm_M0, []),
  (.goto 5, .goto 5, 3, 80, 0, 0, .null, rm_M0, [])]
def bX6_read_78 : List rm_J := [
  (.nop, .bipush 16, 2, 0, 0, 0, .int 16, rm_M0, [])]
def bX6_read_80 : List rm_J := [
  (.istore 4, .istore 4, 2, 0, 0, 0, .null, rm_M0, []),
  (.iload 4, .iload 4, 2, 0, 0, 0, .null, rm_M0, []),
  (.nop, .bipush 17, 2, 0, 0, 0, .int 17, rm_M0, []),
  (.if_icmp .ne 13, .if_icmp .ne 13, 3, 99, 0, 0, .null, rm_M0, []),
  (.aload 1, .aload_n 1, 1, 0, 0, 0, .null, rm_M0, []),
  (.invokevirtual 30, .invokevirtual 30, 3, 0, 0, 0, .null, mX8_step, [(0, 712), (0, 666), (0, 667)]),
  (.aload 0, .aload_n 0, 1, 0, 0, 0, .null, rm_M0, []),
  (.aload 1, .aload_n 1, 1, 0, 0, 0, .null, rm_M0, []),
  (.nop, .iconst 0, 1, 0, 0, 0, .int 0, rm_M0, []),
  (.invokevirtual 37, .invokevirtual 37, 3, 0, 2, 0, .null, mX6_readTest, [(0, 733), (0, 735), (0, 15)])]
def bX6_read_99 : List rm_J := [
  (.aload 0, .aload_n 0, 1, 0, 0, 0, .null, rm_M0, []),
  (.iload 4, .iload 4, 2, 0, 0, 0, .null, rm_M0, []),
  (.invokevirtual 41, .invokevirtual 41, 3, 0, 1, 0, .null, mX6_addToken, [(0, 729), (0, 731), (0, 14)])]
def bX6_read_105 : List rm_J := [
  (.aload 1, .aload_n 1, 1, 0, 0, 0, .null, rm_M0, []),
  (.invokevirtual 44, .invokevirtual 44, 3, 0, 0, 0, .null, mX8_goesOn, [(0, 745), (0, 688), (0, 689)]),
  (.istore 2, .istore_n 2, 1, 0, 0, 0, .null, rm_M0, []),
  (.iinc 3 1, .iinc 3 1, 3, 0, 0, 0, .int 1, rm_M0, []),
  (.goto (-99), .goto (-99), 3, 14, 0, 0, .null, rm_M0, [])]
def bX6_read_116 : List rm_J := [
  (.aload 1, .aload_n 1, 1, 0, 0, 0, .null, rm_M0, []),
  (.getfield 48, .getfield 48, 3, 8, 2, 136, .null, rm_M0, []),
  (.ifCond .ne 24, .ifCond .ne 24, 3, 144, 0, 0, .null, rm_M0, []),
  (.new 51, .new 51, 3, 5, 0, 0, .null, rm_M0, [(0, 746), (0, 747), (0, 116)]),
  (.dup, .dup, 1, 0, 0, 0, .null, rm_M0, []),
  (.aload 0, .aload_n 0, 1, 0, 0, 0, .null, rm_M0, []),
  (.getfield 9, .getfield 9, 3, 6, 0, 170, .null, rm_M0, []),
  (.aload 0, .aload_n 0, 1, 0, 0, 0, .null, rm_M0, []),
  (.getfield 15, .getfield 15, 3, 6, 1, 171, .null, rm_M0, []),
  (.invokestatic 53, .invokestatic 53, 3, 0, 2, 0, .null, mJ7_copyOf_59c91, [(0, 748), (0, 749)]),
  (.invokespecial 59, .invokespecial 59, 3, 0, 1, 760, .null, mX5_init, [(0, 761)]),
  (.goto 4, .goto 4, 3, 145, 0, 0, .null, rm_M0, [])]
def bX6_read_144 : List rm_J := [
  (.nop, .aconst_null, 1, 0, 0, 0, .null, rm_M0, [])]
def bX6_read_145 : List rm_J := [
  (.areturn, .areturn, 1, 0, 0, 0, .null, rm_M0, [])]
def tX6_read : rm_P := [(0, bX6_read_0), (14, bX6_read_14), (41, bX6_read_41), (55, bX6_read_55), (78, bX6_read_78), (80, bX6_read_80), (99, bX6_read_99), (105, bX6_read_105), (116, bX6_read_116), (144, bX6_read_144), (145, bX6_read_145)]
theorem ok_X6_read_t : rm_okP mX6_read tX6_read = true := by decide +kernel
theorem ok_X6_read : rm_okM mX6_read tX6_read := ⟨ok_X6_read_t, List.forall_mem_cons.mpr ⟨cw_X8_token, List.forall_mem_cons.mpr ⟨cw_X8_fail, List.forall_mem_cons.mpr ⟨cw_X8_fail, List.forall_mem_cons.mpr ⟨cw_X8_step, List.forall_mem_cons.mpr ⟨cw_X6_readSum, List.forall_mem_cons.mpr ⟨cw_X8_token, List.forall_mem_cons.mpr ⟨cw_X8_step, List.forall_mem_cons.mpr ⟨cw_X6_readTest, List.forall_mem_cons.mpr ⟨cw_X6_addToken, List.forall_mem_cons.mpr ⟨cw_X8_goesOn, List.forall_mem_cons.mpr ⟨cw_J7_copyOf_59c91, List.forall_mem_cons.mpr ⟨cw_X5_init, fun _ h => absurd h List.not_mem_nil⟩⟩⟩⟩⟩⟩⟩⟩⟩⟩⟩⟩⟩
theorem atX6_read_0 : rm_at tX6_read 0 = some bX6_read_0 := rfl
theorem atX6_read_14 : rm_at tX6_read 14 = some bX6_read_14 := rfl
theorem atX6_read_41 : rm_at tX6_read 41 = some bX6_read_41 := rfl
theorem atX6_read_55 : rm_at tX6_read 55 = some bX6_read_55 := rfl
theorem atX6_read_78 : rm_at tX6_read 78 = some bX6_read_78 := rfl
theorem atX6_read_80 : rm_at tX6_read 80 = some bX6_read_80 := rfl
theorem atX6_read_99 : rm_at tX6_read 99 = some bX6_read_99 := rfl
theorem atX6_read_105 : rm_at tX6_read 105 = some bX6_read_105 := rfl
theorem atX6_read_116 : rm_at tX6_read 116 = some bX6_read_116 := rfl
theorem atX6_read_144 : rm_at tX6_read 144 = some bX6_read_144 := rfl
theorem atX6_read_145 : rm_at tX6_read 145 = some bX6_read_145 := rfl
def bX6_readTest_0 : List rm_J := [
  (.aload 0, .aload_n 0, 1, 0, 0, 0, .null, rm_M0, []),
  (.aload 1, .aload_n 1, 1, 0, 0, 0, .null, rm_M0, []),
  (.iload 2, .iload_n 2, 1, 0, 0, 0, .null, rm_M0, []),
  (.invokevirtual 62, .invokevirtual 62, 3, 0, 2, 0, .null, mX6_readFact, [(0, 737), (0, 739), (0, 16)]),
  (.nop, .iconst 0, 1, 0, 0, 0, .int 0, rm_M0, []),
  (.istore 3, .istore_n 3, 1, 0, 0, 0, .null, rm_M0, []),
  (.nop, .iconst 0, 1, 0, 0, 0, .int 0, rm_M0, []),
  (.istore 4, .istore 4, 2, 0, 0, 0, .null, rm_M0, [])]
def bX6_readTest_11 : List rm_J := [
  (.iload 4, .iload 4, 2, 0, 0, 0, .null, rm_M0, []),
  (.nop, .sipush 400, 3, 0, 0, 0, .int 400, rm_M0, []),
  (.if_icmp .ge 94, .if_icmp .ge 94, 3, 110, 0, 0, .null, rm_M0, []),
  (.aload 1, .aload_n 1, 1, 0, 0, 0, .null, rm_M0, []),
  (.getfield 48, .getfield 48, 3, 8, 2, 136, .null, rm_M0, []),
  (.ifCond .ne 87, .ifCond .ne 87, 3, 110, 0, 0, .null, rm_M0, []),
  (.aload 1, .aload_n 1, 1, 0, 0, 0, .null, rm_M0, []),
  (.invokevirtual 22, .invokevirtual 22, 3, 0, 0, 0, .null, mX8_token, [(0, 710), (0, 658), (0, 659)]),
  (.istore 5, .istore 5, 2, 0, 0, 0, .null, rm_M0, []),
  (.iload 5, .iload 5, 2, 0, 0, 0, .null, rm_M0, []),
  (.nop, .bipush 18, 2, 0, 0, 0, .int 18, rm_M0, []),
  (.if_icmp .eq 13, .if_icmp .eq 13, 3, 49, 0, 0, .null, rm_M0, []),
  (.iload 5, .iload 5, 2, 0, 0, 0, .null, rm_M0, []),
  (.nop, .bipush 19, 2, 0, 0, 0, .int 19, rm_M0, []),
  (.if_icmp .eq 6, .if_icmp .eq 6, 3, 49, 0, 0, .null, rm_M0, []),
  (.goto 64, .goto 64, 3, 110, 0, 0, .null, rm_M0, [])]
def bX6_readTest_49 : List rm_J := [
  (.iload 5, .iload 5, 2, 0, 0, 0, .null, rm_M0, []),
  (.nop, .bipush 19, 2, 0, 0, 0, .int 19, rm_M0, []),
  (.if_icmp .ne 13, .if_icmp .ne 13, 3, 66, 0, 0, .null, rm_M0, []),
  (.iload 3, .iload_n 3, 1, 0, 0, 0, .null, rm_M0, []),
  (.ifCond .eq 9, .ifCond .eq 9, 3, 66, 0, 0, .null, rm_M0, []),
  (.aload 0, .aload_n 0, 1, 0, 0, 0, .null, rm_M0, []),
  (.nop, .bipush 19, 2, 0, 0, 0, .int 19, rm_M0, []),
  (.invokevirtual 41, .invokevirtual 41, 3, 0, 1, 0, .null, mX6_addToken, [(0, 729), (0, 731), (0, 14)])]
def bX6_readTest_66 : List rm_J := [
  (.iload 3, .iload_n 3, 1, 0, 0, 0, .null, rm_M0, []),
  (.iload 5, .iload 5, 2, 0, 0, 0, .null, rm_M0, []),
  (.nop, .bipush 19, 2, 0, 0, 0, .int 19, rm_M0, []),
  (.if_icmp .ne 7, .if_icmp .ne 7, 3, 78, 0, 0, .null, rm_M0, []),
  (.nop, .iconst 1, 1, 0, 0, 0, .int 1, rm_M0, []),
  (.goto 4, .goto 4, 3, 79, 0, 0, .null, rm_M0, [])]
def bX6_readTest_78 : List rm_J := [
  (.nop, .iconst 0, 1, 0, 0, 0, .int 0, rm_M0, [])]
def bX6_readTest_79 : List rm_J := [
  (.ior, .ior, 1, 0, 0, 0, .null, rm_M0, []),
  (.istore 3, .istore_n 3, 1, 0, 0, 0, .null, rm_M0, []),
  (.aload 1, .aload_n 1, 1, 0, 0, 0, .null, rm_M0, []),
  (.invokevirtual 30, .invokevirtual 30, 3, 0, 0, 0, .null, mX8_step, [(0, 712), (0, 666), (0, 667)]),
  (.aload 0, .aload_n 0, 1, 0, 0, 0, .null, rm_M0, []),
  (.aload 1, .aload_n 1, 1, 0, 0, 0, .null, rm_M0, []),
  (.iload 2, .iload_n 2, 1, 0, 0, 0, .null, rm_M0, []),
  (.invokevirtual 62, .invokevirtual 62, 3, 0, 2, 0, .null, mX6_readFact, [(0, 737), (0, 739), (0, 16)]),
  (.iload 5, .iload 5, 2, 0, 0, 0, .null, rm_M0, []),
  (.nop, .bipush 18, 2, 0, 0, 0, .int 18, rm_M0, []),
  (.if_icmp .ne 9, .if_icmp .ne 9, 3, 104, 0, 0, .null, rm_M0, []),
  (.aload 0, .aload_n 0, 1, 0, 0, 0, .null, rm_M0, []),
  (.nop, .bipush 18, 2, 0, 0, 0, .int 18, rm_M0, []),
  (.invokevirtual 41, .invokevirtual 41, 3, 0, 1, 0, .null, mX6_addToken, [(0, 729), (0, 731), (0, 14)])]
def bX6_readTest_104 : List rm_J := [
  (.iinc 4 1, .iinc 4 1, 3, 0, 0, 0, .int 1, rm_M0, []),
  (.goto (-96), .goto (-96), 3, 11, 0, 0, .null, rm_M0, [])]
def bX6_readTest_110 : List rm_J := [
  (.iload 3, .iload_n 3, 1, 0, 0, 0, .null, rm_M0, []),
  (.ifCond .eq 9, .ifCond .eq 9, 3, 120, 0, 0, .null, rm_M0, []),
  (.aload 0, .aload_n 0, 1, 0, 0, 0, .null, rm_M0, []),
  (.nop, .bipush 19, 2, 0, 0, 0, .int 19, rm_M0, []),
  (.invokevirtual 41, .invokevirtual 41, 3, 0, 1, 0, .null, mX6_addToken, [(0, 729), (0, 731), (0, 14)])]
def bX6_readTest_120 : List rm_J := [
  (.return_, .return_, 1, 0, 0, 0, .null, rm_M0, [])]
def tX6_readTest : rm_P := [(0, bX6_readTest_0), (11, bX6_readTest_11), (49, bX6_readTest_49), (66, bX6_readTest_66), (78, bX6_readTest_78), (79, bX6_readTest_79), (104, bX6_readTest_104), (110, bX6_readTest_110), (120, bX6_readTest_120)]
theorem ok_X6_readTest_t : rm_okP mX6_readTest tX6_readTest = true := by decide +kernel
theorem ok_X6_readTest : rm_okM mX6_readTest tX6_readTest := ⟨ok_X6_readTest_t, List.forall_mem_cons.mpr ⟨cw_X6_readFact, List.forall_mem_cons.mpr ⟨cw_X8_token, List.forall_mem_cons.mpr ⟨cw_X6_addToken, List.forall_mem_cons.mpr ⟨cw_X8_step, List.forall_mem_cons.mpr ⟨cw_X6_readFact, List.forall_mem_cons.mpr ⟨cw_X6_addToken, List.forall_mem_cons.mpr ⟨cw_X6_addToken, fun _ h => absurd h List.not_mem_nil⟩⟩⟩⟩⟩⟩⟩⟩
theorem atX6_readTest_0 : rm_at tX6_readTest 0 = some bX6_readTest_0 := rfl
theorem atX6_readTest_11 : rm_at tX6_readTest 11 = some bX6_readTest_11 := rfl
theorem atX6_readTest_49 : rm_at tX6_readTest 49 = some bX6_readTest_49 := rfl
theorem atX6_readTest_66 : rm_at tX6_readTest 66 = some bX6_readTest_66 := rfl
theorem atX6_readTest_78 : rm_at tX6_readTest 78 = some bX6_readTest_78 := rfl
theorem atX6_readTest_79 : rm_at tX6_readTest 79 = some bX6_readTest_79 := rfl
theorem atX6_readTest_104 : rm_at tX6_readTest 104 = some bX6_readTest_104 := rfl
theorem atX6_readTest_110 : rm_at tX6_readTest 110 = some bX6_readTest_110 := rfl
theorem atX6_readTest_120 : rm_at tX6_readTest 120 = some bX6_readTest_120 := rfl
def bX6_readFact_0 : List rm_J := [
  (.aload 1, .aload_n 1, 1, 0, 0, 0, .null, rm_M0, []),
  (.invokevirtual 22, .invokevirtual 22, 3, 0, 0, 0, .null, mX8_token, [(0, 710), (0, 658), (0, 659)]),
  (.istore 3, .istore_n 3, 1, 0, 0, 0, .null, rm_M0, []),
  (.aload 1, .aload_n 1, 1, 0, 0, 0, .null, rm_M0, []),
  (.getfield 48, .getfield 48, 3, 8, 2, 136, .null, rm_M0, []),
  (.ifCond .eq 4, .ifCond .eq 4, 3, 13, 0, 0, .null, rm_M0, []),
  (.return_, .return_, 1, 0, 0, 0, .null, rm_M0, [])]
def bX6_readFact_13 : List rm_J := [
  (.iload 3, .iload_n 3, 1, 0, 0, 0, .null, rm_M0, []),
  (.nop, .bipush 20, 2, 0, 0, 0, .int 20, rm_M0, []),
  (.if_icmp .eq 9, .if_icmp .eq 9, 3, 25, 0, 0, .null, rm_M0, []),
  (.iload 3, .iload_n 3, 1, 0, 0, 0, .null, rm_M0, []),
  (.nop, .bipush 91, 2, 0, 0, 0, .int 91, rm_M0, []),
  (.if_icmp .ne 17, .if_icmp .ne 17, 3, 39, 0, 0, .null, rm_M0, [])]
def bX6_readFact_25 : List rm_J := [
  (.iload 2, .iload_n 2, 1, 0, 0, 0, .null, rm_M0, []),
  (.nop, .bipush 10, 2, 0, 0, 0, .int 10, rm_M0, []),
  (.if_icmp .lt 11, .if_icmp .lt 11, 3, 39, 0, 0, .null, rm_M0, []),
  (.aload 1, .aload_n 1, 1, 0, 0, 0, .null, rm_M0, []),
  (.nop, .iconst 2, 1, 0, 0, 0, .int 2, rm_M0, []),
  (.invokevirtual 26, .invokevirtual 26, 3, 0, 1, 0, .null, mX8_fail, [(0, 711), (0, 662), (0, 663)]),
  (.goto 92, .goto 92, 3, 128, 0, 0, .null, rm_M0, [])]
def bX6_readFact_39 : List rm_J := [
  (.iload 3, .iload_n 3, 1, 0, 0, 0, .null, rm_M0, []),
  (.nop, .bipush 20, 2, 0, 0, 0, .int 20, rm_M0, []),
  (.if_icmp .ne 24, .if_icmp .ne 24, 3, 66, 0, 0, .null, rm_M0, []),
  (.aload 1, .aload_n 1, 1, 0, 0, 0, .null, rm_M0, []),
  (.invokevirtual 30, .invokevirtual 30, 3, 0, 0, 0, .null, mX8_step, [(0, 712), (0, 666), (0, 667)]),
  (.aload 0, .aload_n 0, 1, 0, 0, 0, .null, rm_M0, []),
  (.aload 1, .aload_n 1, 1, 0, 0, 0, .null, rm_M0, []),
  (.iload 2, .iload_n 2, 1, 0, 0, 0, .null, rm_M0, []),
  (.nop, .iconst 1, 1, 0, 0, 0, .int 1, rm_M0, []),
  (.iadd, .iadd, 1, 0, 0, 0, .null, rm_M0, []),
  (.invokevirtual 62, .invokevirtual 62, 3, 0, 2, 0, .null, mX6_readFact, [(0, 737), (0, 739), (0, 16)]),
  (.aload 0, .aload_n 0, 1, 0, 0, 0, .null, rm_M0, []),
  (.nop, .bipush 20, 2, 0, 0, 0, .int 20, rm_M0, []),
  (.invokevirtual 41, .invokevirtual 41, 3, 0, 1, 0, .null, mX6_addToken, [(0, 729), (0, 731), (0, 14)]),
  (.goto 65, .goto 65, 3, 128, 0, 0, .null, rm_M0, [])]
def bX6_readFact_66 : List rm_J := [
  (.iload 3, .iload_n 3, 1, 0, 0, 0, .null, rm_M0, []),
  (.nop, .bipush 91, 2, 0, 0, 0, .int 91, rm_M0, []),
  (.if_icmp .ne 36, .if_icmp .ne 36, 3, 105, 0, 0, .null, rm_M0, []),
  (.aload 1, .aload_n 1, 1, 0, 0, 0, .null, rm_M0, []),
  (.invokevirtual 30, .invokevirtual 30, 3, 0, 0, 0, .null, mX8_step, [(0, 712), (0, 666), (0, 667)]),
  (.aload 0, .aload_n 0, 1, 0, 0, 0, .null, rm_M0, []),
  (.aload 1, .aload_n 1, 1, 0, 0, 0, .null, rm_M0, []),
  (.iload 2, .iload_n 2, 1, 0, 0, 0, .null, rm_M0, []),
  (.nop, .iconst 1, 1, 0, 0, 0, .int 1, rm_M0, []),
  (.iadd, .iadd, 1, 0, 0, 0, .null, rm_M0, []),
  (.invokevirtual 37, .invokevirtual 37, 3, 0, 2, 0, .null, mX6_readTest, [(0, 733), (0, 735), (0, 15)]),
  (.aload 1, .aload_n 1, 1, 0, 0, 0, .null, rm_M0, []),
  (.invokevirtual 22, .invokevirtual 22, 3, 0, 0, 0, .null, mX8_token, [(0, 710), (0, 658), (0, 659)]),
  (.nop, .bipush 93, 2, 0, 0, 0, .int 93, rm_M0, []),
  (.if_icmp .eq 8, .if_icmp .eq 8, 3, 98, 0, 0, .null, rm_M0, []),
  (.aload 1, .aload_n 1, 1, 0, 0, 0, .null, rm_M0, []),
  (.nop, .iconst 0, 1, 0, 0, 0, .int 0, rm_M0, []),
  (.invokevirtual 26, .invokevirtual 26, 3, 0, 1, 0, .null, mX8_fail, [(0, 711), (0, 662), (0, 663)])]
def bX6_readFact_98 : List rm_J := [
  (.aload 1, .aload_n 1, 1, 0, 0, 0, .null, rm_M0, []),
  (.invokevirtual 30, .invokevirtual 30, 3, 0, 0, 0, .null, mX8_step, [(0, 712), (0, 666), (0, 667)]),
  (.goto 26, .goto 26, 3, 128, 0, 0, .null, rm_M0, [])]
def bX6_readFact_105 : List rm_J := [
  (.aload 0, .aload_n 0, 1, 0, 0, 0, .null, rm_M0, []),
  (.aload 1, .aload_n 1, 1, 0, 0, 0, .null, rm_M0, []),
  (.invokevirtual 33, .invokevirtual 33, 3, 0, 1, 0, .null, mX6_readSum, [(0, 713), (0, 715), (0, 11)]),
  (.aload 0, .aload_n 0, 1, 0, 0, 0, .null, rm_M0, []),
  (.aload 1, .aload_n 1, 1, 0, 0, 0, .null, rm_M0, []),
  (.invokevirtual 65, .invokevirtual 65, 3, 0, 1, 0, .null, mX6_readSign, [(0, 741), (0, 743), (0, 17)]),
  (.istore 4, .istore 4, 2, 0, 0, 0, .null, rm_M0, []),
  (.aload 0, .aload_n 0, 1, 0, 0, 0, .null, rm_M0, []),
  (.aload 1, .aload_n 1, 1, 0, 0, 0, .null, rm_M0, []),
  (.invokevirtual 33, .invokevirtual 33, 3, 0, 1, 0, .null, mX6_readSum, [(0, 713), (0, 715), (0, 11)]),
  (.aload 0, .aload_n 0, 1, 0, 0, 0, .null, rm_M0, []),
  (.iload 4, .iload 4, 2, 0, 0, 0, .null, rm_M0, []),
  (.invokevirtual 41, .invokevirtual 41, 3, 0, 1, 0, .null, mX6_addToken, [(0, 729), (0, 731), (0, 14)])]
def bX6_readFact_128 : List rm_J := [
  (.return_, .return_, 1, 0, 0, 0, .null, rm_M0, [])]
def tX6_readFact : rm_P := [(0, bX6_readFact_0), (13, bX6_readFact_13), (25, bX6_readFact_25), (39, bX6_readFact_39), (66, bX6_readFact_66), (98, bX6_readFact_98), (105, bX6_readFact_105), (128, bX6_readFact_128)]
theorem ok_X6_readFact_t : rm_okP mX6_readFact tX6_readFact = true := by decide +kernel
theorem ok_X6_readFact : rm_okM mX6_readFact tX6_readFact := ⟨ok_X6_readFact_t, List.forall_mem_cons.mpr ⟨cw_X8_token, List.forall_mem_cons.mpr ⟨cw_X8_fail, List.forall_mem_cons.mpr ⟨cw_X8_step, List.forall_mem_cons.mpr ⟨cw_X6_readFact, List.forall_mem_cons.mpr ⟨cw_X6_addToken, List.forall_mem_cons.mpr ⟨cw_X8_step, List.forall_mem_cons.mpr ⟨cw_X6_readTest, List.forall_mem_cons.mpr ⟨cw_X8_token, List.forall_mem_cons.mpr ⟨cw_X8_fail, List.forall_mem_cons.mpr ⟨cw_X8_step, List.forall_mem_cons.mpr ⟨cw_X6_readSum, List.forall_mem_cons.mpr ⟨cw_X6_readSign, List.forall_mem_cons.mpr ⟨cw_X6_readSum, List.forall_mem_cons.mpr ⟨cw_X6_addToken, fun _ h => absurd h List.not_mem_nil⟩⟩⟩⟩⟩⟩⟩⟩⟩⟩⟩⟩⟩⟩⟩
theorem atX6_readFact_0 : rm_at tX6_readFact 0 = some bX6_readFact_0 := rfl
theorem atX6_readFact_13 : rm_at tX6_readFact 13 = some bX6_readFact_13 := rfl
theorem atX6_readFact_25 : rm_at tX6_readFact 25 = some bX6_readFact_25 := rfl
theorem atX6_readFact_39 : rm_at tX6_readFact 39 = some bX6_readFact_39 := rfl
theorem atX6_readFact_66 : rm_at tX6_readFact 66 = some bX6_readFact_66 := rfl
theorem atX6_readFact_98 : rm_at tX6_readFact 98 = some bX6_readFact_98 := rfl
theorem atX6_readFact_105 : rm_at tX6_readFact 105 = some bX6_readFact_105 := rfl
theorem atX6_readFact_128 : rm_at tX6_readFact 128 = some bX6_readFact_128 := rfl
def bX6_readSign_0 : List rm_J := [
  (.aload 1, .aload_n 1, 1, 0, 0, 0, .null, rm_M0, []),
  (.invokevirtual 22, .invokevirtual 22, 3, 0, 0, 0, .null, mX8_token, [(0, 710), (0, 658), (0, 659)]),
  (.istore 2, .istore_n 2, 1, 0, 0, 0, .null, rm_M0, []),
  (.iload 2, .iload_n 2, 1, 0, 0, 0, .null, rm_M0, []),
  (.nop, .bipush 60, 2, 0, 0, 0, .int 60, rm_M0, []),
  (.if_icmp .eq 37, .if_icmp .eq 37, 3, 45, 0, 0, .null, rm_M0, []),
  (.iload 2, .iload_n 2, 1, 0, 0, 0, .null, rm_M0, []),
  (.nop, .sipush 256, 3, 0, 0, 0, .int 256, rm_M0, []),
  (.if_icmp .eq 30, .if_icmp .eq 30, 3, 45, 0, 0, .null, rm_M0, []),
  (.iload 2, .iload_n 2, 1, 0, 0, 0, .null, rm_M0, []),
  (.nop, .bipush 61, 2, 0, 0, 0, .int 61, rm_M0, []),
  (.if_icmp .eq 24, .if_icmp .eq 24, 3, 45, 0, 0, .null, rm_M0, []),
  (.iload 2, .iload_n 2, 1, 0, 0, 0, .null, rm_M0, []),
  (.nop, .sipush 257, 3, 0, 0, 0, .int 257, rm_M0, []),
  (.if_icmp .eq 17, .if_icmp .eq 17, 3, 45, 0, 0, .null, rm_M0, []),
  (.iload 2, .iload_n 2, 1, 0, 0, 0, .null, rm_M0, []),
  (.nop, .bipush 62, 2, 0, 0, 0, .int 62, rm_M0, []),
  (.if_icmp .eq 11, .if_icmp .eq 11, 3, 45, 0, 0, .null, rm_M0, []),
  (.aload 1, .aload_n 1, 1, 0, 0, 0, .null, rm_M0, []),
  (.nop, .iconst 0, 1, 0, 0, 0, .int 0, rm_M0, []),
  (.invokevirtual 26, .invokevirtual 26, 3, 0, 1, 0, .null, mX8_fail, [(0, 711), (0, 662), (0, 663)]),
  (.goto 17, .goto 17, 3, 59, 0, 0, .null, rm_M0, [])]
def bX6_readSign_45 : List rm_J := [
  (.aload 0, .aload_n 0, 1, 0, 0, 0, .null, rm_M0, []),
  (.getfield 19, .getfield 19, 3, 6, 2, 172, .null, rm_M0, []),
  (.nop, .bipush 60, 2, 0, 0, 0, .int 60, rm_M0, []),
  (.if_icmp .lt 8, .if_icmp .lt 8, 3, 59, 0, 0, .null, rm_M0, []),
  (.aload 1, .aload_n 1, 1, 0, 0, 0, .null, rm_M0, []),
  (.nop, .iconst 3, 1, 0, 0, 0, .int 3, rm_M0, []),
  (.invokevirtual 26, .invokevirtual 26, 3, 0, 1, 0, .null, mX8_fail, [(0, 711), (0, 662), (0, 663)])]
def bX6_readSign_59 : List rm_J := [
  (.aload 0, .aload_n 0, 1, 0, 0, 0, .null, rm_M0, []),
  (.dup, .dup, 1, 0, 0, 0, .null, rm_M0, []),
  (.getfield 19, .getfield 19, 3, 6, 2, 172, .null, rm_M0, []),
  (.nop, .iconst 1, 1, 0, 0, 0, .int 1, rm_M0, []),
  (.iadd, .iadd, 1, 0, 0, 0, .null, rm_M0, []),
  (.putfield 19, .putfield 19, 3, 6, 2, 172, .int 0, rm_M0, []),
  (.aload 1, .aload_n 1, 1, 0, 0, 0, .null, rm_M0, []),
  (.invokevirtual 30, .invokevirtual 30, 3, 0, 0, 0, .null, mX8_step, [(0, 712), (0, 666), (0, 667)]),
  (.iload 2, .iload_n 2, 1, 0, 0, 0, .null, rm_M0, []),
  (.ireturn, .ireturn, 1, 0, 0, 0, .null, rm_M0, [])]
def tX6_readSign : rm_P := [(0, bX6_readSign_0), (45, bX6_readSign_45), (59, bX6_readSign_59)]
theorem ok_X6_readSign_t : rm_okP mX6_readSign tX6_readSign = true := by decide +kernel
theorem ok_X6_readSign : rm_okM mX6_readSign tX6_readSign := ⟨ok_X6_readSign_t, List.forall_mem_cons.mpr ⟨cw_X8_token, List.forall_mem_cons.mpr ⟨cw_X8_fail, List.forall_mem_cons.mpr ⟨cw_X8_fail, List.forall_mem_cons.mpr ⟨cw_X8_step, fun _ h => absurd h List.not_mem_nil⟩⟩⟩⟩⟩
theorem atX6_readSign_0 : rm_at tX6_readSign 0 = some bX6_readSign_0 := rfl
theorem atX6_readSign_45 : rm_at tX6_readSign 45 = some bX6_readSign_45 := rfl
theorem atX6_readSign_59 : rm_at tX6_readSign 59 = some bX6_readSign_59 := rfl
def bX6_readSum_0 : List rm_J := [
  (.aload 0, .aload_n 0, 1, 0, 0, 0, .null, rm_M0, []),
  (.aload 1, .aload_n 1, 1, 0, 0, 0, .null, rm_M0, []),
  (.invokevirtual 69, .invokevirtual 69, 3, 0, 1, 0, .null, mX6_readValue, [(0, 717), (0, 719), (0, 12)]),
  (.nop, .iconst 0, 1, 0, 0, 0, .int 0, rm_M0, []),
  (.istore 2, .istore_n 2, 1, 0, 0, 0, .null, rm_M0, []),
  (.nop, .iconst 0, 1, 0, 0, 0, .int 0, rm_M0, []),
  (.istore 3, .istore_n 3, 1, 0, 0, 0, .null, rm_M0, [])]
def bX6_readSum_9 : List rm_J := [
  (.iload 3, .iload_n 3, 1, 0, 0, 0, .null, rm_M0, []),
  (.nop, .sipush 400, 3, 0, 0, 0, .int 400, rm_M0, []),
  (.if_icmp .ge 118, .if_icmp .ge 118, 3, 131, 0, 0, .null, rm_M0, []),
  (.aload 1, .aload_n 1, 1, 0, 0, 0, .null, rm_M0, []),
  (.getfield 48, .getfield 48, 3, 8, 2, 136, .null, rm_M0, []),
  (.ifCond .ne 111, .ifCond .ne 111, 3, 131, 0, 0, .null, rm_M0, []),
  (.aload 1, .aload_n 1, 1, 0, 0, 0, .null, rm_M0, []),
  (.invokevirtual 22, .invokevirtual 22, 3, 0, 0, 0, .null, mX8_token, [(0, 710), (0, 658), (0, 659)]),
  (.istore 4, .istore 4, 2, 0, 0, 0, .null, rm_M0, []),
  (.iload 4, .iload 4, 2, 0, 0, 0, .null, rm_M0, []),
  (.nop, .bipush 43, 2, 0, 0, 0, .int 43, rm_M0, []),
  (.if_icmp .eq 10, .if_icmp .eq 10, 3, 43, 0, 0, .null, rm_M0, []),
  (.iload 4, .iload 4, 2, 0, 0, 0, .null, rm_M0, []),
  (.nop, .bipush 45, 2, 0, 0, 0, .int 45, rm_M0, []),
  (.if_icmp .ne 7, .if_icmp .ne 7, 3, 47, 0, 0, .null, rm_M0, [])]
def bX6_readSum_43 : List rm_J := [
  (.nop, .iconst 1, 1, 0, 0, 0, .int 1, rm_M0, []),
  (.goto 4, .goto 4, 3, 48, 0, 0, .null, rm_M0, [])]
def bX6_readSum_47 : List rm_J := [
  (.nop, .iconst 0, 1, 0, 0, 0, .int 0, rm_M0, [])]
def bX6_readSum_48 : List rm_J := [
  (.istore 5, .istore 5, 2, 0, 0, 0, .null, rm_M0, []),
  (.iload 5, .iload 5, 2, 0, 0, 0, .null, rm_M0, []),
  (.ifCond .ne 27, .ifCond .ne 27, 3, 79, 0, 0, .null, rm_M0, []),
  (.iload 4, .iload 4, 2, 0, 0, 0, .null, rm_M0, []),
  (.nop, .bipush 42, 2, 0, 0, 0, .int 42, rm_M0, []),
  (.if_icmp .eq 20, .if_icmp .eq 20, 3, 79, 0, 0, .null, rm_M0, []),
  (.iload 4, .iload 4, 2, 0, 0, 0, .null, rm_M0, []),
  (.nop, .bipush 47, 2, 0, 0, 0, .int 47, rm_M0, []),
  (.if_icmp .eq 13, .if_icmp .eq 13, 3, 79, 0, 0, .null, rm_M0, []),
  (.iload 4, .iload 4, 2, 0, 0, 0, .null, rm_M0, []),
  (.nop, .bipush 37, 2, 0, 0, 0, .int 37, rm_M0, []),
  (.if_icmp .eq 6, .if_icmp .eq 6, 3, 79, 0, 0, .null, rm_M0, []),
  (.goto 55, .goto 55, 3, 131, 0, 0, .null, rm_M0, [])]
def bX6_readSum_79 : List rm_J := [
  (.iload 5, .iload 5, 2, 0, 0, 0, .null, rm_M0, []),
  (.ifCond .eq 12, .ifCond .eq 12, 3, 93, 0, 0, .null, rm_M0, []),
  (.iload 2, .iload_n 2, 1, 0, 0, 0, .null, rm_M0, []),
  (.ifCond .eq 8, .ifCond .eq 8, 3, 93, 0, 0, .null, rm_M0, []),
  (.aload 0, .aload_n 0, 1, 0, 0, 0, .null, rm_M0, []),
  (.iload 2, .iload_n 2, 1, 0, 0, 0, .null, rm_M0, []),
  (.invokevirtual 41, .invokevirtual 41, 3, 0, 1, 0, .null, mX6_addToken, [(0, 729), (0, 731), (0, 14)])]
def bX6_readSum_93 : List rm_J := [
  (.iload 5, .iload 5, 2, 0, 0, 0, .null, rm_M0, []),
  (.ifCond .eq 8, .ifCond .eq 8, 3, 103, 0, 0, .null, rm_M0, []),
  (.iload 4, .iload 4, 2, 0, 0, 0, .null, rm_M0, []),
  (.goto 4, .goto 4, 3, 104, 0, 0, .null, rm_M0, [])]
def bX6_readSum_103 : List rm_J := [
  (.iload 2, .iload_n 2, 1, 0, 0, 0, .null, rm_M0, [])]
def bX6_readSum_104 : List rm_J := [
  (.istore 2, .istore_n 2, 1, 0, 0, 0, .null, rm_M0, []),
  (.aload 1, .aload_n 1, 1, 0, 0, 0, .null, rm_M0, []),
  (.invokevirtual 30, .invokevirtual 30, 3, 0, 0, 0, .null, mX8_step, [(0, 712), (0, 666), (0, 667)]),
  (.aload 0, .aload_n 0, 1, 0, 0, 0, .null, rm_M0, []),
  (.aload 1, .aload_n 1, 1, 0, 0, 0, .null, rm_M0, []),
  (.invokevirtual 69, .invokevirtual 69, 3, 0, 1, 0, .null, mX6_readValue, [(0, 717), (0, 719), (0, 12)]),
  (.iload 5, .iload 5, 2, 0, 0, 0, .null, rm_M0, []),
  (.ifCond .ne 9, .ifCond .ne 9, 3, 125, 0, 0, .null, rm_M0, []),
  (.aload 0, .aload_n 0, 1, 0, 0, 0, .null, rm_M0, []),
  (.iload 4, .iload 4, 2, 0, 0, 0, .null, rm_M0, []),
  (.invokevirtual 41, .invokevirtual 41, 3, 0, 1, 0, .null, mX6_addToken, [(0, 729), (0, 731), (0, 14)])]
def bX6_readSum_125 : List rm_J := [
  (.iinc 3 1, .iinc 3 1, 3, 0, 0, 0, .int 1, rm_M0, []),
  (.goto (-119), .goto (-119), 3, 9, 0, 0, .null, rm_M0, [])]
def bX6_readSum_131 : List rm_J := [
  (.iload 2, .iload_n 2, 1, 0, 0, 0, .null, rm_M0, []),
  (.ifCond .eq 8, .ifCond .eq 8, 3, 140, 0, 0, .null, rm_M0, []),
  (.aload 0, .aload_n 0, 1, 0, 0, 0, .null, rm_M0, []),
  (.iload 2, .iload_n 2, 1, 0, 0, 0, .null, rm_M0, []),
  (.invokevirtual 41, .invokevirtual 41, 3, 0, 1, 0, .null, mX6_addToken, [(0, 729), (0, 731), (0, 14)])]
def bX6_readSum_140 : List rm_J := [
  (.return_, .return_, 1, 0, 0, 0, .null, rm_M0, [])]
def tX6_readSum : rm_P := [(0, bX6_readSum_0), (9, bX6_readSum_9), (43, bX6_readSum_43), (47, bX6_readSum_47), (48, bX6_readSum_48), (79, bX6_readSum_79), (93, bX6_readSum_93), (103, bX6_readSum_103), (104, bX6_readSum_104), (125, bX6_readSum_125), (131, bX6_readSum_131), (140, bX6_readSum_140)]
theorem ok_X6_readSum_t : rm_okP mX6_readSum tX6_readSum = true := by decide +kernel
theorem ok_X6_readSum : rm_okM mX6_readSum tX6_readSum := ⟨ok_X6_readSum_t, List.forall_mem_cons.mpr ⟨cw_X6_readValue, List.forall_mem_cons.mpr ⟨cw_X8_token, List.forall_mem_cons.mpr ⟨cw_X6_addToken, List.forall_mem_cons.mpr ⟨cw_X8_step, List.forall_mem_cons.mpr ⟨cw_X6_readValue, List.forall_mem_cons.mpr ⟨cw_X6_addToken, List.forall_mem_cons.mpr ⟨cw_X6_addToken, fun _ h => absurd h List.not_mem_nil⟩⟩⟩⟩⟩⟩⟩⟩
theorem atX6_readSum_0 : rm_at tX6_readSum 0 = some bX6_readSum_0 := rfl
theorem atX6_readSum_9 : rm_at tX6_readSum 9 = some bX6_readSum_9 := rfl
theorem atX6_readSum_43 : rm_at tX6_readSum 43 = some bX6_readSum_43 := rfl
theorem atX6_readSum_47 : rm_at tX6_readSum 47 = some bX6_readSum_47 := rfl
theorem atX6_readSum_48 : rm_at tX6_readSum 48 = some bX6_readSum_48 := rfl
theorem atX6_readSum_79 : rm_at tX6_readSum 79 = some bX6_readSum_79 := rfl
theorem atX6_readSum_93 : rm_at tX6_readSum 93 = some bX6_readSum_93 := rfl
theorem atX6_readSum_103 : rm_at tX6_readSum 103 = some bX6_readSum_103 := rfl
theorem atX6_readSum_104 : rm_at tX6_readSum 104 = some bX6_readSum_104 := rfl
theorem atX6_readSum_125 : rm_at tX6_readSum 125 = some bX6_readSum_125 := rfl
theorem atX6_readSum_131 : rm_at tX6_readSum 131 = some bX6_readSum_131 := rfl
theorem atX6_readSum_140 : rm_at tX6_readSum 140 = some bX6_readSum_140 := rfl
def bX6_readValue_0 : List rm_J := [
  (.aload 1, .aload_n 1, 1, 0, 0, 0, .null, rm_M0, []),
  (.invokevirtual 22, .invokevirtual 22, 3, 0, 0, 0, .null, mX8_token, [(0, 710), (0, 658), (0, 659)]),
  (.istore 2, .istore_n 2, 1, 0, 0, 0, .null, rm_M0, []),
  (.aload 1, .aload_n 1, 1, 0, 0, 0, .null, rm_M0, []),
  (.getfield 48, .getfield 48, 3, 8, 2, 136, .null, rm_M0, []),
  (.ifCond .eq 4, .ifCond .eq 4, 3, 13, 0, 0, .null, rm_M0, []),
  (.return_, .return_, 1, 0, 0, 0, .null, rm_M0, [])]
def bX6_readValue_13 : List rm_J := [
  (.iload 2, .iload_n 2, 1, 0, 0, 0, .null, rm_M0, []),
  (.nop, .sipush 258, 3, 0, 0, 0, .int 258, rm_M0, []),
  (.if_icmp .eq 17, .if_icmp .eq 17, 3, 34, 0, 0, .null, rm_M0, []),
  (.iload 2, .iload_n 2, 1, 0, 0, 0, .null, rm_M0, []),
  (.nop, .bipush 12, 2, 0, 0, 0, .int 12, rm_M0, []),
  (.if_icmp .le 11, .if_icmp .le 11, 3, 34, 0, 0, .null, rm_M0, []),
  (.aload 1, .aload_n 1, 1, 0, 0, 0, .null, rm_M0, []),
  (.nop, .iconst 0, 1, 0, 0, 0, .int 0, rm_M0, []),
  (.invokevirtual 26, .invokevirtual 26, 3, 0, 1, 0, .null, mX8_fail, [(0, 711), (0, 662), (0, 663)]),
  (.goto 78, .goto 78, 3, 109, 0, 0, .null, rm_M0, [])]
def bX6_readValue_34 : List rm_J := [
  (.iload 2, .iload_n 2, 1, 0, 0, 0, .null, rm_M0, []),
  (.nop, .sipush 258, 3, 0, 0, 0, .int 258, rm_M0, []),
  (.if_icmp .ne 19, .if_icmp .ne 19, 3, 57, 0, 0, .null, rm_M0, []),
  (.aload 1, .aload_n 1, 1, 0, 0, 0, .null, rm_M0, []),
  (.invokevirtual 72, .invokevirtual 72, 3, 0, 0, 0, .null, mX8_value, [(0, 721), (0, 722), (0, 723)]),
  (.nop, .iconst (-1), 1, 0, 0, 0, .int (-1), rm_M0, []),
  (.if_icmp .ne 11, .if_icmp .ne 11, 3, 57, 0, 0, .null, rm_M0, []),
  (.aload 1, .aload_n 1, 1, 0, 0, 0, .null, rm_M0, []),
  (.nop, .iconst 1, 1, 0, 0, 0, .int 1, rm_M0, []),
  (.invokevirtual 26, .invokevirtual 26, 3, 0, 1, 0, .null, mX8_fail, [(0, 711), (0, 662), (0, 663)]),
  (.goto 55, .goto 55, 3, 109, 0, 0, .null, rm_M0, [])]
def bX6_readValue_57 : List rm_J := [
  (.aload 0, .aload_n 0, 1, 0, 0, 0, .null, rm_M0, []),
  (.getfield 19, .getfield 19, 3, 6, 2, 172, .null, rm_M0, []),
  (.nop, .bipush 60, 2, 0, 0, 0, .int 60, rm_M0, []),
  (.if_icmp .lt 11, .if_icmp .lt 11, 3, 74, 0, 0, .null, rm_M0, []),
  (.aload 1, .aload_n 1, 1, 0, 0, 0, .null, rm_M0, []),
  (.nop, .iconst 3, 1, 0, 0, 0, .int 3, rm_M0, []),
  (.invokevirtual 26, .invokevirtual 26, 3, 0, 1, 0, .null, mX8_fail, [(0, 711), (0, 662), (0, 663)]),
  (.goto 38, .goto 38, 3, 109, 0, 0, .null, rm_M0, [])]
def bX6_readValue_74 : List rm_J := [
  (.aload 0, .aload_n 0, 1, 0, 0, 0, .null, rm_M0, []),
  (.dup, .dup, 1, 0, 0, 0, .null, rm_M0, []),
  (.getfield 19, .getfield 19, 3, 6, 2, 172, .null, rm_M0, []),
  (.nop, .iconst 1, 1, 0, 0, 0, .int 1, rm_M0, []),
  (.iadd, .iadd, 1, 0, 0, 0, .null, rm_M0, []),
  (.putfield 19, .putfield 19, 3, 6, 2, 172, .int 0, rm_M0, []),
  (.aload 0, .aload_n 0, 1, 0, 0, 0, .null, rm_M0, []),
  (.iload 2, .iload_n 2, 1, 0, 0, 0, .null, rm_M0, []),
  (.nop, .sipush 258, 3, 0, 0, 0, .int 258, rm_M0, []),
  (.if_icmp .ne 10, .if_icmp .ne 10, 3, 99, 0, 0, .null, rm_M0, []),
  (.aload 1, .aload_n 1, 1, 0, 0, 0, .null, rm_M0, []),
  (.invokevirtual 72, .invokevirtual 72, 3, 0, 0, 0, .null, mX8_value, [(0, 721), (0, 722), (0, 723)]),
  (.goto 6, .goto 6, 3, 102, 0, 0, .null, rm_M0, [])]
def bX6_readValue_99 : List rm_J := [
  (.nop, .iconst (-1), 1, 0, 0, 0, .int (-1), rm_M0, []),
  (.iload 2, .iload_n 2, 1, 0, 0, 0, .null, rm_M0, []),
  (.isub, .isub, 1, 0, 0, 0, .null, rm_M0, [])]
def bX6_readValue_102 : List rm_J := [
  (.invokevirtual 75, .invokevirtual 75, 3, 0, 1, 0, .null, mX6_add, [(0, 725), (0, 727), (0, 13)]),
  (.aload 1, .aload_n 1, 1, 0, 0, 0, .null, rm_M0, []),
  (.invokevirtual 30, .invokevirtual 30, 3, 0, 0, 0, .null, mX8_step, [(0, 712), (0, 666), (0, 667)])]
def bX6_readValue_109 : List rm_J := [
  (.return_, .return_, 1, 0, 0, 0, .null, rm_M0, [])]
def tX6_readValue : rm_P := [(0, bX6_readValue_0), (13, bX6_readValue_13), (34, bX6_readValue_34), (57, bX6_readValue_57), (74, bX6_readValue_74), (99, bX6_readValue_99), (102, bX6_readValue_102), (109, bX6_readValue_109)]
theorem ok_X6_readValue_t : rm_okP mX6_readValue tX6_readValue = true := by decide +kernel
theorem ok_X6_readValue : rm_okM mX6_readValue tX6_readValue := ⟨ok_X6_readValue_t, List.forall_mem_cons.mpr ⟨cw_X8_token, List.forall_mem_cons.mpr ⟨cw_X8_fail, List.forall_mem_cons.mpr ⟨cw_X8_value, List.forall_mem_cons.mpr ⟨cw_X8_fail, List.forall_mem_cons.mpr ⟨cw_X8_fail, List.forall_mem_cons.mpr ⟨cw_X8_value, List.forall_mem_cons.mpr ⟨cw_X6_add, List.forall_mem_cons.mpr ⟨cw_X8_step, fun _ h => absurd h List.not_mem_nil⟩⟩⟩⟩⟩⟩⟩⟩⟩
theorem atX6_readValue_0 : rm_at tX6_readValue 0 = some bX6_readValue_0 := rfl
theorem atX6_readValue_13 : rm_at tX6_readValue 13 = some bX6_readValue_13 := rfl
theorem atX6_readValue_34 : rm_at tX6_readValue 34 = some bX6_readValue_34 := rfl
theorem atX6_readValue_57 : rm_at tX6_readValue 57 = some bX6_readValue_57 := rfl
theorem atX6_readValue_74 : rm_at tX6_readValue 74 = some bX6_readValue_74 := rfl
theorem atX6_readValue_99 : rm_at tX6_readValue 99 = some bX6_readValue_99 := rfl
theorem atX6_readValue_102 : rm_at tX6_readValue 102 = some bX6_readValue_102 := rfl
theorem atX6_readValue_109 : rm_at tX6_readValue 109 = some bX6_readValue_109 := rfl
def bX6_addToken_0 : List rm_J := [
  (.aload 0, .aload_n 0, 1, 0, 0, 0, .null, rm_M0, []),
  (.nop, .bipush (-100), 2, 0, 0, 0, .int (-100), rm_M0, []),
  (.iload 1, .iload_n 1, 1, 0, 0, 0, .null, rm_M0, []),
  (.isub, .isub, 1, 0, 0, 0, .null, rm_M0, []),
  (.invokevirtual 75, .invokevirtual 75, 3, 0, 1, 0, .null, mX6_add, [(0, 725), (0, 727), (0, 13)]),
  (.return_, .return_, 1, 0, 0, 0, .null, rm_M0, [])]
def tX6_addToken : rm_P := [(0, bX6_addToken_0)]
theorem ok_X6_addToken_t : rm_okP mX6_addToken tX6_addToken = true := by decide +kernel
theorem ok_X6_addToken : rm_okM mX6_addToken tX6_addToken := ⟨ok_X6_addToken_t, List.forall_mem_cons.mpr ⟨cw_X6_add, fun _ h => absurd h List.not_mem_nil⟩⟩
theorem atX6_addToken_0 : rm_at tX6_addToken 0 = some bX6_addToken_0 := rfl
def bX6_add_0 : List rm_J := [
  (.aload 0, .aload_n 0, 1, 0, 0, 0, .null, rm_M0, []),
  (.getfield 15, .getfield 15, 3, 6, 1, 171, .null, rm_M0, []),
  (.aload 0, .aload_n 0, 1, 0, 0, 0, .null, rm_M0, []),
  (.getfield 9, .getfield 9, 3, 6, 0, 170, .null, rm_M0, []),
  (.arraylength, .arraylength, 1, 0, 0, 0, .null, rm_M0, []),
  (.if_icmp .ge 23, .if_icmp .ge 23, 3, 32, 0, 0, .null, rm_M0, []),
  (.aload 0, .aload_n 0, 1, 0, 0, 0, .null, rm_M0, []),
  (.getfield 9, .getfield 9, 3, 6, 0, 170, .null, rm_M0, []),
  (.aload 0, .aload_n 0, 1, 0, 0, 0, .null, rm_M0, []),
  (.getfield 15, .getfield 15, 3, 6, 1, 171, .null, rm_M0, []),
  (.iload 1, .iload_n 1, 1, 0, 0, 0, .null, rm_M0, []),
  (.iastore, .iastore, 1, 0, 0, 0, .null, rm_M0, []),
  (.aload 0, .aload_n 0, 1, 0, 0, 0, .null, rm_M0, []),
  (.dup, .dup, 1, 0, 0, 0, .null, rm_M0, []),
  (.getfield 15, .getfield 15, 3, 6, 1, 171, .null, rm_M0, []),
  (.nop, .iconst 1, 1, 0, 0, 0, .int 1, rm_M0, []),
  (.iadd, .iadd, 1, 0, 0, 0, .null, rm_M0, []),
  (.putfield 15, .putfield 15, 3, 6, 1, 171, .int 0, rm_M0, [])]
def bX6_add_32 : List rm_J := [
  (.return_, .return_, 1, 0, 0, 0, .null, rm_M0, [])]
def tX6_add : rm_P := [(0, bX6_add_0), (32, bX6_add_32)]
theorem ok_X6_add_t : rm_okP mX6_add tX6_add = true := by decide +kernel
theorem ok_X6_add : rm_okM mX6_add tX6_add := ⟨ok_X6_add_t, fun _ h => absurd h List.not_mem_nil⟩
theorem atX6_add_0 : rm_at tX6_add 0 = some bX6_add_0 := rfl
theorem atX6_add_32 : rm_at tX6_add 32 = some bX6_add_32 := rfl
def bX8_init_0 : List rm_J := [
  (.aload 0, .aload_n 0, 1, 0, 0, 0, .null, rm_M0, []),
  (.jsr 0, .invokespecial 1, 3, 0, 0, 1, .null, rm_M0, [(0, 132), (0, 125), (0, 126)]),
  (.aload 0, .aload_n 0, 1, 0, 0, 0, .null, rm_M0, []),
  (.nop, .sipush 400, 3, 0, 0, 0, .int 400, rm_M0, []),
  (.newarray .byte, .newarray .byte, 2, 1, 0, 0, .null, rm_M0, [(0, 162)]),
  (.putfield 9, .putfield 9, 3, 8, 0, 133, .int 3, rm_M0, []),
  (.aload 0, .aload_n 0, 1, 0, 0, 0, .null, rm_M0, []),
  (.nop, .sipush 401, 3, 0, 0, 0, .int 401, rm_M0, []),
  (.newarray .int, .newarray .int, 2, 0, 0, 0, .null, rm_M0, [(0, 163)]),
  (.putfield 13, .putfield 13, 3, 8, 3, 140, .int 3, rm_M0, []),
  (.aload 0, .aload_n 0, 1, 0, 0, 0, .null, rm_M0, []),
  (.nop, .sipush 401, 3, 0, 0, 0, .int 401, rm_M0, []),
  (.newarray .int, .newarray .int, 2, 0, 0, 0, .null, rm_M0, [(0, 163)]),
  (.putfield 17, .putfield 17, 3, 8, 4, 141, .int 3, rm_M0, []),
  (.aload 0, .aload_n 0, 1, 0, 0, 0, .null, rm_M0, []),
  (.nop, .sipush 401, 3, 0, 0, 0, .int 401, rm_M0, []),
  (.newarray .int, .newarray .int, 2, 0, 0, 0, .null, rm_M0, [(0, 163)]),
  (.putfield 20, .putfield 20, 3, 8, 5, 142, .int 3, rm_M0, []),
  (.return_, .return_, 1, 0, 0, 0, .null, rm_M0, [])]
def tX8_init : rm_P := [(0, bX8_init_0)]
theorem ok_X8_init_t : rm_okP mX8_init tX8_init = true := by decide +kernel
theorem ok_X8_init : rm_okM mX8_init tX8_init := ⟨ok_X8_init_t, fun _ h => absurd h List.not_mem_nil⟩
theorem atX8_init_0 : rm_at tX8_init 0 = some bX8_init_0 := rfl
def bX8_add_0 : List rm_J := [
  (.nop, .bipush 24, 2, 0, 0, 0, .int 24, rm_M0, []),
  (.istore 2, .istore_n 2, 1, 0, 0, 0, .null, rm_M0, [])]
def bX8_add_3 : List rm_J := [
  (.iload 2, .iload_n 2, 1, 0, 0, 0, .null, rm_M0, []),
  (.ifCond .lt 42, .ifCond .lt 42, 3, 46, 0, 0, .null, rm_M0, []),
  (.aload 0, .aload_n 0, 1, 0, 0, 0, .null, rm_M0, []),
  (.getfield 23, .getfield 23, 3, 8, 1, 135, .null, rm_M0, []),
  (.nop, .sipush 400, 3, 0, 0, 0, .int 400, rm_M0, []),
  (.if_icmp .ge 32, .if_icmp .ge 32, 3, 46, 0, 0, .null, rm_M0, []),
  (.aload 0, .aload_n 0, 1, 0, 0, 0, .null, rm_M0, []),
  (.getfield 9, .getfield 9, 3, 8, 0, 133, .null, rm_M0, []),
  (.aload 0, .aload_n 0, 1, 0, 0, 0, .null, rm_M0, []),
  (.getfield 23, .getfield 23, 3, 8, 1, 135, .null, rm_M0, []),
  (.iload 1, .iload_n 1, 1, 0, 0, 0, .null, rm_M0, []),
  (.iload 2, .iload_n 2, 1, 0, 0, 0, .null, rm_M0, []),
  (.ishr, .ishr, 1, 0, 0, 0, .null, rm_M0, []),
  (.i2b, .i2b, 1, 0, 0, 0, .null, rm_M0, []),
  (.bastore, .bastore, 1, 0, 0, 0, .null, rm_M0, []),
  (.aload 0, .aload_n 0, 1, 0, 0, 0, .null, rm_M0, []),
  (.dup, .dup, 1, 0, 0, 0, .null, rm_M0, []),
  (.getfield 23, .getfield 23, 3, 8, 1, 135, .null, rm_M0, []),
  (.nop, .iconst 1, 1, 0, 0, 0, .int 1, rm_M0, []),
  (.iadd, .iadd, 1, 0, 0, 0, .null, rm_M0, []),
  (.putfield 23, .putfield 23, 3, 8, 1, 135, .int 0, rm_M0, []),
  (.iinc 2 (-8), .iinc 2 (-8), 3, 0, 0, 0, .int (-8), rm_M0, []),
  (.goto (-40), .goto (-40), 3, 3, 0, 0, .null, rm_M0, [])]
def bX8_add_46 : List rm_J := [
  (.return_, .return_, 1, 0, 0, 0, .null, rm_M0, [])]
def tX8_add : rm_P := [(0, bX8_add_0), (3, bX8_add_3), (46, bX8_add_46)]
theorem ok_X8_add_t : rm_okP mX8_add tX8_add = true := by decide +kernel
theorem ok_X8_add : rm_okM mX8_add tX8_add := ⟨ok_X8_add_t, fun _ h => absurd h List.not_mem_nil⟩
theorem atX8_add_0 : rm_at tX8_add 0 = some bX8_add_0 := rfl
theorem atX8_add_3 : rm_at tX8_add 3 = some bX8_add_3 := rfl
theorem atX8_add_46 : rm_at tX8_add 46 = some bX8_add_46 := rfl
def bX8_split_0 : List rm_J := [
  (.aload 0, .aload_n 0, 1, 0, 0, 0, .null, rm_M0, []),
  (.nop, .iconst 0, 1, 0, 0, 0, .int 0, rm_M0, []),
  (.putfield 27, .putfield 27, 3, 8, 6, 143, .int 0, rm_M0, []),
  (.aload 0, .aload_n 0, 1, 0, 0, 0, .null, rm_M0, []),
  (.nop, .iconst 0, 1, 0, 0, 0, .int 0, rm_M0, []),
  (.putfield 30, .putfield 30, 3, 8, 7, 144, .int 0, rm_M0, []),
  (.aload 0, .aload_n 0, 1, 0, 0, 0, .null, rm_M0, []),
  (.nop, .iconst 0, 1, 0, 0, 0, .int 0, rm_M0, []),
  (.putfield 33, .putfield 33, 3, 8, 2, 137, .int 0, rm_M0, []),
  (.nop, .iconst 0, 1, 0, 0, 0, .int 0, rm_M0, []),
  (.istore 1, .istore_n 1, 1, 0, 0, 0, .null, rm_M0, []),
  (.nop, .iconst 0, 1, 0, 0, 0, .int 0, rm_M0, []),
  (.istore 2, .istore_n 2, 1, 0, 0, 0, .null, rm_M0, [])]
def bX8_split_19 : List rm_J := [
  (.iload 2, .iload_n 2, 1, 0, 0, 0, .null, rm_M0, []),
  (.aload 0, .aload_n 0, 1, 0, 0, 0, .null, rm_M0, []),
  (.getfield 23, .getfield 23, 3, 8, 1, 135, .null, rm_M0, []),
  (.if_icmp .ge 30, .if_icmp .ge 30, 3, 54, 0, 0, .null, rm_M0, []),
  (.iload 2, .iload_n 2, 1, 0, 0, 0, .null, rm_M0, []),
  (.iload 1, .iload_n 1, 1, 0, 0, 0, .null, rm_M0, []),
  (.if_icmp .lt 19, .if_icmp .lt 19, 3, 48, 0, 0, .null, rm_M0, []),
  (.aload 0, .aload_n 0, 1, 0, 0, 0, .null, rm_M0, []),
  (.iload 2, .iload_n 2, 1, 0, 0, 0, .null, rm_M0, []),
  (.invokevirtual 36, .invokevirtual 36, 3, 0, 1, 0, .null, mX8_byteAt, [(0, 500), (0, 502), (0, 0)]),
  (.nop, .bipush 32, 2, 0, 0, 0, .int 32, rm_M0, []),
  (.if_icmp .eq 9, .if_icmp .eq 9, 3, 48, 0, 0, .null, rm_M0, []),
  (.aload 0, .aload_n 0, 1, 0, 0, 0, .null, rm_M0, []),
  (.iload 2, .iload_n 2, 1, 0, 0, 0, .null, rm_M0, []),
  (.invokevirtual 40, .invokevirtual 40, 3, 0, 1, 0, .null, mX8_splitAt, [(0, 504), (0, 506), (0, 1)]),
  (.istore 1, .istore_n 1, 1, 0, 0, 0, .null, rm_M0, [])]
def bX8_split_48 : List rm_J := [
  (.iinc 2 1, .iinc 2 1, 3, 0, 0, 0, .int 1, rm_M0, []),
  (.goto (-32), .goto (-32), 3, 19, 0, 0, .null, rm_M0, [])]
def bX8_split_54 : List rm_J := [
  (.aload 0, .aload_n 0, 1, 0, 0, 0, .null, rm_M0, []),
  (.nop, .sipush 259, 3, 0, 0, 0, .int 259, rm_M0, []),
  (.aload 0, .aload_n 0, 1, 0, 0, 0, .null, rm_M0, []),
  (.getfield 23, .getfield 23, 3, 8, 1, 135, .null, rm_M0, []),
  (.nop, .iconst 0, 1, 0, 0, 0, .int 0, rm_M0, []),
  (.invokevirtual 43, .invokevirtual 43, 3, 0, 3, 0, .null, mX8_put, [(0, 515), (0, 517), (0, 3)]),
  (.return_, .return_, 1, 0, 0, 0, .null, rm_M0, [])]
def tX8_split : rm_P := [(0, bX8_split_0), (19, bX8_split_19), (48, bX8_split_48), (54, bX8_split_54)]
theorem ok_X8_split_t : rm_okP mX8_split tX8_split = true := by decide +kernel
theorem ok_X8_split : rm_okM mX8_split tX8_split := ⟨ok_X8_split_t, List.forall_mem_cons.mpr ⟨cw_X8_byteAt, List.forall_mem_cons.mpr ⟨cw_X8_splitAt, List.forall_mem_cons.mpr ⟨cw_X8_put, fun _ h => absurd h List.not_mem_nil⟩⟩⟩⟩
theorem atX8_split_0 : rm_at tX8_split 0 = some bX8_split_0 := rfl
theorem atX8_split_19 : rm_at tX8_split 19 = some bX8_split_19 := rfl
theorem atX8_split_48 : rm_at tX8_split 48 = some bX8_split_48 := rfl
theorem atX8_split_54 : rm_at tX8_split 54 = some bX8_split_54 := rfl
def bX8_token_0 : List rm_J := [
  (.aload 0, .aload_n 0, 1, 0, 0, 0, .null, rm_M0, []),
  (.getfield 13, .getfield 13, 3, 8, 3, 140, .null, rm_M0, []),
  (.aload 0, .aload_n 0, 1, 0, 0, 0, .null, rm_M0, []),
  (.getfield 30, .getfield 30, 3, 8, 7, 144, .null, rm_M0, []),
  (.iaload, .iaload, 1, 0, 0, 0, .null, rm_M0, []),
  (.ireturn, .ireturn, 1, 0, 0, 0, .null, rm_M0, [])]
def tX8_token : rm_P := [(0, bX8_token_0)]
theorem ok_X8_token_t : rm_okP mX8_token tX8_token = true := by decide +kernel
theorem ok_X8_token : rm_okM mX8_token tX8_token := ⟨ok_X8_token_t, fun _ h => absurd h List.not_mem_nil⟩
theorem atX8_token_0 : rm_at tX8_token 0 = some bX8_token_0 := rfl
def bX8_value_0 : List rm_J := [
  (.aload 0, .aload_n 0, 1, 0, 0, 0, .null, rm_M0, []),
  (.getfield 20, .getfield 20, 3, 8, 5, 142, .null, rm_M0, []),
  (.aload 0, .aload_n 0, 1, 0, 0, 0, .null, rm_M0, []),
  (.getfield 30, .getfield 30, 3, 8, 7, 144, .null, rm_M0, []),
  (.iaload, .iaload, 1, 0, 0, 0, .null, rm_M0, []),
  (.ireturn, .ireturn, 1, 0, 0, 0, .null, rm_M0, [])]
def tX8_value : rm_P := [(0, bX8_value_0)]
theorem ok_X8_value_t : rm_okP mX8_value tX8_value = true := by decide +kernel
theorem ok_X8_value : rm_okM mX8_value tX8_value := ⟨ok_X8_value_t, fun _ h => absurd h List.not_mem_nil⟩
theorem atX8_value_0 : rm_at tX8_value 0 = some bX8_value_0 := rfl
def bX8_step_0 : List rm_J := [
  (.aload 0, .aload_n 0, 1, 0, 0, 0, .null, rm_M0, []),
  (.getfield 30, .getfield 30, 3, 8, 7, 144, .null, rm_M0, []),
  (.nop, .iconst 1, 1, 0, 0, 0, .int 1, rm_M0, []),
  (.iadd, .iadd, 1, 0, 0, 0, .null, rm_M0, []),
  (.aload 0, .aload_n 0, 1, 0, 0, 0, .null, rm_M0, []),
  (.getfield 27, .getfield 27, 3, 8, 6, 143, .null, rm_M0, []),
  (.if_icmp .ge 13, .if_icmp .ge 13, 3, 23, 0, 0, .null, rm_M0, []),
  (.aload 0, .aload_n 0, 1, 0, 0, 0, .null, rm_M0, []),
  (.dup, .dup, 1, 0, 0, 0, .null, rm_M0, []),
  (.getfield 30, .getfield 30, 3, 8, 7, 144, .null, rm_M0, []),
  (.nop, .iconst 1, 1, 0, 0, 0, .int 1, rm_M0, []),
  (.iadd, .iadd, 1, 0, 0, 0, .null, rm_M0, []),
  (.putfield 30, .putfield 30, 3, 8, 7, 144, .int 0, rm_M0, [])]
def bX8_step_23 : List rm_J := [
  (.return_, .return_, 1, 0, 0, 0, .null, rm_M0, [])]
def tX8_step : rm_P := [(0, bX8_step_0), (23, bX8_step_23)]
theorem ok_X8_step_t : rm_okP mX8_step tX8_step = true := by decide +kernel
theorem ok_X8_step : rm_okM mX8_step tX8_step := ⟨ok_X8_step_t, fun _ h => absurd h List.not_mem_nil⟩
theorem atX8_step_0 : rm_at tX8_step 0 = some bX8_step_0 := rfl
theorem atX8_step_23 : rm_at tX8_step 23 = some bX8_step_23 := rfl
def bX8_fail_0 : List rm_J := [
  (.aload 0, .aload_n 0, 1, 0, 0, 0, .null, rm_M0, []),
  (.getfield 33, .getfield 33, 3, 8, 2, 137, .null, rm_M0, []),
  (.ifCond .ne 23, .ifCond .ne 23, 3, 27, 0, 0, .null, rm_M0, []),
  (.aload 0, .aload_n 0, 1, 0, 0, 0, .null, rm_M0, []),
  (.nop, .iconst 1, 1, 0, 0, 0, .int 1, rm_M0, []),
  (.nop, .bipush 8, 2, 0, 0, 0, .int 8, rm_M0, []),
  (.aload 0, .aload_n 0, 1, 0, 0, 0, .null, rm_M0, []),
  (.getfield 17, .getfield 17, 3, 8, 4, 141, .null, rm_M0, []),
  (.aload 0, .aload_n 0, 1, 0, 0, 0, .null, rm_M0, []),
  (.getfield 30, .getfield 30, 3, 8, 7, 144, .null, rm_M0, []),
  (.iaload, .iaload, 1, 0, 0, 0, .null, rm_M0, []),
  (.imul, .imul, 1, 0, 0, 0, .null, rm_M0, []),
  (.iadd, .iadd, 1, 0, 0, 0, .null, rm_M0, []),
  (.iload 1, .iload_n 1, 1, 0, 0, 0, .null, rm_M0, []),
  (.iadd, .iadd, 1, 0, 0, 0, .null, rm_M0, []),
  (.putfield 33, .putfield 33, 3, 8, 2, 137, .int 0, rm_M0, [])]
def bX8_fail_27 : List rm_J := [
  (.return_, .return_, 1, 0, 0, 0, .null, rm_M0, [])]
def tX8_fail : rm_P := [(0, bX8_fail_0), (27, bX8_fail_27)]
theorem ok_X8_fail_t : rm_okP mX8_fail tX8_fail = true := by decide +kernel
theorem ok_X8_fail : rm_okM mX8_fail tX8_fail := ⟨ok_X8_fail_t, fun _ h => absurd h List.not_mem_nil⟩
theorem atX8_fail_0 : rm_at tX8_fail 0 = some bX8_fail_0 := rfl
theorem atX8_fail_27 : rm_at tX8_fail 27 = some bX8_fail_27 := rfl
def bX8_number_0 : List rm_J := [
  (.aload 0, .aload_n 0, 1, 0, 0, 0, .null, rm_M0, []),
  (.getfield 33, .getfield 33, 3, 8, 2, 137, .null, rm_M0, []),
  (.ifCond .eq 5, .ifCond .eq 5, 3, 9, 0, 0, .null, rm_M0, []),
  (.nop, .iconst 0, 1, 0, 0, 0, .int 0, rm_M0, []),
  (.ireturn, .ireturn, 1, 0, 0, 0, .null, rm_M0, [])]
def bX8_number_9 : List rm_J := [
  (.aload 0, .aload_n 0, 1, 0, 0, 0, .null, rm_M0, []),
  (.getfield 20, .getfield 20, 3, 8, 5, 142, .null, rm_M0, []),
  (.aload 0, .aload_n 0, 1, 0, 0, 0, .null, rm_M0, []),
  (.getfield 30, .getfield 30, 3, 8, 7, 144, .null, rm_M0, []),
  (.iaload, .iaload, 1, 0, 0, 0, .null, rm_M0, []),
  (.istore 4, .istore 4, 2, 0, 0, 0, .null, rm_M0, []),
  (.aload 0, .aload_n 0, 1, 0, 0, 0, .null, rm_M0, []),
  (.getfield 13, .getfield 13, 3, 8, 3, 140, .null, rm_M0, []),
  (.aload 0, .aload_n 0, 1, 0, 0, 0, .null, rm_M0, []),
  (.getfield 30, .getfield 30, 3, 8, 7, 144, .null, rm_M0, []),
  (.iaload, .iaload, 1, 0, 0, 0, .null, rm_M0, []),
  (.nop, .sipush 258, 3, 0, 0, 0, .int 258, rm_M0, []),
  (.if_icmp .eq 10, .if_icmp .eq 10, 3, 42, 0, 0, .null, rm_M0, []),
  (.aload 0, .aload_n 0, 1, 0, 0, 0, .null, rm_M0, []),
  (.nop, .iconst 0, 1, 0, 0, 0, .int 0, rm_M0, []),
  (.invokevirtual 47, .invokevirtual 47, 3, 0, 1, 0, .null, mX8_fail, [(0, 673), (0, 662), (0, 663)]),
  (.nop, .iconst 0, 1, 0, 0, 0, .int 0, rm_M0, []),
  (.ireturn, .ireturn, 1, 0, 0, 0, .null, rm_M0, [])]
def bX8_number_42 : List rm_J := [
  (.iload 4, .iload 4, 2, 0, 0, 0, .null, rm_M0, []),
  (.iload 1, .iload_n 1, 1, 0, 0, 0, .null, rm_M0, []),
  (.if_icmp .lt 15, .if_icmp .lt 15, 3, 60, 0, 0, .null, rm_M0, []),
  (.iload 4, .iload 4, 2, 0, 0, 0, .null, rm_M0, []),
  (.iload 2, .iload_n 2, 1, 0, 0, 0, .null, rm_M0, []),
  (.if_icmp .gt 9, .if_icmp .gt 9, 3, 60, 0, 0, .null, rm_M0, []),
  (.iload 4, .iload 4, 2, 0, 0, 0, .null, rm_M0, []),
  (.iload 3, .iload_n 3, 1, 0, 0, 0, .null, rm_M0, []),
  (.if_icmp .ne 10, .if_icmp .ne 10, 3, 67, 0, 0, .null, rm_M0, [])]
def bX8_number_60 : List rm_J := [
  (.aload 0, .aload_n 0, 1, 0, 0, 0, .null, rm_M0, []),
  (.nop, .iconst 1, 1, 0, 0, 0, .int 1, rm_M0, []),
  (.invokevirtual 47, .invokevirtual 47, 3, 0, 1, 0, .null, mX8_fail, [(0, 673), (0, 662), (0, 663)]),
  (.nop, .iconst 0, 1, 0, 0, 0, .int 0, rm_M0, []),
  (.ireturn, .ireturn, 1, 0, 0, 0, .null, rm_M0, [])]
def bX8_number_67 : List rm_J := [
  (.aload 0, .aload_n 0, 1, 0, 0, 0, .null, rm_M0, []),
  (.invokevirtual 51, .invokevirtual 51, 3, 0, 0, 0, .null, mX8_step, [(0, 674), (0, 666), (0, 667)]),
  (.iload 4, .iload 4, 2, 0, 0, 0, .null, rm_M0, []),
  (.ireturn, .ireturn, 1, 0, 0, 0, .null, rm_M0, [])]
def tX8_number : rm_P := [(0, bX8_number_0), (9, bX8_number_9), (42, bX8_number_42), (60, bX8_number_60), (67, bX8_number_67)]
theorem ok_X8_number_t : rm_okP mX8_number tX8_number = true := by decide +kernel
theorem ok_X8_number : rm_okM mX8_number tX8_number := ⟨ok_X8_number_t, List.forall_mem_cons.mpr ⟨cw_X8_fail, List.forall_mem_cons.mpr ⟨cw_X8_fail, List.forall_mem_cons.mpr ⟨cw_X8_step, fun _ h => absurd h List.not_mem_nil⟩⟩⟩⟩
theorem atX8_number_0 : rm_at tX8_number 0 = some bX8_number_0 := rfl
theorem atX8_number_9 : rm_at tX8_number 9 = some bX8_number_9 := rfl
theorem atX8_number_42 : rm_at tX8_number 42 = some bX8_number_42 := rfl
theorem atX8_number_60 : rm_at tX8_number 60 = some bX8_number_60 := rfl
theorem atX8_number_67 : rm_at tX8_number 67 = some bX8_number_67 := rfl
def bX8_goesOn_0 : List rm_J := [
  (.aload 0, .aload_n 0, 1, 0, 0, 0, .null, rm_M0, []),
  (.getfield 33, .getfield 33, 3, 8, 2, 137, .null, rm_M0, []),
  (.ifCond .ne 18, .ifCond .ne 18, 3, 22, 0, 0, .null, rm_M0, []),
  (.aload 0, .aload_n 0, 1, 0, 0, 0, .null, rm_M0, []),
  (.getfield 13, .getfield 13, 3, 8, 3, 140, .null, rm_M0, []),
  (.aload 0, .aload_n 0, 1, 0, 0, 0, .null, rm_M0, []),
  (.getfield 30, .getfield 30, 3, 8, 7, 144, .null, rm_M0, []),
  (.iaload, .iaload, 1, 0, 0, 0, .null, rm_M0, []),
  (.nop, .sipush 259, 3, 0, 0, 0, .int 259, rm_M0, []),
  (.if_icmp .ne 5, .if_icmp .ne 5, 3, 24, 0, 0, .null, rm_M0, [])]
def bX8_goesOn_22 : List rm_J := [
  (.nop, .iconst 0, 1, 0, 0, 0, .int 0, rm_M0, []),
  (.ireturn, .ireturn, 1, 0, 0, 0, .null, rm_M0, [])]
def bX8_goesOn_24 : List rm_J := [
  (.aload 0, .aload_n 0, 1, 0, 0, 0, .null, rm_M0, []),
  (.getfield 13, .getfield 13, 3, 8, 3, 140, .null, rm_M0, []),
  (.aload 0, .aload_n 0, 1, 0, 0, 0, .null, rm_M0, []),
  (.getfield 30, .getfield 30, 3, 8, 7, 144, .null, rm_M0, []),
  (.iaload, .iaload, 1, 0, 0, 0, .null, rm_M0, []),
  (.nop, .bipush 59, 2, 0, 0, 0, .int 59, rm_M0, []),
  (.if_icmp .eq 10, .if_icmp .eq 10, 3, 45, 0, 0, .null, rm_M0, []),
  (.aload 0, .aload_n 0, 1, 0, 0, 0, .null, rm_M0, []),
  (.nop, .iconst 0, 1, 0, 0, 0, .int 0, rm_M0, []),
  (.invokevirtual 47, .invokevirtual 47, 3, 0, 1, 0, .null, mX8_fail, [(0, 673), (0, 662), (0, 663)]),
  (.nop, .iconst 0, 1, 0, 0, 0, .int 0, rm_M0, []),
  (.ireturn, .ireturn, 1, 0, 0, 0, .null, rm_M0, [])]
def bX8_goesOn_45 : List rm_J := [
  (.aload 0, .aload_n 0, 1, 0, 0, 0, .null, rm_M0, []),
  (.invokevirtual 51, .invokevirtual 51, 3, 0, 0, 0, .null, mX8_step, [(0, 674), (0, 666), (0, 667)]),
  (.nop, .iconst 1, 1, 0, 0, 0, .int 1, rm_M0, []),
  (.ireturn, .ireturn, 1, 0, 0, 0, .null, rm_M0, [])]
def tX8_goesOn : rm_P := [(0, bX8_goesOn_0), (22, bX8_goesOn_22), (24, bX8_goesOn_24), (45, bX8_goesOn_45)]
theorem ok_X8_goesOn_t : rm_okP mX8_goesOn tX8_goesOn = true := by decide +kernel
theorem ok_X8_goesOn : rm_okM mX8_goesOn tX8_goesOn := ⟨ok_X8_goesOn_t, List.forall_mem_cons.mpr ⟨cw_X8_fail, List.forall_mem_cons.mpr ⟨cw_X8_step, fun _ h => absurd h List.not_mem_nil⟩⟩⟩
theorem atX8_goesOn_0 : rm_at tX8_goesOn 0 = some bX8_goesOn_0 := rfl
theorem atX8_goesOn_22 : rm_at tX8_goesOn 22 = some bX8_goesOn_22 := rfl
theorem atX8_goesOn_24 : rm_at tX8_goesOn 24 = some bX8_goesOn_24 := rfl
theorem atX8_goesOn_45 : rm_at tX8_goesOn 45 = some bX8_goesOn_45 := rfl
def bX8_splitAt_0 : List rm_J := [
  (.aload 0, .aload_n 0, 1, 0, 0, 0, .null, rm_M0, []),
  (.iload 1, .iload_n 1, 1, 0, 0, 0, .null, rm_M0, []),
  (.invokevirtual 36, .invokevirtual 36, 3, 0, 1, 0, .null, mX8_byteAt, [(0, 500), (0, 502), (0, 0)]),
  (.istore 2, .istore_n 2, 1, 0, 0, 0, .null, rm_M0, []),
  (.iload 2, .iload_n 2, 1, 0, 0, 0, .null, rm_M0, []),
  (.invokestatic 54, .invokestatic 54, 3, 0, 1, 0, .null, mX8_isDigit, [(0, 508), (0, 509)]),
  (.ifCond .eq 9, .ifCond .eq 9, 3, 19, 0, 0, .null, rm_M0, []),
  (.aload 0, .aload_n 0, 1, 0, 0, 0, .null, rm_M0, []),
  (.iload 1, .iload_n 1, 1, 0, 0, 0, .null, rm_M0, []),
  (.invokevirtual 58, .invokevirtual 58, 3, 0, 1, 0, .null, mX8_splitNumber, [(0, 511), (0, 513), (0, 2)]),
  (.ireturn, .ireturn, 1, 0, 0, 0, .null, rm_M0, [])]
def bX8_splitAt_19 : List rm_J := [
  (.iload 2, .iload_n 2, 1, 0, 0, 0, .null, rm_M0, []),
  (.invokestatic 61, .invokestatic 61, 3, 0, 1, 0, .null, mX8_isLetter, [(0, 519), (0, 520)]),
  (.ifCond .eq 11, .ifCond .eq 11, 3, 34, 0, 0, .null, rm_M0, []),
  (.aload 0, .aload_n 0, 1, 0, 0, 0, .null, rm_M0, []),
  (.iload 1, .iload_n 1, 1, 0, 0, 0, .null, rm_M0, []),
  (.invokevirtual 64, .invokevirtual 64, 3, 0, 1, 0, .null, mX8_splitWord, [(0, 522), (0, 524), (0, 4)]),
  (.goto 8, .goto 8, 3, 39, 0, 0, .null, rm_M0, [])]
def bX8_splitAt_34 : List rm_J := [
  (.aload 0, .aload_n 0, 1, 0, 0, 0, .null, rm_M0, []),
  (.iload 1, .iload_n 1, 1, 0, 0, 0, .null, rm_M0, []),
  (.invokevirtual 67, .invokevirtual 67, 3, 0, 1, 0, .null, mX8_splitSign, [(0, 583), (0, 585), (0, 7)])]
def bX8_splitAt_39 : List rm_J := [
  (.ireturn, .ireturn, 1, 0, 0, 0, .null, rm_M0, [])]
def tX8_splitAt : rm_P := [(0, bX8_splitAt_0), (19, bX8_splitAt_19), (34, bX8_splitAt_34), (39, bX8_splitAt_39)]
theorem ok_X8_splitAt_t : rm_okP mX8_splitAt tX8_splitAt = true := by decide +kernel
theorem ok_X8_splitAt : rm_okM mX8_splitAt tX8_splitAt := ⟨ok_X8_splitAt_t, List.forall_mem_cons.mpr ⟨cw_X8_byteAt, List.forall_mem_cons.mpr ⟨cw_X8_isDigit, List.forall_mem_cons.mpr ⟨cw_X8_splitNumber, List.forall_mem_cons.mpr ⟨cw_X8_isLetter, List.forall_mem_cons.mpr ⟨cw_X8_splitWord, List.forall_mem_cons.mpr ⟨cw_X8_splitSign, fun _ h => absurd h List.not_mem_nil⟩⟩⟩⟩⟩⟩⟩
theorem atX8_splitAt_0 : rm_at tX8_splitAt 0 = some bX8_splitAt_0 := rfl
theorem atX8_splitAt_19 : rm_at tX8_splitAt 19 = some bX8_splitAt_19 := rfl
theorem atX8_splitAt_34 : rm_at tX8_splitAt 34 = some bX8_splitAt_34 := rfl
theorem atX8_splitAt_39 : rm_at tX8_splitAt 39 = some bX8_splitAt_39 := rfl
def bX8_splitNumber_0 : List rm_J := [
  (.nop, .iconst 0, 1, 0, 0, 0, .int 0, rm_M0, []),
  (.istore 2, .istore_n 2, 1, 0, 0, 0, .null, rm_M0, []),
  (.iload 1, .iload_n 1, 1, 0, 0, 0, .null, rm_M0, []),
  (.istore 3, .istore_n 3, 1, 0, 0, 0, .null, rm_M0, [])]
def bX8_splitNumber_4 : List rm_J := [
  (.iload 3, .iload_n 3, 1, 0, 0, 0, .null, rm_M0, []),
  (.aload 0, .aload_n 0, 1, 0, 0, 0, .null, rm_M0, []),
  (.getfield 23, .getfield 23, 3, 8, 1, 135, .null, rm_M0, []),
  (.if_icmp .ge 41, .if_icmp .ge 41, 3, 50, 0, 0, .null, rm_M0, []),
  (.aload 0, .aload_n 0, 1, 0, 0, 0, .null, rm_M0, []),
  (.iload 3, .iload_n 3, 1, 0, 0, 0, .null, rm_M0, []),
  (.invokevirtual 36, .invokevirtual 36, 3, 0, 1, 0, .null, mX8_byteAt, [(0, 500), (0, 502), (0, 0)]),
  (.invokestatic 54, .invokestatic 54, 3, 0, 1, 0, .null, mX8_isDigit, [(0, 508), (0, 509)]),
  (.ifCond .eq 30, .ifCond .eq 30, 3, 50, 0, 0, .null, rm_M0, []),
  (.iload 3, .iload_n 3, 1, 0, 0, 0, .null, rm_M0, []),
  (.iload 1, .iload_n 1, 1, 0, 0, 0, .null, rm_M0, []),
  (.isub, .isub, 1, 0, 0, 0, .null, rm_M0, []),
  (.nop, .iconst 5, 1, 0, 0, 0, .int 5, rm_M0, []),
  (.if_icmp .ge 17, .if_icmp .ge 17, 3, 44, 0, 0, .null, rm_M0, []),
  (.iload 2, .iload_n 2, 1, 0, 0, 0, .null, rm_M0, []),
  (.nop, .bipush 10, 2, 0, 0, 0, .int 10, rm_M0, []),
  (.imul, .imul, 1, 0, 0, 0, .null, rm_M0, []),
  (.aload 0, .aload_n 0, 1, 0, 0, 0, .null, rm_M0, []),
  (.iload 3, .iload_n 3, 1, 0, 0, 0, .null, rm_M0, []),
  (.invokevirtual 36, .invokevirtual 36, 3, 0, 1, 0, .null, mX8_byteAt, [(0, 500), (0, 502), (0, 0)]),
  (.iadd, .iadd, 1, 0, 0, 0, .null, rm_M0, []),
  (.nop, .bipush 48, 2, 0, 0, 0, .int 48, rm_M0, []),
  (.isub, .isub, 1, 0, 0, 0, .null, rm_M0, []),
  (.istore 2, .istore_n 2, 1, 0, 0, 0, .null, rm_M0, [])]
def bX8_splitNumber_44 : List rm_J := [
  (.iinc 3 1, .iinc 3 1, 3, 0, 0, 0, .int 1, rm_M0, []),
  (.goto (-43), .goto (-43), 3, 4, 0, 0, .null, rm_M0, [])]
def bX8_splitNumber_50 : List rm_J := [
  (.aload 0, .aload_n 0, 1, 0, 0, 0, .null, rm_M0, []),
  (.nop, .sipush 258, 3, 0, 0, 0, .int 258, rm_M0, []),
  (.iload 1, .iload_n 1, 1, 0, 0, 0, .null, rm_M0, []),
  (.iload 3, .iload_n 3, 1, 0, 0, 0, .null, rm_M0, []),
  (.iload 1, .iload_n 1, 1, 0, 0, 0, .null, rm_M0, []),
  (.isub, .isub, 1, 0, 0, 0, .null, rm_M0, []),
  (.nop, .iconst 5, 1, 0, 0, 0, .int 5, rm_M0, []),
  (.if_icmp .le 7, .if_icmp .le 7, 3, 66, 0, 0, .null, rm_M0, []),
  (.nop, .iconst (-1), 1, 0, 0, 0, .int (-1), rm_M0, []),
  (.goto 4, .goto 4, 3, 67, 0, 0, .null, rm_M0, [])]
def bX8_splitNumber_66 : List rm_J := [
  (.iload 2, .iload_n 2, 1, 0, 0, 0, .null, rm_M0, [])]
def bX8_splitNumber_67 : List rm_J := [
  (.invokevirtual 43, .invokevirtual 43, 3, 0, 3, 0, .null, mX8_put, [(0, 515), (0, 517), (0, 3)]),
  (.iload 3, .iload_n 3, 1, 0, 0, 0, .null, rm_M0, []),
  (.ireturn, .ireturn, 1, 0, 0, 0, .null, rm_M0, [])]
def tX8_splitNumber : rm_P := [(0, bX8_splitNumber_0), (4, bX8_splitNumber_4), (44, bX8_splitNumber_44), (50, bX8_splitNumber_50), (66, bX8_splitNumber_66), (67, bX8_splitNumber_67)]
theorem ok_X8_splitNumber_t : rm_okP mX8_splitNumber tX8_splitNumber = true := by decide +kernel
theorem ok_X8_splitNumber : rm_okM mX8_splitNumber tX8_splitNumber := ⟨ok_X8_splitNumber_t, List.forall_mem_cons.mpr ⟨cw_X8_byteAt, List.forall_mem_cons.mpr ⟨cw_X8_isDigit, List.forall_mem_cons.mpr ⟨cw_X8_byteAt, List.forall_mem_cons.mpr ⟨cw_X8_put, fun _ h => absurd h List.not_mem_nil⟩⟩⟩⟩⟩
theorem atX8_splitNumber_0 : rm_at tX8_splitNumber 0 = some bX8_splitNumber_0 := rfl
theorem atX8_splitNumber_4 : rm_at tX8_splitNumber 4 = some bX8_splitNumber_4 := rfl
theorem atX8_splitNumber_44 : rm_at tX8_splitNumber 44 = some bX8_splitNumber_44 := rfl
theorem atX8_splitNumber_50 : rm_at tX8_splitNumber 50 = some bX8_splitNumber_50 := rfl
theorem atX8_splitNumber_66 : rm_at tX8_splitNumber 66 = some bX8_splitNumber_66 := rfl
theorem atX8_splitNumber_67 : rm_at tX8_splitNumber 67 = some bX8_splitNumber_67 := rfl
def bX8_splitWord_0 : List rm_J := [
  (.iload 1, .iload_n 1, 1, 0, 0, 0, .null, rm_M0, []),
  (.nop, .iconst 1, 1, 0, 0, 0, .int 1, rm_M0, []),
  (.iadd, .iadd, 1, 0, 0, 0, .null, rm_M0, []),
  (.istore 2, .istore_n 2, 1, 0, 0, 0, .null, rm_M0, [])]
def bX8_splitWord_4 : List rm_J := [
  (.iload 2, .iload_n 2, 1, 0, 0, 0, .null, rm_M0, []),
  (.aload 0, .aload_n 0, 1, 0, 0, 0, .null, rm_M0, []),
  (.getfield 23, .getfield 23, 3, 8, 1, 135, .null, rm_M0, []),
  (.if_icmp .ge 20, .if_icmp .ge 20, 3, 29, 0, 0, .null, rm_M0, []),
  (.aload 0, .aload_n 0, 1, 0, 0, 0, .null, rm_M0, []),
  (.iload 2, .iload_n 2, 1, 0, 0, 0, .null, rm_M0, []),
  (.invokevirtual 36, .invokevirtual 36, 3, 0, 1, 0, .null, mX8_byteAt, [(0, 500), (0, 502), (0, 0)]),
  (.invokestatic 61, .invokestatic 61, 3, 0, 1, 0, .null, mX8_isLetter, [(0, 519), (0, 520)]),
  (.ifCond .eq 9, .ifCond .eq 9, 3, 29, 0, 0, .null, rm_M0, []),
  (.iinc 2 1, .iinc 2 1, 3, 0, 0, 0, .int 1, rm_M0, []),
  (.goto (-22), .goto (-22), 3, 4, 0, 0, .null, rm_M0, [])]
def bX8_splitWord_29 : List rm_J := [
  (.aload 0, .aload_n 0, 1, 0, 0, 0, .null, rm_M0, []),
  (.aload 0, .aload_n 0, 1, 0, 0, 0, .null, rm_M0, []),
  (.iload 1, .iload_n 1, 1, 0, 0, 0, .null, rm_M0, []),
  (.iload 2, .iload_n 2, 1, 0, 0, 0, .null, rm_M0, []),
  (.invokevirtual 70, .invokevirtual 70, 3, 0, 2, 0, .null, mX8_wordOf, [(0, 526), (0, 528), (0, 5)]),
  (.iload 1, .iload_n 1, 1, 0, 0, 0, .null, rm_M0, []),
  (.nop, .iconst 0, 1, 0, 0, 0, .int 0, rm_M0, []),
  (.invokevirtual 43, .invokevirtual 43, 3, 0, 3, 0, .null, mX8_put, [(0, 515), (0, 517), (0, 3)]),
  (.iload 2, .iload_n 2, 1, 0, 0, 0, .null, rm_M0, []),
  (.ireturn, .ireturn, 1, 0, 0, 0, .null, rm_M0, [])]
def tX8_splitWord : rm_P := [(0, bX8_splitWord_0), (4, bX8_splitWord_4), (29, bX8_splitWord_29)]
theorem ok_X8_splitWord_t : rm_okP mX8_splitWord tX8_splitWord = true := by decide +kernel
theorem ok_X8_splitWord : rm_okM mX8_splitWord tX8_splitWord := ⟨ok_X8_splitWord_t, List.forall_mem_cons.mpr ⟨cw_X8_byteAt, List.forall_mem_cons.mpr ⟨cw_X8_isLetter, List.forall_mem_cons.mpr ⟨cw_X8_wordOf, List.forall_mem_cons.mpr ⟨cw_X8_put, fun _ h => absurd h List.not_mem_nil⟩⟩⟩⟩⟩
theorem atX8_splitWord_0 : rm_at tX8_splitWord 0 = some bX8_splitWord_0 := rfl
theorem atX8_splitWord_4 : rm_at tX8_splitWord 4 = some bX8_splitWord_4 := rfl
theorem atX8_splitWord_29 : rm_at tX8_splitWord 29 = some bX8_splitWord_29 := rfl
def bX8_splitSign_0 : List rm_J := [
  (.aload 0, .aload_n 0, 1, 0, 0, 0, .null, rm_M0, []),
  (.iload 1, .iload_n 1, 1, 0, 0, 0, .null, rm_M0, []),
  (.invokevirtual 36, .invokevirtual 36, 3, 0, 1, 0, .null, mX8_byteAt, [(0, 500), (0, 502), (0, 0)]),
  (.istore 2, .istore_n 2, 1, 0, 0, 0, .null, rm_M0, []),
  (.iload 2, .iload_n 2, 1, 0, 0, 0, .null, rm_M0, []),
  (.nop, .bipush 60, 2, 0, 0, 0, .int 60, rm_M0, []),
  (.if_icmp .eq 9, .if_icmp .eq 9, 3, 18, 0, 0, .null, rm_M0, []),
  (.iload 2, .iload_n 2, 1, 0, 0, 0, .null, rm_M0, []),
  (.nop, .bipush 62, 2, 0, 0, 0, .int 62, rm_M0, []),
  (.if_icmp .ne 40, .if_icmp .ne 40, 3, 55, 0, 0, .null, rm_M0, [])]
def bX8_splitSign_18 : List rm_J := [
  (.aload 0, .aload_n 0, 1, 0, 0, 0, .null, rm_M0, []),
  (.iload 1, .iload_n 1, 1, 0, 0, 0, .null, rm_M0, []),
  (.nop, .iconst 1, 1, 0, 0, 0, .int 1, rm_M0, []),
  (.iadd, .iadd, 1, 0, 0, 0, .null, rm_M0, []),
  (.invokevirtual 36, .invokevirtual 36, 3, 0, 1, 0, .null, mX8_byteAt, [(0, 500), (0, 502), (0, 0)]),
  (.nop, .bipush 61, 2, 0, 0, 0, .int 61, rm_M0, []),
  (.if_icmp .ne 28, .if_icmp .ne 28, 3, 55, 0, 0, .null, rm_M0, []),
  (.aload 0, .aload_n 0, 1, 0, 0, 0, .null, rm_M0, []),
  (.iload 2, .iload_n 2, 1, 0, 0, 0, .null, rm_M0, []),
  (.nop, .bipush 60, 2, 0, 0, 0, .int 60, rm_M0, []),
  (.if_icmp .ne 9, .if_icmp .ne 9, 3, 43, 0, 0, .null, rm_M0, []),
  (.nop, .sipush 256, 3, 0, 0, 0, .int 256, rm_M0, []),
  (.goto 6, .goto 6, 3, 46, 0, 0, .null, rm_M0, [])]
def bX8_splitSign_43 : List rm_J := [
  (.nop, .sipush 257, 3, 0, 0, 0, .int 257, rm_M0, [])]
def bX8_splitSign_46 : List rm_J := [
  (.iload 1, .iload_n 1, 1, 0, 0, 0, .null, rm_M0, []),
  (.nop, .iconst 0, 1, 0, 0, 0, .int 0, rm_M0, []),
  (.invokevirtual 43, .invokevirtual 43, 3, 0, 3, 0, .null, mX8_put, [(0, 515), (0, 517), (0, 3)]),
  (.iload 1, .iload_n 1, 1, 0, 0, 0, .null, rm_M0, []),
  (.nop, .iconst 2, 1, 0, 0, 0, .int 2, rm_M0, []),
  (.iadd, .iadd, 1, 0, 0, 0, .null, rm_M0, []),
  (.ireturn, .ireturn, 1, 0, 0, 0, .null, rm_M0, [])]
def bX8_splitSign_55 : List rm_J := [
  (.aload 0, .aload_n 0, 1, 0, 0, 0, .null, rm_M0, []),
  (.nop, .ldc 74, 2, 0, 0, 0, .ref 1000000001, rm_M0, []),
  (.iload 2, .iload_n 2, 1, 0, 0, 0, .null, rm_M0, []),
  (.i2c, .i2c, 1, 0, 0, 0, .null, rm_M0, []),
  (.invokevirtual 76, .invokevirtual 76, 3, 0, 1, 0, .null, mJ0_indexOf_0f7a4, [(0, 588), (0, 589), (0, 590)]),
  (.ifCond .lt 7, .ifCond .lt 7, 3, 70, 0, 0, .null, rm_M0, []),
  (.iload 2, .iload_n 2, 1, 0, 0, 0, .null, rm_M0, []),
  (.goto 6, .goto 6, 3, 73, 0, 0, .null, rm_M0, [])]
def bX8_splitSign_70 : List rm_J := [
  (.nop, .sipush 260, 3, 0, 0, 0, .int 260, rm_M0, [])]
def bX8_splitSign_73 : List rm_J := [
  (.iload 1, .iload_n 1, 1, 0, 0, 0, .null, rm_M0, []),
  (.nop, .iconst 0, 1, 0, 0, 0, .int 0, rm_M0, []),
  (.invokevirtual 43, .invokevirtual 43, 3, 0, 3, 0, .null, mX8_put, [(0, 515), (0, 517), (0, 3)]),
  (.iload 1, .iload_n 1, 1, 0, 0, 0, .null, rm_M0, []),
  (.nop, .iconst 1, 1, 0, 0, 0, .int 1, rm_M0, []),
  (.iadd, .iadd, 1, 0, 0, 0, .null, rm_M0, []),
  (.ireturn, .ireturn, 1, 0, 0, 0, .null, rm_M0, [])]
def tX8_splitSign : rm_P := [(0, bX8_splitSign_0), (18, bX8_splitSign_18), (43, bX8_splitSign_43), (46, bX8_splitSign_46), (55, bX8_splitSign_55), (70, bX8_splitSign_70), (73, bX8_splitSign_73)]
theorem ok_X8_splitSign_t : rm_okP mX8_splitSign tX8_splitSign = true := by decide +kernel
theorem ok_X8_splitSign : rm_okM mX8_splitSign tX8_splitSign := ⟨ok_X8_splitSign_t, List.forall_mem_cons.mpr ⟨cw_X8_byteAt, List.forall_mem_cons.mpr ⟨cw_X8_byteAt, List.forall_mem_cons.mpr ⟨cw_X8_put, List.forall_mem_cons.mpr ⟨cw_J0_indexOf_0f7a4, List.forall_mem_cons.mpr ⟨cw_X8_put, fun _ h => absurd h List.not_mem_nil⟩⟩⟩⟩⟩⟩
theorem atX8_splitSign_0 : rm_at tX8_splitSign 0 = some bX8_splitSign_0 := rfl
theorem atX8_splitSign_18 : rm_at tX8_splitSign 18 = some bX8_splitSign_18 := rfl
theorem atX8_splitSign_43 : rm_at tX8_splitSign 43 = some bX8_splitSign_43 := rfl
theorem atX8_splitSign_46 : rm_at tX8_splitSign 46 = some bX8_splitSign_46 := rfl
theorem atX8_splitSign_55 : rm_at tX8_splitSign 55 = some bX8_splitSign_55 := rfl
theorem atX8_splitSign_70 : rm_at tX8_splitSign 70 = some bX8_splitSign_70 := rfl
theorem atX8_splitSign_73 : rm_at tX8_splitSign 73 = some bX8_splitSign_73 := rfl
def bX8_put_0 : List rm_J := [
  (.aload 0, .aload_n 0, 1, 0, 0, 0, .null, rm_M0, []),
  (.getfield 27, .getfield 27, 3, 8, 6, 143, .null, rm_M0, []),
  (.aload 0, .aload_n 0, 1, 0, 0, 0, .null, rm_M0, []),
  (.getfield 13, .getfield 13, 3, 8, 3, 140, .null, rm_M0, []),
  (.arraylength, .arraylength, 1, 0, 0, 0, .null, rm_M0, []),
  (.if_icmp .ge 43, .if_icmp .ge 43, 3, 52, 0, 0, .null, rm_M0, []),
  (.aload 0, .aload_n 0, 1, 0, 0, 0, .null, rm_M0, []),
  (.getfield 13, .getfield 13, 3, 8, 3, 140, .null, rm_M0, []),
  (.aload 0, .aload_n 0, 1, 0, 0, 0, .null, rm_M0, []),
  (.getfield 27, .getfield 27, 3, 8, 6, 143, .null, rm_M0, []),
  (.iload 1, .iload_n 1, 1, 0, 0, 0, .null, rm_M0, []),
  (.iastore, .iastore, 1, 0, 0, 0, .null, rm_M0, []),
  (.aload 0, .aload_n 0, 1, 0, 0, 0, .null, rm_M0, []),
  (.getfield 17, .getfield 17, 3, 8, 4, 141, .null, rm_M0, []),
  (.aload 0, .aload_n 0, 1, 0, 0, 0, .null, rm_M0, []),
  (.getfield 27, .getfield 27, 3, 8, 6, 143, .null, rm_M0, []),
  (.iload 2, .iload_n 2, 1, 0, 0, 0, .null, rm_M0, []),
  (.iastore, .iastore, 1, 0, 0, 0, .null, rm_M0, []),
  (.aload 0, .aload_n 0, 1, 0, 0, 0, .null, rm_M0, []),
  (.getfield 20, .getfield 20, 3, 8, 5, 142, .null, rm_M0, []),
  (.aload 0, .aload_n 0, 1, 0, 0, 0, .null, rm_M0, []),
  (.getfield 27, .getfield 27, 3, 8, 6, 143, .null, rm_M0, []),
  (.iload 3, .iload_n 3, 1, 0, 0, 0, .null, rm_M0, []),
  (.iastore, .iastore, 1, 0, 0, 0, .null, rm_M0, []),
  (.aload 0, .aload_n 0, 1, 0, 0, 0, .null, rm_M0, []),
  (.dup, .dup, 1, 0, 0, 0, .null, rm_M0, []),
  (.getfield 27, .getfield 27, 3, 8, 6, 143, .null, rm_M0, []),
  (.nop, .iconst 1, 1, 0, 0, 0, .int 1, rm_M0, []),
  (.iadd, .iadd, 1, 0, 0, 0, .null, rm_M0, []),
  (.putfield 27, .putfield 27, 3, 8, 6, 143, .int 0, rm_M0, [])]
def bX8_put_52 : List rm_J := [
  (.return_, .return_, 1, 0, 0, 0, .null, rm_M0, [])]
def tX8_put : rm_P := [(0, bX8_put_0), (52, bX8_put_52)]
theorem ok_X8_put_t : rm_okP mX8_put tX8_put = true := by decide +kernel
theorem ok_X8_put : rm_okM mX8_put tX8_put := ⟨ok_X8_put_t, fun _ h => absurd h List.not_mem_nil⟩
theorem atX8_put_0 : rm_at tX8_put 0 = some bX8_put_0 := rfl
theorem atX8_put_52 : rm_at tX8_put 52 = some bX8_put_52 := rfl
def bX8_wordOf_0 : List rm_J := [
  (.nop, .iconst 0, 1, 0, 0, 0, .int 0, rm_M0, []),
  (.istore 3, .istore_n 3, 1, 0, 0, 0, .null, rm_M0, []),
  (.nop, .iconst 0, 1, 0, 0, 0, .int 0, rm_M0, []),
  (.istore 4, .istore 4, 2, 0, 0, 0, .null, rm_M0, []),
  (.nop, .iconst 0, 1, 0, 0, 0, .int 0, rm_M0, []),
  (.istore 5, .istore 5, 2, 0, 0, 0, .null, rm_M0, [])]
def bX8_wordOf_8 : List rm_J := [
  (.iload 5, .iload 5, 2, 0, 0, 0, .null, rm_M0, []),
  (.nop, .ldc 81, 2, 0, 0, 0, .ref 1000000000, rm_M0, []),
  (.invokevirtual 83, .invokevirtual 83, 3, 0, 0, 0, .null, mJ0_length_8abf5, [(0, 531), (0, 532), (0, 533)]),
  (.if_icmp .gt 66, .if_icmp .gt 66, 3, 81, 0, 0, .null, rm_M0, []),
  (.iload 5, .iload 5, 2, 0, 0, 0, .null, rm_M0, []),
  (.nop, .ldc 81, 2, 0, 0, 0, .ref 1000000000, rm_M0, []),
  (.invokevirtual 83, .invokevirtual 83, 3, 0, 0, 0, .null, mJ0_length_8abf5, [(0, 531), (0, 532), (0, 533)]),
  (.if_icmp .eq 15, .if_icmp .eq 15, 3, 40, 0, 0, .null, rm_M0, []),
  (.nop, .ldc 81, 2, 0, 0, 0, .ref 1000000000, rm_M0, []),
  (.iload 5, .iload 5, 2, 0, 0, 0, .null, rm_M0, []),
  (.invokevirtual 86, .invokevirtual 86, 3, 0, 1, 0, .null, mJ0_charAt_5068e, [(0, 541), (0, 542), (0, 543)]),
  (.nop, .bipush 32, 2, 0, 0, 0, .int 32, rm_M0, []),
  (.if_icmp .ne 38, .if_icmp .ne 38, 3, 75, 0, 0, .null, rm_M0, [])]
def bX8_wordOf_40 : List rm_J := [
  (.iload 5, .iload 5, 2, 0, 0, 0, .null, rm_M0, []),
  (.iload 4, .iload 4, 2, 0, 0, 0, .null, rm_M0, []),
  (.isub, .isub, 1, 0, 0, 0, .null, rm_M0, []),
  (.iload 2, .iload_n 2, 1, 0, 0, 0, .null, rm_M0, []),
  (.iload 1, .iload_n 1, 1, 0, 0, 0, .null, rm_M0, []),
  (.isub, .isub, 1, 0, 0, 0, .null, rm_M0, []),
  (.if_icmp .ne 18, .if_icmp .ne 18, 3, 66, 0, 0, .null, rm_M0, []),
  (.aload 0, .aload_n 0, 1, 0, 0, 0, .null, rm_M0, []),
  (.iload 4, .iload 4, 2, 0, 0, 0, .null, rm_M0, []),
  (.iload 1, .iload_n 1, 1, 0, 0, 0, .null, rm_M0, []),
  (.iload 2, .iload_n 2, 1, 0, 0, 0, .null, rm_M0, []),
  (.iload 1, .iload_n 1, 1, 0, 0, 0, .null, rm_M0, []),
  (.isub, .isub, 1, 0, 0, 0, .null, rm_M0, []),
  (.invokevirtual 90, .invokevirtual 90, 3, 0, 3, 0, .null, mX8_isSame, [(0, 579), (0, 581), (0, 6)]),
  (.ifCond .eq 5, .ifCond .eq 5, 3, 66, 0, 0, .null, rm_M0, []),
  (.iload 3, .iload_n 3, 1, 0, 0, 0, .null, rm_M0, []),
  (.ireturn, .ireturn, 1, 0, 0, 0, .null, rm_M0, [])]
def bX8_wordOf_66 : List rm_J := [
  (.iinc 3 1, .iinc 3 1, 3, 0, 0, 0, .int 1, rm_M0, []),
  (.iload 5, .iload 5, 2, 0, 0, 0, .null, rm_M0, []),
  (.nop, .iconst 1, 1, 0, 0, 0, .int 1, rm_M0, []),
  (.iadd, .iadd, 1, 0, 0, 0, .null, rm_M0, []),
  (.istore 4, .istore 4, 2, 0, 0, 0, .null, rm_M0, [])]
def bX8_wordOf_75 : List rm_J := [
  (.iinc 5 1, .iinc 5 1, 3, 0, 0, 0, .int 1, rm_M0, []),
  (.goto (-70), .goto (-70), 3, 8, 0, 0, .null, rm_M0, [])]
def bX8_wordOf_81 : List rm_J := [
  (.nop, .sipush 260, 3, 0, 0, 0, .int 260, rm_M0, []),
  (.ireturn, .ireturn, 1, 0, 0, 0, .null, rm_M0, [])]
def tX8_wordOf : rm_P := [(0, bX8_wordOf_0), (8, bX8_wordOf_8), (40, bX8_wordOf_40), (66, bX8_wordOf_66), (75, bX8_wordOf_75), (81, bX8_wordOf_81)]
theorem ok_X8_wordOf_t : rm_okP mX8_wordOf tX8_wordOf = true := by decide +kernel
theorem ok_X8_wordOf : rm_okM mX8_wordOf tX8_wordOf := ⟨ok_X8_wordOf_t, List.forall_mem_cons.mpr ⟨cw_J0_length_8abf5, List.forall_mem_cons.mpr ⟨cw_J0_length_8abf5, List.forall_mem_cons.mpr ⟨cw_J0_charAt_5068e, List.forall_mem_cons.mpr ⟨cw_X8_isSame, fun _ h => absurd h List.not_mem_nil⟩⟩⟩⟩⟩
theorem atX8_wordOf_0 : rm_at tX8_wordOf 0 = some bX8_wordOf_0 := rfl
theorem atX8_wordOf_8 : rm_at tX8_wordOf 8 = some bX8_wordOf_8 := rfl
theorem atX8_wordOf_40 : rm_at tX8_wordOf 40 = some bX8_wordOf_40 := rfl
theorem atX8_wordOf_66 : rm_at tX8_wordOf 66 = some bX8_wordOf_66 := rfl
theorem atX8_wordOf_75 : rm_at tX8_wordOf 75 = some bX8_wordOf_75 := rfl
theorem atX8_wordOf_81 : rm_at tX8_wordOf 81 = some bX8_wordOf_81 := rfl
def bX8_isSame_0 : List rm_J := [
  (.nop, .iconst 0, 1, 0, 0, 0, .int 0, rm_M0, []),
  (.istore 4, .istore 4, 2, 0, 0, 0, .null, rm_M0, [])]
def bX8_isSame_3 : List rm_J := [
  (.iload 4, .iload 4, 2, 0, 0, 0, .null, rm_M0, []),
  (.iload 3, .iload_n 3, 1, 0, 0, 0, .null, rm_M0, []),
  (.if_icmp .ge 43, .if_icmp .ge 43, 3, 49, 0, 0, .null, rm_M0, []),
  (.iload 1, .iload_n 1, 1, 0, 0, 0, .null, rm_M0, []),
  (.iload 4, .iload 4, 2, 0, 0, 0, .null, rm_M0, []),
  (.iadd, .iadd, 1, 0, 0, 0, .null, rm_M0, []),
  (.nop, .ldc 81, 2, 0, 0, 0, .ref 1000000000, rm_M0, []),
  (.invokevirtual 83, .invokevirtual 83, 3, 0, 0, 0, .null, mJ0_length_8abf5, [(0, 531), (0, 532), (0, 533)]),
  (.if_icmp .ge 31, .if_icmp .ge 31, 3, 49, 0, 0, .null, rm_M0, []),
  (.nop, .ldc 81, 2, 0, 0, 0, .ref 1000000000, rm_M0, []),
  (.iload 1, .iload_n 1, 1, 0, 0, 0, .null, rm_M0, []),
  (.iload 4, .iload 4, 2, 0, 0, 0, .null, rm_M0, []),
  (.iadd, .iadd, 1, 0, 0, 0, .null, rm_M0, []),
  (.invokevirtual 86, .invokevirtual 86, 3, 0, 1, 0, .null, mJ0_charAt_5068e, [(0, 541), (0, 542), (0, 543)]),
  (.aload 0, .aload_n 0, 1, 0, 0, 0, .null, rm_M0, []),
  (.iload 2, .iload_n 2, 1, 0, 0, 0, .null, rm_M0, []),
  (.iload 4, .iload 4, 2, 0, 0, 0, .null, rm_M0, []),
  (.iadd, .iadd, 1, 0, 0, 0, .null, rm_M0, []),
  (.invokevirtual 36, .invokevirtual 36, 3, 0, 1, 0, .null, mX8_byteAt, [(0, 500), (0, 502), (0, 0)]),
  (.if_icmp .eq 5, .if_icmp .eq 5, 3, 43, 0, 0, .null, rm_M0, []),
  (.nop, .iconst 0, 1, 0, 0, 0, .int 0, rm_M0, []),
  (.ireturn, .ireturn, 1, 0, 0, 0, .null, rm_M0, [])]
def bX8_isSame_43 : List rm_J := [
  (.iinc 4 1, .iinc 4 1, 3, 0, 0, 0, .int 1, rm_M0, []),
  (.goto (-43), .goto (-43), 3, 3, 0, 0, .null, rm_M0, [])]
def bX8_isSame_49 : List rm_J := [
  (.nop, .iconst 1, 1, 0, 0, 0, .int 1, rm_M0, []),
  (.ireturn, .ireturn, 1, 0, 0, 0, .null, rm_M0, [])]
def tX8_isSame : rm_P := [(0, bX8_isSame_0), (3, bX8_isSame_3), (43, bX8_isSame_43), (49, bX8_isSame_49)]
theorem ok_X8_isSame_t : rm_okP mX8_isSame tX8_isSame = true := by decide +kernel
theorem ok_X8_isSame : rm_okM mX8_isSame tX8_isSame := ⟨ok_X8_isSame_t, List.forall_mem_cons.mpr ⟨cw_J0_length_8abf5, List.forall_mem_cons.mpr ⟨cw_J0_charAt_5068e, List.forall_mem_cons.mpr ⟨cw_X8_byteAt, fun _ h => absurd h List.not_mem_nil⟩⟩⟩⟩
theorem atX8_isSame_0 : rm_at tX8_isSame 0 = some bX8_isSame_0 := rfl
theorem atX8_isSame_3 : rm_at tX8_isSame 3 = some bX8_isSame_3 := rfl
theorem atX8_isSame_43 : rm_at tX8_isSame 43 = some bX8_isSame_43 := rfl
theorem atX8_isSame_49 : rm_at tX8_isSame 49 = some bX8_isSame_49 := rfl
def bX8_byteAt_0 : List rm_J := [
  (.iload 1, .iload_n 1, 1, 0, 0, 0, .null, rm_M0, []),
  (.ifCond .lt 24, .ifCond .lt 24, 3, 25, 0, 0, .null, rm_M0, []),
  (.iload 1, .iload_n 1, 1, 0, 0, 0, .null, rm_M0, []),
  (.aload 0, .aload_n 0, 1, 0, 0, 0, .null, rm_M0, []),
  (.getfield 23, .getfield 23, 3, 8, 1, 135, .null, rm_M0, []),
  (.if_icmp .ge 16, .if_icmp .ge 16, 3, 25, 0, 0, .null, rm_M0, []),
  (.aload 0, .aload_n 0, 1, 0, 0, 0, .null, rm_M0, []),
  (.getfield 9, .getfield 9, 3, 8, 0, 133, .null, rm_M0, []),
  (.iload 1, .iload_n 1, 1, 0, 0, 0, .null, rm_M0, []),
  (.baload, .baload, 1, 0, 0, 0, .null, rm_M0, []),
  (.nop, .sipush 255, 3, 0, 0, 0, .int 255, rm_M0, []),
  (.iand, .iand, 1, 0, 0, 0, .null, rm_M0, []),
  (.goto 4, .goto 4, 3, 26, 0, 0, .null, rm_M0, [])]
def bX8_byteAt_25 : List rm_J := [
  (.nop, .iconst 0, 1, 0, 0, 0, .int 0, rm_M0, [])]
def bX8_byteAt_26 : List rm_J := [
  (.ireturn, .ireturn, 1, 0, 0, 0, .null, rm_M0, [])]
def tX8_byteAt : rm_P := [(0, bX8_byteAt_0), (25, bX8_byteAt_25), (26, bX8_byteAt_26)]
theorem ok_X8_byteAt_t : rm_okP mX8_byteAt tX8_byteAt = true := by decide +kernel
theorem ok_X8_byteAt : rm_okM mX8_byteAt tX8_byteAt := ⟨ok_X8_byteAt_t, fun _ h => absurd h List.not_mem_nil⟩
theorem atX8_byteAt_0 : rm_at tX8_byteAt 0 = some bX8_byteAt_0 := rfl
theorem atX8_byteAt_25 : rm_at tX8_byteAt 25 = some bX8_byteAt_25 := rfl
theorem atX8_byteAt_26 : rm_at tX8_byteAt 26 = some bX8_byteAt_26 := rfl
def bX8_isDigit_0 : List rm_J := [
  (.iload 0, .iload_n 0, 1, 0, 0, 0, .null, rm_M0, []),
  (.nop, .bipush 48, 2, 0, 0, 0, .int 48, rm_M0, []),
  (.if_icmp .lt 13, .if_icmp .lt 13, 3, 16, 0, 0, .null, rm_M0, []),
  (.iload 0, .iload_n 0, 1, 0, 0, 0, .null, rm_M0, []),
  (.nop, .bipush 57, 2, 0, 0, 0, .int 57, rm_M0, []),
  (.if_icmp .gt 7, .if_icmp .gt 7, 3, 16, 0, 0, .null, rm_M0, []),
  (.nop, .iconst 1, 1, 0, 0, 0, .int 1, rm_M0, []),
  (.goto 4, .goto 4, 3, 17, 0, 0, .null, rm_M0, [])]
def bX8_isDigit_16 : List rm_J := [
  (.nop, .iconst 0, 1, 0, 0, 0, .int 0, rm_M0, [])]
def bX8_isDigit_17 : List rm_J := [
  (.ireturn, .ireturn, 1, 0, 0, 0, .null, rm_M0, [])]
def tX8_isDigit : rm_P := [(0, bX8_isDigit_0), (16, bX8_isDigit_16), (17, bX8_isDigit_17)]
theorem ok_X8_isDigit_t : rm_okP mX8_isDigit tX8_isDigit = true := by decide +kernel
theorem ok_X8_isDigit : rm_okM mX8_isDigit tX8_isDigit := ⟨ok_X8_isDigit_t, fun _ h => absurd h List.not_mem_nil⟩
theorem atX8_isDigit_0 : rm_at tX8_isDigit 0 = some bX8_isDigit_0 := rfl
theorem atX8_isDigit_16 : rm_at tX8_isDigit 16 = some bX8_isDigit_16 := rfl
theorem atX8_isDigit_17 : rm_at tX8_isDigit 17 = some bX8_isDigit_17 := rfl
def bX8_isLetter_0 : List rm_J := [
  (.iload 0, .iload_n 0, 1, 0, 0, 0, .null, rm_M0, []),
  (.nop, .bipush 97, 2, 0, 0, 0, .int 97, rm_M0, []),
  (.if_icmp .lt 13, .if_icmp .lt 13, 3, 16, 0, 0, .null, rm_M0, []),
  (.iload 0, .iload_n 0, 1, 0, 0, 0, .null, rm_M0, []),
  (.nop, .bipush 122, 2, 0, 0, 0, .int 122, rm_M0, []),
  (.if_icmp .gt 7, .if_icmp .gt 7, 3, 16, 0, 0, .null, rm_M0, []),
  (.nop, .iconst 1, 1, 0, 0, 0, .int 1, rm_M0, []),
  (.goto 4, .goto 4, 3, 17, 0, 0, .null, rm_M0, [])]
def bX8_isLetter_16 : List rm_J := [
  (.nop, .iconst 0, 1, 0, 0, 0, .int 0, rm_M0, [])]
def bX8_isLetter_17 : List rm_J := [
  (.ireturn, .ireturn, 1, 0, 0, 0, .null, rm_M0, [])]
def tX8_isLetter : rm_P := [(0, bX8_isLetter_0), (16, bX8_isLetter_16), (17, bX8_isLetter_17)]
theorem ok_X8_isLetter_t : rm_okP mX8_isLetter tX8_isLetter = true := by decide +kernel
theorem ok_X8_isLetter : rm_okM mX8_isLetter tX8_isLetter := ⟨ok_X8_isLetter_t, fun _ h => absurd h List.not_mem_nil⟩
theorem atX8_isLetter_0 : rm_at tX8_isLetter 0 = some bX8_isLetter_0 := rfl
theorem atX8_isLetter_16 : rm_at tX8_isLetter 16 = some bX8_isLetter_16 := rfl
theorem atX8_isLetter_17 : rm_at tX8_isLetter 17 = some bX8_isLetter_17 := rfl
def bX10_init_0 : List rm_J := [
  (.aload 0, .aload_n 0, 1, 0, 0, 0, .null, rm_M0, []),
  (.jsr 0, .invokespecial 1, 3, 0, 0, 1, .null, rm_M0, [(0, 425), (0, 125), (0, 126)]),
  (.aload 0, .aload_n 0, 1, 0, 0, 0, .null, rm_M0, []),
  (.nop, .bipush 9, 2, 0, 0, 0, .int 9, rm_M0, []),
  (.anewarray 9, .anewarray 9, 3, 6, 0, 0, .null, rm_M0, [(0, 426)]),
  (.putfield 11, .putfield 11, 3, 10, 3, 436, .int 3, rm_M0, []),
  (.new 15, .new 15, 3, 3, 0, 0, .null, rm_M0, [(0, 427), (0, 207), (0, 102)]),
  (.dup, .dup, 1, 0, 0, 0, .null, rm_M0, []),
  (.invokespecial 17, .invokespecial 17, 3, 0, 0, 428, .null, mX3_init, [(0, 209)]),
  (.astore 1, .astore_n 1, 1, 0, 0, 0, .null, rm_M0, []),
  (.nop, .iconst 0, 1, 0, 0, 0, .int 0, rm_M0, []),
  (.istore 2, .istore_n 2, 1, 0, 0, 0, .null, rm_M0, [])]
def bX10_init_23 : List rm_J := [
  (.iload 2, .iload_n 2, 1, 0, 0, 0, .null, rm_M0, []),
  (.nop, .bipush 8, 2, 0, 0, 0, .int 8, rm_M0, []),
  (.if_icmp .gt 23, .if_icmp .gt 23, 3, 49, 0, 0, .null, rm_M0, []),
  (.aload 0, .aload_n 0, 1, 0, 0, 0, .null, rm_M0, []),
  (.getfield 11, .getfield 11, 3, 10, 3, 436, .null, rm_M0, []),
  (.iload 2, .iload_n 2, 1, 0, 0, 0, .null, rm_M0, []),
  (.new 9, .new 9, 3, 7, 0, 0, .null, rm_M0, [(0, 426), (0, 257), (0, 103)]),
  (.dup, .dup, 1, 0, 0, 0, .null, rm_M0, []),
  (.aload 1, .aload_n 1, 1, 0, 0, 0, .null, rm_M0, []),
  (.invokespecial 18, .invokespecial 18, 3, 0, 1, 429, .null, mX7_init, [(0, 259)]),
  (.aastore, .aastore, 1, 0, 0, 0, .null, rm_M0, []),
  (.iinc 2 1, .iinc 2 1, 3, 0, 0, 0, .int 1, rm_M0, []),
  (.goto (-23), .goto (-23), 3, 23, 0, 0, .null, rm_M0, [])]
def bX10_init_49 : List rm_J := [
  (.return_, .return_, 1, 0, 0, 0, .null, rm_M0, [])]
def tX10_init : rm_P := [(0, bX10_init_0), (23, bX10_init_23), (49, bX10_init_49)]
theorem ok_X10_init_t : rm_okP mX10_init tX10_init = true := by decide +kernel
theorem ok_X10_init : rm_okM mX10_init tX10_init := ⟨ok_X10_init_t, List.forall_mem_cons.mpr ⟨cw_X3_init, List.forall_mem_cons.mpr ⟨cw_X7_init, fun _ h => absurd h List.not_mem_nil⟩⟩⟩
theorem atX10_init_0 : rm_at tX10_init 0 = some bX10_init_0 := rfl
theorem atX10_init_23 : rm_at tX10_init 23 = some bX10_init_23 := rfl
theorem atX10_init_49 : rm_at tX10_init 49 = some bX10_init_49 := rfl
def bX10_find_0 : List rm_J := [
  (.aload 0, .aload_n 0, 1, 0, 0, 0, .null, rm_M0, []),
  (.nop, .iconst 0, 1, 0, 0, 0, .int 0, rm_M0, []),
  (.putfield 21, .putfield 21, 3, 10, 0, 430, .int 0, rm_M0, []),
  (.aload 0, .aload_n 0, 1, 0, 0, 0, .null, rm_M0, []),
  (.nop, .sipush 255, 3, 0, 0, 0, .int 255, rm_M0, []),
  (.putfield 25, .putfield 25, 3, 10, 1, 432, .int 0, rm_M0, []),
  (.aload 0, .aload_n 0, 1, 0, 0, 0, .null, rm_M0, []),
  (.nop, .sipush 255, 3, 0, 0, 0, .int 255, rm_M0, []),
  (.putfield 28, .putfield 28, 3, 10, 2, 434, .int 0, rm_M0, []),
  (.aload 0, .aload_n 0, 1, 0, 0, 0, .null, rm_M0, []),
  (.aload 1, .aload_n 1, 1, 0, 0, 0, .null, rm_M0, []),
  (.getfield 31, .getfield 31, 3, 9, 0, 376, .null, rm_M0, []),
  (.getfield 37, .getfield 37, 3, 7, 1, 266, .null, rm_M0, []),
  (.nop, .ldc2_w 41, 3, 0, 0, 1046, .long (-256), rm_M0, []),
  (.land, .land, 1, 0, 0, 0, .null, rm_M0, []),
  (.putfield 43, .putfield 43, 3, 10, 4, 437, .int 1, rm_M0, []),
  (.aload 0, .aload_n 0, 1, 0, 0, 0, .null, rm_M0, []),
  (.getfield 11, .getfield 11, 3, 10, 3, 436, .null, rm_M0, []),
  (.nop, .iconst 0, 1, 0, 0, 0, .int 0, rm_M0, []),
  (.aaload, .aaload, 1, 0, 0, 0, .null, rm_M0, []),
  (.aload 1, .aload_n 1, 1, 0, 0, 0, .null, rm_M0, []),
  (.getfield 31, .getfield 31, 3, 9, 0, 376, .null, rm_M0, []),
  (.invokevirtual 46, .invokevirtual 46, 3, 0, 1, 0, .null, mX7_copyFrom, [(0, 1047), (0, 820), (0, 821)]),
  (.aload 0, .aload_n 0, 1, 0, 0, 0, .null, rm_M0, []),
  (.nop, .iconst 0, 1, 0, 0, 0, .int 0, rm_M0, []),
  (.nop, .iconst 0, 1, 0, 0, 0, .int 0, rm_M0, []),
  (.aload 1, .aload_n 1, 1, 0, 0, 0, .null, rm_M0, []),
  (.iload 2, .iload_n 2, 1, 0, 0, 0, .null, rm_M0, []),
  (.iload 3, .iload_n 3, 1, 0, 0, 0, .null, rm_M0, []),
  (.invokevirtual 50, .invokevirtual 50, 3, 0, 5, 0, .null, mX10_tryFrom, [(0, 1048), (0, 1050), (0, 30)]),
  (.return_, .return_, 1, 0, 0, 0, .null, rm_M0, [])]
def tX10_find : rm_P := [(0, bX10_find_0)]
theorem ok_X10_find_t : rm_okP mX10_find tX10_find = true := by decide +kernel
theorem ok_X10_find : rm_okM mX10_find tX10_find := ⟨ok_X10_find_t, List.forall_mem_cons.mpr ⟨cw_X7_copyFrom, List.forall_mem_cons.mpr ⟨cw_X10_tryFrom, fun _ h => absurd h List.not_mem_nil⟩⟩⟩
theorem atX10_find_0 : rm_at tX10_find 0 = some bX10_find_0 := rfl
def bX10_tryFrom_0 : List rm_J := [
  (.aload 0, .aload_n 0, 1, 0, 0, 0, .null, rm_M0, []),
  (.getfield 11, .getfield 11, 3, 10, 3, 436, .null, rm_M0, []),
  (.iload 1, .iload_n 1, 1, 0, 0, 0, .null, rm_M0, []),
  (.aaload, .aaload, 1, 0, 0, 0, .null, rm_M0, []),
  (.astore 6, .astore 6, 2, 0, 0, 0, .null, rm_M0, []),
  (.iload 1, .iload_n 1, 1, 0, 0, 0, .null, rm_M0, []),
  (.iload 4, .iload 4, 2, 0, 0, 0, .null, rm_M0, []),
  (.if_icmp .ge 109, .if_icmp .ge 109, 3, 120, 0, 0, .null, rm_M0, []),
  (.iload 1, .iload_n 1, 1, 0, 0, 0, .null, rm_M0, []),
  (.nop, .bipush 8, 2, 0, 0, 0, .int 8, rm_M0, []),
  (.if_icmp .ge 103, .if_icmp .ge 103, 3, 120, 0, 0, .null, rm_M0, []),
  (.aload 6, .aload 6, 2, 0, 0, 0, .null, rm_M0, []),
  (.invokevirtual 54, .invokevirtual 54, 3, 0, 0, 0, .null, mX7_isAllSettled, [(0, 1052), (0, 985), (0, 986)]),
  (.ifCond .ne 95, .ifCond .ne 95, 3, 120, 0, 0, .null, rm_M0, []),
  (.nop, .iconst 0, 1, 0, 0, 0, .int 0, rm_M0, []),
  (.istore 7, .istore 7, 2, 0, 0, 0, .null, rm_M0, [])]
def bX10_tryFrom_31 : List rm_J := [
  (.iload 7, .iload 7, 2, 0, 0, 0, .null, rm_M0, []),
  (.nop, .iconst 2, 1, 0, 0, 0, .int 2, rm_M0, []),
  (.if_icmp .ge 85, .if_icmp .ge 85, 3, 119, 0, 0, .null, rm_M0, []),
  (.aload 6, .aload 6, 2, 0, 0, 0, .null, rm_M0, []),
  (.getfield 58, .getfield 58, 3, 7, 4, 274, .null, rm_M0, []),
  (.iload 5, .iload 5, 2, 0, 0, 0, .null, rm_M0, []),
  (.if_icmp .gt 75, .if_icmp .gt 75, 3, 119, 0, 0, .null, rm_M0, []),
  (.iload 2, .iload_n 2, 1, 0, 0, 0, .null, rm_M0, []),
  (.iload 7, .iload 7, 2, 0, 0, 0, .null, rm_M0, []),
  (.iload 1, .iload_n 1, 1, 0, 0, 0, .null, rm_M0, []),
  (.ishl, .ishl, 1, 0, 0, 0, .null, rm_M0, []),
  (.ior, .ior, 1, 0, 0, 0, .null, rm_M0, []),
  (.istore 8, .istore 8, 2, 0, 0, 0, .null, rm_M0, []),
  (.aload 3, .aload_n 3, 1, 0, 0, 0, .null, rm_M0, []),
  (.getfield 31, .getfield 31, 3, 9, 0, 376, .null, rm_M0, []),
  (.aload 6, .aload 6, 2, 0, 0, 0, .null, rm_M0, []),
  (.invokevirtual 46, .invokevirtual 46, 3, 0, 1, 0, .null, mX7_copyFrom, [(0, 1047), (0, 820), (0, 821)]),
  (.aload 3, .aload_n 3, 1, 0, 0, 0, .null, rm_M0, []),
  (.getfield 31, .getfield 31, 3, 9, 0, 376, .null, rm_M0, []),
  (.aload 0, .aload_n 0, 1, 0, 0, 0, .null, rm_M0, []),
  (.getfield 43, .getfield 43, 3, 10, 4, 437, .null, rm_M0, []),
  (.iload 8, .iload 8, 2, 0, 0, 0, .null, rm_M0, []),
  (.i2l, .i2l, 1, 0, 0, 0, .null, rm_M0, []),
  (.lor, .lor, 1, 0, 0, 0, .null, rm_M0, []),
  (.putfield 37, .putfield 37, 3, 7, 1, 266, .int 1, rm_M0, []),
  (.aload 3, .aload_n 3, 1, 0, 0, 0, .null, rm_M0, []),
  (.invokevirtual 61, .invokevirtual 61, 3, 0, 0, 0, .null, mX9_passDay, [(0, 1053), (0, 837), (0, 838)]),
  (.pop, .pop, 1, 0, 0, 0, .null, rm_M0, []),
  (.aload 0, .aload_n 0, 1, 0, 0, 0, .null, rm_M0, []),
  (.getfield 11, .getfield 11, 3, 10, 3, 436, .null, rm_M0, []),
  (.iload 1, .iload_n 1, 1, 0, 0, 0, .null, rm_M0, []),
  (.nop, .iconst 1, 1, 0, 0, 0, .int 1, rm_M0, []),
  (.iadd, .iadd, 1, 0, 0, 0, .null, rm_M0, []),
  (.aaload, .aaload, 1, 0, 0, 0, .null, rm_M0, []),
  (.aload 3, .aload_n 3, 1, 0, 0, 0, .null, rm_M0, []),
  (.getfield 31, .getfield 31, 3, 9, 0, 376, .null, rm_M0, []),
  (.invokevirtual 46, .invokevirtual 46, 3, 0, 1, 0, .null, mX7_copyFrom, [(0, 1047), (0, 820), (0, 821)]),
  (.aload 0, .aload_n 0, 1, 0, 0, 0, .null, rm_M0, []),
  (.iload 1, .iload_n 1, 1, 0, 0, 0, .null, rm_M0, []),
  (.nop, .iconst 1, 1, 0, 0, 0, .int 1, rm_M0, []),
  (.iadd, .iadd, 1, 0, 0, 0, .null, rm_M0, []),
  (.iload 8, .iload 8, 2, 0, 0, 0, .null, rm_M0, []),
  (.aload 3, .aload_n 3, 1, 0, 0, 0, .null, rm_M0, []),
  (.iload 4, .iload 4, 2, 0, 0, 0, .null, rm_M0, []),
  (.iload 5, .iload 5, 2, 0, 0, 0, .null, rm_M0, []),
  (.invokevirtual 50, .invokevirtual 50, 3, 0, 5, 0, .null, mX10_tryFrom, [(0, 1048), (0, 1050), (0, 30)]),
  (.iinc 7 1, .iinc 7 1, 3, 0, 0, 0, .int 1, rm_M0, []),
  (.goto (-85), .goto (-85), 3, 31, 0, 0, .null, rm_M0, [])]
def bX10_tryFrom_119 : List rm_J := [
  (.return_, .return_, 1, 0, 0, 0, .null, rm_M0, [])]
def bX10_tryFrom_120 : List rm_J := [
  (.aload 3, .aload_n 3, 1, 0, 0, 0, .null, rm_M0, []),
  (.getfield 31, .getfield 31, 3, 9, 0, 376, .null, rm_M0, []),
  (.aload 6, .aload 6, 2, 0, 0, 0, .null, rm_M0, []),
  (.invokevirtual 46, .invokevirtual 46, 3, 0, 1, 0, .null, mX7_copyFrom, [(0, 1047), (0, 820), (0, 821)]),
  (.iload 1, .iload_n 1, 1, 0, 0, 0, .null, rm_M0, []),
  (.istore 7, .istore 7, 2, 0, 0, 0, .null, rm_M0, [])]
def bX10_tryFrom_132 : List rm_J := [
  (.iload 7, .iload 7, 2, 0, 0, 0, .null, rm_M0, []),
  (.iload 4, .iload 4, 2, 0, 0, 0, .null, rm_M0, []),
  (.if_icmp .ge 36, .if_icmp .ge 36, 3, 172, 0, 0, .null, rm_M0, []),
  (.aload 3, .aload_n 3, 1, 0, 0, 0, .null, rm_M0, []),
  (.getfield 31, .getfield 31, 3, 9, 0, 376, .null, rm_M0, []),
  (.getfield 58, .getfield 58, 3, 7, 4, 274, .null, rm_M0, []),
  (.iload 5, .iload 5, 2, 0, 0, 0, .null, rm_M0, []),
  (.if_icmp .gt 24, .if_icmp .gt 24, 3, 172, 0, 0, .null, rm_M0, []),
  (.aload 3, .aload_n 3, 1, 0, 0, 0, .null, rm_M0, []),
  (.getfield 31, .getfield 31, 3, 9, 0, 376, .null, rm_M0, []),
  (.invokevirtual 54, .invokevirtual 54, 3, 0, 0, 0, .null, mX7_isAllSettled, [(0, 1052), (0, 985), (0, 986)]),
  (.ifCond .ne 14, .ifCond .ne 14, 3, 172, 0, 0, .null, rm_M0, []),
  (.aload 3, .aload_n 3, 1, 0, 0, 0, .null, rm_M0, []),
  (.invokevirtual 61, .invokevirtual 61, 3, 0, 0, 0, .null, mX9_passDay, [(0, 1053), (0, 837), (0, 838)]),
  (.pop, .pop, 1, 0, 0, 0, .null, rm_M0, []),
  (.iinc 7 1, .iinc 7 1, 3, 0, 0, 0, .int 1, rm_M0, []),
  (.goto (-37), .goto (-37), 3, 132, 0, 0, .null, rm_M0, [])]
def bX10_tryFrom_172 : List rm_J := [
  (.aload 3, .aload_n 3, 1, 0, 0, 0, .null, rm_M0, []),
  (.getfield 31, .getfield 31, 3, 9, 0, 376, .null, rm_M0, []),
  (.getfield 58, .getfield 58, 3, 7, 4, 274, .null, rm_M0, []),
  (.iload 5, .iload 5, 2, 0, 0, 0, .null, rm_M0, []),
  (.if_icmp .ne 9, .if_icmp .ne 9, 3, 190, 0, 0, .null, rm_M0, []),
  (.aload 0, .aload_n 0, 1, 0, 0, 0, .null, rm_M0, []),
  (.iload 1, .iload_n 1, 1, 0, 0, 0, .null, rm_M0, []),
  (.iload 2, .iload_n 2, 1, 0, 0, 0, .null, rm_M0, []),
  (.invokevirtual 65, .invokevirtual 65, 3, 0, 2, 0, .null, mX10_keep, [(0, 1054), (0, 1056), (0, 31)])]
def bX10_tryFrom_190 : List rm_J := [
  (.return_, .return_, 1, 0, 0, 0, .null, rm_M0, [])]
def tX10_tryFrom : rm_P := [(0, bX10_tryFrom_0), (31, bX10_tryFrom_31), (119, bX10_tryFrom_119), (120, bX10_tryFrom_120), (132, bX10_tryFrom_132), (172, bX10_tryFrom_172), (190, bX10_tryFrom_190)]
theorem ok_X10_tryFrom_t : rm_okP mX10_tryFrom tX10_tryFrom = true := by decide +kernel
theorem ok_X10_tryFrom : rm_okM mX10_tryFrom tX10_tryFrom := ⟨ok_X10_tryFrom_t, List.forall_mem_cons.mpr ⟨cw_X7_isAllSettled, List.forall_mem_cons.mpr ⟨cw_X7_copyFrom, List.forall_mem_cons.mpr ⟨cw_X9_passDay, List.forall_mem_cons.mpr ⟨cw_X7_copyFrom, List.forall_mem_cons.mpr ⟨cw_X10_tryFrom, List.forall_mem_cons.mpr ⟨cw_X7_copyFrom, List.forall_mem_cons.mpr ⟨cw_X7_isAllSettled, List.forall_mem_cons.mpr ⟨cw_X9_passDay, List.forall_mem_cons.mpr ⟨cw_X10_keep, fun _ h => absurd h List.not_mem_nil⟩⟩⟩⟩⟩⟩⟩⟩⟩⟩
theorem atX10_tryFrom_0 : rm_at tX10_tryFrom 0 = some bX10_tryFrom_0 := rfl
theorem atX10_tryFrom_31 : rm_at tX10_tryFrom 31 = some bX10_tryFrom_31 := rfl
theorem atX10_tryFrom_119 : rm_at tX10_tryFrom 119 = some bX10_tryFrom_119 := rfl
theorem atX10_tryFrom_120 : rm_at tX10_tryFrom 120 = some bX10_tryFrom_120 := rfl
theorem atX10_tryFrom_132 : rm_at tX10_tryFrom 132 = some bX10_tryFrom_132 := rfl
theorem atX10_tryFrom_172 : rm_at tX10_tryFrom 172 = some bX10_tryFrom_172 := rfl
theorem atX10_tryFrom_190 : rm_at tX10_tryFrom 190 = some bX10_tryFrom_190 := rfl
def bX10_keep_0 : List rm_J := [
  (.aload 0, .aload_n 0, 1, 0, 0, 0, .null, rm_M0, []),
  (.dup, .dup, 1, 0, 0, 0, .null, rm_M0, []),
  (.getfield 21, .getfield 21, 3, 10, 0, 430, .null, rm_M0, []),
  (.nop, .iconst 1, 1, 0, 0, 0, .int 1, rm_M0, []),
  (.nop, .bipush 8, 2, 0, 0, 0, .int 8, rm_M0, []),
  (.iload 1, .iload_n 1, 1, 0, 0, 0, .null, rm_M0, []),
  (.isub, .isub, 1, 0, 0, 0, .null, rm_M0, []),
  (.ishl, .ishl, 1, 0, 0, 0, .null, rm_M0, []),
  (.iadd, .iadd, 1, 0, 0, 0, .null, rm_M0, []),
  (.putfield 21, .putfield 21, 3, 10, 0, 430, .int 0, rm_M0, []),
  (.aload 0, .aload_n 0, 1, 0, 0, 0, .null, rm_M0, []),
  (.aload 0, .aload_n 0, 1, 0, 0, 0, .null, rm_M0, []),
  (.getfield 25, .getfield 25, 3, 10, 1, 432, .null, rm_M0, []),
  (.iload 2, .iload_n 2, 1, 0, 0, 0, .null, rm_M0, []),
  (.monitorenter, .invokestatic 69, 3, 0, 0, 69, .null, rm_M0, [(0, 1058), (0, 607), (0, 113), (0, 608)]),
  (.putfield 25, .putfield 25, 3, 10, 1, 432, .int 0, rm_M0, []),
  (.aload 0, .aload_n 0, 1, 0, 0, 0, .null, rm_M0, []),
  (.dup, .dup, 1, 0, 0, 0, .null, rm_M0, []),
  (.getfield 28, .getfield 28, 3, 10, 2, 434, .null, rm_M0, []),
  (.iload 2, .iload_n 2, 1, 0, 0, 0, .null, rm_M0, []),
  (.iand, .iand, 1, 0, 0, 0, .null, rm_M0, []),
  (.putfield 28, .putfield 28, 3, 10, 2, 434, .int 0, rm_M0, []),
  (.return_, .return_, 1, 0, 0, 0, .null, rm_M0, [])]
def tX10_keep : rm_P := [(0, bX10_keep_0)]
theorem ok_X10_keep_t : rm_okP mX10_keep tX10_keep = true := by decide +kernel
theorem ok_X10_keep : rm_okM mX10_keep tX10_keep := ⟨ok_X10_keep_t, fun _ h => absurd h List.not_mem_nil⟩
theorem atX10_keep_0 : rm_at tX10_keep 0 = some bX10_keep_0 := rfl
