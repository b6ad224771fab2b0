/-! Rows of State and Realm. Printed. -/
def bX7_init_0 : List rm_J := [
  (.aload 0, .aload_n 0, 1, 0, 0, 0, .null, rm_M0, []),
  (.jsr 0, .invokespecial 3, 3, 0, 0, 3, .null, rm_M0, [(0, 261), (0, 125), (0, 126)]),
  (.aload 0, .aload_n 0, 1, 0, 0, 0, .null, rm_M0, []),
  (.nop, .bipush 8, 2, 0, 0, 0, .int 8, rm_M0, []),
  (.newarray .int, .newarray .int, 2, 0, 0, 0, .null, rm_M0, [(0, 163)]),
  (.putfield 9, .putfield 9, 3, 7, 11, 289, .int 3, rm_M0, []),
  (.aload 0, .aload_n 0, 1, 0, 0, 0, .null, rm_M0, []),
  (.nop, .bipush 8, 2, 0, 0, 0, .int 8, rm_M0, []),
  (.newarray .int, .newarray .int, 2, 0, 0, 0, .null, rm_M0, [(0, 163)]),
  (.putfield 15, .putfield 15, 3, 7, 12, 292, .int 3, rm_M0, []),
  (.aload 0, .aload_n 0, 1, 0, 0, 0, .null, rm_M0, []),
  (.aload 1, .aload_n 1, 1, 0, 0, 0, .null, rm_M0, []),
  (.putfield 18, .putfield 18, 3, 7, 0, 262, .int 3, rm_M0, []),
  (.return_, .return_, 1, 0, 0, 0, .null, rm_M0, [])]
def tX7_init : rm_P := [(0, bX7_init_0)]
theorem ok_X7_init_t : rm_okP mX7_init tX7_init = true := by decide +kernel
theorem ok_X7_init : rm_okM mX7_init tX7_init := ⟨ok_X7_init_t, fun _ h => absurd h List.not_mem_nil⟩
theorem atX7_init_0 : rm_at tX7_init 0 = some bX7_init_0 := rfl
def bX7_beginIn_0 : List rm_J := [
  (.aload 0, .aload_n 0, 1, 0, 0, 0, .null, rm_M0, []),
  (.aload 1, .aload_n 1, 1, 0, 0, 0, .null, rm_M0, []),
  (.putfield 18, .putfield 18, 3, 7, 0, 262, .int 3, rm_M0, []),
  (.aload 0, .aload_n 0, 1, 0, 0, 0, .null, rm_M0, []),
  (.aload 1, .aload_n 1, 1, 0, 0, 0, .null, rm_M0, []),
  (.getfield 22, .getfield 22, 3, 3, 4, 223, .null, rm_M0, []),
  (.putfield 28, .putfield 28, 3, 7, 1, 265, .int 1, rm_M0, []),
  (.aload 0, .aload_n 0, 1, 0, 0, 0, .null, rm_M0, []),
  (.nop, .iconst 0, 1, 0, 0, 0, .int 0, rm_M0, []),
  (.putfield 29, .putfield 29, 3, 7, 2, 267, .int 0, rm_M0, []),
  (.aload 0, .aload_n 0, 1, 0, 0, 0, .null, rm_M0, []),
  (.nop, .iconst 0, 1, 0, 0, 0, .int 0, rm_M0, []),
  (.putfield 33, .putfield 33, 3, 7, 3, 270, .int 0, rm_M0, []),
  (.aload 0, .aload_n 0, 1, 0, 0, 0, .null, rm_M0, []),
  (.nop, .iconst 0, 1, 0, 0, 0, .int 0, rm_M0, []),
  (.putfield 36, .putfield 36, 3, 7, 4, 273, .int 0, rm_M0, []),
  (.aload 0, .aload_n 0, 1, 0, 0, 0, .null, rm_M0, []),
  (.nop, .iconst 0, 1, 0, 0, 0, .int 0, rm_M0, []),
  (.putfield 39, .putfield 39, 3, 7, 5, 277, .int 0, rm_M0, []),
  (.aload 0, .aload_n 0, 1, 0, 0, 0, .null, rm_M0, []),
  (.nop, .iconst 0, 1, 0, 0, 0, .int 0, rm_M0, []),
  (.putfield 42, .putfield 42, 3, 7, 6, 280, .int 0, rm_M0, []),
  (.aload 0, .aload_n 0, 1, 0, 0, 0, .null, rm_M0, []),
  (.nop, .iconst 0, 1, 0, 0, 0, .int 0, rm_M0, []),
  (.putfield 45, .putfield 45, 3, 7, 7, 283, .int 2, rm_M0, []),
  (.aload 0, .aload_n 0, 1, 0, 0, 0, .null, rm_M0, []),
  (.nop, .iconst 0, 1, 0, 0, 0, .int 0, rm_M0, []),
  (.putfield 49, .putfield 49, 3, 7, 8, 285, .int 0, rm_M0, []),
  (.aload 0, .aload_n 0, 1, 0, 0, 0, .null, rm_M0, []),
  (.nop, .iconst 0, 1, 0, 0, 0, .int 0, rm_M0, []),
  (.putfield 52, .putfield 52, 3, 7, 9, 286, .int 0, rm_M0, []),
  (.aload 0, .aload_n 0, 1, 0, 0, 0, .null, rm_M0, []),
  (.nop, .iconst 0, 1, 0, 0, 0, .int 0, rm_M0, []),
  (.putfield 55, .putfield 55, 3, 7, 10, 287, .int 0, rm_M0, []),
  (.aload 1, .aload_n 1, 1, 0, 0, 0, .null, rm_M0, []),
  (.getfield 58, .getfield 58, 3, 3, 5, 226, .null, rm_M0, []),
  (.nop, .iconst 0, 1, 0, 0, 0, .int 0, rm_M0, []),
  (.aload 0, .aload_n 0, 1, 0, 0, 0, .null, rm_M0, []),
  (.getfield 9, .getfield 9, 3, 7, 11, 289, .null, rm_M0, []),
  (.nop, .iconst 0, 1, 0, 0, 0, .int 0, rm_M0, []),
  (.nop, .bipush 8, 2, 0, 0, 0, .int 8, rm_M0, []),
  (.jsr_w 0, .invokestatic 59, 3, 0, 0, 59, .null, rm_M0, [(0, 699), (0, 701), (0, 700), (0, 115)]),
  (.aload 1, .aload_n 1, 1, 0, 0, 0, .null, rm_M0, []),
  (.getfield 65, .getfield 65, 3, 3, 8, 236, .null, rm_M0, []),
  (.nop, .iconst 0, 1, 0, 0, 0, .int 0, rm_M0, []),
  (.aload 0, .aload_n 0, 1, 0, 0, 0, .null, rm_M0, []),
  (.getfield 15, .getfield 15, 3, 7, 12, 292, .null, rm_M0, []),
  (.nop, .iconst 0, 1, 0, 0, 0, .int 0, rm_M0, []),
  (.nop, .bipush 8, 2, 0, 0, 0, .int 8, rm_M0, []),
  (.jsr_w 0, .invokestatic 59, 3, 0, 0, 59, .null, rm_M0, [(0, 699), (0, 701), (0, 700), (0, 115)]),
  (.return_, .return_, 1, 0, 0, 0, .null, rm_M0, [])]
def tX7_beginIn : rm_P := [(0, bX7_beginIn_0)]
theorem ok_X7_beginIn_t : rm_okP mX7_beginIn tX7_beginIn = true := by decide +kernel
theorem ok_X7_beginIn : rm_okM mX7_beginIn tX7_beginIn := ⟨ok_X7_beginIn_t, fun _ h => absurd h List.not_mem_nil⟩
theorem atX7_beginIn_0 : rm_at tX7_beginIn 0 = some bX7_beginIn_0 := rfl
def bX7_copyFrom_0 : List rm_J := [
  (.aload 0, .aload_n 0, 1, 0, 0, 0, .null, rm_M0, []),
  (.aload 1, .aload_n 1, 1, 0, 0, 0, .null, rm_M0, []),
  (.getfield 18, .getfield 18, 3, 7, 0, 262, .null, rm_M0, []),
  (.putfield 18, .putfield 18, 3, 7, 0, 262, .int 3, rm_M0, []),
  (.aload 0, .aload_n 0, 1, 0, 0, 0, .null, rm_M0, []),
  (.aload 1, .aload_n 1, 1, 0, 0, 0, .null, rm_M0, []),
  (.getfield 28, .getfield 28, 3, 7, 1, 265, .null, rm_M0, []),
  (.putfield 28, .putfield 28, 3, 7, 1, 265, .int 1, rm_M0, []),
  (.aload 0, .aload_n 0, 1, 0, 0, 0, .null, rm_M0, []),
  (.aload 1, .aload_n 1, 1, 0, 0, 0, .null, rm_M0, []),
  (.getfield 29, .getfield 29, 3, 7, 2, 267, .null, rm_M0, []),
  (.putfield 29, .putfield 29, 3, 7, 2, 267, .int 0, rm_M0, []),
  (.aload 0, .aload_n 0, 1, 0, 0, 0, .null, rm_M0, []),
  (.aload 1, .aload_n 1, 1, 0, 0, 0, .null, rm_M0, []),
  (.getfield 33, .getfield 33, 3, 7, 3, 270, .null, rm_M0, []),
  (.putfield 33, .putfield 33, 3, 7, 3, 270, .int 0, rm_M0, []),
  (.aload 0, .aload_n 0, 1, 0, 0, 0, .null, rm_M0, []),
  (.aload 1, .aload_n 1, 1, 0, 0, 0, .null, rm_M0, []),
  (.getfield 36, .getfield 36, 3, 7, 4, 273, .null, rm_M0, []),
  (.putfield 36, .putfield 36, 3, 7, 4, 273, .int 0, rm_M0, []),
  (.aload 0, .aload_n 0, 1, 0, 0, 0, .null, rm_M0, []),
  (.aload 1, .aload_n 1, 1, 0, 0, 0, .null, rm_M0, []),
  (.getfield 39, .getfield 39, 3, 7, 5, 277, .null, rm_M0, []),
  (.putfield 39, .putfield 39, 3, 7, 5, 277, .int 0, rm_M0, []),
  (.aload 0, .aload_n 0, 1, 0, 0, 0, .null, rm_M0, []),
  (.aload 1, .aload_n 1, 1, 0, 0, 0, .null, rm_M0, []),
  (.getfield 42, .getfield 42, 3, 7, 6, 280, .null, rm_M0, []),
  (.putfield 42, .putfield 42, 3, 7, 6, 280, .int 0, rm_M0, []),
  (.aload 0, .aload_n 0, 1, 0, 0, 0, .null, rm_M0, []),
  (.aload 1, .aload_n 1, 1, 0, 0, 0, .null, rm_M0, []),
  (.getfield 45, .getfield 45, 3, 7, 7, 283, .null, rm_M0, []),
  (.putfield 45, .putfield 45, 3, 7, 7, 283, .int 2, rm_M0, []),
  (.aload 0, .aload_n 0, 1, 0, 0, 0, .null, rm_M0, []),
  (.aload 1, .aload_n 1, 1, 0, 0, 0, .null, rm_M0, []),
  (.getfield 49, .getfield 49, 3, 7, 8, 285, .null, rm_M0, []),
  (.putfield 49, .putfield 49, 3, 7, 8, 285, .int 0, rm_M0, []),
  (.aload 0, .aload_n 0, 1, 0, 0, 0, .null, rm_M0, []),
  (.aload 1, .aload_n 1, 1, 0, 0, 0, .null, rm_M0, []),
  (.getfield 52, .getfield 52, 3, 7, 9, 286, .null, rm_M0, []),
  (.putfield 52, .putfield 52, 3, 7, 9, 286, .int 0, rm_M0, []),
  (.aload 0, .aload_n 0, 1, 0, 0, 0, .null, rm_M0, []),
  (.aload 1, .aload_n 1, 1, 0, 0, 0, .null, rm_M0, []),
  (.getfield 55, .getfield 55, 3, 7, 10, 287, .null, rm_M0, []),
  (.putfield 55, .putfield 55, 3, 7, 10, 287, .int 0, rm_M0, []),
  (.aload 1, .aload_n 1, 1, 0, 0, 0, .null, rm_M0, []),
  (.getfield 9, .getfield 9, 3, 7, 11, 289, .null, rm_M0, []),
  (.nop, .iconst 0, 1, 0, 0, 0, .int 0, rm_M0, []),
  (.aload 0, .aload_n 0, 1, 0, 0, 0, .null, rm_M0, []),
  (.getfield 9, .getfield 9, 3, 7, 11, 289, .null, rm_M0, []),
  (.nop, .iconst 0, 1, 0, 0, 0, .int 0, rm_M0, []),
  (.nop, .bipush 8, 2, 0, 0, 0, .int 8, rm_M0, []),
  (.jsr_w 0, .invokestatic 59, 3, 0, 0, 59, .null, rm_M0, [(0, 699), (0, 701), (0, 700), (0, 115)]),
  (.aload 1, .aload_n 1, 1, 0, 0, 0, .null, rm_M0, []),
  (.getfield 15, .getfield 15, 3, 7, 12, 292, .null, rm_M0, []),
  (.nop, .iconst 0, 1, 0, 0, 0, .int 0, rm_M0, []),
  (.aload 0, .aload_n 0, 1, 0, 0, 0, .null, rm_M0, []),
  (.getfield 15, .getfield 15, 3, 7, 12, 292, .null, rm_M0, []),
  (.nop, .iconst 0, 1, 0, 0, 0, .int 0, rm_M0, []),
  (.nop, .bipush 8, 2, 0, 0, 0, .int 8, rm_M0, []),
  (.jsr_w 0, .invokestatic 59, 3, 0, 0, 59, .null, rm_M0, [(0, 699), (0, 701), (0, 700), (0, 115)]),
  (.return_, .return_, 1, 0, 0, 0, .null, rm_M0, [])]
def tX7_copyFrom : rm_P := [(0, bX7_copyFrom_0)]
theorem ok_X7_copyFrom_t : rm_okP mX7_copyFrom tX7_copyFrom = true := by decide +kernel
theorem ok_X7_copyFrom : rm_okM mX7_copyFrom tX7_copyFrom := ⟨ok_X7_copyFrom_t, fun _ h => absurd h List.not_mem_nil⟩
theorem atX7_copyFrom_0 : rm_at tX7_copyFrom 0 = some bX7_copyFrom_0 := rfl
def bX7_balance_0 : List rm_J := [
  (.aload 0, .aload_n 0, 1, 0, 0, 0, .null, rm_M0, []),
  (.getfield 36, .getfield 36, 3, 7, 4, 273, .null, rm_M0, []),
  (.aload 0, .aload_n 0, 1, 0, 0, 0, .null, rm_M0, []),
  (.getfield 39, .getfield 39, 3, 7, 5, 277, .null, rm_M0, []),
  (.isub, .isub, 1, 0, 0, 0, .null, rm_M0, []),
  (.ireturn, .ireturn, 1, 0, 0, 0, .null, rm_M0, [])]
def tX7_balance : rm_P := [(0, bX7_balance_0)]
theorem ok_X7_balance_t : rm_okP mX7_balance tX7_balance = true := by decide +kernel
theorem ok_X7_balance : rm_okM mX7_balance tX7_balance := ⟨ok_X7_balance_t, fun _ h => absurd h List.not_mem_nil⟩
theorem atX7_balance_0 : rm_at tX7_balance 0 = some bX7_balance_0 := rfl
def bX7_becameOf_0 : List rm_J := [
  (.aload 0, .aload_n 0, 1, 0, 0, 0, .null, rm_M0, []),
  (.getfield 49, .getfield 49, 3, 7, 8, 285, .null, rm_M0, []),
  (.iload 1, .iload_n 1, 1, 0, 0, 0, .null, rm_M0, []),
  (.ishr, .ishr, 1, 0, 0, 0, .null, rm_M0, []),
  (.nop, .iconst 1, 1, 0, 0, 0, .int 1, rm_M0, []),
  (.iand, .iand, 1, 0, 0, 0, .null, rm_M0, []),
  (.ifCond .eq 5, .ifCond .eq 5, 3, 13, 0, 0, .null, rm_M0, []),
  (.nop, .iconst 1, 1, 0, 0, 0, .int 1, rm_M0, []),
  (.ireturn, .ireturn, 1, 0, 0, 0, .null, rm_M0, [])]
def bX7_becameOf_13 : List rm_J := [
  (.aload 0, .aload_n 0, 1, 0, 0, 0, .null, rm_M0, []),
  (.getfield 52, .getfield 52, 3, 7, 9, 286, .null, rm_M0, []),
  (.iload 1, .iload_n 1, 1, 0, 0, 0, .null, rm_M0, []),
  (.ishr, .ishr, 1, 0, 0, 0, .null, rm_M0, []),
  (.nop, .iconst 1, 1, 0, 0, 0, .int 1, rm_M0, []),
  (.iand, .iand, 1, 0, 0, 0, .null, rm_M0, []),
  (.ifCond .eq 5, .ifCond .eq 5, 3, 26, 0, 0, .null, rm_M0, []),
  (.nop, .iconst 2, 1, 0, 0, 0, .int 2, rm_M0, []),
  (.ireturn, .ireturn, 1, 0, 0, 0, .null, rm_M0, [])]
def bX7_becameOf_26 : List rm_J := [
  (.aload 0, .aload_n 0, 1, 0, 0, 0, .null, rm_M0, []),
  (.iload 1, .iload_n 1, 1, 0, 0, 0, .null, rm_M0, []),
  (.invokevirtual 66, .invokevirtual 66, 3, 0, 1, 0, .null, mX7_isLost, [(0, 789), (0, 790), (0, 791)]),
  (.ifCond .eq 7, .ifCond .eq 7, 3, 38, 0, 0, .null, rm_M0, []),
  (.nop, .iconst 3, 1, 0, 0, 0, .int 3, rm_M0, []),
  (.goto 4, .goto 4, 3, 39, 0, 0, .null, rm_M0, [])]
def bX7_becameOf_38 : List rm_J := [
  (.nop, .iconst 0, 1, 0, 0, 0, .int 0, rm_M0, [])]
def bX7_becameOf_39 : List rm_J := [
  (.ireturn, .ireturn, 1, 0, 0, 0, .null, rm_M0, [])]
def tX7_becameOf : rm_P := [(0, bX7_becameOf_0), (13, bX7_becameOf_13), (26, bX7_becameOf_26), (38, bX7_becameOf_38), (39, bX7_becameOf_39)]
theorem ok_X7_becameOf_t : rm_okP mX7_becameOf tX7_becameOf = true := by decide +kernel
theorem ok_X7_becameOf : rm_okM mX7_becameOf tX7_becameOf := ⟨ok_X7_becameOf_t, List.forall_mem_cons.mpr ⟨cw_X7_isLost, fun _ h => absurd h List.not_mem_nil⟩⟩
theorem atX7_becameOf_0 : rm_at tX7_becameOf 0 = some bX7_becameOf_0 := rfl
theorem atX7_becameOf_13 : rm_at tX7_becameOf 13 = some bX7_becameOf_13 := rfl
theorem atX7_becameOf_26 : rm_at tX7_becameOf 26 = some bX7_becameOf_26 := rfl
theorem atX7_becameOf_38 : rm_at tX7_becameOf 38 = some bX7_becameOf_38 := rfl
theorem atX7_becameOf_39 : rm_at tX7_becameOf 39 = some bX7_becameOf_39 := rfl
def bX7_isLost_0 : List rm_J := [
  (.aload 0, .aload_n 0, 1, 0, 0, 0, .null, rm_M0, []),
  (.getfield 55, .getfield 55, 3, 7, 10, 287, .null, rm_M0, []),
  (.iload 1, .iload_n 1, 1, 0, 0, 0, .null, rm_M0, []),
  (.ishr, .ishr, 1, 0, 0, 0, .null, rm_M0, []),
  (.nop, .iconst 1, 1, 0, 0, 0, .int 1, rm_M0, []),
  (.iand, .iand, 1, 0, 0, 0, .null, rm_M0, []),
  (.ifCond .eq 7, .ifCond .eq 7, 3, 15, 0, 0, .null, rm_M0, []),
  (.nop, .iconst 1, 1, 0, 0, 0, .int 1, rm_M0, []),
  (.goto 4, .goto 4, 3, 16, 0, 0, .null, rm_M0, [])]
def bX7_isLost_15 : List rm_J := [
  (.nop, .iconst 0, 1, 0, 0, 0, .int 0, rm_M0, [])]
def bX7_isLost_16 : List rm_J := [
  (.ireturn, .ireturn, 1, 0, 0, 0, .null, rm_M0, [])]
def tX7_isLost : rm_P := [(0, bX7_isLost_0), (15, bX7_isLost_15), (16, bX7_isLost_16)]
theorem ok_X7_isLost_t : rm_okP mX7_isLost tX7_isLost = true := by decide +kernel
theorem ok_X7_isLost : rm_okM mX7_isLost tX7_isLost := ⟨ok_X7_isLost_t, fun _ h => absurd h List.not_mem_nil⟩
theorem atX7_isLost_0 : rm_at tX7_isLost 0 = some bX7_isLost_0 := rfl
theorem atX7_isLost_15 : rm_at tX7_isLost 15 = some bX7_isLost_15 := rfl
theorem atX7_isLost_16 : rm_at tX7_isLost 16 = some bX7_isLost_16 := rfl
def bX7_isAllSettled_0 : List rm_J := [
  (.aload 0, .aload_n 0, 1, 0, 0, 0, .null, rm_M0, []),
  (.getfield 49, .getfield 49, 3, 7, 8, 285, .null, rm_M0, []),
  (.aload 0, .aload_n 0, 1, 0, 0, 0, .null, rm_M0, []),
  (.getfield 52, .getfield 52, 3, 7, 9, 286, .null, rm_M0, []),
  (.ior, .ior, 1, 0, 0, 0, .null, rm_M0, []),
  (.aload 0, .aload_n 0, 1, 0, 0, 0, .null, rm_M0, []),
  (.getfield 55, .getfield 55, 3, 7, 10, 287, .null, rm_M0, []),
  (.ior, .ior, 1, 0, 0, 0, .null, rm_M0, []),
  (.nop, .iconst 1, 1, 0, 0, 0, .int 1, rm_M0, []),
  (.aload 0, .aload_n 0, 1, 0, 0, 0, .null, rm_M0, []),
  (.getfield 18, .getfield 18, 3, 7, 0, 262, .null, rm_M0, []),
  (.getfield 70, .getfield 70, 3, 3, 3, 222, .null, rm_M0, []),
  (.ishl, .ishl, 1, 0, 0, 0, .null, rm_M0, []),
  (.nop, .iconst 1, 1, 0, 0, 0, .int 1, rm_M0, []),
  (.isub, .isub, 1, 0, 0, 0, .null, rm_M0, []),
  (.if_icmp .ne 7, .if_icmp .ne 7, 3, 32, 0, 0, .null, rm_M0, []),
  (.nop, .iconst 1, 1, 0, 0, 0, .int 1, rm_M0, []),
  (.goto 4, .goto 4, 3, 33, 0, 0, .null, rm_M0, [])]
def bX7_isAllSettled_32 : List rm_J := [
  (.nop, .iconst 0, 1, 0, 0, 0, .int 0, rm_M0, [])]
def bX7_isAllSettled_33 : List rm_J := [
  (.ireturn, .ireturn, 1, 0, 0, 0, .null, rm_M0, [])]
def tX7_isAllSettled : rm_P := [(0, bX7_isAllSettled_0), (32, bX7_isAllSettled_32), (33, bX7_isAllSettled_33)]
theorem ok_X7_isAllSettled_t : rm_okP mX7_isAllSettled tX7_isAllSettled = true := by decide +kernel
theorem ok_X7_isAllSettled : rm_okM mX7_isAllSettled tX7_isAllSettled := ⟨ok_X7_isAllSettled_t, fun _ h => absurd h List.not_mem_nil⟩
theorem atX7_isAllSettled_0 : rm_at tX7_isAllSettled 0 = some bX7_isAllSettled_0 := rfl
theorem atX7_isAllSettled_32 : rm_at tX7_isAllSettled 32 = some bX7_isAllSettled_32 := rfl
theorem atX7_isAllSettled_33 : rm_at tX7_isAllSettled 33 = some bX7_isAllSettled_33 := rfl
def bX7_isOpen_0 : List rm_J := [
  (.aload 0, .aload_n 0, 1, 0, 0, 0, .null, rm_M0, []),
  (.getfield 18, .getfield 18, 3, 7, 0, 262, .null, rm_M0, []),
  (.iload 1, .iload_n 1, 1, 0, 0, 0, .null, rm_M0, []),
  (.invokevirtual 73, .invokevirtual 73, 3, 0, 1, 0, .null, mX3_has, [(0, 797), (0, 684), (0, 685)]),
  (.ifCond .eq 18, .ifCond .eq 18, 3, 26, 0, 0, .null, rm_M0, []),
  (.aload 0, .aload_n 0, 1, 0, 0, 0, .null, rm_M0, []),
  (.invokevirtual 76, .invokevirtual 76, 3, 0, 0, 0, .null, mX7_openSet, [(0, 798), (0, 799), (0, 800)]),
  (.iload 1, .iload_n 1, 1, 0, 0, 0, .null, rm_M0, []),
  (.ishr, .ishr, 1, 0, 0, 0, .null, rm_M0, []),
  (.nop, .iconst 1, 1, 0, 0, 0, .int 1, rm_M0, []),
  (.iand, .iand, 1, 0, 0, 0, .null, rm_M0, []),
  (.ifCond .eq 7, .ifCond .eq 7, 3, 26, 0, 0, .null, rm_M0, []),
  (.nop, .iconst 1, 1, 0, 0, 0, .int 1, rm_M0, []),
  (.goto 4, .goto 4, 3, 27, 0, 0, .null, rm_M0, [])]
def bX7_isOpen_26 : List rm_J := [
  (.nop, .iconst 0, 1, 0, 0, 0, .int 0, rm_M0, [])]
def bX7_isOpen_27 : List rm_J := [
  (.ireturn, .ireturn, 1, 0, 0, 0, .null, rm_M0, [])]
def tX7_isOpen : rm_P := [(0, bX7_isOpen_0), (26, bX7_isOpen_26), (27, bX7_isOpen_27)]
theorem ok_X7_isOpen_t : rm_okP mX7_isOpen tX7_isOpen = true := by decide +kernel
theorem ok_X7_isOpen : rm_okM mX7_isOpen tX7_isOpen := ⟨ok_X7_isOpen_t, List.forall_mem_cons.mpr ⟨cw_X3_has, List.forall_mem_cons.mpr ⟨cw_X7_openSet, fun _ h => absurd h List.not_mem_nil⟩⟩⟩
theorem atX7_isOpen_0 : rm_at tX7_isOpen 0 = some bX7_isOpen_0 := rfl
theorem atX7_isOpen_26 : rm_at tX7_isOpen 26 = some bX7_isOpen_26 := rfl
theorem atX7_isOpen_27 : rm_at tX7_isOpen 27 = some bX7_isOpen_27 := rfl
def bX7_openSet_0 : List rm_J := [
  (.aload 0, .aload_n 0, 1, 0, 0, 0, .null, rm_M0, []),
  (.getfield 49, .getfield 49, 3, 7, 8, 285, .null, rm_M0, []),
  (.aload 0, .aload_n 0, 1, 0, 0, 0, .null, rm_M0, []),
  (.getfield 52, .getfield 52, 3, 7, 9, 286, .null, rm_M0, []),
  (.ior, .ior, 1, 0, 0, 0, .null, rm_M0, []),
  (.aload 0, .aload_n 0, 1, 0, 0, 0, .null, rm_M0, []),
  (.getfield 55, .getfield 55, 3, 7, 10, 287, .null, rm_M0, []),
  (.ior, .ior, 1, 0, 0, 0, .null, rm_M0, []),
  (.istore 1, .istore_n 1, 1, 0, 0, 0, .null, rm_M0, []),
  (.nop, .iconst 0, 1, 0, 0, 0, .int 0, rm_M0, []),
  (.istore 2, .istore_n 2, 1, 0, 0, 0, .null, rm_M0, []),
  (.nop, .iconst 0, 1, 0, 0, 0, .int 0, rm_M0, []),
  (.istore 3, .istore_n 3, 1, 0, 0, 0, .null, rm_M0, [])]
def bX7_openSet_19 : List rm_J := [
  (.iload 3, .iload_n 3, 1, 0, 0, 0, .null, rm_M0, []),
  (.aload 0, .aload_n 0, 1, 0, 0, 0, .null, rm_M0, []),
  (.getfield 18, .getfield 18, 3, 7, 0, 262, .null, rm_M0, []),
  (.getfield 70, .getfield 70, 3, 3, 3, 222, .null, rm_M0, []),
  (.if_icmp .ge 39, .if_icmp .ge 39, 3, 66, 0, 0, .null, rm_M0, []),
  (.aload 0, .aload_n 0, 1, 0, 0, 0, .null, rm_M0, []),
  (.getfield 29, .getfield 29, 3, 7, 2, 267, .null, rm_M0, []),
  (.aload 0, .aload_n 0, 1, 0, 0, 0, .null, rm_M0, []),
  (.getfield 18, .getfield 18, 3, 7, 0, 262, .null, rm_M0, []),
  (.getfield 80, .getfield 80, 3, 3, 6, 230, .null, rm_M0, []),
  (.iload 3, .iload_n 3, 1, 0, 0, 0, .null, rm_M0, []),
  (.iaload, .iaload, 1, 0, 0, 0, .null, rm_M0, []),
  (.if_icmp .lt 17, .if_icmp .lt 17, 3, 60, 0, 0, .null, rm_M0, []),
  (.iload 1, .iload_n 1, 1, 0, 0, 0, .null, rm_M0, []),
  (.iload 3, .iload_n 3, 1, 0, 0, 0, .null, rm_M0, []),
  (.ishr, .ishr, 1, 0, 0, 0, .null, rm_M0, []),
  (.nop, .iconst 1, 1, 0, 0, 0, .int 1, rm_M0, []),
  (.iand, .iand, 1, 0, 0, 0, .null, rm_M0, []),
  (.ifCond .ne 9, .ifCond .ne 9, 3, 60, 0, 0, .null, rm_M0, []),
  (.iload 2, .iload_n 2, 1, 0, 0, 0, .null, rm_M0, []),
  (.nop, .iconst 1, 1, 0, 0, 0, .int 1, rm_M0, []),
  (.iload 3, .iload_n 3, 1, 0, 0, 0, .null, rm_M0, []),
  (.ishl, .ishl, 1, 0, 0, 0, .null, rm_M0, []),
  (.ior, .ior, 1, 0, 0, 0, .null, rm_M0, []),
  (.istore 2, .istore_n 2, 1, 0, 0, 0, .null, rm_M0, [])]
def bX7_openSet_60 : List rm_J := [
  (.iinc 3 1, .iinc 3 1, 3, 0, 0, 0, .int 1, rm_M0, []),
  (.goto (-44), .goto (-44), 3, 19, 0, 0, .null, rm_M0, [])]
def bX7_openSet_66 : List rm_J := [
  (.iload 2, .iload_n 2, 1, 0, 0, 0, .null, rm_M0, []),
  (.ireturn, .ireturn, 1, 0, 0, 0, .null, rm_M0, [])]
def tX7_openSet : rm_P := [(0, bX7_openSet_0), (19, bX7_openSet_19), (60, bX7_openSet_60), (66, bX7_openSet_66)]
theorem ok_X7_openSet_t : rm_okP mX7_openSet tX7_openSet = true := by decide +kernel
theorem ok_X7_openSet : rm_okM mX7_openSet tX7_openSet := ⟨ok_X7_openSet_t, fun _ h => absurd h List.not_mem_nil⟩
theorem atX7_openSet_0 : rm_at tX7_openSet 0 = some bX7_openSet_0 := rfl
theorem atX7_openSet_19 : rm_at tX7_openSet 19 = some bX7_openSet_19 := rfl
theorem atX7_openSet_60 : rm_at tX7_openSet 60 = some bX7_openSet_60 := rfl
theorem atX7_openSet_66 : rm_at tX7_openSet 66 = some bX7_openSet_66 := rfl
def bX7_areAlike_0 : List rm_J := [
  (.aload 0, .aload_n 0, 1, 0, 0, 0, .null, rm_M0, []),
  (.getfield 15, .getfield 15, 3, 7, 12, 292, .null, rm_M0, []),
  (.iload 1, .iload_n 1, 1, 0, 0, 0, .null, rm_M0, []),
  (.iaload, .iaload, 1, 0, 0, 0, .null, rm_M0, []),
  (.iload 2, .iload_n 2, 1, 0, 0, 0, .null, rm_M0, []),
  (.ishr, .ishr, 1, 0, 0, 0, .null, rm_M0, []),
  (.nop, .iconst 1, 1, 0, 0, 0, .int 1, rm_M0, []),
  (.iand, .iand, 1, 0, 0, 0, .null, rm_M0, []),
  (.ifCond .eq 7, .ifCond .eq 7, 3, 17, 0, 0, .null, rm_M0, []),
  (.nop, .iconst 1, 1, 0, 0, 0, .int 1, rm_M0, []),
  (.goto 4, .goto 4, 3, 18, 0, 0, .null, rm_M0, [])]
def bX7_areAlike_17 : List rm_J := [
  (.nop, .iconst 0, 1, 0, 0, 0, .int 0, rm_M0, [])]
def bX7_areAlike_18 : List rm_J := [
  (.ireturn, .ireturn, 1, 0, 0, 0, .null, rm_M0, [])]
def tX7_areAlike : rm_P := [(0, bX7_areAlike_0), (17, bX7_areAlike_17), (18, bX7_areAlike_18)]
theorem ok_X7_areAlike_t : rm_okP mX7_areAlike tX7_areAlike = true := by decide +kernel
theorem ok_X7_areAlike : rm_okM mX7_areAlike tX7_areAlike := ⟨ok_X7_areAlike_t, fun _ h => absurd h List.not_mem_nil⟩
theorem atX7_areAlike_0 : rm_at tX7_areAlike 0 = some bX7_areAlike_0 := rfl
theorem atX7_areAlike_17 : rm_at tX7_areAlike 17 = some bX7_areAlike_17 := rfl
theorem atX7_areAlike_18 : rm_at tX7_areAlike 18 = some bX7_areAlike_18 := rfl
def bX7_tieOrCut_0 : List rm_J := [
  (.aload 0, .aload_n 0, 1, 0, 0, 0, .null, rm_M0, []),
  (.getfield 15, .getfield 15, 3, 7, 12, 292, .null, rm_M0, []),
  (.iload 1, .iload_n 1, 1, 0, 0, 0, .null, rm_M0, []),
  (.dup2, .dup2, 1, 0, 0, 0, .null, rm_M0, []),
  (.iaload, .iaload, 1, 0, 0, 0, .null, rm_M0, []),
  (.nop, .iconst 1, 1, 0, 0, 0, .int 1, rm_M0, []),
  (.iload 2, .iload_n 2, 1, 0, 0, 0, .null, rm_M0, []),
  (.ishl, .ishl, 1, 0, 0, 0, .null, rm_M0, []),
  (.ixor, .ixor, 1, 0, 0, 0, .null, rm_M0, []),
  (.iastore, .iastore, 1, 0, 0, 0, .null, rm_M0, []),
  (.aload 0, .aload_n 0, 1, 0, 0, 0, .null, rm_M0, []),
  (.getfield 15, .getfield 15, 3, 7, 12, 292, .null, rm_M0, []),
  (.iload 2, .iload_n 2, 1, 0, 0, 0, .null, rm_M0, []),
  (.dup2, .dup2, 1, 0, 0, 0, .null, rm_M0, []),
  (.iaload, .iaload, 1, 0, 0, 0, .null, rm_M0, []),
  (.nop, .iconst 1, 1, 0, 0, 0, .int 1, rm_M0, []),
  (.iload 1, .iload_n 1, 1, 0, 0, 0, .null, rm_M0, []),
  (.ishl, .ishl, 1, 0, 0, 0, .null, rm_M0, []),
  (.ixor, .ixor, 1, 0, 0, 0, .null, rm_M0, []),
  (.iastore, .iastore, 1, 0, 0, 0, .null, rm_M0, []),
  (.return_, .return_, 1, 0, 0, 0, .null, rm_M0, [])]
def tX7_tieOrCut : rm_P := [(0, bX7_tieOrCut_0)]
theorem ok_X7_tieOrCut_t : rm_okP mX7_tieOrCut tX7_tieOrCut = true := by decide +kernel
theorem ok_X7_tieOrCut : rm_okM mX7_tieOrCut tX7_tieOrCut := ⟨ok_X7_tieOrCut_t, fun _ h => absurd h List.not_mem_nil⟩
theorem atX7_tieOrCut_0 : rm_at tX7_tieOrCut 0 = some bX7_tieOrCut_0 := rfl
def bX7_brings_0 : List rm_J := [
  (.aload 0, .aload_n 0, 1, 0, 0, 0, .null, rm_M0, []),
  (.getfield 15, .getfield 15, 3, 7, 12, 292, .null, rm_M0, []),
  (.iload 1, .iload_n 1, 1, 0, 0, 0, .null, rm_M0, []),
  (.iaload, .iaload, 1, 0, 0, 0, .null, rm_M0, []),
  (.iload 2, .iload_n 2, 1, 0, 0, 0, .null, rm_M0, []),
  (.iand, .iand, 1, 0, 0, 0, .null, rm_M0, []),
  (.istore 3, .istore_n 3, 1, 0, 0, 0, .null, rm_M0, []),
  (.aload 0, .aload_n 0, 1, 0, 0, 0, .null, rm_M0, []),
  (.getfield 9, .getfield 9, 3, 7, 11, 289, .null, rm_M0, []),
  (.iload 1, .iload_n 1, 1, 0, 0, 0, .null, rm_M0, []),
  (.iaload, .iaload, 1, 0, 0, 0, .null, rm_M0, []),
  (.istore 4, .istore 4, 2, 0, 0, 0, .null, rm_M0, []),
  (.nop, .iconst 0, 1, 0, 0, 0, .int 0, rm_M0, []),
  (.istore 5, .istore 5, 2, 0, 0, 0, .null, rm_M0, [])]
def bX7_brings_20 : List rm_J := [
  (.iload 3, .iload_n 3, 1, 0, 0, 0, .null, rm_M0, []),
  (.iload 5, .iload 5, 2, 0, 0, 0, .null, rm_M0, []),
  (.ishr, .ishr, 1, 0, 0, 0, .null, rm_M0, []),
  (.ifCond .eq 48, .ifCond .eq 48, 3, 72, 0, 0, .null, rm_M0, []),
  (.iload 5, .iload 5, 2, 0, 0, 0, .null, rm_M0, []),
  (.nop, .bipush 8, 2, 0, 0, 0, .int 8, rm_M0, []),
  (.if_icmp .ge 41, .if_icmp .ge 41, 3, 72, 0, 0, .null, rm_M0, []),
  (.iload 3, .iload_n 3, 1, 0, 0, 0, .null, rm_M0, []),
  (.iload 5, .iload 5, 2, 0, 0, 0, .null, rm_M0, []),
  (.ishr, .ishr, 1, 0, 0, 0, .null, rm_M0, []),
  (.nop, .iconst 1, 1, 0, 0, 0, .int 1, rm_M0, []),
  (.iand, .iand, 1, 0, 0, 0, .null, rm_M0, []),
  (.ifCond .eq 26, .ifCond .eq 26, 3, 66, 0, 0, .null, rm_M0, []),
  (.iload 4, .iload 4, 2, 0, 0, 0, .null, rm_M0, []),
  (.aload 0, .aload_n 0, 1, 0, 0, 0, .null, rm_M0, []),
  (.getfield 9, .getfield 9, 3, 7, 11, 289, .null, rm_M0, []),
  (.iload 5, .iload 5, 2, 0, 0, 0, .null, rm_M0, []),
  (.iaload, .iaload, 1, 0, 0, 0, .null, rm_M0, []),
  (.aload 0, .aload_n 0, 1, 0, 0, 0, .null, rm_M0, []),
  (.getfield 18, .getfield 18, 3, 7, 0, 262, .null, rm_M0, []),
  (.getfield 83, .getfield 83, 3, 3, 2, 218, .null, rm_M0, []),
  (.imul, .imul, 1, 0, 0, 0, .null, rm_M0, []),
  (.nop, .bipush 10, 2, 0, 0, 0, .int 10, rm_M0, []),
  (.idiv, .idiv, 1, 0, 0, 0, .null, rm_M0, []),
  (.iadd, .iadd, 1, 0, 0, 0, .null, rm_M0, []),
  (.istore 4, .istore 4, 2, 0, 0, 0, .null, rm_M0, [])]
def bX7_brings_66 : List rm_J := [
  (.iinc 5 1, .iinc 5 1, 3, 0, 0, 0, .int 1, rm_M0, []),
  (.goto (-49), .goto (-49), 3, 20, 0, 0, .null, rm_M0, [])]
def bX7_brings_72 : List rm_J := [
  (.iload 4, .iload 4, 2, 0, 0, 0, .null, rm_M0, []),
  (.ireturn, .ireturn, 1, 0, 0, 0, .null, rm_M0, [])]
def tX7_brings : rm_P := [(0, bX7_brings_0), (20, bX7_brings_20), (66, bX7_brings_66), (72, bX7_brings_72)]
theorem ok_X7_brings_t : rm_okP mX7_brings tX7_brings = true := by decide +kernel
theorem ok_X7_brings : rm_okM mX7_brings tX7_brings := ⟨ok_X7_brings_t, fun _ h => absurd h List.not_mem_nil⟩
theorem atX7_brings_0 : rm_at tX7_brings 0 = some bX7_brings_0 := rfl
theorem atX7_brings_20 : rm_at tX7_brings 20 = some bX7_brings_20 := rfl
theorem atX7_brings_66 : rm_at tX7_brings 66 = some bX7_brings_66 := rfl
theorem atX7_brings_72 : rm_at tX7_brings 72 = some bX7_brings_72 := rfl
def bX7_answer_0 : List rm_J := [
  (.aload 0, .aload_n 0, 1, 0, 0, 0, .null, rm_M0, []),
  (.invokevirtual 76, .invokevirtual 76, 3, 0, 0, 0, .null, mX7_openSet, [(0, 798), (0, 799), (0, 800)]),
  (.istore 2, .istore_n 2, 1, 0, 0, 0, .null, rm_M0, []),
  (.aload 0, .aload_n 0, 1, 0, 0, 0, .null, rm_M0, []),
  (.iload 1, .iload_n 1, 1, 0, 0, 0, .null, rm_M0, []),
  (.iload 2, .iload_n 2, 1, 0, 0, 0, .null, rm_M0, []),
  (.invokevirtual 86, .invokevirtual 86, 3, 0, 2, 0, .null, mX7_brings, [(0, 886), (0, 804), (0, 805)]),
  (.istore 3, .istore_n 3, 1, 0, 0, 0, .null, rm_M0, []),
  (.aload 0, .aload_n 0, 1, 0, 0, 0, .null, rm_M0, []),
  (.dup, .dup, 1, 0, 0, 0, .null, rm_M0, []),
  (.getfield 49, .getfield 49, 3, 7, 8, 285, .null, rm_M0, []),
  (.nop, .iconst 1, 1, 0, 0, 0, .int 1, rm_M0, []),
  (.iload 1, .iload_n 1, 1, 0, 0, 0, .null, rm_M0, []),
  (.ishl, .ishl, 1, 0, 0, 0, .null, rm_M0, []),
  (.ior, .ior, 1, 0, 0, 0, .null, rm_M0, []),
  (.putfield 49, .putfield 49, 3, 7, 8, 285, .int 0, rm_M0, []),
  (.aload 0, .aload_n 0, 1, 0, 0, 0, .null, rm_M0, []),
  (.dup, .dup, 1, 0, 0, 0, .null, rm_M0, []),
  (.getfield 52, .getfield 52, 3, 7, 9, 286, .null, rm_M0, []),
  (.aload 0, .aload_n 0, 1, 0, 0, 0, .null, rm_M0, []),
  (.getfield 15, .getfield 15, 3, 7, 12, 292, .null, rm_M0, []),
  (.iload 1, .iload_n 1, 1, 0, 0, 0, .null, rm_M0, []),
  (.iaload, .iaload, 1, 0, 0, 0, .null, rm_M0, []),
  (.iload 2, .iload_n 2, 1, 0, 0, 0, .null, rm_M0, []),
  (.iand, .iand, 1, 0, 0, 0, .null, rm_M0, []),
  (.ior, .ior, 1, 0, 0, 0, .null, rm_M0, []),
  (.putfield 52, .putfield 52, 3, 7, 9, 286, .int 0, rm_M0, []),
  (.aload 0, .aload_n 0, 1, 0, 0, 0, .null, rm_M0, []),
  (.nop, .ldc 90, 2, 0, 0, 887, .int 99999, rm_M0, []),
  (.aload 0, .aload_n 0, 1, 0, 0, 0, .null, rm_M0, []),
  (.getfield 36, .getfield 36, 3, 7, 4, 273, .null, rm_M0, []),
  (.iload 3, .iload_n 3, 1, 0, 0, 0, .null, rm_M0, []),
  (.iadd, .iadd, 1, 0, 0, 0, .null, rm_M0, []),
  (.monitorenter, .invokestatic 91, 3, 0, 0, 91, .null, rm_M0, [(0, 888), (0, 607), (0, 113), (0, 608)]),
  (.putfield 36, .putfield 36, 3, 7, 4, 273, .int 0, rm_M0, []),
  (.iload 3, .iload_n 3, 1, 0, 0, 0, .null, rm_M0, []),
  (.ireturn, .ireturn, 1, 0, 0, 0, .null, rm_M0, [])]
def tX7_answer : rm_P := [(0, bX7_answer_0)]
theorem ok_X7_answer_t : rm_okP mX7_answer tX7_answer = true := by decide +kernel
theorem ok_X7_answer : rm_okM mX7_answer tX7_answer := ⟨ok_X7_answer_t, List.forall_mem_cons.mpr ⟨cw_X7_openSet, List.forall_mem_cons.mpr ⟨cw_X7_brings, fun _ h => absurd h List.not_mem_nil⟩⟩⟩
theorem atX7_answer_0 : rm_at tX7_answer 0 = some bX7_answer_0 := rfl
def bX7_covers_0 : List rm_J := [
  (.iload 1, .iload_n 1, 1, 0, 0, 0, .null, rm_M0, []),
  (.istore 3, .istore_n 3, 1, 0, 0, 0, .null, rm_M0, []),
  (.nop, .iconst 0, 1, 0, 0, 0, .int 0, rm_M0, []),
  (.istore 4, .istore 4, 2, 0, 0, 0, .null, rm_M0, [])]
def bX7_covers_5 : List rm_J := [
  (.iload 4, .iload 4, 2, 0, 0, 0, .null, rm_M0, []),
  (.aload 0, .aload_n 0, 1, 0, 0, 0, .null, rm_M0, []),
  (.getfield 18, .getfield 18, 3, 7, 0, 262, .null, rm_M0, []),
  (.getfield 70, .getfield 70, 3, 3, 3, 222, .null, rm_M0, []),
  (.if_icmp .ge 28, .if_icmp .ge 28, 3, 42, 0, 0, .null, rm_M0, []),
  (.iload 1, .iload_n 1, 1, 0, 0, 0, .null, rm_M0, []),
  (.iload 4, .iload 4, 2, 0, 0, 0, .null, rm_M0, []),
  (.ishr, .ishr, 1, 0, 0, 0, .null, rm_M0, []),
  (.nop, .iconst 1, 1, 0, 0, 0, .int 1, rm_M0, []),
  (.iand, .iand, 1, 0, 0, 0, .null, rm_M0, []),
  (.ifCond .eq 13, .ifCond .eq 13, 3, 36, 0, 0, .null, rm_M0, []),
  (.iload 3, .iload_n 3, 1, 0, 0, 0, .null, rm_M0, []),
  (.aload 0, .aload_n 0, 1, 0, 0, 0, .null, rm_M0, []),
  (.getfield 15, .getfield 15, 3, 7, 12, 292, .null, rm_M0, []),
  (.iload 4, .iload 4, 2, 0, 0, 0, .null, rm_M0, []),
  (.iaload, .iaload, 1, 0, 0, 0, .null, rm_M0, []),
  (.ior, .ior, 1, 0, 0, 0, .null, rm_M0, []),
  (.istore 3, .istore_n 3, 1, 0, 0, 0, .null, rm_M0, [])]
def bX7_covers_36 : List rm_J := [
  (.iinc 4 1, .iinc 4 1, 3, 0, 0, 0, .int 1, rm_M0, []),
  (.goto (-34), .goto (-34), 3, 5, 0, 0, .null, rm_M0, [])]
def bX7_covers_42 : List rm_J := [
  (.iload 2, .iload_n 2, 1, 0, 0, 0, .null, rm_M0, []),
  (.iload 3, .iload_n 3, 1, 0, 0, 0, .null, rm_M0, []),
  (.nop, .iconst (-1), 1, 0, 0, 0, .int (-1), rm_M0, []),
  (.ixor, .ixor, 1, 0, 0, 0, .null, rm_M0, []),
  (.iand, .iand, 1, 0, 0, 0, .null, rm_M0, []),
  (.ifCond .ne 7, .ifCond .ne 7, 3, 54, 0, 0, .null, rm_M0, []),
  (.nop, .iconst 1, 1, 0, 0, 0, .int 1, rm_M0, []),
  (.goto 4, .goto 4, 3, 55, 0, 0, .null, rm_M0, [])]
def bX7_covers_54 : List rm_J := [
  (.nop, .iconst 0, 1, 0, 0, 0, .int 0, rm_M0, [])]
def bX7_covers_55 : List rm_J := [
  (.ireturn, .ireturn, 1, 0, 0, 0, .null, rm_M0, [])]
def tX7_covers : rm_P := [(0, bX7_covers_0), (5, bX7_covers_5), (36, bX7_covers_36), (42, bX7_covers_42), (54, bX7_covers_54), (55, bX7_covers_55)]
theorem ok_X7_covers_t : rm_okP mX7_covers tX7_covers = true := by decide +kernel
theorem ok_X7_covers : rm_okM mX7_covers tX7_covers := ⟨ok_X7_covers_t, fun _ h => absurd h List.not_mem_nil⟩
theorem atX7_covers_0 : rm_at tX7_covers 0 = some bX7_covers_0 := rfl
theorem atX7_covers_5 : rm_at tX7_covers 5 = some bX7_covers_5 := rfl
theorem atX7_covers_36 : rm_at tX7_covers 36 = some bX7_covers_36 := rfl
theorem atX7_covers_42 : rm_at tX7_covers 42 = some bX7_covers_42 := rfl
theorem atX7_covers_54 : rm_at tX7_covers 54 = some bX7_covers_54 := rfl
theorem atX7_covers_55 : rm_at tX7_covers 55 = some bX7_covers_55 := rfl
def bX7_wakesByHimself_0 : List rm_J := [
  (.aload 0, .aload_n 0, 1, 0, 0, 0, .null, rm_M0, []),
  (.getfield 29, .getfield 29, 3, 7, 2, 267, .null, rm_M0, []),
  (.nop, .bipush 60, 2, 0, 0, 0, .int 60, rm_M0, []),
  (.if_icmp .gt 23, .if_icmp .gt 23, 3, 29, 0, 0, .null, rm_M0, []),
  (.aload 0, .aload_n 0, 1, 0, 0, 0, .null, rm_M0, []),
  (.getfield 28, .getfield 28, 3, 7, 1, 265, .null, rm_M0, []),
  (.aload 0, .aload_n 0, 1, 0, 0, 0, .null, rm_M0, []),
  (.getfield 29, .getfield 29, 3, 7, 2, 267, .null, rm_M0, []),
  (.lshr, .lshr, 1, 0, 0, 0, .null, rm_M0, []),
  (.nop, .lconst 1, 1, 0, 0, 0, .long 1, rm_M0, []),
  (.land, .land, 1, 0, 0, 0, .null, rm_M0, []),
  (.nop, .lconst 0, 1, 0, 0, 0, .long 0, rm_M0, []),
  (.lcmp, .lcmp, 1, 0, 0, 0, .null, rm_M0, []),
  (.ifCond .eq 7, .ifCond .eq 7, 3, 29, 0, 0, .null, rm_M0, []),
  (.nop, .iconst 1, 1, 0, 0, 0, .int 1, rm_M0, []),
  (.goto 4, .goto 4, 3, 30, 0, 0, .null, rm_M0, [])]
def bX7_wakesByHimself_29 : List rm_J := [
  (.nop, .iconst 0, 1, 0, 0, 0, .int 0, rm_M0, [])]
def bX7_wakesByHimself_30 : List rm_J := [
  (.ireturn, .ireturn, 1, 0, 0, 0, .null, rm_M0, [])]
def tX7_wakesByHimself : rm_P := [(0, bX7_wakesByHimself_0), (29, bX7_wakesByHimself_29), (30, bX7_wakesByHimself_30)]
theorem ok_X7_wakesByHimself_t : rm_okP mX7_wakesByHimself tX7_wakesByHimself = true := by decide +kernel
theorem ok_X7_wakesByHimself : rm_okM mX7_wakesByHimself tX7_wakesByHimself := ⟨ok_X7_wakesByHimself_t, fun _ h => absurd h List.not_mem_nil⟩
theorem atX7_wakesByHimself_0 : rm_at tX7_wakesByHimself 0 = some bX7_wakesByHimself_0 := rfl
theorem atX7_wakesByHimself_29 : rm_at tX7_wakesByHimself 29 = some bX7_wakesByHimself_29 := rfl
theorem atX7_wakesByHimself_30 : rm_at tX7_wakesByHimself 30 = some bX7_wakesByHimself_30 := rfl
def bX7_isDayWasted_0 : List rm_J := [
  (.aload 0, .aload_n 0, 1, 0, 0, 0, .null, rm_M0, []),
  (.getfield 45, .getfield 45, 3, 7, 7, 283, .null, rm_M0, []),
  (.ifCond .ne 10, .ifCond .ne 10, 3, 14, 0, 0, .null, rm_M0, []),
  (.aload 0, .aload_n 0, 1, 0, 0, 0, .null, rm_M0, []),
  (.invokevirtual 96, .invokevirtual 96, 3, 0, 0, 0, .null, mX7_wakesByHimself, [(0, 844), (0, 845), (0, 846)]),
  (.ifCond .eq 7, .ifCond .eq 7, 3, 18, 0, 0, .null, rm_M0, [])]
def bX7_isDayWasted_14 : List rm_J := [
  (.nop, .iconst 1, 1, 0, 0, 0, .int 1, rm_M0, []),
  (.goto 4, .goto 4, 3, 19, 0, 0, .null, rm_M0, [])]
def bX7_isDayWasted_18 : List rm_J := [
  (.nop, .iconst 0, 1, 0, 0, 0, .int 0, rm_M0, [])]
def bX7_isDayWasted_19 : List rm_J := [
  (.ireturn, .ireturn, 1, 0, 0, 0, .null, rm_M0, [])]
def tX7_isDayWasted : rm_P := [(0, bX7_isDayWasted_0), (14, bX7_isDayWasted_14), (18, bX7_isDayWasted_18), (19, bX7_isDayWasted_19)]
theorem ok_X7_isDayWasted_t : rm_okP mX7_isDayWasted tX7_isDayWasted = true := by decide +kernel
theorem ok_X7_isDayWasted : rm_okM mX7_isDayWasted tX7_isDayWasted := ⟨ok_X7_isDayWasted_t, List.forall_mem_cons.mpr ⟨cw_X7_wakesByHimself, fun _ h => absurd h List.not_mem_nil⟩⟩
theorem atX7_isDayWasted_0 : rm_at tX7_isDayWasted 0 = some bX7_isDayWasted_0 := rfl
theorem atX7_isDayWasted_14 : rm_at tX7_isDayWasted 14 = some bX7_isDayWasted_14 := rfl
theorem atX7_isDayWasted_18 : rm_at tX7_isDayWasted 18 = some bX7_isDayWasted_18 := rfl
theorem atX7_isDayWasted_19 : rm_at tX7_isDayWasted 19 = some bX7_isDayWasted_19 := rfl
def bX7_decide_0 : List rm_J := [
  (.aload 0, .aload_n 0, 1, 0, 0, 0, .null, rm_M0, []),
  (.getfield 18, .getfield 18, 3, 7, 0, 262, .null, rm_M0, []),
  (.iload 1, .iload_n 1, 1, 0, 0, 0, .null, rm_M0, []),
  (.invokevirtual 73, .invokevirtual 73, 3, 0, 1, 0, .null, mX3_has, [(0, 797), (0, 684), (0, 685)]),
  (.ifCond .eq 12, .ifCond .eq 12, 3, 20, 0, 0, .null, rm_M0, []),
  (.aload 0, .aload_n 0, 1, 0, 0, 0, .null, rm_M0, []),
  (.iload 1, .iload_n 1, 1, 0, 0, 0, .null, rm_M0, []),
  (.invokevirtual 100, .invokevirtual 100, 3, 0, 1, 0, .null, mX7_answer, [(0, 882), (0, 883), (0, 884)]),
  (.pop, .pop, 1, 0, 0, 0, .null, rm_M0, []),
  (.goto 23, .goto 23, 3, 40, 0, 0, .null, rm_M0, [])]
def bX7_decide_20 : List rm_J := [
  (.aload 0, .aload_n 0, 1, 0, 0, 0, .null, rm_M0, []),
  (.aload 0, .aload_n 0, 1, 0, 0, 0, .null, rm_M0, []),
  (.getfield 18, .getfield 18, 3, 7, 0, 262, .null, rm_M0, []),
  (.getfield 104, .getfield 104, 3, 3, 1, 215, .null, rm_M0, []),
  (.aload 0, .aload_n 0, 1, 0, 0, 0, .null, rm_M0, []),
  (.getfield 33, .getfield 33, 3, 7, 3, 270, .null, rm_M0, []),
  (.nop, .iconst 1, 1, 0, 0, 0, .int 1, rm_M0, []),
  (.iadd, .iadd, 1, 0, 0, 0, .null, rm_M0, []),
  (.monitorenter, .invokestatic 91, 3, 0, 0, 91, .null, rm_M0, [(0, 888), (0, 607), (0, 113), (0, 608)]),
  (.putfield 33, .putfield 33, 3, 7, 3, 270, .int 0, rm_M0, [])]
def bX7_decide_40 : List rm_J := [
  (.return_, .return_, 1, 0, 0, 0, .null, rm_M0, [])]
def tX7_decide : rm_P := [(0, bX7_decide_0), (20, bX7_decide_20), (40, bX7_decide_40)]
theorem ok_X7_decide_t : rm_okP mX7_decide tX7_decide = true := by decide +kernel
theorem ok_X7_decide : rm_okM mX7_decide tX7_decide := ⟨ok_X7_decide_t, List.forall_mem_cons.mpr ⟨cw_X3_has, List.forall_mem_cons.mpr ⟨cw_X7_answer, fun _ h => absurd h List.not_mem_nil⟩⟩⟩
theorem atX7_decide_0 : rm_at tX7_decide 0 = some bX7_decide_0 := rfl
theorem atX7_decide_20 : rm_at tX7_decide 20 = some bX7_decide_20 := rfl
theorem atX7_decide_40 : rm_at tX7_decide 40 = some bX7_decide_40 := rfl
def bX7_endDay_0 : List rm_J := [
  (.aload 0, .aload_n 0, 1, 0, 0, 0, .null, rm_M0, []),
  (.invokevirtual 76, .invokevirtual 76, 3, 0, 0, 0, .null, mX7_openSet, [(0, 798), (0, 799), (0, 800)]),
  (.istore 1, .istore_n 1, 1, 0, 0, 0, .null, rm_M0, []),
  (.nop, .iconst 0, 1, 0, 0, 0, .int 0, rm_M0, []),
  (.istore 2, .istore_n 2, 1, 0, 0, 0, .null, rm_M0, [])]
def bX7_endDay_7 : List rm_J := [
  (.iload 1, .iload_n 1, 1, 0, 0, 0, .null, rm_M0, []),
  (.iload 2, .iload_n 2, 1, 0, 0, 0, .null, rm_M0, []),
  (.ishr, .ishr, 1, 0, 0, 0, .null, rm_M0, []),
  (.ifCond .eq 76, .ifCond .eq 76, 3, 86, 0, 0, .null, rm_M0, []),
  (.iload 2, .iload_n 2, 1, 0, 0, 0, .null, rm_M0, []),
  (.aload 0, .aload_n 0, 1, 0, 0, 0, .null, rm_M0, []),
  (.getfield 18, .getfield 18, 3, 7, 0, 262, .null, rm_M0, []),
  (.getfield 70, .getfield 70, 3, 3, 3, 222, .null, rm_M0, []),
  (.if_icmp .ge 65, .if_icmp .ge 65, 3, 86, 0, 0, .null, rm_M0, []),
  (.iload 1, .iload_n 1, 1, 0, 0, 0, .null, rm_M0, []),
  (.iload 2, .iload_n 2, 1, 0, 0, 0, .null, rm_M0, []),
  (.ishr, .ishr, 1, 0, 0, 0, .null, rm_M0, []),
  (.nop, .iconst 1, 1, 0, 0, 0, .int 1, rm_M0, []),
  (.iand, .iand, 1, 0, 0, 0, .null, rm_M0, []),
  (.ifCond .eq 51, .ifCond .eq 51, 3, 80, 0, 0, .null, rm_M0, []),
  (.aload 0, .aload_n 0, 1, 0, 0, 0, .null, rm_M0, []),
  (.getfield 18, .getfield 18, 3, 7, 0, 262, .null, rm_M0, []),
  (.getfield 107, .getfield 107, 3, 3, 7, 234, .null, rm_M0, []),
  (.iload 2, .iload_n 2, 1, 0, 0, 0, .null, rm_M0, []),
  (.iaload, .iaload, 1, 0, 0, 0, .null, rm_M0, []),
  (.aload 0, .aload_n 0, 1, 0, 0, 0, .null, rm_M0, []),
  (.getfield 29, .getfield 29, 3, 7, 2, 267, .null, rm_M0, []),
  (.if_icmp .gt 35, .if_icmp .gt 35, 3, 80, 0, 0, .null, rm_M0, []),
  (.aload 0, .aload_n 0, 1, 0, 0, 0, .null, rm_M0, []),
  (.dup, .dup, 1, 0, 0, 0, .null, rm_M0, []),
  (.getfield 55, .getfield 55, 3, 7, 10, 287, .null, rm_M0, []),
  (.nop, .iconst 1, 1, 0, 0, 0, .int 1, rm_M0, []),
  (.iload 2, .iload_n 2, 1, 0, 0, 0, .null, rm_M0, []),
  (.ishl, .ishl, 1, 0, 0, 0, .null, rm_M0, []),
  (.ior, .ior, 1, 0, 0, 0, .null, rm_M0, []),
  (.putfield 55, .putfield 55, 3, 7, 10, 287, .int 0, rm_M0, []),
  (.aload 0, .aload_n 0, 1, 0, 0, 0, .null, rm_M0, []),
  (.nop, .ldc 90, 2, 0, 0, 887, .int 99999, rm_M0, []),
  (.aload 0, .aload_n 0, 1, 0, 0, 0, .null, rm_M0, []),
  (.getfield 39, .getfield 39, 3, 7, 5, 277, .null, rm_M0, []),
  (.aload 0, .aload_n 0, 1, 0, 0, 0, .null, rm_M0, []),
  (.getfield 9, .getfield 9, 3, 7, 11, 289, .null, rm_M0, []),
  (.iload 2, .iload_n 2, 1, 0, 0, 0, .null, rm_M0, []),
  (.iaload, .iaload, 1, 0, 0, 0, .null, rm_M0, []),
  (.iadd, .iadd, 1, 0, 0, 0, .null, rm_M0, []),
  (.monitorenter, .invokestatic 91, 3, 0, 0, 91, .null, rm_M0, [(0, 888), (0, 607), (0, 113), (0, 608)]),
  (.putfield 39, .putfield 39, 3, 7, 5, 277, .int 0, rm_M0, [])]
def bX7_endDay_80 : List rm_J := [
  (.iinc 2 1, .iinc 2 1, 3, 0, 0, 0, .int 1, rm_M0, []),
  (.goto (-76), .goto (-76), 3, 7, 0, 0, .null, rm_M0, [])]
def bX7_endDay_86 : List rm_J := [
  (.aload 0, .aload_n 0, 1, 0, 0, 0, .null, rm_M0, []),
  (.dup, .dup, 1, 0, 0, 0, .null, rm_M0, []),
  (.getfield 29, .getfield 29, 3, 7, 2, 267, .null, rm_M0, []),
  (.nop, .iconst 1, 1, 0, 0, 0, .int 1, rm_M0, []),
  (.iadd, .iadd, 1, 0, 0, 0, .null, rm_M0, []),
  (.putfield 29, .putfield 29, 3, 7, 2, 267, .int 0, rm_M0, []),
  (.aload 0, .aload_n 0, 1, 0, 0, 0, .null, rm_M0, []),
  (.nop, .iconst 0, 1, 0, 0, 0, .int 0, rm_M0, []),
  (.putfield 45, .putfield 45, 3, 7, 7, 283, .int 2, rm_M0, []),
  (.return_, .return_, 1, 0, 0, 0, .null, rm_M0, [])]
def tX7_endDay : rm_P := [(0, bX7_endDay_0), (7, bX7_endDay_7), (80, bX7_endDay_80), (86, bX7_endDay_86)]
theorem ok_X7_endDay_t : rm_okP mX7_endDay tX7_endDay = true := by decide +kernel
theorem ok_X7_endDay : rm_okM mX7_endDay tX7_endDay := ⟨ok_X7_endDay_t, List.forall_mem_cons.mpr ⟨cw_X7_openSet, fun _ h => absurd h List.not_mem_nil⟩⟩
theorem atX7_endDay_0 : rm_at tX7_endDay 0 = some bX7_endDay_0 := rfl
theorem atX7_endDay_7 : rm_at tX7_endDay 7 = some bX7_endDay_7 := rfl
theorem atX7_endDay_80 : rm_at tX7_endDay 80 = some bX7_endDay_80 := rfl
theorem atX7_endDay_86 : rm_at tX7_endDay 86 = some bX7_endDay_86 := rfl
def bX7_lostWeight_0 : List rm_J := [
  (.nop, .iconst 0, 1, 0, 0, 0, .int 0, rm_M0, []),
  (.istore 1, .istore_n 1, 1, 0, 0, 0, .null, rm_M0, []),
  (.nop, .iconst 0, 1, 0, 0, 0, .int 0, rm_M0, []),
  (.istore 2, .istore_n 2, 1, 0, 0, 0, .null, rm_M0, [])]
def bX7_lostWeight_4 : List rm_J := [
  (.iload 2, .iload_n 2, 1, 0, 0, 0, .null, rm_M0, []),
  (.aload 0, .aload_n 0, 1, 0, 0, 0, .null, rm_M0, []),
  (.getfield 18, .getfield 18, 3, 7, 0, 262, .null, rm_M0, []),
  (.getfield 70, .getfield 70, 3, 3, 3, 222, .null, rm_M0, []),
  (.if_icmp .ge 29, .if_icmp .ge 29, 3, 41, 0, 0, .null, rm_M0, []),
  (.iload 1, .iload_n 1, 1, 0, 0, 0, .null, rm_M0, []),
  (.aload 0, .aload_n 0, 1, 0, 0, 0, .null, rm_M0, []),
  (.iload 2, .iload_n 2, 1, 0, 0, 0, .null, rm_M0, []),
  (.invokevirtual 66, .invokevirtual 66, 3, 0, 1, 0, .null, mX7_isLost, [(0, 789), (0, 790), (0, 791)]),
  (.ifCond .eq 11, .ifCond .eq 11, 3, 32, 0, 0, .null, rm_M0, []),
  (.aload 0, .aload_n 0, 1, 0, 0, 0, .null, rm_M0, []),
  (.iload 2, .iload_n 2, 1, 0, 0, 0, .null, rm_M0, []),
  (.invokevirtual 110, .invokevirtual 110, 3, 0, 1, 0, .null, mX7_weight, [(0, 1027), (0, 1028), (0, 1029)]),
  (.goto 4, .goto 4, 3, 33, 0, 0, .null, rm_M0, [])]
def bX7_lostWeight_32 : List rm_J := [
  (.nop, .iconst 0, 1, 0, 0, 0, .int 0, rm_M0, [])]
def bX7_lostWeight_33 : List rm_J := [
  (.iadd, .iadd, 1, 0, 0, 0, .null, rm_M0, []),
  (.istore 1, .istore_n 1, 1, 0, 0, 0, .null, rm_M0, []),
  (.iinc 2 1, .iinc 2 1, 3, 0, 0, 0, .int 1, rm_M0, []),
  (.goto (-34), .goto (-34), 3, 4, 0, 0, .null, rm_M0, [])]
def bX7_lostWeight_41 : List rm_J := [
  (.iload 1, .iload_n 1, 1, 0, 0, 0, .null, rm_M0, []),
  (.ireturn, .ireturn, 1, 0, 0, 0, .null, rm_M0, [])]
def tX7_lostWeight : rm_P := [(0, bX7_lostWeight_0), (4, bX7_lostWeight_4), (32, bX7_lostWeight_32), (33, bX7_lostWeight_33), (41, bX7_lostWeight_41)]
theorem ok_X7_lostWeight_t : rm_okP mX7_lostWeight tX7_lostWeight = true := by decide +kernel
theorem ok_X7_lostWeight : rm_okM mX7_lostWeight tX7_lostWeight := ⟨ok_X7_lostWeight_t, List.forall_mem_cons.mpr ⟨cw_X7_isLost, List.forall_mem_cons.mpr ⟨cw_X7_weight, fun _ h => absurd h List.not_mem_nil⟩⟩⟩
theorem atX7_lostWeight_0 : rm_at tX7_lostWeight 0 = some bX7_lostWeight_0 := rfl
theorem atX7_lostWeight_4 : rm_at tX7_lostWeight 4 = some bX7_lostWeight_4 := rfl
theorem atX7_lostWeight_32 : rm_at tX7_lostWeight 32 = some bX7_lostWeight_32 := rfl
theorem atX7_lostWeight_33 : rm_at tX7_lostWeight 33 = some bX7_lostWeight_33 := rfl
theorem atX7_lostWeight_41 : rm_at tX7_lostWeight 41 = some bX7_lostWeight_41 := rfl
def bX7_weight_0 : List rm_J := [
  (.aload 0, .aload_n 0, 1, 0, 0, 0, .null, rm_M0, []),
  (.getfield 39, .getfield 39, 3, 7, 5, 277, .null, rm_M0, []),
  (.ifCond .le 12, .ifCond .le 12, 3, 16, 0, 0, .null, rm_M0, []),
  (.aload 0, .aload_n 0, 1, 0, 0, 0, .null, rm_M0, []),
  (.getfield 9, .getfield 9, 3, 7, 11, 289, .null, rm_M0, []),
  (.iload 1, .iload_n 1, 1, 0, 0, 0, .null, rm_M0, []),
  (.iaload, .iaload, 1, 0, 0, 0, .null, rm_M0, []),
  (.goto 4, .goto 4, 3, 17, 0, 0, .null, rm_M0, [])]
def bX7_weight_16 : List rm_J := [
  (.nop, .iconst 1, 1, 0, 0, 0, .int 1, rm_M0, [])]
def bX7_weight_17 : List rm_J := [
  (.ireturn, .ireturn, 1, 0, 0, 0, .null, rm_M0, [])]
def tX7_weight : rm_P := [(0, bX7_weight_0), (16, bX7_weight_16), (17, bX7_weight_17)]
theorem ok_X7_weight_t : rm_okP mX7_weight tX7_weight = true := by decide +kernel
theorem ok_X7_weight : rm_okM mX7_weight tX7_weight := ⟨ok_X7_weight_t, fun _ h => absurd h List.not_mem_nil⟩
theorem atX7_weight_0 : rm_at tX7_weight 0 = some bX7_weight_0 := rfl
theorem atX7_weight_16 : rm_at tX7_weight 16 = some bX7_weight_16 := rfl
theorem atX7_weight_17 : rm_at tX7_weight 17 = some bX7_weight_17 := rfl
def bX3_init_0 : List rm_J := [
  (.aload 0, .aload_n 0, 1, 0, 0, 0, .null, rm_M0, []),
  (.jsr 0, .invokespecial 3, 3, 0, 0, 3, .null, rm_M0, [(0, 211), (0, 125), (0, 126)]),
  (.aload 0, .aload_n 0, 1, 0, 0, 0, .null, rm_M0, []),
  (.nop, .bipush 8, 2, 0, 0, 0, .int 8, rm_M0, []),
  (.newarray .int, .newarray .int, 2, 0, 0, 0, .null, rm_M0, [(0, 163)]),
  (.putfield 9, .putfield 9, 3, 3, 5, 225, .int 3, rm_M0, []),
  (.aload 0, .aload_n 0, 1, 0, 0, 0, .null, rm_M0, []),
  (.nop, .bipush 8, 2, 0, 0, 0, .int 8, rm_M0, []),
  (.newarray .int, .newarray .int, 2, 0, 0, 0, .null, rm_M0, [(0, 163)]),
  (.putfield 15, .putfield 15, 3, 3, 6, 227, .int 3, rm_M0, []),
  (.aload 0, .aload_n 0, 1, 0, 0, 0, .null, rm_M0, []),
  (.nop, .bipush 8, 2, 0, 0, 0, .int 8, rm_M0, []),
  (.newarray .int, .newarray .int, 2, 0, 0, 0, .null, rm_M0, [(0, 163)]),
  (.putfield 18, .putfield 18, 3, 3, 7, 231, .int 3, rm_M0, []),
  (.aload 0, .aload_n 0, 1, 0, 0, 0, .null, rm_M0, []),
  (.nop, .bipush 8, 2, 0, 0, 0, .int 8, rm_M0, []),
  (.newarray .int, .newarray .int, 2, 0, 0, 0, .null, rm_M0, [(0, 163)]),
  (.putfield 21, .putfield 21, 3, 3, 8, 235, .int 3, rm_M0, []),
  (.return_, .return_, 1, 0, 0, 0, .null, rm_M0, [])]
def tX3_init : rm_P := [(0, bX3_init_0)]
theorem ok_X3_init_t : rm_okP mX3_init tX3_init = true := by decide +kernel
theorem ok_X3_init : rm_okM mX3_init tX3_init := ⟨ok_X3_init_t, fun _ h => absurd h List.not_mem_nil⟩
theorem atX3_init_0 : rm_at tX3_init 0 = some bX3_init_0 := rfl
def bX3_has_0 : List rm_J := [
  (.iload 1, .iload_n 1, 1, 0, 0, 0, .null, rm_M0, []),
  (.ifCond .lt 15, .ifCond .lt 15, 3, 16, 0, 0, .null, rm_M0, []),
  (.iload 1, .iload_n 1, 1, 0, 0, 0, .null, rm_M0, []),
  (.aload 0, .aload_n 0, 1, 0, 0, 0, .null, rm_M0, []),
  (.getfield 24, .getfield 24, 3, 3, 3, 220, .null, rm_M0, []),
  (.if_icmp .ge 7, .if_icmp .ge 7, 3, 16, 0, 0, .null, rm_M0, []),
  (.nop, .iconst 1, 1, 0, 0, 0, .int 1, rm_M0, []),
  (.goto 4, .goto 4, 3, 17, 0, 0, .null, rm_M0, [])]
def bX3_has_16 : List rm_J := [
  (.nop, .iconst 0, 1, 0, 0, 0, .int 0, rm_M0, [])]
def bX3_has_17 : List rm_J := [
  (.ireturn, .ireturn, 1, 0, 0, 0, .null, rm_M0, [])]
def tX3_has : rm_P := [(0, bX3_has_0), (16, bX3_has_16), (17, bX3_has_17)]
theorem ok_X3_has_t : rm_okP mX3_has tX3_has = true := by decide +kernel
theorem ok_X3_has : rm_okM mX3_has tX3_has := ⟨ok_X3_has_t, fun _ h => absurd h List.not_mem_nil⟩
theorem atX3_has_0 : rm_at tX3_has 0 = some bX3_has_0 := rfl
theorem atX3_has_16 : rm_at tX3_has 16 = some bX3_has_16 := rfl
theorem atX3_has_17 : rm_at tX3_has 17 = some bX3_has_17 := rfl
def bX3_readFrom_0 : List rm_J := [
  (.nop, .iconst 1, 1, 0, 0, 0, .int 1, rm_M0, []),
  (.istore 2, .istore_n 2, 1, 0, 0, 0, .null, rm_M0, []),
  (.nop, .iconst 0, 1, 0, 0, 0, .int 0, rm_M0, []),
  (.istore 3, .istore_n 3, 1, 0, 0, 0, .null, rm_M0, [])]
def bX3_readFrom_4 : List rm_J := [
  (.iload 2, .iload_n 2, 1, 0, 0, 0, .null, rm_M0, []),
  (.ifCond .eq 26, .ifCond .eq 26, 3, 31, 0, 0, .null, rm_M0, []),
  (.iload 3, .iload_n 3, 1, 0, 0, 0, .null, rm_M0, []),
  (.nop, .bipush 40, 2, 0, 0, 0, .int 40, rm_M0, []),
  (.if_icmp .gt 20, .if_icmp .gt 20, 3, 31, 0, 0, .null, rm_M0, []),
  (.aload 0, .aload_n 0, 1, 0, 0, 0, .null, rm_M0, []),
  (.aload 1, .aload_n 1, 1, 0, 0, 0, .null, rm_M0, []),
  (.iload 3, .iload_n 3, 1, 0, 0, 0, .null, rm_M0, []),
  (.invokevirtual 28, .invokevirtual 28, 3, 0, 2, 0, .null, mX3_readClause, [(0, 653), (0, 655), (0, 8)]),
  (.aload 1, .aload_n 1, 1, 0, 0, 0, .null, rm_M0, []),
  (.invokevirtual 32, .invokevirtual 32, 3, 0, 0, 0, .null, mX8_goesOn, [(0, 687), (0, 688), (0, 689)]),
  (.istore 2, .istore_n 2, 1, 0, 0, 0, .null, rm_M0, []),
  (.iinc 3 1, .iinc 3 1, 3, 0, 0, 0, .int 1, rm_M0, []),
  (.goto (-24), .goto (-24), 3, 4, 0, 0, .null, rm_M0, [])]
def bX3_readFrom_31 : List rm_J := [
  (.aload 0, .aload_n 0, 1, 0, 0, 0, .null, rm_M0, []),
  (.aload 1, .aload_n 1, 1, 0, 0, 0, .null, rm_M0, []),
  (.getfield 38, .getfield 38, 3, 8, 2, 138, .null, rm_M0, []),
  (.ifCond .ne 7, .ifCond .ne 7, 3, 43, 0, 0, .null, rm_M0, []),
  (.nop, .iconst 1, 1, 0, 0, 0, .int 1, rm_M0, []),
  (.goto 4, .goto 4, 3, 44, 0, 0, .null, rm_M0, [])]
def bX3_readFrom_43 : List rm_J := [
  (.nop, .iconst 0, 1, 0, 0, 0, .int 0, rm_M0, [])]
def bX3_readFrom_44 : List rm_J := [
  (.putfield 41, .putfield 41, 3, 3, 0, 212, .int 2, rm_M0, []),
  (.return_, .return_, 1, 0, 0, 0, .null, rm_M0, [])]
def tX3_readFrom : rm_P := [(0, bX3_readFrom_0), (4, bX3_readFrom_4), (31, bX3_readFrom_31), (43, bX3_readFrom_43), (44, bX3_readFrom_44)]
theorem ok_X3_readFrom_t : rm_okP mX3_readFrom tX3_readFrom = true := by decide +kernel
theorem ok_X3_readFrom : rm_okM mX3_readFrom tX3_readFrom := ⟨ok_X3_readFrom_t, List.forall_mem_cons.mpr ⟨cw_X3_readClause, List.forall_mem_cons.mpr ⟨cw_X8_goesOn, fun _ h => absurd h List.not_mem_nil⟩⟩⟩
theorem atX3_readFrom_0 : rm_at tX3_readFrom 0 = some bX3_readFrom_0 := rfl
theorem atX3_readFrom_4 : rm_at tX3_readFrom 4 = some bX3_readFrom_4 := rfl
theorem atX3_readFrom_31 : rm_at tX3_readFrom 31 = some bX3_readFrom_31 := rfl
theorem atX3_readFrom_43 : rm_at tX3_readFrom 43 = some bX3_readFrom_43 := rfl
theorem atX3_readFrom_44 : rm_at tX3_readFrom 44 = some bX3_readFrom_44 := rfl
def bX3_readClause_0 : List rm_J := [
  (.aload 1, .aload_n 1, 1, 0, 0, 0, .null, rm_M0, []),
  (.invokevirtual 45, .invokevirtual 45, 3, 0, 0, 0, .null, mX8_token, [(0, 657), (0, 658), (0, 659)]),
  (.istore 3, .istore_n 3, 1, 0, 0, 0, .null, rm_M0, []),
  (.iload 3, .iload_n 3, 1, 0, 0, 0, .null, rm_M0, []),
  (.ifCond .eq 27, .ifCond .eq 27, 3, 33, 0, 0, .null, rm_M0, []),
  (.iload 3, .iload_n 3, 1, 0, 0, 0, .null, rm_M0, []),
  (.nop, .bipush 13, 2, 0, 0, 0, .int 13, rm_M0, []),
  (.if_icmp .eq 21, .if_icmp .eq 21, 3, 33, 0, 0, .null, rm_M0, []),
  (.iload 3, .iload_n 3, 1, 0, 0, 0, .null, rm_M0, []),
  (.nop, .bipush 14, 2, 0, 0, 0, .int 14, rm_M0, []),
  (.if_icmp .eq 15, .if_icmp .eq 15, 3, 33, 0, 0, .null, rm_M0, []),
  (.iload 3, .iload_n 3, 1, 0, 0, 0, .null, rm_M0, []),
  (.nop, .bipush 15, 2, 0, 0, 0, .int 15, rm_M0, []),
  (.if_icmp .eq 9, .if_icmp .eq 9, 3, 33, 0, 0, .null, rm_M0, []),
  (.aload 1, .aload_n 1, 1, 0, 0, 0, .null, rm_M0, []),
  (.nop, .iconst 0, 1, 0, 0, 0, .int 0, rm_M0, []),
  (.invokevirtual 49, .invokevirtual 49, 3, 0, 1, 0, .null, mX8_fail, [(0, 661), (0, 662), (0, 663)]),
  (.return_, .return_, 1, 0, 0, 0, .null, rm_M0, [])]
def bX3_readClause_33 : List rm_J := [
  (.iload 3, .iload_n 3, 1, 0, 0, 0, .null, rm_M0, []),
  (.ifCond .ne 16, .ifCond .ne 16, 3, 50, 0, 0, .null, rm_M0, []),
  (.aload 0, .aload_n 0, 1, 0, 0, 0, .null, rm_M0, []),
  (.getfield 24, .getfield 24, 3, 3, 3, 220, .null, rm_M0, []),
  (.nop, .bipush 8, 2, 0, 0, 0, .int 8, rm_M0, []),
  (.if_icmp .lt 7, .if_icmp .lt 7, 3, 50, 0, 0, .null, rm_M0, []),
  (.nop, .iconst 1, 1, 0, 0, 0, .int 1, rm_M0, []),
  (.goto 4, .goto 4, 3, 51, 0, 0, .null, rm_M0, [])]
def bX3_readClause_50 : List rm_J := [
  (.nop, .iconst 0, 1, 0, 0, 0, .int 0, rm_M0, [])]
def bX3_readClause_51 : List rm_J := [
  (.istore 4, .istore 4, 2, 0, 0, 0, .null, rm_M0, []),
  (.iload 2, .iload_n 2, 1, 0, 0, 0, .null, rm_M0, []),
  (.nop, .bipush 40, 2, 0, 0, 0, .int 40, rm_M0, []),
  (.if_icmp .ge 31, .if_icmp .ge 31, 3, 87, 0, 0, .null, rm_M0, []),
  (.iload 3, .iload_n 3, 1, 0, 0, 0, .null, rm_M0, []),
  (.nop, .bipush 13, 2, 0, 0, 0, .int 13, rm_M0, []),
  (.if_icmp .ne 7, .if_icmp .ne 7, 3, 69, 0, 0, .null, rm_M0, []),
  (.nop, .iconst 1, 1, 0, 0, 0, .int 1, rm_M0, []),
  (.goto 4, .goto 4, 3, 70, 0, 0, .null, rm_M0, [])]
def bX3_readClause_69 : List rm_J := [
  (.nop, .iconst 0, 1, 0, 0, 0, .int 0, rm_M0, [])]
def bX3_readClause_70 : List rm_J := [
  (.iload 2, .iload_n 2, 1, 0, 0, 0, .null, rm_M0, []),
  (.ifCond .ne 7, .ifCond .ne 7, 3, 78, 0, 0, .null, rm_M0, []),
  (.nop, .iconst 1, 1, 0, 0, 0, .int 1, rm_M0, []),
  (.goto 4, .goto 4, 3, 79, 0, 0, .null, rm_M0, [])]
def bX3_readClause_78 : List rm_J := [
  (.nop, .iconst 0, 1, 0, 0, 0, .int 0, rm_M0, [])]
def bX3_readClause_79 : List rm_J := [
  (.if_icmp .ne 8, .if_icmp .ne 8, 3, 87, 0, 0, .null, rm_M0, []),
  (.iload 4, .iload 4, 2, 0, 0, 0, .null, rm_M0, []),
  (.ifCond .eq 9, .ifCond .eq 9, 3, 93, 0, 0, .null, rm_M0, [])]
def bX3_readClause_87 : List rm_J := [
  (.aload 1, .aload_n 1, 1, 0, 0, 0, .null, rm_M0, []),
  (.nop, .iconst 4, 1, 0, 0, 0, .int 4, rm_M0, []),
  (.invokevirtual 49, .invokevirtual 49, 3, 0, 1, 0, .null, mX8_fail, [(0, 661), (0, 662), (0, 663)]),
  (.return_, .return_, 1, 0, 0, 0, .null, rm_M0, [])]
def bX3_readClause_93 : List rm_J := [
  (.aload 1, .aload_n 1, 1, 0, 0, 0, .null, rm_M0, []),
  (.invokevirtual 53, .invokevirtual 53, 3, 0, 0, 0, .null, mX8_step, [(0, 665), (0, 666), (0, 667)]),
  (.iload 3, .iload_n 3, 1, 0, 0, 0, .null, rm_M0, []),
  (.lookupswitch 77 #[(0, 61), (13, 34), (14, 69)], .lookupswitch 77 #[(0, 61), (13, 34), (14, 69)], 34, 175, 0, 0, .null, rm_M0, [(0, 159), (13, 132), (14, 167)])]
def bX3_readClause_132 : List rm_J := [
  (.aload 0, .aload_n 0, 1, 0, 0, 0, .null, rm_M0, []),
  (.aload 1, .aload_n 1, 1, 0, 0, 0, .null, rm_M0, []),
  (.nop, .iconst 0, 1, 0, 0, 0, .int 0, rm_M0, []),
  (.nop, .bipush 9, 2, 0, 0, 0, .int 9, rm_M0, []),
  (.nop, .iconst (-1), 1, 0, 0, 0, .int (-1), rm_M0, []),
  (.invokevirtual 56, .invokevirtual 56, 3, 0, 3, 0, .null, mX8_number, [(0, 669), (0, 670), (0, 671)]),
  (.putfield 60, .putfield 60, 3, 3, 1, 214, .int 0, rm_M0, []),
  (.aload 0, .aload_n 0, 1, 0, 0, 0, .null, rm_M0, []),
  (.aload 1, .aload_n 1, 1, 0, 0, 0, .null, rm_M0, []),
  (.nop, .iconst 0, 1, 0, 0, 0, .int 0, rm_M0, []),
  (.nop, .bipush 9, 2, 0, 0, 0, .int 9, rm_M0, []),
  (.nop, .iconst (-1), 1, 0, 0, 0, .int (-1), rm_M0, []),
  (.invokevirtual 56, .invokevirtual 56, 3, 0, 3, 0, .null, mX8_number, [(0, 669), (0, 670), (0, 671)]),
  (.putfield 63, .putfield 63, 3, 3, 2, 217, .int 0, rm_M0, []),
  (.goto 38, .goto 38, 3, 194, 0, 0, .null, rm_M0, [])]
def bX3_readClause_159 : List rm_J := [
  (.aload 0, .aload_n 0, 1, 0, 0, 0, .null, rm_M0, []),
  (.aload 1, .aload_n 1, 1, 0, 0, 0, .null, rm_M0, []),
  (.invokevirtual 66, .invokevirtual 66, 3, 0, 1, 0, .null, mX3_readQuestion, [(0, 675), (0, 677), (0, 9)]),
  (.goto 30, .goto 30, 3, 194, 0, 0, .null, rm_M0, [])]
def bX3_readClause_167 : List rm_J := [
  (.aload 0, .aload_n 0, 1, 0, 0, 0, .null, rm_M0, []),
  (.aload 1, .aload_n 1, 1, 0, 0, 0, .null, rm_M0, []),
  (.invokevirtual 70, .invokevirtual 70, 3, 0, 1, 0, .null, mX3_readAlike, [(0, 679), (0, 681), (0, 10)]),
  (.goto 22, .goto 22, 3, 194, 0, 0, .null, rm_M0, [])]
def bX3_readClause_175 : List rm_J := [
  (.aload 0, .aload_n 0, 1, 0, 0, 0, .null, rm_M0, []),
  (.dup, .dup, 1, 0, 0, 0, .null, rm_M0, []),
  (.getfield 73, .getfield 73, 3, 3, 4, 224, .null, rm_M0, []),
  (.nop, .lconst 1, 1, 0, 0, 0, .long 1, rm_M0, []),
  (.aload 1, .aload_n 1, 1, 0, 0, 0, .null, rm_M0, []),
  (.nop, .iconst 0, 1, 0, 0, 0, .int 0, rm_M0, []),
  (.nop, .bipush 60, 2, 0, 0, 0, .int 60, rm_M0, []),
  (.nop, .iconst (-1), 1, 0, 0, 0, .int (-1), rm_M0, []),
  (.invokevirtual 56, .invokevirtual 56, 3, 0, 3, 0, .null, mX8_number, [(0, 669), (0, 670), (0, 671)]),
  (.lshl, .lshl, 1, 0, 0, 0, .null, rm_M0, []),
  (.lor, .lor, 1, 0, 0, 0, .null, rm_M0, []),
  (.putfield 73, .putfield 73, 3, 3, 4, 224, .int 1, rm_M0, [])]
def bX3_readClause_194 : List rm_J := [
  (.return_, .return_, 1, 0, 0, 0, .null, rm_M0, [])]
def tX3_readClause : rm_P := [(0, bX3_readClause_0), (33, bX3_readClause_33), (50, bX3_readClause_50), (51, bX3_readClause_51), (69, bX3_readClause_69), (70, bX3_readClause_70), (78, bX3_readClause_78), (79, bX3_readClause_79), (87, bX3_readClause_87), (93, bX3_readClause_93), (132, bX3_readClause_132), (159, bX3_readClause_159), (167, bX3_readClause_167), (175, bX3_readClause_175), (194, bX3_readClause_194)]
theorem ok_X3_readClause_t : rm_okP mX3_readClause tX3_readClause = true := by decide +kernel
theorem ok_X3_readClause : rm_okM mX3_readClause tX3_readClause := ⟨ok_X3_readClause_t, List.forall_mem_cons.mpr ⟨cw_X8_token, List.forall_mem_cons.mpr ⟨cw_X8_fail, List.forall_mem_cons.mpr ⟨cw_X8_fail, List.forall_mem_cons.mpr ⟨cw_X8_step, List.forall_mem_cons.mpr ⟨cw_X8_number, List.forall_mem_cons.mpr ⟨cw_X8_number, List.forall_mem_cons.mpr ⟨cw_X3_readQuestion, List.forall_mem_cons.mpr ⟨cw_X3_readAlike, List.forall_mem_cons.mpr ⟨cw_X8_number, fun _ h => absurd h List.not_mem_nil⟩⟩⟩⟩⟩⟩⟩⟩⟩⟩
theorem atX3_readClause_0 : rm_at tX3_readClause 0 = some bX3_readClause_0 := rfl
theorem atX3_readClause_33 : rm_at tX3_readClause 33 = some bX3_readClause_33 := rfl
theorem atX3_readClause_50 : rm_at tX3_readClause 50 = some bX3_readClause_50 := rfl
theorem atX3_readClause_51 : rm_at tX3_readClause 51 = some bX3_readClause_51 := rfl
theorem atX3_readClause_69 : rm_at tX3_readClause 69 = some bX3_readClause_69 := rfl
theorem atX3_readClause_70 : rm_at tX3_readClause 70 = some bX3_readClause_70 := rfl
theorem atX3_readClause_78 : rm_at tX3_readClause 78 = some bX3_readClause_78 := rfl
theorem atX3_readClause_79 : rm_at tX3_readClause 79 = some bX3_readClause_79 := rfl
theorem atX3_readClause_87 : rm_at tX3_readClause 87 = some bX3_readClause_87 := rfl
theorem atX3_readClause_93 : rm_at tX3_readClause 93 = some bX3_readClause_93 := rfl
theorem atX3_readClause_132 : rm_at tX3_readClause 132 = some bX3_readClause_132 := rfl
theorem atX3_readClause_159 : rm_at tX3_readClause 159 = some bX3_readClause_159 := rfl
theorem atX3_readClause_167 : rm_at tX3_readClause 167 = some bX3_readClause_167 := rfl
theorem atX3_readClause_175 : rm_at tX3_readClause 175 = some bX3_readClause_175 := rfl
theorem atX3_readClause_194 : rm_at tX3_readClause 194 = some bX3_readClause_194 := rfl
def bX3_readQuestion_0 : List rm_J := [
  (.aload 0, .aload_n 0, 1, 0, 0, 0, .null, rm_M0, []),
  (.getfield 24, .getfield 24, 3, 3, 3, 220, .null, rm_M0, []),
  (.nop, .bipush 8, 2, 0, 0, 0, .int 8, rm_M0, []),
  (.if_icmp .ge 72, .if_icmp .ge 72, 3, 78, 0, 0, .null, rm_M0, []),
  (.aload 0, .aload_n 0, 1, 0, 0, 0, .null, rm_M0, []),
  (.getfield 9, .getfield 9, 3, 3, 5, 225, .null, rm_M0, []),
  (.aload 0, .aload_n 0, 1, 0, 0, 0, .null, rm_M0, []),
  (.getfield 24, .getfield 24, 3, 3, 3, 220, .null, rm_M0, []),
  (.aload 1, .aload_n 1, 1, 0, 0, 0, .null, rm_M0, []),
  (.nop, .iconst 0, 1, 0, 0, 0, .int 0, rm_M0, []),
  (.nop, .bipush 99, 2, 0, 0, 0, .int 99, rm_M0, []),
  (.nop, .iconst (-1), 1, 0, 0, 0, .int (-1), rm_M0, []),
  (.invokevirtual 56, .invokevirtual 56, 3, 0, 3, 0, .null, mX8_number, [(0, 669), (0, 670), (0, 671)]),
  (.iastore, .iastore, 1, 0, 0, 0, .null, rm_M0, []),
  (.aload 0, .aload_n 0, 1, 0, 0, 0, .null, rm_M0, []),
  (.getfield 15, .getfield 15, 3, 3, 6, 227, .null, rm_M0, []),
  (.aload 0, .aload_n 0, 1, 0, 0, 0, .null, rm_M0, []),
  (.getfield 24, .getfield 24, 3, 3, 3, 220, .null, rm_M0, []),
  (.aload 1, .aload_n 1, 1, 0, 0, 0, .null, rm_M0, []),
  (.nop, .iconst 0, 1, 0, 0, 0, .int 0, rm_M0, []),
  (.nop, .bipush 60, 2, 0, 0, 0, .int 60, rm_M0, []),
  (.nop, .iconst (-1), 1, 0, 0, 0, .int (-1), rm_M0, []),
  (.invokevirtual 56, .invokevirtual 56, 3, 0, 3, 0, .null, mX8_number, [(0, 669), (0, 670), (0, 671)]),
  (.iastore, .iastore, 1, 0, 0, 0, .null, rm_M0, []),
  (.aload 0, .aload_n 0, 1, 0, 0, 0, .null, rm_M0, []),
  (.getfield 18, .getfield 18, 3, 3, 7, 231, .null, rm_M0, []),
  (.aload 0, .aload_n 0, 1, 0, 0, 0, .null, rm_M0, []),
  (.getfield 24, .getfield 24, 3, 3, 3, 220, .null, rm_M0, []),
  (.aload 1, .aload_n 1, 1, 0, 0, 0, .null, rm_M0, []),
  (.aload 0, .aload_n 0, 1, 0, 0, 0, .null, rm_M0, []),
  (.getfield 15, .getfield 15, 3, 3, 6, 227, .null, rm_M0, []),
  (.aload 0, .aload_n 0, 1, 0, 0, 0, .null, rm_M0, []),
  (.getfield 24, .getfield 24, 3, 3, 3, 220, .null, rm_M0, []),
  (.iaload, .iaload, 1, 0, 0, 0, .null, rm_M0, []),
  (.nop, .bipush 60, 2, 0, 0, 0, .int 60, rm_M0, []),
  (.nop, .iconst (-1), 1, 0, 0, 0, .int (-1), rm_M0, []),
  (.invokevirtual 56, .invokevirtual 56, 3, 0, 3, 0, .null, mX8_number, [(0, 669), (0, 670), (0, 671)]),
  (.iastore, .iastore, 1, 0, 0, 0, .null, rm_M0, []),
  (.aload 0, .aload_n 0, 1, 0, 0, 0, .null, rm_M0, []),
  (.dup, .dup, 1, 0, 0, 0, .null, rm_M0, []),
  (.getfield 24, .getfield 24, 3, 3, 3, 220, .null, rm_M0, []),
  (.nop, .iconst 1, 1, 0, 0, 0, .int 1, rm_M0, []),
  (.iadd, .iadd, 1, 0, 0, 0, .null, rm_M0, []),
  (.putfield 24, .putfield 24, 3, 3, 3, 220, .int 0, rm_M0, [])]
def bX3_readQuestion_78 : List rm_J := [
  (.return_, .return_, 1, 0, 0, 0, .null, rm_M0, [])]
def tX3_readQuestion : rm_P := [(0, bX3_readQuestion_0), (78, bX3_readQuestion_78)]
theorem ok_X3_readQuestion_t : rm_okP mX3_readQuestion tX3_readQuestion = true := by decide +kernel
theorem ok_X3_readQuestion : rm_okM mX3_readQuestion tX3_readQuestion := ⟨ok_X3_readQuestion_t, List.forall_mem_cons.mpr ⟨cw_X8_number, List.forall_mem_cons.mpr ⟨cw_X8_number, List.forall_mem_cons.mpr ⟨cw_X8_number, fun _ h => absurd h List.not_mem_nil⟩⟩⟩⟩
theorem atX3_readQuestion_0 : rm_at tX3_readQuestion 0 = some bX3_readQuestion_0 := rfl
theorem atX3_readQuestion_78 : rm_at tX3_readQuestion 78 = some bX3_readQuestion_78 := rfl
def bX3_readAlike_0 : List rm_J := [
  (.aload 1, .aload_n 1, 1, 0, 0, 0, .null, rm_M0, []),
  (.nop, .iconst 0, 1, 0, 0, 0, .int 0, rm_M0, []),
  (.aload 0, .aload_n 0, 1, 0, 0, 0, .null, rm_M0, []),
  (.getfield 24, .getfield 24, 3, 3, 3, 220, .null, rm_M0, []),
  (.nop, .iconst 1, 1, 0, 0, 0, .int 1, rm_M0, []),
  (.isub, .isub, 1, 0, 0, 0, .null, rm_M0, []),
  (.nop, .iconst (-1), 1, 0, 0, 0, .int (-1), rm_M0, []),
  (.invokevirtual 56, .invokevirtual 56, 3, 0, 3, 0, .null, mX8_number, [(0, 669), (0, 670), (0, 671)]),
  (.istore 2, .istore_n 2, 1, 0, 0, 0, .null, rm_M0, []),
  (.aload 1, .aload_n 1, 1, 0, 0, 0, .null, rm_M0, []),
  (.nop, .iconst 0, 1, 0, 0, 0, .int 0, rm_M0, []),
  (.aload 0, .aload_n 0, 1, 0, 0, 0, .null, rm_M0, []),
  (.getfield 24, .getfield 24, 3, 3, 3, 220, .null, rm_M0, []),
  (.nop, .iconst 1, 1, 0, 0, 0, .int 1, rm_M0, []),
  (.isub, .isub, 1, 0, 0, 0, .null, rm_M0, []),
  (.iload 2, .iload_n 2, 1, 0, 0, 0, .null, rm_M0, []),
  (.invokevirtual 56, .invokevirtual 56, 3, 0, 3, 0, .null, mX8_number, [(0, 669), (0, 670), (0, 671)]),
  (.istore 3, .istore_n 3, 1, 0, 0, 0, .null, rm_M0, []),
  (.aload 1, .aload_n 1, 1, 0, 0, 0, .null, rm_M0, []),
  (.getfield 38, .getfield 38, 3, 8, 2, 138, .null, rm_M0, []),
  (.ifCond .ne 43, .ifCond .ne 43, 3, 73, 0, 0, .null, rm_M0, []),
  (.aload 0, .aload_n 0, 1, 0, 0, 0, .null, rm_M0, []),
  (.iload 2, .iload_n 2, 1, 0, 0, 0, .null, rm_M0, []),
  (.invokevirtual 77, .invokevirtual 77, 3, 0, 1, 0, .null, mX3_has, [(0, 683), (0, 684), (0, 685)]),
  (.ifCond .eq 35, .ifCond .eq 35, 3, 73, 0, 0, .null, rm_M0, []),
  (.aload 0, .aload_n 0, 1, 0, 0, 0, .null, rm_M0, []),
  (.iload 3, .iload_n 3, 1, 0, 0, 0, .null, rm_M0, []),
  (.invokevirtual 77, .invokevirtual 77, 3, 0, 1, 0, .null, mX3_has, [(0, 683), (0, 684), (0, 685)]),
  (.ifCond .eq 27, .ifCond .eq 27, 3, 73, 0, 0, .null, rm_M0, []),
  (.aload 0, .aload_n 0, 1, 0, 0, 0, .null, rm_M0, []),
  (.getfield 21, .getfield 21, 3, 3, 8, 235, .null, rm_M0, []),
  (.iload 2, .iload_n 2, 1, 0, 0, 0, .null, rm_M0, []),
  (.dup2, .dup2, 1, 0, 0, 0, .null, rm_M0, []),
  (.iaload, .iaload, 1, 0, 0, 0, .null, rm_M0, []),
  (.nop, .iconst 1, 1, 0, 0, 0, .int 1, rm_M0, []),
  (.iload 3, .iload_n 3, 1, 0, 0, 0, .null, rm_M0, []),
  (.ishl, .ishl, 1, 0, 0, 0, .null, rm_M0, []),
  (.ior, .ior, 1, 0, 0, 0, .null, rm_M0, []),
  (.iastore, .iastore, 1, 0, 0, 0, .null, rm_M0, []),
  (.aload 0, .aload_n 0, 1, 0, 0, 0, .null, rm_M0, []),
  (.getfield 21, .getfield 21, 3, 3, 8, 235, .null, rm_M0, []),
  (.iload 3, .iload_n 3, 1, 0, 0, 0, .null, rm_M0, []),
  (.dup2, .dup2, 1, 0, 0, 0, .null, rm_M0, []),
  (.iaload, .iaload, 1, 0, 0, 0, .null, rm_M0, []),
  (.nop, .iconst 1, 1, 0, 0, 0, .int 1, rm_M0, []),
  (.iload 2, .iload_n 2, 1, 0, 0, 0, .null, rm_M0, []),
  (.ishl, .ishl, 1, 0, 0, 0, .null, rm_M0, []),
  (.ior, .ior, 1, 0, 0, 0, .null, rm_M0, []),
  (.iastore, .iastore, 1, 0, 0, 0, .null, rm_M0, [])]
def bX3_readAlike_73 : List rm_J := [
  (.return_, .return_, 1, 0, 0, 0, .null, rm_M0, [])]
def tX3_readAlike : rm_P := [(0, bX3_readAlike_0), (73, bX3_readAlike_73)]
theorem ok_X3_readAlike_t : rm_okP mX3_readAlike tX3_readAlike = true := by decide +kernel
theorem ok_X3_readAlike : rm_okM mX3_readAlike tX3_readAlike := ⟨ok_X3_readAlike_t, List.forall_mem_cons.mpr ⟨cw_X8_number, List.forall_mem_cons.mpr ⟨cw_X8_number, List.forall_mem_cons.mpr ⟨cw_X3_has, List.forall_mem_cons.mpr ⟨cw_X3_has, fun _ h => absurd h List.not_mem_nil⟩⟩⟩⟩⟩
theorem atX3_readAlike_0 : rm_at tX3_readAlike 0 = some bX3_readAlike_0 := rfl
theorem atX3_readAlike_73 : rm_at tX3_readAlike 73 = some bX3_readAlike_73 := rfl
