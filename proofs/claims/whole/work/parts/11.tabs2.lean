/-! Rows of Trial, Rule, Past, Notes, Image. Printed. -/
def bX0_init_0 : List rm_J := [
  (.aload 0, .aload_n 0, 1, 0, 0, 0, .null, rm_M0, []),
  (.jsr 0, .invokespecial 3, 3, 0, 0, 3, .null, rm_M0, [(0, 187), (0, 125), (0, 126)]),
  (.aload 0, .aload_n 0, 1, 0, 0, 0, .null, rm_M0, []),
  (.new 9, .new 9, 3, 1, 0, 0, .null, rm_M0, [(0, 188), (0, 189), (0, 101)]),
  (.dup, .dup, 1, 0, 0, 0, .null, rm_M0, []),
  (.invokespecial 11, .invokespecial 11, 3, 0, 0, 190, .null, mX1_init, [(0, 191)]),
  (.putfield 12, .putfield 12, 3, 0, 2, 347, .int 3, rm_M0, []),
  (.aload 0, .aload_n 0, 1, 0, 0, 0, .null, rm_M0, []),
  (.nop, .iconst (-1), 1, 0, 0, 0, .int (-1), rm_M0, []),
  (.putfield 18, .putfield 18, 3, 0, 3, 349, .int 0, rm_M0, []),
  (.new 22, .new 22, 3, 3, 0, 0, .null, rm_M0, [(0, 206), (0, 207), (0, 102)]),
  (.dup, .dup, 1, 0, 0, 0, .null, rm_M0, []),
  (.invokespecial 24, .invokespecial 24, 3, 0, 0, 208, .null, mX3_init, [(0, 209)]),
  (.astore 1, .astore_n 1, 1, 0, 0, 0, .null, rm_M0, []),
  (.aload 0, .aload_n 0, 1, 0, 0, 0, .null, rm_M0, []),
  (.new 25, .new 25, 3, 7, 0, 0, .null, rm_M0, [(0, 256), (0, 257), (0, 103)]),
  (.dup, .dup, 1, 0, 0, 0, .null, rm_M0, []),
  (.aload 1, .aload_n 1, 1, 0, 0, 0, .null, rm_M0, []),
  (.invokespecial 27, .invokespecial 27, 3, 0, 1, 258, .null, mX7_init, [(0, 259)]),
  (.putfield 30, .putfield 30, 3, 0, 0, 343, .int 3, rm_M0, []),
  (.aload 0, .aload_n 0, 1, 0, 0, 0, .null, rm_M0, []),
  (.new 34, .new 34, 3, 2, 0, 0, .null, rm_M0, [(0, 322), (0, 323), (0, 104)]),
  (.dup, .dup, 1, 0, 0, 0, .null, rm_M0, []),
  (.aload 1, .aload_n 1, 1, 0, 0, 0, .null, rm_M0, []),
  (.invokespecial 36, .invokespecial 36, 3, 0, 1, 324, .null, mX2_init, [(0, 325)]),
  (.putfield 37, .putfield 37, 3, 0, 1, 345, .int 3, rm_M0, []),
  (.return_, .return_, 1, 0, 0, 0, .null, rm_M0, [])]
def tX0_init : rm_P := [(0, bX0_init_0)]
theorem ok_X0_init_t : rm_okP mX0_init tX0_init = true := by decide +kernel
theorem ok_X0_init : rm_okM mX0_init tX0_init := ⟨ok_X0_init_t, List.forall_mem_cons.mpr ⟨cw_X1_init, List.forall_mem_cons.mpr ⟨cw_X3_init, List.forall_mem_cons.mpr ⟨cw_X7_init, List.forall_mem_cons.mpr ⟨cw_X2_init, fun _ h => absurd h List.not_mem_nil⟩⟩⟩⟩⟩
theorem atX0_init_0 : rm_at tX0_init 0 = some bX0_init_0 := rfl
def bX0_begin_0 : List rm_J := [
  (.aload 0, .aload_n 0, 1, 0, 0, 0, .null, rm_M0, []),
  (.getfield 30, .getfield 30, 3, 0, 0, 343, .null, rm_M0, []),
  (.aload 1, .aload_n 1, 1, 0, 0, 0, .null, rm_M0, []),
  (.invokevirtual 41, .invokevirtual 41, 3, 0, 1, 0, .null, mX7_beginIn, [(0, 695), (0, 696), (0, 697)]),
  (.aload 0, .aload_n 0, 1, 0, 0, 0, .null, rm_M0, []),
  (.getfield 37, .getfield 37, 3, 0, 1, 345, .null, rm_M0, []),
  (.nop, .iconst 0, 1, 0, 0, 0, .int 0, rm_M0, []),
  (.putfield 44, .putfield 44, 3, 2, 0, 332, .int 0, rm_M0, []),
  (.aload 0, .aload_n 0, 1, 0, 0, 0, .null, rm_M0, []),
  (.getfield 12, .getfield 12, 3, 0, 2, 347, .null, rm_M0, []),
  (.nop, .iconst 0, 1, 0, 0, 0, .int 0, rm_M0, []),
  (.putfield 47, .putfield 47, 3, 1, 0, 195, .int 0, rm_M0, []),
  (.return_, .return_, 1, 0, 0, 0, .null, rm_M0, [])]
def tX0_begin : rm_P := [(0, bX0_begin_0)]
theorem ok_X0_begin_t : rm_okP mX0_begin tX0_begin = true := by decide +kernel
theorem ok_X0_begin : rm_okM mX0_begin tX0_begin := ⟨ok_X0_begin_t, List.forall_mem_cons.mpr ⟨cw_X7_beginIn, fun _ h => absurd h List.not_mem_nil⟩⟩
theorem atX0_begin_0 : rm_at tX0_begin 0 = some bX0_begin_0 := rfl
def bX0_copyFrom_0 : List rm_J := [
  (.aload 0, .aload_n 0, 1, 0, 0, 0, .null, rm_M0, []),
  (.getfield 30, .getfield 30, 3, 0, 0, 343, .null, rm_M0, []),
  (.aload 1, .aload_n 1, 1, 0, 0, 0, .null, rm_M0, []),
  (.getfield 30, .getfield 30, 3, 0, 0, 343, .null, rm_M0, []),
  (.invokevirtual 48, .invokevirtual 48, 3, 0, 1, 0, .null, mX7_copyFrom, [(0, 1120), (0, 820), (0, 821)]),
  (.aload 0, .aload_n 0, 1, 0, 0, 0, .null, rm_M0, []),
  (.getfield 37, .getfield 37, 3, 0, 1, 345, .null, rm_M0, []),
  (.aload 1, .aload_n 1, 1, 0, 0, 0, .null, rm_M0, []),
  (.getfield 37, .getfield 37, 3, 0, 1, 345, .null, rm_M0, []),
  (.invokevirtual 52, .invokevirtual 52, 3, 0, 1, 0, .null, mX2_copyFrom, [(0, 1121), (0, 1122), (0, 1123)]),
  (.aload 0, .aload_n 0, 1, 0, 0, 0, .null, rm_M0, []),
  (.getfield 12, .getfield 12, 3, 0, 2, 347, .null, rm_M0, []),
  (.aload 1, .aload_n 1, 1, 0, 0, 0, .null, rm_M0, []),
  (.getfield 12, .getfield 12, 3, 0, 2, 347, .null, rm_M0, []),
  (.invokevirtual 55, .invokevirtual 55, 3, 0, 1, 0, .null, mX1_copyFrom, [(0, 1125), (0, 1126), (0, 1127)]),
  (.aload 0, .aload_n 0, 1, 0, 0, 0, .null, rm_M0, []),
  (.aload 1, .aload_n 1, 1, 0, 0, 0, .null, rm_M0, []),
  (.getfield 18, .getfield 18, 3, 0, 3, 349, .null, rm_M0, []),
  (.putfield 18, .putfield 18, 3, 0, 3, 349, .int 0, rm_M0, []),
  (.aload 0, .aload_n 0, 1, 0, 0, 0, .null, rm_M0, []),
  (.aload 1, .aload_n 1, 1, 0, 0, 0, .null, rm_M0, []),
  (.getfield 58, .getfield 58, 3, 0, 4, 351, .null, rm_M0, []),
  (.putfield 58, .putfield 58, 3, 0, 4, 351, .int 0, rm_M0, []),
  (.return_, .return_, 1, 0, 0, 0, .null, rm_M0, [])]
def tX0_copyFrom : rm_P := [(0, bX0_copyFrom_0)]
theorem ok_X0_copyFrom_t : rm_okP mX0_copyFrom tX0_copyFrom = true := by decide +kernel
theorem ok_X0_copyFrom : rm_okM mX0_copyFrom tX0_copyFrom := ⟨ok_X0_copyFrom_t, List.forall_mem_cons.mpr ⟨cw_X7_copyFrom, List.forall_mem_cons.mpr ⟨cw_X2_copyFrom, List.forall_mem_cons.mpr ⟨cw_X1_copyFrom, fun _ h => absurd h List.not_mem_nil⟩⟩⟩⟩
theorem atX0_copyFrom_0 : rm_at tX0_copyFrom 0 = some bX0_copyFrom_0 := rfl
def bX1_init_0 : List rm_J := [
  (.aload 0, .aload_n 0, 1, 0, 0, 0, .null, rm_M0, []),
  (.jsr 0, .invokespecial 1, 3, 0, 0, 1, .null, rm_M0, [(0, 193), (0, 125), (0, 126)]),
  (.aload 0, .aload_n 0, 1, 0, 0, 0, .null, rm_M0, []),
  (.nop, .bipush 10, 2, 0, 0, 0, .int 10, rm_M0, []),
  (.newarray .int, .newarray .int, 2, 0, 0, 0, .null, rm_M0, [(0, 163)]),
  (.putfield 9, .putfield 9, 3, 1, 1, 197, .int 3, rm_M0, []),
  (.aload 0, .aload_n 0, 1, 0, 0, 0, .null, rm_M0, []),
  (.nop, .bipush 10, 2, 0, 0, 0, .int 10, rm_M0, []),
  (.newarray .int, .newarray .int, 2, 0, 0, 0, .null, rm_M0, [(0, 163)]),
  (.putfield 13, .putfield 13, 3, 1, 2, 198, .int 3, rm_M0, []),
  (.return_, .return_, 1, 0, 0, 0, .null, rm_M0, [])]
def tX1_init : rm_P := [(0, bX1_init_0)]
theorem ok_X1_init_t : rm_okP mX1_init tX1_init = true := by decide +kernel
theorem ok_X1_init : rm_okM mX1_init tX1_init := ⟨ok_X1_init_t, fun _ h => absurd h List.not_mem_nil⟩
theorem atX1_init_0 : rm_at tX1_init 0 = some bX1_init_0 := rfl
def bX1_isFull_0 : List rm_J := [
  (.aload 0, .aload_n 0, 1, 0, 0, 0, .null, rm_M0, []),
  (.getfield 16, .getfield 16, 3, 1, 0, 194, .null, rm_M0, []),
  (.nop, .bipush 10, 2, 0, 0, 0, .int 10, rm_M0, []),
  (.if_icmp .lt 7, .if_icmp .lt 7, 3, 13, 0, 0, .null, rm_M0, []),
  (.nop, .iconst 1, 1, 0, 0, 0, .int 1, rm_M0, []),
  (.goto 4, .goto 4, 3, 14, 0, 0, .null, rm_M0, [])]
def bX1_isFull_13 : List rm_J := [
  (.nop, .iconst 0, 1, 0, 0, 0, .int 0, rm_M0, [])]
def bX1_isFull_14 : List rm_J := [
  (.ireturn, .ireturn, 1, 0, 0, 0, .null, rm_M0, [])]
def tX1_isFull : rm_P := [(0, bX1_isFull_0), (13, bX1_isFull_13), (14, bX1_isFull_14)]
theorem ok_X1_isFull_t : rm_okP mX1_isFull tX1_isFull = true := by decide +kernel
theorem ok_X1_isFull : rm_okM mX1_isFull tX1_isFull := ⟨ok_X1_isFull_t, fun _ h => absurd h List.not_mem_nil⟩
theorem atX1_isFull_0 : rm_at tX1_isFull 0 = some bX1_isFull_0 := rfl
theorem atX1_isFull_13 : rm_at tX1_isFull 13 = some bX1_isFull_13 := rfl
theorem atX1_isFull_14 : rm_at tX1_isFull 14 = some bX1_isFull_14 := rfl
def bX1_add_0 : List rm_J := [
  (.aload 0, .aload_n 0, 1, 0, 0, 0, .null, rm_M0, []),
  (.getfield 16, .getfield 16, 3, 1, 0, 194, .null, rm_M0, []),
  (.nop, .bipush 10, 2, 0, 0, 0, .int 10, rm_M0, []),
  (.if_icmp .ge 33, .if_icmp .ge 33, 3, 39, 0, 0, .null, rm_M0, []),
  (.aload 0, .aload_n 0, 1, 0, 0, 0, .null, rm_M0, []),
  (.getfield 9, .getfield 9, 3, 1, 1, 197, .null, rm_M0, []),
  (.aload 0, .aload_n 0, 1, 0, 0, 0, .null, rm_M0, []),
  (.getfield 16, .getfield 16, 3, 1, 0, 194, .null, rm_M0, []),
  (.iload 1, .iload_n 1, 1, 0, 0, 0, .null, rm_M0, []),
  (.iastore, .iastore, 1, 0, 0, 0, .null, rm_M0, []),
  (.aload 0, .aload_n 0, 1, 0, 0, 0, .null, rm_M0, []),
  (.getfield 13, .getfield 13, 3, 1, 2, 198, .null, rm_M0, []),
  (.aload 0, .aload_n 0, 1, 0, 0, 0, .null, rm_M0, []),
  (.getfield 16, .getfield 16, 3, 1, 0, 194, .null, rm_M0, []),
  (.iload 2, .iload_n 2, 1, 0, 0, 0, .null, rm_M0, []),
  (.iastore, .iastore, 1, 0, 0, 0, .null, rm_M0, []),
  (.aload 0, .aload_n 0, 1, 0, 0, 0, .null, rm_M0, []),
  (.dup, .dup, 1, 0, 0, 0, .null, rm_M0, []),
  (.getfield 16, .getfield 16, 3, 1, 0, 194, .null, rm_M0, []),
  (.nop, .iconst 1, 1, 0, 0, 0, .int 1, rm_M0, []),
  (.iadd, .iadd, 1, 0, 0, 0, .null, rm_M0, []),
  (.putfield 16, .putfield 16, 3, 1, 0, 194, .int 0, rm_M0, [])]
def bX1_add_39 : List rm_J := [
  (.return_, .return_, 1, 0, 0, 0, .null, rm_M0, [])]
def tX1_add : rm_P := [(0, bX1_add_0), (39, bX1_add_39)]
theorem ok_X1_add_t : rm_okP mX1_add tX1_add = true := by decide +kernel
theorem ok_X1_add : rm_okM mX1_add tX1_add := ⟨ok_X1_add_t, fun _ h => absurd h List.not_mem_nil⟩
theorem atX1_add_0 : rm_at tX1_add 0 = some bX1_add_0 := rfl
theorem atX1_add_39 : rm_at tX1_add 39 = some bX1_add_39 := rfl
def bX1_areSo_0 : List rm_J := [
  (.nop, .iconst 0, 1, 0, 0, 0, .int 0, rm_M0, []),
  (.istore 3, .istore_n 3, 1, 0, 0, 0, .null, rm_M0, [])]
def bX1_areSo_2 : List rm_J := [
  (.iload 3, .iload_n 3, 1, 0, 0, 0, .null, rm_M0, []),
  (.aload 0, .aload_n 0, 1, 0, 0, 0, .null, rm_M0, []),
  (.getfield 16, .getfield 16, 3, 1, 0, 194, .null, rm_M0, []),
  (.if_icmp .ge 46, .if_icmp .ge 46, 3, 53, 0, 0, .null, rm_M0, []),
  (.iload 2, .iload_n 2, 1, 0, 0, 0, .null, rm_M0, []),
  (.aload 0, .aload_n 0, 1, 0, 0, 0, .null, rm_M0, []),
  (.getfield 9, .getfield 9, 3, 1, 1, 197, .null, rm_M0, []),
  (.iload 3, .iload_n 3, 1, 0, 0, 0, .null, rm_M0, []),
  (.iaload, .iaload, 1, 0, 0, 0, .null, rm_M0, []),
  (.iadd, .iadd, 1, 0, 0, 0, .null, rm_M0, []),
  (.istore 4, .istore 4, 2, 0, 0, 0, .null, rm_M0, []),
  (.iload 4, .iload 4, 2, 0, 0, 0, .null, rm_M0, []),
  (.ifCond .lt 23, .ifCond .lt 23, 3, 45, 0, 0, .null, rm_M0, []),
  (.iload 4, .iload 4, 2, 0, 0, 0, .null, rm_M0, []),
  (.aload 1, .aload_n 1, 1, 0, 0, 0, .null, rm_M0, []),
  (.arraylength, .arraylength, 1, 0, 0, 0, .null, rm_M0, []),
  (.if_icmp .ge 16, .if_icmp .ge 16, 3, 45, 0, 0, .null, rm_M0, []),
  (.aload 1, .aload_n 1, 1, 0, 0, 0, .null, rm_M0, []),
  (.iload 4, .iload 4, 2, 0, 0, 0, .null, rm_M0, []),
  (.iaload, .iaload, 1, 0, 0, 0, .null, rm_M0, []),
  (.aload 0, .aload_n 0, 1, 0, 0, 0, .null, rm_M0, []),
  (.getfield 13, .getfield 13, 3, 1, 2, 198, .null, rm_M0, []),
  (.iload 3, .iload_n 3, 1, 0, 0, 0, .null, rm_M0, []),
  (.iaload, .iaload, 1, 0, 0, 0, .null, rm_M0, []),
  (.if_icmp .eq 5, .if_icmp .eq 5, 3, 47, 0, 0, .null, rm_M0, [])]
def bX1_areSo_45 : List rm_J := [
  (.nop, .iconst 0, 1, 0, 0, 0, .int 0, rm_M0, []),
  (.ireturn, .ireturn, 1, 0, 0, 0, .null, rm_M0, [])]
def bX1_areSo_47 : List rm_J := [
  (.iinc 3 1, .iinc 3 1, 3, 0, 0, 0, .int 1, rm_M0, []),
  (.goto (-48), .goto (-48), 3, 2, 0, 0, .null, rm_M0, [])]
def bX1_areSo_53 : List rm_J := [
  (.nop, .iconst 1, 1, 0, 0, 0, .int 1, rm_M0, []),
  (.ireturn, .ireturn, 1, 0, 0, 0, .null, rm_M0, [])]
def tX1_areSo : rm_P := [(0, bX1_areSo_0), (2, bX1_areSo_2), (45, bX1_areSo_45), (47, bX1_areSo_47), (53, bX1_areSo_53)]
theorem ok_X1_areSo_t : rm_okP mX1_areSo tX1_areSo = true := by decide +kernel
theorem ok_X1_areSo : rm_okM mX1_areSo tX1_areSo := ⟨ok_X1_areSo_t, fun _ h => absurd h List.not_mem_nil⟩
theorem atX1_areSo_0 : rm_at tX1_areSo 0 = some bX1_areSo_0 := rfl
theorem atX1_areSo_2 : rm_at tX1_areSo 2 = some bX1_areSo_2 := rfl
theorem atX1_areSo_45 : rm_at tX1_areSo 45 = some bX1_areSo_45 := rfl
theorem atX1_areSo_47 : rm_at tX1_areSo 47 = some bX1_areSo_47 := rfl
theorem atX1_areSo_53 : rm_at tX1_areSo 53 = some bX1_areSo_53 := rfl
def bX1_copyFrom_0 : List rm_J := [
  (.aload 0, .aload_n 0, 1, 0, 0, 0, .null, rm_M0, []),
  (.aload 1, .aload_n 1, 1, 0, 0, 0, .null, rm_M0, []),
  (.getfield 16, .getfield 16, 3, 1, 0, 194, .null, rm_M0, []),
  (.putfield 16, .putfield 16, 3, 1, 0, 194, .int 0, rm_M0, []),
  (.aload 1, .aload_n 1, 1, 0, 0, 0, .null, rm_M0, []),
  (.getfield 9, .getfield 9, 3, 1, 1, 197, .null, rm_M0, []),
  (.nop, .iconst 0, 1, 0, 0, 0, .int 0, rm_M0, []),
  (.aload 0, .aload_n 0, 1, 0, 0, 0, .null, rm_M0, []),
  (.getfield 9, .getfield 9, 3, 1, 1, 197, .null, rm_M0, []),
  (.nop, .iconst 0, 1, 0, 0, 0, .int 0, rm_M0, []),
  (.nop, .bipush 10, 2, 0, 0, 0, .int 10, rm_M0, []),
  (.jsr_w 0, .invokestatic 20, 3, 0, 0, 20, .null, rm_M0, [(0, 1129), (0, 701), (0, 700), (0, 115)]),
  (.aload 1, .aload_n 1, 1, 0, 0, 0, .null, rm_M0, []),
  (.getfield 13, .getfield 13, 3, 1, 2, 198, .null, rm_M0, []),
  (.nop, .iconst 0, 1, 0, 0, 0, .int 0, rm_M0, []),
  (.aload 0, .aload_n 0, 1, 0, 0, 0, .null, rm_M0, []),
  (.getfield 13, .getfield 13, 3, 1, 2, 198, .null, rm_M0, []),
  (.nop, .iconst 0, 1, 0, 0, 0, .int 0, rm_M0, []),
  (.nop, .bipush 10, 2, 0, 0, 0, .int 10, rm_M0, []),
  (.jsr_w 0, .invokestatic 20, 3, 0, 0, 20, .null, rm_M0, [(0, 1129), (0, 701), (0, 700), (0, 115)]),
  (.return_, .return_, 1, 0, 0, 0, .null, rm_M0, [])]
def tX1_copyFrom : rm_P := [(0, bX1_copyFrom_0)]
theorem ok_X1_copyFrom_t : rm_okP mX1_copyFrom tX1_copyFrom = true := by decide +kernel
theorem ok_X1_copyFrom : rm_okM mX1_copyFrom tX1_copyFrom := ⟨ok_X1_copyFrom_t, fun _ h => absurd h List.not_mem_nil⟩
theorem atX1_copyFrom_0 : rm_at tX1_copyFrom 0 = some bX1_copyFrom_0 := rfl
def bX2_init_0 : List rm_J := [
  (.aload 0, .aload_n 0, 1, 0, 0, 0, .null, rm_M0, []),
  (.jsr 0, .invokespecial 1, 3, 0, 0, 1, .null, rm_M0, [(0, 327), (0, 125), (0, 126)]),
  (.aload 0, .aload_n 0, 1, 0, 0, 0, .null, rm_M0, []),
  (.nop, .bipush 20, 2, 0, 0, 0, .int 20, rm_M0, []),
  (.anewarray 9, .anewarray 9, 3, 6, 0, 0, .null, rm_M0, [(0, 328)]),
  (.putfield 11, .putfield 11, 3, 2, 2, 335, .int 3, rm_M0, []),
  (.nop, .iconst 0, 1, 0, 0, 0, .int 0, rm_M0, []),
  (.istore 2, .istore_n 2, 1, 0, 0, 0, .null, rm_M0, [])]
def bX2_init_15 : List rm_J := [
  (.iload 2, .iload_n 2, 1, 0, 0, 0, .null, rm_M0, []),
  (.nop, .bipush 20, 2, 0, 0, 0, .int 20, rm_M0, []),
  (.if_icmp .ge 23, .if_icmp .ge 23, 3, 41, 0, 0, .null, rm_M0, []),
  (.aload 0, .aload_n 0, 1, 0, 0, 0, .null, rm_M0, []),
  (.getfield 11, .getfield 11, 3, 2, 2, 335, .null, rm_M0, []),
  (.iload 2, .iload_n 2, 1, 0, 0, 0, .null, rm_M0, []),
  (.new 9, .new 9, 3, 7, 0, 0, .null, rm_M0, [(0, 328), (0, 257), (0, 103)]),
  (.dup, .dup, 1, 0, 0, 0, .null, rm_M0, []),
  (.aload 1, .aload_n 1, 1, 0, 0, 0, .null, rm_M0, []),
  (.invokespecial 15, .invokespecial 15, 3, 0, 1, 330, .null, mX7_init, [(0, 259)]),
  (.aastore, .aastore, 1, 0, 0, 0, .null, rm_M0, []),
  (.iinc 2 1, .iinc 2 1, 3, 0, 0, 0, .int 1, rm_M0, []),
  (.goto (-23), .goto (-23), 3, 15, 0, 0, .null, rm_M0, [])]
def bX2_init_41 : List rm_J := [
  (.return_, .return_, 1, 0, 0, 0, .null, rm_M0, [])]
def tX2_init : rm_P := [(0, bX2_init_0), (15, bX2_init_15), (41, bX2_init_41)]
theorem ok_X2_init_t : rm_okP mX2_init tX2_init = true := by decide +kernel
theorem ok_X2_init : rm_okM mX2_init tX2_init := ⟨ok_X2_init_t, List.forall_mem_cons.mpr ⟨cw_X7_init, fun _ h => absurd h List.not_mem_nil⟩⟩
theorem atX2_init_0 : rm_at tX2_init 0 = some bX2_init_0 := rfl
theorem atX2_init_15 : rm_at tX2_init 15 = some bX2_init_15 := rfl
theorem atX2_init_41 : rm_at tX2_init 41 = some bX2_init_41 := rfl
def bX2_push_0 : List rm_J := [
  (.aload 0, .aload_n 0, 1, 0, 0, 0, .null, rm_M0, []),
  (.getfield 18, .getfield 18, 3, 2, 0, 331, .null, rm_M0, []),
  (.nop, .bipush 20, 2, 0, 0, 0, .int 20, rm_M0, []),
  (.if_icmp .lt 18, .if_icmp .lt 18, 3, 24, 0, 0, .null, rm_M0, []),
  (.aload 0, .aload_n 0, 1, 0, 0, 0, .null, rm_M0, []),
  (.aload 0, .aload_n 0, 1, 0, 0, 0, .null, rm_M0, []),
  (.nop, .iconst 1, 1, 0, 0, 0, .int 1, rm_M0, []),
  (.invokevirtual 22, .invokevirtual 22, 3, 0, 1, 0, .null, mX2_placeOf, [(0, 815), (0, 817), (0, 20)]),
  (.putfield 26, .putfield 26, 3, 2, 1, 334, .int 0, rm_M0, []),
  (.aload 0, .aload_n 0, 1, 0, 0, 0, .null, rm_M0, []),
  (.nop, .bipush 19, 2, 0, 0, 0, .int 19, rm_M0, []),
  (.putfield 18, .putfield 18, 3, 2, 0, 331, .int 0, rm_M0, [])]
def bX2_push_24 : List rm_J := [
  (.aload 0, .aload_n 0, 1, 0, 0, 0, .null, rm_M0, []),
  (.getfield 11, .getfield 11, 3, 2, 2, 335, .null, rm_M0, []),
  (.aload 0, .aload_n 0, 1, 0, 0, 0, .null, rm_M0, []),
  (.aload 0, .aload_n 0, 1, 0, 0, 0, .null, rm_M0, []),
  (.getfield 18, .getfield 18, 3, 2, 0, 331, .null, rm_M0, []),
  (.invokevirtual 22, .invokevirtual 22, 3, 0, 1, 0, .null, mX2_placeOf, [(0, 815), (0, 817), (0, 20)]),
  (.aaload, .aaload, 1, 0, 0, 0, .null, rm_M0, []),
  (.aload 1, .aload_n 1, 1, 0, 0, 0, .null, rm_M0, []),
  (.invokevirtual 29, .invokevirtual 29, 3, 0, 1, 0, .null, mX7_copyFrom, [(0, 819), (0, 820), (0, 821)]),
  (.aload 0, .aload_n 0, 1, 0, 0, 0, .null, rm_M0, []),
  (.dup, .dup, 1, 0, 0, 0, .null, rm_M0, []),
  (.getfield 18, .getfield 18, 3, 2, 0, 331, .null, rm_M0, []),
  (.nop, .iconst 1, 1, 0, 0, 0, .int 1, rm_M0, []),
  (.iadd, .iadd, 1, 0, 0, 0, .null, rm_M0, []),
  (.putfield 18, .putfield 18, 3, 2, 0, 331, .int 0, rm_M0, []),
  (.return_, .return_, 1, 0, 0, 0, .null, rm_M0, [])]
def tX2_push : rm_P := [(0, bX2_push_0), (24, bX2_push_24)]
theorem ok_X2_push_t : rm_okP mX2_push tX2_push = true := by decide +kernel
theorem ok_X2_push : rm_okM mX2_push tX2_push := ⟨ok_X2_push_t, List.forall_mem_cons.mpr ⟨cw_X2_placeOf, List.forall_mem_cons.mpr ⟨cw_X2_placeOf, List.forall_mem_cons.mpr ⟨cw_X7_copyFrom, fun _ h => absurd h List.not_mem_nil⟩⟩⟩⟩
theorem atX2_push_0 : rm_at tX2_push 0 = some bX2_push_0 := rfl
theorem atX2_push_24 : rm_at tX2_push 24 = some bX2_push_24 := rfl
def bX2_pop_0 : List rm_J := [
  (.aload 0, .aload_n 0, 1, 0, 0, 0, .null, rm_M0, []),
  (.getfield 18, .getfield 18, 3, 2, 0, 331, .null, rm_M0, []),
  (.ifCond .le 30, .ifCond .le 30, 3, 34, 0, 0, .null, rm_M0, []),
  (.aload 0, .aload_n 0, 1, 0, 0, 0, .null, rm_M0, []),
  (.dup, .dup, 1, 0, 0, 0, .null, rm_M0, []),
  (.getfield 18, .getfield 18, 3, 2, 0, 331, .null, rm_M0, []),
  (.nop, .iconst 1, 1, 0, 0, 0, .int 1, rm_M0, []),
  (.isub, .isub, 1, 0, 0, 0, .null, rm_M0, []),
  (.putfield 18, .putfield 18, 3, 2, 0, 331, .int 0, rm_M0, []),
  (.aload 1, .aload_n 1, 1, 0, 0, 0, .null, rm_M0, []),
  (.aload 0, .aload_n 0, 1, 0, 0, 0, .null, rm_M0, []),
  (.getfield 11, .getfield 11, 3, 2, 2, 335, .null, rm_M0, []),
  (.aload 0, .aload_n 0, 1, 0, 0, 0, .null, rm_M0, []),
  (.aload 0, .aload_n 0, 1, 0, 0, 0, .null, rm_M0, []),
  (.getfield 18, .getfield 18, 3, 2, 0, 331, .null, rm_M0, []),
  (.invokevirtual 22, .invokevirtual 22, 3, 0, 1, 0, .null, mX2_placeOf, [(0, 815), (0, 817), (0, 20)]),
  (.aaload, .aaload, 1, 0, 0, 0, .null, rm_M0, []),
  (.invokevirtual 29, .invokevirtual 29, 3, 0, 1, 0, .null, mX7_copyFrom, [(0, 819), (0, 820), (0, 821)])]
def bX2_pop_34 : List rm_J := [
  (.return_, .return_, 1, 0, 0, 0, .null, rm_M0, [])]
def tX2_pop : rm_P := [(0, bX2_pop_0), (34, bX2_pop_34)]
theorem ok_X2_pop_t : rm_okP mX2_pop tX2_pop = true := by decide +kernel
theorem ok_X2_pop : rm_okM mX2_pop tX2_pop := ⟨ok_X2_pop_t, List.forall_mem_cons.mpr ⟨cw_X2_placeOf, List.forall_mem_cons.mpr ⟨cw_X7_copyFrom, fun _ h => absurd h List.not_mem_nil⟩⟩⟩
theorem atX2_pop_0 : rm_at tX2_pop 0 = some bX2_pop_0 := rfl
theorem atX2_pop_34 : rm_at tX2_pop 34 = some bX2_pop_34 := rfl
def bX2_copyFrom_0 : List rm_J := [
  (.aload 0, .aload_n 0, 1, 0, 0, 0, .null, rm_M0, []),
  (.aload 1, .aload_n 1, 1, 0, 0, 0, .null, rm_M0, []),
  (.getfield 18, .getfield 18, 3, 2, 0, 331, .null, rm_M0, []),
  (.putfield 18, .putfield 18, 3, 2, 0, 331, .int 0, rm_M0, []),
  (.aload 0, .aload_n 0, 1, 0, 0, 0, .null, rm_M0, []),
  (.nop, .iconst 0, 1, 0, 0, 0, .int 0, rm_M0, []),
  (.putfield 26, .putfield 26, 3, 2, 1, 334, .int 0, rm_M0, []),
  (.nop, .iconst 0, 1, 0, 0, 0, .int 0, rm_M0, []),
  (.istore 2, .istore_n 2, 1, 0, 0, 0, .null, rm_M0, [])]
def bX2_copyFrom_15 : List rm_J := [
  (.iload 2, .iload_n 2, 1, 0, 0, 0, .null, rm_M0, []),
  (.aload 0, .aload_n 0, 1, 0, 0, 0, .null, rm_M0, []),
  (.getfield 18, .getfield 18, 3, 2, 0, 331, .null, rm_M0, []),
  (.if_icmp .ge 28, .if_icmp .ge 28, 3, 48, 0, 0, .null, rm_M0, []),
  (.aload 0, .aload_n 0, 1, 0, 0, 0, .null, rm_M0, []),
  (.getfield 11, .getfield 11, 3, 2, 2, 335, .null, rm_M0, []),
  (.iload 2, .iload_n 2, 1, 0, 0, 0, .null, rm_M0, []),
  (.aaload, .aaload, 1, 0, 0, 0, .null, rm_M0, []),
  (.aload 1, .aload_n 1, 1, 0, 0, 0, .null, rm_M0, []),
  (.getfield 11, .getfield 11, 3, 2, 2, 335, .null, rm_M0, []),
  (.aload 1, .aload_n 1, 1, 0, 0, 0, .null, rm_M0, []),
  (.iload 2, .iload_n 2, 1, 0, 0, 0, .null, rm_M0, []),
  (.invokevirtual 22, .invokevirtual 22, 3, 0, 1, 0, .null, mX2_placeOf, [(0, 815), (0, 817), (0, 20)]),
  (.aaload, .aaload, 1, 0, 0, 0, .null, rm_M0, []),
  (.invokevirtual 29, .invokevirtual 29, 3, 0, 1, 0, .null, mX7_copyFrom, [(0, 819), (0, 820), (0, 821)]),
  (.iinc 2 1, .iinc 2 1, 3, 0, 0, 0, .int 1, rm_M0, []),
  (.goto (-30), .goto (-30), 3, 15, 0, 0, .null, rm_M0, [])]
def bX2_copyFrom_48 : List rm_J := [
  (.return_, .return_, 1, 0, 0, 0, .null, rm_M0, [])]
def tX2_copyFrom : rm_P := [(0, bX2_copyFrom_0), (15, bX2_copyFrom_15), (48, bX2_copyFrom_48)]
theorem ok_X2_copyFrom_t : rm_okP mX2_copyFrom tX2_copyFrom = true := by decide +kernel
theorem ok_X2_copyFrom : rm_okM mX2_copyFrom tX2_copyFrom := ⟨ok_X2_copyFrom_t, List.forall_mem_cons.mpr ⟨cw_X2_placeOf, List.forall_mem_cons.mpr ⟨cw_X7_copyFrom, fun _ h => absurd h List.not_mem_nil⟩⟩⟩
theorem atX2_copyFrom_0 : rm_at tX2_copyFrom 0 = some bX2_copyFrom_0 := rfl
theorem atX2_copyFrom_15 : rm_at tX2_copyFrom 15 = some bX2_copyFrom_15 := rfl
theorem atX2_copyFrom_48 : rm_at tX2_copyFrom 48 = some bX2_copyFrom_48 := rfl
def bX2_placeOf_0 : List rm_J := [
  (.aload 0, .aload_n 0, 1, 0, 0, 0, .null, rm_M0, []),
  (.getfield 26, .getfield 26, 3, 2, 1, 334, .null, rm_M0, []),
  (.iload 1, .iload_n 1, 1, 0, 0, 0, .null, rm_M0, []),
  (.iadd, .iadd, 1, 0, 0, 0, .null, rm_M0, []),
  (.nop, .bipush 20, 2, 0, 0, 0, .int 20, rm_M0, []),
  (.irem, .irem, 1, 0, 0, 0, .null, rm_M0, []),
  (.ireturn, .ireturn, 1, 0, 0, 0, .null, rm_M0, [])]
def tX2_placeOf : rm_P := [(0, bX2_placeOf_0)]
theorem ok_X2_placeOf_t : rm_okP mX2_placeOf tX2_placeOf = true := by decide +kernel
theorem ok_X2_placeOf : rm_okM mX2_placeOf tX2_placeOf := ⟨ok_X2_placeOf_t, fun _ h => absurd h List.not_mem_nil⟩
theorem atX2_placeOf_0 : rm_at tX2_placeOf 0 = some bX2_placeOf_0 := rfl
def bX5_init_0 : List rm_J := [
  (.aload 0, .aload_n 0, 1, 0, 0, 0, .null, rm_M0, []),
  (.jsr 0, .invokespecial 1, 3, 0, 0, 1, .null, rm_M0, [(0, 763), (0, 125), (0, 126)]),
  (.aload 0, .aload_n 0, 1, 0, 0, 0, .null, rm_M0, []),
  (.aload 1, .aload_n 1, 1, 0, 0, 0, .null, rm_M0, []),
  (.putfield 7, .putfield 7, 3, 5, 0, 764, .int 3, rm_M0, []),
  (.return_, .return_, 1, 0, 0, 0, .null, rm_M0, [])]
def tX5_init : rm_P := [(0, bX5_init_0)]
theorem ok_X5_init_t : rm_okP mX5_init tX5_init = true := by decide +kernel
theorem ok_X5_init : rm_okM mX5_init tX5_init := ⟨ok_X5_init_t, fun _ h => absurd h List.not_mem_nil⟩
theorem atX5_init_0 : rm_at tX5_init 0 = some bX5_init_0 := rfl
def bX5_sumFor_0 : List rm_J := [
  (.aload 2, .aload_n 2, 1, 0, 0, 0, .null, rm_M0, []),
  (.getfield 13, .getfield 13, 3, 9, 1, 379, .null, rm_M0, []),
  (.astore 3, .astore_n 3, 1, 0, 0, 0, .null, rm_M0, []),
  (.nop, .iconst 0, 1, 0, 0, 0, .int 0, rm_M0, []),
  (.istore 4, .istore 4, 2, 0, 0, 0, .null, rm_M0, []),
  (.nop, .iconst 0, 1, 0, 0, 0, .int 0, rm_M0, []),
  (.istore 5, .istore 5, 2, 0, 0, 0, .null, rm_M0, [])]
def bX5_sumFor_11 : List rm_J := [
  (.iload 5, .iload 5, 2, 0, 0, 0, .null, rm_M0, []),
  (.aload 0, .aload_n 0, 1, 0, 0, 0, .null, rm_M0, []),
  (.getfield 7, .getfield 7, 3, 5, 0, 764, .null, rm_M0, []),
  (.arraylength, .arraylength, 1, 0, 0, 0, .null, rm_M0, []),
  (.if_icmp .ge 183, .if_icmp .ge 183, 3, 201, 0, 0, .null, rm_M0, []),
  (.aload 0, .aload_n 0, 1, 0, 0, 0, .null, rm_M0, []),
  (.getfield 7, .getfield 7, 3, 5, 0, 764, .null, rm_M0, []),
  (.iload 5, .iload 5, 2, 0, 0, 0, .null, rm_M0, []),
  (.iaload, .iaload, 1, 0, 0, 0, .null, rm_M0, []),
  (.istore 6, .istore 6, 2, 0, 0, 0, .null, rm_M0, []),
  (.nop, .bipush (-100), 2, 0, 0, 0, .int (-100), rm_M0, []),
  (.iload 6, .iload 6, 2, 0, 0, 0, .null, rm_M0, []),
  (.isub, .isub, 1, 0, 0, 0, .null, rm_M0, []),
  (.istore 7, .istore 7, 2, 0, 0, 0, .null, rm_M0, []),
  (.iload 6, .iload 6, 2, 0, 0, 0, .null, rm_M0, []),
  (.nop, .bipush (-100), 2, 0, 0, 0, .int (-100), rm_M0, []),
  (.if_icmp .le 42, .if_icmp .le 42, 3, 83, 0, 0, .null, rm_M0, []),
  (.iload 4, .iload 4, 2, 0, 0, 0, .null, rm_M0, []),
  (.nop, .bipush 64, 2, 0, 0, 0, .int 64, rm_M0, []),
  (.if_icmp .lt 5, .if_icmp .lt 5, 3, 53, 0, 0, .null, rm_M0, []),
  (.nop, .lconst 0, 1, 0, 0, 0, .long 0, rm_M0, []),
  (.lreturn, .lreturn, 1, 0, 0, 0, .null, rm_M0, [])]
def bX5_sumFor_53 : List rm_J := [
  (.aload 3, .aload_n 3, 1, 0, 0, 0, .null, rm_M0, []),
  (.iload 4, .iload 4, 2, 0, 0, 0, .null, rm_M0, []),
  (.iload 6, .iload 6, 2, 0, 0, 0, .null, rm_M0, []),
  (.ifCond .lt 9, .ifCond .lt 9, 3, 67, 0, 0, .null, rm_M0, []),
  (.iload 6, .iload 6, 2, 0, 0, 0, .null, rm_M0, []),
  (.i2l, .i2l, 1, 0, 0, 0, .null, rm_M0, []),
  (.goto 12, .goto 12, 3, 76, 0, 0, .null, rm_M0, [])]
def bX5_sumFor_67 : List rm_J := [
  (.aload 2, .aload_n 2, 1, 0, 0, 0, .null, rm_M0, []),
  (.nop, .iconst (-1), 1, 0, 0, 0, .int (-1), rm_M0, []),
  (.iload 6, .iload 6, 2, 0, 0, 0, .null, rm_M0, []),
  (.isub, .isub, 1, 0, 0, 0, .null, rm_M0, []),
  (.iload 1, .iload_n 1, 1, 0, 0, 0, .null, rm_M0, []),
  (.invokevirtual 19, .invokevirtual 19, 3, 0, 2, 0, .null, mX9_valueOf, [(0, 861), (0, 862), (0, 863)])]
def bX5_sumFor_76 : List rm_J := [
  (.lastore, .lastore, 1, 0, 0, 0, .null, rm_M0, []),
  (.iinc 4 1, .iinc 4 1, 3, 0, 0, 0, .int 1, rm_M0, []),
  (.goto 115, .goto 115, 3, 195, 0, 0, .null, rm_M0, [])]
def bX5_sumFor_83 : List rm_J := [
  (.iload 7, .iload 7, 2, 0, 0, 0, .null, rm_M0, []),
  (.nop, .bipush 16, 2, 0, 0, 0, .int 16, rm_M0, []),
  (.if_icmp .ne 20, .if_icmp .ne 20, 3, 107, 0, 0, .null, rm_M0, []),
  (.iload 4, .iload 4, 2, 0, 0, 0, .null, rm_M0, []),
  (.nop, .iconst 1, 1, 0, 0, 0, .int 1, rm_M0, []),
  (.if_icmp .lt 12, .if_icmp .lt 12, 3, 105, 0, 0, .null, rm_M0, []),
  (.aload 3, .aload_n 3, 1, 0, 0, 0, .null, rm_M0, []),
  (.iload 4, .iload 4, 2, 0, 0, 0, .null, rm_M0, []),
  (.nop, .iconst 1, 1, 0, 0, 0, .int 1, rm_M0, []),
  (.isub, .isub, 1, 0, 0, 0, .null, rm_M0, []),
  (.laload, .laload, 1, 0, 0, 0, .null, rm_M0, []),
  (.goto 4, .goto 4, 3, 106, 0, 0, .null, rm_M0, [])]
def bX5_sumFor_105 : List rm_J := [
  (.nop, .lconst 0, 1, 0, 0, 0, .long 0, rm_M0, [])]
def bX5_sumFor_106 : List rm_J := [
  (.lreturn, .lreturn, 1, 0, 0, 0, .null, rm_M0, [])]
def bX5_sumFor_107 : List rm_J := [
  (.iload 7, .iload 7, 2, 0, 0, 0, .null, rm_M0, []),
  (.nop, .bipush 20, 2, 0, 0, 0, .int 20, rm_M0, []),
  (.if_icmp .ne 26, .if_icmp .ne 26, 3, 137, 0, 0, .null, rm_M0, []),
  (.iload 4, .iload 4, 2, 0, 0, 0, .null, rm_M0, []),
  (.nop, .iconst 1, 1, 0, 0, 0, .int 1, rm_M0, []),
  (.if_icmp .lt 78, .if_icmp .lt 78, 3, 195, 0, 0, .null, rm_M0, []),
  (.aload 3, .aload_n 3, 1, 0, 0, 0, .null, rm_M0, []),
  (.iload 4, .iload 4, 2, 0, 0, 0, .null, rm_M0, []),
  (.nop, .iconst 1, 1, 0, 0, 0, .int 1, rm_M0, []),
  (.isub, .isub, 1, 0, 0, 0, .null, rm_M0, []),
  (.nop, .lconst 1, 1, 0, 0, 0, .long 1, rm_M0, []),
  (.aload 3, .aload_n 3, 1, 0, 0, 0, .null, rm_M0, []),
  (.iload 4, .iload 4, 2, 0, 0, 0, .null, rm_M0, []),
  (.nop, .iconst 1, 1, 0, 0, 0, .int 1, rm_M0, []),
  (.isub, .isub, 1, 0, 0, 0, .null, rm_M0, []),
  (.laload, .laload, 1, 0, 0, 0, .null, rm_M0, []),
  (.lsub, .lsub, 1, 0, 0, 0, .null, rm_M0, []),
  (.lastore, .lastore, 1, 0, 0, 0, .null, rm_M0, []),
  (.goto 61, .goto 61, 3, 195, 0, 0, .null, rm_M0, [])]
def bX5_sumFor_137 : List rm_J := [
  (.iload 4, .iload 4, 2, 0, 0, 0, .null, rm_M0, []),
  (.nop, .iconst 2, 1, 0, 0, 0, .int 2, rm_M0, []),
  (.if_icmp .ge 5, .if_icmp .ge 5, 3, 145, 0, 0, .null, rm_M0, []),
  (.nop, .lconst 0, 1, 0, 0, 0, .long 0, rm_M0, []),
  (.lreturn, .lreturn, 1, 0, 0, 0, .null, rm_M0, [])]
def bX5_sumFor_145 : List rm_J := [
  (.iload 7, .iload 7, 2, 0, 0, 0, .null, rm_M0, []),
  (.nop, .bipush 17, 2, 0, 0, 0, .int 17, rm_M0, []),
  (.if_icmp .ne 22, .if_icmp .ne 22, 3, 171, 0, 0, .null, rm_M0, []),
  (.iinc 4 (-2), .iinc 4 (-2), 3, 0, 0, 0, .int (-2), rm_M0, []),
  (.aload 3, .aload_n 3, 1, 0, 0, 0, .null, rm_M0, []),
  (.iload 4, .iload 4, 2, 0, 0, 0, .null, rm_M0, []),
  (.nop, .iconst 1, 1, 0, 0, 0, .int 1, rm_M0, []),
  (.iadd, .iadd, 1, 0, 0, 0, .null, rm_M0, []),
  (.laload, .laload, 1, 0, 0, 0, .null, rm_M0, []),
  (.nop, .lconst 0, 1, 0, 0, 0, .long 0, rm_M0, []),
  (.lcmp, .lcmp, 1, 0, 0, 0, .null, rm_M0, []),
  (.ifCond .eq 32, .ifCond .eq 32, 3, 195, 0, 0, .null, rm_M0, []),
  (.aload 3, .aload_n 3, 1, 0, 0, 0, .null, rm_M0, []),
  (.iload 4, .iload 4, 2, 0, 0, 0, .null, rm_M0, []),
  (.laload, .laload, 1, 0, 0, 0, .null, rm_M0, []),
  (.lreturn, .lreturn, 1, 0, 0, 0, .null, rm_M0, [])]
def bX5_sumFor_171 : List rm_J := [
  (.iinc 4 (-1), .iinc 4 (-1), 3, 0, 0, 0, .int (-1), rm_M0, []),
  (.aload 3, .aload_n 3, 1, 0, 0, 0, .null, rm_M0, []),
  (.iload 4, .iload 4, 2, 0, 0, 0, .null, rm_M0, []),
  (.nop, .iconst 1, 1, 0, 0, 0, .int 1, rm_M0, []),
  (.isub, .isub, 1, 0, 0, 0, .null, rm_M0, []),
  (.iload 7, .iload 7, 2, 0, 0, 0, .null, rm_M0, []),
  (.aload 3, .aload_n 3, 1, 0, 0, 0, .null, rm_M0, []),
  (.iload 4, .iload 4, 2, 0, 0, 0, .null, rm_M0, []),
  (.nop, .iconst 1, 1, 0, 0, 0, .int 1, rm_M0, []),
  (.isub, .isub, 1, 0, 0, 0, .null, rm_M0, []),
  (.laload, .laload, 1, 0, 0, 0, .null, rm_M0, []),
  (.aload 3, .aload_n 3, 1, 0, 0, 0, .null, rm_M0, []),
  (.iload 4, .iload 4, 2, 0, 0, 0, .null, rm_M0, []),
  (.laload, .laload, 1, 0, 0, 0, .null, rm_M0, []),
  (.invokestatic 25, .invokestatic 25, 3, 0, 3, 0, .null, mX5_joined, [(0, 872), (0, 873)]),
  (.lastore, .lastore, 1, 0, 0, 0, .null, rm_M0, [])]
def bX5_sumFor_195 : List rm_J := [
  (.iinc 5 1, .iinc 5 1, 3, 0, 0, 0, .int 1, rm_M0, []),
  (.goto (-187), .goto (-187), 3, 11, 0, 0, .null, rm_M0, [])]
def bX5_sumFor_201 : List rm_J := [
  (.nop, .lconst 0, 1, 0, 0, 0, .long 0, rm_M0, []),
  (.lreturn, .lreturn, 1, 0, 0, 0, .null, rm_M0, [])]
def tX5_sumFor : rm_P := [(0, bX5_sumFor_0), (11, bX5_sumFor_11), (53, bX5_sumFor_53), (67, bX5_sumFor_67), (76, bX5_sumFor_76), (83, bX5_sumFor_83), (105, bX5_sumFor_105), (106, bX5_sumFor_106), (107, bX5_sumFor_107), (137, bX5_sumFor_137), (145, bX5_sumFor_145), (171, bX5_sumFor_171), (195, bX5_sumFor_195), (201, bX5_sumFor_201)]
theorem ok_X5_sumFor_t : rm_okP mX5_sumFor tX5_sumFor = true := by decide +kernel
theorem ok_X5_sumFor : rm_okM mX5_sumFor tX5_sumFor := ⟨ok_X5_sumFor_t, List.forall_mem_cons.mpr ⟨cw_X9_valueOf, List.forall_mem_cons.mpr ⟨cw_X5_joined, fun _ h => absurd h List.not_mem_nil⟩⟩⟩
theorem atX5_sumFor_0 : rm_at tX5_sumFor 0 = some bX5_sumFor_0 := rfl
theorem atX5_sumFor_11 : rm_at tX5_sumFor 11 = some bX5_sumFor_11 := rfl
theorem atX5_sumFor_53 : rm_at tX5_sumFor 53 = some bX5_sumFor_53 := rfl
theorem atX5_sumFor_67 : rm_at tX5_sumFor 67 = some bX5_sumFor_67 := rfl
theorem atX5_sumFor_76 : rm_at tX5_sumFor 76 = some bX5_sumFor_76 := rfl
theorem atX5_sumFor_83 : rm_at tX5_sumFor 83 = some bX5_sumFor_83 := rfl
theorem atX5_sumFor_105 : rm_at tX5_sumFor 105 = some bX5_sumFor_105 := rfl
theorem atX5_sumFor_106 : rm_at tX5_sumFor 106 = some bX5_sumFor_106 := rfl
theorem atX5_sumFor_107 : rm_at tX5_sumFor 107 = some bX5_sumFor_107 := rfl
theorem atX5_sumFor_137 : rm_at tX5_sumFor 137 = some bX5_sumFor_137 := rfl
theorem atX5_sumFor_145 : rm_at tX5_sumFor 145 = some bX5_sumFor_145 := rfl
theorem atX5_sumFor_171 : rm_at tX5_sumFor 171 = some bX5_sumFor_171 := rfl
theorem atX5_sumFor_195 : rm_at tX5_sumFor 195 = some bX5_sumFor_195 := rfl
theorem atX5_sumFor_201 : rm_at tX5_sumFor 201 = some bX5_sumFor_201 := rfl
def bX5_joined_0 : List rm_J := [
  (.iload 0, .iload_n 0, 1, 0, 0, 0, .null, rm_M0, []),
  (.lookupswitch 115 #[(18, 107), (19, 111), (37, 93), (42, 75), (43, 67), (45, 71), (47, 79)], .lookupswitch 115 #[(18, 107), (19, 111), (37, 93), (42, 75), (43, 67), (45, 71), (47, 79)], 67, 116, 0, 0, .null, rm_M0, [(18, 108), (19, 112), (37, 94), (42, 76), (43, 68), (45, 72), (47, 80)])]
def bX5_joined_68 : List rm_J := [
  (.lload 1, .lload_n 1, 1, 0, 0, 0, .null, rm_M0, []),
  (.lload 3, .lload_n 3, 1, 0, 0, 0, .null, rm_M0, []),
  (.ladd, .ladd, 1, 0, 0, 0, .null, rm_M0, []),
  (.lreturn, .lreturn, 1, 0, 0, 0, .null, rm_M0, [])]
def bX5_joined_72 : List rm_J := [
  (.lload 1, .lload_n 1, 1, 0, 0, 0, .null, rm_M0, []),
  (.lload 3, .lload_n 3, 1, 0, 0, 0, .null, rm_M0, []),
  (.lsub, .lsub, 1, 0, 0, 0, .null, rm_M0, []),
  (.lreturn, .lreturn, 1, 0, 0, 0, .null, rm_M0, [])]
def bX5_joined_76 : List rm_J := [
  (.lload 1, .lload_n 1, 1, 0, 0, 0, .null, rm_M0, []),
  (.lload 3, .lload_n 3, 1, 0, 0, 0, .null, rm_M0, []),
  (.lmul, .lmul, 1, 0, 0, 0, .null, rm_M0, []),
  (.lreturn, .lreturn, 1, 0, 0, 0, .null, rm_M0, [])]
def bX5_joined_80 : List rm_J := [
  (.lload 3, .lload_n 3, 1, 0, 0, 0, .null, rm_M0, []),
  (.nop, .lconst 0, 1, 0, 0, 0, .long 0, rm_M0, []),
  (.lcmp, .lcmp, 1, 0, 0, 0, .null, rm_M0, []),
  (.ifCond .ne 7, .ifCond .ne 7, 3, 90, 0, 0, .null, rm_M0, []),
  (.nop, .lconst 0, 1, 0, 0, 0, .long 0, rm_M0, []),
  (.goto 6, .goto 6, 3, 93, 0, 0, .null, rm_M0, [])]
def bX5_joined_90 : List rm_J := [
  (.lload 1, .lload_n 1, 1, 0, 0, 0, .null, rm_M0, []),
  (.lload 3, .lload_n 3, 1, 0, 0, 0, .null, rm_M0, []),
  (.ldiv, .ldiv, 1, 0, 0, 0, .null, rm_M0, [])]
def bX5_joined_93 : List rm_J := [
  (.lreturn, .lreturn, 1, 0, 0, 0, .null, rm_M0, [])]
def bX5_joined_94 : List rm_J := [
  (.lload 3, .lload_n 3, 1, 0, 0, 0, .null, rm_M0, []),
  (.nop, .lconst 0, 1, 0, 0, 0, .long 0, rm_M0, []),
  (.lcmp, .lcmp, 1, 0, 0, 0, .null, rm_M0, []),
  (.ifCond .ne 7, .ifCond .ne 7, 3, 104, 0, 0, .null, rm_M0, []),
  (.nop, .lconst 0, 1, 0, 0, 0, .long 0, rm_M0, []),
  (.goto 6, .goto 6, 3, 107, 0, 0, .null, rm_M0, [])]
def bX5_joined_104 : List rm_J := [
  (.lload 1, .lload_n 1, 1, 0, 0, 0, .null, rm_M0, []),
  (.lload 3, .lload_n 3, 1, 0, 0, 0, .null, rm_M0, []),
  (.lrem, .lrem, 1, 0, 0, 0, .null, rm_M0, [])]
def bX5_joined_107 : List rm_J := [
  (.lreturn, .lreturn, 1, 0, 0, 0, .null, rm_M0, [])]
def bX5_joined_108 : List rm_J := [
  (.lload 1, .lload_n 1, 1, 0, 0, 0, .null, rm_M0, []),
  (.lload 3, .lload_n 3, 1, 0, 0, 0, .null, rm_M0, []),
  (.land, .land, 1, 0, 0, 0, .null, rm_M0, []),
  (.lreturn, .lreturn, 1, 0, 0, 0, .null, rm_M0, [])]
def bX5_joined_112 : List rm_J := [
  (.lload 1, .lload_n 1, 1, 0, 0, 0, .null, rm_M0, []),
  (.lload 3, .lload_n 3, 1, 0, 0, 0, .null, rm_M0, []),
  (.lor, .lor, 1, 0, 0, 0, .null, rm_M0, []),
  (.lreturn, .lreturn, 1, 0, 0, 0, .null, rm_M0, [])]
def bX5_joined_116 : List rm_J := [
  (.iload 0, .iload_n 0, 1, 0, 0, 0, .null, rm_M0, []),
  (.lload 1, .lload_n 1, 1, 0, 0, 0, .null, rm_M0, []),
  (.lload 3, .lload_n 3, 1, 0, 0, 0, .null, rm_M0, []),
  (.invokestatic 29, .invokestatic 29, 3, 0, 3, 0, .null, mX5_isSo, [(0, 875), (0, 876)]),
  (.ifCond .eq 7, .ifCond .eq 7, 3, 129, 0, 0, .null, rm_M0, []),
  (.nop, .lconst 1, 1, 0, 0, 0, .long 1, rm_M0, []),
  (.goto 4, .goto 4, 3, 130, 0, 0, .null, rm_M0, [])]
def bX5_joined_129 : List rm_J := [
  (.nop, .lconst 0, 1, 0, 0, 0, .long 0, rm_M0, [])]
def bX5_joined_130 : List rm_J := [
  (.lreturn, .lreturn, 1, 0, 0, 0, .null, rm_M0, [])]
def tX5_joined : rm_P := [(0, bX5_joined_0), (68, bX5_joined_68), (72, bX5_joined_72), (76, bX5_joined_76), (80, bX5_joined_80), (90, bX5_joined_90), (93, bX5_joined_93), (94, bX5_joined_94), (104, bX5_joined_104), (107, bX5_joined_107), (108, bX5_joined_108), (112, bX5_joined_112), (116, bX5_joined_116), (129, bX5_joined_129), (130, bX5_joined_130)]
theorem ok_X5_joined_t : rm_okP mX5_joined tX5_joined = true := by decide +kernel
theorem ok_X5_joined : rm_okM mX5_joined tX5_joined := ⟨ok_X5_joined_t, List.forall_mem_cons.mpr ⟨cw_X5_isSo, fun _ h => absurd h List.not_mem_nil⟩⟩
theorem atX5_joined_0 : rm_at tX5_joined 0 = some bX5_joined_0 := rfl
theorem atX5_joined_68 : rm_at tX5_joined 68 = some bX5_joined_68 := rfl
theorem atX5_joined_72 : rm_at tX5_joined 72 = some bX5_joined_72 := rfl
theorem atX5_joined_76 : rm_at tX5_joined 76 = some bX5_joined_76 := rfl
theorem atX5_joined_80 : rm_at tX5_joined 80 = some bX5_joined_80 := rfl
theorem atX5_joined_90 : rm_at tX5_joined 90 = some bX5_joined_90 := rfl
theorem atX5_joined_93 : rm_at tX5_joined 93 = some bX5_joined_93 := rfl
theorem atX5_joined_94 : rm_at tX5_joined 94 = some bX5_joined_94 := rfl
theorem atX5_joined_104 : rm_at tX5_joined 104 = some bX5_joined_104 := rfl
theorem atX5_joined_107 : rm_at tX5_joined 107 = some bX5_joined_107 := rfl
theorem atX5_joined_108 : rm_at tX5_joined 108 = some bX5_joined_108 := rfl
theorem atX5_joined_112 : rm_at tX5_joined 112 = some bX5_joined_112 := rfl
theorem atX5_joined_116 : rm_at tX5_joined 116 = some bX5_joined_116 := rfl
theorem atX5_joined_129 : rm_at tX5_joined 129 = some bX5_joined_129 := rfl
theorem atX5_joined_130 : rm_at tX5_joined 130 = some bX5_joined_130 := rfl
def bX5_isSo_0 : List rm_J := [
  (.iload 0, .iload_n 0, 1, 0, 0, 0, .null, rm_M0, []),
  (.lookupswitch 91 #[(60, 43), (61, 67), (256, 55), (257, 79)], .lookupswitch 91 #[(60, 43), (61, 67), (256, 55), (257, 79)], 43, 92, 0, 0, .null, rm_M0, [(60, 44), (61, 68), (256, 56), (257, 80)])]
def bX5_isSo_44 : List rm_J := [
  (.lload 1, .lload_n 1, 1, 0, 0, 0, .null, rm_M0, []),
  (.lload 3, .lload_n 3, 1, 0, 0, 0, .null, rm_M0, []),
  (.lcmp, .lcmp, 1, 0, 0, 0, .null, rm_M0, []),
  (.ifCond .ge 7, .ifCond .ge 7, 3, 54, 0, 0, .null, rm_M0, []),
  (.nop, .iconst 1, 1, 0, 0, 0, .int 1, rm_M0, []),
  (.goto 4, .goto 4, 3, 55, 0, 0, .null, rm_M0, [])]
def bX5_isSo_54 : List rm_J := [
  (.nop, .iconst 0, 1, 0, 0, 0, .int 0, rm_M0, [])]
def bX5_isSo_55 : List rm_J := [
  (.ireturn, .ireturn, 1, 0, 0, 0, .null, rm_M0, [])]
def bX5_isSo_56 : List rm_J := [
  (.lload 1, .lload_n 1, 1, 0, 0, 0, .null, rm_M0, []),
  (.lload 3, .lload_n 3, 1, 0, 0, 0, .null, rm_M0, []),
  (.lcmp, .lcmp, 1, 0, 0, 0, .null, rm_M0, []),
  (.ifCond .gt 7, .ifCond .gt 7, 3, 66, 0, 0, .null, rm_M0, []),
  (.nop, .iconst 1, 1, 0, 0, 0, .int 1, rm_M0, []),
  (.goto 4, .goto 4, 3, 67, 0, 0, .null, rm_M0, [])]
def bX5_isSo_66 : List rm_J := [
  (.nop, .iconst 0, 1, 0, 0, 0, .int 0, rm_M0, [])]
def bX5_isSo_67 : List rm_J := [
  (.ireturn, .ireturn, 1, 0, 0, 0, .null, rm_M0, [])]
def bX5_isSo_68 : List rm_J := [
  (.lload 1, .lload_n 1, 1, 0, 0, 0, .null, rm_M0, []),
  (.lload 3, .lload_n 3, 1, 0, 0, 0, .null, rm_M0, []),
  (.lcmp, .lcmp, 1, 0, 0, 0, .null, rm_M0, []),
  (.ifCond .ne 7, .ifCond .ne 7, 3, 78, 0, 0, .null, rm_M0, []),
  (.nop, .iconst 1, 1, 0, 0, 0, .int 1, rm_M0, []),
  (.goto 4, .goto 4, 3, 79, 0, 0, .null, rm_M0, [])]
def bX5_isSo_78 : List rm_J := [
  (.nop, .iconst 0, 1, 0, 0, 0, .int 0, rm_M0, [])]
def bX5_isSo_79 : List rm_J := [
  (.ireturn, .ireturn, 1, 0, 0, 0, .null, rm_M0, [])]
def bX5_isSo_80 : List rm_J := [
  (.lload 1, .lload_n 1, 1, 0, 0, 0, .null, rm_M0, []),
  (.lload 3, .lload_n 3, 1, 0, 0, 0, .null, rm_M0, []),
  (.lcmp, .lcmp, 1, 0, 0, 0, .null, rm_M0, []),
  (.ifCond .lt 7, .ifCond .lt 7, 3, 90, 0, 0, .null, rm_M0, []),
  (.nop, .iconst 1, 1, 0, 0, 0, .int 1, rm_M0, []),
  (.goto 4, .goto 4, 3, 91, 0, 0, .null, rm_M0, [])]
def bX5_isSo_90 : List rm_J := [
  (.nop, .iconst 0, 1, 0, 0, 0, .int 0, rm_M0, [])]
def bX5_isSo_91 : List rm_J := [
  (.ireturn, .ireturn, 1, 0, 0, 0, .null, rm_M0, [])]
def bX5_isSo_92 : List rm_J := [
  (.lload 1, .lload_n 1, 1, 0, 0, 0, .null, rm_M0, []),
  (.lload 3, .lload_n 3, 1, 0, 0, 0, .null, rm_M0, []),
  (.lcmp, .lcmp, 1, 0, 0, 0, .null, rm_M0, []),
  (.ifCond .le 7, .ifCond .le 7, 3, 102, 0, 0, .null, rm_M0, []),
  (.nop, .iconst 1, 1, 0, 0, 0, .int 1, rm_M0, []),
  (.goto 4, .goto 4, 3, 103, 0, 0, .null, rm_M0, [])]
def bX5_isSo_102 : List rm_J := [
  (.nop, .iconst 0, 1, 0, 0, 0, .int 0, rm_M0, [])]
def bX5_isSo_103 : List rm_J := [
  (.ireturn, .ireturn, 1, 0, 0, 0, .null, rm_M0, [])]
def tX5_isSo : rm_P := [(0, bX5_isSo_0), (44, bX5_isSo_44), (54, bX5_isSo_54), (55, bX5_isSo_55), (56, bX5_isSo_56), (66, bX5_isSo_66), (67, bX5_isSo_67), (68, bX5_isSo_68), (78, bX5_isSo_78), (79, bX5_isSo_79), (80, bX5_isSo_80), (90, bX5_isSo_90), (91, bX5_isSo_91), (92, bX5_isSo_92), (102, bX5_isSo_102), (103, bX5_isSo_103)]
theorem ok_X5_isSo_t : rm_okP mX5_isSo tX5_isSo = true := by decide +kernel
theorem ok_X5_isSo : rm_okM mX5_isSo tX5_isSo := ⟨ok_X5_isSo_t, fun _ h => absurd h List.not_mem_nil⟩
theorem atX5_isSo_0 : rm_at tX5_isSo 0 = some bX5_isSo_0 := rfl
theorem atX5_isSo_44 : rm_at tX5_isSo 44 = some bX5_isSo_44 := rfl
theorem atX5_isSo_54 : rm_at tX5_isSo 54 = some bX5_isSo_54 := rfl
theorem atX5_isSo_55 : rm_at tX5_isSo 55 = some bX5_isSo_55 := rfl
theorem atX5_isSo_56 : rm_at tX5_isSo 56 = some bX5_isSo_56 := rfl
theorem atX5_isSo_66 : rm_at tX5_isSo 66 = some bX5_isSo_66 := rfl
theorem atX5_isSo_67 : rm_at tX5_isSo 67 = some bX5_isSo_67 := rfl
theorem atX5_isSo_68 : rm_at tX5_isSo 68 = some bX5_isSo_68 := rfl
theorem atX5_isSo_78 : rm_at tX5_isSo 78 = some bX5_isSo_78 := rfl
theorem atX5_isSo_79 : rm_at tX5_isSo 79 = some bX5_isSo_79 := rfl
theorem atX5_isSo_80 : rm_at tX5_isSo 80 = some bX5_isSo_80 := rfl
theorem atX5_isSo_90 : rm_at tX5_isSo 90 = some bX5_isSo_90 := rfl
theorem atX5_isSo_91 : rm_at tX5_isSo 91 = some bX5_isSo_91 := rfl
theorem atX5_isSo_92 : rm_at tX5_isSo 92 = some bX5_isSo_92 := rfl
theorem atX5_isSo_102 : rm_at tX5_isSo 102 = some bX5_isSo_102 := rfl
theorem atX5_isSo_103 : rm_at tX5_isSo 103 = some bX5_isSo_103 := rfl
def bX9_init_0 : List rm_J := [
  (.aload 0, .aload_n 0, 1, 0, 0, 0, .null, rm_M0, []),
  (.jsr 0, .invokespecial 3, 3, 0, 0, 3, .null, rm_M0, [(0, 370), (0, 125), (0, 126)]),
  (.aload 0, .aload_n 0, 1, 0, 0, 0, .null, rm_M0, []),
  (.new 9, .new 9, 3, 7, 0, 0, .null, rm_M0, [(0, 371), (0, 257), (0, 103)]),
  (.dup, .dup, 1, 0, 0, 0, .null, rm_M0, []),
  (.new 11, .new 11, 3, 3, 0, 0, .null, rm_M0, [(0, 372), (0, 207), (0, 102)]),
  (.dup, .dup, 1, 0, 0, 0, .null, rm_M0, []),
  (.invokespecial 13, .invokespecial 13, 3, 0, 0, 373, .null, mX3_init, [(0, 209)]),
  (.invokespecial 14, .invokespecial 14, 3, 0, 1, 374, .null, mX7_init, [(0, 259)]),
  (.putfield 17, .putfield 17, 3, 9, 0, 375, .int 3, rm_M0, []),
  (.aload 0, .aload_n 0, 1, 0, 0, 0, .null, rm_M0, []),
  (.nop, .bipush 64, 2, 0, 0, 0, .int 64, rm_M0, []),
  (.newarray .long, .newarray .long, 2, 2, 0, 0, .null, rm_M0, [(0, 391)]),
  (.putfield 25, .putfield 25, 3, 9, 1, 378, .int 3, rm_M0, []),
  (.return_, .return_, 1, 0, 0, 0, .null, rm_M0, [])]
def tX9_init : rm_P := [(0, bX9_init_0)]
theorem ok_X9_init_t : rm_okP mX9_init tX9_init = true := by decide +kernel
theorem ok_X9_init : rm_okM mX9_init tX9_init := ⟨ok_X9_init_t, List.forall_mem_cons.mpr ⟨cw_X3_init, List.forall_mem_cons.mpr ⟨cw_X7_init, fun _ h => absurd h List.not_mem_nil⟩⟩⟩
theorem atX9_init_0 : rm_at tX9_init 0 = some bX9_init_0 := rfl
def bX9_start_0 : List rm_J := [
  (.aload 0, .aload_n 0, 1, 0, 0, 0, .null, rm_M0, []),
  (.getfield 17, .getfield 17, 3, 9, 0, 375, .null, rm_M0, []),
  (.aload 1, .aload_n 1, 1, 0, 0, 0, .null, rm_M0, []),
  (.invokevirtual 29, .invokevirtual 29, 3, 0, 1, 0, .null, mX7_copyFrom, [(0, 835), (0, 820), (0, 821)]),
  (.aload 0, .aload_n 0, 1, 0, 0, 0, .null, rm_M0, []),
  (.aload 2, .aload_n 2, 1, 0, 0, 0, .null, rm_M0, []),
  (.putfield 33, .putfield 33, 3, 9, 2, 380, .int 3, rm_M0, []),
  (.return_, .return_, 1, 0, 0, 0, .null, rm_M0, [])]
def tX9_start : rm_P := [(0, bX9_start_0)]
theorem ok_X9_start_t : rm_okP mX9_start tX9_start = true := by decide +kernel
theorem ok_X9_start : rm_okM mX9_start tX9_start := ⟨ok_X9_start_t, List.forall_mem_cons.mpr ⟨cw_X7_copyFrom, fun _ h => absurd h List.not_mem_nil⟩⟩
theorem atX9_start_0 : rm_at tX9_start 0 = some bX9_start_0 := rfl
def bX9_startAnew_0 : List rm_J := [
  (.aload 0, .aload_n 0, 1, 0, 0, 0, .null, rm_M0, []),
  (.getfield 17, .getfield 17, 3, 9, 0, 375, .null, rm_M0, []),
  (.aload 1, .aload_n 1, 1, 0, 0, 0, .null, rm_M0, []),
  (.invokevirtual 37, .invokevirtual 37, 3, 0, 1, 0, .null, mX7_beginIn, [(0, 1041), (0, 696), (0, 697)]),
  (.aload 0, .aload_n 0, 1, 0, 0, 0, .null, rm_M0, []),
  (.aload 2, .aload_n 2, 1, 0, 0, 0, .null, rm_M0, []),
  (.putfield 33, .putfield 33, 3, 9, 2, 380, .int 3, rm_M0, []),
  (.return_, .return_, 1, 0, 0, 0, .null, rm_M0, [])]
def tX9_startAnew : rm_P := [(0, bX9_startAnew_0)]
theorem ok_X9_startAnew_t : rm_okP mX9_startAnew tX9_startAnew = true := by decide +kernel
theorem ok_X9_startAnew : rm_okM mX9_startAnew tX9_startAnew := ⟨ok_X9_startAnew_t, List.forall_mem_cons.mpr ⟨cw_X7_beginIn, fun _ h => absurd h List.not_mem_nil⟩⟩
theorem atX9_startAnew_0 : rm_at tX9_startAnew 0 = some bX9_startAnew_0 := rfl
def bX9_passDay_0 : List rm_J := [
  (.nop, .iconst (-1), 1, 0, 0, 0, .int (-1), rm_M0, []),
  (.istore 1, .istore_n 1, 1, 0, 0, 0, .null, rm_M0, []),
  (.aload 0, .aload_n 0, 1, 0, 0, 0, .null, rm_M0, []),
  (.getfield 17, .getfield 17, 3, 9, 0, 375, .null, rm_M0, []),
  (.invokevirtual 40, .invokevirtual 40, 3, 0, 0, 0, .null, mX7_isDayWasted, [(0, 840), (0, 841), (0, 842)]),
  (.ifCond .eq 19, .ifCond .eq 19, 3, 28, 0, 0, .null, rm_M0, []),
  (.aload 0, .aload_n 0, 1, 0, 0, 0, .null, rm_M0, []),
  (.getfield 17, .getfield 17, 3, 9, 0, 375, .null, rm_M0, []),
  (.dup, .dup, 1, 0, 0, 0, .null, rm_M0, []),
  (.getfield 44, .getfield 44, 3, 7, 6, 281, .null, rm_M0, []),
  (.nop, .iconst 1, 1, 0, 0, 0, .int 1, rm_M0, []),
  (.iadd, .iadd, 1, 0, 0, 0, .null, rm_M0, []),
  (.putfield 44, .putfield 44, 3, 7, 6, 281, .int 0, rm_M0, []),
  (.goto 41, .goto 41, 3, 66, 0, 0, .null, rm_M0, [])]
def bX9_passDay_28 : List rm_J := [
  (.aload 0, .aload_n 0, 1, 0, 0, 0, .null, rm_M0, []),
  (.aload 0, .aload_n 0, 1, 0, 0, 0, .null, rm_M0, []),
  (.getfield 17, .getfield 17, 3, 9, 0, 375, .null, rm_M0, []),
  (.invokevirtual 48, .invokevirtual 48, 3, 0, 0, 0, .null, mX7_openSet, [(0, 848), (0, 799), (0, 800)]),
  (.putfield 52, .putfield 52, 3, 9, 3, 381, .int 0, rm_M0, []),
  (.aload 0, .aload_n 0, 1, 0, 0, 0, .null, rm_M0, []),
  (.getfield 33, .getfield 33, 3, 9, 2, 380, .null, rm_M0, []),
  (.ifnonnull 10, .ifnonnull 10, 3, 53, 0, 0, .null, rm_M0, []),
  (.aload 0, .aload_n 0, 1, 0, 0, 0, .null, rm_M0, []),
  (.invokevirtual 55, .invokevirtual 55, 3, 0, 0, 0, .null, mX9_mostUrgent, [(0, 849), (0, 851), (0, 23)]),
  (.goto 7, .goto 7, 3, 57, 0, 0, .null, rm_M0, [])]
def bX9_passDay_53 : List rm_J := [
  (.aload 0, .aload_n 0, 1, 0, 0, 0, .null, rm_M0, []),
  (.invokevirtual 58, .invokevirtual 58, 3, 0, 0, 0, .null, mX9_mostAsked, [(0, 853), (0, 855), (0, 24)])]
def bX9_passDay_57 : List rm_J := [
  (.istore 1, .istore_n 1, 1, 0, 0, 0, .null, rm_M0, []),
  (.aload 0, .aload_n 0, 1, 0, 0, 0, .null, rm_M0, []),
  (.getfield 17, .getfield 17, 3, 9, 0, 375, .null, rm_M0, []),
  (.iload 1, .iload_n 1, 1, 0, 0, 0, .null, rm_M0, []),
  (.invokevirtual 61, .invokevirtual 61, 3, 0, 1, 0, .null, mX7_decide, [(0, 878), (0, 879), (0, 880)])]
def bX9_passDay_66 : List rm_J := [
  (.aload 0, .aload_n 0, 1, 0, 0, 0, .null, rm_M0, []),
  (.getfield 17, .getfield 17, 3, 9, 0, 375, .null, rm_M0, []),
  (.invokevirtual 65, .invokevirtual 65, 3, 0, 0, 0, .null, mX7_endDay, [(0, 889), (0, 890), (0, 891)]),
  (.iload 1, .iload_n 1, 1, 0, 0, 0, .null, rm_M0, []),
  (.ireturn, .ireturn, 1, 0, 0, 0, .null, rm_M0, [])]
def tX9_passDay : rm_P := [(0, bX9_passDay_0), (28, bX9_passDay_28), (53, bX9_passDay_53), (57, bX9_passDay_57), (66, bX9_passDay_66)]
theorem ok_X9_passDay_t : rm_okP mX9_passDay tX9_passDay = true := by decide +kernel
theorem ok_X9_passDay : rm_okM mX9_passDay tX9_passDay := ⟨ok_X9_passDay_t, List.forall_mem_cons.mpr ⟨cw_X7_isDayWasted, List.forall_mem_cons.mpr ⟨cw_X7_openSet, List.forall_mem_cons.mpr ⟨cw_X9_mostUrgent, List.forall_mem_cons.mpr ⟨cw_X9_mostAsked, List.forall_mem_cons.mpr ⟨cw_X7_decide, List.forall_mem_cons.mpr ⟨cw_X7_endDay, fun _ h => absurd h List.not_mem_nil⟩⟩⟩⟩⟩⟩⟩
theorem atX9_passDay_0 : rm_at tX9_passDay 0 = some bX9_passDay_0 := rfl
theorem atX9_passDay_28 : rm_at tX9_passDay 28 = some bX9_passDay_28 := rfl
theorem atX9_passDay_53 : rm_at tX9_passDay 53 = some bX9_passDay_53 := rfl
theorem atX9_passDay_57 : rm_at tX9_passDay 57 = some bX9_passDay_57 := rfl
theorem atX9_passDay_66 : rm_at tX9_passDay 66 = some bX9_passDay_66 := rfl
def bX9_passDays_0 : List rm_J := [
  (.nop, .iconst 0, 1, 0, 0, 0, .int 0, rm_M0, []),
  (.istore 2, .istore_n 2, 1, 0, 0, 0, .null, rm_M0, [])]
def bX9_passDays_2 : List rm_J := [
  (.iload 2, .iload_n 2, 1, 0, 0, 0, .null, rm_M0, []),
  (.iload 1, .iload_n 1, 1, 0, 0, 0, .null, rm_M0, []),
  (.if_icmp .ge 14, .if_icmp .ge 14, 3, 18, 0, 0, .null, rm_M0, []),
  (.aload 0, .aload_n 0, 1, 0, 0, 0, .null, rm_M0, []),
  (.invokevirtual 68, .invokevirtual 68, 3, 0, 0, 0, .null, mX9_passDay, [(0, 943), (0, 837), (0, 838)]),
  (.pop, .pop, 1, 0, 0, 0, .null, rm_M0, []),
  (.iinc 2 1, .iinc 2 1, 3, 0, 0, 0, .int 1, rm_M0, []),
  (.goto (-13), .goto (-13), 3, 2, 0, 0, .null, rm_M0, [])]
def bX9_passDays_18 : List rm_J := [
  (.return_, .return_, 1, 0, 0, 0, .null, rm_M0, [])]
def tX9_passDays : rm_P := [(0, bX9_passDays_0), (2, bX9_passDays_2), (18, bX9_passDays_18)]
theorem ok_X9_passDays_t : rm_okP mX9_passDays tX9_passDays = true := by decide +kernel
theorem ok_X9_passDays : rm_okM mX9_passDays tX9_passDays := ⟨ok_X9_passDays_t, List.forall_mem_cons.mpr ⟨cw_X9_passDay, fun _ h => absurd h List.not_mem_nil⟩⟩
theorem atX9_passDays_0 : rm_at tX9_passDays 0 = some bX9_passDays_0 := rfl
theorem atX9_passDays_2 : rm_at tX9_passDays 2 = some bX9_passDays_2 := rfl
theorem atX9_passDays_18 : rm_at tX9_passDays 18 = some bX9_passDays_18 := rfl
def bX9_balanceBehind_0 : List rm_J := [
  (.nop, .iconst 0, 1, 0, 0, 0, .int 0, rm_M0, []),
  (.istore 2, .istore_n 2, 1, 0, 0, 0, .null, rm_M0, [])]
def bX9_balanceBehind_2 : List rm_J := [
  (.iload 2, .iload_n 2, 1, 0, 0, 0, .null, rm_M0, []),
  (.iload 1, .iload_n 1, 1, 0, 0, 0, .null, rm_M0, []),
  (.if_icmp .ge 24, .if_icmp .ge 24, 3, 28, 0, 0, .null, rm_M0, []),
  (.aload 0, .aload_n 0, 1, 0, 0, 0, .null, rm_M0, []),
  (.getfield 17, .getfield 17, 3, 9, 0, 375, .null, rm_M0, []),
  (.invokevirtual 71, .invokevirtual 71, 3, 0, 0, 0, .null, mX7_isAllSettled, [(0, 984), (0, 985), (0, 986)]),
  (.ifCond .ne 14, .ifCond .ne 14, 3, 28, 0, 0, .null, rm_M0, []),
  (.aload 0, .aload_n 0, 1, 0, 0, 0, .null, rm_M0, []),
  (.invokevirtual 68, .invokevirtual 68, 3, 0, 0, 0, .null, mX9_passDay, [(0, 943), (0, 837), (0, 838)]),
  (.pop, .pop, 1, 0, 0, 0, .null, rm_M0, []),
  (.iinc 2 1, .iinc 2 1, 3, 0, 0, 0, .int 1, rm_M0, []),
  (.goto (-23), .goto (-23), 3, 2, 0, 0, .null, rm_M0, [])]
def bX9_balanceBehind_28 : List rm_J := [
  (.aload 0, .aload_n 0, 1, 0, 0, 0, .null, rm_M0, []),
  (.getfield 17, .getfield 17, 3, 9, 0, 375, .null, rm_M0, []),
  (.invokevirtual 74, .invokevirtual 74, 3, 0, 0, 0, .null, mX7_balance, [(0, 988), (0, 963), (0, 964)]),
  (.ireturn, .ireturn, 1, 0, 0, 0, .null, rm_M0, [])]
def tX9_balanceBehind : rm_P := [(0, bX9_balanceBehind_0), (2, bX9_balanceBehind_2), (28, bX9_balanceBehind_28)]
theorem ok_X9_balanceBehind_t : rm_okP mX9_balanceBehind tX9_balanceBehind = true := by decide +kernel
theorem ok_X9_balanceBehind : rm_okM mX9_balanceBehind tX9_balanceBehind := ⟨ok_X9_balanceBehind_t, List.forall_mem_cons.mpr ⟨cw_X7_isAllSettled, List.forall_mem_cons.mpr ⟨cw_X9_passDay, List.forall_mem_cons.mpr ⟨cw_X7_balance, fun _ h => absurd h List.not_mem_nil⟩⟩⟩⟩
theorem atX9_balanceBehind_0 : rm_at tX9_balanceBehind 0 = some bX9_balanceBehind_0 := rfl
theorem atX9_balanceBehind_2 : rm_at tX9_balanceBehind 2 = some bX9_balanceBehind_2 := rfl
theorem atX9_balanceBehind_28 : rm_at tX9_balanceBehind 28 = some bX9_balanceBehind_28 := rfl
def bX9_valueOf_0 : List rm_J := [
  (.iload 1, .iload_n 1, 1, 0, 0, 0, .null, rm_M0, []),
  (.tableswitch 205 0 11 #[63, 66, 77, 91, 105, 127, 146, 160, 169, 178, 187, 196], .tableswitch 205 0 11 #[63, 66, 77, 91, 105, 127, 146, 160, 169, 178, 187, 196], 63, 206, 0, 0, .null, rm_M0, [(0, 64), (1, 67), (2, 78), (3, 92), (4, 106), (5, 128), (6, 147), (7, 161), (8, 170), (9, 179), (10, 188), (11, 197)])]
def bX9_valueOf_64 : List rm_J := [
  (.iload 2, .iload_n 2, 1, 0, 0, 0, .null, rm_M0, []),
  (.i2l, .i2l, 1, 0, 0, 0, .null, rm_M0, []),
  (.lreturn, .lreturn, 1, 0, 0, 0, .null, rm_M0, [])]
def bX9_valueOf_67 : List rm_J := [
  (.aload 0, .aload_n 0, 1, 0, 0, 0, .null, rm_M0, []),
  (.getfield 17, .getfield 17, 3, 9, 0, 375, .null, rm_M0, []),
  (.getfield 77, .getfield 77, 3, 7, 11, 291, .null, rm_M0, []),
  (.iload 2, .iload_n 2, 1, 0, 0, 0, .null, rm_M0, []),
  (.iaload, .iaload, 1, 0, 0, 0, .null, rm_M0, []),
  (.i2l, .i2l, 1, 0, 0, 0, .null, rm_M0, []),
  (.lreturn, .lreturn, 1, 0, 0, 0, .null, rm_M0, [])]
def bX9_valueOf_78 : List rm_J := [
  (.aload 0, .aload_n 0, 1, 0, 0, 0, .null, rm_M0, []),
  (.getfield 17, .getfield 17, 3, 9, 0, 375, .null, rm_M0, []),
  (.getfield 81, .getfield 81, 3, 7, 0, 264, .null, rm_M0, []),
  (.getfield 85, .getfield 85, 3, 3, 6, 229, .null, rm_M0, []),
  (.iload 2, .iload_n 2, 1, 0, 0, 0, .null, rm_M0, []),
  (.iaload, .iaload, 1, 0, 0, 0, .null, rm_M0, []),
  (.i2l, .i2l, 1, 0, 0, 0, .null, rm_M0, []),
  (.lreturn, .lreturn, 1, 0, 0, 0, .null, rm_M0, [])]
def bX9_valueOf_92 : List rm_J := [
  (.aload 0, .aload_n 0, 1, 0, 0, 0, .null, rm_M0, []),
  (.getfield 17, .getfield 17, 3, 9, 0, 375, .null, rm_M0, []),
  (.getfield 81, .getfield 81, 3, 7, 0, 264, .null, rm_M0, []),
  (.getfield 88, .getfield 88, 3, 3, 7, 233, .null, rm_M0, []),
  (.iload 2, .iload_n 2, 1, 0, 0, 0, .null, rm_M0, []),
  (.iaload, .iaload, 1, 0, 0, 0, .null, rm_M0, []),
  (.i2l, .i2l, 1, 0, 0, 0, .null, rm_M0, []),
  (.lreturn, .lreturn, 1, 0, 0, 0, .null, rm_M0, [])]
def bX9_valueOf_106 : List rm_J := [
  (.aload 0, .aload_n 0, 1, 0, 0, 0, .null, rm_M0, []),
  (.getfield 17, .getfield 17, 3, 9, 0, 375, .null, rm_M0, []),
  (.getfield 81, .getfield 81, 3, 7, 0, 264, .null, rm_M0, []),
  (.getfield 88, .getfield 88, 3, 3, 7, 233, .null, rm_M0, []),
  (.iload 2, .iload_n 2, 1, 0, 0, 0, .null, rm_M0, []),
  (.iaload, .iaload, 1, 0, 0, 0, .null, rm_M0, []),
  (.aload 0, .aload_n 0, 1, 0, 0, 0, .null, rm_M0, []),
  (.getfield 17, .getfield 17, 3, 9, 0, 375, .null, rm_M0, []),
  (.getfield 91, .getfield 91, 3, 7, 2, 268, .null, rm_M0, []),
  (.isub, .isub, 1, 0, 0, 0, .null, rm_M0, []),
  (.i2l, .i2l, 1, 0, 0, 0, .null, rm_M0, []),
  (.lreturn, .lreturn, 1, 0, 0, 0, .null, rm_M0, [])]
def bX9_valueOf_128 : List rm_J := [
  (.aload 0, .aload_n 0, 1, 0, 0, 0, .null, rm_M0, []),
  (.getfield 17, .getfield 17, 3, 9, 0, 375, .null, rm_M0, []),
  (.getfield 94, .getfield 94, 3, 7, 12, 294, .null, rm_M0, []),
  (.iload 2, .iload_n 2, 1, 0, 0, 0, .null, rm_M0, []),
  (.iaload, .iaload, 1, 0, 0, 0, .null, rm_M0, []),
  (.aload 0, .aload_n 0, 1, 0, 0, 0, .null, rm_M0, []),
  (.getfield 52, .getfield 52, 3, 9, 3, 381, .null, rm_M0, []),
  (.iand, .iand, 1, 0, 0, 0, .null, rm_M0, []),
  (.invokestatic 97, .invokestatic 97, 3, 0, 1, 0, .null, mJ6_bitCount_0f7a4, [(0, 865), (0, 866)]),
  (.i2l, .i2l, 1, 0, 0, 0, .null, rm_M0, []),
  (.lreturn, .lreturn, 1, 0, 0, 0, .null, rm_M0, [])]
def bX9_valueOf_147 : List rm_J := [
  (.aload 0, .aload_n 0, 1, 0, 0, 0, .null, rm_M0, []),
  (.getfield 17, .getfield 17, 3, 9, 0, 375, .null, rm_M0, []),
  (.iload 2, .iload_n 2, 1, 0, 0, 0, .null, rm_M0, []),
  (.aload 0, .aload_n 0, 1, 0, 0, 0, .null, rm_M0, []),
  (.getfield 52, .getfield 52, 3, 9, 3, 381, .null, rm_M0, []),
  (.invokevirtual 103, .invokevirtual 103, 3, 0, 2, 0, .null, mX7_brings, [(0, 871), (0, 804), (0, 805)]),
  (.i2l, .i2l, 1, 0, 0, 0, .null, rm_M0, []),
  (.lreturn, .lreturn, 1, 0, 0, 0, .null, rm_M0, [])]
def bX9_valueOf_161 : List rm_J := [
  (.aload 0, .aload_n 0, 1, 0, 0, 0, .null, rm_M0, []),
  (.getfield 52, .getfield 52, 3, 9, 3, 381, .null, rm_M0, []),
  (.invokestatic 97, .invokestatic 97, 3, 0, 1, 0, .null, mJ6_bitCount_0f7a4, [(0, 865), (0, 866)]),
  (.i2l, .i2l, 1, 0, 0, 0, .null, rm_M0, []),
  (.lreturn, .lreturn, 1, 0, 0, 0, .null, rm_M0, [])]
def bX9_valueOf_170 : List rm_J := [
  (.aload 0, .aload_n 0, 1, 0, 0, 0, .null, rm_M0, []),
  (.getfield 17, .getfield 17, 3, 9, 0, 375, .null, rm_M0, []),
  (.getfield 107, .getfield 107, 3, 7, 3, 271, .null, rm_M0, []),
  (.i2l, .i2l, 1, 0, 0, 0, .null, rm_M0, []),
  (.lreturn, .lreturn, 1, 0, 0, 0, .null, rm_M0, [])]
def bX9_valueOf_179 : List rm_J := [
  (.aload 0, .aload_n 0, 1, 0, 0, 0, .null, rm_M0, []),
  (.getfield 17, .getfield 17, 3, 9, 0, 375, .null, rm_M0, []),
  (.getfield 110, .getfield 110, 3, 7, 4, 275, .null, rm_M0, []),
  (.i2l, .i2l, 1, 0, 0, 0, .null, rm_M0, []),
  (.lreturn, .lreturn, 1, 0, 0, 0, .null, rm_M0, [])]
def bX9_valueOf_188 : List rm_J := [
  (.aload 0, .aload_n 0, 1, 0, 0, 0, .null, rm_M0, []),
  (.getfield 17, .getfield 17, 3, 9, 0, 375, .null, rm_M0, []),
  (.getfield 113, .getfield 113, 3, 7, 5, 278, .null, rm_M0, []),
  (.i2l, .i2l, 1, 0, 0, 0, .null, rm_M0, []),
  (.lreturn, .lreturn, 1, 0, 0, 0, .null, rm_M0, [])]
def bX9_valueOf_197 : List rm_J := [
  (.aload 0, .aload_n 0, 1, 0, 0, 0, .null, rm_M0, []),
  (.getfield 17, .getfield 17, 3, 9, 0, 375, .null, rm_M0, []),
  (.getfield 44, .getfield 44, 3, 7, 6, 281, .null, rm_M0, []),
  (.i2l, .i2l, 1, 0, 0, 0, .null, rm_M0, []),
  (.lreturn, .lreturn, 1, 0, 0, 0, .null, rm_M0, [])]
def bX9_valueOf_206 : List rm_J := [
  (.aload 0, .aload_n 0, 1, 0, 0, 0, .null, rm_M0, []),
  (.getfield 17, .getfield 17, 3, 9, 0, 375, .null, rm_M0, []),
  (.getfield 91, .getfield 91, 3, 7, 2, 268, .null, rm_M0, []),
  (.i2l, .i2l, 1, 0, 0, 0, .null, rm_M0, []),
  (.lreturn, .lreturn, 1, 0, 0, 0, .null, rm_M0, [])]
def tX9_valueOf : rm_P := [(0, bX9_valueOf_0), (64, bX9_valueOf_64), (67, bX9_valueOf_67), (78, bX9_valueOf_78), (92, bX9_valueOf_92), (106, bX9_valueOf_106), (128, bX9_valueOf_128), (147, bX9_valueOf_147), (161, bX9_valueOf_161), (170, bX9_valueOf_170), (179, bX9_valueOf_179), (188, bX9_valueOf_188), (197, bX9_valueOf_197), (206, bX9_valueOf_206)]
theorem ok_X9_valueOf_t : rm_okP mX9_valueOf tX9_valueOf = true := by decide +kernel
theorem ok_X9_valueOf : rm_okM mX9_valueOf tX9_valueOf := ⟨ok_X9_valueOf_t, List.forall_mem_cons.mpr ⟨cw_J6_bitCount_0f7a4, List.forall_mem_cons.mpr ⟨cw_X7_brings, List.forall_mem_cons.mpr ⟨cw_J6_bitCount_0f7a4, fun _ h => absurd h List.not_mem_nil⟩⟩⟩⟩
theorem atX9_valueOf_0 : rm_at tX9_valueOf 0 = some bX9_valueOf_0 := rfl
theorem atX9_valueOf_64 : rm_at tX9_valueOf 64 = some bX9_valueOf_64 := rfl
theorem atX9_valueOf_67 : rm_at tX9_valueOf 67 = some bX9_valueOf_67 := rfl
theorem atX9_valueOf_78 : rm_at tX9_valueOf 78 = some bX9_valueOf_78 := rfl
theorem atX9_valueOf_92 : rm_at tX9_valueOf 92 = some bX9_valueOf_92 := rfl
theorem atX9_valueOf_106 : rm_at tX9_valueOf 106 = some bX9_valueOf_106 := rfl
theorem atX9_valueOf_128 : rm_at tX9_valueOf 128 = some bX9_valueOf_128 := rfl
theorem atX9_valueOf_147 : rm_at tX9_valueOf 147 = some bX9_valueOf_147 := rfl
theorem atX9_valueOf_161 : rm_at tX9_valueOf 161 = some bX9_valueOf_161 := rfl
theorem atX9_valueOf_170 : rm_at tX9_valueOf 170 = some bX9_valueOf_170 := rfl
theorem atX9_valueOf_179 : rm_at tX9_valueOf 179 = some bX9_valueOf_179 := rfl
theorem atX9_valueOf_188 : rm_at tX9_valueOf 188 = some bX9_valueOf_188 := rfl
theorem atX9_valueOf_197 : rm_at tX9_valueOf 197 = some bX9_valueOf_197 := rfl
theorem atX9_valueOf_206 : rm_at tX9_valueOf 206 = some bX9_valueOf_206 := rfl
def bX9_mostUrgent_0 : List rm_J := [
  (.nop, .iconst (-1), 1, 0, 0, 0, .int (-1), rm_M0, []),
  (.istore 1, .istore_n 1, 1, 0, 0, 0, .null, rm_M0, []),
  (.nop, .bipush 61, 2, 0, 0, 0, .int 61, rm_M0, []),
  (.istore 2, .istore_n 2, 1, 0, 0, 0, .null, rm_M0, []),
  (.nop, .iconst 0, 1, 0, 0, 0, .int 0, rm_M0, []),
  (.istore 3, .istore_n 3, 1, 0, 0, 0, .null, rm_M0, [])]
def bX9_mostUrgent_7 : List rm_J := [
  (.aload 0, .aload_n 0, 1, 0, 0, 0, .null, rm_M0, []),
  (.getfield 52, .getfield 52, 3, 9, 3, 381, .null, rm_M0, []),
  (.iload 3, .iload_n 3, 1, 0, 0, 0, .null, rm_M0, []),
  (.ishr, .ishr, 1, 0, 0, 0, .null, rm_M0, []),
  (.ifCond .eq 57, .ifCond .eq 57, 3, 70, 0, 0, .null, rm_M0, []),
  (.iload 3, .iload_n 3, 1, 0, 0, 0, .null, rm_M0, []),
  (.nop, .bipush 8, 2, 0, 0, 0, .int 8, rm_M0, []),
  (.if_icmp .ge 51, .if_icmp .ge 51, 3, 70, 0, 0, .null, rm_M0, []),
  (.aload 0, .aload_n 0, 1, 0, 0, 0, .null, rm_M0, []),
  (.getfield 52, .getfield 52, 3, 9, 3, 381, .null, rm_M0, []),
  (.iload 3, .iload_n 3, 1, 0, 0, 0, .null, rm_M0, []),
  (.ishr, .ishr, 1, 0, 0, 0, .null, rm_M0, []),
  (.nop, .iconst 1, 1, 0, 0, 0, .int 1, rm_M0, []),
  (.iand, .iand, 1, 0, 0, 0, .null, rm_M0, []),
  (.ifCond .eq 34, .ifCond .eq 34, 3, 64, 0, 0, .null, rm_M0, []),
  (.aload 0, .aload_n 0, 1, 0, 0, 0, .null, rm_M0, []),
  (.getfield 17, .getfield 17, 3, 9, 0, 375, .null, rm_M0, []),
  (.getfield 81, .getfield 81, 3, 7, 0, 264, .null, rm_M0, []),
  (.getfield 88, .getfield 88, 3, 3, 7, 233, .null, rm_M0, []),
  (.iload 3, .iload_n 3, 1, 0, 0, 0, .null, rm_M0, []),
  (.iaload, .iaload, 1, 0, 0, 0, .null, rm_M0, []),
  (.iload 2, .iload_n 2, 1, 0, 0, 0, .null, rm_M0, []),
  (.if_icmp .ge 18, .if_icmp .ge 18, 3, 64, 0, 0, .null, rm_M0, []),
  (.aload 0, .aload_n 0, 1, 0, 0, 0, .null, rm_M0, []),
  (.getfield 17, .getfield 17, 3, 9, 0, 375, .null, rm_M0, []),
  (.getfield 81, .getfield 81, 3, 7, 0, 264, .null, rm_M0, []),
  (.getfield 88, .getfield 88, 3, 3, 7, 233, .null, rm_M0, []),
  (.iload 3, .iload_n 3, 1, 0, 0, 0, .null, rm_M0, []),
  (.iaload, .iaload, 1, 0, 0, 0, .null, rm_M0, []),
  (.istore 2, .istore_n 2, 1, 0, 0, 0, .null, rm_M0, []),
  (.iload 3, .iload_n 3, 1, 0, 0, 0, .null, rm_M0, []),
  (.istore 1, .istore_n 1, 1, 0, 0, 0, .null, rm_M0, [])]
def bX9_mostUrgent_64 : List rm_J := [
  (.iinc 3 1, .iinc 3 1, 3, 0, 0, 0, .int 1, rm_M0, []),
  (.goto (-60), .goto (-60), 3, 7, 0, 0, .null, rm_M0, [])]
def bX9_mostUrgent_70 : List rm_J := [
  (.iload 1, .iload_n 1, 1, 0, 0, 0, .null, rm_M0, []),
  (.ireturn, .ireturn, 1, 0, 0, 0, .null, rm_M0, [])]
def tX9_mostUrgent : rm_P := [(0, bX9_mostUrgent_0), (7, bX9_mostUrgent_7), (64, bX9_mostUrgent_64), (70, bX9_mostUrgent_70)]
theorem ok_X9_mostUrgent_t : rm_okP mX9_mostUrgent tX9_mostUrgent = true := by decide +kernel
theorem ok_X9_mostUrgent : rm_okM mX9_mostUrgent tX9_mostUrgent := ⟨ok_X9_mostUrgent_t, fun _ h => absurd h List.not_mem_nil⟩
theorem atX9_mostUrgent_0 : rm_at tX9_mostUrgent 0 = some bX9_mostUrgent_0 := rfl
theorem atX9_mostUrgent_7 : rm_at tX9_mostUrgent 7 = some bX9_mostUrgent_7 := rfl
theorem atX9_mostUrgent_64 : rm_at tX9_mostUrgent 64 = some bX9_mostUrgent_64 := rfl
theorem atX9_mostUrgent_70 : rm_at tX9_mostUrgent 70 = some bX9_mostUrgent_70 := rfl
def bX9_mostAsked_0 : List rm_J := [
  (.nop, .iconst (-1), 1, 0, 0, 0, .int (-1), rm_M0, []),
  (.istore 1, .istore_n 1, 1, 0, 0, 0, .null, rm_M0, []),
  (.nop, .lconst 0, 1, 0, 0, 0, .long 0, rm_M0, []),
  (.lstore 2, .lstore_n 2, 1, 0, 0, 0, .null, rm_M0, []),
  (.nop, .iconst 0, 1, 0, 0, 0, .int 0, rm_M0, []),
  (.istore 4, .istore 4, 2, 0, 0, 0, .null, rm_M0, [])]
def bX9_mostAsked_7 : List rm_J := [
  (.aload 0, .aload_n 0, 1, 0, 0, 0, .null, rm_M0, []),
  (.getfield 52, .getfield 52, 3, 9, 3, 381, .null, rm_M0, []),
  (.iload 4, .iload 4, 2, 0, 0, 0, .null, rm_M0, []),
  (.ishr, .ishr, 1, 0, 0, 0, .null, rm_M0, []),
  (.ifCond .eq 60, .ifCond .eq 60, 3, 74, 0, 0, .null, rm_M0, []),
  (.iload 4, .iload 4, 2, 0, 0, 0, .null, rm_M0, []),
  (.nop, .bipush 8, 2, 0, 0, 0, .int 8, rm_M0, []),
  (.if_icmp .ge 53, .if_icmp .ge 53, 3, 74, 0, 0, .null, rm_M0, []),
  (.aload 0, .aload_n 0, 1, 0, 0, 0, .null, rm_M0, []),
  (.getfield 33, .getfield 33, 3, 9, 2, 380, .null, rm_M0, []),
  (.ifnull 46, .ifnull 46, 3, 74, 0, 0, .null, rm_M0, []),
  (.aload 0, .aload_n 0, 1, 0, 0, 0, .null, rm_M0, []),
  (.getfield 52, .getfield 52, 3, 9, 3, 381, .null, rm_M0, []),
  (.iload 4, .iload 4, 2, 0, 0, 0, .null, rm_M0, []),
  (.ishr, .ishr, 1, 0, 0, 0, .null, rm_M0, []),
  (.nop, .iconst 1, 1, 0, 0, 0, .int 1, rm_M0, []),
  (.iand, .iand, 1, 0, 0, 0, .null, rm_M0, []),
  (.ifCond .eq 28, .ifCond .eq 28, 3, 68, 0, 0, .null, rm_M0, []),
  (.aload 0, .aload_n 0, 1, 0, 0, 0, .null, rm_M0, []),
  (.getfield 33, .getfield 33, 3, 9, 2, 380, .null, rm_M0, []),
  (.iload 4, .iload 4, 2, 0, 0, 0, .null, rm_M0, []),
  (.aload 0, .aload_n 0, 1, 0, 0, 0, .null, rm_M0, []),
  (.invokevirtual 116, .invokevirtual 116, 3, 0, 2, 0, .null, mX5_sumFor, [(0, 857), (0, 858), (0, 859)]),
  (.lstore 5, .lstore 5, 2, 0, 0, 0, .null, rm_M0, []),
  (.lload 5, .lload 5, 2, 0, 0, 0, .null, rm_M0, []),
  (.lload 2, .lload_n 2, 1, 0, 0, 0, .null, rm_M0, []),
  (.lcmp, .lcmp, 1, 0, 0, 0, .null, rm_M0, []),
  (.ifCond .le 9, .ifCond .le 9, 3, 68, 0, 0, .null, rm_M0, []),
  (.lload 5, .lload 5, 2, 0, 0, 0, .null, rm_M0, []),
  (.lstore 2, .lstore_n 2, 1, 0, 0, 0, .null, rm_M0, []),
  (.iload 4, .iload 4, 2, 0, 0, 0, .null, rm_M0, []),
  (.istore 1, .istore_n 1, 1, 0, 0, 0, .null, rm_M0, [])]
def bX9_mostAsked_68 : List rm_J := [
  (.iinc 4 1, .iinc 4 1, 3, 0, 0, 0, .int 1, rm_M0, []),
  (.goto (-64), .goto (-64), 3, 7, 0, 0, .null, rm_M0, [])]
def bX9_mostAsked_74 : List rm_J := [
  (.iload 1, .iload_n 1, 1, 0, 0, 0, .null, rm_M0, []),
  (.ireturn, .ireturn, 1, 0, 0, 0, .null, rm_M0, [])]
def tX9_mostAsked : rm_P := [(0, bX9_mostAsked_0), (7, bX9_mostAsked_7), (68, bX9_mostAsked_68), (74, bX9_mostAsked_74)]
theorem ok_X9_mostAsked_t : rm_okP mX9_mostAsked tX9_mostAsked = true := by decide +kernel
theorem ok_X9_mostAsked : rm_okM mX9_mostAsked tX9_mostAsked := ⟨ok_X9_mostAsked_t, List.forall_mem_cons.mpr ⟨cw_X5_sumFor, fun _ h => absurd h List.not_mem_nil⟩⟩
theorem atX9_mostAsked_0 : rm_at tX9_mostAsked 0 = some bX9_mostAsked_0 := rfl
theorem atX9_mostAsked_7 : rm_at tX9_mostAsked 7 = some bX9_mostAsked_7 := rfl
theorem atX9_mostAsked_68 : rm_at tX9_mostAsked 68 = some bX9_mostAsked_68 := rfl
theorem atX9_mostAsked_74 : rm_at tX9_mostAsked 74 = some bX9_mostAsked_74 := rfl
