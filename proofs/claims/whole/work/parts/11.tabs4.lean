/-! Rows of OneDecision. Printed. -/
def bX11_init_0 : List rm_J := [
  (.aload 0, .aload_n 0, 1, 0, 0, 0, .null, rm_M0, []),
  (.jsr 0, .invokespecial 3, 3, 0, 0, 3, .null, rm_M0, [(0, 124), (0, 125), (0, 126)]),
  (.aload 0, .aload_n 0, 1, 0, 0, 0, .null, rm_M0, []),
  (.new 9, .new 9, 3, 8, 0, 0, .null, rm_M0, [(0, 127), (0, 128), (0, 98)]),
  (.dup, .dup, 1, 0, 0, 0, .null, rm_M0, []),
  (.invokespecial 11, .invokespecial 11, 3, 0, 0, 129, .null, mX8_init, [(0, 130)]),
  (.putfield 12, .putfield 12, 3, 11, 0, 449, .int 3, rm_M0, []),
  (.aload 0, .aload_n 0, 1, 0, 0, 0, .null, rm_M0, []),
  (.new 16, .new 16, 3, 6, 0, 0, .null, rm_M0, [(0, 164), (0, 165), (0, 99)]),
  (.dup, .dup, 1, 0, 0, 0, .null, rm_M0, []),
  (.invokespecial 18, .invokespecial 18, 3, 0, 0, 166, .null, mX6_init, [(0, 167)]),
  (.putfield 19, .putfield 19, 3, 11, 1, 450, .int 3, rm_M0, []),
  (.aload 0, .aload_n 0, 1, 0, 0, 0, .null, rm_M0, []),
  (.nop, .bipush 6, 2, 0, 0, 0, .int 6, rm_M0, []),
  (.anewarray 23, .anewarray 23, 3, 4, 0, 0, .null, rm_M0, [(0, 180)]),
  (.putfield 25, .putfield 25, 3, 11, 2, 451, .int 3, rm_M0, []),
  (.aload 0, .aload_n 0, 1, 0, 0, 0, .null, rm_M0, []),
  (.new 29, .new 29, 3, 0, 0, 0, .null, rm_M0, [(0, 182), (0, 183), (0, 100)]),
  (.dup, .dup, 1, 0, 0, 0, .null, rm_M0, []),
  (.invokespecial 31, .invokespecial 31, 3, 0, 0, 184, .null, mX0_init, [(0, 185)]),
  (.putfield 32, .putfield 32, 3, 11, 4, 453, .int 3, rm_M0, []),
  (.aload 0, .aload_n 0, 1, 0, 0, 0, .null, rm_M0, []),
  (.nop, .iconst 4, 1, 0, 0, 0, .int 4, rm_M0, []),
  (.anewarray 29, .anewarray 29, 3, 5, 0, 0, .null, rm_M0, [(0, 182)]),
  (.putfield 36, .putfield 36, 3, 11, 5, 454, .int 3, rm_M0, []),
  (.aload 0, .aload_n 0, 1, 0, 0, 0, .null, rm_M0, []),
  (.new 40, .new 40, 3, 9, 0, 0, .null, rm_M0, [(0, 365), (0, 366), (0, 105)]),
  (.dup, .dup, 1, 0, 0, 0, .null, rm_M0, []),
  (.invokespecial 42, .invokespecial 42, 3, 0, 0, 367, .null, mX9_init, [(0, 368)]),
  (.putfield 43, .putfield 43, 3, 11, 6, 455, .int 3, rm_M0, []),
  (.aload 0, .aload_n 0, 1, 0, 0, 0, .null, rm_M0, []),
  (.new 47, .new 47, 3, 4, 0, 0, .null, rm_M0, [(0, 392), (0, 393), (0, 106)]),
  (.dup, .dup, 1, 0, 0, 0, .null, rm_M0, []),
  (.invokespecial 49, .invokespecial 49, 3, 0, 0, 394, .null, mX4_init, [(0, 395)]),
  (.putfield 50, .putfield 50, 3, 11, 7, 456, .int 3, rm_M0, []),
  (.aload 0, .aload_n 0, 1, 0, 0, 0, .null, rm_M0, []),
  (.new 54, .new 54, 3, 10, 0, 0, .null, rm_M0, [(0, 420), (0, 421), (0, 107)]),
  (.dup, .dup, 1, 0, 0, 0, .null, rm_M0, []),
  (.invokespecial 56, .invokespecial 56, 3, 0, 0, 422, .null, mX10_init, [(0, 423)]),
  (.putfield 57, .putfield 57, 3, 11, 8, 457, .int 3, rm_M0, []),
  (.aload 0, .aload_n 0, 1, 0, 0, 0, .null, rm_M0, []),
  (.nop, .sipush 427, 3, 0, 0, 0, .int 427, rm_M0, []),
  (.newarray .int, .newarray .int, 2, 0, 0, 0, .null, rm_M0, [(0, 163)]),
  (.putfield 61, .putfield 61, 3, 11, 9, 458, .int 3, rm_M0, []),
  (.aload 0, .aload_n 0, 1, 0, 0, 0, .null, rm_M0, []),
  (.nop, .iconst 0, 1, 0, 0, 0, .int 0, rm_M0, []),
  (.putfield 65, .putfield 65, 3, 11, 3, 452, .int 0, rm_M0, []),
  (.return_, .return_, 1, 0, 0, 0, .null, rm_M0, [])]
def tX11_init : rm_P := [(0, bX11_init_0)]
theorem ok_X11_init_t : rm_okP mX11_init tX11_init = true := by decide +kernel
theorem ok_X11_init : rm_okM mX11_init tX11_init := ⟨ok_X11_init_t, List.forall_mem_cons.mpr ⟨cw_X8_init, List.forall_mem_cons.mpr ⟨cw_X6_init, List.forall_mem_cons.mpr ⟨cw_X0_init, List.forall_mem_cons.mpr ⟨cw_X9_init, List.forall_mem_cons.mpr ⟨cw_X4_init, List.forall_mem_cons.mpr ⟨cw_X10_init, fun _ h => absurd h List.not_mem_nil⟩⟩⟩⟩⟩⟩⟩
theorem atX11_init_0 : rm_at tX11_init 0 = some bX11_init_0 := rfl
def bX11_feed_0 : List rm_J := [
  (.aload 0, .aload_n 0, 1, 0, 0, 0, .null, rm_M0, []),
  (.getfield 12, .getfield 12, 3, 11, 0, 449, .null, rm_M0, []),
  (.getfield 69, .getfield 69, 3, 8, 1, 134, .null, rm_M0, []),
  (.nop, .bipush 20, 2, 0, 0, 0, .int 20, rm_M0, []),
  (.iadd, .iadd, 1, 0, 0, 0, .null, rm_M0, []),
  (.nop, .sipush 400, 3, 0, 0, 0, .int 400, rm_M0, []),
  (.if_icmp .le 5, .if_icmp .le 5, 3, 18, 0, 0, .null, rm_M0, []),
  (.nop, .iconst (-1), 1, 0, 0, 0, .int (-1), rm_M0, []),
  (.ireturn, .ireturn, 1, 0, 0, 0, .null, rm_M0, [])]
def bX11_feed_18 : List rm_J := [
  (.aload 0, .aload_n 0, 1, 0, 0, 0, .null, rm_M0, []),
  (.getfield 12, .getfield 12, 3, 11, 0, 449, .null, rm_M0, []),
  (.iload 1, .iload_n 1, 1, 0, 0, 0, .null, rm_M0, []),
  (.invokevirtual 72, .invokevirtual 72, 3, 0, 1, 0, .null, mX8_add, [(0, 484), (0, 485), (0, 486)]),
  (.aload 0, .aload_n 0, 1, 0, 0, 0, .null, rm_M0, []),
  (.getfield 12, .getfield 12, 3, 11, 0, 449, .null, rm_M0, []),
  (.iload 2, .iload_n 2, 1, 0, 0, 0, .null, rm_M0, []),
  (.invokevirtual 72, .invokevirtual 72, 3, 0, 1, 0, .null, mX8_add, [(0, 484), (0, 485), (0, 486)]),
  (.aload 0, .aload_n 0, 1, 0, 0, 0, .null, rm_M0, []),
  (.getfield 12, .getfield 12, 3, 11, 0, 449, .null, rm_M0, []),
  (.iload 3, .iload_n 3, 1, 0, 0, 0, .null, rm_M0, []),
  (.invokevirtual 72, .invokevirtual 72, 3, 0, 1, 0, .null, mX8_add, [(0, 484), (0, 485), (0, 486)]),
  (.aload 0, .aload_n 0, 1, 0, 0, 0, .null, rm_M0, []),
  (.getfield 12, .getfield 12, 3, 11, 0, 449, .null, rm_M0, []),
  (.iload 4, .iload 4, 2, 0, 0, 0, .null, rm_M0, []),
  (.invokevirtual 72, .invokevirtual 72, 3, 0, 1, 0, .null, mX8_add, [(0, 484), (0, 485), (0, 486)]),
  (.aload 0, .aload_n 0, 1, 0, 0, 0, .null, rm_M0, []),
  (.getfield 12, .getfield 12, 3, 11, 0, 449, .null, rm_M0, []),
  (.iload 5, .iload 5, 2, 0, 0, 0, .null, rm_M0, []),
  (.invokevirtual 72, .invokevirtual 72, 3, 0, 1, 0, .null, mX8_add, [(0, 484), (0, 485), (0, 486)]),
  (.aload 0, .aload_n 0, 1, 0, 0, 0, .null, rm_M0, []),
  (.getfield 12, .getfield 12, 3, 11, 0, 449, .null, rm_M0, []),
  (.getfield 69, .getfield 69, 3, 8, 1, 134, .null, rm_M0, []),
  (.ireturn, .ireturn, 1, 0, 0, 0, .null, rm_M0, [])]
def tX11_feed : rm_P := [(0, bX11_feed_0), (18, bX11_feed_18)]
theorem ok_X11_feed_t : rm_okP mX11_feed tX11_feed = true := by decide +kernel
theorem ok_X11_feed : rm_okM mX11_feed tX11_feed := ⟨ok_X11_feed_t, List.forall_mem_cons.mpr ⟨cw_X8_add, List.forall_mem_cons.mpr ⟨cw_X8_add, List.forall_mem_cons.mpr ⟨cw_X8_add, List.forall_mem_cons.mpr ⟨cw_X8_add, List.forall_mem_cons.mpr ⟨cw_X8_add, fun _ h => absurd h List.not_mem_nil⟩⟩⟩⟩⟩⟩
theorem atX11_feed_0 : rm_at tX11_feed 0 = some bX11_feed_0 := rfl
theorem atX11_feed_18 : rm_at tX11_feed 18 = some bX11_feed_18 := rfl
def bX11_end_0 : List rm_J := [
  (.iload 1, .iload_n 1, 1, 0, 0, 0, .null, rm_M0, []),
  (.ifCond .lt 14, .ifCond .lt 14, 3, 15, 0, 0, .null, rm_M0, []),
  (.iload 1, .iload_n 1, 1, 0, 0, 0, .null, rm_M0, []),
  (.aload 0, .aload_n 0, 1, 0, 0, 0, .null, rm_M0, []),
  (.getfield 12, .getfield 12, 3, 11, 0, 449, .null, rm_M0, []),
  (.getfield 69, .getfield 69, 3, 8, 1, 134, .null, rm_M0, []),
  (.if_icmp .le 5, .if_icmp .le 5, 3, 17, 0, 0, .null, rm_M0, [])]
def bX11_end_15 : List rm_J := [
  (.nop, .iconst (-1), 1, 0, 0, 0, .int (-1), rm_M0, []),
  (.ireturn, .ireturn, 1, 0, 0, 0, .null, rm_M0, [])]
def bX11_end_17 : List rm_J := [
  (.aload 0, .aload_n 0, 1, 0, 0, 0, .null, rm_M0, []),
  (.getfield 12, .getfield 12, 3, 11, 0, 449, .null, rm_M0, []),
  (.iload 1, .iload_n 1, 1, 0, 0, 0, .null, rm_M0, []),
  (.putfield 69, .putfield 69, 3, 8, 1, 134, .int 0, rm_M0, []),
  (.iload 1, .iload_n 1, 1, 0, 0, 0, .null, rm_M0, []),
  (.ireturn, .ireturn, 1, 0, 0, 0, .null, rm_M0, [])]
def tX11_end : rm_P := [(0, bX11_end_0), (15, bX11_end_15), (17, bX11_end_17)]
theorem ok_X11_end_t : rm_okP mX11_end tX11_end = true := by decide +kernel
theorem ok_X11_end : rm_okM mX11_end tX11_end := ⟨ok_X11_end_t, fun _ h => absurd h List.not_mem_nil⟩
theorem atX11_end_0 : rm_at tX11_end 0 = some bX11_end_0 := rfl
theorem atX11_end_15 : rm_at tX11_end 15 = some bX11_end_15 := rfl
theorem atX11_end_17 : rm_at tX11_end 17 = some bX11_end_17 := rfl
def bX11_realm_0 : List rm_J := [
  (.aload 0, .aload_n 0, 1, 0, 0, 0, .null, rm_M0, []),
  (.getfield 12, .getfield 12, 3, 11, 0, 449, .null, rm_M0, []),
  (.invokevirtual 76, .invokevirtual 76, 3, 0, 0, 0, .null, mX8_split, [(0, 496), (0, 497), (0, 498)]),
  (.new 79, .new 79, 3, 3, 0, 0, .null, rm_M0, [(0, 647), (0, 207), (0, 102)]),
  (.dup, .dup, 1, 0, 0, 0, .null, rm_M0, []),
  (.invokespecial 81, .invokespecial 81, 3, 0, 0, 648, .null, mX3_init, [(0, 209)]),
  (.astore 1, .astore_n 1, 1, 0, 0, 0, .null, rm_M0, []),
  (.aload 1, .aload_n 1, 1, 0, 0, 0, .null, rm_M0, []),
  (.aload 0, .aload_n 0, 1, 0, 0, 0, .null, rm_M0, []),
  (.getfield 12, .getfield 12, 3, 11, 0, 449, .null, rm_M0, []),
  (.invokevirtual 82, .invokevirtual 82, 3, 0, 1, 0, .null, mX3_readFrom, [(0, 649), (0, 650), (0, 651)]),
  (.aload 0, .aload_n 0, 1, 0, 0, 0, .null, rm_M0, []),
  (.getfield 12, .getfield 12, 3, 11, 0, 449, .null, rm_M0, []),
  (.nop, .iconst 0, 1, 0, 0, 0, .int 0, rm_M0, []),
  (.putfield 69, .putfield 69, 3, 8, 1, 134, .int 0, rm_M0, []),
  (.aload 0, .aload_n 0, 1, 0, 0, 0, .null, rm_M0, []),
  (.getfield 12, .getfield 12, 3, 11, 0, 449, .null, rm_M0, []),
  (.getfield 86, .getfield 86, 3, 8, 2, 139, .null, rm_M0, []),
  (.ifCond .eq 14, .ifCond .eq 14, 3, 52, 0, 0, .null, rm_M0, []),
  (.nop, .bipush (-2), 2, 0, 0, 0, .int (-2), rm_M0, []),
  (.aload 0, .aload_n 0, 1, 0, 0, 0, .null, rm_M0, []),
  (.getfield 12, .getfield 12, 3, 11, 0, 449, .null, rm_M0, []),
  (.getfield 86, .getfield 86, 3, 8, 2, 139, .null, rm_M0, []),
  (.isub, .isub, 1, 0, 0, 0, .null, rm_M0, []),
  (.ireturn, .ireturn, 1, 0, 0, 0, .null, rm_M0, [])]
def bX11_realm_52 : List rm_J := [
  (.aload 0, .aload_n 0, 1, 0, 0, 0, .null, rm_M0, []),
  (.getfield 32, .getfield 32, 3, 11, 4, 453, .null, rm_M0, []),
  (.aload 1, .aload_n 1, 1, 0, 0, 0, .null, rm_M0, []),
  (.invokevirtual 89, .invokevirtual 89, 3, 0, 1, 0, .null, mX0_begin, [(0, 691), (0, 692), (0, 693)]),
  (.aload 1, .aload_n 1, 1, 0, 0, 0, .null, rm_M0, []),
  (.getfield 93, .getfield 93, 3, 3, 3, 221, .null, rm_M0, []),
  (.ireturn, .ireturn, 1, 0, 0, 0, .null, rm_M0, [])]
def tX11_realm : rm_P := [(0, bX11_realm_0), (52, bX11_realm_52)]
theorem ok_X11_realm_t : rm_okP mX11_realm tX11_realm = true := by decide +kernel
theorem ok_X11_realm : rm_okM mX11_realm tX11_realm := ⟨ok_X11_realm_t, List.forall_mem_cons.mpr ⟨cw_X8_split, List.forall_mem_cons.mpr ⟨cw_X3_init, List.forall_mem_cons.mpr ⟨cw_X3_readFrom, List.forall_mem_cons.mpr ⟨cw_X0_begin, fun _ h => absurd h List.not_mem_nil⟩⟩⟩⟩⟩
theorem atX11_realm_0 : rm_at tX11_realm 0 = some bX11_realm_0 := rfl
theorem atX11_realm_52 : rm_at tX11_realm 52 = some bX11_realm_52 := rfl
def bX11_rule_0 : List rm_J := [
  (.aload 0, .aload_n 0, 1, 0, 0, 0, .null, rm_M0, []),
  (.getfield 65, .getfield 65, 3, 11, 3, 452, .null, rm_M0, []),
  (.nop, .bipush 6, 2, 0, 0, 0, .int 6, rm_M0, []),
  (.if_icmp .lt 5, .if_icmp .lt 5, 3, 11, 0, 0, .null, rm_M0, []),
  (.nop, .iconst (-1), 1, 0, 0, 0, .int (-1), rm_M0, []),
  (.ireturn, .ireturn, 1, 0, 0, 0, .null, rm_M0, [])]
def bX11_rule_11 : List rm_J := [
  (.aload 0, .aload_n 0, 1, 0, 0, 0, .null, rm_M0, []),
  (.getfield 12, .getfield 12, 3, 11, 0, 449, .null, rm_M0, []),
  (.invokevirtual 76, .invokevirtual 76, 3, 0, 0, 0, .null, mX8_split, [(0, 496), (0, 497), (0, 498)]),
  (.aload 0, .aload_n 0, 1, 0, 0, 0, .null, rm_M0, []),
  (.getfield 19, .getfield 19, 3, 11, 1, 450, .null, rm_M0, []),
  (.aload 0, .aload_n 0, 1, 0, 0, 0, .null, rm_M0, []),
  (.getfield 12, .getfield 12, 3, 11, 0, 449, .null, rm_M0, []),
  (.invokevirtual 96, .invokevirtual 96, 3, 0, 1, 0, .null, mX6_read, [(0, 706), (0, 707), (0, 708)]),
  (.astore 1, .astore_n 1, 1, 0, 0, 0, .null, rm_M0, []),
  (.aload 0, .aload_n 0, 1, 0, 0, 0, .null, rm_M0, []),
  (.getfield 12, .getfield 12, 3, 11, 0, 449, .null, rm_M0, []),
  (.nop, .iconst 0, 1, 0, 0, 0, .int 0, rm_M0, []),
  (.putfield 69, .putfield 69, 3, 8, 1, 134, .int 0, rm_M0, []),
  (.aload 0, .aload_n 0, 1, 0, 0, 0, .null, rm_M0, []),
  (.getfield 12, .getfield 12, 3, 11, 0, 449, .null, rm_M0, []),
  (.getfield 86, .getfield 86, 3, 8, 2, 139, .null, rm_M0, []),
  (.ifCond .eq 14, .ifCond .eq 14, 3, 59, 0, 0, .null, rm_M0, []),
  (.nop, .bipush (-2), 2, 0, 0, 0, .int (-2), rm_M0, []),
  (.aload 0, .aload_n 0, 1, 0, 0, 0, .null, rm_M0, []),
  (.getfield 12, .getfield 12, 3, 11, 0, 449, .null, rm_M0, []),
  (.getfield 86, .getfield 86, 3, 8, 2, 139, .null, rm_M0, []),
  (.isub, .isub, 1, 0, 0, 0, .null, rm_M0, []),
  (.ireturn, .ireturn, 1, 0, 0, 0, .null, rm_M0, [])]
def bX11_rule_59 : List rm_J := [
  (.aload 0, .aload_n 0, 1, 0, 0, 0, .null, rm_M0, []),
  (.getfield 25, .getfield 25, 3, 11, 2, 451, .null, rm_M0, []),
  (.aload 0, .aload_n 0, 1, 0, 0, 0, .null, rm_M0, []),
  (.getfield 65, .getfield 65, 3, 11, 3, 452, .null, rm_M0, []),
  (.aload 1, .aload_n 1, 1, 0, 0, 0, .null, rm_M0, []),
  (.aastore, .aastore, 1, 0, 0, 0, .null, rm_M0, []),
  (.aload 0, .aload_n 0, 1, 0, 0, 0, .null, rm_M0, []),
  (.dup, .dup, 1, 0, 0, 0, .null, rm_M0, []),
  (.getfield 65, .getfield 65, 3, 11, 3, 452, .null, rm_M0, []),
  (.nop, .iconst 1, 1, 0, 0, 0, .int 1, rm_M0, []),
  (.iadd, .iadd, 1, 0, 0, 0, .null, rm_M0, []),
  (.putfield 65, .putfield 65, 3, 11, 3, 452, .int 0, rm_M0, []),
  (.aload 0, .aload_n 0, 1, 0, 0, 0, .null, rm_M0, []),
  (.getfield 65, .getfield 65, 3, 11, 3, 452, .null, rm_M0, []),
  (.nop, .iconst 1, 1, 0, 0, 0, .int 1, rm_M0, []),
  (.isub, .isub, 1, 0, 0, 0, .null, rm_M0, []),
  (.ireturn, .ireturn, 1, 0, 0, 0, .null, rm_M0, [])]
def tX11_rule : rm_P := [(0, bX11_rule_0), (11, bX11_rule_11), (59, bX11_rule_59)]
theorem ok_X11_rule_t : rm_okP mX11_rule tX11_rule = true := by decide +kernel
theorem ok_X11_rule : rm_okM mX11_rule tX11_rule := ⟨ok_X11_rule_t, List.forall_mem_cons.mpr ⟨cw_X8_split, List.forall_mem_cons.mpr ⟨cw_X6_read, fun _ h => absurd h List.not_mem_nil⟩⟩⟩
theorem atX11_rule_0 : rm_at tX11_rule 0 = some bX11_rule_0 := rfl
theorem atX11_rule_11 : rm_at tX11_rule 11 = some bX11_rule_11 := rfl
theorem atX11_rule_59 : rm_at tX11_rule 59 = some bX11_rule_59 := rfl
def bX11_force_0 : List rm_J := [
  (.aload 0, .aload_n 0, 1, 0, 0, 0, .null, rm_M0, []),
  (.iload 1, .iload_n 1, 1, 0, 0, 0, .null, rm_M0, []),
  (.invokevirtual 100, .invokevirtual 100, 3, 0, 1, 0, .null, mX11_isRuleOrNone, [(0, 772), (0, 774), (0, 18)]),
  (.ifCond .ne 6, .ifCond .ne 6, 3, 11, 0, 0, .null, rm_M0, []),
  (.nop, .bipush (-2), 2, 0, 0, 0, .int (-2), rm_M0, []),
  (.ireturn, .ireturn, 1, 0, 0, 0, .null, rm_M0, [])]
def bX11_force_11 : List rm_J := [
  (.aload 0, .aload_n 0, 1, 0, 0, 0, .null, rm_M0, []),
  (.getfield 32, .getfield 32, 3, 11, 4, 453, .null, rm_M0, []),
  (.getfield 104, .getfield 104, 3, 0, 3, 350, .null, rm_M0, []),
  (.istore 2, .istore_n 2, 1, 0, 0, 0, .null, rm_M0, []),
  (.aload 0, .aload_n 0, 1, 0, 0, 0, .null, rm_M0, []),
  (.getfield 32, .getfield 32, 3, 11, 4, 453, .null, rm_M0, []),
  (.iload 1, .iload_n 1, 1, 0, 0, 0, .null, rm_M0, []),
  (.putfield 104, .putfield 104, 3, 0, 3, 350, .int 0, rm_M0, []),
  (.iload 2, .iload_n 2, 1, 0, 0, 0, .null, rm_M0, []),
  (.ireturn, .ireturn, 1, 0, 0, 0, .null, rm_M0, [])]
def tX11_force : rm_P := [(0, bX11_force_0), (11, bX11_force_11)]
theorem ok_X11_force_t : rm_okP mX11_force tX11_force = true := by decide +kernel
theorem ok_X11_force : rm_okM mX11_force tX11_force := ⟨ok_X11_force_t, List.forall_mem_cons.mpr ⟨cw_X11_isRuleOrNone, fun _ h => absurd h List.not_mem_nil⟩⟩
theorem atX11_force_0 : rm_at tX11_force 0 = some bX11_force_0 := rfl
theorem atX11_force_11 : rm_at tX11_force 11 = some bX11_force_11 := rfl
def bX11_question_0 : List rm_J := [
  (.aload 0, .aload_n 0, 1, 0, 0, 0, .null, rm_M0, []),
  (.iload 1, .iload_n 1, 1, 0, 0, 0, .null, rm_M0, []),
  (.invokevirtual 107, .invokevirtual 107, 3, 0, 1, 0, .null, mX11_isQuestion, [(0, 780), (0, 782), (0, 19)]),
  (.ifCond .ne 5, .ifCond .ne 5, 3, 10, 0, 0, .null, rm_M0, []),
  (.nop, .iconst (-1), 1, 0, 0, 0, .int (-1), rm_M0, []),
  (.ireturn, .ireturn, 1, 0, 0, 0, .null, rm_M0, [])]
def bX11_question_10 : List rm_J := [
  (.aload 0, .aload_n 0, 1, 0, 0, 0, .null, rm_M0, []),
  (.getfield 32, .getfield 32, 3, 11, 4, 453, .null, rm_M0, []),
  (.getfield 110, .getfield 110, 3, 0, 0, 344, .null, rm_M0, []),
  (.astore 3, .astore_n 3, 1, 0, 0, 0, .null, rm_M0, []),
  (.iload 2, .iload_n 2, 1, 0, 0, 0, .null, rm_M0, []),
  (.tableswitch 117 0 6 #[41, 48, 58, 68, 74, 88, 95], .tableswitch 117 0 6 #[41, 48, 58, 68, 74, 88, 95], 41, 136, 0, 0, .null, rm_M0, [(0, 60), (1, 67), (2, 77), (3, 87), (4, 93), (5, 107), (6, 114)])]
def bX11_question_60 : List rm_J := [
  (.aload 3, .aload_n 3, 1, 0, 0, 0, .null, rm_M0, []),
  (.getfield 114, .getfield 114, 3, 7, 11, 290, .null, rm_M0, []),
  (.iload 1, .iload_n 1, 1, 0, 0, 0, .null, rm_M0, []),
  (.iaload, .iaload, 1, 0, 0, 0, .null, rm_M0, []),
  (.ireturn, .ireturn, 1, 0, 0, 0, .null, rm_M0, [])]
def bX11_question_67 : List rm_J := [
  (.aload 3, .aload_n 3, 1, 0, 0, 0, .null, rm_M0, []),
  (.getfield 119, .getfield 119, 3, 7, 0, 263, .null, rm_M0, []),
  (.getfield 123, .getfield 123, 3, 3, 6, 228, .null, rm_M0, []),
  (.iload 1, .iload_n 1, 1, 0, 0, 0, .null, rm_M0, []),
  (.iaload, .iaload, 1, 0, 0, 0, .null, rm_M0, []),
  (.ireturn, .ireturn, 1, 0, 0, 0, .null, rm_M0, [])]
def bX11_question_77 : List rm_J := [
  (.aload 3, .aload_n 3, 1, 0, 0, 0, .null, rm_M0, []),
  (.getfield 119, .getfield 119, 3, 7, 0, 263, .null, rm_M0, []),
  (.getfield 126, .getfield 126, 3, 3, 7, 232, .null, rm_M0, []),
  (.iload 1, .iload_n 1, 1, 0, 0, 0, .null, rm_M0, []),
  (.iaload, .iaload, 1, 0, 0, 0, .null, rm_M0, []),
  (.ireturn, .ireturn, 1, 0, 0, 0, .null, rm_M0, [])]
def bX11_question_87 : List rm_J := [
  (.aload 3, .aload_n 3, 1, 0, 0, 0, .null, rm_M0, []),
  (.iload 1, .iload_n 1, 1, 0, 0, 0, .null, rm_M0, []),
  (.invokevirtual 129, .invokevirtual 129, 3, 0, 1, 0, .null, mX7_becameOf, [(0, 785), (0, 786), (0, 787)]),
  (.ireturn, .ireturn, 1, 0, 0, 0, .null, rm_M0, [])]
def bX11_question_93 : List rm_J := [
  (.aload 3, .aload_n 3, 1, 0, 0, 0, .null, rm_M0, []),
  (.iload 1, .iload_n 1, 1, 0, 0, 0, .null, rm_M0, []),
  (.invokevirtual 133, .invokevirtual 133, 3, 0, 1, 0, .null, mX7_isOpen, [(0, 793), (0, 794), (0, 795)]),
  (.ifCond .eq 7, .ifCond .eq 7, 3, 105, 0, 0, .null, rm_M0, []),
  (.nop, .iconst 1, 1, 0, 0, 0, .int 1, rm_M0, []),
  (.goto 4, .goto 4, 3, 106, 0, 0, .null, rm_M0, [])]
def bX11_question_105 : List rm_J := [
  (.nop, .iconst 0, 1, 0, 0, 0, .int 0, rm_M0, [])]
def bX11_question_106 : List rm_J := [
  (.ireturn, .ireturn, 1, 0, 0, 0, .null, rm_M0, [])]
def bX11_question_107 : List rm_J := [
  (.aload 3, .aload_n 3, 1, 0, 0, 0, .null, rm_M0, []),
  (.getfield 136, .getfield 136, 3, 7, 12, 293, .null, rm_M0, []),
  (.iload 1, .iload_n 1, 1, 0, 0, 0, .null, rm_M0, []),
  (.iaload, .iaload, 1, 0, 0, 0, .null, rm_M0, []),
  (.ireturn, .ireturn, 1, 0, 0, 0, .null, rm_M0, [])]
def bX11_question_114 : List rm_J := [
  (.aload 3, .aload_n 3, 1, 0, 0, 0, .null, rm_M0, []),
  (.iload 1, .iload_n 1, 1, 0, 0, 0, .null, rm_M0, []),
  (.invokevirtual 133, .invokevirtual 133, 3, 0, 1, 0, .null, mX7_isOpen, [(0, 793), (0, 794), (0, 795)]),
  (.ifCond .eq 15, .ifCond .eq 15, 3, 134, 0, 0, .null, rm_M0, []),
  (.aload 3, .aload_n 3, 1, 0, 0, 0, .null, rm_M0, []),
  (.iload 1, .iload_n 1, 1, 0, 0, 0, .null, rm_M0, []),
  (.aload 3, .aload_n 3, 1, 0, 0, 0, .null, rm_M0, []),
  (.invokevirtual 139, .invokevirtual 139, 3, 0, 0, 0, .null, mX7_openSet, [(0, 802), (0, 799), (0, 800)]),
  (.invokevirtual 143, .invokevirtual 143, 3, 0, 2, 0, .null, mX7_brings, [(0, 803), (0, 804), (0, 805)]),
  (.goto 4, .goto 4, 3, 135, 0, 0, .null, rm_M0, [])]
def bX11_question_134 : List rm_J := [
  (.nop, .iconst 0, 1, 0, 0, 0, .int 0, rm_M0, [])]
def bX11_question_135 : List rm_J := [
  (.ireturn, .ireturn, 1, 0, 0, 0, .null, rm_M0, [])]
def bX11_question_136 : List rm_J := [
  (.nop, .iconst (-1), 1, 0, 0, 0, .int (-1), rm_M0, []),
  (.ireturn, .ireturn, 1, 0, 0, 0, .null, rm_M0, [])]
def tX11_question : rm_P := [(0, bX11_question_0), (10, bX11_question_10), (60, bX11_question_60), (67, bX11_question_67), (77, bX11_question_77), (87, bX11_question_87), (93, bX11_question_93), (105, bX11_question_105), (106, bX11_question_106), (107, bX11_question_107), (114, bX11_question_114), (134, bX11_question_134), (135, bX11_question_135), (136, bX11_question_136)]
theorem ok_X11_question_t : rm_okP mX11_question tX11_question = true := by decide +kernel
theorem ok_X11_question : rm_okM mX11_question tX11_question := ⟨ok_X11_question_t, List.forall_mem_cons.mpr ⟨cw_X11_isQuestion, List.forall_mem_cons.mpr ⟨cw_X7_becameOf, List.forall_mem_cons.mpr ⟨cw_X7_isOpen, List.forall_mem_cons.mpr ⟨cw_X7_isOpen, List.forall_mem_cons.mpr ⟨cw_X7_openSet, List.forall_mem_cons.mpr ⟨cw_X7_brings, fun _ h => absurd h List.not_mem_nil⟩⟩⟩⟩⟩⟩⟩
theorem atX11_question_0 : rm_at tX11_question 0 = some bX11_question_0 := rfl
theorem atX11_question_10 : rm_at tX11_question 10 = some bX11_question_10 := rfl
theorem atX11_question_60 : rm_at tX11_question 60 = some bX11_question_60 := rfl
theorem atX11_question_67 : rm_at tX11_question 67 = some bX11_question_67 := rfl
theorem atX11_question_77 : rm_at tX11_question 77 = some bX11_question_77 := rfl
theorem atX11_question_87 : rm_at tX11_question 87 = some bX11_question_87 := rfl
theorem atX11_question_93 : rm_at tX11_question 93 = some bX11_question_93 := rfl
theorem atX11_question_105 : rm_at tX11_question 105 = some bX11_question_105 := rfl
theorem atX11_question_106 : rm_at tX11_question 106 = some bX11_question_106 := rfl
theorem atX11_question_107 : rm_at tX11_question 107 = some bX11_question_107 := rfl
theorem atX11_question_114 : rm_at tX11_question 114 = some bX11_question_114 := rfl
theorem atX11_question_134 : rm_at tX11_question 134 = some bX11_question_134 := rfl
theorem atX11_question_135 : rm_at tX11_question 135 = some bX11_question_135 := rfl
theorem atX11_question_136 : rm_at tX11_question 136 = some bX11_question_136 := rfl
def bX11_day_0 : List rm_J := [
  (.aload 0, .aload_n 0, 1, 0, 0, 0, .null, rm_M0, []),
  (.getfield 32, .getfield 32, 3, 11, 4, 453, .null, rm_M0, []),
  (.getfield 110, .getfield 110, 3, 0, 0, 344, .null, rm_M0, []),
  (.astore 1, .astore_n 1, 1, 0, 0, 0, .null, rm_M0, []),
  (.aload 1, .aload_n 1, 1, 0, 0, 0, .null, rm_M0, []),
  (.getfield 119, .getfield 119, 3, 7, 0, 263, .null, rm_M0, []),
  (.getfield 147, .getfield 147, 3, 3, 0, 213, .null, rm_M0, []),
  (.ifCond .eq 13, .ifCond .eq 13, 3, 28, 0, 0, .null, rm_M0, []),
  (.aload 1, .aload_n 1, 1, 0, 0, 0, .null, rm_M0, []),
  (.getfield 151, .getfield 151, 3, 7, 2, 269, .null, rm_M0, []),
  (.nop, .sipush 999, 3, 0, 0, 0, .int 999, rm_M0, []),
  (.if_icmp .lt 6, .if_icmp .lt 6, 3, 31, 0, 0, .null, rm_M0, [])]
def bX11_day_28 : List rm_J := [
  (.nop, .bipush (-2), 2, 0, 0, 0, .int (-2), rm_M0, []),
  (.ireturn, .ireturn, 1, 0, 0, 0, .null, rm_M0, [])]
def bX11_day_31 : List rm_J := [
  (.aload 0, .aload_n 0, 1, 0, 0, 0, .null, rm_M0, []),
  (.getfield 32, .getfield 32, 3, 11, 4, 453, .null, rm_M0, []),
  (.getfield 154, .getfield 154, 3, 0, 1, 346, .null, rm_M0, []),
  (.aload 1, .aload_n 1, 1, 0, 0, 0, .null, rm_M0, []),
  (.invokevirtual 158, .invokevirtual 158, 3, 0, 1, 0, .null, mX2_push, [(0, 811), (0, 812), (0, 813)]),
  (.aload 0, .aload_n 0, 1, 0, 0, 0, .null, rm_M0, []),
  (.getfield 43, .getfield 43, 3, 11, 6, 455, .null, rm_M0, []),
  (.aload 1, .aload_n 1, 1, 0, 0, 0, .null, rm_M0, []),
  (.aload 0, .aload_n 0, 1, 0, 0, 0, .null, rm_M0, []),
  (.invokevirtual 164, .invokevirtual 164, 3, 0, 0, 0, .null, mX11_ruleInForce, [(0, 823), (0, 825), (0, 21)]),
  (.invokevirtual 168, .invokevirtual 168, 3, 0, 2, 0, .null, mX9_start, [(0, 831), (0, 832), (0, 833)]),
  (.aload 0, .aload_n 0, 1, 0, 0, 0, .null, rm_M0, []),
  (.getfield 43, .getfield 43, 3, 11, 6, 455, .null, rm_M0, []),
  (.invokevirtual 172, .invokevirtual 172, 3, 0, 0, 0, .null, mX9_passDay, [(0, 836), (0, 837), (0, 838)]),
  (.istore 2, .istore_n 2, 1, 0, 0, 0, .null, rm_M0, []),
  (.aload 1, .aload_n 1, 1, 0, 0, 0, .null, rm_M0, []),
  (.aload 0, .aload_n 0, 1, 0, 0, 0, .null, rm_M0, []),
  (.getfield 43, .getfield 43, 3, 11, 6, 455, .null, rm_M0, []),
  (.getfield 175, .getfield 175, 3, 9, 0, 377, .null, rm_M0, []),
  (.invokevirtual 176, .invokevirtual 176, 3, 0, 1, 0, .null, mX7_copyFrom, [(0, 893), (0, 820), (0, 821)]),
  (.iload 2, .iload_n 2, 1, 0, 0, 0, .null, rm_M0, []),
  (.ireturn, .ireturn, 1, 0, 0, 0, .null, rm_M0, [])]
def tX11_day : rm_P := [(0, bX11_day_0), (28, bX11_day_28), (31, bX11_day_31)]
theorem ok_X11_day_t : rm_okP mX11_day tX11_day = true := by decide +kernel
theorem ok_X11_day : rm_okM mX11_day tX11_day := ⟨ok_X11_day_t, List.forall_mem_cons.mpr ⟨cw_X2_push, List.forall_mem_cons.mpr ⟨cw_X11_ruleInForce, List.forall_mem_cons.mpr ⟨cw_X9_start, List.forall_mem_cons.mpr ⟨cw_X9_passDay, List.forall_mem_cons.mpr ⟨cw_X7_copyFrom, fun _ h => absurd h List.not_mem_nil⟩⟩⟩⟩⟩⟩
theorem atX11_day_0 : rm_at tX11_day 0 = some bX11_day_0 := rfl
theorem atX11_day_28 : rm_at tX11_day 28 = some bX11_day_28 := rfl
theorem atX11_day_31 : rm_at tX11_day 31 = some bX11_day_31 := rfl
def bX11_use_0 : List rm_J := [
  (.aload 0, .aload_n 0, 1, 0, 0, 0, .null, rm_M0, []),
  (.getfield 32, .getfield 32, 3, 11, 4, 453, .null, rm_M0, []),
  (.getfield 110, .getfield 110, 3, 0, 0, 344, .null, rm_M0, []),
  (.astore 2, .astore_n 2, 1, 0, 0, 0, .null, rm_M0, []),
  (.aload 2, .aload_n 2, 1, 0, 0, 0, .null, rm_M0, []),
  (.getfield 179, .getfield 179, 3, 7, 3, 272, .null, rm_M0, []),
  (.nop, .iconst 1, 1, 0, 0, 0, .int 1, rm_M0, []),
  (.if_icmp .lt 11, .if_icmp .lt 11, 3, 24, 0, 0, .null, rm_M0, []),
  (.aload 2, .aload_n 2, 1, 0, 0, 0, .null, rm_M0, []),
  (.iload 1, .iload_n 1, 1, 0, 0, 0, .null, rm_M0, []),
  (.invokevirtual 133, .invokevirtual 133, 3, 0, 1, 0, .null, mX7_isOpen, [(0, 793), (0, 794), (0, 795)]),
  (.ifCond .ne 5, .ifCond .ne 5, 3, 26, 0, 0, .null, rm_M0, [])]
def bX11_use_24 : List rm_J := [
  (.nop, .iconst (-1), 1, 0, 0, 0, .int (-1), rm_M0, []),
  (.ireturn, .ireturn, 1, 0, 0, 0, .null, rm_M0, [])]
def bX11_use_26 : List rm_J := [
  (.aload 0, .aload_n 0, 1, 0, 0, 0, .null, rm_M0, []),
  (.getfield 32, .getfield 32, 3, 11, 4, 453, .null, rm_M0, []),
  (.getfield 154, .getfield 154, 3, 0, 1, 346, .null, rm_M0, []),
  (.aload 2, .aload_n 2, 1, 0, 0, 0, .null, rm_M0, []),
  (.invokevirtual 158, .invokevirtual 158, 3, 0, 1, 0, .null, mX2_push, [(0, 811), (0, 812), (0, 813)]),
  (.aload 2, .aload_n 2, 1, 0, 0, 0, .null, rm_M0, []),
  (.dup, .dup, 1, 0, 0, 0, .null, rm_M0, []),
  (.getfield 179, .getfield 179, 3, 7, 3, 272, .null, rm_M0, []),
  (.nop, .iconst 1, 1, 0, 0, 0, .int 1, rm_M0, []),
  (.isub, .isub, 1, 0, 0, 0, .null, rm_M0, []),
  (.putfield 179, .putfield 179, 3, 7, 3, 272, .int 0, rm_M0, []),
  (.aload 2, .aload_n 2, 1, 0, 0, 0, .null, rm_M0, []),
  (.iload 1, .iload_n 1, 1, 0, 0, 0, .null, rm_M0, []),
  (.invokevirtual 182, .invokevirtual 182, 3, 0, 1, 0, .null, mX7_answer, [(0, 898), (0, 883), (0, 884)]),
  (.ireturn, .ireturn, 1, 0, 0, 0, .null, rm_M0, [])]
def tX11_use : rm_P := [(0, bX11_use_0), (24, bX11_use_24), (26, bX11_use_26)]
theorem ok_X11_use_t : rm_okP mX11_use tX11_use = true := by decide +kernel
theorem ok_X11_use : rm_okM mX11_use tX11_use := ⟨ok_X11_use_t, List.forall_mem_cons.mpr ⟨cw_X7_isOpen, List.forall_mem_cons.mpr ⟨cw_X2_push, List.forall_mem_cons.mpr ⟨cw_X7_answer, fun _ h => absurd h List.not_mem_nil⟩⟩⟩⟩
theorem atX11_use_0 : rm_at tX11_use 0 = some bX11_use_0 := rfl
theorem atX11_use_24 : rm_at tX11_use 24 = some bX11_use_24 := rfl
theorem atX11_use_26 : rm_at tX11_use 26 = some bX11_use_26 := rfl
def bX11_egg_0 : List rm_J := [
  (.aload 0, .aload_n 0, 1, 0, 0, 0, .null, rm_M0, []),
  (.getfield 32, .getfield 32, 3, 11, 4, 453, .null, rm_M0, []),
  (.getfield 110, .getfield 110, 3, 0, 0, 344, .null, rm_M0, []),
  (.astore 1, .astore_n 1, 1, 0, 0, 0, .null, rm_M0, []),
  (.aload 1, .aload_n 1, 1, 0, 0, 0, .null, rm_M0, []),
  (.getfield 119, .getfield 119, 3, 7, 0, 263, .null, rm_M0, []),
  (.getfield 147, .getfield 147, 3, 3, 0, 213, .null, rm_M0, []),
  (.ifCond .eq 10, .ifCond .eq 10, 3, 25, 0, 0, .null, rm_M0, []),
  (.aload 1, .aload_n 1, 1, 0, 0, 0, .null, rm_M0, []),
  (.getfield 185, .getfield 185, 3, 7, 7, 284, .null, rm_M0, []),
  (.ifCond .eq 5, .ifCond .eq 5, 3, 27, 0, 0, .null, rm_M0, [])]
def bX11_egg_25 : List rm_J := [
  (.nop, .iconst (-1), 1, 0, 0, 0, .int (-1), rm_M0, []),
  (.ireturn, .ireturn, 1, 0, 0, 0, .null, rm_M0, [])]
def bX11_egg_27 : List rm_J := [
  (.aload 0, .aload_n 0, 1, 0, 0, 0, .null, rm_M0, []),
  (.getfield 32, .getfield 32, 3, 11, 4, 453, .null, rm_M0, []),
  (.getfield 154, .getfield 154, 3, 0, 1, 346, .null, rm_M0, []),
  (.aload 1, .aload_n 1, 1, 0, 0, 0, .null, rm_M0, []),
  (.invokevirtual 158, .invokevirtual 158, 3, 0, 1, 0, .null, mX2_push, [(0, 811), (0, 812), (0, 813)]),
  (.aload 1, .aload_n 1, 1, 0, 0, 0, .null, rm_M0, []),
  (.nop, .iconst 1, 1, 0, 0, 0, .int 1, rm_M0, []),
  (.putfield 185, .putfield 185, 3, 7, 7, 284, .int 2, rm_M0, []),
  (.aload 1, .aload_n 1, 1, 0, 0, 0, .null, rm_M0, []),
  (.getfield 151, .getfield 151, 3, 7, 2, 269, .null, rm_M0, []),
  (.ireturn, .ireturn, 1, 0, 0, 0, .null, rm_M0, [])]
def tX11_egg : rm_P := [(0, bX11_egg_0), (25, bX11_egg_25), (27, bX11_egg_27)]
theorem ok_X11_egg_t : rm_okP mX11_egg tX11_egg = true := by decide +kernel
theorem ok_X11_egg : rm_okM mX11_egg tX11_egg := ⟨ok_X11_egg_t, List.forall_mem_cons.mpr ⟨cw_X2_push, fun _ h => absurd h List.not_mem_nil⟩⟩
theorem atX11_egg_0 : rm_at tX11_egg 0 = some bX11_egg_0 := rfl
theorem atX11_egg_25 : rm_at tX11_egg 25 = some bX11_egg_25 := rfl
theorem atX11_egg_27 : rm_at tX11_egg 27 = some bX11_egg_27 := rfl
def bX11_tie_0 : List rm_J := [
  (.aload 0, .aload_n 0, 1, 0, 0, 0, .null, rm_M0, []),
  (.iload 1, .iload_n 1, 1, 0, 0, 0, .null, rm_M0, []),
  (.invokevirtual 107, .invokevirtual 107, 3, 0, 1, 0, .null, mX11_isQuestion, [(0, 780), (0, 782), (0, 19)]),
  (.ifCond .eq 16, .ifCond .eq 16, 3, 21, 0, 0, .null, rm_M0, []),
  (.aload 0, .aload_n 0, 1, 0, 0, 0, .null, rm_M0, []),
  (.iload 2, .iload_n 2, 1, 0, 0, 0, .null, rm_M0, []),
  (.invokevirtual 107, .invokevirtual 107, 3, 0, 1, 0, .null, mX11_isQuestion, [(0, 780), (0, 782), (0, 19)]),
  (.ifCond .eq 8, .ifCond .eq 8, 3, 21, 0, 0, .null, rm_M0, []),
  (.iload 1, .iload_n 1, 1, 0, 0, 0, .null, rm_M0, []),
  (.iload 2, .iload_n 2, 1, 0, 0, 0, .null, rm_M0, []),
  (.if_icmp .ne 5, .if_icmp .ne 5, 3, 23, 0, 0, .null, rm_M0, [])]
def bX11_tie_21 : List rm_J := [
  (.nop, .iconst (-1), 1, 0, 0, 0, .int (-1), rm_M0, []),
  (.ireturn, .ireturn, 1, 0, 0, 0, .null, rm_M0, [])]
def bX11_tie_23 : List rm_J := [
  (.aload 0, .aload_n 0, 1, 0, 0, 0, .null, rm_M0, []),
  (.getfield 32, .getfield 32, 3, 11, 4, 453, .null, rm_M0, []),
  (.getfield 154, .getfield 154, 3, 0, 1, 346, .null, rm_M0, []),
  (.aload 0, .aload_n 0, 1, 0, 0, 0, .null, rm_M0, []),
  (.getfield 32, .getfield 32, 3, 11, 4, 453, .null, rm_M0, []),
  (.getfield 110, .getfield 110, 3, 0, 0, 344, .null, rm_M0, []),
  (.invokevirtual 158, .invokevirtual 158, 3, 0, 1, 0, .null, mX2_push, [(0, 811), (0, 812), (0, 813)]),
  (.aload 0, .aload_n 0, 1, 0, 0, 0, .null, rm_M0, []),
  (.getfield 32, .getfield 32, 3, 11, 4, 453, .null, rm_M0, []),
  (.getfield 110, .getfield 110, 3, 0, 0, 344, .null, rm_M0, []),
  (.iload 1, .iload_n 1, 1, 0, 0, 0, .null, rm_M0, []),
  (.iload 2, .iload_n 2, 1, 0, 0, 0, .null, rm_M0, []),
  (.invokevirtual 188, .invokevirtual 188, 3, 0, 2, 0, .null, mX7_tieOrCut, [(0, 907), (0, 908), (0, 909)]),
  (.aload 0, .aload_n 0, 1, 0, 0, 0, .null, rm_M0, []),
  (.getfield 32, .getfield 32, 3, 11, 4, 453, .null, rm_M0, []),
  (.getfield 110, .getfield 110, 3, 0, 0, 344, .null, rm_M0, []),
  (.iload 1, .iload_n 1, 1, 0, 0, 0, .null, rm_M0, []),
  (.iload 2, .iload_n 2, 1, 0, 0, 0, .null, rm_M0, []),
  (.invokevirtual 192, .invokevirtual 192, 3, 0, 2, 0, .null, mX7_areAlike, [(0, 911), (0, 912), (0, 913)]),
  (.ifCond .eq 7, .ifCond .eq 7, 3, 71, 0, 0, .null, rm_M0, []),
  (.nop, .iconst 1, 1, 0, 0, 0, .int 1, rm_M0, []),
  (.goto 4, .goto 4, 3, 72, 0, 0, .null, rm_M0, [])]
def bX11_tie_71 : List rm_J := [
  (.nop, .iconst 0, 1, 0, 0, 0, .int 0, rm_M0, [])]
def bX11_tie_72 : List rm_J := [
  (.ireturn, .ireturn, 1, 0, 0, 0, .null, rm_M0, [])]
def tX11_tie : rm_P := [(0, bX11_tie_0), (21, bX11_tie_21), (23, bX11_tie_23), (71, bX11_tie_71), (72, bX11_tie_72)]
theorem ok_X11_tie_t : rm_okP mX11_tie tX11_tie = true := by decide +kernel
theorem ok_X11_tie : rm_okM mX11_tie tX11_tie := ⟨ok_X11_tie_t, List.forall_mem_cons.mpr ⟨cw_X11_isQuestion, List.forall_mem_cons.mpr ⟨cw_X11_isQuestion, List.forall_mem_cons.mpr ⟨cw_X2_push, List.forall_mem_cons.mpr ⟨cw_X7_tieOrCut, List.forall_mem_cons.mpr ⟨cw_X7_areAlike, fun _ h => absurd h List.not_mem_nil⟩⟩⟩⟩⟩⟩
theorem atX11_tie_0 : rm_at tX11_tie 0 = some bX11_tie_0 := rfl
theorem atX11_tie_21 : rm_at tX11_tie 21 = some bX11_tie_21 := rfl
theorem atX11_tie_23 : rm_at tX11_tie 23 = some bX11_tie_23 := rfl
theorem atX11_tie_71 : rm_at tX11_tie 71 = some bX11_tie_71 := rfl
theorem atX11_tie_72 : rm_at tX11_tie 72 = some bX11_tie_72 := rfl
def bX11_grow_0 : List rm_J := [
  (.aload 0, .aload_n 0, 1, 0, 0, 0, .null, rm_M0, []),
  (.getfield 32, .getfield 32, 3, 11, 4, 453, .null, rm_M0, []),
  (.getfield 110, .getfield 110, 3, 0, 0, 344, .null, rm_M0, []),
  (.astore 3, .astore_n 3, 1, 0, 0, 0, .null, rm_M0, []),
  (.aload 0, .aload_n 0, 1, 0, 0, 0, .null, rm_M0, []),
  (.iload 1, .iload_n 1, 1, 0, 0, 0, .null, rm_M0, []),
  (.invokevirtual 107, .invokevirtual 107, 3, 0, 1, 0, .null, mX11_isQuestion, [(0, 780), (0, 782), (0, 19)]),
  (.ifCond .eq 22, .ifCond .eq 22, 3, 35, 0, 0, .null, rm_M0, []),
  (.aload 3, .aload_n 3, 1, 0, 0, 0, .null, rm_M0, []),
  (.iload 1, .iload_n 1, 1, 0, 0, 0, .null, rm_M0, []),
  (.invokevirtual 129, .invokevirtual 129, 3, 0, 1, 0, .null, mX7_becameOf, [(0, 785), (0, 786), (0, 787)]),
  (.ifCond .ne 14, .ifCond .ne 14, 3, 35, 0, 0, .null, rm_M0, []),
  (.iload 2, .iload_n 2, 1, 0, 0, 0, .null, rm_M0, []),
  (.nop, .iconst 1, 1, 0, 0, 0, .int 1, rm_M0, []),
  (.if_icmp .lt 9, .if_icmp .lt 9, 3, 35, 0, 0, .null, rm_M0, []),
  (.iload 2, .iload_n 2, 1, 0, 0, 0, .null, rm_M0, []),
  (.nop, .bipush 99, 2, 0, 0, 0, .int 99, rm_M0, []),
  (.if_icmp .le 5, .if_icmp .le 5, 3, 37, 0, 0, .null, rm_M0, [])]
def bX11_grow_35 : List rm_J := [
  (.nop, .iconst (-1), 1, 0, 0, 0, .int (-1), rm_M0, []),
  (.ireturn, .ireturn, 1, 0, 0, 0, .null, rm_M0, [])]
def bX11_grow_37 : List rm_J := [
  (.aload 0, .aload_n 0, 1, 0, 0, 0, .null, rm_M0, []),
  (.getfield 32, .getfield 32, 3, 11, 4, 453, .null, rm_M0, []),
  (.getfield 154, .getfield 154, 3, 0, 1, 346, .null, rm_M0, []),
  (.aload 3, .aload_n 3, 1, 0, 0, 0, .null, rm_M0, []),
  (.invokevirtual 158, .invokevirtual 158, 3, 0, 1, 0, .null, mX2_push, [(0, 811), (0, 812), (0, 813)]),
  (.aload 3, .aload_n 3, 1, 0, 0, 0, .null, rm_M0, []),
  (.getfield 114, .getfield 114, 3, 7, 11, 290, .null, rm_M0, []),
  (.iload 1, .iload_n 1, 1, 0, 0, 0, .null, rm_M0, []),
  (.nop, .sipush 999, 3, 0, 0, 0, .int 999, rm_M0, []),
  (.aload 3, .aload_n 3, 1, 0, 0, 0, .null, rm_M0, []),
  (.getfield 114, .getfield 114, 3, 7, 11, 290, .null, rm_M0, []),
  (.iload 1, .iload_n 1, 1, 0, 0, 0, .null, rm_M0, []),
  (.iaload, .iaload, 1, 0, 0, 0, .null, rm_M0, []),
  (.iload 2, .iload_n 2, 1, 0, 0, 0, .null, rm_M0, []),
  (.iadd, .iadd, 1, 0, 0, 0, .null, rm_M0, []),
  (.monitorenter, .invokestatic 196, 3, 0, 0, 196, .null, rm_M0, [(0, 919), (0, 607), (0, 113), (0, 608)]),
  (.iastore, .iastore, 1, 0, 0, 0, .null, rm_M0, []),
  (.aload 3, .aload_n 3, 1, 0, 0, 0, .null, rm_M0, []),
  (.getfield 114, .getfield 114, 3, 7, 11, 290, .null, rm_M0, []),
  (.iload 1, .iload_n 1, 1, 0, 0, 0, .null, rm_M0, []),
  (.iaload, .iaload, 1, 0, 0, 0, .null, rm_M0, []),
  (.ireturn, .ireturn, 1, 0, 0, 0, .null, rm_M0, [])]
def tX11_grow : rm_P := [(0, bX11_grow_0), (35, bX11_grow_35), (37, bX11_grow_37)]
theorem ok_X11_grow_t : rm_okP mX11_grow tX11_grow = true := by decide +kernel
theorem ok_X11_grow : rm_okM mX11_grow tX11_grow := ⟨ok_X11_grow_t, List.forall_mem_cons.mpr ⟨cw_X11_isQuestion, List.forall_mem_cons.mpr ⟨cw_X7_becameOf, List.forall_mem_cons.mpr ⟨cw_X2_push, fun _ h => absurd h List.not_mem_nil⟩⟩⟩⟩
theorem atX11_grow_0 : rm_at tX11_grow 0 = some bX11_grow_0 := rfl
theorem atX11_grow_35 : rm_at tX11_grow 35 = some bX11_grow_35 := rfl
theorem atX11_grow_37 : rm_at tX11_grow 37 = some bX11_grow_37 := rfl
def bX11_undo_0 : List rm_J := [
  (.aload 0, .aload_n 0, 1, 0, 0, 0, .null, rm_M0, []),
  (.getfield 32, .getfield 32, 3, 11, 4, 453, .null, rm_M0, []),
  (.getfield 154, .getfield 154, 3, 0, 1, 346, .null, rm_M0, []),
  (.getfield 201, .getfield 201, 3, 2, 0, 333, .null, rm_M0, []),
  (.nop, .iconst 1, 1, 0, 0, 0, .int 1, rm_M0, []),
  (.if_icmp .ge 6, .if_icmp .ge 6, 3, 17, 0, 0, .null, rm_M0, []),
  (.nop, .bipush (-2), 2, 0, 0, 0, .int (-2), rm_M0, []),
  (.ireturn, .ireturn, 1, 0, 0, 0, .null, rm_M0, [])]
def bX11_undo_17 : List rm_J := [
  (.aload 0, .aload_n 0, 1, 0, 0, 0, .null, rm_M0, []),
  (.getfield 32, .getfield 32, 3, 11, 4, 453, .null, rm_M0, []),
  (.getfield 154, .getfield 154, 3, 0, 1, 346, .null, rm_M0, []),
  (.aload 0, .aload_n 0, 1, 0, 0, 0, .null, rm_M0, []),
  (.getfield 32, .getfield 32, 3, 11, 4, 453, .null, rm_M0, []),
  (.getfield 110, .getfield 110, 3, 0, 0, 344, .null, rm_M0, []),
  (.invokevirtual 204, .invokevirtual 204, 3, 0, 1, 0, .null, mX2_pop, [(0, 924), (0, 925), (0, 926)]),
  (.aload 0, .aload_n 0, 1, 0, 0, 0, .null, rm_M0, []),
  (.getfield 32, .getfield 32, 3, 11, 4, 453, .null, rm_M0, []),
  (.getfield 154, .getfield 154, 3, 0, 1, 346, .null, rm_M0, []),
  (.getfield 201, .getfield 201, 3, 2, 0, 333, .null, rm_M0, []),
  (.ireturn, .ireturn, 1, 0, 0, 0, .null, rm_M0, [])]
def tX11_undo : rm_P := [(0, bX11_undo_0), (17, bX11_undo_17)]
theorem ok_X11_undo_t : rm_okP mX11_undo tX11_undo = true := by decide +kernel
theorem ok_X11_undo : rm_okM mX11_undo tX11_undo := ⟨ok_X11_undo_t, List.forall_mem_cons.mpr ⟨cw_X2_pop, fun _ h => absurd h List.not_mem_nil⟩⟩
theorem atX11_undo_0 : rm_at tX11_undo 0 = some bX11_undo_0 := rfl
theorem atX11_undo_17 : rm_at tX11_undo 17 = some bX11_undo_17 := rfl
def bX11_ahead_0 : List rm_J := [
  (.aload 0, .aload_n 0, 1, 0, 0, 0, .null, rm_M0, []),
  (.invokevirtual 207, .invokevirtual 207, 3, 0, 0, 0, .null, mX11_isTold, [(0, 932), (0, 934), (0, 25)]),
  (.ifCond .eq 26, .ifCond .eq 26, 3, 30, 0, 0, .null, rm_M0, []),
  (.iload 2, .iload_n 2, 1, 0, 0, 0, .null, rm_M0, []),
  (.nop, .iconst 0, 1, 0, 0, 0, .int 0, rm_M0, []),
  (.nop, .bipush 100, 2, 0, 0, 0, .int 100, rm_M0, []),
  (.invokestatic 211, .invokestatic 211, 3, 0, 3, 0, .null, mX11_isWithin, [(0, 936), (0, 937)]),
  (.ifCond .eq 16, .ifCond .eq 16, 3, 30, 0, 0, .null, rm_M0, []),
  (.iload 3, .iload_n 3, 1, 0, 0, 0, .null, rm_M0, []),
  (.nop, .iconst 0, 1, 0, 0, 0, .int 0, rm_M0, []),
  (.nop, .iconst 3, 1, 0, 0, 0, .int 3, rm_M0, []),
  (.invokestatic 211, .invokestatic 211, 3, 0, 3, 0, .null, mX11_isWithin, [(0, 936), (0, 937)]),
  (.ifCond .eq 7, .ifCond .eq 7, 3, 30, 0, 0, .null, rm_M0, []),
  (.nop, .iconst 1, 1, 0, 0, 0, .int 1, rm_M0, []),
  (.goto 4, .goto 4, 3, 31, 0, 0, .null, rm_M0, [])]
def bX11_ahead_30 : List rm_J := [
  (.nop, .iconst 0, 1, 0, 0, 0, .int 0, rm_M0, [])]
def bX11_ahead_31 : List rm_J := [
  (.istore 4, .istore 4, 2, 0, 0, 0, .null, rm_M0, []),
  (.iload 4, .iload 4, 2, 0, 0, 0, .null, rm_M0, []),
  (.ifCond .eq 15, .ifCond .eq 15, 3, 50, 0, 0, .null, rm_M0, []),
  (.iload 3, .iload_n 3, 1, 0, 0, 0, .null, rm_M0, []),
  (.ifCond .ne 13, .ifCond .ne 13, 3, 52, 0, 0, .null, rm_M0, []),
  (.aload 0, .aload_n 0, 1, 0, 0, 0, .null, rm_M0, []),
  (.iload 1, .iload_n 1, 1, 0, 0, 0, .null, rm_M0, []),
  (.invokevirtual 107, .invokevirtual 107, 3, 0, 1, 0, .null, mX11_isQuestion, [(0, 780), (0, 782), (0, 19)]),
  (.ifCond .ne 5, .ifCond .ne 5, 3, 52, 0, 0, .null, rm_M0, [])]
def bX11_ahead_50 : List rm_J := [
  (.nop, .iconst (-1), 1, 0, 0, 0, .int (-1), rm_M0, []),
  (.ireturn, .ireturn, 1, 0, 0, 0, .null, rm_M0, [])]
def bX11_ahead_52 : List rm_J := [
  (.aload 0, .aload_n 0, 1, 0, 0, 0, .null, rm_M0, []),
  (.getfield 43, .getfield 43, 3, 11, 6, 455, .null, rm_M0, []),
  (.aload 0, .aload_n 0, 1, 0, 0, 0, .null, rm_M0, []),
  (.getfield 32, .getfield 32, 3, 11, 4, 453, .null, rm_M0, []),
  (.getfield 110, .getfield 110, 3, 0, 0, 344, .null, rm_M0, []),
  (.aload 0, .aload_n 0, 1, 0, 0, 0, .null, rm_M0, []),
  (.invokevirtual 164, .invokevirtual 164, 3, 0, 0, 0, .null, mX11_ruleInForce, [(0, 823), (0, 825), (0, 21)]),
  (.invokevirtual 168, .invokevirtual 168, 3, 0, 2, 0, .null, mX9_start, [(0, 831), (0, 832), (0, 833)]),
  (.aload 0, .aload_n 0, 1, 0, 0, 0, .null, rm_M0, []),
  (.getfield 43, .getfield 43, 3, 11, 6, 455, .null, rm_M0, []),
  (.iload 2, .iload_n 2, 1, 0, 0, 0, .null, rm_M0, []),
  (.invokevirtual 215, .invokevirtual 215, 3, 0, 1, 0, .null, mX9_passDays, [(0, 939), (0, 940), (0, 941)]),
  (.iload 3, .iload_n 3, 1, 0, 0, 0, .null, rm_M0, []),
  (.tableswitch 59 0 2 #[25, 37, 48], .tableswitch 59 0 2 #[25, 37, 48], 25, 138, 0, 0, .null, rm_M0, [(0, 104), (1, 116), (2, 127)])]
def bX11_ahead_104 : List rm_J := [
  (.aload 0, .aload_n 0, 1, 0, 0, 0, .null, rm_M0, []),
  (.getfield 43, .getfield 43, 3, 11, 6, 455, .null, rm_M0, []),
  (.getfield 175, .getfield 175, 3, 9, 0, 377, .null, rm_M0, []),
  (.iload 1, .iload_n 1, 1, 0, 0, 0, .null, rm_M0, []),
  (.invokevirtual 129, .invokevirtual 129, 3, 0, 1, 0, .null, mX7_becameOf, [(0, 785), (0, 786), (0, 787)]),
  (.ireturn, .ireturn, 1, 0, 0, 0, .null, rm_M0, [])]
def bX11_ahead_116 : List rm_J := [
  (.aload 0, .aload_n 0, 1, 0, 0, 0, .null, rm_M0, []),
  (.getfield 43, .getfield 43, 3, 11, 6, 455, .null, rm_M0, []),
  (.getfield 175, .getfield 175, 3, 9, 0, 377, .null, rm_M0, []),
  (.getfield 218, .getfield 218, 3, 7, 4, 276, .null, rm_M0, []),
  (.ireturn, .ireturn, 1, 0, 0, 0, .null, rm_M0, [])]
def bX11_ahead_127 : List rm_J := [
  (.aload 0, .aload_n 0, 1, 0, 0, 0, .null, rm_M0, []),
  (.getfield 43, .getfield 43, 3, 11, 6, 455, .null, rm_M0, []),
  (.getfield 175, .getfield 175, 3, 9, 0, 377, .null, rm_M0, []),
  (.getfield 221, .getfield 221, 3, 7, 5, 279, .null, rm_M0, []),
  (.ireturn, .ireturn, 1, 0, 0, 0, .null, rm_M0, [])]
def bX11_ahead_138 : List rm_J := [
  (.aload 0, .aload_n 0, 1, 0, 0, 0, .null, rm_M0, []),
  (.getfield 43, .getfield 43, 3, 11, 6, 455, .null, rm_M0, []),
  (.getfield 175, .getfield 175, 3, 9, 0, 377, .null, rm_M0, []),
  (.getfield 179, .getfield 179, 3, 7, 3, 272, .null, rm_M0, []),
  (.ireturn, .ireturn, 1, 0, 0, 0, .null, rm_M0, [])]
def tX11_ahead : rm_P := [(0, bX11_ahead_0), (30, bX11_ahead_30), (31, bX11_ahead_31), (50, bX11_ahead_50), (52, bX11_ahead_52), (104, bX11_ahead_104), (116, bX11_ahead_116), (127, bX11_ahead_127), (138, bX11_ahead_138)]
theorem ok_X11_ahead_t : rm_okP mX11_ahead tX11_ahead = true := by decide +kernel
theorem ok_X11_ahead : rm_okM mX11_ahead tX11_ahead := ⟨ok_X11_ahead_t, List.forall_mem_cons.mpr ⟨cw_X11_isTold, List.forall_mem_cons.mpr ⟨cw_X11_isWithin, List.forall_mem_cons.mpr ⟨cw_X11_isWithin, List.forall_mem_cons.mpr ⟨cw_X11_isQuestion, List.forall_mem_cons.mpr ⟨cw_X11_ruleInForce, List.forall_mem_cons.mpr ⟨cw_X9_start, List.forall_mem_cons.mpr ⟨cw_X9_passDays, List.forall_mem_cons.mpr ⟨cw_X7_becameOf, fun _ h => absurd h List.not_mem_nil⟩⟩⟩⟩⟩⟩⟩⟩⟩
theorem atX11_ahead_0 : rm_at tX11_ahead 0 = some bX11_ahead_0 := rfl
theorem atX11_ahead_30 : rm_at tX11_ahead 30 = some bX11_ahead_30 := rfl
theorem atX11_ahead_31 : rm_at tX11_ahead 31 = some bX11_ahead_31 := rfl
theorem atX11_ahead_50 : rm_at tX11_ahead 50 = some bX11_ahead_50 := rfl
theorem atX11_ahead_52 : rm_at tX11_ahead 52 = some bX11_ahead_52 := rfl
theorem atX11_ahead_104 : rm_at tX11_ahead 104 = some bX11_ahead_104 := rfl
theorem atX11_ahead_116 : rm_at tX11_ahead 116 = some bX11_ahead_116 := rfl
theorem atX11_ahead_127 : rm_at tX11_ahead 127 = some bX11_ahead_127 := rfl
theorem atX11_ahead_138 : rm_at tX11_ahead 138 = some bX11_ahead_138 := rfl
def bX11_fate_0 : List rm_J := [
  (.aload 0, .aload_n 0, 1, 0, 0, 0, .null, rm_M0, []),
  (.iload 1, .iload_n 1, 1, 0, 0, 0, .null, rm_M0, []),
  (.invokevirtual 107, .invokevirtual 107, 3, 0, 1, 0, .null, mX11_isQuestion, [(0, 780), (0, 782), (0, 19)]),
  (.ifCond .eq 26, .ifCond .eq 26, 3, 31, 0, 0, .null, rm_M0, []),
  (.aload 0, .aload_n 0, 1, 0, 0, 0, .null, rm_M0, []),
  (.getfield 32, .getfield 32, 3, 11, 4, 453, .null, rm_M0, []),
  (.getfield 110, .getfield 110, 3, 0, 0, 344, .null, rm_M0, []),
  (.iload 1, .iload_n 1, 1, 0, 0, 0, .null, rm_M0, []),
  (.invokevirtual 129, .invokevirtual 129, 3, 0, 1, 0, .null, mX7_becameOf, [(0, 785), (0, 786), (0, 787)]),
  (.ifCond .ne 12, .ifCond .ne 12, 3, 31, 0, 0, .null, rm_M0, []),
  (.iload 2, .iload_n 2, 1, 0, 0, 0, .null, rm_M0, []),
  (.nop, .iconst 0, 1, 0, 0, 0, .int 0, rm_M0, []),
  (.nop, .iconst 1, 1, 0, 0, 0, .int 1, rm_M0, []),
  (.invokestatic 211, .invokestatic 211, 3, 0, 3, 0, .null, mX11_isWithin, [(0, 936), (0, 937)]),
  (.ifCond .ne 5, .ifCond .ne 5, 3, 33, 0, 0, .null, rm_M0, [])]
def bX11_fate_31 : List rm_J := [
  (.nop, .iconst (-1), 1, 0, 0, 0, .int (-1), rm_M0, []),
  (.ireturn, .ireturn, 1, 0, 0, 0, .null, rm_M0, [])]
def bX11_fate_33 : List rm_J := [
  (.aload 0, .aload_n 0, 1, 0, 0, 0, .null, rm_M0, []),
  (.getfield 43, .getfield 43, 3, 11, 6, 455, .null, rm_M0, []),
  (.aload 0, .aload_n 0, 1, 0, 0, 0, .null, rm_M0, []),
  (.getfield 32, .getfield 32, 3, 11, 4, 453, .null, rm_M0, []),
  (.getfield 110, .getfield 110, 3, 0, 0, 344, .null, rm_M0, []),
  (.aload 0, .aload_n 0, 1, 0, 0, 0, .null, rm_M0, []),
  (.invokevirtual 164, .invokevirtual 164, 3, 0, 0, 0, .null, mX11_ruleInForce, [(0, 823), (0, 825), (0, 21)]),
  (.invokevirtual 168, .invokevirtual 168, 3, 0, 2, 0, .null, mX9_start, [(0, 831), (0, 832), (0, 833)]),
  (.nop, .iconst 0, 1, 0, 0, 0, .int 0, rm_M0, []),
  (.istore 3, .istore_n 3, 1, 0, 0, 0, .null, rm_M0, [])]
def bX11_fate_53 : List rm_J := [
  (.iload 3, .iload_n 3, 1, 0, 0, 0, .null, rm_M0, []),
  (.nop, .bipush 100, 2, 0, 0, 0, .int 100, rm_M0, []),
  (.if_icmp .ge 59, .if_icmp .ge 59, 3, 115, 0, 0, .null, rm_M0, []),
  (.aload 0, .aload_n 0, 1, 0, 0, 0, .null, rm_M0, []),
  (.getfield 43, .getfield 43, 3, 11, 6, 455, .null, rm_M0, []),
  (.getfield 175, .getfield 175, 3, 9, 0, 377, .null, rm_M0, []),
  (.getfield 151, .getfield 151, 3, 7, 2, 269, .null, rm_M0, []),
  (.istore 4, .istore 4, 2, 0, 0, 0, .null, rm_M0, []),
  (.aload 0, .aload_n 0, 1, 0, 0, 0, .null, rm_M0, []),
  (.getfield 43, .getfield 43, 3, 11, 6, 455, .null, rm_M0, []),
  (.invokevirtual 172, .invokevirtual 172, 3, 0, 0, 0, .null, mX9_passDay, [(0, 836), (0, 837), (0, 838)]),
  (.pop, .pop, 1, 0, 0, 0, .null, rm_M0, []),
  (.aload 0, .aload_n 0, 1, 0, 0, 0, .null, rm_M0, []),
  (.getfield 43, .getfield 43, 3, 11, 6, 455, .null, rm_M0, []),
  (.getfield 175, .getfield 175, 3, 9, 0, 377, .null, rm_M0, []),
  (.iload 1, .iload_n 1, 1, 0, 0, 0, .null, rm_M0, []),
  (.invokevirtual 129, .invokevirtual 129, 3, 0, 1, 0, .null, mX7_becameOf, [(0, 785), (0, 786), (0, 787)]),
  (.istore 5, .istore 5, 2, 0, 0, 0, .null, rm_M0, []),
  (.iload 5, .iload 5, 2, 0, 0, 0, .null, rm_M0, []),
  (.ifCond .eq 15, .ifCond .eq 15, 3, 109, 0, 0, .null, rm_M0, []),
  (.iload 2, .iload_n 2, 1, 0, 0, 0, .null, rm_M0, []),
  (.ifCond .ne 8, .ifCond .ne 8, 3, 106, 0, 0, .null, rm_M0, []),
  (.iload 4, .iload 4, 2, 0, 0, 0, .null, rm_M0, []),
  (.goto 5, .goto 5, 3, 108, 0, 0, .null, rm_M0, [])]
def bX11_fate_106 : List rm_J := [
  (.iload 5, .iload 5, 2, 0, 0, 0, .null, rm_M0, [])]
def bX11_fate_108 : List rm_J := [
  (.ireturn, .ireturn, 1, 0, 0, 0, .null, rm_M0, [])]
def bX11_fate_109 : List rm_J := [
  (.iinc 3 1, .iinc 3 1, 3, 0, 0, 0, .int 1, rm_M0, []),
  (.goto (-59), .goto (-59), 3, 53, 0, 0, .null, rm_M0, [])]
def bX11_fate_115 : List rm_J := [
  (.nop, .bipush (-2), 2, 0, 0, 0, .int (-2), rm_M0, []),
  (.ireturn, .ireturn, 1, 0, 0, 0, .null, rm_M0, [])]
def tX11_fate : rm_P := [(0, bX11_fate_0), (31, bX11_fate_31), (33, bX11_fate_33), (53, bX11_fate_53), (106, bX11_fate_106), (108, bX11_fate_108), (109, bX11_fate_109), (115, bX11_fate_115)]
theorem ok_X11_fate_t : rm_okP mX11_fate tX11_fate = true := by decide +kernel
theorem ok_X11_fate : rm_okM mX11_fate tX11_fate := ⟨ok_X11_fate_t, List.forall_mem_cons.mpr ⟨cw_X11_isQuestion, List.forall_mem_cons.mpr ⟨cw_X7_becameOf, List.forall_mem_cons.mpr ⟨cw_X11_isWithin, List.forall_mem_cons.mpr ⟨cw_X11_ruleInForce, List.forall_mem_cons.mpr ⟨cw_X9_start, List.forall_mem_cons.mpr ⟨cw_X9_passDay, List.forall_mem_cons.mpr ⟨cw_X7_becameOf, fun _ h => absurd h List.not_mem_nil⟩⟩⟩⟩⟩⟩⟩⟩
theorem atX11_fate_0 : rm_at tX11_fate 0 = some bX11_fate_0 := rfl
theorem atX11_fate_31 : rm_at tX11_fate 31 = some bX11_fate_31 := rfl
theorem atX11_fate_33 : rm_at tX11_fate 33 = some bX11_fate_33 := rfl
theorem atX11_fate_53 : rm_at tX11_fate 53 = some bX11_fate_53 := rfl
theorem atX11_fate_106 : rm_at tX11_fate 106 = some bX11_fate_106 := rfl
theorem atX11_fate_108 : rm_at tX11_fate 108 = some bX11_fate_108 := rfl
theorem atX11_fate_109 : rm_at tX11_fate 109 = some bX11_fate_109 := rfl
theorem atX11_fate_115 : rm_at tX11_fate 115 = some bX11_fate_115 := rfl
def bX11_row_0 : List rm_J := [
  (.aload 0, .aload_n 0, 1, 0, 0, 0, .null, rm_M0, []),
  (.invokevirtual 207, .invokevirtual 207, 3, 0, 0, 0, .null, mX11_isTold, [(0, 932), (0, 934), (0, 25)]),
  (.ifCond .eq 21, .ifCond .eq 21, 3, 25, 0, 0, .null, rm_M0, []),
  (.iload 1, .iload_n 1, 1, 0, 0, 0, .null, rm_M0, []),
  (.nop, .iconst 1, 1, 0, 0, 0, .int 1, rm_M0, []),
  (.nop, .iconst 4, 1, 0, 0, 0, .int 4, rm_M0, []),
  (.invokestatic 211, .invokestatic 211, 3, 0, 3, 0, .null, mX11_isWithin, [(0, 936), (0, 937)]),
  (.ifCond .eq 12, .ifCond .eq 12, 3, 25, 0, 0, .null, rm_M0, []),
  (.iload 2, .iload_n 2, 1, 0, 0, 0, .null, rm_M0, []),
  (.nop, .iconst 0, 1, 0, 0, 0, .int 0, rm_M0, []),
  (.nop, .iconst 4, 1, 0, 0, 0, .int 4, rm_M0, []),
  (.invokestatic 211, .invokestatic 211, 3, 0, 3, 0, .null, mX11_isWithin, [(0, 936), (0, 937)]),
  (.ifCond .ne 6, .ifCond .ne 6, 3, 28, 0, 0, .null, rm_M0, [])]
def bX11_row_25 : List rm_J := [
  (.nop, .ldc 224, 2, 0, 0, 952, .int (-100000), rm_M0, []),
  (.ireturn, .ireturn, 1, 0, 0, 0, .null, rm_M0, [])]
def bX11_row_28 : List rm_J := [
  (.iload 2, .iload_n 2, 1, 0, 0, 0, .null, rm_M0, []),
  (.iload 1, .iload_n 1, 1, 0, 0, 0, .null, rm_M0, []),
  (.if_icmp .le 6, .if_icmp .le 6, 3, 36, 0, 0, .null, rm_M0, []),
  (.nop, .bipush (-2), 2, 0, 0, 0, .int (-2), rm_M0, []),
  (.ireturn, .ireturn, 1, 0, 0, 0, .null, rm_M0, [])]
def bX11_row_36 : List rm_J := [
  (.aload 0, .aload_n 0, 1, 0, 0, 0, .null, rm_M0, []),
  (.getfield 50, .getfield 50, 3, 11, 7, 456, .null, rm_M0, []),
  (.aload 0, .aload_n 0, 1, 0, 0, 0, .null, rm_M0, []),
  (.getfield 32, .getfield 32, 3, 11, 4, 453, .null, rm_M0, []),
  (.getfield 110, .getfield 110, 3, 0, 0, 344, .null, rm_M0, []),
  (.iload 1, .iload_n 1, 1, 0, 0, 0, .null, rm_M0, []),
  (.invokevirtual 225, .invokevirtual 225, 3, 0, 2, 0, .null, mX4_find, [(0, 953), (0, 954), (0, 955)]),
  (.iload 2, .iload_n 2, 1, 0, 0, 0, .null, rm_M0, []),
  (.ifCond .ne 24, .ifCond .ne 24, 3, 76, 0, 0, .null, rm_M0, []),
  (.aload 0, .aload_n 0, 1, 0, 0, 0, .null, rm_M0, []),
  (.getfield 50, .getfield 50, 3, 11, 7, 456, .null, rm_M0, []),
  (.getfield 229, .getfield 229, 3, 4, 1, 405, .null, rm_M0, []),
  (.aload 0, .aload_n 0, 1, 0, 0, 0, .null, rm_M0, []),
  (.getfield 32, .getfield 32, 3, 11, 4, 453, .null, rm_M0, []),
  (.getfield 110, .getfield 110, 3, 0, 0, 344, .null, rm_M0, []),
  (.invokevirtual 232, .invokevirtual 232, 3, 0, 0, 0, .null, mX7_balance, [(0, 975), (0, 963), (0, 964)]),
  (.isub, .isub, 1, 0, 0, 0, .null, rm_M0, []),
  (.goto 14, .goto 14, 3, 87, 0, 0, .null, rm_M0, [])]
def bX11_row_76 : List rm_J := [
  (.aload 0, .aload_n 0, 1, 0, 0, 0, .null, rm_M0, []),
  (.getfield 50, .getfield 50, 3, 11, 7, 456, .null, rm_M0, []),
  (.getfield 235, .getfield 235, 3, 4, 0, 403, .null, rm_M0, []),
  (.iload 2, .iload_n 2, 1, 0, 0, 0, .null, rm_M0, []),
  (.nop, .iconst 1, 1, 0, 0, 0, .int 1, rm_M0, []),
  (.isub, .isub, 1, 0, 0, 0, .null, rm_M0, []),
  (.iaload, .iaload, 1, 0, 0, 0, .null, rm_M0, [])]
def bX11_row_87 : List rm_J := [
  (.ireturn, .ireturn, 1, 0, 0, 0, .null, rm_M0, [])]
def tX11_row : rm_P := [(0, bX11_row_0), (25, bX11_row_25), (28, bX11_row_28), (36, bX11_row_36), (76, bX11_row_76), (87, bX11_row_87)]
theorem ok_X11_row_t : rm_okP mX11_row tX11_row = true := by decide +kernel
theorem ok_X11_row : rm_okM mX11_row tX11_row := ⟨ok_X11_row_t, List.forall_mem_cons.mpr ⟨cw_X11_isTold, List.forall_mem_cons.mpr ⟨cw_X11_isWithin, List.forall_mem_cons.mpr ⟨cw_X11_isWithin, List.forall_mem_cons.mpr ⟨cw_X4_find, List.forall_mem_cons.mpr ⟨cw_X7_balance, fun _ h => absurd h List.not_mem_nil⟩⟩⟩⟩⟩⟩
theorem atX11_row_0 : rm_at tX11_row 0 = some bX11_row_0 := rfl
theorem atX11_row_25 : rm_at tX11_row 25 = some bX11_row_25 := rfl
theorem atX11_row_28 : rm_at tX11_row 28 = some bX11_row_28 := rfl
theorem atX11_row_36 : rm_at tX11_row 36 = some bX11_row_36 := rfl
theorem atX11_row_76 : rm_at tX11_row 76 = some bX11_row_76 := rfl
theorem atX11_row_87 : rm_at tX11_row 87 = some bX11_row_87 := rfl
def bX11_bind_0 : List rm_J := [
  (.aload 0, .aload_n 0, 1, 0, 0, 0, .null, rm_M0, []),
  (.invokevirtual 207, .invokevirtual 207, 3, 0, 0, 0, .null, mX11_isTold, [(0, 932), (0, 934), (0, 25)]),
  (.ifCond .eq 22, .ifCond .eq 22, 3, 26, 0, 0, .null, rm_M0, []),
  (.iload 1, .iload_n 1, 1, 0, 0, 0, .null, rm_M0, []),
  (.nop, .iconst 1, 1, 0, 0, 0, .int 1, rm_M0, []),
  (.nop, .bipush 60, 2, 0, 0, 0, .int 60, rm_M0, []),
  (.invokestatic 211, .invokestatic 211, 3, 0, 3, 0, .null, mX11_isWithin, [(0, 936), (0, 937)]),
  (.ifCond .eq 12, .ifCond .eq 12, 3, 26, 0, 0, .null, rm_M0, []),
  (.iload 2, .iload_n 2, 1, 0, 0, 0, .null, rm_M0, []),
  (.nop, .iconst 0, 1, 0, 0, 0, .int 0, rm_M0, []),
  (.nop, .iconst 2, 1, 0, 0, 0, .int 2, rm_M0, []),
  (.invokestatic 211, .invokestatic 211, 3, 0, 3, 0, .null, mX11_isWithin, [(0, 936), (0, 937)]),
  (.ifCond .ne 6, .ifCond .ne 6, 3, 29, 0, 0, .null, rm_M0, [])]
def bX11_bind_26 : List rm_J := [
  (.nop, .ldc 224, 2, 0, 0, 952, .int (-100000), rm_M0, []),
  (.ireturn, .ireturn, 1, 0, 0, 0, .null, rm_M0, [])]
def bX11_bind_29 : List rm_J := [
  (.aload 0, .aload_n 0, 1, 0, 0, 0, .null, rm_M0, []),
  (.getfield 32, .getfield 32, 3, 11, 4, 453, .null, rm_M0, []),
  (.getfield 110, .getfield 110, 3, 0, 0, 344, .null, rm_M0, []),
  (.astore 3, .astore_n 3, 1, 0, 0, 0, .null, rm_M0, []),
  (.aload 0, .aload_n 0, 1, 0, 0, 0, .null, rm_M0, []),
  (.getfield 43, .getfield 43, 3, 11, 6, 455, .null, rm_M0, []),
  (.aload 3, .aload_n 3, 1, 0, 0, 0, .null, rm_M0, []),
  (.aload 0, .aload_n 0, 1, 0, 0, 0, .null, rm_M0, []),
  (.invokevirtual 164, .invokevirtual 164, 3, 0, 0, 0, .null, mX11_ruleInForce, [(0, 823), (0, 825), (0, 21)]),
  (.invokevirtual 168, .invokevirtual 168, 3, 0, 2, 0, .null, mX9_start, [(0, 831), (0, 832), (0, 833)]),
  (.aload 0, .aload_n 0, 1, 0, 0, 0, .null, rm_M0, []),
  (.getfield 43, .getfield 43, 3, 11, 6, 455, .null, rm_M0, []),
  (.iload 1, .iload_n 1, 1, 0, 0, 0, .null, rm_M0, []),
  (.invokevirtual 238, .invokevirtual 238, 3, 0, 1, 0, .null, mX9_balanceBehind, [(0, 980), (0, 981), (0, 982)]),
  (.istore 4, .istore 4, 2, 0, 0, 0, .null, rm_M0, []),
  (.nop, .iconst (-1), 1, 0, 0, 0, .int (-1), rm_M0, []),
  (.istore 5, .istore 5, 2, 0, 0, 0, .null, rm_M0, []),
  (.nop, .iconst (-1), 1, 0, 0, 0, .int (-1), rm_M0, []),
  (.istore 6, .istore 6, 2, 0, 0, 0, .null, rm_M0, []),
  (.nop, .iconst 0, 1, 0, 0, 0, .int 0, rm_M0, []),
  (.istore 7, .istore 7, 2, 0, 0, 0, .null, rm_M0, [])]
def bX11_bind_68 : List rm_J := [
  (.iload 7, .iload 7, 2, 0, 0, 0, .null, rm_M0, []),
  (.aload 3, .aload_n 3, 1, 0, 0, 0, .null, rm_M0, []),
  (.getfield 119, .getfield 119, 3, 7, 0, 263, .null, rm_M0, []),
  (.getfield 93, .getfield 93, 3, 3, 3, 221, .null, rm_M0, []),
  (.if_icmp .ge 99, .if_icmp .ge 99, 3, 176, 0, 0, .null, rm_M0, []),
  (.iload 7, .iload 7, 2, 0, 0, 0, .null, rm_M0, []),
  (.nop, .iconst 1, 1, 0, 0, 0, .int 1, rm_M0, []),
  (.iadd, .iadd, 1, 0, 0, 0, .null, rm_M0, []),
  (.istore 8, .istore 8, 2, 0, 0, 0, .null, rm_M0, [])]
def bX11_bind_86 : List rm_J := [
  (.iload 8, .iload 8, 2, 0, 0, 0, .null, rm_M0, []),
  (.aload 3, .aload_n 3, 1, 0, 0, 0, .null, rm_M0, []),
  (.getfield 119, .getfield 119, 3, 7, 0, 263, .null, rm_M0, []),
  (.getfield 93, .getfield 93, 3, 3, 3, 221, .null, rm_M0, []),
  (.if_icmp .ge 75, .if_icmp .ge 75, 3, 170, 0, 0, .null, rm_M0, []),
  (.aload 3, .aload_n 3, 1, 0, 0, 0, .null, rm_M0, []),
  (.iload 7, .iload 7, 2, 0, 0, 0, .null, rm_M0, []),
  (.iload 8, .iload 8, 2, 0, 0, 0, .null, rm_M0, []),
  (.invokevirtual 192, .invokevirtual 192, 3, 0, 2, 0, .null, mX7_areAlike, [(0, 911), (0, 912), (0, 913)]),
  (.ifCond .ne 58, .ifCond .ne 58, 3, 164, 0, 0, .null, rm_M0, []),
  (.aload 0, .aload_n 0, 1, 0, 0, 0, .null, rm_M0, []),
  (.getfield 43, .getfield 43, 3, 11, 6, 455, .null, rm_M0, []),
  (.aload 3, .aload_n 3, 1, 0, 0, 0, .null, rm_M0, []),
  (.aload 0, .aload_n 0, 1, 0, 0, 0, .null, rm_M0, []),
  (.invokevirtual 164, .invokevirtual 164, 3, 0, 0, 0, .null, mX11_ruleInForce, [(0, 823), (0, 825), (0, 21)]),
  (.invokevirtual 168, .invokevirtual 168, 3, 0, 2, 0, .null, mX9_start, [(0, 831), (0, 832), (0, 833)]),
  (.aload 0, .aload_n 0, 1, 0, 0, 0, .null, rm_M0, []),
  (.getfield 43, .getfield 43, 3, 11, 6, 455, .null, rm_M0, []),
  (.getfield 175, .getfield 175, 3, 9, 0, 377, .null, rm_M0, []),
  (.iload 7, .iload 7, 2, 0, 0, 0, .null, rm_M0, []),
  (.iload 8, .iload 8, 2, 0, 0, 0, .null, rm_M0, []),
  (.invokevirtual 188, .invokevirtual 188, 3, 0, 2, 0, .null, mX7_tieOrCut, [(0, 907), (0, 908), (0, 909)]),
  (.aload 0, .aload_n 0, 1, 0, 0, 0, .null, rm_M0, []),
  (.getfield 43, .getfield 43, 3, 11, 6, 455, .null, rm_M0, []),
  (.iload 1, .iload_n 1, 1, 0, 0, 0, .null, rm_M0, []),
  (.invokevirtual 238, .invokevirtual 238, 3, 0, 1, 0, .null, mX9_balanceBehind, [(0, 980), (0, 981), (0, 982)]),
  (.istore 9, .istore 9, 2, 0, 0, 0, .null, rm_M0, []),
  (.iload 9, .iload 9, 2, 0, 0, 0, .null, rm_M0, []),
  (.iload 4, .iload 4, 2, 0, 0, 0, .null, rm_M0, []),
  (.if_icmp .le 15, .if_icmp .le 15, 3, 164, 0, 0, .null, rm_M0, []),
  (.iload 9, .iload 9, 2, 0, 0, 0, .null, rm_M0, []),
  (.istore 4, .istore 4, 2, 0, 0, 0, .null, rm_M0, []),
  (.iload 7, .iload 7, 2, 0, 0, 0, .null, rm_M0, []),
  (.istore 5, .istore 5, 2, 0, 0, 0, .null, rm_M0, []),
  (.iload 8, .iload 8, 2, 0, 0, 0, .null, rm_M0, []),
  (.istore 6, .istore 6, 2, 0, 0, 0, .null, rm_M0, [])]
def bX11_bind_164 : List rm_J := [
  (.iinc 8 1, .iinc 8 1, 3, 0, 0, 0, .int 1, rm_M0, []),
  (.goto (-81), .goto (-81), 3, 86, 0, 0, .null, rm_M0, [])]
def bX11_bind_170 : List rm_J := [
  (.iinc 7 1, .iinc 7 1, 3, 0, 0, 0, .int 1, rm_M0, []),
  (.goto (-105), .goto (-105), 3, 68, 0, 0, .null, rm_M0, [])]
def bX11_bind_176 : List rm_J := [
  (.iload 2, .iload_n 2, 1, 0, 0, 0, .null, rm_M0, []),
  (.ifCond .ne 11, .ifCond .ne 11, 3, 188, 0, 0, .null, rm_M0, []),
  (.iload 4, .iload 4, 2, 0, 0, 0, .null, rm_M0, []),
  (.aload 3, .aload_n 3, 1, 0, 0, 0, .null, rm_M0, []),
  (.invokevirtual 232, .invokevirtual 232, 3, 0, 0, 0, .null, mX7_balance, [(0, 975), (0, 963), (0, 964)]),
  (.isub, .isub, 1, 0, 0, 0, .null, rm_M0, []),
  (.ireturn, .ireturn, 1, 0, 0, 0, .null, rm_M0, [])]
def bX11_bind_188 : List rm_J := [
  (.iload 2, .iload_n 2, 1, 0, 0, 0, .null, rm_M0, []),
  (.nop, .iconst 1, 1, 0, 0, 0, .int 1, rm_M0, []),
  (.if_icmp .ne 8, .if_icmp .ne 8, 3, 198, 0, 0, .null, rm_M0, []),
  (.iload 5, .iload 5, 2, 0, 0, 0, .null, rm_M0, []),
  (.goto 5, .goto 5, 3, 200, 0, 0, .null, rm_M0, [])]
def bX11_bind_198 : List rm_J := [
  (.iload 6, .iload 6, 2, 0, 0, 0, .null, rm_M0, [])]
def bX11_bind_200 : List rm_J := [
  (.ireturn, .ireturn, 1, 0, 0, 0, .null, rm_M0, [])]
def tX11_bind : rm_P := [(0, bX11_bind_0), (26, bX11_bind_26), (29, bX11_bind_29), (68, bX11_bind_68), (86, bX11_bind_86), (164, bX11_bind_164), (170, bX11_bind_170), (176, bX11_bind_176), (188, bX11_bind_188), (198, bX11_bind_198), (200, bX11_bind_200)]
theorem ok_X11_bind_t : rm_okP mX11_bind tX11_bind = true := by decide +kernel
theorem ok_X11_bind : rm_okM mX11_bind tX11_bind := ⟨ok_X11_bind_t, List.forall_mem_cons.mpr ⟨cw_X11_isTold, List.forall_mem_cons.mpr ⟨cw_X11_isWithin, List.forall_mem_cons.mpr ⟨cw_X11_isWithin, List.forall_mem_cons.mpr ⟨cw_X11_ruleInForce, List.forall_mem_cons.mpr ⟨cw_X9_start, List.forall_mem_cons.mpr ⟨cw_X9_balanceBehind, List.forall_mem_cons.mpr ⟨cw_X7_areAlike, List.forall_mem_cons.mpr ⟨cw_X11_ruleInForce, List.forall_mem_cons.mpr ⟨cw_X9_start, List.forall_mem_cons.mpr ⟨cw_X7_tieOrCut, List.forall_mem_cons.mpr ⟨cw_X9_balanceBehind, List.forall_mem_cons.mpr ⟨cw_X7_balance, fun _ h => absurd h List.not_mem_nil⟩⟩⟩⟩⟩⟩⟩⟩⟩⟩⟩⟩⟩
theorem atX11_bind_0 : rm_at tX11_bind 0 = some bX11_bind_0 := rfl
theorem atX11_bind_26 : rm_at tX11_bind 26 = some bX11_bind_26 := rfl
theorem atX11_bind_29 : rm_at tX11_bind 29 = some bX11_bind_29 := rfl
theorem atX11_bind_68 : rm_at tX11_bind 68 = some bX11_bind_68 := rfl
theorem atX11_bind_86 : rm_at tX11_bind 86 = some bX11_bind_86 := rfl
theorem atX11_bind_164 : rm_at tX11_bind 164 = some bX11_bind_164 := rfl
theorem atX11_bind_170 : rm_at tX11_bind 170 = some bX11_bind_170 := rfl
theorem atX11_bind_176 : rm_at tX11_bind 176 = some bX11_bind_176 := rfl
theorem atX11_bind_188 : rm_at tX11_bind 188 = some bX11_bind_188 := rfl
theorem atX11_bind_198 : rm_at tX11_bind 198 = some bX11_bind_198 := rfl
theorem atX11_bind_200 : rm_at tX11_bind 200 = some bX11_bind_200 := rfl
def bX11_rescue_0 : List rm_J := [
  (.aload 0, .aload_n 0, 1, 0, 0, 0, .null, rm_M0, []),
  (.invokevirtual 207, .invokevirtual 207, 3, 0, 0, 0, .null, mX11_isTold, [(0, 932), (0, 934), (0, 25)]),
  (.ifCond .eq 22, .ifCond .eq 22, 3, 26, 0, 0, .null, rm_M0, []),
  (.iload 1, .iload_n 1, 1, 0, 0, 0, .null, rm_M0, []),
  (.nop, .iconst 1, 1, 0, 0, 0, .int 1, rm_M0, []),
  (.nop, .bipush 60, 2, 0, 0, 0, .int 60, rm_M0, []),
  (.invokestatic 211, .invokestatic 211, 3, 0, 3, 0, .null, mX11_isWithin, [(0, 936), (0, 937)]),
  (.ifCond .eq 12, .ifCond .eq 12, 3, 26, 0, 0, .null, rm_M0, []),
  (.iload 2, .iload_n 2, 1, 0, 0, 0, .null, rm_M0, []),
  (.nop, .iconst 0, 1, 0, 0, 0, .int 0, rm_M0, []),
  (.nop, .iconst 1, 1, 0, 0, 0, .int 1, rm_M0, []),
  (.invokestatic 211, .invokestatic 211, 3, 0, 3, 0, .null, mX11_isWithin, [(0, 936), (0, 937)]),
  (.ifCond .ne 5, .ifCond .ne 5, 3, 28, 0, 0, .null, rm_M0, [])]
def bX11_rescue_26 : List rm_J := [
  (.nop, .iconst (-1), 1, 0, 0, 0, .int (-1), rm_M0, []),
  (.ireturn, .ireturn, 1, 0, 0, 0, .null, rm_M0, [])]
def bX11_rescue_28 : List rm_J := [
  (.aload 0, .aload_n 0, 1, 0, 0, 0, .null, rm_M0, []),
  (.getfield 32, .getfield 32, 3, 11, 4, 453, .null, rm_M0, []),
  (.getfield 110, .getfield 110, 3, 0, 0, 344, .null, rm_M0, []),
  (.invokevirtual 139, .invokevirtual 139, 3, 0, 0, 0, .null, mX7_openSet, [(0, 802), (0, 799), (0, 800)]),
  (.istore 3, .istore_n 3, 1, 0, 0, 0, .null, rm_M0, []),
  (.nop, .bipush (-2), 2, 0, 0, 0, .int (-2), rm_M0, []),
  (.istore 4, .istore 4, 2, 0, 0, 0, .null, rm_M0, []),
  (.nop, .bipush 9, 2, 0, 0, 0, .int 9, rm_M0, []),
  (.istore 5, .istore 5, 2, 0, 0, 0, .null, rm_M0, []),
  (.nop, .iconst 0, 1, 0, 0, 0, .int 0, rm_M0, []),
  (.istore 6, .istore 6, 2, 0, 0, 0, .null, rm_M0, [])]
def bX11_rescue_50 : List rm_J := [
  (.iload 6, .iload 6, 2, 0, 0, 0, .null, rm_M0, []),
  (.iload 3, .iload_n 3, 1, 0, 0, 0, .null, rm_M0, []),
  (.if_icmp .gt 50, .if_icmp .gt 50, 3, 103, 0, 0, .null, rm_M0, []),
  (.iload 6, .iload 6, 2, 0, 0, 0, .null, rm_M0, []),
  (.invokestatic 241, .invokestatic 241, 3, 0, 1, 0, .null, mJ6_bitCount_0f7a4, [(0, 993), (0, 866)]),
  (.istore 7, .istore 7, 2, 0, 0, 0, .null, rm_M0, []),
  (.iload 6, .iload 6, 2, 0, 0, 0, .null, rm_M0, []),
  (.iload 3, .iload_n 3, 1, 0, 0, 0, .null, rm_M0, []),
  (.nop, .iconst (-1), 1, 0, 0, 0, .int (-1), rm_M0, []),
  (.ixor, .ixor, 1, 0, 0, 0, .null, rm_M0, []),
  (.iand, .iand, 1, 0, 0, 0, .null, rm_M0, []),
  (.ifCond .ne 28, .ifCond .ne 28, 3, 97, 0, 0, .null, rm_M0, []),
  (.iload 7, .iload 7, 2, 0, 0, 0, .null, rm_M0, []),
  (.iload 5, .iload 5, 2, 0, 0, 0, .null, rm_M0, []),
  (.if_icmp .ge 21, .if_icmp .ge 21, 3, 97, 0, 0, .null, rm_M0, []),
  (.aload 0, .aload_n 0, 1, 0, 0, 0, .null, rm_M0, []),
  (.iload 6, .iload 6, 2, 0, 0, 0, .null, rm_M0, []),
  (.iload 1, .iload_n 1, 1, 0, 0, 0, .null, rm_M0, []),
  (.invokevirtual 246, .invokevirtual 246, 3, 0, 2, 0, .null, mX11_rescuesAll, [(0, 994), (0, 996), (0, 28)]),
  (.ifCond .eq 11, .ifCond .eq 11, 3, 97, 0, 0, .null, rm_M0, []),
  (.iload 6, .iload 6, 2, 0, 0, 0, .null, rm_M0, []),
  (.istore 4, .istore 4, 2, 0, 0, 0, .null, rm_M0, []),
  (.iload 7, .iload 7, 2, 0, 0, 0, .null, rm_M0, []),
  (.istore 5, .istore 5, 2, 0, 0, 0, .null, rm_M0, [])]
def bX11_rescue_97 : List rm_J := [
  (.iinc 6 1, .iinc 6 1, 3, 0, 0, 0, .int 1, rm_M0, []),
  (.goto (-50), .goto (-50), 3, 50, 0, 0, .null, rm_M0, [])]
def bX11_rescue_103 : List rm_J := [
  (.iload 2, .iload_n 2, 1, 0, 0, 0, .null, rm_M0, []),
  (.nop, .iconst 1, 1, 0, 0, 0, .int 1, rm_M0, []),
  (.if_icmp .eq 10, .if_icmp .eq 10, 3, 115, 0, 0, .null, rm_M0, []),
  (.iload 4, .iload 4, 2, 0, 0, 0, .null, rm_M0, []),
  (.nop, .bipush (-2), 2, 0, 0, 0, .int (-2), rm_M0, []),
  (.if_icmp .ne 8, .if_icmp .ne 8, 3, 120, 0, 0, .null, rm_M0, [])]
def bX11_rescue_115 : List rm_J := [
  (.iload 4, .iload 4, 2, 0, 0, 0, .null, rm_M0, []),
  (.goto 5, .goto 5, 3, 122, 0, 0, .null, rm_M0, [])]
def bX11_rescue_120 : List rm_J := [
  (.iload 5, .iload 5, 2, 0, 0, 0, .null, rm_M0, [])]
def bX11_rescue_122 : List rm_J := [
  (.ireturn, .ireturn, 1, 0, 0, 0, .null, rm_M0, [])]
def tX11_rescue : rm_P := [(0, bX11_rescue_0), (26, bX11_rescue_26), (28, bX11_rescue_28), (50, bX11_rescue_50), (97, bX11_rescue_97), (103, bX11_rescue_103), (115, bX11_rescue_115), (120, bX11_rescue_120), (122, bX11_rescue_122)]
theorem ok_X11_rescue_t : rm_okP mX11_rescue tX11_rescue = true := by decide +kernel
theorem ok_X11_rescue : rm_okM mX11_rescue tX11_rescue := ⟨ok_X11_rescue_t, List.forall_mem_cons.mpr ⟨cw_X11_isTold, List.forall_mem_cons.mpr ⟨cw_X11_isWithin, List.forall_mem_cons.mpr ⟨cw_X11_isWithin, List.forall_mem_cons.mpr ⟨cw_X7_openSet, List.forall_mem_cons.mpr ⟨cw_J6_bitCount_0f7a4, List.forall_mem_cons.mpr ⟨cw_X11_rescuesAll, fun _ h => absurd h List.not_mem_nil⟩⟩⟩⟩⟩⟩⟩
theorem atX11_rescue_0 : rm_at tX11_rescue 0 = some bX11_rescue_0 := rfl
theorem atX11_rescue_26 : rm_at tX11_rescue 26 = some bX11_rescue_26 := rfl
theorem atX11_rescue_28 : rm_at tX11_rescue 28 = some bX11_rescue_28 := rfl
theorem atX11_rescue_50 : rm_at tX11_rescue 50 = some bX11_rescue_50 := rfl
theorem atX11_rescue_97 : rm_at tX11_rescue 97 = some bX11_rescue_97 := rfl
theorem atX11_rescue_103 : rm_at tX11_rescue 103 = some bX11_rescue_103 := rfl
theorem atX11_rescue_115 : rm_at tX11_rescue 115 = some bX11_rescue_115 := rfl
theorem atX11_rescue_120 : rm_at tX11_rescue 120 = some bX11_rescue_120 := rfl
theorem atX11_rescue_122 : rm_at tX11_rescue 122 = some bX11_rescue_122 := rfl
def bX11_cover_0 : List rm_J := [
  (.aload 0, .aload_n 0, 1, 0, 0, 0, .null, rm_M0, []),
  (.invokevirtual 207, .invokevirtual 207, 3, 0, 0, 0, .null, mX11_isTold, [(0, 932), (0, 934), (0, 25)]),
  (.ifCond .eq 12, .ifCond .eq 12, 3, 16, 0, 0, .null, rm_M0, []),
  (.iload 1, .iload_n 1, 1, 0, 0, 0, .null, rm_M0, []),
  (.nop, .iconst 0, 1, 0, 0, 0, .int 0, rm_M0, []),
  (.nop, .iconst 1, 1, 0, 0, 0, .int 1, rm_M0, []),
  (.invokestatic 211, .invokestatic 211, 3, 0, 3, 0, .null, mX11_isWithin, [(0, 936), (0, 937)]),
  (.ifCond .ne 5, .ifCond .ne 5, 3, 18, 0, 0, .null, rm_M0, [])]
def bX11_cover_16 : List rm_J := [
  (.nop, .iconst (-1), 1, 0, 0, 0, .int (-1), rm_M0, []),
  (.ireturn, .ireturn, 1, 0, 0, 0, .null, rm_M0, [])]
def bX11_cover_18 : List rm_J := [
  (.aload 0, .aload_n 0, 1, 0, 0, 0, .null, rm_M0, []),
  (.getfield 32, .getfield 32, 3, 11, 4, 453, .null, rm_M0, []),
  (.getfield 110, .getfield 110, 3, 0, 0, 344, .null, rm_M0, []),
  (.invokevirtual 139, .invokevirtual 139, 3, 0, 0, 0, .null, mX7_openSet, [(0, 802), (0, 799), (0, 800)]),
  (.istore 2, .istore_n 2, 1, 0, 0, 0, .null, rm_M0, []),
  (.iload 2, .iload_n 2, 1, 0, 0, 0, .null, rm_M0, []),
  (.istore 3, .istore_n 3, 1, 0, 0, 0, .null, rm_M0, []),
  (.nop, .bipush 9, 2, 0, 0, 0, .int 9, rm_M0, []),
  (.istore 4, .istore 4, 2, 0, 0, 0, .null, rm_M0, []),
  (.nop, .iconst 0, 1, 0, 0, 0, .int 0, rm_M0, []),
  (.istore 5, .istore 5, 2, 0, 0, 0, .null, rm_M0, [])]
def bX11_cover_38 : List rm_J := [
  (.iload 5, .iload 5, 2, 0, 0, 0, .null, rm_M0, []),
  (.iload 2, .iload_n 2, 1, 0, 0, 0, .null, rm_M0, []),
  (.if_icmp .gt 55, .if_icmp .gt 55, 3, 96, 0, 0, .null, rm_M0, []),
  (.iload 5, .iload 5, 2, 0, 0, 0, .null, rm_M0, []),
  (.invokestatic 241, .invokestatic 241, 3, 0, 1, 0, .null, mJ6_bitCount_0f7a4, [(0, 993), (0, 866)]),
  (.istore 6, .istore 6, 2, 0, 0, 0, .null, rm_M0, []),
  (.iload 5, .iload 5, 2, 0, 0, 0, .null, rm_M0, []),
  (.iload 2, .iload_n 2, 1, 0, 0, 0, .null, rm_M0, []),
  (.nop, .iconst (-1), 1, 0, 0, 0, .int (-1), rm_M0, []),
  (.ixor, .ixor, 1, 0, 0, 0, .null, rm_M0, []),
  (.iand, .iand, 1, 0, 0, 0, .null, rm_M0, []),
  (.ifCond .ne 33, .ifCond .ne 33, 3, 90, 0, 0, .null, rm_M0, []),
  (.iload 6, .iload 6, 2, 0, 0, 0, .null, rm_M0, []),
  (.iload 4, .iload 4, 2, 0, 0, 0, .null, rm_M0, []),
  (.if_icmp .ge 26, .if_icmp .ge 26, 3, 90, 0, 0, .null, rm_M0, []),
  (.aload 0, .aload_n 0, 1, 0, 0, 0, .null, rm_M0, []),
  (.getfield 32, .getfield 32, 3, 11, 4, 453, .null, rm_M0, []),
  (.getfield 110, .getfield 110, 3, 0, 0, 344, .null, rm_M0, []),
  (.iload 5, .iload 5, 2, 0, 0, 0, .null, rm_M0, []),
  (.iload 2, .iload_n 2, 1, 0, 0, 0, .null, rm_M0, []),
  (.invokevirtual 249, .invokevirtual 249, 3, 0, 2, 0, .null, mX7_covers, [(0, 1002), (0, 1003), (0, 1004)]),
  (.ifCond .eq 10, .ifCond .eq 10, 3, 90, 0, 0, .null, rm_M0, []),
  (.iload 5, .iload 5, 2, 0, 0, 0, .null, rm_M0, []),
  (.istore 3, .istore_n 3, 1, 0, 0, 0, .null, rm_M0, []),
  (.iload 6, .iload 6, 2, 0, 0, 0, .null, rm_M0, []),
  (.istore 4, .istore 4, 2, 0, 0, 0, .null, rm_M0, [])]
def bX11_cover_90 : List rm_J := [
  (.iinc 5 1, .iinc 5 1, 3, 0, 0, 0, .int 1, rm_M0, []),
  (.goto (-55), .goto (-55), 3, 38, 0, 0, .null, rm_M0, [])]
def bX11_cover_96 : List rm_J := [
  (.iload 1, .iload_n 1, 1, 0, 0, 0, .null, rm_M0, []),
  (.ifCond .ne 8, .ifCond .ne 8, 3, 105, 0, 0, .null, rm_M0, []),
  (.iload 4, .iload 4, 2, 0, 0, 0, .null, rm_M0, []),
  (.goto 4, .goto 4, 3, 106, 0, 0, .null, rm_M0, [])]
def bX11_cover_105 : List rm_J := [
  (.iload 3, .iload_n 3, 1, 0, 0, 0, .null, rm_M0, [])]
def bX11_cover_106 : List rm_J := [
  (.ireturn, .ireturn, 1, 0, 0, 0, .null, rm_M0, [])]
def tX11_cover : rm_P := [(0, bX11_cover_0), (16, bX11_cover_16), (18, bX11_cover_18), (38, bX11_cover_38), (90, bX11_cover_90), (96, bX11_cover_96), (105, bX11_cover_105), (106, bX11_cover_106)]
theorem ok_X11_cover_t : rm_okP mX11_cover tX11_cover = true := by decide +kernel
theorem ok_X11_cover : rm_okM mX11_cover tX11_cover := ⟨ok_X11_cover_t, List.forall_mem_cons.mpr ⟨cw_X11_isTold, List.forall_mem_cons.mpr ⟨cw_X11_isWithin, List.forall_mem_cons.mpr ⟨cw_X7_openSet, List.forall_mem_cons.mpr ⟨cw_J6_bitCount_0f7a4, List.forall_mem_cons.mpr ⟨cw_X7_covers, fun _ h => absurd h List.not_mem_nil⟩⟩⟩⟩⟩⟩
theorem atX11_cover_0 : rm_at tX11_cover 0 = some bX11_cover_0 := rfl
theorem atX11_cover_16 : rm_at tX11_cover 16 = some bX11_cover_16 := rfl
theorem atX11_cover_18 : rm_at tX11_cover 18 = some bX11_cover_18 := rfl
theorem atX11_cover_38 : rm_at tX11_cover 38 = some bX11_cover_38 := rfl
theorem atX11_cover_90 : rm_at tX11_cover 90 = some bX11_cover_90 := rfl
theorem atX11_cover_96 : rm_at tX11_cover 96 = some bX11_cover_96 := rfl
theorem atX11_cover_105 : rm_at tX11_cover 105 = some bX11_cover_105 := rfl
theorem atX11_cover_106 : rm_at tX11_cover 106 = some bX11_cover_106 := rfl
def bX11_today_0 : List rm_J := [
  (.aload 0, .aload_n 0, 1, 0, 0, 0, .null, rm_M0, []),
  (.invokevirtual 207, .invokevirtual 207, 3, 0, 0, 0, .null, mX11_isTold, [(0, 932), (0, 934), (0, 25)]),
  (.ifCond .eq 13, .ifCond .eq 13, 3, 17, 0, 0, .null, rm_M0, []),
  (.iload 1, .iload_n 1, 1, 0, 0, 0, .null, rm_M0, []),
  (.nop, .iconst 1, 1, 0, 0, 0, .int 1, rm_M0, []),
  (.nop, .bipush 60, 2, 0, 0, 0, .int 60, rm_M0, []),
  (.invokestatic 211, .invokestatic 211, 3, 0, 3, 0, .null, mX11_isWithin, [(0, 936), (0, 937)]),
  (.ifCond .ne 6, .ifCond .ne 6, 3, 20, 0, 0, .null, rm_M0, [])]
def bX11_today_17 : List rm_J := [
  (.nop, .ldc 224, 2, 0, 0, 952, .int (-100000), rm_M0, []),
  (.ireturn, .ireturn, 1, 0, 0, 0, .null, rm_M0, [])]
def bX11_today_20 : List rm_J := [
  (.aload 0, .aload_n 0, 1, 0, 0, 0, .null, rm_M0, []),
  (.getfield 43, .getfield 43, 3, 11, 6, 455, .null, rm_M0, []),
  (.aload 0, .aload_n 0, 1, 0, 0, 0, .null, rm_M0, []),
  (.getfield 32, .getfield 32, 3, 11, 4, 453, .null, rm_M0, []),
  (.getfield 110, .getfield 110, 3, 0, 0, 344, .null, rm_M0, []),
  (.aload 0, .aload_n 0, 1, 0, 0, 0, .null, rm_M0, []),
  (.invokevirtual 164, .invokevirtual 164, 3, 0, 0, 0, .null, mX11_ruleInForce, [(0, 823), (0, 825), (0, 21)]),
  (.invokevirtual 168, .invokevirtual 168, 3, 0, 2, 0, .null, mX9_start, [(0, 831), (0, 832), (0, 833)]),
  (.aload 0, .aload_n 0, 1, 0, 0, 0, .null, rm_M0, []),
  (.getfield 43, .getfield 43, 3, 11, 6, 455, .null, rm_M0, []),
  (.iload 1, .iload_n 1, 1, 0, 0, 0, .null, rm_M0, []),
  (.invokevirtual 238, .invokevirtual 238, 3, 0, 1, 0, .null, mX9_balanceBehind, [(0, 980), (0, 981), (0, 982)]),
  (.istore 2, .istore_n 2, 1, 0, 0, 0, .null, rm_M0, []),
  (.iload 2, .iload_n 2, 1, 0, 0, 0, .null, rm_M0, []),
  (.aload 0, .aload_n 0, 1, 0, 0, 0, .null, rm_M0, []),
  (.nop, .iconst 0, 1, 0, 0, 0, .int 0, rm_M0, []),
  (.iload 1, .iload_n 1, 1, 0, 0, 0, .null, rm_M0, []),
  (.invokevirtual 252, .invokevirtual 252, 3, 0, 2, 0, .null, mX11_balanceWithEgg, [(0, 1010), (0, 1012), (0, 29)]),
  (.isub, .isub, 1, 0, 0, 0, .null, rm_M0, []),
  (.ireturn, .ireturn, 1, 0, 0, 0, .null, rm_M0, [])]
def tX11_today : rm_P := [(0, bX11_today_0), (17, bX11_today_17), (20, bX11_today_20)]
theorem ok_X11_today_t : rm_okP mX11_today tX11_today = true := by decide +kernel
theorem ok_X11_today : rm_okM mX11_today tX11_today := ⟨ok_X11_today_t, List.forall_mem_cons.mpr ⟨cw_X11_isTold, List.forall_mem_cons.mpr ⟨cw_X11_isWithin, List.forall_mem_cons.mpr ⟨cw_X11_ruleInForce, List.forall_mem_cons.mpr ⟨cw_X9_start, List.forall_mem_cons.mpr ⟨cw_X9_balanceBehind, List.forall_mem_cons.mpr ⟨cw_X11_balanceWithEgg, fun _ h => absurd h List.not_mem_nil⟩⟩⟩⟩⟩⟩⟩
theorem atX11_today_0 : rm_at tX11_today 0 = some bX11_today_0 := rfl
theorem atX11_today_17 : rm_at tX11_today 17 = some bX11_today_17 := rfl
theorem atX11_today_20 : rm_at tX11_today 20 = some bX11_today_20 := rfl
def bX11_waste_0 : List rm_J := [
  (.aload 0, .aload_n 0, 1, 0, 0, 0, .null, rm_M0, []),
  (.invokevirtual 207, .invokevirtual 207, 3, 0, 0, 0, .null, mX11_isTold, [(0, 932), (0, 934), (0, 25)]),
  (.ifCond .eq 22, .ifCond .eq 22, 3, 26, 0, 0, .null, rm_M0, []),
  (.iload 1, .iload_n 1, 1, 0, 0, 0, .null, rm_M0, []),
  (.nop, .iconst 1, 1, 0, 0, 0, .int 1, rm_M0, []),
  (.nop, .bipush 20, 2, 0, 0, 0, .int 20, rm_M0, []),
  (.invokestatic 211, .invokestatic 211, 3, 0, 3, 0, .null, mX11_isWithin, [(0, 936), (0, 937)]),
  (.ifCond .eq 12, .ifCond .eq 12, 3, 26, 0, 0, .null, rm_M0, []),
  (.iload 2, .iload_n 2, 1, 0, 0, 0, .null, rm_M0, []),
  (.nop, .iconst 0, 1, 0, 0, 0, .int 0, rm_M0, []),
  (.nop, .iconst 1, 1, 0, 0, 0, .int 1, rm_M0, []),
  (.invokestatic 211, .invokestatic 211, 3, 0, 3, 0, .null, mX11_isWithin, [(0, 936), (0, 937)]),
  (.ifCond .ne 6, .ifCond .ne 6, 3, 29, 0, 0, .null, rm_M0, [])]
def bX11_waste_26 : List rm_J := [
  (.nop, .ldc 224, 2, 0, 0, 952, .int (-100000), rm_M0, []),
  (.ireturn, .ireturn, 1, 0, 0, 0, .null, rm_M0, [])]
def bX11_waste_29 : List rm_J := [
  (.nop, .iconst 0, 1, 0, 0, 0, .int 0, rm_M0, []),
  (.istore 3, .istore_n 3, 1, 0, 0, 0, .null, rm_M0, []),
  (.aload 0, .aload_n 0, 1, 0, 0, 0, .null, rm_M0, []),
  (.nop, .iconst 0, 1, 0, 0, 0, .int 0, rm_M0, []),
  (.iload 1, .iload_n 1, 1, 0, 0, 0, .null, rm_M0, []),
  (.invokevirtual 252, .invokevirtual 252, 3, 0, 2, 0, .null, mX11_balanceWithEgg, [(0, 1010), (0, 1012), (0, 29)]),
  (.istore 4, .istore 4, 2, 0, 0, 0, .null, rm_M0, []),
  (.nop, .iconst 1, 1, 0, 0, 0, .int 1, rm_M0, []),
  (.istore 5, .istore 5, 2, 0, 0, 0, .null, rm_M0, [])]
def bX11_waste_42 : List rm_J := [
  (.iload 5, .iload 5, 2, 0, 0, 0, .null, rm_M0, []),
  (.iload 1, .iload_n 1, 1, 0, 0, 0, .null, rm_M0, []),
  (.if_icmp .ge 32, .if_icmp .ge 32, 3, 77, 0, 0, .null, rm_M0, []),
  (.aload 0, .aload_n 0, 1, 0, 0, 0, .null, rm_M0, []),
  (.iload 5, .iload 5, 2, 0, 0, 0, .null, rm_M0, []),
  (.iload 1, .iload_n 1, 1, 0, 0, 0, .null, rm_M0, []),
  (.invokevirtual 252, .invokevirtual 252, 3, 0, 2, 0, .null, mX11_balanceWithEgg, [(0, 1010), (0, 1012), (0, 29)]),
  (.istore 6, .istore 6, 2, 0, 0, 0, .null, rm_M0, []),
  (.iload 6, .iload 6, 2, 0, 0, 0, .null, rm_M0, []),
  (.iload 4, .iload 4, 2, 0, 0, 0, .null, rm_M0, []),
  (.if_icmp .le 10, .if_icmp .le 10, 3, 71, 0, 0, .null, rm_M0, []),
  (.iload 6, .iload 6, 2, 0, 0, 0, .null, rm_M0, []),
  (.istore 4, .istore 4, 2, 0, 0, 0, .null, rm_M0, []),
  (.iload 5, .iload 5, 2, 0, 0, 0, .null, rm_M0, []),
  (.istore 3, .istore_n 3, 1, 0, 0, 0, .null, rm_M0, [])]
def bX11_waste_71 : List rm_J := [
  (.iinc 5 1, .iinc 5 1, 3, 0, 0, 0, .int 1, rm_M0, []),
  (.goto (-32), .goto (-32), 3, 42, 0, 0, .null, rm_M0, [])]
def bX11_waste_77 : List rm_J := [
  (.iload 2, .iload_n 2, 1, 0, 0, 0, .null, rm_M0, []),
  (.ifCond .ne 7, .ifCond .ne 7, 3, 85, 0, 0, .null, rm_M0, []),
  (.iload 3, .iload_n 3, 1, 0, 0, 0, .null, rm_M0, []),
  (.goto 16, .goto 16, 3, 98, 0, 0, .null, rm_M0, [])]
def bX11_waste_85 : List rm_J := [
  (.iload 4, .iload 4, 2, 0, 0, 0, .null, rm_M0, []),
  (.aload 0, .aload_n 0, 1, 0, 0, 0, .null, rm_M0, []),
  (.getfield 32, .getfield 32, 3, 11, 4, 453, .null, rm_M0, []),
  (.getfield 110, .getfield 110, 3, 0, 0, 344, .null, rm_M0, []),
  (.invokevirtual 232, .invokevirtual 232, 3, 0, 0, 0, .null, mX7_balance, [(0, 975), (0, 963), (0, 964)]),
  (.isub, .isub, 1, 0, 0, 0, .null, rm_M0, [])]
def bX11_waste_98 : List rm_J := [
  (.ireturn, .ireturn, 1, 0, 0, 0, .null, rm_M0, [])]
def tX11_waste : rm_P := [(0, bX11_waste_0), (26, bX11_waste_26), (29, bX11_waste_29), (42, bX11_waste_42), (71, bX11_waste_71), (77, bX11_waste_77), (85, bX11_waste_85), (98, bX11_waste_98)]
theorem ok_X11_waste_t : rm_okP mX11_waste tX11_waste = true := by decide +kernel
theorem ok_X11_waste : rm_okM mX11_waste tX11_waste := ⟨ok_X11_waste_t, List.forall_mem_cons.mpr ⟨cw_X11_isTold, List.forall_mem_cons.mpr ⟨cw_X11_isWithin, List.forall_mem_cons.mpr ⟨cw_X11_isWithin, List.forall_mem_cons.mpr ⟨cw_X11_balanceWithEgg, List.forall_mem_cons.mpr ⟨cw_X11_balanceWithEgg, List.forall_mem_cons.mpr ⟨cw_X7_balance, fun _ h => absurd h List.not_mem_nil⟩⟩⟩⟩⟩⟩⟩
theorem atX11_waste_0 : rm_at tX11_waste 0 = some bX11_waste_0 := rfl
theorem atX11_waste_26 : rm_at tX11_waste 26 = some bX11_waste_26 := rfl
theorem atX11_waste_29 : rm_at tX11_waste 29 = some bX11_waste_29 := rfl
theorem atX11_waste_42 : rm_at tX11_waste 42 = some bX11_waste_42 := rfl
theorem atX11_waste_71 : rm_at tX11_waste 71 = some bX11_waste_71 := rfl
theorem atX11_waste_77 : rm_at tX11_waste 77 = some bX11_waste_77 := rfl
theorem atX11_waste_85 : rm_at tX11_waste 85 = some bX11_waste_85 := rfl
theorem atX11_waste_98 : rm_at tX11_waste 98 = some bX11_waste_98 := rfl
def bX11_blame_0 : List rm_J := [
  (.aload 0, .aload_n 0, 1, 0, 0, 0, .null, rm_M0, []),
  (.iload 2, .iload_n 2, 1, 0, 0, 0, .null, rm_M0, []),
  (.invokevirtual 107, .invokevirtual 107, 3, 0, 1, 0, .null, mX11_isQuestion, [(0, 780), (0, 782), (0, 19)]),
  (.ifCond .eq 14, .ifCond .eq 14, 3, 19, 0, 0, .null, rm_M0, []),
  (.iload 1, .iload_n 1, 1, 0, 0, 0, .null, rm_M0, []),
  (.nop, .iconst 0, 1, 0, 0, 0, .int 0, rm_M0, []),
  (.nop, .sipush 9999, 3, 0, 0, 0, .int 9999, rm_M0, []),
  (.invokestatic 211, .invokestatic 211, 3, 0, 3, 0, .null, mX11_isWithin, [(0, 936), (0, 937)]),
  (.ifCond .ne 5, .ifCond .ne 5, 3, 21, 0, 0, .null, rm_M0, [])]
def bX11_blame_19 : List rm_J := [
  (.nop, .iconst (-1), 1, 0, 0, 0, .int (-1), rm_M0, []),
  (.ireturn, .ireturn, 1, 0, 0, 0, .null, rm_M0, [])]
def bX11_blame_21 : List rm_J := [
  (.aload 0, .aload_n 0, 1, 0, 0, 0, .null, rm_M0, []),
  (.getfield 32, .getfield 32, 3, 11, 4, 453, .null, rm_M0, []),
  (.getfield 110, .getfield 110, 3, 0, 0, 344, .null, rm_M0, []),
  (.astore 3, .astore_n 3, 1, 0, 0, 0, .null, rm_M0, []),
  (.aload 3, .aload_n 3, 1, 0, 0, 0, .null, rm_M0, []),
  (.iload 2, .iload_n 2, 1, 0, 0, 0, .null, rm_M0, []),
  (.invokevirtual 255, .invokevirtual 255, 3, 0, 1, 0, .null, mX7_isLost, [(0, 1022), (0, 790), (0, 791)]),
  (.ifCond .ne 5, .ifCond .ne 5, 3, 39, 0, 0, .null, rm_M0, []),
  (.nop, .iconst 0, 1, 0, 0, 0, .int 0, rm_M0, []),
  (.ireturn, .ireturn, 1, 0, 0, 0, .null, rm_M0, [])]
def bX11_blame_39 : List rm_J := [
  (.aload 3, .aload_n 3, 1, 0, 0, 0, .null, rm_M0, []),
  (.invokevirtual 258, .invokevirtual 258, 3, 0, 0, 0, .null, mX7_lostWeight, [(0, 1023), (0, 1024), (0, 1025)]),
  (.istore 4, .istore 4, 2, 0, 0, 0, .null, rm_M0, []),
  (.iload 4, .iload 4, 2, 0, 0, 0, .null, rm_M0, []),
  (.nop, .iconst 1, 1, 0, 0, 0, .int 1, rm_M0, []),
  (.if_icmp .ge 5, .if_icmp .ge 5, 3, 53, 0, 0, .null, rm_M0, []),
  (.nop, .iconst 0, 1, 0, 0, 0, .int 0, rm_M0, []),
  (.ireturn, .ireturn, 1, 0, 0, 0, .null, rm_M0, [])]
def bX11_blame_53 : List rm_J := [
  (.iload 1, .iload_n 1, 1, 0, 0, 0, .null, rm_M0, []),
  (.istore 5, .istore 5, 2, 0, 0, 0, .null, rm_M0, []),
  (.nop, .iconst 0, 1, 0, 0, 0, .int 0, rm_M0, []),
  (.istore 6, .istore 6, 2, 0, 0, 0, .null, rm_M0, []),
  (.iload 1, .iload_n 1, 1, 0, 0, 0, .null, rm_M0, []),
  (.aload 3, .aload_n 3, 1, 0, 0, 0, .null, rm_M0, []),
  (.iload 2, .iload_n 2, 1, 0, 0, 0, .null, rm_M0, []),
  (.invokevirtual 261, .invokevirtual 261, 3, 0, 1, 0, .null, mX7_weight, [(0, 1031), (0, 1028), (0, 1029)]),
  (.imul, .imul, 1, 0, 0, 0, .null, rm_M0, []),
  (.iload 4, .iload 4, 2, 0, 0, 0, .null, rm_M0, []),
  (.irem, .irem, 1, 0, 0, 0, .null, rm_M0, []),
  (.istore 7, .istore 7, 2, 0, 0, 0, .null, rm_M0, []),
  (.nop, .iconst 0, 1, 0, 0, 0, .int 0, rm_M0, []),
  (.istore 8, .istore 8, 2, 0, 0, 0, .null, rm_M0, [])]
def bX11_blame_74 : List rm_J := [
  (.iload 8, .iload 8, 2, 0, 0, 0, .null, rm_M0, []),
  (.aload 3, .aload_n 3, 1, 0, 0, 0, .null, rm_M0, []),
  (.getfield 119, .getfield 119, 3, 7, 0, 263, .null, rm_M0, []),
  (.getfield 93, .getfield 93, 3, 3, 3, 221, .null, rm_M0, []),
  (.if_icmp .ge 77, .if_icmp .ge 77, 3, 160, 0, 0, .null, rm_M0, []),
  (.aload 3, .aload_n 3, 1, 0, 0, 0, .null, rm_M0, []),
  (.iload 8, .iload 8, 2, 0, 0, 0, .null, rm_M0, []),
  (.invokevirtual 255, .invokevirtual 255, 3, 0, 1, 0, .null, mX7_isLost, [(0, 1022), (0, 790), (0, 791)]),
  (.ifCond .eq 62, .ifCond .eq 62, 3, 154, 0, 0, .null, rm_M0, []),
  (.iload 5, .iload 5, 2, 0, 0, 0, .null, rm_M0, []),
  (.iload 1, .iload_n 1, 1, 0, 0, 0, .null, rm_M0, []),
  (.aload 3, .aload_n 3, 1, 0, 0, 0, .null, rm_M0, []),
  (.iload 8, .iload 8, 2, 0, 0, 0, .null, rm_M0, []),
  (.invokevirtual 261, .invokevirtual 261, 3, 0, 1, 0, .null, mX7_weight, [(0, 1031), (0, 1028), (0, 1029)]),
  (.imul, .imul, 1, 0, 0, 0, .null, rm_M0, []),
  (.iload 4, .iload 4, 2, 0, 0, 0, .null, rm_M0, []),
  (.idiv, .idiv, 1, 0, 0, 0, .null, rm_M0, []),
  (.isub, .isub, 1, 0, 0, 0, .null, rm_M0, []),
  (.istore 5, .istore 5, 2, 0, 0, 0, .null, rm_M0, []),
  (.iload 1, .iload_n 1, 1, 0, 0, 0, .null, rm_M0, []),
  (.aload 3, .aload_n 3, 1, 0, 0, 0, .null, rm_M0, []),
  (.iload 8, .iload 8, 2, 0, 0, 0, .null, rm_M0, []),
  (.invokevirtual 261, .invokevirtual 261, 3, 0, 1, 0, .null, mX7_weight, [(0, 1031), (0, 1028), (0, 1029)]),
  (.imul, .imul, 1, 0, 0, 0, .null, rm_M0, []),
  (.iload 4, .iload 4, 2, 0, 0, 0, .null, rm_M0, []),
  (.irem, .irem, 1, 0, 0, 0, .null, rm_M0, []),
  (.istore 9, .istore 9, 2, 0, 0, 0, .null, rm_M0, []),
  (.iload 6, .iload 6, 2, 0, 0, 0, .null, rm_M0, []),
  (.iload 9, .iload 9, 2, 0, 0, 0, .null, rm_M0, []),
  (.iload 7, .iload 7, 2, 0, 0, 0, .null, rm_M0, []),
  (.if_icmp .gt 16, .if_icmp .gt 16, 3, 146, 0, 0, .null, rm_M0, []),
  (.iload 9, .iload 9, 2, 0, 0, 0, .null, rm_M0, []),
  (.iload 7, .iload 7, 2, 0, 0, 0, .null, rm_M0, []),
  (.if_icmp .ne 13, .if_icmp .ne 13, 3, 150, 0, 0, .null, rm_M0, []),
  (.iload 8, .iload 8, 2, 0, 0, 0, .null, rm_M0, []),
  (.iload 2, .iload_n 2, 1, 0, 0, 0, .null, rm_M0, []),
  (.if_icmp .ge 7, .if_icmp .ge 7, 3, 150, 0, 0, .null, rm_M0, [])]
def bX11_blame_146 : List rm_J := [
  (.nop, .iconst 1, 1, 0, 0, 0, .int 1, rm_M0, []),
  (.goto 4, .goto 4, 3, 151, 0, 0, .null, rm_M0, [])]
def bX11_blame_150 : List rm_J := [
  (.nop, .iconst 0, 1, 0, 0, 0, .int 0, rm_M0, [])]
def bX11_blame_151 : List rm_J := [
  (.iadd, .iadd, 1, 0, 0, 0, .null, rm_M0, []),
  (.istore 6, .istore 6, 2, 0, 0, 0, .null, rm_M0, [])]
def bX11_blame_154 : List rm_J := [
  (.iinc 8 1, .iinc 8 1, 3, 0, 0, 0, .int 1, rm_M0, []),
  (.goto (-83), .goto (-83), 3, 74, 0, 0, .null, rm_M0, [])]
def bX11_blame_160 : List rm_J := [
  (.iload 1, .iload_n 1, 1, 0, 0, 0, .null, rm_M0, []),
  (.aload 3, .aload_n 3, 1, 0, 0, 0, .null, rm_M0, []),
  (.iload 2, .iload_n 2, 1, 0, 0, 0, .null, rm_M0, []),
  (.invokevirtual 261, .invokevirtual 261, 3, 0, 1, 0, .null, mX7_weight, [(0, 1031), (0, 1028), (0, 1029)]),
  (.imul, .imul, 1, 0, 0, 0, .null, rm_M0, []),
  (.iload 4, .iload 4, 2, 0, 0, 0, .null, rm_M0, []),
  (.idiv, .idiv, 1, 0, 0, 0, .null, rm_M0, []),
  (.iload 6, .iload 6, 2, 0, 0, 0, .null, rm_M0, []),
  (.iload 5, .iload 5, 2, 0, 0, 0, .null, rm_M0, []),
  (.if_icmp .ge 7, .if_icmp .ge 7, 3, 181, 0, 0, .null, rm_M0, []),
  (.nop, .iconst 1, 1, 0, 0, 0, .int 1, rm_M0, []),
  (.goto 4, .goto 4, 3, 182, 0, 0, .null, rm_M0, [])]
def bX11_blame_181 : List rm_J := [
  (.nop, .iconst 0, 1, 0, 0, 0, .int 0, rm_M0, [])]
def bX11_blame_182 : List rm_J := [
  (.iadd, .iadd, 1, 0, 0, 0, .null, rm_M0, []),
  (.ireturn, .ireturn, 1, 0, 0, 0, .null, rm_M0, [])]
def tX11_blame : rm_P := [(0, bX11_blame_0), (19, bX11_blame_19), (21, bX11_blame_21), (39, bX11_blame_39), (53, bX11_blame_53), (74, bX11_blame_74), (146, bX11_blame_146), (150, bX11_blame_150), (151, bX11_blame_151), (154, bX11_blame_154), (160, bX11_blame_160), (181, bX11_blame_181), (182, bX11_blame_182)]
theorem ok_X11_blame_t : rm_okP mX11_blame tX11_blame = true := by decide +kernel
theorem ok_X11_blame : rm_okM mX11_blame tX11_blame := ⟨ok_X11_blame_t, List.forall_mem_cons.mpr ⟨cw_X11_isQuestion, List.forall_mem_cons.mpr ⟨cw_X11_isWithin, List.forall_mem_cons.mpr ⟨cw_X7_isLost, List.forall_mem_cons.mpr ⟨cw_X7_lostWeight, List.forall_mem_cons.mpr ⟨cw_X7_weight, List.forall_mem_cons.mpr ⟨cw_X7_isLost, List.forall_mem_cons.mpr ⟨cw_X7_weight, List.forall_mem_cons.mpr ⟨cw_X7_weight, List.forall_mem_cons.mpr ⟨cw_X7_weight, fun _ h => absurd h List.not_mem_nil⟩⟩⟩⟩⟩⟩⟩⟩⟩⟩
theorem atX11_blame_0 : rm_at tX11_blame 0 = some bX11_blame_0 := rfl
theorem atX11_blame_19 : rm_at tX11_blame 19 = some bX11_blame_19 := rfl
theorem atX11_blame_21 : rm_at tX11_blame 21 = some bX11_blame_21 := rfl
theorem atX11_blame_39 : rm_at tX11_blame 39 = some bX11_blame_39 := rfl
theorem atX11_blame_53 : rm_at tX11_blame 53 = some bX11_blame_53 := rfl
theorem atX11_blame_74 : rm_at tX11_blame 74 = some bX11_blame_74 := rfl
theorem atX11_blame_146 : rm_at tX11_blame 146 = some bX11_blame_146 := rfl
theorem atX11_blame_150 : rm_at tX11_blame 150 = some bX11_blame_150 := rfl
theorem atX11_blame_151 : rm_at tX11_blame 151 = some bX11_blame_151 := rfl
theorem atX11_blame_154 : rm_at tX11_blame 154 = some bX11_blame_154 := rfl
theorem atX11_blame_160 : rm_at tX11_blame 160 = some bX11_blame_160 := rfl
theorem atX11_blame_181 : rm_at tX11_blame 181 = some bX11_blame_181 := rfl
theorem atX11_blame_182 : rm_at tX11_blame 182 = some bX11_blame_182 := rfl
def bX11_woke_0 : List rm_J := [
  (.aload 0, .aload_n 0, 1, 0, 0, 0, .null, rm_M0, []),
  (.invokevirtual 207, .invokevirtual 207, 3, 0, 0, 0, .null, mX11_isTold, [(0, 932), (0, 934), (0, 25)]),
  (.ifCond .eq 25, .ifCond .eq 25, 3, 29, 0, 0, .null, rm_M0, []),
  (.aload 0, .aload_n 0, 1, 0, 0, 0, .null, rm_M0, []),
  (.iload 1, .iload_n 1, 1, 0, 0, 0, .null, rm_M0, []),
  (.invokevirtual 100, .invokevirtual 100, 3, 0, 1, 0, .null, mX11_isRuleOrNone, [(0, 772), (0, 774), (0, 18)]),
  (.ifCond .eq 17, .ifCond .eq 17, 3, 29, 0, 0, .null, rm_M0, []),
  (.iload 2, .iload_n 2, 1, 0, 0, 0, .null, rm_M0, []),
  (.nop, .iconst 1, 1, 0, 0, 0, .int 1, rm_M0, []),
  (.nop, .bipush 60, 2, 0, 0, 0, .int 60, rm_M0, []),
  (.invokestatic 211, .invokestatic 211, 3, 0, 3, 0, .null, mX11_isWithin, [(0, 936), (0, 937)]),
  (.ifCond .eq 7, .ifCond .eq 7, 3, 29, 0, 0, .null, rm_M0, []),
  (.nop, .iconst 1, 1, 0, 0, 0, .int 1, rm_M0, []),
  (.goto 4, .goto 4, 3, 30, 0, 0, .null, rm_M0, [])]
def bX11_woke_29 : List rm_J := [
  (.nop, .iconst 0, 1, 0, 0, 0, .int 0, rm_M0, [])]
def bX11_woke_30 : List rm_J := [
  (.istore 5, .istore 5, 2, 0, 0, 0, .null, rm_M0, []),
  (.iload 5, .iload 5, 2, 0, 0, 0, .null, rm_M0, []),
  (.ifCond .eq 24, .ifCond .eq 24, 3, 58, 0, 0, .null, rm_M0, []),
  (.iload 3, .iload_n 3, 1, 0, 0, 0, .null, rm_M0, []),
  (.nop, .iconst 0, 1, 0, 0, 0, .int 0, rm_M0, []),
  (.nop, .ldc_w 264, 3, 0, 0, 1036, .int 99999, rm_M0, []),
  (.invokestatic 211, .invokestatic 211, 3, 0, 3, 0, .null, mX11_isWithin, [(0, 936), (0, 937)]),
  (.ifCond .eq 13, .ifCond .eq 13, 3, 58, 0, 0, .null, rm_M0, []),
  (.iload 4, .iload 4, 2, 0, 0, 0, .null, rm_M0, []),
  (.nop, .iconst 0, 1, 0, 0, 0, .int 0, rm_M0, []),
  (.nop, .iconst 2, 1, 0, 0, 0, .int 2, rm_M0, []),
  (.invokestatic 211, .invokestatic 211, 3, 0, 3, 0, .null, mX11_isWithin, [(0, 936), (0, 937)]),
  (.ifCond .ne 6, .ifCond .ne 6, 3, 61, 0, 0, .null, rm_M0, [])]
def bX11_woke_58 : List rm_J := [
  (.nop, .bipush (-3), 2, 0, 0, 0, .int (-3), rm_M0, []),
  (.ireturn, .ireturn, 1, 0, 0, 0, .null, rm_M0, [])]
def bX11_woke_61 : List rm_J := [
  (.aload 0, .aload_n 0, 1, 0, 0, 0, .null, rm_M0, []),
  (.getfield 43, .getfield 43, 3, 11, 6, 455, .null, rm_M0, []),
  (.aload 0, .aload_n 0, 1, 0, 0, 0, .null, rm_M0, []),
  (.getfield 32, .getfield 32, 3, 11, 4, 453, .null, rm_M0, []),
  (.getfield 110, .getfield 110, 3, 0, 0, 344, .null, rm_M0, []),
  (.getfield 119, .getfield 119, 3, 7, 0, 263, .null, rm_M0, []),
  (.aload 0, .aload_n 0, 1, 0, 0, 0, .null, rm_M0, []),
  (.iload 1, .iload_n 1, 1, 0, 0, 0, .null, rm_M0, []),
  (.invokevirtual 265, .invokevirtual 265, 3, 0, 1, 0, .null, mX11_ruleOrNull, [(0, 827), (0, 829), (0, 22)]),
  (.invokevirtual 269, .invokevirtual 269, 3, 0, 2, 0, .null, mX9_startAnew, [(0, 1037), (0, 1038), (0, 1039)]),
  (.aload 0, .aload_n 0, 1, 0, 0, 0, .null, rm_M0, []),
  (.getfield 57, .getfield 57, 3, 11, 8, 457, .null, rm_M0, []),
  (.aload 0, .aload_n 0, 1, 0, 0, 0, .null, rm_M0, []),
  (.getfield 43, .getfield 43, 3, 11, 6, 455, .null, rm_M0, []),
  (.iload 2, .iload_n 2, 1, 0, 0, 0, .null, rm_M0, []),
  (.iload 3, .iload_n 3, 1, 0, 0, 0, .null, rm_M0, []),
  (.invokevirtual 273, .invokevirtual 273, 3, 0, 3, 0, .null, mX10_find, [(0, 1042), (0, 1043), (0, 1044)]),
  (.aload 0, .aload_n 0, 1, 0, 0, 0, .null, rm_M0, []),
  (.getfield 57, .getfield 57, 3, 11, 8, 457, .null, rm_M0, []),
  (.getfield 276, .getfield 276, 3, 10, 0, 431, .null, rm_M0, []),
  (.ifCond .ne 16, .ifCond .ne 16, 3, 119, 0, 0, .null, rm_M0, []),
  (.iload 4, .iload 4, 2, 0, 0, 0, .null, rm_M0, []),
  (.nop, .iconst 1, 1, 0, 0, 0, .int 1, rm_M0, []),
  (.if_icmp .ne 8, .if_icmp .ne 8, 3, 117, 0, 0, .null, rm_M0, []),
  (.nop, .bipush (-2), 2, 0, 0, 0, .int (-2), rm_M0, []),
  (.goto 4, .goto 4, 3, 118, 0, 0, .null, rm_M0, [])]
def bX11_woke_117 : List rm_J := [
  (.nop, .iconst 0, 1, 0, 0, 0, .int 0, rm_M0, [])]
def bX11_woke_118 : List rm_J := [
  (.ireturn, .ireturn, 1, 0, 0, 0, .null, rm_M0, [])]
def bX11_woke_119 : List rm_J := [
  (.iload 4, .iload 4, 2, 0, 0, 0, .null, rm_M0, []),
  (.lookupswitch 43 #[(0, 27), (1, 35)], .lookupswitch 43 #[(0, 27), (1, 35)], 27, 164, 0, 0, .null, rm_M0, [(0, 148), (1, 156)])]
def bX11_woke_148 : List rm_J := [
  (.aload 0, .aload_n 0, 1, 0, 0, 0, .null, rm_M0, []),
  (.getfield 57, .getfield 57, 3, 11, 8, 457, .null, rm_M0, []),
  (.getfield 276, .getfield 276, 3, 10, 0, 431, .null, rm_M0, []),
  (.ireturn, .ireturn, 1, 0, 0, 0, .null, rm_M0, [])]
def bX11_woke_156 : List rm_J := [
  (.aload 0, .aload_n 0, 1, 0, 0, 0, .null, rm_M0, []),
  (.getfield 57, .getfield 57, 3, 11, 8, 457, .null, rm_M0, []),
  (.getfield 279, .getfield 279, 3, 10, 1, 433, .null, rm_M0, []),
  (.ireturn, .ireturn, 1, 0, 0, 0, .null, rm_M0, [])]
def bX11_woke_164 : List rm_J := [
  (.aload 0, .aload_n 0, 1, 0, 0, 0, .null, rm_M0, []),
  (.getfield 57, .getfield 57, 3, 11, 8, 457, .null, rm_M0, []),
  (.getfield 282, .getfield 282, 3, 10, 2, 435, .null, rm_M0, []),
  (.ireturn, .ireturn, 1, 0, 0, 0, .null, rm_M0, [])]
def tX11_woke : rm_P := [(0, bX11_woke_0), (29, bX11_woke_29), (30, bX11_woke_30), (58, bX11_woke_58), (61, bX11_woke_61), (117, bX11_woke_117), (118, bX11_woke_118), (119, bX11_woke_119), (148, bX11_woke_148), (156, bX11_woke_156), (164, bX11_woke_164)]
theorem ok_X11_woke_t : rm_okP mX11_woke tX11_woke = true := by decide +kernel
theorem ok_X11_woke : rm_okM mX11_woke tX11_woke := ⟨ok_X11_woke_t, List.forall_mem_cons.mpr ⟨cw_X11_isTold, List.forall_mem_cons.mpr ⟨cw_X11_isRuleOrNone, List.forall_mem_cons.mpr ⟨cw_X11_isWithin, List.forall_mem_cons.mpr ⟨cw_X11_isWithin, List.forall_mem_cons.mpr ⟨cw_X11_isWithin, List.forall_mem_cons.mpr ⟨cw_X11_ruleOrNull, List.forall_mem_cons.mpr ⟨cw_X9_startAnew, List.forall_mem_cons.mpr ⟨cw_X10_find, fun _ h => absurd h List.not_mem_nil⟩⟩⟩⟩⟩⟩⟩⟩⟩
theorem atX11_woke_0 : rm_at tX11_woke 0 = some bX11_woke_0 := rfl
theorem atX11_woke_29 : rm_at tX11_woke 29 = some bX11_woke_29 := rfl
theorem atX11_woke_30 : rm_at tX11_woke 30 = some bX11_woke_30 := rfl
theorem atX11_woke_58 : rm_at tX11_woke 58 = some bX11_woke_58 := rfl
theorem atX11_woke_61 : rm_at tX11_woke 61 = some bX11_woke_61 := rfl
theorem atX11_woke_117 : rm_at tX11_woke 117 = some bX11_woke_117 := rfl
theorem atX11_woke_118 : rm_at tX11_woke 118 = some bX11_woke_118 := rfl
theorem atX11_woke_119 : rm_at tX11_woke 119 = some bX11_woke_119 := rfl
theorem atX11_woke_148 : rm_at tX11_woke 148 = some bX11_woke_148 := rfl
theorem atX11_woke_156 : rm_at tX11_woke 156 = some bX11_woke_156 := rfl
theorem atX11_woke_164 : rm_at tX11_woke 164 = some bX11_woke_164 := rfl
def bX11_note_0 : List rm_J := [
  (.iload 1, .iload_n 1, 1, 0, 0, 0, .null, rm_M0, []),
  (.nop, .iconst (-1), 1, 0, 0, 0, .int (-1), rm_M0, []),
  (.if_icmp .ne 16, .if_icmp .ne 16, 3, 18, 0, 0, .null, rm_M0, []),
  (.aload 0, .aload_n 0, 1, 0, 0, 0, .null, rm_M0, []),
  (.getfield 32, .getfield 32, 3, 11, 4, 453, .null, rm_M0, []),
  (.getfield 285, .getfield 285, 3, 0, 2, 348, .null, rm_M0, []),
  (.nop, .iconst 0, 1, 0, 0, 0, .int 0, rm_M0, []),
  (.putfield 289, .putfield 289, 3, 1, 0, 196, .int 0, rm_M0, []),
  (.nop, .iconst 0, 1, 0, 0, 0, .int 0, rm_M0, []),
  (.ireturn, .ireturn, 1, 0, 0, 0, .null, rm_M0, [])]
def bX11_note_18 : List rm_J := [
  (.iload 2, .iload_n 2, 1, 0, 0, 0, .null, rm_M0, []),
  (.nop, .iconst (-1), 1, 0, 0, 0, .int (-1), rm_M0, []),
  (.if_icmp .eq 11, .if_icmp .eq 11, 3, 31, 0, 0, .null, rm_M0, []),
  (.aload 0, .aload_n 0, 1, 0, 0, 0, .null, rm_M0, []),
  (.iload 2, .iload_n 2, 1, 0, 0, 0, .null, rm_M0, []),
  (.invokevirtual 107, .invokevirtual 107, 3, 0, 1, 0, .null, mX11_isQuestion, [(0, 780), (0, 782), (0, 19)]),
  (.ifCond .eq 7, .ifCond .eq 7, 3, 35, 0, 0, .null, rm_M0, [])]
def bX11_note_31 : List rm_J := [
  (.nop, .iconst 1, 1, 0, 0, 0, .int 1, rm_M0, []),
  (.goto 4, .goto 4, 3, 36, 0, 0, .null, rm_M0, [])]
def bX11_note_35 : List rm_J := [
  (.nop, .iconst 0, 1, 0, 0, 0, .int 0, rm_M0, [])]
def bX11_note_36 : List rm_J := [
  (.istore 3, .istore_n 3, 1, 0, 0, 0, .null, rm_M0, []),
  (.aload 0, .aload_n 0, 1, 0, 0, 0, .null, rm_M0, []),
  (.invokevirtual 207, .invokevirtual 207, 3, 0, 0, 0, .null, mX11_isTold, [(0, 932), (0, 934), (0, 25)]),
  (.ifCond .eq 30, .ifCond .eq 30, 3, 71, 0, 0, .null, rm_M0, []),
  (.iload 1, .iload_n 1, 1, 0, 0, 0, .null, rm_M0, []),
  (.nop, .iconst 0, 1, 0, 0, 0, .int 0, rm_M0, []),
  (.nop, .bipush 60, 2, 0, 0, 0, .int 60, rm_M0, []),
  (.invokestatic 211, .invokestatic 211, 3, 0, 3, 0, .null, mX11_isWithin, [(0, 936), (0, 937)]),
  (.ifCond .eq 20, .ifCond .eq 20, 3, 71, 0, 0, .null, rm_M0, []),
  (.iload 3, .iload_n 3, 1, 0, 0, 0, .null, rm_M0, []),
  (.ifCond .eq 16, .ifCond .eq 16, 3, 71, 0, 0, .null, rm_M0, []),
  (.aload 0, .aload_n 0, 1, 0, 0, 0, .null, rm_M0, []),
  (.getfield 32, .getfield 32, 3, 11, 4, 453, .null, rm_M0, []),
  (.getfield 285, .getfield 285, 3, 0, 2, 348, .null, rm_M0, []),
  (.invokevirtual 292, .invokevirtual 292, 3, 0, 0, 0, .null, mX1_isFull, [(0, 1063), (0, 1064), (0, 1065)]),
  (.ifCond .eq 6, .ifCond .eq 6, 3, 74, 0, 0, .null, rm_M0, [])]
def bX11_note_71 : List rm_J := [
  (.nop, .bipush (-2), 2, 0, 0, 0, .int (-2), rm_M0, []),
  (.ireturn, .ireturn, 1, 0, 0, 0, .null, rm_M0, [])]
def bX11_note_74 : List rm_J := [
  (.aload 0, .aload_n 0, 1, 0, 0, 0, .null, rm_M0, []),
  (.getfield 32, .getfield 32, 3, 11, 4, 453, .null, rm_M0, []),
  (.getfield 285, .getfield 285, 3, 0, 2, 348, .null, rm_M0, []),
  (.iload 1, .iload_n 1, 1, 0, 0, 0, .null, rm_M0, []),
  (.iload 2, .iload_n 2, 1, 0, 0, 0, .null, rm_M0, []),
  (.invokevirtual 295, .invokevirtual 295, 3, 0, 2, 0, .null, mX1_add, [(0, 1067), (0, 1068), (0, 1069)]),
  (.aload 0, .aload_n 0, 1, 0, 0, 0, .null, rm_M0, []),
  (.getfield 32, .getfield 32, 3, 11, 4, 453, .null, rm_M0, []),
  (.getfield 285, .getfield 285, 3, 0, 2, 348, .null, rm_M0, []),
  (.getfield 289, .getfield 289, 3, 1, 0, 196, .null, rm_M0, []),
  (.ireturn, .ireturn, 1, 0, 0, 0, .null, rm_M0, [])]
def tX11_note : rm_P := [(0, bX11_note_0), (18, bX11_note_18), (31, bX11_note_31), (35, bX11_note_35), (36, bX11_note_36), (71, bX11_note_71), (74, bX11_note_74)]
theorem ok_X11_note_t : rm_okP mX11_note tX11_note = true := by decide +kernel
theorem ok_X11_note : rm_okM mX11_note tX11_note := ⟨ok_X11_note_t, List.forall_mem_cons.mpr ⟨cw_X11_isQuestion, List.forall_mem_cons.mpr ⟨cw_X11_isTold, List.forall_mem_cons.mpr ⟨cw_X11_isWithin, List.forall_mem_cons.mpr ⟨cw_X1_isFull, List.forall_mem_cons.mpr ⟨cw_X1_add, fun _ h => absurd h List.not_mem_nil⟩⟩⟩⟩⟩⟩
theorem atX11_note_0 : rm_at tX11_note 0 = some bX11_note_0 := rfl
theorem atX11_note_18 : rm_at tX11_note 18 = some bX11_note_18 := rfl
theorem atX11_note_31 : rm_at tX11_note 31 = some bX11_note_31 := rfl
theorem atX11_note_35 : rm_at tX11_note 35 = some bX11_note_35 := rfl
theorem atX11_note_36 : rm_at tX11_note 36 = some bX11_note_36 := rfl
theorem atX11_note_71 : rm_at tX11_note 71 = some bX11_note_71 := rfl
theorem atX11_note_74 : rm_at tX11_note 74 = some bX11_note_74 := rfl
def bX11_ruled_0 : List rm_J := [
  (.aload 0, .aload_n 0, 1, 0, 0, 0, .null, rm_M0, []),
  (.invokevirtual 207, .invokevirtual 207, 3, 0, 0, 0, .null, mX11_isTold, [(0, 932), (0, 934), (0, 25)]),
  (.ifCond .eq 12, .ifCond .eq 12, 3, 16, 0, 0, .null, rm_M0, []),
  (.iload 1, .iload_n 1, 1, 0, 0, 0, .null, rm_M0, []),
  (.nop, .iconst 0, 1, 0, 0, 0, .int 0, rm_M0, []),
  (.nop, .iconst 1, 1, 0, 0, 0, .int 1, rm_M0, []),
  (.invokestatic 211, .invokestatic 211, 3, 0, 3, 0, .null, mX11_isWithin, [(0, 936), (0, 937)]),
  (.ifCond .ne 6, .ifCond .ne 6, 3, 19, 0, 0, .null, rm_M0, [])]
def bX11_ruled_16 : List rm_J := [
  (.nop, .bipush (-3), 2, 0, 0, 0, .int (-3), rm_M0, []),
  (.ireturn, .ireturn, 1, 0, 0, 0, .null, rm_M0, [])]
def bX11_ruled_19 : List rm_J := [
  (.aload 0, .aload_n 0, 1, 0, 0, 0, .null, rm_M0, []),
  (.invokevirtual 297, .invokevirtual 297, 3, 0, 0, 0, .null, mX11_fittingRules, [(0, 1075), (0, 1077), (0, 32)]),
  (.istore 2, .istore_n 2, 1, 0, 0, 0, .null, rm_M0, []),
  (.iload 1, .iload_n 1, 1, 0, 0, 0, .null, rm_M0, []),
  (.ifCond .ne 8, .ifCond .ne 8, 3, 33, 0, 0, .null, rm_M0, []),
  (.iload 2, .iload_n 2, 1, 0, 0, 0, .null, rm_M0, []),
  (.invokestatic 241, .invokestatic 241, 3, 0, 1, 0, .null, mJ6_bitCount_0f7a4, [(0, 993), (0, 866)]),
  (.ireturn, .ireturn, 1, 0, 0, 0, .null, rm_M0, [])]
def bX11_ruled_33 : List rm_J := [
  (.nop, .iconst 0, 1, 0, 0, 0, .int 0, rm_M0, []),
  (.istore 3, .istore_n 3, 1, 0, 0, 0, .null, rm_M0, [])]
def bX11_ruled_35 : List rm_J := [
  (.iload 3, .iload_n 3, 1, 0, 0, 0, .null, rm_M0, []),
  (.aload 0, .aload_n 0, 1, 0, 0, 0, .null, rm_M0, []),
  (.getfield 65, .getfield 65, 3, 11, 3, 452, .null, rm_M0, []),
  (.if_icmp .gt 21, .if_icmp .gt 21, 3, 61, 0, 0, .null, rm_M0, []),
  (.iload 2, .iload_n 2, 1, 0, 0, 0, .null, rm_M0, []),
  (.iload 3, .iload_n 3, 1, 0, 0, 0, .null, rm_M0, []),
  (.ishr, .ishr, 1, 0, 0, 0, .null, rm_M0, []),
  (.nop, .iconst 1, 1, 0, 0, 0, .int 1, rm_M0, []),
  (.iand, .iand, 1, 0, 0, 0, .null, rm_M0, []),
  (.ifCond .eq 7, .ifCond .eq 7, 3, 55, 0, 0, .null, rm_M0, []),
  (.iload 3, .iload_n 3, 1, 0, 0, 0, .null, rm_M0, []),
  (.nop, .iconst 1, 1, 0, 0, 0, .int 1, rm_M0, []),
  (.isub, .isub, 1, 0, 0, 0, .null, rm_M0, []),
  (.ireturn, .ireturn, 1, 0, 0, 0, .null, rm_M0, [])]
def bX11_ruled_55 : List rm_J := [
  (.iinc 3 1, .iinc 3 1, 3, 0, 0, 0, .int 1, rm_M0, []),
  (.goto (-23), .goto (-23), 3, 35, 0, 0, .null, rm_M0, [])]
def bX11_ruled_61 : List rm_J := [
  (.nop, .bipush (-2), 2, 0, 0, 0, .int (-2), rm_M0, []),
  (.ireturn, .ireturn, 1, 0, 0, 0, .null, rm_M0, [])]
def tX11_ruled : rm_P := [(0, bX11_ruled_0), (16, bX11_ruled_16), (19, bX11_ruled_19), (33, bX11_ruled_33), (35, bX11_ruled_35), (55, bX11_ruled_55), (61, bX11_ruled_61)]
theorem ok_X11_ruled_t : rm_okP mX11_ruled tX11_ruled = true := by decide +kernel
theorem ok_X11_ruled : rm_okM mX11_ruled tX11_ruled := ⟨ok_X11_ruled_t, List.forall_mem_cons.mpr ⟨cw_X11_isTold, List.forall_mem_cons.mpr ⟨cw_X11_isWithin, List.forall_mem_cons.mpr ⟨cw_X11_fittingRules, List.forall_mem_cons.mpr ⟨cw_J6_bitCount_0f7a4, fun _ h => absurd h List.not_mem_nil⟩⟩⟩⟩⟩
theorem atX11_ruled_0 : rm_at tX11_ruled 0 = some bX11_ruled_0 := rfl
theorem atX11_ruled_16 : rm_at tX11_ruled 16 = some bX11_ruled_16 := rfl
theorem atX11_ruled_19 : rm_at tX11_ruled 19 = some bX11_ruled_19 := rfl
theorem atX11_ruled_33 : rm_at tX11_ruled 33 = some bX11_ruled_33 := rfl
theorem atX11_ruled_35 : rm_at tX11_ruled 35 = some bX11_ruled_35 := rfl
theorem atX11_ruled_55 : rm_at tX11_ruled 55 = some bX11_ruled_55 := rfl
theorem atX11_ruled_61 : rm_at tX11_ruled 61 = some bX11_ruled_61 := rfl
def bX11_look_0 : List rm_J := [
  (.aload 0, .aload_n 0, 1, 0, 0, 0, .null, rm_M0, []),
  (.invokevirtual 207, .invokevirtual 207, 3, 0, 0, 0, .null, mX11_isTold, [(0, 932), (0, 934), (0, 25)]),
  (.ifCond .eq 12, .ifCond .eq 12, 3, 16, 0, 0, .null, rm_M0, []),
  (.iload 1, .iload_n 1, 1, 0, 0, 0, .null, rm_M0, []),
  (.nop, .iconst 0, 1, 0, 0, 0, .int 0, rm_M0, []),
  (.nop, .iconst 1, 1, 0, 0, 0, .int 1, rm_M0, []),
  (.invokestatic 211, .invokestatic 211, 3, 0, 3, 0, .null, mX11_isWithin, [(0, 936), (0, 937)]),
  (.ifCond .ne 5, .ifCond .ne 5, 3, 18, 0, 0, .null, rm_M0, [])]
def bX11_look_16 : List rm_J := [
  (.nop, .iconst (-1), 1, 0, 0, 0, .int (-1), rm_M0, []),
  (.ireturn, .ireturn, 1, 0, 0, 0, .null, rm_M0, [])]
def bX11_look_18 : List rm_J := [
  (.aload 0, .aload_n 0, 1, 0, 0, 0, .null, rm_M0, []),
  (.invokevirtual 297, .invokevirtual 297, 3, 0, 0, 0, .null, mX11_fittingRules, [(0, 1075), (0, 1077), (0, 32)]),
  (.istore 2, .istore_n 2, 1, 0, 0, 0, .null, rm_M0, []),
  (.iload 2, .iload_n 2, 1, 0, 0, 0, .null, rm_M0, []),
  (.ifCond .ne 6, .ifCond .ne 6, 3, 30, 0, 0, .null, rm_M0, []),
  (.nop, .bipush (-2), 2, 0, 0, 0, .int (-2), rm_M0, []),
  (.ireturn, .ireturn, 1, 0, 0, 0, .null, rm_M0, [])]
def bX11_look_30 : List rm_J := [
  (.nop, .iconst 0, 1, 0, 0, 0, .int 0, rm_M0, []),
  (.istore 3, .istore_n 3, 1, 0, 0, 0, .null, rm_M0, []),
  (.aload 0, .aload_n 0, 1, 0, 0, 0, .null, rm_M0, []),
  (.nop, .iconst 0, 1, 0, 0, 0, .int 0, rm_M0, []),
  (.iload 2, .iload_n 2, 1, 0, 0, 0, .null, rm_M0, []),
  (.invokevirtual 300, .invokevirtual 300, 3, 0, 2, 0, .null, mX11_mostAlikeOn, [(0, 1087), (0, 1089), (0, 33)]),
  (.istore 4, .istore 4, 2, 0, 0, 0, .null, rm_M0, []),
  (.nop, .iconst 1, 1, 0, 0, 0, .int 1, rm_M0, []),
  (.istore 5, .istore 5, 2, 0, 0, 0, .null, rm_M0, [])]
def bX11_look_43 : List rm_J := [
  (.iload 5, .iload 5, 2, 0, 0, 0, .null, rm_M0, []),
  (.nop, .bipush 61, 2, 0, 0, 0, .int 61, rm_M0, []),
  (.if_icmp .ge 32, .if_icmp .ge 32, 3, 79, 0, 0, .null, rm_M0, []),
  (.aload 0, .aload_n 0, 1, 0, 0, 0, .null, rm_M0, []),
  (.iload 5, .iload 5, 2, 0, 0, 0, .null, rm_M0, []),
  (.iload 2, .iload_n 2, 1, 0, 0, 0, .null, rm_M0, []),
  (.invokevirtual 300, .invokevirtual 300, 3, 0, 2, 0, .null, mX11_mostAlikeOn, [(0, 1087), (0, 1089), (0, 33)]),
  (.istore 6, .istore 6, 2, 0, 0, 0, .null, rm_M0, []),
  (.iload 6, .iload 6, 2, 0, 0, 0, .null, rm_M0, []),
  (.iload 4, .iload 4, 2, 0, 0, 0, .null, rm_M0, []),
  (.if_icmp .ge 10, .if_icmp .ge 10, 3, 73, 0, 0, .null, rm_M0, []),
  (.iload 6, .iload 6, 2, 0, 0, 0, .null, rm_M0, []),
  (.istore 4, .istore 4, 2, 0, 0, 0, .null, rm_M0, []),
  (.iload 5, .iload 5, 2, 0, 0, 0, .null, rm_M0, []),
  (.istore 3, .istore_n 3, 1, 0, 0, 0, .null, rm_M0, [])]
def bX11_look_73 : List rm_J := [
  (.iinc 5 1, .iinc 5 1, 3, 0, 0, 0, .int 1, rm_M0, []),
  (.goto (-33), .goto (-33), 3, 43, 0, 0, .null, rm_M0, [])]
def bX11_look_79 : List rm_J := [
  (.iload 1, .iload_n 1, 1, 0, 0, 0, .null, rm_M0, []),
  (.ifCond .ne 7, .ifCond .ne 7, 3, 87, 0, 0, .null, rm_M0, []),
  (.iload 3, .iload_n 3, 1, 0, 0, 0, .null, rm_M0, []),
  (.goto 5, .goto 5, 3, 89, 0, 0, .null, rm_M0, [])]
def bX11_look_87 : List rm_J := [
  (.iload 4, .iload 4, 2, 0, 0, 0, .null, rm_M0, [])]
def bX11_look_89 : List rm_J := [
  (.ireturn, .ireturn, 1, 0, 0, 0, .null, rm_M0, [])]
def tX11_look : rm_P := [(0, bX11_look_0), (16, bX11_look_16), (18, bX11_look_18), (30, bX11_look_30), (43, bX11_look_43), (73, bX11_look_73), (79, bX11_look_79), (87, bX11_look_87), (89, bX11_look_89)]
theorem ok_X11_look_t : rm_okP mX11_look tX11_look = true := by decide +kernel
theorem ok_X11_look : rm_okM mX11_look tX11_look := ⟨ok_X11_look_t, List.forall_mem_cons.mpr ⟨cw_X11_isTold, List.forall_mem_cons.mpr ⟨cw_X11_isWithin, List.forall_mem_cons.mpr ⟨cw_X11_fittingRules, List.forall_mem_cons.mpr ⟨cw_X11_mostAlikeOn, List.forall_mem_cons.mpr ⟨cw_X11_mostAlikeOn, fun _ h => absurd h List.not_mem_nil⟩⟩⟩⟩⟩⟩
theorem atX11_look_0 : rm_at tX11_look 0 = some bX11_look_0 := rfl
theorem atX11_look_16 : rm_at tX11_look 16 = some bX11_look_16 := rfl
theorem atX11_look_18 : rm_at tX11_look 18 = some bX11_look_18 := rfl
theorem atX11_look_30 : rm_at tX11_look 30 = some bX11_look_30 := rfl
theorem atX11_look_43 : rm_at tX11_look 43 = some bX11_look_43 := rfl
theorem atX11_look_73 : rm_at tX11_look 73 = some bX11_look_73 := rfl
theorem atX11_look_79 : rm_at tX11_look 79 = some bX11_look_79 := rfl
theorem atX11_look_87 : rm_at tX11_look 87 = some bX11_look_87 := rfl
theorem atX11_look_89 : rm_at tX11_look 89 = some bX11_look_89 := rfl
def bX11_seed_0 : List rm_J := [
  (.iload 1, .iload_n 1, 1, 0, 0, 0, .null, rm_M0, []),
  (.ifCond .ge 5, .ifCond .ge 5, 3, 6, 0, 0, .null, rm_M0, []),
  (.nop, .iconst (-1), 1, 0, 0, 0, .int (-1), rm_M0, []),
  (.ireturn, .ireturn, 1, 0, 0, 0, .null, rm_M0, [])]
def bX11_seed_6 : List rm_J := [
  (.aload 0, .aload_n 0, 1, 0, 0, 0, .null, rm_M0, []),
  (.getfield 32, .getfield 32, 3, 11, 4, 453, .null, rm_M0, []),
  (.getfield 303, .getfield 303, 3, 0, 4, 352, .null, rm_M0, []),
  (.istore 2, .istore_n 2, 1, 0, 0, 0, .null, rm_M0, []),
  (.aload 0, .aload_n 0, 1, 0, 0, 0, .null, rm_M0, []),
  (.getfield 32, .getfield 32, 3, 11, 4, 453, .null, rm_M0, []),
  (.iload 1, .iload_n 1, 1, 0, 0, 0, .null, rm_M0, []),
  (.putfield 303, .putfield 303, 3, 0, 4, 352, .int 0, rm_M0, []),
  (.iload 2, .iload_n 2, 1, 0, 0, 0, .null, rm_M0, []),
  (.ireturn, .ireturn, 1, 0, 0, 0, .null, rm_M0, [])]
def tX11_seed : rm_P := [(0, bX11_seed_0), (6, bX11_seed_6)]
theorem ok_X11_seed_t : rm_okP mX11_seed tX11_seed = true := by decide +kernel
theorem ok_X11_seed : rm_okM mX11_seed tX11_seed := ⟨ok_X11_seed_t, fun _ h => absurd h List.not_mem_nil⟩
theorem atX11_seed_0 : rm_at tX11_seed 0 = some bX11_seed_0 := rfl
theorem atX11_seed_6 : rm_at tX11_seed 6 = some bX11_seed_6 := rfl
def bX11_reigns_0 : List rm_J := [
  (.aload 0, .aload_n 0, 1, 0, 0, 0, .null, rm_M0, []),
  (.invokevirtual 207, .invokevirtual 207, 3, 0, 0, 0, .null, mX11_isTold, [(0, 932), (0, 934), (0, 25)]),
  (.ifCond .eq 27, .ifCond .eq 27, 3, 31, 0, 0, .null, rm_M0, []),
  (.iload 1, .iload_n 1, 1, 0, 0, 0, .null, rm_M0, []),
  (.nop, .iconst 1, 1, 0, 0, 0, .int 1, rm_M0, []),
  (.nop, .bipush 10, 2, 0, 0, 0, .int 10, rm_M0, []),
  (.invokestatic 211, .invokestatic 211, 3, 0, 3, 0, .null, mX11_isWithin, [(0, 936), (0, 937)]),
  (.ifCond .eq 17, .ifCond .eq 17, 3, 31, 0, 0, .null, rm_M0, []),
  (.iload 2, .iload_n 2, 1, 0, 0, 0, .null, rm_M0, []),
  (.nop, .iconst 1, 1, 0, 0, 0, .int 1, rm_M0, []),
  (.nop, .bipush 60, 2, 0, 0, 0, .int 60, rm_M0, []),
  (.invokestatic 211, .invokestatic 211, 3, 0, 3, 0, .null, mX11_isWithin, [(0, 936), (0, 937)]),
  (.ifCond .eq 7, .ifCond .eq 7, 3, 31, 0, 0, .null, rm_M0, []),
  (.nop, .iconst 1, 1, 0, 0, 0, .int 1, rm_M0, []),
  (.goto 4, .goto 4, 3, 32, 0, 0, .null, rm_M0, [])]
def bX11_reigns_31 : List rm_J := [
  (.nop, .iconst 0, 1, 0, 0, 0, .int 0, rm_M0, [])]
def bX11_reigns_32 : List rm_J := [
  (.istore 5, .istore 5, 2, 0, 0, 0, .null, rm_M0, []),
  (.iload 5, .iload 5, 2, 0, 0, 0, .null, rm_M0, []),
  (.ifCond .eq 23, .ifCond .eq 23, 3, 59, 0, 0, .null, rm_M0, []),
  (.iload 3, .iload_n 3, 1, 0, 0, 0, .null, rm_M0, []),
  (.nop, .iconst 0, 1, 0, 0, 0, .int 0, rm_M0, []),
  (.nop, .bipush 100, 2, 0, 0, 0, .int 100, rm_M0, []),
  (.invokestatic 211, .invokestatic 211, 3, 0, 3, 0, .null, mX11_isWithin, [(0, 936), (0, 937)]),
  (.ifCond .eq 13, .ifCond .eq 13, 3, 59, 0, 0, .null, rm_M0, []),
  (.iload 4, .iload 4, 2, 0, 0, 0, .null, rm_M0, []),
  (.nop, .iconst 0, 1, 0, 0, 0, .int 0, rm_M0, []),
  (.nop, .iconst 1, 1, 0, 0, 0, .int 1, rm_M0, []),
  (.invokestatic 211, .invokestatic 211, 3, 0, 3, 0, .null, mX11_isWithin, [(0, 936), (0, 937)]),
  (.ifCond .ne 5, .ifCond .ne 5, 3, 61, 0, 0, .null, rm_M0, [])]
def bX11_reigns_59 : List rm_J := [
  (.nop, .iconst (-1), 1, 0, 0, 0, .int (-1), rm_M0, []),
  (.ireturn, .ireturn, 1, 0, 0, 0, .null, rm_M0, [])]
def bX11_reigns_61 : List rm_J := [
  (.aload 0, .aload_n 0, 1, 0, 0, 0, .null, rm_M0, []),
  (.getfield 32, .getfield 32, 3, 11, 4, 453, .null, rm_M0, []),
  (.getfield 303, .getfield 303, 3, 0, 4, 352, .null, rm_M0, []),
  (.istore 6, .istore 6, 2, 0, 0, 0, .null, rm_M0, []),
  (.nop, .iconst 0, 1, 0, 0, 0, .int 0, rm_M0, []),
  (.istore 7, .istore 7, 2, 0, 0, 0, .null, rm_M0, []),
  (.nop, .iconst 0, 1, 0, 0, 0, .int 0, rm_M0, []),
  (.istore 8, .istore 8, 2, 0, 0, 0, .null, rm_M0, [])]
def bX11_reigns_76 : List rm_J := [
  (.iload 8, .iload 8, 2, 0, 0, 0, .null, rm_M0, []),
  (.iload 1, .iload_n 1, 1, 0, 0, 0, .null, rm_M0, []),
  (.if_icmp .ge 136, .if_icmp .ge 136, 3, 215, 0, 0, .null, rm_M0, []),
  (.aload 0, .aload_n 0, 1, 0, 0, 0, .null, rm_M0, []),
  (.getfield 43, .getfield 43, 3, 11, 6, 455, .null, rm_M0, []),
  (.aload 0, .aload_n 0, 1, 0, 0, 0, .null, rm_M0, []),
  (.getfield 32, .getfield 32, 3, 11, 4, 453, .null, rm_M0, []),
  (.getfield 110, .getfield 110, 3, 0, 0, 344, .null, rm_M0, []),
  (.aload 0, .aload_n 0, 1, 0, 0, 0, .null, rm_M0, []),
  (.invokevirtual 164, .invokevirtual 164, 3, 0, 0, 0, .null, mX11_ruleInForce, [(0, 823), (0, 825), (0, 21)]),
  (.invokevirtual 168, .invokevirtual 168, 3, 0, 2, 0, .null, mX9_start, [(0, 831), (0, 832), (0, 833)]),
  (.nop, .iconst 0, 1, 0, 0, 0, .int 0, rm_M0, []),
  (.istore 9, .istore 9, 2, 0, 0, 0, .null, rm_M0, [])]
def bX11_reigns_103 : List rm_J := [
  (.iload 9, .iload 9, 2, 0, 0, 0, .null, rm_M0, []),
  (.iload 2, .iload_n 2, 1, 0, 0, 0, .null, rm_M0, []),
  (.if_icmp .ge 48, .if_icmp .ge 48, 3, 154, 0, 0, .null, rm_M0, []),
  (.iload 6, .iload 6, 2, 0, 0, 0, .null, rm_M0, []),
  (.invokestatic 306, .invokestatic 306, 3, 0, 1, 0, .null, mX11_drawnBehind, [(0, 1100), (0, 1101)]),
  (.istore 6, .istore 6, 2, 0, 0, 0, .null, rm_M0, []),
  (.iload 6, .iload 6, 2, 0, 0, 0, .null, rm_M0, []),
  (.nop, .ldc_w 309, 3, 0, 0, 1106, .int 65536, rm_M0, []),
  (.idiv, .idiv, 1, 0, 0, 0, .null, rm_M0, []),
  (.nop, .bipush 100, 2, 0, 0, 0, .int 100, rm_M0, []),
  (.irem, .irem, 1, 0, 0, 0, .null, rm_M0, []),
  (.iload 3, .iload_n 3, 1, 0, 0, 0, .null, rm_M0, []),
  (.if_icmp .ge 14, .if_icmp .ge 14, 3, 140, 0, 0, .null, rm_M0, []),
  (.aload 0, .aload_n 0, 1, 0, 0, 0, .null, rm_M0, []),
  (.getfield 43, .getfield 43, 3, 11, 6, 455, .null, rm_M0, []),
  (.getfield 175, .getfield 175, 3, 9, 0, 377, .null, rm_M0, []),
  (.nop, .iconst 1, 1, 0, 0, 0, .int 1, rm_M0, []),
  (.putfield 185, .putfield 185, 3, 7, 7, 284, .int 2, rm_M0, [])]
def bX11_reigns_140 : List rm_J := [
  (.aload 0, .aload_n 0, 1, 0, 0, 0, .null, rm_M0, []),
  (.getfield 43, .getfield 43, 3, 11, 6, 455, .null, rm_M0, []),
  (.invokevirtual 172, .invokevirtual 172, 3, 0, 0, 0, .null, mX9_passDay, [(0, 836), (0, 837), (0, 838)]),
  (.pop, .pop, 1, 0, 0, 0, .null, rm_M0, []),
  (.iinc 9 1, .iinc 9 1, 3, 0, 0, 0, .int 1, rm_M0, []),
  (.goto (-48), .goto (-48), 3, 103, 0, 0, .null, rm_M0, [])]
def bX11_reigns_154 : List rm_J := [
  (.iload 7, .iload 7, 2, 0, 0, 0, .null, rm_M0, []),
  (.iload 4, .iload 4, 2, 0, 0, 0, .null, rm_M0, []),
  (.ifCond .ne 27, .ifCond .ne 27, 3, 185, 0, 0, .null, rm_M0, []),
  (.aload 0, .aload_n 0, 1, 0, 0, 0, .null, rm_M0, []),
  (.getfield 43, .getfield 43, 3, 11, 6, 455, .null, rm_M0, []),
  (.getfield 175, .getfield 175, 3, 9, 0, 377, .null, rm_M0, []),
  (.getfield 218, .getfield 218, 3, 7, 4, 276, .null, rm_M0, []),
  (.aload 0, .aload_n 0, 1, 0, 0, 0, .null, rm_M0, []),
  (.getfield 32, .getfield 32, 3, 11, 4, 453, .null, rm_M0, []),
  (.getfield 110, .getfield 110, 3, 0, 0, 344, .null, rm_M0, []),
  (.getfield 218, .getfield 218, 3, 7, 4, 276, .null, rm_M0, []),
  (.isub, .isub, 1, 0, 0, 0, .null, rm_M0, []),
  (.goto 24, .goto 24, 3, 206, 0, 0, .null, rm_M0, [])]
def bX11_reigns_185 : List rm_J := [
  (.aload 0, .aload_n 0, 1, 0, 0, 0, .null, rm_M0, []),
  (.getfield 43, .getfield 43, 3, 11, 6, 455, .null, rm_M0, []),
  (.getfield 175, .getfield 175, 3, 9, 0, 377, .null, rm_M0, []),
  (.getfield 221, .getfield 221, 3, 7, 5, 279, .null, rm_M0, []),
  (.aload 0, .aload_n 0, 1, 0, 0, 0, .null, rm_M0, []),
  (.getfield 32, .getfield 32, 3, 11, 4, 453, .null, rm_M0, []),
  (.getfield 110, .getfield 110, 3, 0, 0, 344, .null, rm_M0, []),
  (.getfield 221, .getfield 221, 3, 7, 5, 279, .null, rm_M0, []),
  (.isub, .isub, 1, 0, 0, 0, .null, rm_M0, [])]
def bX11_reigns_206 : List rm_J := [
  (.iadd, .iadd, 1, 0, 0, 0, .null, rm_M0, []),
  (.istore 7, .istore 7, 2, 0, 0, 0, .null, rm_M0, []),
  (.iinc 8 1, .iinc 8 1, 3, 0, 0, 0, .int 1, rm_M0, []),
  (.goto (-136), .goto (-136), 3, 76, 0, 0, .null, rm_M0, [])]
def bX11_reigns_215 : List rm_J := [
  (.iload 7, .iload 7, 2, 0, 0, 0, .null, rm_M0, []),
  (.ireturn, .ireturn, 1, 0, 0, 0, .null, rm_M0, [])]
def tX11_reigns : rm_P := [(0, bX11_reigns_0), (31, bX11_reigns_31), (32, bX11_reigns_32), (59, bX11_reigns_59), (61, bX11_reigns_61), (76, bX11_reigns_76), (103, bX11_reigns_103), (140, bX11_reigns_140), (154, bX11_reigns_154), (185, bX11_reigns_185), (206, bX11_reigns_206), (215, bX11_reigns_215)]
theorem ok_X11_reigns_t : rm_okP mX11_reigns tX11_reigns = true := by decide +kernel
theorem ok_X11_reigns : rm_okM mX11_reigns tX11_reigns := ⟨ok_X11_reigns_t, List.forall_mem_cons.mpr ⟨cw_X11_isTold, List.forall_mem_cons.mpr ⟨cw_X11_isWithin, List.forall_mem_cons.mpr ⟨cw_X11_isWithin, List.forall_mem_cons.mpr ⟨cw_X11_isWithin, List.forall_mem_cons.mpr ⟨cw_X11_isWithin, List.forall_mem_cons.mpr ⟨cw_X11_ruleInForce, List.forall_mem_cons.mpr ⟨cw_X9_start, List.forall_mem_cons.mpr ⟨cw_X11_drawnBehind, List.forall_mem_cons.mpr ⟨cw_X9_passDay, fun _ h => absurd h List.not_mem_nil⟩⟩⟩⟩⟩⟩⟩⟩⟩⟩
theorem atX11_reigns_0 : rm_at tX11_reigns 0 = some bX11_reigns_0 := rfl
theorem atX11_reigns_31 : rm_at tX11_reigns 31 = some bX11_reigns_31 := rfl
theorem atX11_reigns_32 : rm_at tX11_reigns 32 = some bX11_reigns_32 := rfl
theorem atX11_reigns_59 : rm_at tX11_reigns 59 = some bX11_reigns_59 := rfl
theorem atX11_reigns_61 : rm_at tX11_reigns 61 = some bX11_reigns_61 := rfl
theorem atX11_reigns_76 : rm_at tX11_reigns 76 = some bX11_reigns_76 := rfl
theorem atX11_reigns_103 : rm_at tX11_reigns 103 = some bX11_reigns_103 := rfl
theorem atX11_reigns_140 : rm_at tX11_reigns 140 = some bX11_reigns_140 := rfl
theorem atX11_reigns_154 : rm_at tX11_reigns 154 = some bX11_reigns_154 := rfl
theorem atX11_reigns_185 : rm_at tX11_reigns 185 = some bX11_reigns_185 := rfl
theorem atX11_reigns_206 : rm_at tX11_reigns 206 = some bX11_reigns_206 := rfl
theorem atX11_reigns_215 : rm_at tX11_reigns 215 = some bX11_reigns_215 := rfl
def bX11_count_0 : List rm_J := [
  (.aload 0, .aload_n 0, 1, 0, 0, 0, .null, rm_M0, []),
  (.getfield 32, .getfield 32, 3, 11, 4, 453, .null, rm_M0, []),
  (.getfield 110, .getfield 110, 3, 0, 0, 344, .null, rm_M0, []),
  (.astore 2, .astore_n 2, 1, 0, 0, 0, .null, rm_M0, []),
  (.iload 1, .iload_n 1, 1, 0, 0, 0, .null, rm_M0, []),
  (.tableswitch 214 0 16 #[83, 91, 99, 107, 112, 120, 125, 130, 135, 140, 145, 150, 163, 176, 187, 198, 206], .tableswitch 214 0 16 #[83, 91, 99, 107, 112, 120, 125, 130, 135, 140, 145, 150, 163, 176, 187, 198, 206], 83, 223, 0, 0, .null, rm_M0, [(0, 92), (1, 100), (2, 108), (3, 116), (4, 121), (5, 129), (6, 134), (7, 139), (8, 144), (9, 149), (10, 154), (11, 159), (12, 172), (13, 185), (14, 196), (15, 207), (16, 215)])]
def bX11_count_92 : List rm_J := [
  (.aload 2, .aload_n 2, 1, 0, 0, 0, .null, rm_M0, []),
  (.getfield 119, .getfield 119, 3, 7, 0, 263, .null, rm_M0, []),
  (.getfield 310, .getfield 310, 3, 3, 1, 216, .null, rm_M0, []),
  (.ireturn, .ireturn, 1, 0, 0, 0, .null, rm_M0, [])]
def bX11_count_100 : List rm_J := [
  (.aload 2, .aload_n 2, 1, 0, 0, 0, .null, rm_M0, []),
  (.getfield 119, .getfield 119, 3, 7, 0, 263, .null, rm_M0, []),
  (.getfield 313, .getfield 313, 3, 3, 2, 219, .null, rm_M0, []),
  (.ireturn, .ireturn, 1, 0, 0, 0, .null, rm_M0, [])]
def bX11_count_108 : List rm_J := [
  (.aload 2, .aload_n 2, 1, 0, 0, 0, .null, rm_M0, []),
  (.getfield 119, .getfield 119, 3, 7, 0, 263, .null, rm_M0, []),
  (.getfield 93, .getfield 93, 3, 3, 3, 221, .null, rm_M0, []),
  (.ireturn, .ireturn, 1, 0, 0, 0, .null, rm_M0, [])]
def bX11_count_116 : List rm_J := [
  (.aload 0, .aload_n 0, 1, 0, 0, 0, .null, rm_M0, []),
  (.getfield 65, .getfield 65, 3, 11, 3, 452, .null, rm_M0, []),
  (.ireturn, .ireturn, 1, 0, 0, 0, .null, rm_M0, [])]
def bX11_count_121 : List rm_J := [
  (.aload 0, .aload_n 0, 1, 0, 0, 0, .null, rm_M0, []),
  (.getfield 32, .getfield 32, 3, 11, 4, 453, .null, rm_M0, []),
  (.getfield 104, .getfield 104, 3, 0, 3, 350, .null, rm_M0, []),
  (.ireturn, .ireturn, 1, 0, 0, 0, .null, rm_M0, [])]
def bX11_count_129 : List rm_J := [
  (.aload 2, .aload_n 2, 1, 0, 0, 0, .null, rm_M0, []),
  (.getfield 151, .getfield 151, 3, 7, 2, 269, .null, rm_M0, []),
  (.ireturn, .ireturn, 1, 0, 0, 0, .null, rm_M0, [])]
def bX11_count_134 : List rm_J := [
  (.aload 2, .aload_n 2, 1, 0, 0, 0, .null, rm_M0, []),
  (.invokevirtual 139, .invokevirtual 139, 3, 0, 0, 0, .null, mX7_openSet, [(0, 802), (0, 799), (0, 800)]),
  (.ireturn, .ireturn, 1, 0, 0, 0, .null, rm_M0, [])]
def bX11_count_139 : List rm_J := [
  (.aload 2, .aload_n 2, 1, 0, 0, 0, .null, rm_M0, []),
  (.getfield 179, .getfield 179, 3, 7, 3, 272, .null, rm_M0, []),
  (.ireturn, .ireturn, 1, 0, 0, 0, .null, rm_M0, [])]
def bX11_count_144 : List rm_J := [
  (.aload 2, .aload_n 2, 1, 0, 0, 0, .null, rm_M0, []),
  (.getfield 218, .getfield 218, 3, 7, 4, 276, .null, rm_M0, []),
  (.ireturn, .ireturn, 1, 0, 0, 0, .null, rm_M0, [])]
def bX11_count_149 : List rm_J := [
  (.aload 2, .aload_n 2, 1, 0, 0, 0, .null, rm_M0, []),
  (.getfield 221, .getfield 221, 3, 7, 5, 279, .null, rm_M0, []),
  (.ireturn, .ireturn, 1, 0, 0, 0, .null, rm_M0, [])]
def bX11_count_154 : List rm_J := [
  (.aload 2, .aload_n 2, 1, 0, 0, 0, .null, rm_M0, []),
  (.getfield 316, .getfield 316, 3, 7, 6, 282, .null, rm_M0, []),
  (.ireturn, .ireturn, 1, 0, 0, 0, .null, rm_M0, [])]
def bX11_count_159 : List rm_J := [
  (.aload 2, .aload_n 2, 1, 0, 0, 0, .null, rm_M0, []),
  (.getfield 185, .getfield 185, 3, 7, 7, 284, .null, rm_M0, []),
  (.ifCond .eq 7, .ifCond .eq 7, 3, 170, 0, 0, .null, rm_M0, []),
  (.nop, .iconst 1, 1, 0, 0, 0, .int 1, rm_M0, []),
  (.goto 4, .goto 4, 3, 171, 0, 0, .null, rm_M0, [])]
def bX11_count_170 : List rm_J := [
  (.nop, .iconst 0, 1, 0, 0, 0, .int 0, rm_M0, [])]
def bX11_count_171 : List rm_J := [
  (.ireturn, .ireturn, 1, 0, 0, 0, .null, rm_M0, [])]
def bX11_count_172 : List rm_J := [
  (.aload 2, .aload_n 2, 1, 0, 0, 0, .null, rm_M0, []),
  (.invokevirtual 319, .invokevirtual 319, 3, 0, 0, 0, .null, mX7_wakesByHimself, [(0, 1111), (0, 845), (0, 846)]),
  (.ifCond .eq 7, .ifCond .eq 7, 3, 183, 0, 0, .null, rm_M0, []),
  (.nop, .iconst 1, 1, 0, 0, 0, .int 1, rm_M0, []),
  (.goto 4, .goto 4, 3, 184, 0, 0, .null, rm_M0, [])]
def bX11_count_183 : List rm_J := [
  (.nop, .iconst 0, 1, 0, 0, 0, .int 0, rm_M0, [])]
def bX11_count_184 : List rm_J := [
  (.ireturn, .ireturn, 1, 0, 0, 0, .null, rm_M0, [])]
def bX11_count_185 : List rm_J := [
  (.aload 0, .aload_n 0, 1, 0, 0, 0, .null, rm_M0, []),
  (.getfield 32, .getfield 32, 3, 11, 4, 453, .null, rm_M0, []),
  (.getfield 285, .getfield 285, 3, 0, 2, 348, .null, rm_M0, []),
  (.getfield 289, .getfield 289, 3, 1, 0, 196, .null, rm_M0, []),
  (.ireturn, .ireturn, 1, 0, 0, 0, .null, rm_M0, [])]
def bX11_count_196 : List rm_J := [
  (.aload 0, .aload_n 0, 1, 0, 0, 0, .null, rm_M0, []),
  (.getfield 32, .getfield 32, 3, 11, 4, 453, .null, rm_M0, []),
  (.getfield 154, .getfield 154, 3, 0, 1, 346, .null, rm_M0, []),
  (.getfield 201, .getfield 201, 3, 2, 0, 333, .null, rm_M0, []),
  (.ireturn, .ireturn, 1, 0, 0, 0, .null, rm_M0, [])]
def bX11_count_207 : List rm_J := [
  (.aload 0, .aload_n 0, 1, 0, 0, 0, .null, rm_M0, []),
  (.getfield 32, .getfield 32, 3, 11, 4, 453, .null, rm_M0, []),
  (.getfield 303, .getfield 303, 3, 0, 4, 352, .null, rm_M0, []),
  (.ireturn, .ireturn, 1, 0, 0, 0, .null, rm_M0, [])]
def bX11_count_215 : List rm_J := [
  (.aload 0, .aload_n 0, 1, 0, 0, 0, .null, rm_M0, []),
  (.getfield 12, .getfield 12, 3, 11, 0, 449, .null, rm_M0, []),
  (.getfield 69, .getfield 69, 3, 8, 1, 134, .null, rm_M0, []),
  (.ireturn, .ireturn, 1, 0, 0, 0, .null, rm_M0, [])]
def bX11_count_223 : List rm_J := [
  (.nop, .iconst (-1), 1, 0, 0, 0, .int (-1), rm_M0, []),
  (.ireturn, .ireturn, 1, 0, 0, 0, .null, rm_M0, [])]
def tX11_count : rm_P := [(0, bX11_count_0), (92, bX11_count_92), (100, bX11_count_100), (108, bX11_count_108), (116, bX11_count_116), (121, bX11_count_121), (129, bX11_count_129), (134, bX11_count_134), (139, bX11_count_139), (144, bX11_count_144), (149, bX11_count_149), (154, bX11_count_154), (159, bX11_count_159), (170, bX11_count_170), (171, bX11_count_171), (172, bX11_count_172), (183, bX11_count_183), (184, bX11_count_184), (185, bX11_count_185), (196, bX11_count_196), (207, bX11_count_207), (215, bX11_count_215), (223, bX11_count_223)]
theorem ok_X11_count_t : rm_okP mX11_count tX11_count = true := by decide +kernel
theorem ok_X11_count : rm_okM mX11_count tX11_count := ⟨ok_X11_count_t, List.forall_mem_cons.mpr ⟨cw_X7_openSet, List.forall_mem_cons.mpr ⟨cw_X7_wakesByHimself, fun _ h => absurd h List.not_mem_nil⟩⟩⟩
theorem atX11_count_0 : rm_at tX11_count 0 = some bX11_count_0 := rfl
theorem atX11_count_92 : rm_at tX11_count 92 = some bX11_count_92 := rfl
theorem atX11_count_100 : rm_at tX11_count 100 = some bX11_count_100 := rfl
theorem atX11_count_108 : rm_at tX11_count 108 = some bX11_count_108 := rfl
theorem atX11_count_116 : rm_at tX11_count 116 = some bX11_count_116 := rfl
theorem atX11_count_121 : rm_at tX11_count 121 = some bX11_count_121 := rfl
theorem atX11_count_129 : rm_at tX11_count 129 = some bX11_count_129 := rfl
theorem atX11_count_134 : rm_at tX11_count 134 = some bX11_count_134 := rfl
theorem atX11_count_139 : rm_at tX11_count 139 = some bX11_count_139 := rfl
theorem atX11_count_144 : rm_at tX11_count 144 = some bX11_count_144 := rfl
theorem atX11_count_149 : rm_at tX11_count 149 = some bX11_count_149 := rfl
theorem atX11_count_154 : rm_at tX11_count 154 = some bX11_count_154 := rfl
theorem atX11_count_159 : rm_at tX11_count 159 = some bX11_count_159 := rfl
theorem atX11_count_170 : rm_at tX11_count 170 = some bX11_count_170 := rfl
theorem atX11_count_171 : rm_at tX11_count 171 = some bX11_count_171 := rfl
theorem atX11_count_172 : rm_at tX11_count 172 = some bX11_count_172 := rfl
theorem atX11_count_183 : rm_at tX11_count 183 = some bX11_count_183 := rfl
theorem atX11_count_184 : rm_at tX11_count 184 = some bX11_count_184 := rfl
theorem atX11_count_185 : rm_at tX11_count 185 = some bX11_count_185 := rfl
theorem atX11_count_196 : rm_at tX11_count 196 = some bX11_count_196 := rfl
theorem atX11_count_207 : rm_at tX11_count 207 = some bX11_count_207 := rfl
theorem atX11_count_215 : rm_at tX11_count 215 = some bX11_count_215 := rfl
theorem atX11_count_223 : rm_at tX11_count 223 = some bX11_count_223 := rfl
def bX11_image_0 : List rm_J := [
  (.iload 1, .iload_n 1, 1, 0, 0, 0, .null, rm_M0, []),
  (.nop, .iconst 0, 1, 0, 0, 0, .int 0, rm_M0, []),
  (.nop, .iconst 3, 1, 0, 0, 0, .int 3, rm_M0, []),
  (.invokestatic 211, .invokestatic 211, 3, 0, 3, 0, .null, mX11_isWithin, [(0, 936), (0, 937)]),
  (.ifCond .ne 5, .ifCond .ne 5, 3, 11, 0, 0, .null, rm_M0, []),
  (.nop, .iconst (-1), 1, 0, 0, 0, .int (-1), rm_M0, []),
  (.ireturn, .ireturn, 1, 0, 0, 0, .null, rm_M0, [])]
def bX11_image_11 : List rm_J := [
  (.aload 0, .aload_n 0, 1, 0, 0, 0, .null, rm_M0, []),
  (.getfield 36, .getfield 36, 3, 11, 5, 454, .null, rm_M0, []),
  (.iload 1, .iload_n 1, 1, 0, 0, 0, .null, rm_M0, []),
  (.aaload, .aaload, 1, 0, 0, 0, .null, rm_M0, []),
  (.ifnonnull 16, .ifnonnull 16, 3, 33, 0, 0, .null, rm_M0, []),
  (.aload 0, .aload_n 0, 1, 0, 0, 0, .null, rm_M0, []),
  (.getfield 36, .getfield 36, 3, 11, 5, 454, .null, rm_M0, []),
  (.iload 1, .iload_n 1, 1, 0, 0, 0, .null, rm_M0, []),
  (.new 29, .new 29, 3, 0, 0, 0, .null, rm_M0, [(0, 182), (0, 183), (0, 100)]),
  (.dup, .dup, 1, 0, 0, 0, .null, rm_M0, []),
  (.invokespecial 31, .invokespecial 31, 3, 0, 0, 184, .null, mX0_init, [(0, 185)]),
  (.aastore, .aastore, 1, 0, 0, 0, .null, rm_M0, [])]
def bX11_image_33 : List rm_J := [
  (.aload 0, .aload_n 0, 1, 0, 0, 0, .null, rm_M0, []),
  (.getfield 36, .getfield 36, 3, 11, 5, 454, .null, rm_M0, []),
  (.iload 1, .iload_n 1, 1, 0, 0, 0, .null, rm_M0, []),
  (.aaload, .aaload, 1, 0, 0, 0, .null, rm_M0, []),
  (.aload 0, .aload_n 0, 1, 0, 0, 0, .null, rm_M0, []),
  (.getfield 32, .getfield 32, 3, 11, 4, 453, .null, rm_M0, []),
  (.invokevirtual 322, .invokevirtual 322, 3, 0, 1, 0, .null, mX0_copyFrom, [(0, 1116), (0, 1117), (0, 1118)]),
  (.aload 0, .aload_n 0, 1, 0, 0, 0, .null, rm_M0, []),
  (.getfield 32, .getfield 32, 3, 11, 4, 453, .null, rm_M0, []),
  (.getfield 110, .getfield 110, 3, 0, 0, 344, .null, rm_M0, []),
  (.getfield 151, .getfield 151, 3, 7, 2, 269, .null, rm_M0, []),
  (.ireturn, .ireturn, 1, 0, 0, 0, .null, rm_M0, [])]
def tX11_image : rm_P := [(0, bX11_image_0), (11, bX11_image_11), (33, bX11_image_33)]
theorem ok_X11_image_t : rm_okP mX11_image tX11_image = true := by decide +kernel
theorem ok_X11_image : rm_okM mX11_image tX11_image := ⟨ok_X11_image_t, List.forall_mem_cons.mpr ⟨cw_X11_isWithin, List.forall_mem_cons.mpr ⟨cw_X0_init, List.forall_mem_cons.mpr ⟨cw_X0_copyFrom, fun _ h => absurd h List.not_mem_nil⟩⟩⟩⟩
theorem atX11_image_0 : rm_at tX11_image 0 = some bX11_image_0 := rfl
theorem atX11_image_11 : rm_at tX11_image 11 = some bX11_image_11 := rfl
theorem atX11_image_33 : rm_at tX11_image 33 = some bX11_image_33 := rfl
def bX11_back_0 : List rm_J := [
  (.iload 1, .iload_n 1, 1, 0, 0, 0, .null, rm_M0, []),
  (.nop, .iconst 0, 1, 0, 0, 0, .int 0, rm_M0, []),
  (.nop, .iconst 3, 1, 0, 0, 0, .int 3, rm_M0, []),
  (.invokestatic 211, .invokestatic 211, 3, 0, 3, 0, .null, mX11_isWithin, [(0, 936), (0, 937)]),
  (.ifCond .eq 12, .ifCond .eq 12, 3, 18, 0, 0, .null, rm_M0, []),
  (.aload 0, .aload_n 0, 1, 0, 0, 0, .null, rm_M0, []),
  (.getfield 36, .getfield 36, 3, 11, 5, 454, .null, rm_M0, []),
  (.iload 1, .iload_n 1, 1, 0, 0, 0, .null, rm_M0, []),
  (.aaload, .aaload, 1, 0, 0, 0, .null, rm_M0, []),
  (.ifnonnull 5, .ifnonnull 5, 3, 20, 0, 0, .null, rm_M0, [])]
def bX11_back_18 : List rm_J := [
  (.nop, .iconst (-1), 1, 0, 0, 0, .int (-1), rm_M0, []),
  (.ireturn, .ireturn, 1, 0, 0, 0, .null, rm_M0, [])]
def bX11_back_20 : List rm_J := [
  (.aload 0, .aload_n 0, 1, 0, 0, 0, .null, rm_M0, []),
  (.getfield 32, .getfield 32, 3, 11, 4, 453, .null, rm_M0, []),
  (.aload 0, .aload_n 0, 1, 0, 0, 0, .null, rm_M0, []),
  (.getfield 36, .getfield 36, 3, 11, 5, 454, .null, rm_M0, []),
  (.iload 1, .iload_n 1, 1, 0, 0, 0, .null, rm_M0, []),
  (.aaload, .aaload, 1, 0, 0, 0, .null, rm_M0, []),
  (.invokevirtual 322, .invokevirtual 322, 3, 0, 1, 0, .null, mX0_copyFrom, [(0, 1116), (0, 1117), (0, 1118)]),
  (.aload 0, .aload_n 0, 1, 0, 0, 0, .null, rm_M0, []),
  (.getfield 32, .getfield 32, 3, 11, 4, 453, .null, rm_M0, []),
  (.getfield 110, .getfield 110, 3, 0, 0, 344, .null, rm_M0, []),
  (.getfield 151, .getfield 151, 3, 7, 2, 269, .null, rm_M0, []),
  (.ireturn, .ireturn, 1, 0, 0, 0, .null, rm_M0, [])]
def tX11_back : rm_P := [(0, bX11_back_0), (18, bX11_back_18), (20, bX11_back_20)]
theorem ok_X11_back_t : rm_okP mX11_back tX11_back = true := by decide +kernel
theorem ok_X11_back : rm_okM mX11_back tX11_back := ⟨ok_X11_back_t, List.forall_mem_cons.mpr ⟨cw_X11_isWithin, List.forall_mem_cons.mpr ⟨cw_X0_copyFrom, fun _ h => absurd h List.not_mem_nil⟩⟩⟩
theorem atX11_back_0 : rm_at tX11_back 0 = some bX11_back_0 := rfl
theorem atX11_back_18 : rm_at tX11_back 18 = some bX11_back_18 := rfl
theorem atX11_back_20 : rm_at tX11_back 20 = some bX11_back_20 := rfl
def bX11_isWithin_0 : List rm_J := [
  (.iload 0, .iload_n 0, 1, 0, 0, 0, .null, rm_M0, []),
  (.iload 1, .iload_n 1, 1, 0, 0, 0, .null, rm_M0, []),
  (.if_icmp .lt 12, .if_icmp .lt 12, 3, 14, 0, 0, .null, rm_M0, []),
  (.iload 0, .iload_n 0, 1, 0, 0, 0, .null, rm_M0, []),
  (.iload 2, .iload_n 2, 1, 0, 0, 0, .null, rm_M0, []),
  (.if_icmp .gt 7, .if_icmp .gt 7, 3, 14, 0, 0, .null, rm_M0, []),
  (.nop, .iconst 1, 1, 0, 0, 0, .int 1, rm_M0, []),
  (.goto 4, .goto 4, 3, 15, 0, 0, .null, rm_M0, [])]
def bX11_isWithin_14 : List rm_J := [
  (.nop, .iconst 0, 1, 0, 0, 0, .int 0, rm_M0, [])]
def bX11_isWithin_15 : List rm_J := [
  (.ireturn, .ireturn, 1, 0, 0, 0, .null, rm_M0, [])]
def tX11_isWithin : rm_P := [(0, bX11_isWithin_0), (14, bX11_isWithin_14), (15, bX11_isWithin_15)]
theorem ok_X11_isWithin_t : rm_okP mX11_isWithin tX11_isWithin = true := by decide +kernel
theorem ok_X11_isWithin : rm_okM mX11_isWithin tX11_isWithin := ⟨ok_X11_isWithin_t, fun _ h => absurd h List.not_mem_nil⟩
theorem atX11_isWithin_0 : rm_at tX11_isWithin 0 = some bX11_isWithin_0 := rfl
theorem atX11_isWithin_14 : rm_at tX11_isWithin 14 = some bX11_isWithin_14 := rfl
theorem atX11_isWithin_15 : rm_at tX11_isWithin 15 = some bX11_isWithin_15 := rfl
def bX11_isTold_0 : List rm_J := [
  (.aload 0, .aload_n 0, 1, 0, 0, 0, .null, rm_M0, []),
  (.getfield 32, .getfield 32, 3, 11, 4, 453, .null, rm_M0, []),
  (.getfield 110, .getfield 110, 3, 0, 0, 344, .null, rm_M0, []),
  (.getfield 119, .getfield 119, 3, 7, 0, 263, .null, rm_M0, []),
  (.getfield 147, .getfield 147, 3, 3, 0, 213, .null, rm_M0, []),
  (.ireturn, .ireturn, 1, 0, 0, 0, .null, rm_M0, [])]
def tX11_isTold : rm_P := [(0, bX11_isTold_0)]
theorem ok_X11_isTold_t : rm_okP mX11_isTold tX11_isTold = true := by decide +kernel
theorem ok_X11_isTold : rm_okM mX11_isTold tX11_isTold := ⟨ok_X11_isTold_t, fun _ h => absurd h List.not_mem_nil⟩
theorem atX11_isTold_0 : rm_at tX11_isTold 0 = some bX11_isTold_0 := rfl
def bX11_isQuestion_0 : List rm_J := [
  (.aload 0, .aload_n 0, 1, 0, 0, 0, .null, rm_M0, []),
  (.getfield 32, .getfield 32, 3, 11, 4, 453, .null, rm_M0, []),
  (.getfield 110, .getfield 110, 3, 0, 0, 344, .null, rm_M0, []),
  (.getfield 119, .getfield 119, 3, 7, 0, 263, .null, rm_M0, []),
  (.iload 1, .iload_n 1, 1, 0, 0, 0, .null, rm_M0, []),
  (.invokevirtual 325, .invokevirtual 325, 3, 0, 1, 0, .null, mX3_has, [(0, 784), (0, 684), (0, 685)]),
  (.ireturn, .ireturn, 1, 0, 0, 0, .null, rm_M0, [])]
def tX11_isQuestion : rm_P := [(0, bX11_isQuestion_0)]
theorem ok_X11_isQuestion_t : rm_okP mX11_isQuestion tX11_isQuestion = true := by decide +kernel
theorem ok_X11_isQuestion : rm_okM mX11_isQuestion tX11_isQuestion := ⟨ok_X11_isQuestion_t, List.forall_mem_cons.mpr ⟨cw_X3_has, fun _ h => absurd h List.not_mem_nil⟩⟩
theorem atX11_isQuestion_0 : rm_at tX11_isQuestion 0 = some bX11_isQuestion_0 := rfl
def bX11_isRuleOrNone_0 : List rm_J := [
  (.iload 1, .iload_n 1, 1, 0, 0, 0, .null, rm_M0, []),
  (.nop, .iconst (-1), 1, 0, 0, 0, .int (-1), rm_M0, []),
  (.if_icmp .lt 15, .if_icmp .lt 15, 3, 17, 0, 0, .null, rm_M0, []),
  (.iload 1, .iload_n 1, 1, 0, 0, 0, .null, rm_M0, []),
  (.aload 0, .aload_n 0, 1, 0, 0, 0, .null, rm_M0, []),
  (.getfield 65, .getfield 65, 3, 11, 3, 452, .null, rm_M0, []),
  (.if_icmp .ge 7, .if_icmp .ge 7, 3, 17, 0, 0, .null, rm_M0, []),
  (.nop, .iconst 1, 1, 0, 0, 0, .int 1, rm_M0, []),
  (.goto 4, .goto 4, 3, 18, 0, 0, .null, rm_M0, [])]
def bX11_isRuleOrNone_17 : List rm_J := [
  (.nop, .iconst 0, 1, 0, 0, 0, .int 0, rm_M0, [])]
def bX11_isRuleOrNone_18 : List rm_J := [
  (.ireturn, .ireturn, 1, 0, 0, 0, .null, rm_M0, [])]
def tX11_isRuleOrNone : rm_P := [(0, bX11_isRuleOrNone_0), (17, bX11_isRuleOrNone_17), (18, bX11_isRuleOrNone_18)]
theorem ok_X11_isRuleOrNone_t : rm_okP mX11_isRuleOrNone tX11_isRuleOrNone = true := by decide +kernel
theorem ok_X11_isRuleOrNone : rm_okM mX11_isRuleOrNone tX11_isRuleOrNone := ⟨ok_X11_isRuleOrNone_t, fun _ h => absurd h List.not_mem_nil⟩
theorem atX11_isRuleOrNone_0 : rm_at tX11_isRuleOrNone 0 = some bX11_isRuleOrNone_0 := rfl
theorem atX11_isRuleOrNone_17 : rm_at tX11_isRuleOrNone 17 = some bX11_isRuleOrNone_17 := rfl
theorem atX11_isRuleOrNone_18 : rm_at tX11_isRuleOrNone 18 = some bX11_isRuleOrNone_18 := rfl
def bX11_ruleInForce_0 : List rm_J := [
  (.aload 0, .aload_n 0, 1, 0, 0, 0, .null, rm_M0, []),
  (.aload 0, .aload_n 0, 1, 0, 0, 0, .null, rm_M0, []),
  (.getfield 32, .getfield 32, 3, 11, 4, 453, .null, rm_M0, []),
  (.getfield 104, .getfield 104, 3, 0, 3, 350, .null, rm_M0, []),
  (.invokevirtual 265, .invokevirtual 265, 3, 0, 1, 0, .null, mX11_ruleOrNull, [(0, 827), (0, 829), (0, 22)]),
  (.areturn, .areturn, 1, 0, 0, 0, .null, rm_M0, [])]
def tX11_ruleInForce : rm_P := [(0, bX11_ruleInForce_0)]
theorem ok_X11_ruleInForce_t : rm_okP mX11_ruleInForce tX11_ruleInForce = true := by decide +kernel
theorem ok_X11_ruleInForce : rm_okM mX11_ruleInForce tX11_ruleInForce := ⟨ok_X11_ruleInForce_t, List.forall_mem_cons.mpr ⟨cw_X11_ruleOrNull, fun _ h => absurd h List.not_mem_nil⟩⟩
theorem atX11_ruleInForce_0 : rm_at tX11_ruleInForce 0 = some bX11_ruleInForce_0 := rfl
def bX11_ruleOrNull_0 : List rm_J := [
  (.iload 1, .iload_n 1, 1, 0, 0, 0, .null, rm_M0, []),
  (.ifCond .lt 20, .ifCond .lt 20, 3, 21, 0, 0, .null, rm_M0, []),
  (.iload 1, .iload_n 1, 1, 0, 0, 0, .null, rm_M0, []),
  (.aload 0, .aload_n 0, 1, 0, 0, 0, .null, rm_M0, []),
  (.getfield 65, .getfield 65, 3, 11, 3, 452, .null, rm_M0, []),
  (.if_icmp .ge 12, .if_icmp .ge 12, 3, 21, 0, 0, .null, rm_M0, []),
  (.aload 0, .aload_n 0, 1, 0, 0, 0, .null, rm_M0, []),
  (.getfield 25, .getfield 25, 3, 11, 2, 451, .null, rm_M0, []),
  (.iload 1, .iload_n 1, 1, 0, 0, 0, .null, rm_M0, []),
  (.aaload, .aaload, 1, 0, 0, 0, .null, rm_M0, []),
  (.goto 4, .goto 4, 3, 22, 0, 0, .null, rm_M0, [])]
def bX11_ruleOrNull_21 : List rm_J := [
  (.nop, .aconst_null, 1, 0, 0, 0, .null, rm_M0, [])]
def bX11_ruleOrNull_22 : List rm_J := [
  (.areturn, .areturn, 1, 0, 0, 0, .null, rm_M0, [])]
def tX11_ruleOrNull : rm_P := [(0, bX11_ruleOrNull_0), (21, bX11_ruleOrNull_21), (22, bX11_ruleOrNull_22)]
theorem ok_X11_ruleOrNull_t : rm_okP mX11_ruleOrNull tX11_ruleOrNull = true := by decide +kernel
theorem ok_X11_ruleOrNull : rm_okM mX11_ruleOrNull tX11_ruleOrNull := ⟨ok_X11_ruleOrNull_t, fun _ h => absurd h List.not_mem_nil⟩
theorem atX11_ruleOrNull_0 : rm_at tX11_ruleOrNull 0 = some bX11_ruleOrNull_0 := rfl
theorem atX11_ruleOrNull_21 : rm_at tX11_ruleOrNull 21 = some bX11_ruleOrNull_21 := rfl
theorem atX11_ruleOrNull_22 : rm_at tX11_ruleOrNull 22 = some bX11_ruleOrNull_22 := rfl
def bX11_balanceWithEgg_0 : List rm_J := [
  (.aload 0, .aload_n 0, 1, 0, 0, 0, .null, rm_M0, []),
  (.getfield 43, .getfield 43, 3, 11, 6, 455, .null, rm_M0, []),
  (.aload 0, .aload_n 0, 1, 0, 0, 0, .null, rm_M0, []),
  (.getfield 32, .getfield 32, 3, 11, 4, 453, .null, rm_M0, []),
  (.getfield 110, .getfield 110, 3, 0, 0, 344, .null, rm_M0, []),
  (.aload 0, .aload_n 0, 1, 0, 0, 0, .null, rm_M0, []),
  (.invokevirtual 164, .invokevirtual 164, 3, 0, 0, 0, .null, mX11_ruleInForce, [(0, 823), (0, 825), (0, 21)]),
  (.invokevirtual 168, .invokevirtual 168, 3, 0, 2, 0, .null, mX9_start, [(0, 831), (0, 832), (0, 833)]),
  (.aload 0, .aload_n 0, 1, 0, 0, 0, .null, rm_M0, []),
  (.getfield 43, .getfield 43, 3, 11, 6, 455, .null, rm_M0, []),
  (.iload 1, .iload_n 1, 1, 0, 0, 0, .null, rm_M0, []),
  (.invokevirtual 215, .invokevirtual 215, 3, 0, 1, 0, .null, mX9_passDays, [(0, 939), (0, 940), (0, 941)]),
  (.aload 0, .aload_n 0, 1, 0, 0, 0, .null, rm_M0, []),
  (.getfield 43, .getfield 43, 3, 11, 6, 455, .null, rm_M0, []),
  (.getfield 175, .getfield 175, 3, 9, 0, 377, .null, rm_M0, []),
  (.nop, .iconst 1, 1, 0, 0, 0, .int 1, rm_M0, []),
  (.putfield 185, .putfield 185, 3, 7, 7, 284, .int 2, rm_M0, []),
  (.aload 0, .aload_n 0, 1, 0, 0, 0, .null, rm_M0, []),
  (.getfield 43, .getfield 43, 3, 11, 6, 455, .null, rm_M0, []),
  (.iload 2, .iload_n 2, 1, 0, 0, 0, .null, rm_M0, []),
  (.iload 1, .iload_n 1, 1, 0, 0, 0, .null, rm_M0, []),
  (.isub, .isub, 1, 0, 0, 0, .null, rm_M0, []),
  (.invokevirtual 238, .invokevirtual 238, 3, 0, 1, 0, .null, mX9_balanceBehind, [(0, 980), (0, 981), (0, 982)]),
  (.ireturn, .ireturn, 1, 0, 0, 0, .null, rm_M0, [])]
def tX11_balanceWithEgg : rm_P := [(0, bX11_balanceWithEgg_0)]
theorem ok_X11_balanceWithEgg_t : rm_okP mX11_balanceWithEgg tX11_balanceWithEgg = true := by decide +kernel
theorem ok_X11_balanceWithEgg : rm_okM mX11_balanceWithEgg tX11_balanceWithEgg := ⟨ok_X11_balanceWithEgg_t, List.forall_mem_cons.mpr ⟨cw_X11_ruleInForce, List.forall_mem_cons.mpr ⟨cw_X9_start, List.forall_mem_cons.mpr ⟨cw_X9_passDays, List.forall_mem_cons.mpr ⟨cw_X9_balanceBehind, fun _ h => absurd h List.not_mem_nil⟩⟩⟩⟩⟩
theorem atX11_balanceWithEgg_0 : rm_at tX11_balanceWithEgg 0 = some bX11_balanceWithEgg_0 := rfl
def bX11_rescuesAll_0 : List rm_J := [
  (.aload 0, .aload_n 0, 1, 0, 0, 0, .null, rm_M0, []),
  (.getfield 43, .getfield 43, 3, 11, 6, 455, .null, rm_M0, []),
  (.aload 0, .aload_n 0, 1, 0, 0, 0, .null, rm_M0, []),
  (.getfield 32, .getfield 32, 3, 11, 4, 453, .null, rm_M0, []),
  (.getfield 110, .getfield 110, 3, 0, 0, 344, .null, rm_M0, []),
  (.aload 0, .aload_n 0, 1, 0, 0, 0, .null, rm_M0, []),
  (.invokevirtual 164, .invokevirtual 164, 3, 0, 0, 0, .null, mX11_ruleInForce, [(0, 823), (0, 825), (0, 21)]),
  (.invokevirtual 168, .invokevirtual 168, 3, 0, 2, 0, .null, mX9_start, [(0, 831), (0, 832), (0, 833)]),
  (.nop, .iconst 0, 1, 0, 0, 0, .int 0, rm_M0, []),
  (.istore 3, .istore_n 3, 1, 0, 0, 0, .null, rm_M0, [])]
def bX11_rescuesAll_20 : List rm_J := [
  (.iload 3, .iload_n 3, 1, 0, 0, 0, .null, rm_M0, []),
  (.nop, .bipush 8, 2, 0, 0, 0, .int 8, rm_M0, []),
  (.if_icmp .ge 43, .if_icmp .ge 43, 3, 66, 0, 0, .null, rm_M0, []),
  (.iload 1, .iload_n 1, 1, 0, 0, 0, .null, rm_M0, []),
  (.iload 3, .iload_n 3, 1, 0, 0, 0, .null, rm_M0, []),
  (.ishr, .ishr, 1, 0, 0, 0, .null, rm_M0, []),
  (.nop, .iconst 1, 1, 0, 0, 0, .int 1, rm_M0, []),
  (.iand, .iand, 1, 0, 0, 0, .null, rm_M0, []),
  (.ifCond .eq 29, .ifCond .eq 29, 3, 60, 0, 0, .null, rm_M0, []),
  (.aload 0, .aload_n 0, 1, 0, 0, 0, .null, rm_M0, []),
  (.getfield 43, .getfield 43, 3, 11, 6, 455, .null, rm_M0, []),
  (.getfield 175, .getfield 175, 3, 9, 0, 377, .null, rm_M0, []),
  (.iload 3, .iload_n 3, 1, 0, 0, 0, .null, rm_M0, []),
  (.invokevirtual 133, .invokevirtual 133, 3, 0, 1, 0, .null, mX7_isOpen, [(0, 793), (0, 794), (0, 795)]),
  (.ifCond .eq 15, .ifCond .eq 15, 3, 60, 0, 0, .null, rm_M0, []),
  (.aload 0, .aload_n 0, 1, 0, 0, 0, .null, rm_M0, []),
  (.getfield 43, .getfield 43, 3, 11, 6, 455, .null, rm_M0, []),
  (.getfield 175, .getfield 175, 3, 9, 0, 377, .null, rm_M0, []),
  (.iload 3, .iload_n 3, 1, 0, 0, 0, .null, rm_M0, []),
  (.invokevirtual 182, .invokevirtual 182, 3, 0, 1, 0, .null, mX7_answer, [(0, 898), (0, 883), (0, 884)]),
  (.pop, .pop, 1, 0, 0, 0, .null, rm_M0, [])]
def bX11_rescuesAll_60 : List rm_J := [
  (.iinc 3 1, .iinc 3 1, 3, 0, 0, 0, .int 1, rm_M0, []),
  (.goto (-43), .goto (-43), 3, 20, 0, 0, .null, rm_M0, [])]
def bX11_rescuesAll_66 : List rm_J := [
  (.aload 0, .aload_n 0, 1, 0, 0, 0, .null, rm_M0, []),
  (.getfield 32, .getfield 32, 3, 11, 4, 453, .null, rm_M0, []),
  (.getfield 110, .getfield 110, 3, 0, 0, 344, .null, rm_M0, []),
  (.getfield 328, .getfield 328, 3, 7, 10, 288, .null, rm_M0, []),
  (.istore 3, .istore_n 3, 1, 0, 0, 0, .null, rm_M0, []),
  (.nop, .iconst 0, 1, 0, 0, 0, .int 0, rm_M0, []),
  (.istore 4, .istore 4, 2, 0, 0, 0, .null, rm_M0, [])]
def bX11_rescuesAll_80 : List rm_J := [
  (.iload 4, .iload 4, 2, 0, 0, 0, .null, rm_M0, []),
  (.iload 2, .iload_n 2, 1, 0, 0, 0, .null, rm_M0, []),
  (.if_icmp .ge 31, .if_icmp .ge 31, 3, 114, 0, 0, .null, rm_M0, []),
  (.aload 0, .aload_n 0, 1, 0, 0, 0, .null, rm_M0, []),
  (.getfield 43, .getfield 43, 3, 11, 6, 455, .null, rm_M0, []),
  (.getfield 175, .getfield 175, 3, 9, 0, 377, .null, rm_M0, []),
  (.getfield 328, .getfield 328, 3, 7, 10, 288, .null, rm_M0, []),
  (.iload 3, .iload_n 3, 1, 0, 0, 0, .null, rm_M0, []),
  (.if_icmp .ne 17, .if_icmp .ne 17, 3, 114, 0, 0, .null, rm_M0, []),
  (.aload 0, .aload_n 0, 1, 0, 0, 0, .null, rm_M0, []),
  (.getfield 43, .getfield 43, 3, 11, 6, 455, .null, rm_M0, []),
  (.invokevirtual 172, .invokevirtual 172, 3, 0, 0, 0, .null, mX9_passDay, [(0, 836), (0, 837), (0, 838)]),
  (.pop, .pop, 1, 0, 0, 0, .null, rm_M0, []),
  (.iinc 4 1, .iinc 4 1, 3, 0, 0, 0, .int 1, rm_M0, []),
  (.goto (-31), .goto (-31), 3, 80, 0, 0, .null, rm_M0, [])]
def bX11_rescuesAll_114 : List rm_J := [
  (.aload 0, .aload_n 0, 1, 0, 0, 0, .null, rm_M0, []),
  (.getfield 43, .getfield 43, 3, 11, 6, 455, .null, rm_M0, []),
  (.getfield 175, .getfield 175, 3, 9, 0, 377, .null, rm_M0, []),
  (.getfield 328, .getfield 328, 3, 7, 10, 288, .null, rm_M0, []),
  (.iload 3, .iload_n 3, 1, 0, 0, 0, .null, rm_M0, []),
  (.if_icmp .ne 7, .if_icmp .ne 7, 3, 132, 0, 0, .null, rm_M0, []),
  (.nop, .iconst 1, 1, 0, 0, 0, .int 1, rm_M0, []),
  (.goto 4, .goto 4, 3, 133, 0, 0, .null, rm_M0, [])]
def bX11_rescuesAll_132 : List rm_J := [
  (.nop, .iconst 0, 1, 0, 0, 0, .int 0, rm_M0, [])]
def bX11_rescuesAll_133 : List rm_J := [
  (.ireturn, .ireturn, 1, 0, 0, 0, .null, rm_M0, [])]
def tX11_rescuesAll : rm_P := [(0, bX11_rescuesAll_0), (20, bX11_rescuesAll_20), (60, bX11_rescuesAll_60), (66, bX11_rescuesAll_66), (80, bX11_rescuesAll_80), (114, bX11_rescuesAll_114), (132, bX11_rescuesAll_132), (133, bX11_rescuesAll_133)]
theorem ok_X11_rescuesAll_t : rm_okP mX11_rescuesAll tX11_rescuesAll = true := by decide +kernel
theorem ok_X11_rescuesAll : rm_okM mX11_rescuesAll tX11_rescuesAll := ⟨ok_X11_rescuesAll_t, List.forall_mem_cons.mpr ⟨cw_X11_ruleInForce, List.forall_mem_cons.mpr ⟨cw_X9_start, List.forall_mem_cons.mpr ⟨cw_X7_isOpen, List.forall_mem_cons.mpr ⟨cw_X7_answer, List.forall_mem_cons.mpr ⟨cw_X9_passDay, fun _ h => absurd h List.not_mem_nil⟩⟩⟩⟩⟩⟩
theorem atX11_rescuesAll_0 : rm_at tX11_rescuesAll 0 = some bX11_rescuesAll_0 := rfl
theorem atX11_rescuesAll_20 : rm_at tX11_rescuesAll 20 = some bX11_rescuesAll_20 := rfl
theorem atX11_rescuesAll_60 : rm_at tX11_rescuesAll 60 = some bX11_rescuesAll_60 := rfl
theorem atX11_rescuesAll_66 : rm_at tX11_rescuesAll 66 = some bX11_rescuesAll_66 := rfl
theorem atX11_rescuesAll_80 : rm_at tX11_rescuesAll 80 = some bX11_rescuesAll_80 := rfl
theorem atX11_rescuesAll_114 : rm_at tX11_rescuesAll 114 = some bX11_rescuesAll_114 := rfl
theorem atX11_rescuesAll_132 : rm_at tX11_rescuesAll 132 = some bX11_rescuesAll_132 := rfl
theorem atX11_rescuesAll_133 : rm_at tX11_rescuesAll 133 = some bX11_rescuesAll_133 := rfl
def bX11_fittingRules_0 : List rm_J := [
  (.nop, .iconst 0, 1, 0, 0, 0, .int 0, rm_M0, []),
  (.istore 1, .istore_n 1, 1, 0, 0, 0, .null, rm_M0, []),
  (.nop, .iconst 0, 1, 0, 0, 0, .int 0, rm_M0, []),
  (.istore 2, .istore_n 2, 1, 0, 0, 0, .null, rm_M0, [])]
def bX11_fittingRules_4 : List rm_J := [
  (.iload 2, .iload_n 2, 1, 0, 0, 0, .null, rm_M0, []),
  (.aload 0, .aload_n 0, 1, 0, 0, 0, .null, rm_M0, []),
  (.getfield 65, .getfield 65, 3, 11, 3, 452, .null, rm_M0, []),
  (.if_icmp .gt 94, .if_icmp .gt 94, 3, 103, 0, 0, .null, rm_M0, []),
  (.aload 0, .aload_n 0, 1, 0, 0, 0, .null, rm_M0, []),
  (.getfield 43, .getfield 43, 3, 11, 6, 455, .null, rm_M0, []),
  (.aload 0, .aload_n 0, 1, 0, 0, 0, .null, rm_M0, []),
  (.getfield 32, .getfield 32, 3, 11, 4, 453, .null, rm_M0, []),
  (.getfield 110, .getfield 110, 3, 0, 0, 344, .null, rm_M0, []),
  (.getfield 119, .getfield 119, 3, 7, 0, 263, .null, rm_M0, []),
  (.aload 0, .aload_n 0, 1, 0, 0, 0, .null, rm_M0, []),
  (.iload 2, .iload_n 2, 1, 0, 0, 0, .null, rm_M0, []),
  (.nop, .iconst 1, 1, 0, 0, 0, .int 1, rm_M0, []),
  (.isub, .isub, 1, 0, 0, 0, .null, rm_M0, []),
  (.invokevirtual 265, .invokevirtual 265, 3, 0, 1, 0, .null, mX11_ruleOrNull, [(0, 827), (0, 829), (0, 22)]),
  (.invokevirtual 269, .invokevirtual 269, 3, 0, 2, 0, .null, mX9_startAnew, [(0, 1037), (0, 1038), (0, 1039)]),
  (.iload 2, .iload_n 2, 1, 0, 0, 0, .null, rm_M0, []),
  (.nop, .bipush 61, 2, 0, 0, 0, .int 61, rm_M0, []),
  (.imul, .imul, 1, 0, 0, 0, .null, rm_M0, []),
  (.istore 3, .istore_n 3, 1, 0, 0, 0, .null, rm_M0, []),
  (.nop, .iconst 0, 1, 0, 0, 0, .int 0, rm_M0, []),
  (.istore 4, .istore 4, 2, 0, 0, 0, .null, rm_M0, [])]
def bX11_fittingRules_44 : List rm_J := [
  (.iload 4, .iload 4, 2, 0, 0, 0, .null, rm_M0, []),
  (.nop, .bipush 61, 2, 0, 0, 0, .int 61, rm_M0, []),
  (.if_icmp .ge 25, .if_icmp .ge 25, 3, 73, 0, 0, .null, rm_M0, []),
  (.aload 0, .aload_n 0, 1, 0, 0, 0, .null, rm_M0, []),
  (.getfield 61, .getfield 61, 3, 11, 9, 458, .null, rm_M0, []),
  (.iload 3, .iload_n 3, 1, 0, 0, 0, .null, rm_M0, []),
  (.iload 4, .iload 4, 2, 0, 0, 0, .null, rm_M0, []),
  (.iadd, .iadd, 1, 0, 0, 0, .null, rm_M0, []),
  (.aload 0, .aload_n 0, 1, 0, 0, 0, .null, rm_M0, []),
  (.getfield 43, .getfield 43, 3, 11, 6, 455, .null, rm_M0, []),
  (.invokevirtual 172, .invokevirtual 172, 3, 0, 0, 0, .null, mX9_passDay, [(0, 836), (0, 837), (0, 838)]),
  (.iastore, .iastore, 1, 0, 0, 0, .null, rm_M0, []),
  (.iinc 4 1, .iinc 4 1, 3, 0, 0, 0, .int 1, rm_M0, []),
  (.goto (-26), .goto (-26), 3, 44, 0, 0, .null, rm_M0, [])]
def bX11_fittingRules_73 : List rm_J := [
  (.aload 0, .aload_n 0, 1, 0, 0, 0, .null, rm_M0, []),
  (.getfield 32, .getfield 32, 3, 11, 4, 453, .null, rm_M0, []),
  (.getfield 285, .getfield 285, 3, 0, 2, 348, .null, rm_M0, []),
  (.aload 0, .aload_n 0, 1, 0, 0, 0, .null, rm_M0, []),
  (.getfield 61, .getfield 61, 3, 11, 9, 458, .null, rm_M0, []),
  (.iload 3, .iload_n 3, 1, 0, 0, 0, .null, rm_M0, []),
  (.invokevirtual 331, .invokevirtual 331, 3, 0, 2, 0, .null, mX1_areSo, [(0, 1079), (0, 1080), (0, 1081)]),
  (.ifCond .eq 9, .ifCond .eq 9, 3, 97, 0, 0, .null, rm_M0, []),
  (.iload 1, .iload_n 1, 1, 0, 0, 0, .null, rm_M0, []),
  (.nop, .iconst 1, 1, 0, 0, 0, .int 1, rm_M0, []),
  (.iload 2, .iload_n 2, 1, 0, 0, 0, .null, rm_M0, []),
  (.ishl, .ishl, 1, 0, 0, 0, .null, rm_M0, []),
  (.ior, .ior, 1, 0, 0, 0, .null, rm_M0, []),
  (.istore 1, .istore_n 1, 1, 0, 0, 0, .null, rm_M0, [])]
def bX11_fittingRules_97 : List rm_J := [
  (.iinc 2 1, .iinc 2 1, 3, 0, 0, 0, .int 1, rm_M0, []),
  (.goto (-96), .goto (-96), 3, 4, 0, 0, .null, rm_M0, [])]
def bX11_fittingRules_103 : List rm_J := [
  (.iload 1, .iload_n 1, 1, 0, 0, 0, .null, rm_M0, []),
  (.ireturn, .ireturn, 1, 0, 0, 0, .null, rm_M0, [])]
def tX11_fittingRules : rm_P := [(0, bX11_fittingRules_0), (4, bX11_fittingRules_4), (44, bX11_fittingRules_44), (73, bX11_fittingRules_73), (97, bX11_fittingRules_97), (103, bX11_fittingRules_103)]
theorem ok_X11_fittingRules_t : rm_okP mX11_fittingRules tX11_fittingRules = true := by decide +kernel
theorem ok_X11_fittingRules : rm_okM mX11_fittingRules tX11_fittingRules := ⟨ok_X11_fittingRules_t, List.forall_mem_cons.mpr ⟨cw_X11_ruleOrNull, List.forall_mem_cons.mpr ⟨cw_X9_startAnew, List.forall_mem_cons.mpr ⟨cw_X9_passDay, List.forall_mem_cons.mpr ⟨cw_X1_areSo, fun _ h => absurd h List.not_mem_nil⟩⟩⟩⟩⟩
theorem atX11_fittingRules_0 : rm_at tX11_fittingRules 0 = some bX11_fittingRules_0 := rfl
theorem atX11_fittingRules_4 : rm_at tX11_fittingRules 4 = some bX11_fittingRules_4 := rfl
theorem atX11_fittingRules_44 : rm_at tX11_fittingRules 44 = some bX11_fittingRules_44 := rfl
theorem atX11_fittingRules_73 : rm_at tX11_fittingRules 73 = some bX11_fittingRules_73 := rfl
theorem atX11_fittingRules_97 : rm_at tX11_fittingRules 97 = some bX11_fittingRules_97 := rfl
theorem atX11_fittingRules_103 : rm_at tX11_fittingRules 103 = some bX11_fittingRules_103 := rfl
def bX11_mostAlikeOn_0 : List rm_J := [
  (.nop, .iconst 0, 1, 0, 0, 0, .int 0, rm_M0, []),
  (.istore 3, .istore_n 3, 1, 0, 0, 0, .null, rm_M0, []),
  (.nop, .iconst 0, 1, 0, 0, 0, .int 0, rm_M0, []),
  (.istore 4, .istore 4, 2, 0, 0, 0, .null, rm_M0, [])]
def bX11_mostAlikeOn_5 : List rm_J := [
  (.iload 4, .iload 4, 2, 0, 0, 0, .null, rm_M0, []),
  (.aload 0, .aload_n 0, 1, 0, 0, 0, .null, rm_M0, []),
  (.getfield 65, .getfield 65, 3, 11, 3, 452, .null, rm_M0, []),
  (.if_icmp .gt 93, .if_icmp .gt 93, 3, 104, 0, 0, .null, rm_M0, []),
  (.nop, .iconst 0, 1, 0, 0, 0, .int 0, rm_M0, []),
  (.istore 5, .istore 5, 2, 0, 0, 0, .null, rm_M0, []),
  (.nop, .iconst 0, 1, 0, 0, 0, .int 0, rm_M0, []),
  (.istore 6, .istore 6, 2, 0, 0, 0, .null, rm_M0, [])]
def bX11_mostAlikeOn_20 : List rm_J := [
  (.iload 6, .iload 6, 2, 0, 0, 0, .null, rm_M0, []),
  (.aload 0, .aload_n 0, 1, 0, 0, 0, .null, rm_M0, []),
  (.getfield 65, .getfield 65, 3, 11, 3, 452, .null, rm_M0, []),
  (.if_icmp .gt 65, .if_icmp .gt 65, 3, 91, 0, 0, .null, rm_M0, []),
  (.iload 2, .iload_n 2, 1, 0, 0, 0, .null, rm_M0, []),
  (.iload 4, .iload 4, 2, 0, 0, 0, .null, rm_M0, []),
  (.ishr, .ishr, 1, 0, 0, 0, .null, rm_M0, []),
  (.iload 2, .iload_n 2, 1, 0, 0, 0, .null, rm_M0, []),
  (.iload 6, .iload 6, 2, 0, 0, 0, .null, rm_M0, []),
  (.ishr, .ishr, 1, 0, 0, 0, .null, rm_M0, []),
  (.iand, .iand, 1, 0, 0, 0, .null, rm_M0, []),
  (.nop, .iconst 1, 1, 0, 0, 0, .int 1, rm_M0, []),
  (.iand, .iand, 1, 0, 0, 0, .null, rm_M0, []),
  (.ifCond .eq 7, .ifCond .eq 7, 3, 47, 0, 0, .null, rm_M0, []),
  (.nop, .iconst 1, 1, 0, 0, 0, .int 1, rm_M0, []),
  (.goto 4, .goto 4, 3, 48, 0, 0, .null, rm_M0, [])]
def bX11_mostAlikeOn_47 : List rm_J := [
  (.nop, .iconst 0, 1, 0, 0, 0, .int 0, rm_M0, [])]
def bX11_mostAlikeOn_48 : List rm_J := [
  (.istore 7, .istore 7, 2, 0, 0, 0, .null, rm_M0, []),
  (.iload 7, .iload 7, 2, 0, 0, 0, .null, rm_M0, []),
  (.ifCond .eq 33, .ifCond .eq 33, 3, 85, 0, 0, .null, rm_M0, []),
  (.aload 0, .aload_n 0, 1, 0, 0, 0, .null, rm_M0, []),
  (.getfield 61, .getfield 61, 3, 11, 9, 458, .null, rm_M0, []),
  (.iload 4, .iload 4, 2, 0, 0, 0, .null, rm_M0, []),
  (.nop, .bipush 61, 2, 0, 0, 0, .int 61, rm_M0, []),
  (.imul, .imul, 1, 0, 0, 0, .null, rm_M0, []),
  (.iload 1, .iload_n 1, 1, 0, 0, 0, .null, rm_M0, []),
  (.iadd, .iadd, 1, 0, 0, 0, .null, rm_M0, []),
  (.iaload, .iaload, 1, 0, 0, 0, .null, rm_M0, []),
  (.aload 0, .aload_n 0, 1, 0, 0, 0, .null, rm_M0, []),
  (.getfield 61, .getfield 61, 3, 11, 9, 458, .null, rm_M0, []),
  (.iload 6, .iload 6, 2, 0, 0, 0, .null, rm_M0, []),
  (.nop, .bipush 61, 2, 0, 0, 0, .int 61, rm_M0, []),
  (.imul, .imul, 1, 0, 0, 0, .null, rm_M0, []),
  (.iload 1, .iload_n 1, 1, 0, 0, 0, .null, rm_M0, []),
  (.iadd, .iadd, 1, 0, 0, 0, .null, rm_M0, []),
  (.iaload, .iaload, 1, 0, 0, 0, .null, rm_M0, []),
  (.if_icmp .ne 6, .if_icmp .ne 6, 3, 85, 0, 0, .null, rm_M0, []),
  (.iinc 5 1, .iinc 5 1, 3, 0, 0, 0, .int 1, rm_M0, [])]
def bX11_mostAlikeOn_85 : List rm_J := [
  (.iinc 6 1, .iinc 6 1, 3, 0, 0, 0, .int 1, rm_M0, []),
  (.goto (-68), .goto (-68), 3, 20, 0, 0, .null, rm_M0, [])]
def bX11_mostAlikeOn_91 : List rm_J := [
  (.iload 3, .iload_n 3, 1, 0, 0, 0, .null, rm_M0, []),
  (.iload 5, .iload 5, 2, 0, 0, 0, .null, rm_M0, []),
  (.monitorexit, .invokestatic 335, 3, 0, 0, 335, .null, rm_M0, [(0, 1091), (0, 604), (0, 113), (0, 605)]),
  (.istore 3, .istore_n 3, 1, 0, 0, 0, .null, rm_M0, []),
  (.iinc 4 1, .iinc 4 1, 3, 0, 0, 0, .int 1, rm_M0, []),
  (.goto (-96), .goto (-96), 3, 5, 0, 0, .null, rm_M0, [])]
def bX11_mostAlikeOn_104 : List rm_J := [
  (.iload 3, .iload_n 3, 1, 0, 0, 0, .null, rm_M0, []),
  (.ireturn, .ireturn, 1, 0, 0, 0, .null, rm_M0, [])]
def tX11_mostAlikeOn : rm_P := [(0, bX11_mostAlikeOn_0), (5, bX11_mostAlikeOn_5), (20, bX11_mostAlikeOn_20), (47, bX11_mostAlikeOn_47), (48, bX11_mostAlikeOn_48), (85, bX11_mostAlikeOn_85), (91, bX11_mostAlikeOn_91), (104, bX11_mostAlikeOn_104)]
theorem ok_X11_mostAlikeOn_t : rm_okP mX11_mostAlikeOn tX11_mostAlikeOn = true := by decide +kernel
theorem ok_X11_mostAlikeOn : rm_okM mX11_mostAlikeOn tX11_mostAlikeOn := ⟨ok_X11_mostAlikeOn_t, fun _ h => absurd h List.not_mem_nil⟩
theorem atX11_mostAlikeOn_0 : rm_at tX11_mostAlikeOn 0 = some bX11_mostAlikeOn_0 := rfl
theorem atX11_mostAlikeOn_5 : rm_at tX11_mostAlikeOn 5 = some bX11_mostAlikeOn_5 := rfl
theorem atX11_mostAlikeOn_20 : rm_at tX11_mostAlikeOn 20 = some bX11_mostAlikeOn_20 := rfl
theorem atX11_mostAlikeOn_47 : rm_at tX11_mostAlikeOn 47 = some bX11_mostAlikeOn_47 := rfl
theorem atX11_mostAlikeOn_48 : rm_at tX11_mostAlikeOn 48 = some bX11_mostAlikeOn_48 := rfl
theorem atX11_mostAlikeOn_85 : rm_at tX11_mostAlikeOn 85 = some bX11_mostAlikeOn_85 := rfl
theorem atX11_mostAlikeOn_91 : rm_at tX11_mostAlikeOn 91 = some bX11_mostAlikeOn_91 := rfl
theorem atX11_mostAlikeOn_104 : rm_at tX11_mostAlikeOn 104 = some bX11_mostAlikeOn_104 := rfl
def bX11_drawnBehind_0 : List rm_J := [
  (.iload 0, .iload_n 0, 1, 0, 0, 0, .null, rm_M0, []),
  (.i2l, .i2l, 1, 0, 0, 0, .null, rm_M0, []),
  (.nop, .ldc2_w 338, 3, 0, 0, 1103, .long 1103515245, rm_M0, []),
  (.lmul, .lmul, 1, 0, 0, 0, .null, rm_M0, []),
  (.nop, .ldc2_w 340, 3, 0, 0, 1104, .long 12345, rm_M0, []),
  (.ladd, .ladd, 1, 0, 0, 0, .null, rm_M0, []),
  (.nop, .ldc2_w 342, 3, 0, 0, 1105, .long 2147483648, rm_M0, []),
  (.lrem, .lrem, 1, 0, 0, 0, .null, rm_M0, []),
  (.l2i, .l2i, 1, 0, 0, 0, .null, rm_M0, []),
  (.ireturn, .ireturn, 1, 0, 0, 0, .null, rm_M0, [])]
def tX11_drawnBehind : rm_P := [(0, bX11_drawnBehind_0)]
theorem ok_X11_drawnBehind_t : rm_okP mX11_drawnBehind tX11_drawnBehind = true := by decide +kernel
theorem ok_X11_drawnBehind : rm_okM mX11_drawnBehind tX11_drawnBehind := ⟨ok_X11_drawnBehind_t, fun _ h => absurd h List.not_mem_nil⟩
theorem atX11_drawnBehind_0 : rm_at tX11_drawnBehind 0 = some bX11_drawnBehind_0 := rfl
