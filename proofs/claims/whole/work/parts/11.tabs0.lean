/-! Rows of the library members. Printed. -/
def bJ7_copyOf_59c91_0 : List rm_J := [
  (.iload 1, .iload_n 1, 1, 0, 0, 0, .null, rm_M0, []),
  (.aload 0, .aload_n 0, 1, 0, 0, 0, .null, rm_M0, []),
  (.arraylength, .arraylength, 1, 0, 0, 0, .null, rm_M0, []),
  (.if_icmp .ne 11, .if_icmp .ne 11, 3, 14, 0, 0, .null, rm_M0, []),
  (.aload 0, .aload_n 0, 1, 0, 0, 0, .null, rm_M0, [])]
def bJ7_copyOf_59c91_14 : List rm_J := [
  (.iload 1, .iload_n 1, 1, 0, 0, 0, .null, rm_M0, []),
  (.newarray .int, .newarray .int, 2, 0, 0, 0, .null, rm_M0, [(0, 163)]),
  (.astore 2, .astore_n 2, 1, 0, 0, 0, .null, rm_M0, []),
  (.aload 0, .aload_n 0, 1, 0, 0, 0, .null, rm_M0, []),
  (.nop, .iconst 0, 1, 0, 0, 0, .int 0, rm_M0, []),
  (.aload 2, .aload_n 2, 1, 0, 0, 0, .null, rm_M0, []),
  (.nop, .iconst 0, 1, 0, 0, 0, .int 0, rm_M0, []),
  (.aload 0, .aload_n 0, 1, 0, 0, 0, .null, rm_M0, []),
  (.arraylength, .arraylength, 1, 0, 0, 0, .null, rm_M0, []),
  (.iload 1, .iload_n 1, 1, 0, 0, 0, .null, rm_M0, []),
  (.monitorenter, .invokestatic 304, 3, 0, 0, 304, .null, rm_M0, [(0, 758), (0, 607), (0, 113), (0, 608)]),
  (.jsr_w 0, .invokestatic 150, 3, 0, 0, 150, .null, rm_M0, [(0, 759), (0, 701), (0, 700), (0, 115)]),
  (.aload 2, .aload_n 2, 1, 0, 0, 0, .null, rm_M0, []),
  (.areturn, .areturn, 1, 0, 0, 0, .null, rm_M0, [])]
def tJ7_copyOf_59c91 : rm_P := [(0, bJ7_copyOf_59c91_0), (14, bJ7_copyOf_59c91_14)]
theorem ok_J7_copyOf_59c91_t : rm_okP mJ7_copyOf_59c91 tJ7_copyOf_59c91 = true := by decide +kernel
theorem ok_J7_copyOf_59c91 : rm_okM mJ7_copyOf_59c91 tJ7_copyOf_59c91 := ⟨ok_J7_copyOf_59c91_t, fun _ h => absurd h List.not_mem_nil⟩
theorem atJ7_copyOf_59c91_0 : rm_at tJ7_copyOf_59c91 0 = some bJ7_copyOf_59c91_0 := rfl
theorem atJ7_copyOf_59c91_14 : rm_at tJ7_copyOf_59c91 14 = some bJ7_copyOf_59c91_14 := rfl
def bJ6_bitCount_0f7a4_0 : List rm_J := [
  (.iload 0, .iload_n 0, 1, 0, 0, 0, .null, rm_M0, []),
  (.iload 0, .iload_n 0, 1, 0, 0, 0, .null, rm_M0, []),
  (.nop, .iconst 1, 1, 0, 0, 0, .int 1, rm_M0, []),
  (.iushr, .iushr, 1, 0, 0, 0, .null, rm_M0, []),
  (.nop, .ldc_w 265, 3, 0, 0, 868, .int 1431655765, rm_M0, []),
  (.iand, .iand, 1, 0, 0, 0, .null, rm_M0, []),
  (.isub, .isub, 1, 0, 0, 0, .null, rm_M0, []),
  (.istore 0, .istore_n 0, 1, 0, 0, 0, .null, rm_M0, []),
  (.iload 0, .iload_n 0, 1, 0, 0, 0, .null, rm_M0, []),
  (.nop, .ldc_w 266, 3, 0, 0, 869, .int 858993459, rm_M0, []),
  (.iand, .iand, 1, 0, 0, 0, .null, rm_M0, []),
  (.iload 0, .iload_n 0, 1, 0, 0, 0, .null, rm_M0, []),
  (.nop, .iconst 2, 1, 0, 0, 0, .int 2, rm_M0, []),
  (.iushr, .iushr, 1, 0, 0, 0, .null, rm_M0, []),
  (.nop, .ldc_w 266, 3, 0, 0, 869, .int 858993459, rm_M0, []),
  (.iand, .iand, 1, 0, 0, 0, .null, rm_M0, []),
  (.iadd, .iadd, 1, 0, 0, 0, .null, rm_M0, []),
  (.istore 0, .istore_n 0, 1, 0, 0, 0, .null, rm_M0, []),
  (.iload 0, .iload_n 0, 1, 0, 0, 0, .null, rm_M0, []),
  (.iload 0, .iload_n 0, 1, 0, 0, 0, .null, rm_M0, []),
  (.nop, .iconst 4, 1, 0, 0, 0, .int 4, rm_M0, []),
  (.iushr, .iushr, 1, 0, 0, 0, .null, rm_M0, []),
  (.iadd, .iadd, 1, 0, 0, 0, .null, rm_M0, []),
  (.nop, .ldc_w 267, 3, 0, 0, 870, .int 252645135, rm_M0, []),
  (.iand, .iand, 1, 0, 0, 0, .null, rm_M0, []),
  (.istore 0, .istore_n 0, 1, 0, 0, 0, .null, rm_M0, []),
  (.iload 0, .iload_n 0, 1, 0, 0, 0, .null, rm_M0, []),
  (.iload 0, .iload_n 0, 1, 0, 0, 0, .null, rm_M0, []),
  (.nop, .bipush 8, 2, 0, 0, 0, .int 8, rm_M0, []),
  (.iushr, .iushr, 1, 0, 0, 0, .null, rm_M0, []),
  (.iadd, .iadd, 1, 0, 0, 0, .null, rm_M0, []),
  (.istore 0, .istore_n 0, 1, 0, 0, 0, .null, rm_M0, []),
  (.iload 0, .iload_n 0, 1, 0, 0, 0, .null, rm_M0, []),
  (.iload 0, .iload_n 0, 1, 0, 0, 0, .null, rm_M0, []),
  (.nop, .bipush 16, 2, 0, 0, 0, .int 16, rm_M0, []),
  (.iushr, .iushr, 1, 0, 0, 0, .null, rm_M0, []),
  (.iadd, .iadd, 1, 0, 0, 0, .null, rm_M0, []),
  (.istore 0, .istore_n 0, 1, 0, 0, 0, .null, rm_M0, []),
  (.iload 0, .iload_n 0, 1, 0, 0, 0, .null, rm_M0, []),
  (.nop, .bipush 63, 2, 0, 0, 0, .int 63, rm_M0, []),
  (.iand, .iand, 1, 0, 0, 0, .null, rm_M0, []),
  (.ireturn, .ireturn, 1, 0, 0, 0, .null, rm_M0, [])]
def tJ6_bitCount_0f7a4 : rm_P := [(0, bJ6_bitCount_0f7a4_0)]
theorem ok_J6_bitCount_0f7a4_t : rm_okP mJ6_bitCount_0f7a4 tJ6_bitCount_0f7a4 = true := by decide +kernel
theorem ok_J6_bitCount_0f7a4 : rm_okM mJ6_bitCount_0f7a4 tJ6_bitCount_0f7a4 := ⟨ok_J6_bitCount_0f7a4_t, fun _ h => absurd h List.not_mem_nil⟩
theorem atJ6_bitCount_0f7a4_0 : rm_at tJ6_bitCount_0f7a4 0 = some bJ6_bitCount_0f7a4_0 := rfl
