/-! Rows of OneDecisionModel, first part. Printed. -/
def bX12_init_0 : List rm_J := [
  (.aload 0, .aload_n 0, 1, 0, 0, 0, .null, rm_M0, []),
  (.jsr 0, .invokespecial 3, 3, 0, 0, 3, .null, rm_M0, [(0, 1139), (0, 125), (0, 126)]),
  (.aload 0, .aload_n 0, 1, 0, 0, 0, .null, rm_M0, []),
  (.nop, .bipush 13, 2, 0, 0, 0, .int 13, rm_M0, []),
  (.newarray .int, .newarray .int, 2, 0, 0, 0, .null, rm_M0, [(0, 163)]),
  (.dup, .dup, 1, 0, 0, 0, .null, rm_M0, []),
  (.nop, .iconst 0, 1, 0, 0, 0, .int 0, rm_M0, []),
  (.nop, .iconst 0, 1, 0, 0, 0, .int 0, rm_M0, []),
  (.iastore, .iastore, 1, 0, 0, 0, .null, rm_M0, []),
  (.dup, .dup, 1, 0, 0, 0, .null, rm_M0, []),
  (.nop, .iconst 1, 1, 0, 0, 0, .int 1, rm_M0, []),
  (.nop, .iconst 0, 1, 0, 0, 0, .int 0, rm_M0, []),
  (.iastore, .iastore, 1, 0, 0, 0, .null, rm_M0, []),
  (.dup, .dup, 1, 0, 0, 0, .null, rm_M0, []),
  (.nop, .iconst 2, 1, 0, 0, 0, .int 2, rm_M0, []),
  (.nop, .iconst 0, 1, 0, 0, 0, .int 0, rm_M0, []),
  (.iastore, .iastore, 1, 0, 0, 0, .null, rm_M0, []),
  (.dup, .dup, 1, 0, 0, 0, .null, rm_M0, []),
  (.nop, .iconst 3, 1, 0, 0, 0, .int 3, rm_M0, []),
  (.nop, .iconst 0, 1, 0, 0, 0, .int 0, rm_M0, []),
  (.iastore, .iastore, 1, 0, 0, 0, .null, rm_M0, []),
  (.dup, .dup, 1, 0, 0, 0, .null, rm_M0, []),
  (.nop, .iconst 4, 1, 0, 0, 0, .int 4, rm_M0, []),
  (.nop, .iconst 0, 1, 0, 0, 0, .int 0, rm_M0, []),
  (.iastore, .iastore, 1, 0, 0, 0, .null, rm_M0, []),
  (.dup, .dup, 1, 0, 0, 0, .null, rm_M0, []),
  (.nop, .iconst 5, 1, 0, 0, 0, .int 5, rm_M0, []),
  (.nop, .iconst 0, 1, 0, 0, 0, .int 0, rm_M0, []),
  (.iastore, .iastore, 1, 0, 0, 0, .null, rm_M0, []),
  (.dup, .dup, 1, 0, 0, 0, .null, rm_M0, []),
  (.nop, .bipush 6, 2, 0, 0, 0, .int 6, rm_M0, []),
  (.nop, .iconst 0, 1, 0, 0, 0, .int 0, rm_M0, []),
  (.iastore, .iastore, 1, 0, 0, 0, .null, rm_M0, []),
  (.dup, .dup, 1, 0, 0, 0, .null, rm_M0, []),
  (.nop, .bipush 7, 2, 0, 0, 0, .int 7, rm_M0, []),
  (.nop, .iconst 0, 1, 0, 0, 0, .int 0, rm_M0, []),
  (.iastore, .iastore, 1, 0, 0, 0, .null, rm_M0, []),
  (.dup, .dup, 1, 0, 0, 0, .null, rm_M0, []),
  (.nop, .bipush 8, 2, 0, 0, 0, .int 8, rm_M0, []),
  (.nop, .iconst 0, 1, 0, 0, 0, .int 0, rm_M0, []),
  (.iastore, .iastore, 1, 0, 0, 0, .null, rm_M0, []),
  (.dup, .dup, 1, 0, 0, 0, .null, rm_M0, []),
  (.nop, .bipush 9, 2, 0, 0, 0, .int 9, rm_M0, []),
  (.nop, .iconst 0, 1, 0, 0, 0, .int 0, rm_M0, []),
  (.iastore, .iastore, 1, 0, 0, 0, .null, rm_M0, []),
  (.dup, .dup, 1, 0, 0, 0, .null, rm_M0, []),
  (.nop, .bipush 10, 2, 0, 0, 0, .int 10, rm_M0, []),
  (.nop, .iconst 0, 1, 0, 0, 0, .int 0, rm_M0, []),
  (.iastore, .iastore, 1, 0, 0, 0, .null, rm_M0, []),
  (.dup, .dup, 1, 0, 0, 0, .null, rm_M0, []),
  (.nop, .bipush 11, 2, 0, 0, 0, .int 11, rm_M0, []),
  (.nop, .iconst 0, 1, 0, 0, 0, .int 0, rm_M0, []),
  (.iastore, .iastore, 1, 0, 0, 0, .null, rm_M0, []),
  (.dup, .dup, 1, 0, 0, 0, .null, rm_M0, []),
  (.nop, .bipush 12, 2, 0, 0, 0, .int 12, rm_M0, []),
  (.nop, .iconst (-1), 1, 0, 0, 0, .int (-1), rm_M0, []),
  (.iastore, .iastore, 1, 0, 0, 0, .null, rm_M0, []),
  (.putfield 9, .putfield 9, 3, 12, 1, 1140, .int 3, rm_M0, []),
  (.aload 0, .aload_n 0, 1, 0, 0, 0, .null, rm_M0, []),
  (.nop, .bipush 8, 2, 0, 0, 0, .int 8, rm_M0, []),
  (.newarray .int, .newarray .int, 2, 0, 0, 0, .null, rm_M0, [(0, 163)]),
  (.putfield 13, .putfield 13, 3, 12, 2, 1141, .int 3, rm_M0, []),
  (.aload 0, .aload_n 0, 1, 0, 0, 0, .null, rm_M0, []),
  (.nop, .bipush 8, 2, 0, 0, 0, .int 8, rm_M0, []),
  (.newarray .int, .newarray .int, 2, 0, 0, 0, .null, rm_M0, [(0, 163)]),
  (.putfield 16, .putfield 16, 3, 12, 3, 1142, .int 3, rm_M0, []),
  (.aload 0, .aload_n 0, 1, 0, 0, 0, .null, rm_M0, []),
  (.nop, .bipush 8, 2, 0, 0, 0, .int 8, rm_M0, []),
  (.newarray .int, .newarray .int, 2, 0, 0, 0, .null, rm_M0, [(0, 163)]),
  (.putfield 19, .putfield 19, 3, 12, 4, 1143, .int 3, rm_M0, []),
  (.aload 0, .aload_n 0, 1, 0, 0, 0, .null, rm_M0, []),
  (.nop, .bipush 8, 2, 0, 0, 0, .int 8, rm_M0, []),
  (.newarray .int, .newarray .int, 2, 0, 0, 0, .null, rm_M0, [(0, 163)]),
  (.putfield 22, .putfield 22, 3, 12, 5, 1144, .int 3, rm_M0, []),
  (.aload 0, .aload_n 0, 1, 0, 0, 0, .null, rm_M0, []),
  (.nop, .bipush 8, 2, 0, 0, 0, .int 8, rm_M0, []),
  (.newarray .int, .newarray .int, 2, 0, 0, 0, .null, rm_M0, [(0, 163)]),
  (.putfield 25, .putfield 25, 3, 12, 6, 1145, .int 3, rm_M0, []),
  (.aload 0, .aload_n 0, 1, 0, 0, 0, .null, rm_M0, []),
  (.nop, .bipush 61, 2, 0, 0, 0, .int 61, rm_M0, []),
  (.newarray .int, .newarray .int, 2, 0, 0, 0, .null, rm_M0, [(0, 163)]),
  (.putfield 28, .putfield 28, 3, 12, 7, 1146, .int 3, rm_M0, []),
  (.aload 0, .aload_n 0, 1, 0, 0, 0, .null, rm_M0, []),
  (.nop, .bipush 10, 2, 0, 0, 0, .int 10, rm_M0, []),
  (.newarray .int, .newarray .int, 2, 0, 0, 0, .null, rm_M0, [(0, 163)]),
  (.putfield 31, .putfield 31, 3, 12, 8, 1147, .int 3, rm_M0, []),
  (.aload 0, .aload_n 0, 1, 0, 0, 0, .null, rm_M0, []),
  (.nop, .bipush 10, 2, 0, 0, 0, .int 10, rm_M0, []),
  (.newarray .int, .newarray .int, 2, 0, 0, 0, .null, rm_M0, [(0, 163)]),
  (.putfield 34, .putfield 34, 3, 12, 9, 1148, .int 3, rm_M0, []),
  (.aload 0, .aload_n 0, 1, 0, 0, 0, .null, rm_M0, []),
  (.nop, .bipush 8, 2, 0, 0, 0, .int 8, rm_M0, []),
  (.newarray .int, .newarray .int, 2, 0, 0, 0, .null, rm_M0, [(0, 163)]),
  (.putfield 37, .putfield 37, 3, 12, 10, 1149, .int 3, rm_M0, []),
  (.aload 0, .aload_n 0, 1, 0, 0, 0, .null, rm_M0, []),
  (.nop, .bipush 8, 2, 0, 0, 0, .int 8, rm_M0, []),
  (.newarray .int, .newarray .int, 2, 0, 0, 0, .null, rm_M0, [(0, 163)]),
  (.putfield 40, .putfield 40, 3, 12, 11, 1150, .int 3, rm_M0, []),
  (.aload 0, .aload_n 0, 1, 0, 0, 0, .null, rm_M0, []),
  (.nop, .iconst 4, 1, 0, 0, 0, .int 4, rm_M0, []),
  (.newarray .int, .newarray .int, 2, 0, 0, 0, .null, rm_M0, [(0, 163)]),
  (.putfield 43, .putfield 43, 3, 12, 12, 1151, .int 3, rm_M0, []),
  (.aload 0, .aload_n 0, 1, 0, 0, 0, .null, rm_M0, []),
  (.nop, .bipush 8, 2, 0, 0, 0, .int 8, rm_M0, []),
  (.newarray .int, .newarray .int, 2, 0, 0, 0, .null, rm_M0, [(0, 163)]),
  (.putfield 46, .putfield 46, 3, 12, 13, 1152, .int 3, rm_M0, []),
  (.aload 0, .aload_n 0, 1, 0, 0, 0, .null, rm_M0, []),
  (.nop, .bipush 8, 2, 0, 0, 0, .int 8, rm_M0, []),
  (.newarray .int, .newarray .int, 2, 0, 0, 0, .null, rm_M0, [(0, 163)]),
  (.putfield 49, .putfield 49, 3, 12, 14, 1153, .int 3, rm_M0, []),
  (.aload 0, .aload_n 0, 1, 0, 0, 0, .null, rm_M0, []),
  (.nop, .bipush 8, 2, 0, 0, 0, .int 8, rm_M0, []),
  (.newarray .int, .newarray .int, 2, 0, 0, 0, .null, rm_M0, [(0, 163)]),
  (.putfield 52, .putfield 52, 3, 12, 15, 1154, .int 3, rm_M0, []),
  (.aload 0, .aload_n 0, 1, 0, 0, 0, .null, rm_M0, []),
  (.nop, .bipush 8, 2, 0, 0, 0, .int 8, rm_M0, []),
  (.newarray .int, .newarray .int, 2, 0, 0, 0, .null, rm_M0, [(0, 163)]),
  (.putfield 55, .putfield 55, 3, 12, 16, 1155, .int 3, rm_M0, []),
  (.aload 0, .aload_n 0, 1, 0, 0, 0, .null, rm_M0, []),
  (.nop, .bipush 61, 2, 0, 0, 0, .int 61, rm_M0, []),
  (.newarray .int, .newarray .int, 2, 0, 0, 0, .null, rm_M0, [(0, 163)]),
  (.putfield 58, .putfield 58, 3, 12, 17, 1156, .int 3, rm_M0, []),
  (.aload 0, .aload_n 0, 1, 0, 0, 0, .null, rm_M0, []),
  (.nop, .bipush 13, 2, 0, 0, 0, .int 13, rm_M0, []),
  (.putfield 61, .putfield 61, 3, 12, 27, 1166, .int 0, rm_M0, []),
  (.aload 0, .aload_n 0, 1, 0, 0, 0, .null, rm_M0, []),
  (.nop, .sipush 400, 3, 0, 0, 0, .int 400, rm_M0, []),
  (.newarray .byte, .newarray .byte, 2, 1, 0, 0, .null, rm_M0, [(0, 162)]),
  (.putfield 65, .putfield 65, 3, 12, 28, 1167, .int 3, rm_M0, []),
  (.aload 0, .aload_n 0, 1, 0, 0, 0, .null, rm_M0, []),
  (.nop, .sipush 1800, 3, 0, 0, 0, .int 1800, rm_M0, []),
  (.newarray .int, .newarray .int, 2, 0, 0, 0, .null, rm_M0, [(0, 163)]),
  (.putfield 69, .putfield 69, 3, 12, 29, 1168, .int 3, rm_M0, []),
  (.aload 0, .aload_n 0, 1, 0, 0, 0, .null, rm_M0, []),
  (.nop, .sipush 1800, 3, 0, 0, 0, .int 1800, rm_M0, []),
  (.newarray .int, .newarray .int, 2, 0, 0, 0, .null, rm_M0, [(0, 163)]),
  (.putfield 72, .putfield 72, 3, 12, 30, 1169, .int 3, rm_M0, []),
  (.aload 0, .aload_n 0, 1, 0, 0, 0, .null, rm_M0, []),
  (.nop, .bipush 6, 2, 0, 0, 0, .int 6, rm_M0, []),
  (.newarray .int, .newarray .int, 2, 0, 0, 0, .null, rm_M0, [(0, 163)]),
  (.putfield 75, .putfield 75, 3, 12, 31, 1170, .int 3, rm_M0, []),
  (.aload 0, .aload_n 0, 1, 0, 0, 0, .null, rm_M0, []),
  (.nop, .bipush 72, 2, 0, 0, 0, .int 72, rm_M0, []),
  (.newarray .int, .newarray .int, 2, 0, 0, 0, .null, rm_M0, [(0, 163)]),
  (.putfield 78, .putfield 78, 3, 12, 32, 1171, .int 3, rm_M0, []),
  (.aload 0, .aload_n 0, 1, 0, 0, 0, .null, rm_M0, []),
  (.nop, .bipush 72, 2, 0, 0, 0, .int 72, rm_M0, []),
  (.newarray .int, .newarray .int, 2, 0, 0, 0, .null, rm_M0, [(0, 163)]),
  (.putfield 81, .putfield 81, 3, 12, 33, 1172, .int 3, rm_M0, []),
  (.aload 0, .aload_n 0, 1, 0, 0, 0, .null, rm_M0, []),
  (.nop, .bipush 72, 2, 0, 0, 0, .int 72, rm_M0, []),
  (.newarray .int, .newarray .int, 2, 0, 0, 0, .null, rm_M0, [(0, 163)]),
  (.putfield 84, .putfield 84, 3, 12, 34, 1173, .int 3, rm_M0, []),
  (.aload 0, .aload_n 0, 1, 0, 0, 0, .null, rm_M0, []),
  (.nop, .sipush 402, 3, 0, 0, 0, .int 402, rm_M0, []),
  (.newarray .int, .newarray .int, 2, 0, 0, 0, .null, rm_M0, [(0, 163)]),
  (.putfield 87, .putfield 87, 3, 12, 35, 1174, .int 3, rm_M0, []),
  (.aload 0, .aload_n 0, 1, 0, 0, 0, .null, rm_M0, []),
  (.nop, .bipush 13, 2, 0, 0, 0, .int 13, rm_M0, []),
  (.newarray .long, .newarray .long, 2, 2, 0, 0, .null, rm_M0, [(0, 391)]),
  (.putfield 90, .putfield 90, 3, 12, 36, 1175, .int 3, rm_M0, []),
  (.aload 0, .aload_n 0, 1, 0, 0, 0, .null, rm_M0, []),
  (.nop, .sipush 300, 3, 0, 0, 0, .int 300, rm_M0, []),
  (.newarray .long, .newarray .long, 2, 2, 0, 0, .null, rm_M0, [(0, 391)]),
  (.putfield 94, .putfield 94, 3, 12, 37, 1176, .int 3, rm_M0, []),
  (.aload 0, .aload_n 0, 1, 0, 0, 0, .null, rm_M0, []),
  (.nop, .sipush 600, 3, 0, 0, 0, .int 600, rm_M0, []),
  (.newarray .int, .newarray .int, 2, 0, 0, 0, .null, rm_M0, [(0, 163)]),
  (.putfield 97, .putfield 97, 3, 12, 38, 1177, .int 3, rm_M0, []),
  (.aload 0, .aload_n 0, 1, 0, 0, 0, .null, rm_M0, []),
  (.nop, .iconst 1, 1, 0, 0, 0, .int 1, rm_M0, []),
  (.newarray .int, .newarray .int, 2, 0, 0, 0, .null, rm_M0, [(0, 163)]),
  (.putfield 100, .putfield 100, 3, 12, 39, 1178, .int 3, rm_M0, []),
  (.aload 0, .aload_n 0, 1, 0, 0, 0, .null, rm_M0, []),
  (.nop, .iconst 4, 1, 0, 0, 0, .int 4, rm_M0, []),
  (.newarray .int, .newarray .int, 2, 0, 0, 0, .null, rm_M0, [(0, 163)]),
  (.putfield 103, .putfield 103, 3, 12, 43, 1182, .int 3, rm_M0, []),
  (.aload 0, .aload_n 0, 1, 0, 0, 0, .null, rm_M0, []),
  (.nop, .iconst 4, 1, 0, 0, 0, .int 4, rm_M0, []),
  (.newarray .int, .newarray .int, 2, 0, 0, 0, .null, rm_M0, [(0, 163)]),
  (.putfield 106, .putfield 106, 3, 12, 44, 1183, .int 3, rm_M0, []),
  (.aload 0, .aload_n 0, 1, 0, 0, 0, .null, rm_M0, []),
  (.nop, .bipush 61, 2, 0, 0, 0, .int 61, rm_M0, []),
  (.newarray .int, .newarray .int, 2, 0, 0, 0, .null, rm_M0, [(0, 163)]),
  (.putfield 109, .putfield 109, 3, 12, 48, 1187, .int 3, rm_M0, []),
  (.aload 0, .aload_n 0, 1, 0, 0, 0, .null, rm_M0, []),
  (.nop, .sipush 427, 3, 0, 0, 0, .int 427, rm_M0, []),
  (.newarray .int, .newarray .int, 2, 0, 0, 0, .null, rm_M0, [(0, 163)]),
  (.putfield 112, .putfield 112, 3, 12, 49, 1188, .int 3, rm_M0, []),
  (.aload 0, .aload_n 0, 1, 0, 0, 0, .null, rm_M0, []),
  (.nop, .sipush 4000, 3, 0, 0, 0, .int 4000, rm_M0, []),
  (.newarray .int, .newarray .int, 2, 0, 0, 0, .null, rm_M0, [(0, 163)]),
  (.putfield 115, .putfield 115, 3, 12, 50, 1189, .int 3, rm_M0, []),
  (.aload 0, .aload_n 0, 1, 0, 0, 0, .null, rm_M0, []),
  (.nop, .iconst 4, 1, 0, 0, 0, .int 4, rm_M0, []),
  (.newarray .boolean, .newarray .boolean, 2, 3, 0, 0, .null, rm_M0, [(0, 1302)]),
  (.putfield 118, .putfield 118, 3, 12, 51, 1190, .int 3, rm_M0, []),
  (.return_, .return_, 1, 0, 0, 0, .null, rm_M0, [])]
def tX12_init : rm_P := [(0, bX12_init_0)]
theorem ok_X12_init_t : rm_okP mX12_init tX12_init = true := by decide +kernel
theorem ok_X12_init : rm_okM mX12_init tX12_init := ⟨ok_X12_init_t, fun _ h => absurd h List.not_mem_nil⟩
theorem atX12_init_0 : rm_at tX12_init 0 = some bX12_init_0 := rfl
def bX12_in_0 : List rm_J := [
  (.lload 0, .lload_n 0, 1, 0, 0, 0, .null, rm_M0, []),
  (.lload 2, .lload_n 2, 1, 0, 0, 0, .null, rm_M0, []),
  (.lcmp, .lcmp, 1, 0, 0, 0, .null, rm_M0, []),
  (.ifCond .lt 14, .ifCond .lt 14, 3, 17, 0, 0, .null, rm_M0, []),
  (.lload 0, .lload_n 0, 1, 0, 0, 0, .null, rm_M0, []),
  (.lload 4, .lload 4, 2, 0, 0, 0, .null, rm_M0, []),
  (.lcmp, .lcmp, 1, 0, 0, 0, .null, rm_M0, []),
  (.ifCond .gt 7, .ifCond .gt 7, 3, 17, 0, 0, .null, rm_M0, []),
  (.nop, .iconst 1, 1, 0, 0, 0, .int 1, rm_M0, []),
  (.goto 4, .goto 4, 3, 18, 0, 0, .null, rm_M0, [])]
def bX12_in_17 : List rm_J := [
  (.nop, .iconst 0, 1, 0, 0, 0, .int 0, rm_M0, [])]
def bX12_in_18 : List rm_J := [
  (.ireturn, .ireturn, 1, 0, 0, 0, .null, rm_M0, [])]
def tX12_in : rm_P := [(0, bX12_in_0), (17, bX12_in_17), (18, bX12_in_18)]
theorem ok_X12_in_t : rm_okP mX12_in tX12_in = true := by decide +kernel
theorem ok_X12_in : rm_okM mX12_in tX12_in := ⟨ok_X12_in_t, fun _ h => absurd h List.not_mem_nil⟩
theorem atX12_in_0 : rm_at tX12_in 0 = some bX12_in_0 := rfl
theorem atX12_in_17 : rm_at tX12_in 17 = some bX12_in_17 := rfl
theorem atX12_in_18 : rm_at tX12_in 18 = some bX12_in_18 := rfl
def bX12_bits_0 : List rm_J := [
  (.nop, .iconst 0, 1, 0, 0, 0, .int 0, rm_M0, []),
  (.istore 1, .istore_n 1, 1, 0, 0, 0, .null, rm_M0, []),
  (.nop, .iconst 0, 1, 0, 0, 0, .int 0, rm_M0, []),
  (.istore 2, .istore_n 2, 1, 0, 0, 0, .null, rm_M0, [])]
def bX12_bits_4 : List rm_J := [
  (.iload 2, .iload_n 2, 1, 0, 0, 0, .null, rm_M0, []),
  (.nop, .bipush 16, 2, 0, 0, 0, .int 16, rm_M0, []),
  (.if_icmp .ge 17, .if_icmp .ge 17, 3, 24, 0, 0, .null, rm_M0, []),
  (.iload 1, .iload_n 1, 1, 0, 0, 0, .null, rm_M0, []),
  (.iload 0, .iload_n 0, 1, 0, 0, 0, .null, rm_M0, []),
  (.iload 2, .iload_n 2, 1, 0, 0, 0, .null, rm_M0, []),
  (.ishr, .ishr, 1, 0, 0, 0, .null, rm_M0, []),
  (.nop, .iconst 1, 1, 0, 0, 0, .int 1, rm_M0, []),
  (.iand, .iand, 1, 0, 0, 0, .null, rm_M0, []),
  (.iadd, .iadd, 1, 0, 0, 0, .null, rm_M0, []),
  (.istore 1, .istore_n 1, 1, 0, 0, 0, .null, rm_M0, []),
  (.iinc 2 1, .iinc 2 1, 3, 0, 0, 0, .int 1, rm_M0, []),
  (.goto (-17), .goto (-17), 3, 4, 0, 0, .null, rm_M0, [])]
def bX12_bits_24 : List rm_J := [
  (.iload 1, .iload_n 1, 1, 0, 0, 0, .null, rm_M0, []),
  (.ireturn, .ireturn, 1, 0, 0, 0, .null, rm_M0, [])]
def tX12_bits : rm_P := [(0, bX12_bits_0), (4, bX12_bits_4), (24, bX12_bits_24)]
theorem ok_X12_bits_t : rm_okP mX12_bits tX12_bits = true := by decide +kernel
theorem ok_X12_bits : rm_okM mX12_bits tX12_bits := ⟨ok_X12_bits_t, fun _ h => absurd h List.not_mem_nil⟩
theorem atX12_bits_0 : rm_at tX12_bits 0 = some bX12_bits_0 := rfl
theorem atX12_bits_4 : rm_at tX12_bits 4 = some bX12_bits_4 := rfl
theorem atX12_bits_24 : rm_at tX12_bits 24 = some bX12_bits_24 := rfl
def bX12_has_0 : List rm_J := [
  (.iload 0, .iload_n 0, 1, 0, 0, 0, .null, rm_M0, []),
  (.iload 1, .iload_n 1, 1, 0, 0, 0, .null, rm_M0, []),
  (.ishr, .ishr, 1, 0, 0, 0, .null, rm_M0, []),
  (.nop, .iconst 1, 1, 0, 0, 0, .int 1, rm_M0, []),
  (.iand, .iand, 1, 0, 0, 0, .null, rm_M0, []),
  (.nop, .iconst 1, 1, 0, 0, 0, .int 1, rm_M0, []),
  (.if_icmp .ne 7, .if_icmp .ne 7, 3, 13, 0, 0, .null, rm_M0, []),
  (.nop, .iconst 1, 1, 0, 0, 0, .int 1, rm_M0, []),
  (.goto 4, .goto 4, 3, 14, 0, 0, .null, rm_M0, [])]
def bX12_has_13 : List rm_J := [
  (.nop, .iconst 0, 1, 0, 0, 0, .int 0, rm_M0, [])]
def bX12_has_14 : List rm_J := [
  (.ireturn, .ireturn, 1, 0, 0, 0, .null, rm_M0, [])]
def tX12_has : rm_P := [(0, bX12_has_0), (13, bX12_has_13), (14, bX12_has_14)]
theorem ok_X12_has_t : rm_okP mX12_has tX12_has = true := by decide +kernel
theorem ok_X12_has : rm_okM mX12_has tX12_has := ⟨ok_X12_has_t, fun _ h => absurd h List.not_mem_nil⟩
theorem atX12_has_0 : rm_at tX12_has 0 = some bX12_has_0 := rfl
theorem atX12_has_13 : rm_at tX12_has 13 = some bX12_has_13 := rfl
theorem atX12_has_14 : rm_at tX12_has 14 = some bX12_has_14 := rfl
def bX12_isRealm_0 : List rm_J := [
  (.aload 0, .aload_n 0, 1, 0, 0, 0, .null, rm_M0, []),
  (.getfield 9, .getfield 9, 3, 12, 1, 1140, .null, rm_M0, []),
  (.nop, .iconst 0, 1, 0, 0, 0, .int 0, rm_M0, []),
  (.iaload, .iaload, 1, 0, 0, 0, .null, rm_M0, []),
  (.ifCond .le 7, .ifCond .le 7, 3, 13, 0, 0, .null, rm_M0, []),
  (.nop, .iconst 1, 1, 0, 0, 0, .int 1, rm_M0, []),
  (.goto 4, .goto 4, 3, 14, 0, 0, .null, rm_M0, [])]
def bX12_isRealm_13 : List rm_J := [
  (.nop, .iconst 0, 1, 0, 0, 0, .int 0, rm_M0, [])]
def bX12_isRealm_14 : List rm_J := [
  (.ireturn, .ireturn, 1, 0, 0, 0, .null, rm_M0, [])]
def tX12_isRealm : rm_P := [(0, bX12_isRealm_0), (13, bX12_isRealm_13), (14, bX12_isRealm_14)]
theorem ok_X12_isRealm_t : rm_okP mX12_isRealm tX12_isRealm = true := by decide +kernel
theorem ok_X12_isRealm : rm_okM mX12_isRealm tX12_isRealm := ⟨ok_X12_isRealm_t, fun _ h => absurd h List.not_mem_nil⟩
theorem atX12_isRealm_0 : rm_at tX12_isRealm 0 = some bX12_isRealm_0 := rfl
theorem atX12_isRealm_13 : rm_at tX12_isRealm 13 = some bX12_isRealm_13 := rfl
theorem atX12_isRealm_14 : rm_at tX12_isRealm 14 = some bX12_isRealm_14 := rfl
def bX12_isQuestion_0 : List rm_J := [
  (.iload 1, .iload_n 1, 1, 0, 0, 0, .null, rm_M0, []),
  (.i2l, .i2l, 1, 0, 0, 0, .null, rm_M0, []),
  (.nop, .lconst 0, 1, 0, 0, 0, .long 0, rm_M0, []),
  (.aload 0, .aload_n 0, 1, 0, 0, 0, .null, rm_M0, []),
  (.getfield 9, .getfield 9, 3, 12, 1, 1140, .null, rm_M0, []),
  (.nop, .iconst 3, 1, 0, 0, 0, .int 3, rm_M0, []),
  (.iaload, .iaload, 1, 0, 0, 0, .null, rm_M0, []),
  (.nop, .iconst 1, 1, 0, 0, 0, .int 1, rm_M0, []),
  (.isub, .isub, 1, 0, 0, 0, .null, rm_M0, []),
  (.i2l, .i2l, 1, 0, 0, 0, .null, rm_M0, []),
  (.invokestatic 125, .invokestatic 125, 3, 0, 3, 0, .null, mX12_in, [(0, 1379), (0, 1380)]),
  (.ireturn, .ireturn, 1, 0, 0, 0, .null, rm_M0, [])]
def tX12_isQuestion : rm_P := [(0, bX12_isQuestion_0)]
theorem ok_X12_isQuestion_t : rm_okP mX12_isQuestion tX12_isQuestion = true := by decide +kernel
theorem ok_X12_isQuestion : rm_okM mX12_isQuestion tX12_isQuestion := ⟨ok_X12_isQuestion_t, List.forall_mem_cons.mpr ⟨cw_X12_in, fun _ h => absurd h List.not_mem_nil⟩⟩
theorem atX12_isQuestion_0 : rm_at tX12_isQuestion 0 = some bX12_isQuestion_0 := rfl
def bX12_feed_0 : List rm_J := [
  (.aload 0, .aload_n 0, 1, 0, 0, 0, .null, rm_M0, []),
  (.getfield 129, .getfield 129, 3, 12, 18, 1157, .null, rm_M0, []),
  (.nop, .bipush 20, 2, 0, 0, 0, .int 20, rm_M0, []),
  (.iadd, .iadd, 1, 0, 0, 0, .null, rm_M0, []),
  (.nop, .sipush 400, 3, 0, 0, 0, .int 400, rm_M0, []),
  (.if_icmp .le 5, .if_icmp .le 5, 3, 15, 0, 0, .null, rm_M0, []),
  (.nop, .iconst (-1), 1, 0, 0, 0, .int (-1), rm_M0, []),
  (.ireturn, .ireturn, 1, 0, 0, 0, .null, rm_M0, [])]
def bX12_feed_15 : List rm_J := [
  (.aload 0, .aload_n 0, 1, 0, 0, 0, .null, rm_M0, []),
  (.iload 1, .iload_n 1, 1, 0, 0, 0, .null, rm_M0, []),
  (.invokevirtual 132, .invokevirtual 132, 3, 0, 1, 0, .null, mX12_put, [(0, 1307), (0, 1309), (0, 34)]),
  (.aload 0, .aload_n 0, 1, 0, 0, 0, .null, rm_M0, []),
  (.iload 2, .iload_n 2, 1, 0, 0, 0, .null, rm_M0, []),
  (.invokevirtual 132, .invokevirtual 132, 3, 0, 1, 0, .null, mX12_put, [(0, 1307), (0, 1309), (0, 34)]),
  (.aload 0, .aload_n 0, 1, 0, 0, 0, .null, rm_M0, []),
  (.iload 3, .iload_n 3, 1, 0, 0, 0, .null, rm_M0, []),
  (.invokevirtual 132, .invokevirtual 132, 3, 0, 1, 0, .null, mX12_put, [(0, 1307), (0, 1309), (0, 34)]),
  (.aload 0, .aload_n 0, 1, 0, 0, 0, .null, rm_M0, []),
  (.iload 4, .iload 4, 2, 0, 0, 0, .null, rm_M0, []),
  (.invokevirtual 132, .invokevirtual 132, 3, 0, 1, 0, .null, mX12_put, [(0, 1307), (0, 1309), (0, 34)]),
  (.aload 0, .aload_n 0, 1, 0, 0, 0, .null, rm_M0, []),
  (.iload 5, .iload 5, 2, 0, 0, 0, .null, rm_M0, []),
  (.invokevirtual 132, .invokevirtual 132, 3, 0, 1, 0, .null, mX12_put, [(0, 1307), (0, 1309), (0, 34)]),
  (.aload 0, .aload_n 0, 1, 0, 0, 0, .null, rm_M0, []),
  (.getfield 129, .getfield 129, 3, 12, 18, 1157, .null, rm_M0, []),
  (.ireturn, .ireturn, 1, 0, 0, 0, .null, rm_M0, [])]
def tX12_feed : rm_P := [(0, bX12_feed_0), (15, bX12_feed_15)]
theorem ok_X12_feed_t : rm_okP mX12_feed tX12_feed = true := by decide +kernel
theorem ok_X12_feed : rm_okM mX12_feed tX12_feed := ⟨ok_X12_feed_t, List.forall_mem_cons.mpr ⟨cw_X12_put, List.forall_mem_cons.mpr ⟨cw_X12_put, List.forall_mem_cons.mpr ⟨cw_X12_put, List.forall_mem_cons.mpr ⟨cw_X12_put, List.forall_mem_cons.mpr ⟨cw_X12_put, fun _ h => absurd h List.not_mem_nil⟩⟩⟩⟩⟩⟩
theorem atX12_feed_0 : rm_at tX12_feed 0 = some bX12_feed_0 := rfl
theorem atX12_feed_15 : rm_at tX12_feed 15 = some bX12_feed_15 := rfl
def bX12_put_0 : List rm_J := [
  (.nop, .bipush 24, 2, 0, 0, 0, .int 24, rm_M0, []),
  (.istore 2, .istore_n 2, 1, 0, 0, 0, .null, rm_M0, [])]
def bX12_put_3 : List rm_J := [
  (.iload 2, .iload_n 2, 1, 0, 0, 0, .null, rm_M0, []),
  (.ifCond .lt 32, .ifCond .lt 32, 3, 36, 0, 0, .null, rm_M0, []),
  (.aload 0, .aload_n 0, 1, 0, 0, 0, .null, rm_M0, []),
  (.getfield 65, .getfield 65, 3, 12, 28, 1167, .null, rm_M0, []),
  (.aload 0, .aload_n 0, 1, 0, 0, 0, .null, rm_M0, []),
  (.getfield 129, .getfield 129, 3, 12, 18, 1157, .null, rm_M0, []),
  (.iload 1, .iload_n 1, 1, 0, 0, 0, .null, rm_M0, []),
  (.iload 2, .iload_n 2, 1, 0, 0, 0, .null, rm_M0, []),
  (.ishr, .ishr, 1, 0, 0, 0, .null, rm_M0, []),
  (.i2b, .i2b, 1, 0, 0, 0, .null, rm_M0, []),
  (.bastore, .bastore, 1, 0, 0, 0, .null, rm_M0, []),
  (.aload 0, .aload_n 0, 1, 0, 0, 0, .null, rm_M0, []),
  (.dup, .dup, 1, 0, 0, 0, .null, rm_M0, []),
  (.getfield 129, .getfield 129, 3, 12, 18, 1157, .null, rm_M0, []),
  (.nop, .iconst 1, 1, 0, 0, 0, .int 1, rm_M0, []),
  (.iadd, .iadd, 1, 0, 0, 0, .null, rm_M0, []),
  (.putfield 129, .putfield 129, 3, 12, 18, 1157, .int 0, rm_M0, []),
  (.iinc 2 (-8), .iinc 2 (-8), 3, 0, 0, 0, .int (-8), rm_M0, []),
  (.goto (-30), .goto (-30), 3, 3, 0, 0, .null, rm_M0, [])]
def bX12_put_36 : List rm_J := [
  (.return_, .return_, 1, 0, 0, 0, .null, rm_M0, [])]
def tX12_put : rm_P := [(0, bX12_put_0), (3, bX12_put_3), (36, bX12_put_36)]
theorem ok_X12_put_t : rm_okP mX12_put tX12_put = true := by decide +kernel
theorem ok_X12_put : rm_okM mX12_put tX12_put := ⟨ok_X12_put_t, fun _ h => absurd h List.not_mem_nil⟩
theorem atX12_put_0 : rm_at tX12_put 0 = some bX12_put_0 := rfl
theorem atX12_put_3 : rm_at tX12_put 3 = some bX12_put_3 := rfl
theorem atX12_put_36 : rm_at tX12_put 36 = some bX12_put_36 := rfl
def bX12_end_0 : List rm_J := [
  (.iload 1, .iload_n 1, 1, 0, 0, 0, .null, rm_M0, []),
  (.ifCond .lt 11, .ifCond .lt 11, 3, 12, 0, 0, .null, rm_M0, []),
  (.iload 1, .iload_n 1, 1, 0, 0, 0, .null, rm_M0, []),
  (.aload 0, .aload_n 0, 1, 0, 0, 0, .null, rm_M0, []),
  (.getfield 129, .getfield 129, 3, 12, 18, 1157, .null, rm_M0, []),
  (.if_icmp .le 5, .if_icmp .le 5, 3, 14, 0, 0, .null, rm_M0, [])]
def bX12_end_12 : List rm_J := [
  (.nop, .iconst (-1), 1, 0, 0, 0, .int (-1), rm_M0, []),
  (.ireturn, .ireturn, 1, 0, 0, 0, .null, rm_M0, [])]
def bX12_end_14 : List rm_J := [
  (.aload 0, .aload_n 0, 1, 0, 0, 0, .null, rm_M0, []),
  (.iload 1, .iload_n 1, 1, 0, 0, 0, .null, rm_M0, []),
  (.putfield 129, .putfield 129, 3, 12, 18, 1157, .int 0, rm_M0, []),
  (.iload 1, .iload_n 1, 1, 0, 0, 0, .null, rm_M0, []),
  (.ireturn, .ireturn, 1, 0, 0, 0, .null, rm_M0, [])]
def tX12_end : rm_P := [(0, bX12_end_0), (12, bX12_end_12), (14, bX12_end_14)]
theorem ok_X12_end_t : rm_okP mX12_end tX12_end = true := by decide +kernel
theorem ok_X12_end : rm_okM mX12_end tX12_end := ⟨ok_X12_end_t, fun _ h => absurd h List.not_mem_nil⟩
theorem atX12_end_0 : rm_at tX12_end 0 = some bX12_end_0 := rfl
theorem atX12_end_12 : rm_at tX12_end 12 = some bX12_end_12 := rfl
theorem atX12_end_14 : rm_at tX12_end 14 = some bX12_end_14 := rfl
def bX12_wordOf_0 : List rm_J := [
  (.iload 0, .iload_n 0, 1, 0, 0, 0, .null, rm_M0, []),
  (.tableswitch 99 0 11 #[63, 66, 69, 72, 75, 78, 81, 84, 87, 90, 93, 96], .tableswitch 99 0 11 #[63, 66, 69, 72, 75, 78, 81, 84, 87, 90, 93, 96], 63, 100, 0, 0, .null, rm_M0, [(0, 64), (1, 67), (2, 70), (3, 73), (4, 76), (5, 79), (6, 82), (7, 85), (8, 88), (9, 91), (10, 94), (11, 97)])]
def bX12_wordOf_64 : List rm_J := [
  (.nop, .ldc 136, 2, 0, 0, 0, .ref 1000000003, rm_M0, []),
  (.areturn, .areturn, 1, 0, 0, 0, .null, rm_M0, [])]
def bX12_wordOf_67 : List rm_J := [
  (.nop, .ldc 138, 2, 0, 0, 0, .ref 1000000007, rm_M0, []),
  (.areturn, .areturn, 1, 0, 0, 0, .null, rm_M0, [])]
def bX12_wordOf_70 : List rm_J := [
  (.nop, .ldc 139, 2, 0, 0, 0, .ref 1000000008, rm_M0, []),
  (.areturn, .areturn, 1, 0, 0, 0, .null, rm_M0, [])]
def bX12_wordOf_73 : List rm_J := [
  (.nop, .ldc 140, 2, 0, 0, 0, .ref 1000000009, rm_M0, []),
  (.areturn, .areturn, 1, 0, 0, 0, .null, rm_M0, [])]
def bX12_wordOf_76 : List rm_J := [
  (.nop, .ldc 142, 2, 0, 0, 0, .ref 1000000010, rm_M0, []),
  (.areturn, .areturn, 1, 0, 0, 0, .null, rm_M0, [])]
def bX12_wordOf_79 : List rm_J := [
  (.nop, .ldc 144, 2, 0, 0, 0, .ref 1000000011, rm_M0, []),
  (.areturn, .areturn, 1, 0, 0, 0, .null, rm_M0, [])]
def bX12_wordOf_82 : List rm_J := [
  (.nop, .ldc 146, 2, 0, 0, 0, .ref 1000000012, rm_M0, []),
  (.areturn, .areturn, 1, 0, 0, 0, .null, rm_M0, [])]
def bX12_wordOf_85 : List rm_J := [
  (.nop, .ldc 148, 2, 0, 0, 0, .ref 1000000013, rm_M0, []),
  (.areturn, .areturn, 1, 0, 0, 0, .null, rm_M0, [])]
def bX12_wordOf_88 : List rm_J := [
  (.nop, .ldc 149, 2, 0, 0, 0, .ref 1000000014, rm_M0, []),
  (.areturn, .areturn, 1, 0, 0, 0, .null, rm_M0, [])]
def bX12_wordOf_91 : List rm_J := [
  (.nop, .ldc 151, 2, 0, 0, 0, .ref 1000000015, rm_M0, []),
  (.areturn, .areturn, 1, 0, 0, 0, .null, rm_M0, [])]
def bX12_wordOf_94 : List rm_J := [
  (.nop, .ldc 153, 2, 0, 0, 0, .ref 1000000016, rm_M0, []),
  (.areturn, .areturn, 1, 0, 0, 0, .null, rm_M0, [])]
def bX12_wordOf_97 : List rm_J := [
  (.nop, .ldc 155, 2, 0, 0, 0, .ref 1000000017, rm_M0, []),
  (.areturn, .areturn, 1, 0, 0, 0, .null, rm_M0, [])]
def bX12_wordOf_100 : List rm_J := [
  (.nop, .ldc 157, 2, 0, 0, 0, .ref 1000000018, rm_M0, []),
  (.areturn, .areturn, 1, 0, 0, 0, .null, rm_M0, [])]
def tX12_wordOf : rm_P := [(0, bX12_wordOf_0), (64, bX12_wordOf_64), (67, bX12_wordOf_67), (70, bX12_wordOf_70), (73, bX12_wordOf_73), (76, bX12_wordOf_76), (79, bX12_wordOf_79), (82, bX12_wordOf_82), (85, bX12_wordOf_85), (88, bX12_wordOf_88), (91, bX12_wordOf_91), (94, bX12_wordOf_94), (97, bX12_wordOf_97), (100, bX12_wordOf_100)]
theorem ok_X12_wordOf_t : rm_okP mX12_wordOf tX12_wordOf = true := by decide +kernel
theorem ok_X12_wordOf : rm_okM mX12_wordOf tX12_wordOf := ⟨ok_X12_wordOf_t, fun _ h => absurd h List.not_mem_nil⟩
theorem atX12_wordOf_0 : rm_at tX12_wordOf 0 = some bX12_wordOf_0 := rfl
theorem atX12_wordOf_64 : rm_at tX12_wordOf 64 = some bX12_wordOf_64 := rfl
theorem atX12_wordOf_67 : rm_at tX12_wordOf 67 = some bX12_wordOf_67 := rfl
theorem atX12_wordOf_70 : rm_at tX12_wordOf 70 = some bX12_wordOf_70 := rfl
theorem atX12_wordOf_73 : rm_at tX12_wordOf 73 = some bX12_wordOf_73 := rfl
theorem atX12_wordOf_76 : rm_at tX12_wordOf 76 = some bX12_wordOf_76 := rfl
theorem atX12_wordOf_79 : rm_at tX12_wordOf 79 = some bX12_wordOf_79 := rfl
theorem atX12_wordOf_82 : rm_at tX12_wordOf 82 = some bX12_wordOf_82 := rfl
theorem atX12_wordOf_85 : rm_at tX12_wordOf 85 = some bX12_wordOf_85 := rfl
theorem atX12_wordOf_88 : rm_at tX12_wordOf 88 = some bX12_wordOf_88 := rfl
theorem atX12_wordOf_91 : rm_at tX12_wordOf 91 = some bX12_wordOf_91 := rfl
theorem atX12_wordOf_94 : rm_at tX12_wordOf 94 = some bX12_wordOf_94 := rfl
theorem atX12_wordOf_97 : rm_at tX12_wordOf 97 = some bX12_wordOf_97 := rfl
theorem atX12_wordOf_100 : rm_at tX12_wordOf 100 = some bX12_wordOf_100 := rfl
def bX12_fails_0 : List rm_J := [
  (.aload 0, .aload_n 0, 1, 0, 0, 0, .null, rm_M0, []),
  (.aload 0, .aload_n 0, 1, 0, 0, 0, .null, rm_M0, []),
  (.getfield 159, .getfield 159, 3, 12, 20, 1159, .null, rm_M0, []),
  (.ifCond .ne 14, .ifCond .ne 14, 3, 19, 0, 0, .null, rm_M0, []),
  (.nop, .iconst 1, 1, 0, 0, 0, .int 1, rm_M0, []),
  (.nop, .bipush 8, 2, 0, 0, 0, .int 8, rm_M0, []),
  (.iload 2, .iload_n 2, 1, 0, 0, 0, .null, rm_M0, []),
  (.imul, .imul, 1, 0, 0, 0, .null, rm_M0, []),
  (.iadd, .iadd, 1, 0, 0, 0, .null, rm_M0, []),
  (.iload 1, .iload_n 1, 1, 0, 0, 0, .null, rm_M0, []),
  (.iadd, .iadd, 1, 0, 0, 0, .null, rm_M0, []),
  (.goto 7, .goto 7, 3, 23, 0, 0, .null, rm_M0, [])]
def bX12_fails_19 : List rm_J := [
  (.aload 0, .aload_n 0, 1, 0, 0, 0, .null, rm_M0, []),
  (.getfield 159, .getfield 159, 3, 12, 20, 1159, .null, rm_M0, [])]
def bX12_fails_23 : List rm_J := [
  (.putfield 159, .putfield 159, 3, 12, 20, 1159, .int 0, rm_M0, []),
  (.return_, .return_, 1, 0, 0, 0, .null, rm_M0, [])]
def tX12_fails : rm_P := [(0, bX12_fails_0), (19, bX12_fails_19), (23, bX12_fails_23)]
theorem ok_X12_fails_t : rm_okP mX12_fails tX12_fails = true := by decide +kernel
theorem ok_X12_fails : rm_okM mX12_fails tX12_fails := ⟨ok_X12_fails_t, fun _ h => absurd h List.not_mem_nil⟩
theorem atX12_fails_0 : rm_at tX12_fails 0 = some bX12_fails_0 := rfl
theorem atX12_fails_19 : rm_at tX12_fails 19 = some bX12_fails_19 := rfl
theorem atX12_fails_23 : rm_at tX12_fails 23 = some bX12_fails_23 := rfl
def bX12_sign_0 : List rm_J := [
  (.aload 0, .aload_n 0, 1, 0, 0, 0, .null, rm_M0, []),
  (.getfield 162, .getfield 162, 3, 12, 19, 1158, .null, rm_M0, []),
  (.aload 0, .aload_n 0, 1, 0, 0, 0, .null, rm_M0, []),
  (.getfield 129, .getfield 129, 3, 12, 18, 1157, .null, rm_M0, []),
  (.if_icmp .ge 19, .if_icmp .ge 19, 3, 27, 0, 0, .null, rm_M0, []),
  (.aload 0, .aload_n 0, 1, 0, 0, 0, .null, rm_M0, []),
  (.getfield 65, .getfield 65, 3, 12, 28, 1167, .null, rm_M0, []),
  (.aload 0, .aload_n 0, 1, 0, 0, 0, .null, rm_M0, []),
  (.getfield 162, .getfield 162, 3, 12, 19, 1158, .null, rm_M0, []),
  (.baload, .baload, 1, 0, 0, 0, .null, rm_M0, []),
  (.nop, .sipush 255, 3, 0, 0, 0, .int 255, rm_M0, []),
  (.iand, .iand, 1, 0, 0, 0, .null, rm_M0, []),
  (.goto 4, .goto 4, 3, 28, 0, 0, .null, rm_M0, [])]
def bX12_sign_27 : List rm_J := [
  (.nop, .iconst (-1), 1, 0, 0, 0, .int (-1), rm_M0, [])]
def bX12_sign_28 : List rm_J := [
  (.ireturn, .ireturn, 1, 0, 0, 0, .null, rm_M0, [])]
def tX12_sign : rm_P := [(0, bX12_sign_0), (27, bX12_sign_27), (28, bX12_sign_28)]
theorem ok_X12_sign_t : rm_okP mX12_sign tX12_sign = true := by decide +kernel
theorem ok_X12_sign : rm_okM mX12_sign tX12_sign := ⟨ok_X12_sign_t, fun _ h => absurd h List.not_mem_nil⟩
theorem atX12_sign_0 : rm_at tX12_sign 0 = some bX12_sign_0 := rfl
theorem atX12_sign_27 : rm_at tX12_sign 27 = some bX12_sign_27 := rfl
theorem atX12_sign_28 : rm_at tX12_sign 28 = some bX12_sign_28 := rfl
def bX12_blanks_0 : List rm_J := [
  (.aload 0, .aload_n 0, 1, 0, 0, 0, .null, rm_M0, []),
  (.invokevirtual 165, .invokevirtual 165, 3, 0, 0, 0, .null, mX12_sign, [(0, 1335), (0, 1337), (0, 39)]),
  (.nop, .bipush 32, 2, 0, 0, 0, .int 32, rm_M0, []),
  (.if_icmp .ne 16, .if_icmp .ne 16, 3, 22, 0, 0, .null, rm_M0, []),
  (.aload 0, .aload_n 0, 1, 0, 0, 0, .null, rm_M0, []),
  (.dup, .dup, 1, 0, 0, 0, .null, rm_M0, []),
  (.getfield 162, .getfield 162, 3, 12, 19, 1158, .null, rm_M0, []),
  (.nop, .iconst 1, 1, 0, 0, 0, .int 1, rm_M0, []),
  (.iadd, .iadd, 1, 0, 0, 0, .null, rm_M0, []),
  (.putfield 162, .putfield 162, 3, 12, 19, 1158, .int 0, rm_M0, []),
  (.goto (-19), .goto (-19), 3, 0, 0, 0, .null, rm_M0, [])]
def bX12_blanks_22 : List rm_J := [
  (.return_, .return_, 1, 0, 0, 0, .null, rm_M0, [])]
def tX12_blanks : rm_P := [(0, bX12_blanks_0), (22, bX12_blanks_22)]
theorem ok_X12_blanks_t : rm_okP mX12_blanks tX12_blanks = true := by decide +kernel
theorem ok_X12_blanks : rm_okM mX12_blanks tX12_blanks := ⟨ok_X12_blanks_t, List.forall_mem_cons.mpr ⟨cw_X12_sign, fun _ h => absurd h List.not_mem_nil⟩⟩
theorem atX12_blanks_0 : rm_at tX12_blanks 0 = some bX12_blanks_0 := rfl
theorem atX12_blanks_22 : rm_at tX12_blanks 22 = some bX12_blanks_22 := rfl
def bX12_isDigit_0 : List rm_J := [
  (.aload 0, .aload_n 0, 1, 0, 0, 0, .null, rm_M0, []),
  (.invokevirtual 165, .invokevirtual 165, 3, 0, 0, 0, .null, mX12_sign, [(0, 1335), (0, 1337), (0, 39)]),
  (.i2l, .i2l, 1, 0, 0, 0, .null, rm_M0, []),
  (.nop, .ldc2_w 169, 3, 0, 0, 1377, .long 48, rm_M0, []),
  (.nop, .ldc2_w 171, 3, 0, 0, 1378, .long 57, rm_M0, []),
  (.invokestatic 125, .invokestatic 125, 3, 0, 3, 0, .null, mX12_in, [(0, 1379), (0, 1380)]),
  (.ireturn, .ireturn, 1, 0, 0, 0, .null, rm_M0, [])]
def tX12_isDigit : rm_P := [(0, bX12_isDigit_0)]
theorem ok_X12_isDigit_t : rm_okP mX12_isDigit tX12_isDigit = true := by decide +kernel
theorem ok_X12_isDigit : rm_okM mX12_isDigit tX12_isDigit := ⟨ok_X12_isDigit_t, List.forall_mem_cons.mpr ⟨cw_X12_sign, List.forall_mem_cons.mpr ⟨cw_X12_in, fun _ h => absurd h List.not_mem_nil⟩⟩⟩
theorem atX12_isDigit_0 : rm_at tX12_isDigit 0 = some bX12_isDigit_0 := rfl
def bX12_stood_0 : List rm_J := [
  (.aload 0, .aload_n 0, 1, 0, 0, 0, .null, rm_M0, []),
  (.getfield 162, .getfield 162, 3, 12, 19, 1158, .null, rm_M0, []),
  (.istore 2, .istore_n 2, 1, 0, 0, 0, .null, rm_M0, [])]
def bX12_stood_5 : List rm_J := [
  (.iload 2, .iload_n 2, 1, 0, 0, 0, .null, rm_M0, []),
  (.aload 0, .aload_n 0, 1, 0, 0, 0, .null, rm_M0, []),
  (.getfield 129, .getfield 129, 3, 12, 18, 1157, .null, rm_M0, []),
  (.if_icmp .ge 31, .if_icmp .ge 31, 3, 41, 0, 0, .null, rm_M0, []),
  (.aload 0, .aload_n 0, 1, 0, 0, 0, .null, rm_M0, []),
  (.getfield 65, .getfield 65, 3, 12, 28, 1167, .null, rm_M0, []),
  (.iload 2, .iload_n 2, 1, 0, 0, 0, .null, rm_M0, []),
  (.baload, .baload, 1, 0, 0, 0, .null, rm_M0, []),
  (.nop, .bipush 97, 2, 0, 0, 0, .int 97, rm_M0, []),
  (.if_icmp .lt 20, .if_icmp .lt 20, 3, 41, 0, 0, .null, rm_M0, []),
  (.aload 0, .aload_n 0, 1, 0, 0, 0, .null, rm_M0, []),
  (.getfield 65, .getfield 65, 3, 12, 28, 1167, .null, rm_M0, []),
  (.iload 2, .iload_n 2, 1, 0, 0, 0, .null, rm_M0, []),
  (.baload, .baload, 1, 0, 0, 0, .null, rm_M0, []),
  (.nop, .bipush 122, 2, 0, 0, 0, .int 122, rm_M0, []),
  (.if_icmp .gt 9, .if_icmp .gt 9, 3, 41, 0, 0, .null, rm_M0, []),
  (.iinc 2 1, .iinc 2 1, 3, 0, 0, 0, .int 1, rm_M0, []),
  (.goto (-33), .goto (-33), 3, 5, 0, 0, .null, rm_M0, [])]
def bX12_stood_41 : List rm_J := [
  (.iload 2, .iload_n 2, 1, 0, 0, 0, .null, rm_M0, []),
  (.aload 0, .aload_n 0, 1, 0, 0, 0, .null, rm_M0, []),
  (.getfield 162, .getfield 162, 3, 12, 19, 1158, .null, rm_M0, []),
  (.isub, .isub, 1, 0, 0, 0, .null, rm_M0, []),
  (.aload 1, .aload_n 1, 1, 0, 0, 0, .null, rm_M0, []),
  (.invokevirtual 173, .invokevirtual 173, 3, 0, 0, 0, .null, mJ0_length_8abf5, [(0, 1350), (0, 532), (0, 533)]),
  (.if_icmp .ne 7, .if_icmp .ne 7, 3, 58, 0, 0, .null, rm_M0, []),
  (.nop, .iconst 1, 1, 0, 0, 0, .int 1, rm_M0, []),
  (.goto 4, .goto 4, 3, 59, 0, 0, .null, rm_M0, [])]
def bX12_stood_58 : List rm_J := [
  (.nop, .iconst 0, 1, 0, 0, 0, .int 0, rm_M0, [])]
def bX12_stood_59 : List rm_J := [
  (.istore 3, .istore_n 3, 1, 0, 0, 0, .null, rm_M0, []),
  (.nop, .iconst 0, 1, 0, 0, 0, .int 0, rm_M0, []),
  (.istore 4, .istore 4, 2, 0, 0, 0, .null, rm_M0, [])]
def bX12_stood_63 : List rm_J := [
  (.iload 4, .iload 4, 2, 0, 0, 0, .null, rm_M0, []),
  (.aload 1, .aload_n 1, 1, 0, 0, 0, .null, rm_M0, []),
  (.invokevirtual 173, .invokevirtual 173, 3, 0, 0, 0, .null, mJ0_length_8abf5, [(0, 1350), (0, 532), (0, 533)]),
  (.if_icmp .ge 40, .if_icmp .ge 40, 3, 109, 0, 0, .null, rm_M0, []),
  (.iload 3, .iload_n 3, 1, 0, 0, 0, .null, rm_M0, []),
  (.ifCond .eq 36, .ifCond .eq 36, 3, 109, 0, 0, .null, rm_M0, []),
  (.aload 0, .aload_n 0, 1, 0, 0, 0, .null, rm_M0, []),
  (.getfield 65, .getfield 65, 3, 12, 28, 1167, .null, rm_M0, []),
  (.aload 0, .aload_n 0, 1, 0, 0, 0, .null, rm_M0, []),
  (.getfield 162, .getfield 162, 3, 12, 19, 1158, .null, rm_M0, []),
  (.iload 4, .iload 4, 2, 0, 0, 0, .null, rm_M0, []),
  (.iadd, .iadd, 1, 0, 0, 0, .null, rm_M0, []),
  (.baload, .baload, 1, 0, 0, 0, .null, rm_M0, []),
  (.aload 1, .aload_n 1, 1, 0, 0, 0, .null, rm_M0, []),
  (.iload 4, .iload 4, 2, 0, 0, 0, .null, rm_M0, []),
  (.invokevirtual 178, .invokevirtual 178, 3, 0, 1, 0, .null, mJ0_charAt_5068e, [(0, 1351), (0, 542), (0, 543)]),
  (.if_icmp .ne 7, .if_icmp .ne 7, 3, 101, 0, 0, .null, rm_M0, []),
  (.nop, .iconst 1, 1, 0, 0, 0, .int 1, rm_M0, []),
  (.goto 4, .goto 4, 3, 102, 0, 0, .null, rm_M0, [])]
def bX12_stood_101 : List rm_J := [
  (.nop, .iconst 0, 1, 0, 0, 0, .int 0, rm_M0, [])]
def bX12_stood_102 : List rm_J := [
  (.istore 3, .istore_n 3, 1, 0, 0, 0, .null, rm_M0, []),
  (.iinc 4 1, .iinc 4 1, 3, 0, 0, 0, .int 1, rm_M0, []),
  (.goto (-43), .goto (-43), 3, 63, 0, 0, .null, rm_M0, [])]
def bX12_stood_109 : List rm_J := [
  (.iload 3, .iload_n 3, 1, 0, 0, 0, .null, rm_M0, []),
  (.ireturn, .ireturn, 1, 0, 0, 0, .null, rm_M0, [])]
def tX12_stood : rm_P := [(0, bX12_stood_0), (5, bX12_stood_5), (41, bX12_stood_41), (58, bX12_stood_58), (59, bX12_stood_59), (63, bX12_stood_63), (101, bX12_stood_101), (102, bX12_stood_102), (109, bX12_stood_109)]
theorem ok_X12_stood_t : rm_okP mX12_stood tX12_stood = true := by decide +kernel
theorem ok_X12_stood : rm_okM mX12_stood tX12_stood := ⟨ok_X12_stood_t, List.forall_mem_cons.mpr ⟨cw_J0_length_8abf5, List.forall_mem_cons.mpr ⟨cw_J0_length_8abf5, List.forall_mem_cons.mpr ⟨cw_J0_charAt_5068e, fun _ h => absurd h List.not_mem_nil⟩⟩⟩⟩
theorem atX12_stood_0 : rm_at tX12_stood 0 = some bX12_stood_0 := rfl
theorem atX12_stood_5 : rm_at tX12_stood 5 = some bX12_stood_5 := rfl
theorem atX12_stood_41 : rm_at tX12_stood 41 = some bX12_stood_41 := rfl
theorem atX12_stood_58 : rm_at tX12_stood 58 = some bX12_stood_58 := rfl
theorem atX12_stood_59 : rm_at tX12_stood 59 = some bX12_stood_59 := rfl
theorem atX12_stood_63 : rm_at tX12_stood 63 = some bX12_stood_63 := rfl
theorem atX12_stood_101 : rm_at tX12_stood 101 = some bX12_stood_101 := rfl
theorem atX12_stood_102 : rm_at tX12_stood 102 = some bX12_stood_102 := rfl
theorem atX12_stood_109 : rm_at tX12_stood 109 = some bX12_stood_109 := rfl
def bX12_takes_0 : List rm_J := [
  (.aload 0, .aload_n 0, 1, 0, 0, 0, .null, rm_M0, []),
  (.invokevirtual 182, .invokevirtual 182, 3, 0, 0, 0, .null, mX12_blanks, [(0, 1331), (0, 1333), (0, 38)]),
  (.aload 0, .aload_n 0, 1, 0, 0, 0, .null, rm_M0, []),
  (.aload 1, .aload_n 1, 1, 0, 0, 0, .null, rm_M0, []),
  (.invokevirtual 185, .invokevirtual 185, 3, 0, 1, 0, .null, mX12_stood, [(0, 1346), (0, 1348), (0, 40)]),
  (.istore 2, .istore_n 2, 1, 0, 0, 0, .null, rm_M0, []),
  (.aload 0, .aload_n 0, 1, 0, 0, 0, .null, rm_M0, []),
  (.dup, .dup, 1, 0, 0, 0, .null, rm_M0, []),
  (.getfield 162, .getfield 162, 3, 12, 19, 1158, .null, rm_M0, []),
  (.iload 2, .iload_n 2, 1, 0, 0, 0, .null, rm_M0, []),
  (.ifCond .eq 10, .ifCond .eq 10, 3, 26, 0, 0, .null, rm_M0, []),
  (.aload 1, .aload_n 1, 1, 0, 0, 0, .null, rm_M0, []),
  (.invokevirtual 173, .invokevirtual 173, 3, 0, 0, 0, .null, mJ0_length_8abf5, [(0, 1350), (0, 532), (0, 533)]),
  (.goto 4, .goto 4, 3, 27, 0, 0, .null, rm_M0, [])]
def bX12_takes_26 : List rm_J := [
  (.nop, .iconst 0, 1, 0, 0, 0, .int 0, rm_M0, [])]
def bX12_takes_27 : List rm_J := [
  (.iadd, .iadd, 1, 0, 0, 0, .null, rm_M0, []),
  (.putfield 162, .putfield 162, 3, 12, 19, 1158, .int 0, rm_M0, []),
  (.iload 2, .iload_n 2, 1, 0, 0, 0, .null, rm_M0, []),
  (.ireturn, .ireturn, 1, 0, 0, 0, .null, rm_M0, [])]
def tX12_takes : rm_P := [(0, bX12_takes_0), (26, bX12_takes_26), (27, bX12_takes_27)]
theorem ok_X12_takes_t : rm_okP mX12_takes tX12_takes = true := by decide +kernel
theorem ok_X12_takes : rm_okM mX12_takes tX12_takes := ⟨ok_X12_takes_t, List.forall_mem_cons.mpr ⟨cw_X12_blanks, List.forall_mem_cons.mpr ⟨cw_X12_stood, List.forall_mem_cons.mpr ⟨cw_J0_length_8abf5, fun _ h => absurd h List.not_mem_nil⟩⟩⟩⟩
theorem atX12_takes_0 : rm_at tX12_takes 0 = some bX12_takes_0 := rfl
theorem atX12_takes_26 : rm_at tX12_takes 26 = some bX12_takes_26 := rfl
theorem atX12_takes_27 : rm_at tX12_takes 27 = some bX12_takes_27 := rfl
def bX12_entry_0 : List rm_J := [
  (.aload 0, .aload_n 0, 1, 0, 0, 0, .null, rm_M0, []),
  (.getfield 159, .getfield 159, 3, 12, 20, 1159, .null, rm_M0, []),
  (.ifCond .ne 51, .ifCond .ne 51, 3, 55, 0, 0, .null, rm_M0, []),
  (.aload 0, .aload_n 0, 1, 0, 0, 0, .null, rm_M0, []),
  (.getfield 69, .getfield 69, 3, 12, 29, 1168, .null, rm_M0, []),
  (.nop, .sipush 300, 3, 0, 0, 0, .int 300, rm_M0, []),
  (.aload 0, .aload_n 0, 1, 0, 0, 0, .null, rm_M0, []),
  (.getfield 189, .getfield 189, 3, 12, 21, 1160, .null, rm_M0, []),
  (.imul, .imul, 1, 0, 0, 0, .null, rm_M0, []),
  (.aload 0, .aload_n 0, 1, 0, 0, 0, .null, rm_M0, []),
  (.getfield 192, .getfield 192, 3, 12, 23, 1162, .null, rm_M0, []),
  (.iadd, .iadd, 1, 0, 0, 0, .null, rm_M0, []),
  (.iload 1, .iload_n 1, 1, 0, 0, 0, .null, rm_M0, []),
  (.iastore, .iastore, 1, 0, 0, 0, .null, rm_M0, []),
  (.aload 0, .aload_n 0, 1, 0, 0, 0, .null, rm_M0, []),
  (.getfield 72, .getfield 72, 3, 12, 30, 1169, .null, rm_M0, []),
  (.nop, .sipush 300, 3, 0, 0, 0, .int 300, rm_M0, []),
  (.aload 0, .aload_n 0, 1, 0, 0, 0, .null, rm_M0, []),
  (.getfield 189, .getfield 189, 3, 12, 21, 1160, .null, rm_M0, []),
  (.imul, .imul, 1, 0, 0, 0, .null, rm_M0, []),
  (.aload 0, .aload_n 0, 1, 0, 0, 0, .null, rm_M0, []),
  (.getfield 192, .getfield 192, 3, 12, 23, 1162, .null, rm_M0, []),
  (.iadd, .iadd, 1, 0, 0, 0, .null, rm_M0, []),
  (.iload 2, .iload_n 2, 1, 0, 0, 0, .null, rm_M0, []),
  (.iastore, .iastore, 1, 0, 0, 0, .null, rm_M0, []),
  (.aload 0, .aload_n 0, 1, 0, 0, 0, .null, rm_M0, []),
  (.dup, .dup, 1, 0, 0, 0, .null, rm_M0, []),
  (.getfield 192, .getfield 192, 3, 12, 23, 1162, .null, rm_M0, []),
  (.nop, .iconst 1, 1, 0, 0, 0, .int 1, rm_M0, []),
  (.iadd, .iadd, 1, 0, 0, 0, .null, rm_M0, []),
  (.putfield 192, .putfield 192, 3, 12, 23, 1162, .int 0, rm_M0, [])]
def bX12_entry_55 : List rm_J := [
  (.return_, .return_, 1, 0, 0, 0, .null, rm_M0, [])]
def tX12_entry : rm_P := [(0, bX12_entry_0), (55, bX12_entry_55)]
theorem ok_X12_entry_t : rm_okP mX12_entry tX12_entry = true := by decide +kernel
theorem ok_X12_entry : rm_okM mX12_entry tX12_entry := ⟨ok_X12_entry_t, fun _ h => absurd h List.not_mem_nil⟩
theorem atX12_entry_0 : rm_at tX12_entry 0 = some bX12_entry_0 := rfl
theorem atX12_entry_55 : rm_at tX12_entry 55 = some bX12_entry_55 := rfl
def bX12_isCounted_0 : List rm_J := [
  (.aload 0, .aload_n 0, 1, 0, 0, 0, .null, rm_M0, []),
  (.getfield 195, .getfield 195, 3, 12, 25, 1164, .null, rm_M0, []),
  (.nop, .bipush 60, 2, 0, 0, 0, .int 60, rm_M0, []),
  (.if_icmp .ne 9, .if_icmp .ne 9, 3, 15, 0, 0, .null, rm_M0, []),
  (.aload 0, .aload_n 0, 1, 0, 0, 0, .null, rm_M0, []),
  (.nop, .iconst 3, 1, 0, 0, 0, .int 3, rm_M0, []),
  (.iload 1, .iload_n 1, 1, 0, 0, 0, .null, rm_M0, []),
  (.invokevirtual 198, .invokevirtual 198, 3, 0, 2, 0, .null, mX12_fails, [(0, 1352), (0, 1354), (0, 41)])]
def bX12_isCounted_15 : List rm_J := [
  (.aload 0, .aload_n 0, 1, 0, 0, 0, .null, rm_M0, []),
  (.dup, .dup, 1, 0, 0, 0, .null, rm_M0, []),
  (.getfield 195, .getfield 195, 3, 12, 25, 1164, .null, rm_M0, []),
  (.nop, .iconst 1, 1, 0, 0, 0, .int 1, rm_M0, []),
  (.iadd, .iadd, 1, 0, 0, 0, .null, rm_M0, []),
  (.putfield 195, .putfield 195, 3, 12, 25, 1164, .int 0, rm_M0, []),
  (.return_, .return_, 1, 0, 0, 0, .null, rm_M0, [])]
def tX12_isCounted : rm_P := [(0, bX12_isCounted_0), (15, bX12_isCounted_15)]
theorem ok_X12_isCounted_t : rm_okP mX12_isCounted tX12_isCounted = true := by decide +kernel
theorem ok_X12_isCounted : rm_okM mX12_isCounted tX12_isCounted := ⟨ok_X12_isCounted_t, List.forall_mem_cons.mpr ⟨cw_X12_fails, fun _ h => absurd h List.not_mem_nil⟩⟩
theorem atX12_isCounted_0 : rm_at tX12_isCounted 0 = some bX12_isCounted_0 := rfl
theorem atX12_isCounted_15 : rm_at tX12_isCounted 15 = some bX12_isCounted_15 := rfl
def bX12_digits_0 : List rm_J := [
  (.aload 0, .aload_n 0, 1, 0, 0, 0, .null, rm_M0, []),
  (.invokevirtual 202, .invokevirtual 202, 3, 0, 0, 0, .null, mX12_isDigit, [(0, 1373), (0, 1375), (0, 46)]),
  (.ifCond .ne 14, .ifCond .ne 14, 3, 18, 0, 0, .null, rm_M0, []),
  (.aload 0, .aload_n 0, 1, 0, 0, 0, .null, rm_M0, []),
  (.nop, .iconst 0, 1, 0, 0, 0, .int 0, rm_M0, []),
  (.aload 0, .aload_n 0, 1, 0, 0, 0, .null, rm_M0, []),
  (.getfield 162, .getfield 162, 3, 12, 19, 1158, .null, rm_M0, []),
  (.invokevirtual 198, .invokevirtual 198, 3, 0, 2, 0, .null, mX12_fails, [(0, 1352), (0, 1354), (0, 41)]),
  (.nop, .iconst 0, 1, 0, 0, 0, .int 0, rm_M0, []),
  (.ireturn, .ireturn, 1, 0, 0, 0, .null, rm_M0, [])]
def bX12_digits_18 : List rm_J := [
  (.aload 0, .aload_n 0, 1, 0, 0, 0, .null, rm_M0, []),
  (.getfield 162, .getfield 162, 3, 12, 19, 1158, .null, rm_M0, []),
  (.istore 2, .istore_n 2, 1, 0, 0, 0, .null, rm_M0, []),
  (.nop, .iconst 0, 1, 0, 0, 0, .int 0, rm_M0, []),
  (.istore 3, .istore_n 3, 1, 0, 0, 0, .null, rm_M0, [])]
def bX12_digits_25 : List rm_J := [
  (.aload 0, .aload_n 0, 1, 0, 0, 0, .null, rm_M0, []),
  (.invokevirtual 202, .invokevirtual 202, 3, 0, 0, 0, .null, mX12_isDigit, [(0, 1373), (0, 1375), (0, 46)]),
  (.ifCond .eq 43, .ifCond .eq 43, 3, 72, 0, 0, .null, rm_M0, []),
  (.aload 0, .aload_n 0, 1, 0, 0, 0, .null, rm_M0, []),
  (.getfield 162, .getfield 162, 3, 12, 19, 1158, .null, rm_M0, []),
  (.iload 2, .iload_n 2, 1, 0, 0, 0, .null, rm_M0, []),
  (.isub, .isub, 1, 0, 0, 0, .null, rm_M0, []),
  (.nop, .iconst 5, 1, 0, 0, 0, .int 5, rm_M0, []),
  (.if_icmp .ge 18, .if_icmp .ge 18, 3, 57, 0, 0, .null, rm_M0, []),
  (.nop, .bipush 10, 2, 0, 0, 0, .int 10, rm_M0, []),
  (.iload 3, .iload_n 3, 1, 0, 0, 0, .null, rm_M0, []),
  (.imul, .imul, 1, 0, 0, 0, .null, rm_M0, []),
  (.aload 0, .aload_n 0, 1, 0, 0, 0, .null, rm_M0, []),
  (.invokevirtual 165, .invokevirtual 165, 3, 0, 0, 0, .null, mX12_sign, [(0, 1335), (0, 1337), (0, 39)]),
  (.iadd, .iadd, 1, 0, 0, 0, .null, rm_M0, []),
  (.nop, .bipush 48, 2, 0, 0, 0, .int 48, rm_M0, []),
  (.isub, .isub, 1, 0, 0, 0, .null, rm_M0, []),
  (.goto 4, .goto 4, 3, 58, 0, 0, .null, rm_M0, [])]
def bX12_digits_57 : List rm_J := [
  (.iload 3, .iload_n 3, 1, 0, 0, 0, .null, rm_M0, [])]
def bX12_digits_58 : List rm_J := [
  (.istore 3, .istore_n 3, 1, 0, 0, 0, .null, rm_M0, []),
  (.aload 0, .aload_n 0, 1, 0, 0, 0, .null, rm_M0, []),
  (.dup, .dup, 1, 0, 0, 0, .null, rm_M0, []),
  (.getfield 162, .getfield 162, 3, 12, 19, 1158, .null, rm_M0, []),
  (.nop, .iconst 1, 1, 0, 0, 0, .int 1, rm_M0, []),
  (.iadd, .iadd, 1, 0, 0, 0, .null, rm_M0, []),
  (.putfield 162, .putfield 162, 3, 12, 19, 1158, .int 0, rm_M0, []),
  (.goto (-44), .goto (-44), 3, 25, 0, 0, .null, rm_M0, [])]
def bX12_digits_72 : List rm_J := [
  (.aload 0, .aload_n 0, 1, 0, 0, 0, .null, rm_M0, []),
  (.getfield 162, .getfield 162, 3, 12, 19, 1158, .null, rm_M0, []),
  (.iload 2, .iload_n 2, 1, 0, 0, 0, .null, rm_M0, []),
  (.isub, .isub, 1, 0, 0, 0, .null, rm_M0, []),
  (.nop, .iconst 5, 1, 0, 0, 0, .int 5, rm_M0, []),
  (.if_icmp .gt 8, .if_icmp .gt 8, 3, 87, 0, 0, .null, rm_M0, []),
  (.iload 3, .iload_n 3, 1, 0, 0, 0, .null, rm_M0, []),
  (.iload 1, .iload_n 1, 1, 0, 0, 0, .null, rm_M0, []),
  (.if_icmp .le 9, .if_icmp .le 9, 3, 93, 0, 0, .null, rm_M0, [])]
def bX12_digits_87 : List rm_J := [
  (.aload 0, .aload_n 0, 1, 0, 0, 0, .null, rm_M0, []),
  (.nop, .iconst 1, 1, 0, 0, 0, .int 1, rm_M0, []),
  (.iload 2, .iload_n 2, 1, 0, 0, 0, .null, rm_M0, []),
  (.invokevirtual 198, .invokevirtual 198, 3, 0, 2, 0, .null, mX12_fails, [(0, 1352), (0, 1354), (0, 41)])]
def bX12_digits_93 : List rm_J := [
  (.iload 3, .iload_n 3, 1, 0, 0, 0, .null, rm_M0, []),
  (.ireturn, .ireturn, 1, 0, 0, 0, .null, rm_M0, [])]
def tX12_digits : rm_P := [(0, bX12_digits_0), (18, bX12_digits_18), (25, bX12_digits_25), (57, bX12_digits_57), (58, bX12_digits_58), (72, bX12_digits_72), (87, bX12_digits_87), (93, bX12_digits_93)]
theorem ok_X12_digits_t : rm_okP mX12_digits tX12_digits = true := by decide +kernel
theorem ok_X12_digits : rm_okM mX12_digits tX12_digits := ⟨ok_X12_digits_t, List.forall_mem_cons.mpr ⟨cw_X12_isDigit, List.forall_mem_cons.mpr ⟨cw_X12_fails, List.forall_mem_cons.mpr ⟨cw_X12_isDigit, List.forall_mem_cons.mpr ⟨cw_X12_sign, List.forall_mem_cons.mpr ⟨cw_X12_fails, fun _ h => absurd h List.not_mem_nil⟩⟩⟩⟩⟩⟩
theorem atX12_digits_0 : rm_at tX12_digits 0 = some bX12_digits_0 := rfl
theorem atX12_digits_18 : rm_at tX12_digits 18 = some bX12_digits_18 := rfl
theorem atX12_digits_25 : rm_at tX12_digits 25 = some bX12_digits_25 := rfl
theorem atX12_digits_57 : rm_at tX12_digits 57 = some bX12_digits_57 := rfl
theorem atX12_digits_58 : rm_at tX12_digits 58 = some bX12_digits_58 := rfl
theorem atX12_digits_72 : rm_at tX12_digits 72 = some bX12_digits_72 := rfl
theorem atX12_digits_87 : rm_at tX12_digits 87 = some bX12_digits_87 := rfl
theorem atX12_digits_93 : rm_at tX12_digits 93 = some bX12_digits_93 := rfl
def bX12_value_0 : List rm_J := [
  (.aload 0, .aload_n 0, 1, 0, 0, 0, .null, rm_M0, []),
  (.invokevirtual 182, .invokevirtual 182, 3, 0, 0, 0, .null, mX12_blanks, [(0, 1331), (0, 1333), (0, 38)]),
  (.aload 0, .aload_n 0, 1, 0, 0, 0, .null, rm_M0, []),
  (.getfield 162, .getfield 162, 3, 12, 19, 1158, .null, rm_M0, []),
  (.istore 1, .istore_n 1, 1, 0, 0, 0, .null, rm_M0, []),
  (.aload 0, .aload_n 0, 1, 0, 0, 0, .null, rm_M0, []),
  (.invokevirtual 202, .invokevirtual 202, 3, 0, 0, 0, .null, mX12_isDigit, [(0, 1373), (0, 1375), (0, 46)]),
  (.ifCond .eq 22, .ifCond .eq 22, 3, 35, 0, 0, .null, rm_M0, []),
  (.aload 0, .aload_n 0, 1, 0, 0, 0, .null, rm_M0, []),
  (.nop, .ldc 206, 2, 0, 0, 1368, .int 99999, rm_M0, []),
  (.invokevirtual 207, .invokevirtual 207, 3, 0, 1, 0, .null, mX12_digits, [(0, 1369), (0, 1371), (0, 45)]),
  (.istore 2, .istore_n 2, 1, 0, 0, 0, .null, rm_M0, []),
  (.aload 0, .aload_n 0, 1, 0, 0, 0, .null, rm_M0, []),
  (.iload 1, .iload_n 1, 1, 0, 0, 0, .null, rm_M0, []),
  (.invokevirtual 211, .invokevirtual 211, 3, 0, 1, 0, .null, mX12_isCounted, [(0, 1418), (0, 1420), (0, 54)]),
  (.aload 0, .aload_n 0, 1, 0, 0, 0, .null, rm_M0, []),
  (.nop, .iconst 0, 1, 0, 0, 0, .int 0, rm_M0, []),
  (.iload 2, .iload_n 2, 1, 0, 0, 0, .null, rm_M0, []),
  (.invokevirtual 214, .invokevirtual 214, 3, 0, 2, 0, .null, mX12_entry, [(0, 1422), (0, 1424), (0, 55)]),
  (.return_, .return_, 1, 0, 0, 0, .null, rm_M0, [])]
def bX12_value_35 : List rm_J := [
  (.nop, .iconst 0, 1, 0, 0, 0, .int 0, rm_M0, []),
  (.istore 2, .istore_n 2, 1, 0, 0, 0, .null, rm_M0, [])]
def bX12_value_37 : List rm_J := [
  (.iload 2, .iload_n 2, 1, 0, 0, 0, .null, rm_M0, []),
  (.aload 0, .aload_n 0, 1, 0, 0, 0, .null, rm_M0, []),
  (.getfield 61, .getfield 61, 3, 12, 27, 1166, .null, rm_M0, []),
  (.if_icmp .ge 20, .if_icmp .ge 20, 3, 62, 0, 0, .null, rm_M0, []),
  (.aload 0, .aload_n 0, 1, 0, 0, 0, .null, rm_M0, []),
  (.iload 2, .iload_n 2, 1, 0, 0, 0, .null, rm_M0, []),
  (.invokestatic 217, .invokestatic 217, 3, 0, 1, 0, .null, mX12_wordOf, [(0, 1426), (0, 1427)]),
  (.invokevirtual 185, .invokevirtual 185, 3, 0, 1, 0, .null, mX12_stood, [(0, 1346), (0, 1348), (0, 40)]),
  (.ifCond .ne 9, .ifCond .ne 9, 3, 62, 0, 0, .null, rm_M0, []),
  (.iinc 2 1, .iinc 2 1, 3, 0, 0, 0, .int 1, rm_M0, []),
  (.goto (-22), .goto (-22), 3, 37, 0, 0, .null, rm_M0, [])]
def bX12_value_62 : List rm_J := [
  (.iload 2, .iload_n 2, 1, 0, 0, 0, .null, rm_M0, []),
  (.aload 0, .aload_n 0, 1, 0, 0, 0, .null, rm_M0, []),
  (.getfield 61, .getfield 61, 3, 12, 27, 1166, .null, rm_M0, []),
  (.if_icmp .ne 10, .if_icmp .ne 10, 3, 77, 0, 0, .null, rm_M0, []),
  (.aload 0, .aload_n 0, 1, 0, 0, 0, .null, rm_M0, []),
  (.nop, .iconst 0, 1, 0, 0, 0, .int 0, rm_M0, []),
  (.iload 1, .iload_n 1, 1, 0, 0, 0, .null, rm_M0, []),
  (.invokevirtual 198, .invokevirtual 198, 3, 0, 2, 0, .null, mX12_fails, [(0, 1352), (0, 1354), (0, 41)]),
  (.return_, .return_, 1, 0, 0, 0, .null, rm_M0, [])]
def bX12_value_77 : List rm_J := [
  (.aload 0, .aload_n 0, 1, 0, 0, 0, .null, rm_M0, []),
  (.iload 1, .iload_n 1, 1, 0, 0, 0, .null, rm_M0, []),
  (.invokevirtual 211, .invokevirtual 211, 3, 0, 1, 0, .null, mX12_isCounted, [(0, 1418), (0, 1420), (0, 54)]),
  (.aload 0, .aload_n 0, 1, 0, 0, 0, .null, rm_M0, []),
  (.dup, .dup, 1, 0, 0, 0, .null, rm_M0, []),
  (.getfield 162, .getfield 162, 3, 12, 19, 1158, .null, rm_M0, []),
  (.iload 2, .iload_n 2, 1, 0, 0, 0, .null, rm_M0, []),
  (.invokestatic 217, .invokestatic 217, 3, 0, 1, 0, .null, mX12_wordOf, [(0, 1426), (0, 1427)]),
  (.invokevirtual 173, .invokevirtual 173, 3, 0, 0, 0, .null, mJ0_length_8abf5, [(0, 1350), (0, 532), (0, 533)]),
  (.iadd, .iadd, 1, 0, 0, 0, .null, rm_M0, []),
  (.putfield 162, .putfield 162, 3, 12, 19, 1158, .int 0, rm_M0, []),
  (.aload 0, .aload_n 0, 1, 0, 0, 0, .null, rm_M0, []),
  (.nop, .iconst 1, 1, 0, 0, 0, .int 1, rm_M0, []),
  (.iload 2, .iload_n 2, 1, 0, 0, 0, .null, rm_M0, []),
  (.invokevirtual 214, .invokevirtual 214, 3, 0, 2, 0, .null, mX12_entry, [(0, 1422), (0, 1424), (0, 55)]),
  (.return_, .return_, 1, 0, 0, 0, .null, rm_M0, [])]
def tX12_value : rm_P := [(0, bX12_value_0), (35, bX12_value_35), (37, bX12_value_37), (62, bX12_value_62), (77, bX12_value_77)]
theorem ok_X12_value_t : rm_okP mX12_value tX12_value = true := by decide +kernel
theorem ok_X12_value : rm_okM mX12_value tX12_value := ⟨ok_X12_value_t, List.forall_mem_cons.mpr ⟨cw_X12_blanks, List.forall_mem_cons.mpr ⟨cw_X12_isDigit, List.forall_mem_cons.mpr ⟨cw_X12_digits, List.forall_mem_cons.mpr ⟨cw_X12_isCounted, List.forall_mem_cons.mpr ⟨cw_X12_entry, List.forall_mem_cons.mpr ⟨cw_X12_wordOf, List.forall_mem_cons.mpr ⟨cw_X12_stood, List.forall_mem_cons.mpr ⟨cw_X12_fails, List.forall_mem_cons.mpr ⟨cw_X12_isCounted, List.forall_mem_cons.mpr ⟨cw_X12_wordOf, List.forall_mem_cons.mpr ⟨cw_J0_length_8abf5, List.forall_mem_cons.mpr ⟨cw_X12_entry, fun _ h => absurd h List.not_mem_nil⟩⟩⟩⟩⟩⟩⟩⟩⟩⟩⟩⟩⟩
theorem atX12_value_0 : rm_at tX12_value 0 = some bX12_value_0 := rfl
theorem atX12_value_35 : rm_at tX12_value 35 = some bX12_value_35 := rfl
theorem atX12_value_37 : rm_at tX12_value 37 = some bX12_value_37 := rfl
theorem atX12_value_62 : rm_at tX12_value 62 = some bX12_value_62 := rfl
theorem atX12_value_77 : rm_at tX12_value 77 = some bX12_value_77 := rfl
def bX12_term_0 : List rm_J := [
  (.aload 0, .aload_n 0, 1, 0, 0, 0, .null, rm_M0, []),
  (.invokevirtual 221, .invokevirtual 221, 3, 0, 0, 0, .null, mX12_value, [(0, 1414), (0, 1416), (0, 53)]),
  (.aload 0, .aload_n 0, 1, 0, 0, 0, .null, rm_M0, []),
  (.invokevirtual 182, .invokevirtual 182, 3, 0, 0, 0, .null, mX12_blanks, [(0, 1331), (0, 1333), (0, 38)])]
def bX12_term_8 : List rm_J := [
  (.aload 0, .aload_n 0, 1, 0, 0, 0, .null, rm_M0, []),
  (.getfield 159, .getfield 159, 3, 12, 20, 1159, .null, rm_M0, []),
  (.ifCond .ne 88, .ifCond .ne 88, 3, 100, 0, 0, .null, rm_M0, []),
  (.aload 0, .aload_n 0, 1, 0, 0, 0, .null, rm_M0, []),
  (.invokevirtual 165, .invokevirtual 165, 3, 0, 0, 0, .null, mX12_sign, [(0, 1335), (0, 1337), (0, 39)]),
  (.nop, .bipush 42, 2, 0, 0, 0, .int 42, rm_M0, []),
  (.if_icmp .eq 21, .if_icmp .eq 21, 3, 42, 0, 0, .null, rm_M0, []),
  (.aload 0, .aload_n 0, 1, 0, 0, 0, .null, rm_M0, []),
  (.invokevirtual 165, .invokevirtual 165, 3, 0, 0, 0, .null, mX12_sign, [(0, 1335), (0, 1337), (0, 39)]),
  (.nop, .bipush 47, 2, 0, 0, 0, .int 47, rm_M0, []),
  (.if_icmp .eq 12, .if_icmp .eq 12, 3, 42, 0, 0, .null, rm_M0, []),
  (.aload 0, .aload_n 0, 1, 0, 0, 0, .null, rm_M0, []),
  (.invokevirtual 165, .invokevirtual 165, 3, 0, 0, 0, .null, mX12_sign, [(0, 1335), (0, 1337), (0, 39)]),
  (.nop, .bipush 37, 2, 0, 0, 0, .int 37, rm_M0, []),
  (.if_icmp .ne 61, .if_icmp .ne 61, 3, 100, 0, 0, .null, rm_M0, [])]
def bX12_term_42 : List rm_J := [
  (.aload 0, .aload_n 0, 1, 0, 0, 0, .null, rm_M0, []),
  (.invokevirtual 165, .invokevirtual 165, 3, 0, 0, 0, .null, mX12_sign, [(0, 1335), (0, 1337), (0, 39)]),
  (.nop, .bipush 42, 2, 0, 0, 0, .int 42, rm_M0, []),
  (.if_icmp .ne 8, .if_icmp .ne 8, 3, 56, 0, 0, .null, rm_M0, []),
  (.nop, .bipush 13, 2, 0, 0, 0, .int 13, rm_M0, []),
  (.goto 19, .goto 19, 3, 72, 0, 0, .null, rm_M0, [])]
def bX12_term_56 : List rm_J := [
  (.aload 0, .aload_n 0, 1, 0, 0, 0, .null, rm_M0, []),
  (.invokevirtual 165, .invokevirtual 165, 3, 0, 0, 0, .null, mX12_sign, [(0, 1335), (0, 1337), (0, 39)]),
  (.nop, .bipush 47, 2, 0, 0, 0, .int 47, rm_M0, []),
  (.if_icmp .ne 8, .if_icmp .ne 8, 3, 70, 0, 0, .null, rm_M0, []),
  (.nop, .bipush 14, 2, 0, 0, 0, .int 14, rm_M0, []),
  (.goto 5, .goto 5, 3, 72, 0, 0, .null, rm_M0, [])]
def bX12_term_70 : List rm_J := [
  (.nop, .bipush 15, 2, 0, 0, 0, .int 15, rm_M0, [])]
def bX12_term_72 : List rm_J := [
  (.istore 1, .istore_n 1, 1, 0, 0, 0, .null, rm_M0, []),
  (.aload 0, .aload_n 0, 1, 0, 0, 0, .null, rm_M0, []),
  (.dup, .dup, 1, 0, 0, 0, .null, rm_M0, []),
  (.getfield 162, .getfield 162, 3, 12, 19, 1158, .null, rm_M0, []),
  (.nop, .iconst 1, 1, 0, 0, 0, .int 1, rm_M0, []),
  (.iadd, .iadd, 1, 0, 0, 0, .null, rm_M0, []),
  (.putfield 162, .putfield 162, 3, 12, 19, 1158, .int 0, rm_M0, []),
  (.aload 0, .aload_n 0, 1, 0, 0, 0, .null, rm_M0, []),
  (.invokevirtual 221, .invokevirtual 221, 3, 0, 0, 0, .null, mX12_value, [(0, 1414), (0, 1416), (0, 53)]),
  (.aload 0, .aload_n 0, 1, 0, 0, 0, .null, rm_M0, []),
  (.iload 1, .iload_n 1, 1, 0, 0, 0, .null, rm_M0, []),
  (.nop, .iconst 0, 1, 0, 0, 0, .int 0, rm_M0, []),
  (.invokevirtual 214, .invokevirtual 214, 3, 0, 2, 0, .null, mX12_entry, [(0, 1422), (0, 1424), (0, 55)]),
  (.aload 0, .aload_n 0, 1, 0, 0, 0, .null, rm_M0, []),
  (.invokevirtual 182, .invokevirtual 182, 3, 0, 0, 0, .null, mX12_blanks, [(0, 1331), (0, 1333), (0, 38)]),
  (.goto (-89), .goto (-89), 3, 8, 0, 0, .null, rm_M0, [])]
def bX12_term_100 : List rm_J := [
  (.return_, .return_, 1, 0, 0, 0, .null, rm_M0, [])]
def tX12_term : rm_P := [(0, bX12_term_0), (8, bX12_term_8), (42, bX12_term_42), (56, bX12_term_56), (70, bX12_term_70), (72, bX12_term_72), (100, bX12_term_100)]
theorem ok_X12_term_t : rm_okP mX12_term tX12_term = true := by decide +kernel
theorem ok_X12_term : rm_okM mX12_term tX12_term := ⟨ok_X12_term_t, List.forall_mem_cons.mpr ⟨cw_X12_value, List.forall_mem_cons.mpr ⟨cw_X12_blanks, List.forall_mem_cons.mpr ⟨cw_X12_sign, List.forall_mem_cons.mpr ⟨cw_X12_sign, List.forall_mem_cons.mpr ⟨cw_X12_sign, List.forall_mem_cons.mpr ⟨cw_X12_sign, List.forall_mem_cons.mpr ⟨cw_X12_sign, List.forall_mem_cons.mpr ⟨cw_X12_value, List.forall_mem_cons.mpr ⟨cw_X12_entry, List.forall_mem_cons.mpr ⟨cw_X12_blanks, fun _ h => absurd h List.not_mem_nil⟩⟩⟩⟩⟩⟩⟩⟩⟩⟩⟩
theorem atX12_term_0 : rm_at tX12_term 0 = some bX12_term_0 := rfl
theorem atX12_term_8 : rm_at tX12_term 8 = some bX12_term_8 := rfl
theorem atX12_term_42 : rm_at tX12_term 42 = some bX12_term_42 := rfl
theorem atX12_term_56 : rm_at tX12_term 56 = some bX12_term_56 := rfl
theorem atX12_term_70 : rm_at tX12_term 70 = some bX12_term_70 := rfl
theorem atX12_term_72 : rm_at tX12_term 72 = some bX12_term_72 := rfl
theorem atX12_term_100 : rm_at tX12_term 100 = some bX12_term_100 := rfl
def bX12_sum_0 : List rm_J := [
  (.aload 0, .aload_n 0, 1, 0, 0, 0, .null, rm_M0, []),
  (.invokevirtual 224, .invokevirtual 224, 3, 0, 0, 0, .null, mX12_term, [(0, 1410), (0, 1412), (0, 52)])]
def bX12_sum_4 : List rm_J := [
  (.aload 0, .aload_n 0, 1, 0, 0, 0, .null, rm_M0, []),
  (.getfield 159, .getfield 159, 3, 12, 20, 1159, .null, rm_M0, []),
  (.ifCond .ne 59, .ifCond .ne 59, 3, 67, 0, 0, .null, rm_M0, []),
  (.aload 0, .aload_n 0, 1, 0, 0, 0, .null, rm_M0, []),
  (.invokevirtual 165, .invokevirtual 165, 3, 0, 0, 0, .null, mX12_sign, [(0, 1335), (0, 1337), (0, 39)]),
  (.nop, .bipush 43, 2, 0, 0, 0, .int 43, rm_M0, []),
  (.if_icmp .eq 12, .if_icmp .eq 12, 3, 29, 0, 0, .null, rm_M0, []),
  (.aload 0, .aload_n 0, 1, 0, 0, 0, .null, rm_M0, []),
  (.invokevirtual 165, .invokevirtual 165, 3, 0, 0, 0, .null, mX12_sign, [(0, 1335), (0, 1337), (0, 39)]),
  (.nop, .bipush 45, 2, 0, 0, 0, .int 45, rm_M0, []),
  (.if_icmp .ne 41, .if_icmp .ne 41, 3, 67, 0, 0, .null, rm_M0, [])]
def bX12_sum_29 : List rm_J := [
  (.aload 0, .aload_n 0, 1, 0, 0, 0, .null, rm_M0, []),
  (.invokevirtual 165, .invokevirtual 165, 3, 0, 0, 0, .null, mX12_sign, [(0, 1335), (0, 1337), (0, 39)]),
  (.nop, .bipush 43, 2, 0, 0, 0, .int 43, rm_M0, []),
  (.if_icmp .ne 7, .if_icmp .ne 7, 3, 42, 0, 0, .null, rm_M0, []),
  (.nop, .iconst 2, 1, 0, 0, 0, .int 2, rm_M0, []),
  (.goto 4, .goto 4, 3, 43, 0, 0, .null, rm_M0, [])]
def bX12_sum_42 : List rm_J := [
  (.nop, .iconst 3, 1, 0, 0, 0, .int 3, rm_M0, [])]
def bX12_sum_43 : List rm_J := [
  (.istore 1, .istore_n 1, 1, 0, 0, 0, .null, rm_M0, []),
  (.aload 0, .aload_n 0, 1, 0, 0, 0, .null, rm_M0, []),
  (.dup, .dup, 1, 0, 0, 0, .null, rm_M0, []),
  (.getfield 162, .getfield 162, 3, 12, 19, 1158, .null, rm_M0, []),
  (.nop, .iconst 1, 1, 0, 0, 0, .int 1, rm_M0, []),
  (.iadd, .iadd, 1, 0, 0, 0, .null, rm_M0, []),
  (.putfield 162, .putfield 162, 3, 12, 19, 1158, .int 0, rm_M0, []),
  (.aload 0, .aload_n 0, 1, 0, 0, 0, .null, rm_M0, []),
  (.invokevirtual 224, .invokevirtual 224, 3, 0, 0, 0, .null, mX12_term, [(0, 1410), (0, 1412), (0, 52)]),
  (.aload 0, .aload_n 0, 1, 0, 0, 0, .null, rm_M0, []),
  (.iload 1, .iload_n 1, 1, 0, 0, 0, .null, rm_M0, []),
  (.nop, .iconst 0, 1, 0, 0, 0, .int 0, rm_M0, []),
  (.invokevirtual 214, .invokevirtual 214, 3, 0, 2, 0, .null, mX12_entry, [(0, 1422), (0, 1424), (0, 55)]),
  (.goto (-60), .goto (-60), 3, 4, 0, 0, .null, rm_M0, [])]
def bX12_sum_67 : List rm_J := [
  (.return_, .return_, 1, 0, 0, 0, .null, rm_M0, [])]
def tX12_sum : rm_P := [(0, bX12_sum_0), (4, bX12_sum_4), (29, bX12_sum_29), (42, bX12_sum_42), (43, bX12_sum_43), (67, bX12_sum_67)]
theorem ok_X12_sum_t : rm_okP mX12_sum tX12_sum = true := by decide +kernel
theorem ok_X12_sum : rm_okM mX12_sum tX12_sum := ⟨ok_X12_sum_t, List.forall_mem_cons.mpr ⟨cw_X12_term, List.forall_mem_cons.mpr ⟨cw_X12_sign, List.forall_mem_cons.mpr ⟨cw_X12_sign, List.forall_mem_cons.mpr ⟨cw_X12_sign, List.forall_mem_cons.mpr ⟨cw_X12_term, List.forall_mem_cons.mpr ⟨cw_X12_entry, fun _ h => absurd h List.not_mem_nil⟩⟩⟩⟩⟩⟩⟩
theorem atX12_sum_0 : rm_at tX12_sum 0 = some bX12_sum_0 := rfl
theorem atX12_sum_4 : rm_at tX12_sum 4 = some bX12_sum_4 := rfl
theorem atX12_sum_29 : rm_at tX12_sum 29 = some bX12_sum_29 := rfl
theorem atX12_sum_42 : rm_at tX12_sum 42 = some bX12_sum_42 := rfl
theorem atX12_sum_43 : rm_at tX12_sum 43 = some bX12_sum_43 := rfl
theorem atX12_sum_67 : rm_at tX12_sum 67 = some bX12_sum_67 := rfl
def bX12_compared_0 : List rm_J := [
  (.aload 0, .aload_n 0, 1, 0, 0, 0, .null, rm_M0, []),
  (.invokevirtual 227, .invokevirtual 227, 3, 0, 0, 0, .null, mX12_sum, [(0, 1406), (0, 1408), (0, 51)]),
  (.aload 0, .aload_n 0, 1, 0, 0, 0, .null, rm_M0, []),
  (.invokevirtual 165, .invokevirtual 165, 3, 0, 0, 0, .null, mX12_sign, [(0, 1335), (0, 1337), (0, 39)]),
  (.istore 1, .istore_n 1, 1, 0, 0, 0, .null, rm_M0, []),
  (.iload 1, .iload_n 1, 1, 0, 0, 0, .null, rm_M0, []),
  (.nop, .bipush 60, 2, 0, 0, 0, .int 60, rm_M0, []),
  (.if_icmp .eq 25, .if_icmp .eq 25, 3, 37, 0, 0, .null, rm_M0, []),
  (.iload 1, .iload_n 1, 1, 0, 0, 0, .null, rm_M0, []),
  (.nop, .bipush 61, 2, 0, 0, 0, .int 61, rm_M0, []),
  (.if_icmp .eq 19, .if_icmp .eq 19, 3, 37, 0, 0, .null, rm_M0, []),
  (.iload 1, .iload_n 1, 1, 0, 0, 0, .null, rm_M0, []),
  (.nop, .bipush 62, 2, 0, 0, 0, .int 62, rm_M0, []),
  (.if_icmp .eq 13, .if_icmp .eq 13, 3, 37, 0, 0, .null, rm_M0, []),
  (.aload 0, .aload_n 0, 1, 0, 0, 0, .null, rm_M0, []),
  (.nop, .iconst 0, 1, 0, 0, 0, .int 0, rm_M0, []),
  (.aload 0, .aload_n 0, 1, 0, 0, 0, .null, rm_M0, []),
  (.getfield 162, .getfield 162, 3, 12, 19, 1158, .null, rm_M0, []),
  (.invokevirtual 198, .invokevirtual 198, 3, 0, 2, 0, .null, mX12_fails, [(0, 1352), (0, 1354), (0, 41)]),
  (.return_, .return_, 1, 0, 0, 0, .null, rm_M0, [])]
def bX12_compared_37 : List rm_J := [
  (.aload 0, .aload_n 0, 1, 0, 0, 0, .null, rm_M0, []),
  (.aload 0, .aload_n 0, 1, 0, 0, 0, .null, rm_M0, []),
  (.getfield 162, .getfield 162, 3, 12, 19, 1158, .null, rm_M0, []),
  (.invokevirtual 211, .invokevirtual 211, 3, 0, 1, 0, .null, mX12_isCounted, [(0, 1418), (0, 1420), (0, 54)]),
  (.aload 0, .aload_n 0, 1, 0, 0, 0, .null, rm_M0, []),
  (.dup, .dup, 1, 0, 0, 0, .null, rm_M0, []),
  (.getfield 162, .getfield 162, 3, 12, 19, 1158, .null, rm_M0, []),
  (.nop, .iconst 1, 1, 0, 0, 0, .int 1, rm_M0, []),
  (.iadd, .iadd, 1, 0, 0, 0, .null, rm_M0, []),
  (.putfield 162, .putfield 162, 3, 12, 19, 1158, .int 0, rm_M0, []),
  (.iload 1, .iload_n 1, 1, 0, 0, 0, .null, rm_M0, []),
  (.nop, .bipush 61, 2, 0, 0, 0, .int 61, rm_M0, []),
  (.if_icmp .eq 16, .if_icmp .eq 16, 3, 74, 0, 0, .null, rm_M0, []),
  (.aload 0, .aload_n 0, 1, 0, 0, 0, .null, rm_M0, []),
  (.invokevirtual 165, .invokevirtual 165, 3, 0, 0, 0, .null, mX12_sign, [(0, 1335), (0, 1337), (0, 39)]),
  (.nop, .bipush 61, 2, 0, 0, 0, .int 61, rm_M0, []),
  (.if_icmp .ne 7, .if_icmp .ne 7, 3, 74, 0, 0, .null, rm_M0, []),
  (.nop, .iconst 1, 1, 0, 0, 0, .int 1, rm_M0, []),
  (.goto 4, .goto 4, 3, 75, 0, 0, .null, rm_M0, [])]
def bX12_compared_74 : List rm_J := [
  (.nop, .iconst 0, 1, 0, 0, 0, .int 0, rm_M0, [])]
def bX12_compared_75 : List rm_J := [
  (.istore 2, .istore_n 2, 1, 0, 0, 0, .null, rm_M0, []),
  (.aload 0, .aload_n 0, 1, 0, 0, 0, .null, rm_M0, []),
  (.dup, .dup, 1, 0, 0, 0, .null, rm_M0, []),
  (.getfield 162, .getfield 162, 3, 12, 19, 1158, .null, rm_M0, []),
  (.iload 2, .iload_n 2, 1, 0, 0, 0, .null, rm_M0, []),
  (.ifCond .eq 7, .ifCond .eq 7, 3, 89, 0, 0, .null, rm_M0, []),
  (.nop, .iconst 1, 1, 0, 0, 0, .int 1, rm_M0, []),
  (.goto 4, .goto 4, 3, 90, 0, 0, .null, rm_M0, [])]
def bX12_compared_89 : List rm_J := [
  (.nop, .iconst 0, 1, 0, 0, 0, .int 0, rm_M0, [])]
def bX12_compared_90 : List rm_J := [
  (.iadd, .iadd, 1, 0, 0, 0, .null, rm_M0, []),
  (.putfield 162, .putfield 162, 3, 12, 19, 1158, .int 0, rm_M0, []),
  (.aload 0, .aload_n 0, 1, 0, 0, 0, .null, rm_M0, []),
  (.invokevirtual 227, .invokevirtual 227, 3, 0, 0, 0, .null, mX12_sum, [(0, 1406), (0, 1408), (0, 51)]),
  (.aload 0, .aload_n 0, 1, 0, 0, 0, .null, rm_M0, []),
  (.iload 1, .iload_n 1, 1, 0, 0, 0, .null, rm_M0, []),
  (.nop, .bipush 61, 2, 0, 0, 0, .int 61, rm_M0, []),
  (.if_icmp .ne 8, .if_icmp .ne 8, 3, 110, 0, 0, .null, rm_M0, []),
  (.nop, .bipush 6, 2, 0, 0, 0, .int 6, rm_M0, []),
  (.goto 32, .goto 32, 3, 139, 0, 0, .null, rm_M0, [])]
def bX12_compared_110 : List rm_J := [
  (.iload 1, .iload_n 1, 1, 0, 0, 0, .null, rm_M0, []),
  (.nop, .bipush 60, 2, 0, 0, 0, .int 60, rm_M0, []),
  (.if_icmp .ne 15, .if_icmp .ne 15, 3, 128, 0, 0, .null, rm_M0, []),
  (.iload 2, .iload_n 2, 1, 0, 0, 0, .null, rm_M0, []),
  (.ifCond .eq 7, .ifCond .eq 7, 3, 124, 0, 0, .null, rm_M0, []),
  (.nop, .iconst 5, 1, 0, 0, 0, .int 5, rm_M0, []),
  (.goto 18, .goto 18, 3, 139, 0, 0, .null, rm_M0, [])]
def bX12_compared_124 : List rm_J := [
  (.nop, .iconst 4, 1, 0, 0, 0, .int 4, rm_M0, []),
  (.goto 14, .goto 14, 3, 139, 0, 0, .null, rm_M0, [])]
def bX12_compared_128 : List rm_J := [
  (.iload 2, .iload_n 2, 1, 0, 0, 0, .null, rm_M0, []),
  (.ifCond .eq 8, .ifCond .eq 8, 3, 137, 0, 0, .null, rm_M0, []),
  (.nop, .bipush 7, 2, 0, 0, 0, .int 7, rm_M0, []),
  (.goto 5, .goto 5, 3, 139, 0, 0, .null, rm_M0, [])]
def bX12_compared_137 : List rm_J := [
  (.nop, .bipush 8, 2, 0, 0, 0, .int 8, rm_M0, [])]
def bX12_compared_139 : List rm_J := [
  (.nop, .iconst 0, 1, 0, 0, 0, .int 0, rm_M0, []),
  (.invokevirtual 214, .invokevirtual 214, 3, 0, 2, 0, .null, mX12_entry, [(0, 1422), (0, 1424), (0, 55)]),
  (.return_, .return_, 1, 0, 0, 0, .null, rm_M0, [])]
def tX12_compared : rm_P := [(0, bX12_compared_0), (37, bX12_compared_37), (74, bX12_compared_74), (75, bX12_compared_75), (89, bX12_compared_89), (90, bX12_compared_90), (110, bX12_compared_110), (124, bX12_compared_124), (128, bX12_compared_128), (137, bX12_compared_137), (139, bX12_compared_139)]
theorem ok_X12_compared_t : rm_okP mX12_compared tX12_compared = true := by decide +kernel
theorem ok_X12_compared : rm_okM mX12_compared tX12_compared := ⟨ok_X12_compared_t, List.forall_mem_cons.mpr ⟨cw_X12_sum, List.forall_mem_cons.mpr ⟨cw_X12_sign, List.forall_mem_cons.mpr ⟨cw_X12_fails, List.forall_mem_cons.mpr ⟨cw_X12_isCounted, List.forall_mem_cons.mpr ⟨cw_X12_sign, List.forall_mem_cons.mpr ⟨cw_X12_sum, List.forall_mem_cons.mpr ⟨cw_X12_entry, fun _ h => absurd h List.not_mem_nil⟩⟩⟩⟩⟩⟩⟩⟩
theorem atX12_compared_0 : rm_at tX12_compared 0 = some bX12_compared_0 := rfl
theorem atX12_compared_37 : rm_at tX12_compared 37 = some bX12_compared_37 := rfl
theorem atX12_compared_74 : rm_at tX12_compared 74 = some bX12_compared_74 := rfl
theorem atX12_compared_75 : rm_at tX12_compared 75 = some bX12_compared_75 := rfl
theorem atX12_compared_89 : rm_at tX12_compared 89 = some bX12_compared_89 := rfl
theorem atX12_compared_90 : rm_at tX12_compared 90 = some bX12_compared_90 := rfl
theorem atX12_compared_110 : rm_at tX12_compared 110 = some bX12_compared_110 := rfl
theorem atX12_compared_124 : rm_at tX12_compared 124 = some bX12_compared_124 := rfl
theorem atX12_compared_128 : rm_at tX12_compared 128 = some bX12_compared_128 := rfl
theorem atX12_compared_137 : rm_at tX12_compared 137 = some bX12_compared_137 := rfl
theorem atX12_compared_139 : rm_at tX12_compared 139 = some bX12_compared_139 := rfl
def bX12_top_0 : List rm_J := [
  (.aload 0, .aload_n 0, 1, 0, 0, 0, .null, rm_M0, []),
  (.getfield 230, .getfield 230, 3, 12, 26, 1165, .null, rm_M0, []),
  (.ifCond .ne 7, .ifCond .ne 7, 3, 11, 0, 0, .null, rm_M0, []),
  (.nop, .iconst (-1), 1, 0, 0, 0, .int (-1), rm_M0, []),
  (.goto 14, .goto 14, 3, 22, 0, 0, .null, rm_M0, [])]
def bX12_top_11 : List rm_J := [
  (.aload 0, .aload_n 0, 1, 0, 0, 0, .null, rm_M0, []),
  (.getfield 87, .getfield 87, 3, 12, 35, 1174, .null, rm_M0, []),
  (.aload 0, .aload_n 0, 1, 0, 0, 0, .null, rm_M0, []),
  (.getfield 230, .getfield 230, 3, 12, 26, 1165, .null, rm_M0, []),
  (.nop, .iconst 1, 1, 0, 0, 0, .int 1, rm_M0, []),
  (.isub, .isub, 1, 0, 0, 0, .null, rm_M0, []),
  (.iaload, .iaload, 1, 0, 0, 0, .null, rm_M0, [])]
def bX12_top_22 : List rm_J := [
  (.ireturn, .ireturn, 1, 0, 0, 0, .null, rm_M0, [])]
def tX12_top : rm_P := [(0, bX12_top_0), (11, bX12_top_11), (22, bX12_top_22)]
theorem ok_X12_top_t : rm_okP mX12_top tX12_top = true := by decide +kernel
theorem ok_X12_top : rm_okM mX12_top tX12_top := ⟨ok_X12_top_t, fun _ h => absurd h List.not_mem_nil⟩
theorem atX12_top_0 : rm_at tX12_top 0 = some bX12_top_0 := rfl
theorem atX12_top_11 : rm_at tX12_top 11 = some bX12_top_11 := rfl
theorem atX12_top_22 : rm_at tX12_top 22 = some bX12_top_22 := rfl
def bX12_opens_0 : List rm_J := [
  (.iload 1, .iload_n 1, 1, 0, 0, 0, .null, rm_M0, []),
  (.nop, .bipush 9, 2, 0, 0, 0, .int 9, rm_M0, []),
  (.if_icmp .eq 9, .if_icmp .eq 9, 3, 12, 0, 0, .null, rm_M0, []),
  (.iload 1, .iload_n 1, 1, 0, 0, 0, .null, rm_M0, []),
  (.nop, .bipush 12, 2, 0, 0, 0, .int 12, rm_M0, []),
  (.if_icmp .ne 31, .if_icmp .ne 31, 3, 40, 0, 0, .null, rm_M0, [])]
def bX12_opens_12 : List rm_J := [
  (.aload 0, .aload_n 0, 1, 0, 0, 0, .null, rm_M0, []),
  (.getfield 233, .getfield 233, 3, 12, 24, 1163, .null, rm_M0, []),
  (.nop, .bipush 10, 2, 0, 0, 0, .int 10, rm_M0, []),
  (.if_icmp .ne 12, .if_icmp .ne 12, 3, 30, 0, 0, .null, rm_M0, []),
  (.aload 0, .aload_n 0, 1, 0, 0, 0, .null, rm_M0, []),
  (.nop, .iconst 2, 1, 0, 0, 0, .int 2, rm_M0, []),
  (.aload 0, .aload_n 0, 1, 0, 0, 0, .null, rm_M0, []),
  (.getfield 162, .getfield 162, 3, 12, 19, 1158, .null, rm_M0, []),
  (.invokevirtual 198, .invokevirtual 198, 3, 0, 2, 0, .null, mX12_fails, [(0, 1352), (0, 1354), (0, 41)])]
def bX12_opens_30 : List rm_J := [
  (.aload 0, .aload_n 0, 1, 0, 0, 0, .null, rm_M0, []),
  (.dup, .dup, 1, 0, 0, 0, .null, rm_M0, []),
  (.getfield 233, .getfield 233, 3, 12, 24, 1163, .null, rm_M0, []),
  (.nop, .iconst 1, 1, 0, 0, 0, .int 1, rm_M0, []),
  (.iadd, .iadd, 1, 0, 0, 0, .null, rm_M0, []),
  (.putfield 233, .putfield 233, 3, 12, 24, 1163, .int 0, rm_M0, [])]
def bX12_opens_40 : List rm_J := [
  (.aload 0, .aload_n 0, 1, 0, 0, 0, .null, rm_M0, []),
  (.getfield 87, .getfield 87, 3, 12, 35, 1174, .null, rm_M0, []),
  (.aload 0, .aload_n 0, 1, 0, 0, 0, .null, rm_M0, []),
  (.getfield 230, .getfield 230, 3, 12, 26, 1165, .null, rm_M0, []),
  (.iload 1, .iload_n 1, 1, 0, 0, 0, .null, rm_M0, []),
  (.iastore, .iastore, 1, 0, 0, 0, .null, rm_M0, []),
  (.aload 0, .aload_n 0, 1, 0, 0, 0, .null, rm_M0, []),
  (.dup, .dup, 1, 0, 0, 0, .null, rm_M0, []),
  (.getfield 230, .getfield 230, 3, 12, 26, 1165, .null, rm_M0, []),
  (.nop, .iconst 1, 1, 0, 0, 0, .int 1, rm_M0, []),
  (.iadd, .iadd, 1, 0, 0, 0, .null, rm_M0, []),
  (.putfield 230, .putfield 230, 3, 12, 26, 1165, .int 0, rm_M0, []),
  (.return_, .return_, 1, 0, 0, 0, .null, rm_M0, [])]
def tX12_opens : rm_P := [(0, bX12_opens_0), (12, bX12_opens_12), (30, bX12_opens_30), (40, bX12_opens_40)]
theorem ok_X12_opens_t : rm_okP mX12_opens tX12_opens = true := by decide +kernel
theorem ok_X12_opens : rm_okM mX12_opens tX12_opens := ⟨ok_X12_opens_t, List.forall_mem_cons.mpr ⟨cw_X12_fails, fun _ h => absurd h List.not_mem_nil⟩⟩
theorem atX12_opens_0 : rm_at tX12_opens 0 = some bX12_opens_0 := rfl
theorem atX12_opens_12 : rm_at tX12_opens 12 = some bX12_opens_12 := rfl
theorem atX12_opens_30 : rm_at tX12_opens 30 = some bX12_opens_30 := rfl
theorem atX12_opens_40 : rm_at tX12_opens 40 = some bX12_opens_40 := rfl
def bX12_answers_0 : List rm_J := [
  (.aload 0, .aload_n 0, 1, 0, 0, 0, .null, rm_M0, []),
  (.invokevirtual 236, .invokevirtual 236, 3, 0, 0, 0, .null, mX12_top, [(0, 1467), (0, 1469), (0, 62)]),
  (.iload 1, .iload_n 1, 1, 0, 0, 0, .null, rm_M0, []),
  (.if_icmp .ne 49, .if_icmp .ne 49, 3, 54, 0, 0, .null, rm_M0, []),
  (.aload 0, .aload_n 0, 1, 0, 0, 0, .null, rm_M0, []),
  (.getfield 159, .getfield 159, 3, 12, 20, 1159, .null, rm_M0, []),
  (.ifCond .ne 42, .ifCond .ne 42, 3, 54, 0, 0, .null, rm_M0, []),
  (.aload 0, .aload_n 0, 1, 0, 0, 0, .null, rm_M0, []),
  (.iload 1, .iload_n 1, 1, 0, 0, 0, .null, rm_M0, []),
  (.nop, .iconst 0, 1, 0, 0, 0, .int 0, rm_M0, []),
  (.invokevirtual 214, .invokevirtual 214, 3, 0, 2, 0, .null, mX12_entry, [(0, 1422), (0, 1424), (0, 55)]),
  (.aload 0, .aload_n 0, 1, 0, 0, 0, .null, rm_M0, []),
  (.dup, .dup, 1, 0, 0, 0, .null, rm_M0, []),
  (.getfield 230, .getfield 230, 3, 12, 26, 1165, .null, rm_M0, []),
  (.nop, .iconst 1, 1, 0, 0, 0, .int 1, rm_M0, []),
  (.isub, .isub, 1, 0, 0, 0, .null, rm_M0, []),
  (.putfield 230, .putfield 230, 3, 12, 26, 1165, .int 0, rm_M0, []),
  (.aload 0, .aload_n 0, 1, 0, 0, 0, .null, rm_M0, []),
  (.dup, .dup, 1, 0, 0, 0, .null, rm_M0, []),
  (.getfield 233, .getfield 233, 3, 12, 24, 1163, .null, rm_M0, []),
  (.iload 1, .iload_n 1, 1, 0, 0, 0, .null, rm_M0, []),
  (.nop, .bipush 9, 2, 0, 0, 0, .int 9, rm_M0, []),
  (.if_icmp .ne 7, .if_icmp .ne 7, 3, 46, 0, 0, .null, rm_M0, []),
  (.nop, .iconst 1, 1, 0, 0, 0, .int 1, rm_M0, []),
  (.goto 4, .goto 4, 3, 47, 0, 0, .null, rm_M0, [])]
def bX12_answers_46 : List rm_J := [
  (.nop, .iconst 0, 1, 0, 0, 0, .int 0, rm_M0, [])]
def bX12_answers_47 : List rm_J := [
  (.isub, .isub, 1, 0, 0, 0, .null, rm_M0, []),
  (.putfield 233, .putfield 233, 3, 12, 24, 1163, .int 0, rm_M0, []),
  (.goto (-51), .goto (-51), 3, 0, 0, 0, .null, rm_M0, [])]
def bX12_answers_54 : List rm_J := [
  (.return_, .return_, 1, 0, 0, 0, .null, rm_M0, [])]
def tX12_answers : rm_P := [(0, bX12_answers_0), (46, bX12_answers_46), (47, bX12_answers_47), (54, bX12_answers_54)]
theorem ok_X12_answers_t : rm_okP mX12_answers tX12_answers = true := by decide +kernel
theorem ok_X12_answers : rm_okM mX12_answers tX12_answers := ⟨ok_X12_answers_t, List.forall_mem_cons.mpr ⟨cw_X12_top, List.forall_mem_cons.mpr ⟨cw_X12_entry, fun _ h => absurd h List.not_mem_nil⟩⟩⟩
theorem atX12_answers_0 : rm_at tX12_answers 0 = some bX12_answers_0 := rfl
theorem atX12_answers_46 : rm_at tX12_answers 46 = some bX12_answers_46 := rfl
theorem atX12_answers_47 : rm_at tX12_answers 47 = some bX12_answers_47 := rfl
theorem atX12_answers_54 : rm_at tX12_answers 54 = some bX12_answers_54 := rfl
def bX12_fact_0 : List rm_J := [
  (.aload 0, .aload_n 0, 1, 0, 0, 0, .null, rm_M0, []),
  (.invokevirtual 182, .invokevirtual 182, 3, 0, 0, 0, .null, mX12_blanks, [(0, 1331), (0, 1333), (0, 38)]),
  (.aload 0, .aload_n 0, 1, 0, 0, 0, .null, rm_M0, []),
  (.nop, .ldc 239, 2, 0, 0, 0, .ref 1000000020, rm_M0, []),
  (.invokevirtual 185, .invokevirtual 185, 3, 0, 1, 0, .null, mX12_stood, [(0, 1346), (0, 1348), (0, 40)]),
  (.ifCond .eq 21, .ifCond .eq 21, 3, 31, 0, 0, .null, rm_M0, []),
  (.aload 0, .aload_n 0, 1, 0, 0, 0, .null, rm_M0, []),
  (.nop, .bipush 9, 2, 0, 0, 0, .int 9, rm_M0, []),
  (.invokevirtual 241, .invokevirtual 241, 3, 0, 1, 0, .null, mX12_opens, [(0, 1455), (0, 1457), (0, 59)]),
  (.aload 0, .aload_n 0, 1, 0, 0, 0, .null, rm_M0, []),
  (.dup, .dup, 1, 0, 0, 0, .null, rm_M0, []),
  (.getfield 162, .getfield 162, 3, 12, 19, 1158, .null, rm_M0, []),
  (.nop, .iconst 3, 1, 0, 0, 0, .int 3, rm_M0, []),
  (.iadd, .iadd, 1, 0, 0, 0, .null, rm_M0, []),
  (.putfield 162, .putfield 162, 3, 12, 19, 1158, .int 0, rm_M0, []),
  (.nop, .iconst 0, 1, 0, 0, 0, .int 0, rm_M0, []),
  (.ireturn, .ireturn, 1, 0, 0, 0, .null, rm_M0, [])]
def bX12_fact_31 : List rm_J := [
  (.aload 0, .aload_n 0, 1, 0, 0, 0, .null, rm_M0, []),
  (.invokevirtual 165, .invokevirtual 165, 3, 0, 0, 0, .null, mX12_sign, [(0, 1335), (0, 1337), (0, 39)]),
  (.nop, .bipush 91, 2, 0, 0, 0, .int 91, rm_M0, []),
  (.if_icmp .ne 21, .if_icmp .ne 21, 3, 58, 0, 0, .null, rm_M0, []),
  (.aload 0, .aload_n 0, 1, 0, 0, 0, .null, rm_M0, []),
  (.nop, .bipush 12, 2, 0, 0, 0, .int 12, rm_M0, []),
  (.invokevirtual 241, .invokevirtual 241, 3, 0, 1, 0, .null, mX12_opens, [(0, 1455), (0, 1457), (0, 59)]),
  (.aload 0, .aload_n 0, 1, 0, 0, 0, .null, rm_M0, []),
  (.dup, .dup, 1, 0, 0, 0, .null, rm_M0, []),
  (.getfield 162, .getfield 162, 3, 12, 19, 1158, .null, rm_M0, []),
  (.nop, .iconst 1, 1, 0, 0, 0, .int 1, rm_M0, []),
  (.iadd, .iadd, 1, 0, 0, 0, .null, rm_M0, []),
  (.putfield 162, .putfield 162, 3, 12, 19, 1158, .int 0, rm_M0, []),
  (.nop, .iconst 0, 1, 0, 0, 0, .int 0, rm_M0, []),
  (.ireturn, .ireturn, 1, 0, 0, 0, .null, rm_M0, [])]
def bX12_fact_58 : List rm_J := [
  (.aload 0, .aload_n 0, 1, 0, 0, 0, .null, rm_M0, []),
  (.invokevirtual 244, .invokevirtual 244, 3, 0, 0, 0, .null, mX12_compared, [(0, 1459), (0, 1461), (0, 60)]),
  (.nop, .iconst 1, 1, 0, 0, 0, .int 1, rm_M0, []),
  (.ireturn, .ireturn, 1, 0, 0, 0, .null, rm_M0, [])]
def tX12_fact : rm_P := [(0, bX12_fact_0), (31, bX12_fact_31), (58, bX12_fact_58)]
theorem ok_X12_fact_t : rm_okP mX12_fact tX12_fact = true := by decide +kernel
theorem ok_X12_fact : rm_okM mX12_fact tX12_fact := ⟨ok_X12_fact_t, List.forall_mem_cons.mpr ⟨cw_X12_blanks, List.forall_mem_cons.mpr ⟨cw_X12_stood, List.forall_mem_cons.mpr ⟨cw_X12_opens, List.forall_mem_cons.mpr ⟨cw_X12_sign, List.forall_mem_cons.mpr ⟨cw_X12_opens, List.forall_mem_cons.mpr ⟨cw_X12_compared, fun _ h => absurd h List.not_mem_nil⟩⟩⟩⟩⟩⟩⟩
theorem atX12_fact_0 : rm_at tX12_fact 0 = some bX12_fact_0 := rfl
theorem atX12_fact_31 : rm_at tX12_fact 31 = some bX12_fact_31 := rfl
theorem atX12_fact_58 : rm_at tX12_fact 58 = some bX12_fact_58 := rfl
def bX12_test_0 : List rm_J := [
  (.aload 0, .aload_n 0, 1, 0, 0, 0, .null, rm_M0, []),
  (.nop, .iconst 0, 1, 0, 0, 0, .int 0, rm_M0, []),
  (.putfield 230, .putfield 230, 3, 12, 26, 1165, .int 0, rm_M0, []),
  (.nop, .iconst 1, 1, 0, 0, 0, .int 1, rm_M0, []),
  (.istore 1, .istore_n 1, 1, 0, 0, 0, .null, rm_M0, []),
  (.nop, .iconst 1, 1, 0, 0, 0, .int 1, rm_M0, []),
  (.istore 2, .istore_n 2, 1, 0, 0, 0, .null, rm_M0, [])]
def bX12_test_9 : List rm_J := [
  (.iload 2, .iload_n 2, 1, 0, 0, 0, .null, rm_M0, []),
  (.ifCond .eq 190, .ifCond .eq 190, 3, 200, 0, 0, .null, rm_M0, []),
  (.aload 0, .aload_n 0, 1, 0, 0, 0, .null, rm_M0, []),
  (.getfield 159, .getfield 159, 3, 12, 20, 1159, .null, rm_M0, []),
  (.ifCond .ne 183, .ifCond .ne 183, 3, 200, 0, 0, .null, rm_M0, []),
  (.iload 1, .iload_n 1, 1, 0, 0, 0, .null, rm_M0, []),
  (.ifCond .eq 19, .ifCond .eq 19, 3, 40, 0, 0, .null, rm_M0, []),
  (.aload 0, .aload_n 0, 1, 0, 0, 0, .null, rm_M0, []),
  (.invokevirtual 247, .invokevirtual 247, 3, 0, 0, 0, .null, mX12_fact, [(0, 1450), (0, 1452), (0, 58)]),
  (.ifCond .ne 7, .ifCond .ne 7, 3, 35, 0, 0, .null, rm_M0, []),
  (.nop, .iconst 1, 1, 0, 0, 0, .int 1, rm_M0, []),
  (.goto 4, .goto 4, 3, 36, 0, 0, .null, rm_M0, [])]
def bX12_test_35 : List rm_J := [
  (.nop, .iconst 0, 1, 0, 0, 0, .int 0, rm_M0, [])]
def bX12_test_36 : List rm_J := [
  (.istore 1, .istore_n 1, 1, 0, 0, 0, .null, rm_M0, []),
  (.goto (-28), .goto (-28), 3, 9, 0, 0, .null, rm_M0, [])]
def bX12_test_40 : List rm_J := [
  (.aload 0, .aload_n 0, 1, 0, 0, 0, .null, rm_M0, []),
  (.nop, .bipush 9, 2, 0, 0, 0, .int 9, rm_M0, []),
  (.invokevirtual 250, .invokevirtual 250, 3, 0, 1, 0, .null, mX12_answers, [(0, 1463), (0, 1465), (0, 61)]),
  (.aload 0, .aload_n 0, 1, 0, 0, 0, .null, rm_M0, []),
  (.invokevirtual 182, .invokevirtual 182, 3, 0, 0, 0, .null, mX12_blanks, [(0, 1331), (0, 1333), (0, 38)]),
  (.aload 0, .aload_n 0, 1, 0, 0, 0, .null, rm_M0, []),
  (.nop, .ldc 253, 2, 0, 0, 0, .ref 1000000021, rm_M0, []),
  (.invokevirtual 185, .invokevirtual 185, 3, 0, 1, 0, .null, mX12_stood, [(0, 1346), (0, 1348), (0, 40)]),
  (.istore 3, .istore_n 3, 1, 0, 0, 0, .null, rm_M0, []),
  (.aload 0, .aload_n 0, 1, 0, 0, 0, .null, rm_M0, []),
  (.nop, .ldc 255, 2, 0, 0, 0, .ref 1000000022, rm_M0, []),
  (.invokevirtual 185, .invokevirtual 185, 3, 0, 1, 0, .null, mX12_stood, [(0, 1346), (0, 1348), (0, 40)]),
  (.istore 4, .istore 4, 2, 0, 0, 0, .null, rm_M0, []),
  (.aload 0, .aload_n 0, 1, 0, 0, 0, .null, rm_M0, []),
  (.nop, .bipush 10, 2, 0, 0, 0, .int 10, rm_M0, []),
  (.invokevirtual 250, .invokevirtual 250, 3, 0, 1, 0, .null, mX12_answers, [(0, 1463), (0, 1465), (0, 61)]),
  (.iload 3, .iload_n 3, 1, 0, 0, 0, .null, rm_M0, []),
  (.ifCond .ne 8, .ifCond .ne 8, 3, 80, 0, 0, .null, rm_M0, []),
  (.iload 4, .iload 4, 2, 0, 0, 0, .null, rm_M0, []),
  (.ifCond .eq 52, .ifCond .eq 52, 3, 129, 0, 0, .null, rm_M0, [])]
def bX12_test_80 : List rm_J := [
  (.iload 4, .iload 4, 2, 0, 0, 0, .null, rm_M0, []),
  (.ifCond .eq 9, .ifCond .eq 9, 3, 91, 0, 0, .null, rm_M0, []),
  (.aload 0, .aload_n 0, 1, 0, 0, 0, .null, rm_M0, []),
  (.nop, .bipush 11, 2, 0, 0, 0, .int 11, rm_M0, []),
  (.invokevirtual 250, .invokevirtual 250, 3, 0, 1, 0, .null, mX12_answers, [(0, 1463), (0, 1465), (0, 61)])]
def bX12_test_91 : List rm_J := [
  (.aload 0, .aload_n 0, 1, 0, 0, 0, .null, rm_M0, []),
  (.iload 3, .iload_n 3, 1, 0, 0, 0, .null, rm_M0, []),
  (.ifCond .eq 8, .ifCond .eq 8, 3, 101, 0, 0, .null, rm_M0, []),
  (.nop, .bipush 10, 2, 0, 0, 0, .int 10, rm_M0, []),
  (.goto 5, .goto 5, 3, 103, 0, 0, .null, rm_M0, [])]
def bX12_test_101 : List rm_J := [
  (.nop, .bipush 11, 2, 0, 0, 0, .int 11, rm_M0, [])]
def bX12_test_103 : List rm_J := [
  (.invokevirtual 241, .invokevirtual 241, 3, 0, 1, 0, .null, mX12_opens, [(0, 1455), (0, 1457), (0, 59)]),
  (.aload 0, .aload_n 0, 1, 0, 0, 0, .null, rm_M0, []),
  (.dup, .dup, 1, 0, 0, 0, .null, rm_M0, []),
  (.getfield 162, .getfield 162, 3, 12, 19, 1158, .null, rm_M0, []),
  (.iload 3, .iload_n 3, 1, 0, 0, 0, .null, rm_M0, []),
  (.ifCond .eq 7, .ifCond .eq 7, 3, 119, 0, 0, .null, rm_M0, []),
  (.nop, .iconst 3, 1, 0, 0, 0, .int 3, rm_M0, []),
  (.goto 4, .goto 4, 3, 120, 0, 0, .null, rm_M0, [])]
def bX12_test_119 : List rm_J := [
  (.nop, .iconst 2, 1, 0, 0, 0, .int 2, rm_M0, [])]
def bX12_test_120 : List rm_J := [
  (.iadd, .iadd, 1, 0, 0, 0, .null, rm_M0, []),
  (.putfield 162, .putfield 162, 3, 12, 19, 1158, .int 0, rm_M0, []),
  (.nop, .iconst 1, 1, 0, 0, 0, .int 1, rm_M0, []),
  (.istore 1, .istore_n 1, 1, 0, 0, 0, .null, rm_M0, []),
  (.goto 71, .goto 71, 3, 197, 0, 0, .null, rm_M0, [])]
def bX12_test_129 : List rm_J := [
  (.aload 0, .aload_n 0, 1, 0, 0, 0, .null, rm_M0, []),
  (.nop, .bipush 11, 2, 0, 0, 0, .int 11, rm_M0, []),
  (.invokevirtual 250, .invokevirtual 250, 3, 0, 1, 0, .null, mX12_answers, [(0, 1463), (0, 1465), (0, 61)]),
  (.aload 0, .aload_n 0, 1, 0, 0, 0, .null, rm_M0, []),
  (.invokevirtual 236, .invokevirtual 236, 3, 0, 0, 0, .null, mX12_top, [(0, 1467), (0, 1469), (0, 62)]),
  (.nop, .bipush 12, 2, 0, 0, 0, .int 12, rm_M0, []),
  (.if_icmp .ne 54, .if_icmp .ne 54, 3, 195, 0, 0, .null, rm_M0, []),
  (.aload 0, .aload_n 0, 1, 0, 0, 0, .null, rm_M0, []),
  (.invokevirtual 165, .invokevirtual 165, 3, 0, 0, 0, .null, mX12_sign, [(0, 1335), (0, 1337), (0, 39)]),
  (.nop, .bipush 93, 2, 0, 0, 0, .int 93, rm_M0, []),
  (.if_icmp .eq 12, .if_icmp .eq 12, 3, 162, 0, 0, .null, rm_M0, []),
  (.aload 0, .aload_n 0, 1, 0, 0, 0, .null, rm_M0, []),
  (.nop, .iconst 0, 1, 0, 0, 0, .int 0, rm_M0, []),
  (.aload 0, .aload_n 0, 1, 0, 0, 0, .null, rm_M0, []),
  (.getfield 162, .getfield 162, 3, 12, 19, 1158, .null, rm_M0, []),
  (.invokevirtual 198, .invokevirtual 198, 3, 0, 2, 0, .null, mX12_fails, [(0, 1352), (0, 1354), (0, 41)])]
def bX12_test_162 : List rm_J := [
  (.aload 0, .aload_n 0, 1, 0, 0, 0, .null, rm_M0, []),
  (.dup, .dup, 1, 0, 0, 0, .null, rm_M0, []),
  (.getfield 162, .getfield 162, 3, 12, 19, 1158, .null, rm_M0, []),
  (.nop, .iconst 1, 1, 0, 0, 0, .int 1, rm_M0, []),
  (.iadd, .iadd, 1, 0, 0, 0, .null, rm_M0, []),
  (.putfield 162, .putfield 162, 3, 12, 19, 1158, .int 0, rm_M0, []),
  (.aload 0, .aload_n 0, 1, 0, 0, 0, .null, rm_M0, []),
  (.dup, .dup, 1, 0, 0, 0, .null, rm_M0, []),
  (.getfield 230, .getfield 230, 3, 12, 26, 1165, .null, rm_M0, []),
  (.nop, .iconst 1, 1, 0, 0, 0, .int 1, rm_M0, []),
  (.isub, .isub, 1, 0, 0, 0, .null, rm_M0, []),
  (.putfield 230, .putfield 230, 3, 12, 26, 1165, .int 0, rm_M0, []),
  (.aload 0, .aload_n 0, 1, 0, 0, 0, .null, rm_M0, []),
  (.dup, .dup, 1, 0, 0, 0, .null, rm_M0, []),
  (.getfield 233, .getfield 233, 3, 12, 24, 1163, .null, rm_M0, []),
  (.nop, .iconst 1, 1, 0, 0, 0, .int 1, rm_M0, []),
  (.isub, .isub, 1, 0, 0, 0, .null, rm_M0, []),
  (.putfield 233, .putfield 233, 3, 12, 24, 1163, .int 0, rm_M0, []),
  (.goto 5, .goto 5, 3, 197, 0, 0, .null, rm_M0, [])]
def bX12_test_195 : List rm_J := [
  (.nop, .iconst 0, 1, 0, 0, 0, .int 0, rm_M0, []),
  (.istore 2, .istore_n 2, 1, 0, 0, 0, .null, rm_M0, [])]
def bX12_test_197 : List rm_J := [
  (.goto (-188), .goto (-188), 3, 9, 0, 0, .null, rm_M0, [])]
def bX12_test_200 : List rm_J := [
  (.return_, .return_, 1, 0, 0, 0, .null, rm_M0, [])]
def tX12_test : rm_P := [(0, bX12_test_0), (9, bX12_test_9), (35, bX12_test_35), (36, bX12_test_36), (40, bX12_test_40), (80, bX12_test_80), (91, bX12_test_91), (101, bX12_test_101), (103, bX12_test_103), (119, bX12_test_119), (120, bX12_test_120), (129, bX12_test_129), (162, bX12_test_162), (195, bX12_test_195), (197, bX12_test_197), (200, bX12_test_200)]
theorem ok_X12_test_t : rm_okP mX12_test tX12_test = true := by decide +kernel
theorem ok_X12_test : rm_okM mX12_test tX12_test := ⟨ok_X12_test_t, List.forall_mem_cons.mpr ⟨cw_X12_fact, List.forall_mem_cons.mpr ⟨cw_X12_answers, List.forall_mem_cons.mpr ⟨cw_X12_blanks, List.forall_mem_cons.mpr ⟨cw_X12_stood, List.forall_mem_cons.mpr ⟨cw_X12_stood, List.forall_mem_cons.mpr ⟨cw_X12_answers, List.forall_mem_cons.mpr ⟨cw_X12_answers, List.forall_mem_cons.mpr ⟨cw_X12_opens, List.forall_mem_cons.mpr ⟨cw_X12_answers, List.forall_mem_cons.mpr ⟨cw_X12_top, List.forall_mem_cons.mpr ⟨cw_X12_sign, List.forall_mem_cons.mpr ⟨cw_X12_fails, fun _ h => absurd h List.not_mem_nil⟩⟩⟩⟩⟩⟩⟩⟩⟩⟩⟩⟩⟩
theorem atX12_test_0 : rm_at tX12_test 0 = some bX12_test_0 := rfl
theorem atX12_test_9 : rm_at tX12_test 9 = some bX12_test_9 := rfl
theorem atX12_test_35 : rm_at tX12_test 35 = some bX12_test_35 := rfl
theorem atX12_test_36 : rm_at tX12_test 36 = some bX12_test_36 := rfl
theorem atX12_test_40 : rm_at tX12_test 40 = some bX12_test_40 := rfl
theorem atX12_test_80 : rm_at tX12_test 80 = some bX12_test_80 := rfl
theorem atX12_test_91 : rm_at tX12_test 91 = some bX12_test_91 := rfl
theorem atX12_test_101 : rm_at tX12_test 101 = some bX12_test_101 := rfl
theorem atX12_test_103 : rm_at tX12_test 103 = some bX12_test_103 := rfl
theorem atX12_test_119 : rm_at tX12_test 119 = some bX12_test_119 := rfl
theorem atX12_test_120 : rm_at tX12_test 120 = some bX12_test_120 := rfl
theorem atX12_test_129 : rm_at tX12_test 129 = some bX12_test_129 := rfl
theorem atX12_test_162 : rm_at tX12_test 162 = some bX12_test_162 := rfl
theorem atX12_test_195 : rm_at tX12_test 195 = some bX12_test_195 := rfl
theorem atX12_test_197 : rm_at tX12_test 197 = some bX12_test_197 := rfl
theorem atX12_test_200 : rm_at tX12_test 200 = some bX12_test_200 := rfl
def bX12_amount_0 : List rm_J := [
  (.aload 0, .aload_n 0, 1, 0, 0, 0, .null, rm_M0, []),
  (.invokevirtual 182, .invokevirtual 182, 3, 0, 0, 0, .null, mX12_blanks, [(0, 1331), (0, 1333), (0, 38)]),
  (.aload 0, .aload_n 0, 1, 0, 0, 0, .null, rm_M0, []),
  (.getfield 162, .getfield 162, 3, 12, 19, 1158, .null, rm_M0, []),
  (.istore 3, .istore_n 3, 1, 0, 0, 0, .null, rm_M0, []),
  (.aload 0, .aload_n 0, 1, 0, 0, 0, .null, rm_M0, []),
  (.getfield 159, .getfield 159, 3, 12, 20, 1159, .null, rm_M0, []),
  (.ifCond .ne 12, .ifCond .ne 12, 3, 25, 0, 0, .null, rm_M0, []),
  (.aload 0, .aload_n 0, 1, 0, 0, 0, .null, rm_M0, []),
  (.nop, .ldc 206, 2, 0, 0, 1368, .int 99999, rm_M0, []),
  (.invokevirtual 207, .invokevirtual 207, 3, 0, 1, 0, .null, mX12_digits, [(0, 1369), (0, 1371), (0, 45)]),
  (.goto 4, .goto 4, 3, 26, 0, 0, .null, rm_M0, [])]
def bX12_amount_25 : List rm_J := [
  (.nop, .iconst 0, 1, 0, 0, 0, .int 0, rm_M0, [])]
def bX12_amount_26 : List rm_J := [
  (.istore 4, .istore 4, 2, 0, 0, 0, .null, rm_M0, []),
  (.aload 0, .aload_n 0, 1, 0, 0, 0, .null, rm_M0, []),
  (.getfield 159, .getfield 159, 3, 12, 20, 1159, .null, rm_M0, []),
  (.ifCond .ne 22, .ifCond .ne 22, 3, 54, 0, 0, .null, rm_M0, []),
  (.iload 4, .iload 4, 2, 0, 0, 0, .null, rm_M0, []),
  (.i2l, .i2l, 1, 0, 0, 0, .null, rm_M0, []),
  (.iload 1, .iload_n 1, 1, 0, 0, 0, .null, rm_M0, []),
  (.i2l, .i2l, 1, 0, 0, 0, .null, rm_M0, []),
  (.iload 2, .iload_n 2, 1, 0, 0, 0, .null, rm_M0, []),
  (.i2l, .i2l, 1, 0, 0, 0, .null, rm_M0, []),
  (.invokestatic 125, .invokestatic 125, 3, 0, 3, 0, .null, mX12_in, [(0, 1379), (0, 1380)]),
  (.ifCond .ne 9, .ifCond .ne 9, 3, 54, 0, 0, .null, rm_M0, []),
  (.aload 0, .aload_n 0, 1, 0, 0, 0, .null, rm_M0, []),
  (.nop, .iconst 1, 1, 0, 0, 0, .int 1, rm_M0, []),
  (.iload 3, .iload_n 3, 1, 0, 0, 0, .null, rm_M0, []),
  (.invokevirtual 198, .invokevirtual 198, 3, 0, 2, 0, .null, mX12_fails, [(0, 1352), (0, 1354), (0, 41)])]
def bX12_amount_54 : List rm_J := [
  (.iload 4, .iload 4, 2, 0, 0, 0, .null, rm_M0, []),
  (.ireturn, .ireturn, 1, 0, 0, 0, .null, rm_M0, [])]
def tX12_amount : rm_P := [(0, bX12_amount_0), (25, bX12_amount_25), (26, bX12_amount_26), (54, bX12_amount_54)]
theorem ok_X12_amount_t : rm_okP mX12_amount tX12_amount = true := by decide +kernel
theorem ok_X12_amount : rm_okM mX12_amount tX12_amount := ⟨ok_X12_amount_t, List.forall_mem_cons.mpr ⟨cw_X12_blanks, List.forall_mem_cons.mpr ⟨cw_X12_digits, List.forall_mem_cons.mpr ⟨cw_X12_in, List.forall_mem_cons.mpr ⟨cw_X12_fails, fun _ h => absurd h List.not_mem_nil⟩⟩⟩⟩⟩
theorem atX12_amount_0 : rm_at tX12_amount 0 = some bX12_amount_0 := rfl
theorem atX12_amount_25 : rm_at tX12_amount 25 = some bX12_amount_25 := rfl
theorem atX12_amount_26 : rm_at tX12_amount 26 = some bX12_amount_26 := rfl
theorem atX12_amount_54 : rm_at tX12_amount 54 = some bX12_amount_54 := rfl
def bX12_realmWord_0 : List rm_J := [
  (.iload 0, .iload_n 0, 1, 0, 0, 0, .null, rm_M0, []),
  (.tableswitch 38 0 2 #[27, 31, 34], .tableswitch 38 0 2 #[27, 31, 34], 27, 39, 0, 0, .null, rm_M0, [(0, 28), (1, 32), (2, 35)])]
def bX12_realmWord_28 : List rm_J := [
  (.nop, .ldc_w 257, 3, 0, 0, 0, .ref 1000000002, rm_M0, []),
  (.areturn, .areturn, 1, 0, 0, 0, .null, rm_M0, [])]
def bX12_realmWord_32 : List rm_J := [
  (.nop, .ldc 136, 2, 0, 0, 0, .ref 1000000003, rm_M0, []),
  (.areturn, .areturn, 1, 0, 0, 0, .null, rm_M0, [])]
def bX12_realmWord_35 : List rm_J := [
  (.nop, .ldc_w 259, 3, 0, 0, 0, .ref 1000000004, rm_M0, []),
  (.areturn, .areturn, 1, 0, 0, 0, .null, rm_M0, [])]
def bX12_realmWord_39 : List rm_J := [
  (.nop, .ldc_w 260, 3, 0, 0, 0, .ref 1000000005, rm_M0, []),
  (.areturn, .areturn, 1, 0, 0, 0, .null, rm_M0, [])]
def tX12_realmWord : rm_P := [(0, bX12_realmWord_0), (28, bX12_realmWord_28), (32, bX12_realmWord_32), (35, bX12_realmWord_35), (39, bX12_realmWord_39)]
theorem ok_X12_realmWord_t : rm_okP mX12_realmWord tX12_realmWord = true := by decide +kernel
theorem ok_X12_realmWord : rm_okM mX12_realmWord tX12_realmWord := ⟨ok_X12_realmWord_t, fun _ h => absurd h List.not_mem_nil⟩
theorem atX12_realmWord_0 : rm_at tX12_realmWord 0 = some bX12_realmWord_0 := rfl
theorem atX12_realmWord_28 : rm_at tX12_realmWord 28 = some bX12_realmWord_28 := rfl
theorem atX12_realmWord_32 : rm_at tX12_realmWord 32 = some bX12_realmWord_32 := rfl
theorem atX12_realmWord_35 : rm_at tX12_realmWord 35 = some bX12_realmWord_35 := rfl
theorem atX12_realmWord_39 : rm_at tX12_realmWord 39 = some bX12_realmWord_39 := rfl
def bX12_alikePart_0 : List rm_J := [
  (.aload 0, .aload_n 0, 1, 0, 0, 0, .null, rm_M0, []),
  (.nop, .iconst 0, 1, 0, 0, 0, .int 0, rm_M0, []),
  (.aload 0, .aload_n 0, 1, 0, 0, 0, .null, rm_M0, []),
  (.getfield 43, .getfield 43, 3, 12, 12, 1151, .null, rm_M0, []),
  (.nop, .iconst 3, 1, 0, 0, 0, .int 3, rm_M0, []),
  (.iaload, .iaload, 1, 0, 0, 0, .null, rm_M0, []),
  (.nop, .iconst 1, 1, 0, 0, 0, .int 1, rm_M0, []),
  (.isub, .isub, 1, 0, 0, 0, .null, rm_M0, []),
  (.invokevirtual 261, .invokevirtual 261, 3, 0, 2, 0, .null, mX12_amount, [(0, 1364), (0, 1366), (0, 44)]),
  (.istore 1, .istore_n 1, 1, 0, 0, 0, .null, rm_M0, []),
  (.aload 0, .aload_n 0, 1, 0, 0, 0, .null, rm_M0, []),
  (.invokevirtual 182, .invokevirtual 182, 3, 0, 0, 0, .null, mX12_blanks, [(0, 1331), (0, 1333), (0, 38)]),
  (.aload 0, .aload_n 0, 1, 0, 0, 0, .null, rm_M0, []),
  (.getfield 162, .getfield 162, 3, 12, 19, 1158, .null, rm_M0, []),
  (.istore 2, .istore_n 2, 1, 0, 0, 0, .null, rm_M0, []),
  (.aload 0, .aload_n 0, 1, 0, 0, 0, .null, rm_M0, []),
  (.nop, .iconst 0, 1, 0, 0, 0, .int 0, rm_M0, []),
  (.aload 0, .aload_n 0, 1, 0, 0, 0, .null, rm_M0, []),
  (.getfield 43, .getfield 43, 3, 12, 12, 1151, .null, rm_M0, []),
  (.nop, .iconst 3, 1, 0, 0, 0, .int 3, rm_M0, []),
  (.iaload, .iaload, 1, 0, 0, 0, .null, rm_M0, []),
  (.nop, .iconst 1, 1, 0, 0, 0, .int 1, rm_M0, []),
  (.isub, .isub, 1, 0, 0, 0, .null, rm_M0, []),
  (.invokevirtual 261, .invokevirtual 261, 3, 0, 2, 0, .null, mX12_amount, [(0, 1364), (0, 1366), (0, 44)]),
  (.istore 3, .istore_n 3, 1, 0, 0, 0, .null, rm_M0, []),
  (.aload 0, .aload_n 0, 1, 0, 0, 0, .null, rm_M0, []),
  (.getfield 159, .getfield 159, 3, 12, 20, 1159, .null, rm_M0, []),
  (.ifCond .ne 14, .ifCond .ne 14, 3, 55, 0, 0, .null, rm_M0, []),
  (.iload 1, .iload_n 1, 1, 0, 0, 0, .null, rm_M0, []),
  (.iload 3, .iload_n 3, 1, 0, 0, 0, .null, rm_M0, []),
  (.if_icmp .ne 9, .if_icmp .ne 9, 3, 55, 0, 0, .null, rm_M0, []),
  (.aload 0, .aload_n 0, 1, 0, 0, 0, .null, rm_M0, []),
  (.nop, .iconst 1, 1, 0, 0, 0, .int 1, rm_M0, []),
  (.iload 2, .iload_n 2, 1, 0, 0, 0, .null, rm_M0, []),
  (.invokevirtual 198, .invokevirtual 198, 3, 0, 2, 0, .null, mX12_fails, [(0, 1352), (0, 1354), (0, 41)])]
def bX12_alikePart_55 : List rm_J := [
  (.aload 0, .aload_n 0, 1, 0, 0, 0, .null, rm_M0, []),
  (.getfield 159, .getfield 159, 3, 12, 20, 1159, .null, rm_M0, []),
  (.ifCond .ne 27, .ifCond .ne 27, 3, 86, 0, 0, .null, rm_M0, []),
  (.aload 0, .aload_n 0, 1, 0, 0, 0, .null, rm_M0, []),
  (.getfield 49, .getfield 49, 3, 12, 14, 1153, .null, rm_M0, []),
  (.iload 1, .iload_n 1, 1, 0, 0, 0, .null, rm_M0, []),
  (.dup2, .dup2, 1, 0, 0, 0, .null, rm_M0, []),
  (.iaload, .iaload, 1, 0, 0, 0, .null, rm_M0, []),
  (.nop, .iconst 1, 1, 0, 0, 0, .int 1, rm_M0, []),
  (.iload 3, .iload_n 3, 1, 0, 0, 0, .null, rm_M0, []),
  (.ishl, .ishl, 1, 0, 0, 0, .null, rm_M0, []),
  (.ior, .ior, 1, 0, 0, 0, .null, rm_M0, []),
  (.iastore, .iastore, 1, 0, 0, 0, .null, rm_M0, []),
  (.aload 0, .aload_n 0, 1, 0, 0, 0, .null, rm_M0, []),
  (.getfield 49, .getfield 49, 3, 12, 14, 1153, .null, rm_M0, []),
  (.iload 3, .iload_n 3, 1, 0, 0, 0, .null, rm_M0, []),
  (.dup2, .dup2, 1, 0, 0, 0, .null, rm_M0, []),
  (.iaload, .iaload, 1, 0, 0, 0, .null, rm_M0, []),
  (.nop, .iconst 1, 1, 0, 0, 0, .int 1, rm_M0, []),
  (.iload 1, .iload_n 1, 1, 0, 0, 0, .null, rm_M0, []),
  (.ishl, .ishl, 1, 0, 0, 0, .null, rm_M0, []),
  (.ior, .ior, 1, 0, 0, 0, .null, rm_M0, []),
  (.iastore, .iastore, 1, 0, 0, 0, .null, rm_M0, [])]
def bX12_alikePart_86 : List rm_J := [
  (.return_, .return_, 1, 0, 0, 0, .null, rm_M0, [])]
def tX12_alikePart : rm_P := [(0, bX12_alikePart_0), (55, bX12_alikePart_55), (86, bX12_alikePart_86)]
theorem ok_X12_alikePart_t : rm_okP mX12_alikePart tX12_alikePart = true := by decide +kernel
theorem ok_X12_alikePart : rm_okM mX12_alikePart tX12_alikePart := ⟨ok_X12_alikePart_t, List.forall_mem_cons.mpr ⟨cw_X12_amount, List.forall_mem_cons.mpr ⟨cw_X12_blanks, List.forall_mem_cons.mpr ⟨cw_X12_amount, List.forall_mem_cons.mpr ⟨cw_X12_fails, fun _ h => absurd h List.not_mem_nil⟩⟩⟩⟩⟩
theorem atX12_alikePart_0 : rm_at tX12_alikePart 0 = some bX12_alikePart_0 := rfl
theorem atX12_alikePart_55 : rm_at tX12_alikePart 55 = some bX12_alikePart_55 := rfl
theorem atX12_alikePart_86 : rm_at tX12_alikePart 86 = some bX12_alikePart_86 := rfl
def bX12_realmPart_0 : List rm_J := [
  (.iload 1, .iload_n 1, 1, 0, 0, 0, .null, rm_M0, []),
  (.tableswitch 134 0 2 #[27, 63, 127], .tableswitch 134 0 2 #[27, 63, 127], 27, 135, 0, 0, .null, rm_M0, [(0, 28), (1, 64), (2, 128)])]
def bX12_realmPart_28 : List rm_J := [
  (.aload 0, .aload_n 0, 1, 0, 0, 0, .null, rm_M0, []),
  (.getfield 43, .getfield 43, 3, 12, 12, 1151, .null, rm_M0, []),
  (.nop, .iconst 1, 1, 0, 0, 0, .int 1, rm_M0, []),
  (.aload 0, .aload_n 0, 1, 0, 0, 0, .null, rm_M0, []),
  (.nop, .iconst 0, 1, 0, 0, 0, .int 0, rm_M0, []),
  (.nop, .bipush 9, 2, 0, 0, 0, .int 9, rm_M0, []),
  (.invokevirtual 261, .invokevirtual 261, 3, 0, 2, 0, .null, mX12_amount, [(0, 1364), (0, 1366), (0, 44)]),
  (.iastore, .iastore, 1, 0, 0, 0, .null, rm_M0, []),
  (.aload 0, .aload_n 0, 1, 0, 0, 0, .null, rm_M0, []),
  (.getfield 43, .getfield 43, 3, 12, 12, 1151, .null, rm_M0, []),
  (.nop, .iconst 2, 1, 0, 0, 0, .int 2, rm_M0, []),
  (.aload 0, .aload_n 0, 1, 0, 0, 0, .null, rm_M0, []),
  (.nop, .iconst 0, 1, 0, 0, 0, .int 0, rm_M0, []),
  (.nop, .bipush 9, 2, 0, 0, 0, .int 9, rm_M0, []),
  (.invokevirtual 261, .invokevirtual 261, 3, 0, 2, 0, .null, mX12_amount, [(0, 1364), (0, 1366), (0, 44)]),
  (.iastore, .iastore, 1, 0, 0, 0, .null, rm_M0, []),
  (.aload 0, .aload_n 0, 1, 0, 0, 0, .null, rm_M0, []),
  (.getfield 43, .getfield 43, 3, 12, 12, 1151, .null, rm_M0, []),
  (.nop, .iconst 0, 1, 0, 0, 0, .int 0, rm_M0, []),
  (.nop, .iconst 1, 1, 0, 0, 0, .int 1, rm_M0, []),
  (.iastore, .iastore, 1, 0, 0, 0, .null, rm_M0, []),
  (.goto 96, .goto 96, 3, 157, 0, 0, .null, rm_M0, [])]
def bX12_realmPart_64 : List rm_J := [
  (.aload 0, .aload_n 0, 1, 0, 0, 0, .null, rm_M0, []),
  (.getfield 43, .getfield 43, 3, 12, 12, 1151, .null, rm_M0, []),
  (.nop, .iconst 3, 1, 0, 0, 0, .int 3, rm_M0, []),
  (.iaload, .iaload, 1, 0, 0, 0, .null, rm_M0, []),
  (.istore 2, .istore_n 2, 1, 0, 0, 0, .null, rm_M0, []),
  (.aload 0, .aload_n 0, 1, 0, 0, 0, .null, rm_M0, []),
  (.getfield 46, .getfield 46, 3, 12, 13, 1152, .null, rm_M0, []),
  (.iload 2, .iload_n 2, 1, 0, 0, 0, .null, rm_M0, []),
  (.aload 0, .aload_n 0, 1, 0, 0, 0, .null, rm_M0, []),
  (.nop, .iconst 0, 1, 0, 0, 0, .int 0, rm_M0, []),
  (.nop, .bipush 99, 2, 0, 0, 0, .int 99, rm_M0, []),
  (.invokevirtual 261, .invokevirtual 261, 3, 0, 2, 0, .null, mX12_amount, [(0, 1364), (0, 1366), (0, 44)]),
  (.iastore, .iastore, 1, 0, 0, 0, .null, rm_M0, []),
  (.aload 0, .aload_n 0, 1, 0, 0, 0, .null, rm_M0, []),
  (.getfield 52, .getfield 52, 3, 12, 15, 1154, .null, rm_M0, []),
  (.iload 2, .iload_n 2, 1, 0, 0, 0, .null, rm_M0, []),
  (.aload 0, .aload_n 0, 1, 0, 0, 0, .null, rm_M0, []),
  (.nop, .iconst 0, 1, 0, 0, 0, .int 0, rm_M0, []),
  (.nop, .bipush 60, 2, 0, 0, 0, .int 60, rm_M0, []),
  (.invokevirtual 261, .invokevirtual 261, 3, 0, 2, 0, .null, mX12_amount, [(0, 1364), (0, 1366), (0, 44)]),
  (.iastore, .iastore, 1, 0, 0, 0, .null, rm_M0, []),
  (.aload 0, .aload_n 0, 1, 0, 0, 0, .null, rm_M0, []),
  (.getfield 55, .getfield 55, 3, 12, 16, 1155, .null, rm_M0, []),
  (.iload 2, .iload_n 2, 1, 0, 0, 0, .null, rm_M0, []),
  (.aload 0, .aload_n 0, 1, 0, 0, 0, .null, rm_M0, []),
  (.aload 0, .aload_n 0, 1, 0, 0, 0, .null, rm_M0, []),
  (.getfield 52, .getfield 52, 3, 12, 15, 1154, .null, rm_M0, []),
  (.iload 2, .iload_n 2, 1, 0, 0, 0, .null, rm_M0, []),
  (.iaload, .iaload, 1, 0, 0, 0, .null, rm_M0, []),
  (.nop, .bipush 60, 2, 0, 0, 0, .int 60, rm_M0, []),
  (.invokevirtual 261, .invokevirtual 261, 3, 0, 2, 0, .null, mX12_amount, [(0, 1364), (0, 1366), (0, 44)]),
  (.iastore, .iastore, 1, 0, 0, 0, .null, rm_M0, []),
  (.aload 0, .aload_n 0, 1, 0, 0, 0, .null, rm_M0, []),
  (.getfield 43, .getfield 43, 3, 12, 12, 1151, .null, rm_M0, []),
  (.nop, .iconst 3, 1, 0, 0, 0, .int 3, rm_M0, []),
  (.dup2, .dup2, 1, 0, 0, 0, .null, rm_M0, []),
  (.iaload, .iaload, 1, 0, 0, 0, .null, rm_M0, []),
  (.nop, .iconst 1, 1, 0, 0, 0, .int 1, rm_M0, []),
  (.iadd, .iadd, 1, 0, 0, 0, .null, rm_M0, []),
  (.iastore, .iastore, 1, 0, 0, 0, .null, rm_M0, []),
  (.goto 32, .goto 32, 3, 157, 0, 0, .null, rm_M0, [])]
def bX12_realmPart_128 : List rm_J := [
  (.aload 0, .aload_n 0, 1, 0, 0, 0, .null, rm_M0, []),
  (.invokevirtual 265, .invokevirtual 265, 3, 0, 0, 0, .null, mX12_alikePart, [(0, 1382), (0, 1384), (0, 47)]),
  (.goto 25, .goto 25, 3, 157, 0, 0, .null, rm_M0, [])]
def bX12_realmPart_135 : List rm_J := [
  (.aload 0, .aload_n 0, 1, 0, 0, 0, .null, rm_M0, []),
  (.nop, .iconst 0, 1, 0, 0, 0, .int 0, rm_M0, []),
  (.nop, .bipush 60, 2, 0, 0, 0, .int 60, rm_M0, []),
  (.invokevirtual 261, .invokevirtual 261, 3, 0, 2, 0, .null, mX12_amount, [(0, 1364), (0, 1366), (0, 44)]),
  (.istore 2, .istore_n 2, 1, 0, 0, 0, .null, rm_M0, []),
  (.aload 0, .aload_n 0, 1, 0, 0, 0, .null, rm_M0, []),
  (.getfield 159, .getfield 159, 3, 12, 20, 1159, .null, rm_M0, []),
  (.ifCond .ne 10, .ifCond .ne 10, 3, 157, 0, 0, .null, rm_M0, []),
  (.aload 0, .aload_n 0, 1, 0, 0, 0, .null, rm_M0, []),
  (.getfield 58, .getfield 58, 3, 12, 17, 1156, .null, rm_M0, []),
  (.iload 2, .iload_n 2, 1, 0, 0, 0, .null, rm_M0, []),
  (.nop, .iconst 1, 1, 0, 0, 0, .int 1, rm_M0, []),
  (.iastore, .iastore, 1, 0, 0, 0, .null, rm_M0, [])]
def bX12_realmPart_157 : List rm_J := [
  (.return_, .return_, 1, 0, 0, 0, .null, rm_M0, [])]
def tX12_realmPart : rm_P := [(0, bX12_realmPart_0), (28, bX12_realmPart_28), (64, bX12_realmPart_64), (128, bX12_realmPart_128), (135, bX12_realmPart_135), (157, bX12_realmPart_157)]
theorem ok_X12_realmPart_t : rm_okP mX12_realmPart tX12_realmPart = true := by decide +kernel
theorem ok_X12_realmPart : rm_okM mX12_realmPart tX12_realmPart := ⟨ok_X12_realmPart_t, List.forall_mem_cons.mpr ⟨cw_X12_amount, List.forall_mem_cons.mpr ⟨cw_X12_amount, List.forall_mem_cons.mpr ⟨cw_X12_amount, List.forall_mem_cons.mpr ⟨cw_X12_amount, List.forall_mem_cons.mpr ⟨cw_X12_amount, List.forall_mem_cons.mpr ⟨cw_X12_alikePart, List.forall_mem_cons.mpr ⟨cw_X12_amount, fun _ h => absurd h List.not_mem_nil⟩⟩⟩⟩⟩⟩⟩⟩
theorem atX12_realmPart_0 : rm_at tX12_realmPart 0 = some bX12_realmPart_0 := rfl
theorem atX12_realmPart_28 : rm_at tX12_realmPart 28 = some bX12_realmPart_28 := rfl
theorem atX12_realmPart_64 : rm_at tX12_realmPart 64 = some bX12_realmPart_64 := rfl
theorem atX12_realmPart_128 : rm_at tX12_realmPart 128 = some bX12_realmPart_128 := rfl
theorem atX12_realmPart_135 : rm_at tX12_realmPart 135 = some bX12_realmPart_135 := rfl
theorem atX12_realmPart_157 : rm_at tX12_realmPart 157 = some bX12_realmPart_157 := rfl
def bX12_isFull_0 : List rm_J := [
  (.iload 2, .iload_n 2, 1, 0, 0, 0, .null, rm_M0, []),
  (.nop, .bipush 40, 2, 0, 0, 0, .int 40, rm_M0, []),
  (.if_icmp .eq 40, .if_icmp .eq 40, 3, 43, 0, 0, .null, rm_M0, []),
  (.iload 1, .iload_n 1, 1, 0, 0, 0, .null, rm_M0, []),
  (.ifCond .ne 7, .ifCond .ne 7, 3, 14, 0, 0, .null, rm_M0, []),
  (.nop, .iconst 1, 1, 0, 0, 0, .int 1, rm_M0, []),
  (.goto 4, .goto 4, 3, 15, 0, 0, .null, rm_M0, [])]
def bX12_isFull_14 : List rm_J := [
  (.nop, .iconst 0, 1, 0, 0, 0, .int 0, rm_M0, [])]
def bX12_isFull_15 : List rm_J := [
  (.iload 2, .iload_n 2, 1, 0, 0, 0, .null, rm_M0, []),
  (.ifCond .ne 7, .ifCond .ne 7, 3, 23, 0, 0, .null, rm_M0, []),
  (.nop, .iconst 1, 1, 0, 0, 0, .int 1, rm_M0, []),
  (.goto 4, .goto 4, 3, 24, 0, 0, .null, rm_M0, [])]
def bX12_isFull_23 : List rm_J := [
  (.nop, .iconst 0, 1, 0, 0, 0, .int 0, rm_M0, [])]
def bX12_isFull_24 : List rm_J := [
  (.if_icmp .ne 19, .if_icmp .ne 19, 3, 43, 0, 0, .null, rm_M0, []),
  (.iload 1, .iload_n 1, 1, 0, 0, 0, .null, rm_M0, []),
  (.nop, .iconst 1, 1, 0, 0, 0, .int 1, rm_M0, []),
  (.if_icmp .ne 18, .if_icmp .ne 18, 3, 47, 0, 0, .null, rm_M0, []),
  (.aload 0, .aload_n 0, 1, 0, 0, 0, .null, rm_M0, []),
  (.getfield 43, .getfield 43, 3, 12, 12, 1151, .null, rm_M0, []),
  (.nop, .iconst 3, 1, 0, 0, 0, .int 3, rm_M0, []),
  (.iaload, .iaload, 1, 0, 0, 0, .null, rm_M0, []),
  (.nop, .bipush 8, 2, 0, 0, 0, .int 8, rm_M0, []),
  (.if_icmp .ne 7, .if_icmp .ne 7, 3, 47, 0, 0, .null, rm_M0, [])]
def bX12_isFull_43 : List rm_J := [
  (.nop, .iconst 1, 1, 0, 0, 0, .int 1, rm_M0, []),
  (.goto 4, .goto 4, 3, 48, 0, 0, .null, rm_M0, [])]
def bX12_isFull_47 : List rm_J := [
  (.nop, .iconst 0, 1, 0, 0, 0, .int 0, rm_M0, [])]
def bX12_isFull_48 : List rm_J := [
  (.ireturn, .ireturn, 1, 0, 0, 0, .null, rm_M0, [])]
def tX12_isFull : rm_P := [(0, bX12_isFull_0), (14, bX12_isFull_14), (15, bX12_isFull_15), (23, bX12_isFull_23), (24, bX12_isFull_24), (43, bX12_isFull_43), (47, bX12_isFull_47), (48, bX12_isFull_48)]
theorem ok_X12_isFull_t : rm_okP mX12_isFull tX12_isFull = true := by decide +kernel
theorem ok_X12_isFull : rm_okM mX12_isFull tX12_isFull := ⟨ok_X12_isFull_t, fun _ h => absurd h List.not_mem_nil⟩
theorem atX12_isFull_0 : rm_at tX12_isFull 0 = some bX12_isFull_0 := rfl
theorem atX12_isFull_14 : rm_at tX12_isFull 14 = some bX12_isFull_14 := rfl
theorem atX12_isFull_15 : rm_at tX12_isFull 15 = some bX12_isFull_15 := rfl
theorem atX12_isFull_23 : rm_at tX12_isFull 23 = some bX12_isFull_23 := rfl
theorem atX12_isFull_24 : rm_at tX12_isFull 24 = some bX12_isFull_24 := rfl
theorem atX12_isFull_43 : rm_at tX12_isFull 43 = some bX12_isFull_43 := rfl
theorem atX12_isFull_47 : rm_at tX12_isFull 47 = some bX12_isFull_47 := rfl
theorem atX12_isFull_48 : rm_at tX12_isFull 48 = some bX12_isFull_48 := rfl
def bX12_realmClause_0 : List rm_J := [
  (.aload 0, .aload_n 0, 1, 0, 0, 0, .null, rm_M0, []),
  (.invokevirtual 182, .invokevirtual 182, 3, 0, 0, 0, .null, mX12_blanks, [(0, 1331), (0, 1333), (0, 38)]),
  (.aload 0, .aload_n 0, 1, 0, 0, 0, .null, rm_M0, []),
  (.getfield 162, .getfield 162, 3, 12, 19, 1158, .null, rm_M0, []),
  (.istore 2, .istore_n 2, 1, 0, 0, 0, .null, rm_M0, []),
  (.nop, .iconst 0, 1, 0, 0, 0, .int 0, rm_M0, []),
  (.istore 3, .istore_n 3, 1, 0, 0, 0, .null, rm_M0, [])]
def bX12_realmClause_11 : List rm_J := [
  (.iload 3, .iload_n 3, 1, 0, 0, 0, .null, rm_M0, []),
  (.nop, .iconst 4, 1, 0, 0, 0, .int 4, rm_M0, []),
  (.if_icmp .ge 20, .if_icmp .ge 20, 3, 33, 0, 0, .null, rm_M0, []),
  (.aload 0, .aload_n 0, 1, 0, 0, 0, .null, rm_M0, []),
  (.iload 3, .iload_n 3, 1, 0, 0, 0, .null, rm_M0, []),
  (.invokestatic 268, .invokestatic 268, 3, 0, 1, 0, .null, mX12_realmWord, [(0, 1339), (0, 1340)]),
  (.invokevirtual 185, .invokevirtual 185, 3, 0, 1, 0, .null, mX12_stood, [(0, 1346), (0, 1348), (0, 40)]),
  (.ifCond .ne 9, .ifCond .ne 9, 3, 33, 0, 0, .null, rm_M0, []),
  (.iinc 3 1, .iinc 3 1, 3, 0, 0, 0, .int 1, rm_M0, []),
  (.goto (-19), .goto (-19), 3, 11, 0, 0, .null, rm_M0, [])]
def bX12_realmClause_33 : List rm_J := [
  (.iload 3, .iload_n 3, 1, 0, 0, 0, .null, rm_M0, []),
  (.nop, .iconst 4, 1, 0, 0, 0, .int 4, rm_M0, []),
  (.if_icmp .ne 10, .if_icmp .ne 10, 3, 45, 0, 0, .null, rm_M0, []),
  (.aload 0, .aload_n 0, 1, 0, 0, 0, .null, rm_M0, []),
  (.nop, .iconst 0, 1, 0, 0, 0, .int 0, rm_M0, []),
  (.iload 2, .iload_n 2, 1, 0, 0, 0, .null, rm_M0, []),
  (.invokevirtual 198, .invokevirtual 198, 3, 0, 2, 0, .null, mX12_fails, [(0, 1352), (0, 1354), (0, 41)]),
  (.return_, .return_, 1, 0, 0, 0, .null, rm_M0, [])]
def bX12_realmClause_45 : List rm_J := [
  (.aload 0, .aload_n 0, 1, 0, 0, 0, .null, rm_M0, []),
  (.iload 3, .iload_n 3, 1, 0, 0, 0, .null, rm_M0, []),
  (.iload 1, .iload_n 1, 1, 0, 0, 0, .null, rm_M0, []),
  (.invokevirtual 271, .invokevirtual 271, 3, 0, 2, 0, .null, mX12_isFull, [(0, 1356), (0, 1358), (0, 42)]),
  (.ifCond .eq 10, .ifCond .eq 10, 3, 61, 0, 0, .null, rm_M0, []),
  (.aload 0, .aload_n 0, 1, 0, 0, 0, .null, rm_M0, []),
  (.nop, .iconst 4, 1, 0, 0, 0, .int 4, rm_M0, []),
  (.iload 2, .iload_n 2, 1, 0, 0, 0, .null, rm_M0, []),
  (.invokevirtual 198, .invokevirtual 198, 3, 0, 2, 0, .null, mX12_fails, [(0, 1352), (0, 1354), (0, 41)]),
  (.return_, .return_, 1, 0, 0, 0, .null, rm_M0, [])]
def bX12_realmClause_61 : List rm_J := [
  (.aload 0, .aload_n 0, 1, 0, 0, 0, .null, rm_M0, []),
  (.dup, .dup, 1, 0, 0, 0, .null, rm_M0, []),
  (.getfield 162, .getfield 162, 3, 12, 19, 1158, .null, rm_M0, []),
  (.iload 3, .iload_n 3, 1, 0, 0, 0, .null, rm_M0, []),
  (.invokestatic 268, .invokestatic 268, 3, 0, 1, 0, .null, mX12_realmWord, [(0, 1339), (0, 1340)]),
  (.invokevirtual 173, .invokevirtual 173, 3, 0, 0, 0, .null, mJ0_length_8abf5, [(0, 1350), (0, 532), (0, 533)]),
  (.iadd, .iadd, 1, 0, 0, 0, .null, rm_M0, []),
  (.putfield 162, .putfield 162, 3, 12, 19, 1158, .int 0, rm_M0, []),
  (.aload 0, .aload_n 0, 1, 0, 0, 0, .null, rm_M0, []),
  (.iload 3, .iload_n 3, 1, 0, 0, 0, .null, rm_M0, []),
  (.invokevirtual 275, .invokevirtual 275, 3, 0, 1, 0, .null, mX12_realmPart, [(0, 1360), (0, 1362), (0, 43)]),
  (.return_, .return_, 1, 0, 0, 0, .null, rm_M0, [])]
def tX12_realmClause : rm_P := [(0, bX12_realmClause_0), (11, bX12_realmClause_11), (33, bX12_realmClause_33), (45, bX12_realmClause_45), (61, bX12_realmClause_61)]
theorem ok_X12_realmClause_t : rm_okP mX12_realmClause tX12_realmClause = true := by decide +kernel
theorem ok_X12_realmClause : rm_okM mX12_realmClause tX12_realmClause := ⟨ok_X12_realmClause_t, List.forall_mem_cons.mpr ⟨cw_X12_blanks, List.forall_mem_cons.mpr ⟨cw_X12_realmWord, List.forall_mem_cons.mpr ⟨cw_X12_stood, List.forall_mem_cons.mpr ⟨cw_X12_fails, List.forall_mem_cons.mpr ⟨cw_X12_isFull, List.forall_mem_cons.mpr ⟨cw_X12_fails, List.forall_mem_cons.mpr ⟨cw_X12_realmWord, List.forall_mem_cons.mpr ⟨cw_J0_length_8abf5, List.forall_mem_cons.mpr ⟨cw_X12_realmPart, fun _ h => absurd h List.not_mem_nil⟩⟩⟩⟩⟩⟩⟩⟩⟩⟩
theorem atX12_realmClause_0 : rm_at tX12_realmClause 0 = some bX12_realmClause_0 := rfl
theorem atX12_realmClause_11 : rm_at tX12_realmClause 11 = some bX12_realmClause_11 := rfl
theorem atX12_realmClause_33 : rm_at tX12_realmClause 33 = some bX12_realmClause_33 := rfl
theorem atX12_realmClause_45 : rm_at tX12_realmClause 45 = some bX12_realmClause_45 := rfl
theorem atX12_realmClause_61 : rm_at tX12_realmClause 61 = some bX12_realmClause_61 := rfl
def bX12_copies_0 : List rm_J := [
  (.nop, .iconst 0, 1, 0, 0, 0, .int 0, rm_M0, []),
  (.istore 2, .istore_n 2, 1, 0, 0, 0, .null, rm_M0, [])]
def bX12_copies_2 : List rm_J := [
  (.iload 2, .iload_n 2, 1, 0, 0, 0, .null, rm_M0, []),
  (.aload 0, .aload_n 0, 1, 0, 0, 0, .null, rm_M0, []),
  (.arraylength, .arraylength, 1, 0, 0, 0, .null, rm_M0, []),
  (.if_icmp .ge 15, .if_icmp .ge 15, 3, 20, 0, 0, .null, rm_M0, []),
  (.aload 1, .aload_n 1, 1, 0, 0, 0, .null, rm_M0, []),
  (.iload 2, .iload_n 2, 1, 0, 0, 0, .null, rm_M0, []),
  (.aload 0, .aload_n 0, 1, 0, 0, 0, .null, rm_M0, []),
  (.iload 2, .iload_n 2, 1, 0, 0, 0, .null, rm_M0, []),
  (.iaload, .iaload, 1, 0, 0, 0, .null, rm_M0, []),
  (.iastore, .iastore, 1, 0, 0, 0, .null, rm_M0, []),
  (.iinc 2 1, .iinc 2 1, 3, 0, 0, 0, .int 1, rm_M0, []),
  (.goto (-15), .goto (-15), 3, 2, 0, 0, .null, rm_M0, [])]
def bX12_copies_20 : List rm_J := [
  (.return_, .return_, 1, 0, 0, 0, .null, rm_M0, [])]
def tX12_copies : rm_P := [(0, bX12_copies_0), (2, bX12_copies_2), (20, bX12_copies_20)]
theorem ok_X12_copies_t : rm_okP mX12_copies tX12_copies = true := by decide +kernel
theorem ok_X12_copies : rm_okM mX12_copies tX12_copies := ⟨ok_X12_copies_t, fun _ h => absurd h List.not_mem_nil⟩
theorem atX12_copies_0 : rm_at tX12_copies 0 = some bX12_copies_0 := rfl
theorem atX12_copies_2 : rm_at tX12_copies 2 = some bX12_copies_2 := rfl
theorem atX12_copies_20 : rm_at tX12_copies 20 = some bX12_copies_20 := rfl
def bX12_goesOn_0 : List rm_J := [
  (.aload 0, .aload_n 0, 1, 0, 0, 0, .null, rm_M0, []),
  (.invokevirtual 182, .invokevirtual 182, 3, 0, 0, 0, .null, mX12_blanks, [(0, 1331), (0, 1333), (0, 38)]),
  (.aload 0, .aload_n 0, 1, 0, 0, 0, .null, rm_M0, []),
  (.getfield 159, .getfield 159, 3, 12, 20, 1159, .null, rm_M0, []),
  (.ifCond .ne 32, .ifCond .ne 32, 3, 40, 0, 0, .null, rm_M0, []),
  (.aload 0, .aload_n 0, 1, 0, 0, 0, .null, rm_M0, []),
  (.getfield 162, .getfield 162, 3, 12, 19, 1158, .null, rm_M0, []),
  (.aload 0, .aload_n 0, 1, 0, 0, 0, .null, rm_M0, []),
  (.getfield 129, .getfield 129, 3, 12, 18, 1157, .null, rm_M0, []),
  (.if_icmp .ge 21, .if_icmp .ge 21, 3, 40, 0, 0, .null, rm_M0, []),
  (.aload 0, .aload_n 0, 1, 0, 0, 0, .null, rm_M0, []),
  (.invokevirtual 165, .invokevirtual 165, 3, 0, 0, 0, .null, mX12_sign, [(0, 1335), (0, 1337), (0, 39)]),
  (.nop, .bipush 59, 2, 0, 0, 0, .int 59, rm_M0, []),
  (.if_icmp .eq 12, .if_icmp .eq 12, 3, 40, 0, 0, .null, rm_M0, []),
  (.aload 0, .aload_n 0, 1, 0, 0, 0, .null, rm_M0, []),
  (.nop, .iconst 0, 1, 0, 0, 0, .int 0, rm_M0, []),
  (.aload 0, .aload_n 0, 1, 0, 0, 0, .null, rm_M0, []),
  (.getfield 162, .getfield 162, 3, 12, 19, 1158, .null, rm_M0, []),
  (.invokevirtual 198, .invokevirtual 198, 3, 0, 2, 0, .null, mX12_fails, [(0, 1352), (0, 1354), (0, 41)])]
def bX12_goesOn_40 : List rm_J := [
  (.aload 0, .aload_n 0, 1, 0, 0, 0, .null, rm_M0, []),
  (.getfield 159, .getfield 159, 3, 12, 20, 1159, .null, rm_M0, []),
  (.ifCond .ne 18, .ifCond .ne 18, 3, 62, 0, 0, .null, rm_M0, []),
  (.aload 0, .aload_n 0, 1, 0, 0, 0, .null, rm_M0, []),
  (.getfield 162, .getfield 162, 3, 12, 19, 1158, .null, rm_M0, []),
  (.aload 0, .aload_n 0, 1, 0, 0, 0, .null, rm_M0, []),
  (.getfield 129, .getfield 129, 3, 12, 18, 1157, .null, rm_M0, []),
  (.if_icmp .ge 7, .if_icmp .ge 7, 3, 62, 0, 0, .null, rm_M0, []),
  (.nop, .iconst 1, 1, 0, 0, 0, .int 1, rm_M0, []),
  (.goto 4, .goto 4, 3, 63, 0, 0, .null, rm_M0, [])]
def bX12_goesOn_62 : List rm_J := [
  (.nop, .iconst 0, 1, 0, 0, 0, .int 0, rm_M0, [])]
def bX12_goesOn_63 : List rm_J := [
  (.istore 1, .istore_n 1, 1, 0, 0, 0, .null, rm_M0, []),
  (.aload 0, .aload_n 0, 1, 0, 0, 0, .null, rm_M0, []),
  (.dup, .dup, 1, 0, 0, 0, .null, rm_M0, []),
  (.getfield 162, .getfield 162, 3, 12, 19, 1158, .null, rm_M0, []),
  (.nop, .iconst 1, 1, 0, 0, 0, .int 1, rm_M0, []),
  (.iadd, .iadd, 1, 0, 0, 0, .null, rm_M0, []),
  (.putfield 162, .putfield 162, 3, 12, 19, 1158, .int 0, rm_M0, []),
  (.iload 1, .iload_n 1, 1, 0, 0, 0, .null, rm_M0, []),
  (.ireturn, .ireturn, 1, 0, 0, 0, .null, rm_M0, [])]
def tX12_goesOn : rm_P := [(0, bX12_goesOn_0), (40, bX12_goesOn_40), (62, bX12_goesOn_62), (63, bX12_goesOn_63)]
theorem ok_X12_goesOn_t : rm_okP mX12_goesOn tX12_goesOn = true := by decide +kernel
theorem ok_X12_goesOn : rm_okM mX12_goesOn tX12_goesOn := ⟨ok_X12_goesOn_t, List.forall_mem_cons.mpr ⟨cw_X12_blanks, List.forall_mem_cons.mpr ⟨cw_X12_sign, List.forall_mem_cons.mpr ⟨cw_X12_fails, fun _ h => absurd h List.not_mem_nil⟩⟩⟩⟩
theorem atX12_goesOn_0 : rm_at tX12_goesOn 0 = some bX12_goesOn_0 := rfl
theorem atX12_goesOn_40 : rm_at tX12_goesOn 40 = some bX12_goesOn_40 := rfl
theorem atX12_goesOn_62 : rm_at tX12_goesOn 62 = some bX12_goesOn_62 := rfl
theorem atX12_goesOn_63 : rm_at tX12_goesOn 63 = some bX12_goesOn_63 := rfl
