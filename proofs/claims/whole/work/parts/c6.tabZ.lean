/-! The table of the reference's making, cut before each row -/
def bX12_initZ_0 : List rm_J := [
  (.aload 0, .aload_n 0, 1, 0, 0, 0, .null, rm_M0, []),
  (.jsr 0, .invokespecial 3, 3, 0, 0, 3, .null, rm_M0, [(0, 1139), (0, 125), (0, 126)]),
  (.aload 0, .aload_n 0, 1, 0, 0, 0, .null, rm_M0, []),
  (.nop, .bipush 13, 2, 0, 0, 0, .int 13, rm_M0, []),
  (.newarray .int, .newarray .int, 2, 0, 0, 0, .null, rm_M0, [(0, 163)]),
  (.dup, .dup, 1, 0, 0, 0, .null, rm_M0, []),
  (.nop, .iconst 0, 1, 0, 0, 0, .int 0, rm_M0, []),
  (.nop, .iconst 0, 1, 0, 0, 0, .int 0, rm_M0, []),
  (.iastore, .iastore, 1, 0, 0, 0, .null, rm_M0, []),
  (.dup, .dup, 1, 0, 0, 0, .null, rm_M0, []),
  (.nop, .iconst 1, 1, 0, 0, 0, .int 1, rm_M0, []),
  (.nop, .iconst 0, 1, 0, 0, 0, .int 0, rm_M0, []),
  (.iastore, .iastore, 1, 0, 0, 0, .null, rm_M0, []),
  (.dup, .dup, 1, 0, 0, 0, .null, rm_M0, []),
  (.nop, .iconst 2, 1, 0, 0, 0, .int 2, rm_M0, []),
  (.nop, .iconst 0, 1, 0, 0, 0, .int 0, rm_M0, []),
  (.iastore, .iastore, 1, 0, 0, 0, .null, rm_M0, []),
  (.dup, .dup, 1, 0, 0, 0, .null, rm_M0, []),
  (.nop, .iconst 3, 1, 0, 0, 0, .int 3, rm_M0, []),
  (.nop, .iconst 0, 1, 0, 0, 0, .int 0, rm_M0, []),
  (.iastore, .iastore, 1, 0, 0, 0, .null, rm_M0, []),
  (.dup, .dup, 1, 0, 0, 0, .null, rm_M0, []),
  (.nop, .iconst 4, 1, 0, 0, 0, .int 4, rm_M0, []),
  (.nop, .iconst 0, 1, 0, 0, 0, .int 0, rm_M0, []),
  (.iastore, .iastore, 1, 0, 0, 0, .null, rm_M0, []),
  (.dup, .dup, 1, 0, 0, 0, .null, rm_M0, []),
  (.nop, .iconst 5, 1, 0, 0, 0, .int 5, rm_M0, []),
  (.nop, .iconst 0, 1, 0, 0, 0, .int 0, rm_M0, []),
  (.iastore, .iastore, 1, 0, 0, 0, .null, rm_M0, []),
  (.dup, .dup, 1, 0, 0, 0, .null, rm_M0, []),
  (.nop, .bipush 6, 2, 0, 0, 0, .int 6, rm_M0, []),
  (.nop, .iconst 0, 1, 0, 0, 0, .int 0, rm_M0, []),
  (.iastore, .iastore, 1, 0, 0, 0, .null, rm_M0, []),
  (.dup, .dup, 1, 0, 0, 0, .null, rm_M0, []),
  (.nop, .bipush 7, 2, 0, 0, 0, .int 7, rm_M0, []),
  (.nop, .iconst 0, 1, 0, 0, 0, .int 0, rm_M0, []),
  (.iastore, .iastore, 1, 0, 0, 0, .null, rm_M0, []),
  (.dup, .dup, 1, 0, 0, 0, .null, rm_M0, []),
  (.nop, .bipush 8, 2, 0, 0, 0, .int 8, rm_M0, []),
  (.nop, .iconst 0, 1, 0, 0, 0, .int 0, rm_M0, []),
  (.iastore, .iastore, 1, 0, 0, 0, .null, rm_M0, []),
  (.dup, .dup, 1, 0, 0, 0, .null, rm_M0, []),
  (.nop, .bipush 9, 2, 0, 0, 0, .int 9, rm_M0, []),
  (.nop, .iconst 0, 1, 0, 0, 0, .int 0, rm_M0, []),
  (.iastore, .iastore, 1, 0, 0, 0, .null, rm_M0, []),
  (.dup, .dup, 1, 0, 0, 0, .null, rm_M0, []),
  (.nop, .bipush 10, 2, 0, 0, 0, .int 10, rm_M0, []),
  (.nop, .iconst 0, 1, 0, 0, 0, .int 0, rm_M0, []),
  (.iastore, .iastore, 1, 0, 0, 0, .null, rm_M0, []),
  (.dup, .dup, 1, 0, 0, 0, .null, rm_M0, []),
  (.nop, .bipush 11, 2, 0, 0, 0, .int 11, rm_M0, []),
  (.nop, .iconst 0, 1, 0, 0, 0, .int 0, rm_M0, []),
  (.iastore, .iastore, 1, 0, 0, 0, .null, rm_M0, []),
  (.dup, .dup, 1, 0, 0, 0, .null, rm_M0, []),
  (.nop, .bipush 12, 2, 0, 0, 0, .int 12, rm_M0, []),
  (.nop, .iconst (-1), 1, 0, 0, 0, .int (-1), rm_M0, []),
  (.iastore, .iastore, 1, 0, 0, 0, .null, rm_M0, []),
  (.putfield 9, .putfield 9, 3, 12, 1, 1140, .int 3, rm_M0, [])]
def bX12_initZ_71 : List rm_J := [
  (.aload 0, .aload_n 0, 1, 0, 0, 0, .null, rm_M0, []),
  (.nop, .bipush 8, 2, 0, 0, 0, .int 8, rm_M0, []),
  (.newarray .int, .newarray .int, 2, 0, 0, 0, .null, rm_M0, [(0, 163)]),
  (.putfield 13, .putfield 13, 3, 12, 2, 1141, .int 3, rm_M0, [])]
def bX12_initZ_79 : List rm_J := [
  (.aload 0, .aload_n 0, 1, 0, 0, 0, .null, rm_M0, []),
  (.nop, .bipush 8, 2, 0, 0, 0, .int 8, rm_M0, []),
  (.newarray .int, .newarray .int, 2, 0, 0, 0, .null, rm_M0, [(0, 163)]),
  (.putfield 16, .putfield 16, 3, 12, 3, 1142, .int 3, rm_M0, [])]
def bX12_initZ_87 : List rm_J := [
  (.aload 0, .aload_n 0, 1, 0, 0, 0, .null, rm_M0, []),
  (.nop, .bipush 8, 2, 0, 0, 0, .int 8, rm_M0, []),
  (.newarray .int, .newarray .int, 2, 0, 0, 0, .null, rm_M0, [(0, 163)]),
  (.putfield 19, .putfield 19, 3, 12, 4, 1143, .int 3, rm_M0, [])]
def bX12_initZ_95 : List rm_J := [
  (.aload 0, .aload_n 0, 1, 0, 0, 0, .null, rm_M0, []),
  (.nop, .bipush 8, 2, 0, 0, 0, .int 8, rm_M0, []),
  (.newarray .int, .newarray .int, 2, 0, 0, 0, .null, rm_M0, [(0, 163)]),
  (.putfield 22, .putfield 22, 3, 12, 5, 1144, .int 3, rm_M0, [])]
def bX12_initZ_103 : List rm_J := [
  (.aload 0, .aload_n 0, 1, 0, 0, 0, .null, rm_M0, []),
  (.nop, .bipush 8, 2, 0, 0, 0, .int 8, rm_M0, []),
  (.newarray .int, .newarray .int, 2, 0, 0, 0, .null, rm_M0, [(0, 163)]),
  (.putfield 25, .putfield 25, 3, 12, 6, 1145, .int 3, rm_M0, [])]
def bX12_initZ_111 : List rm_J := [
  (.aload 0, .aload_n 0, 1, 0, 0, 0, .null, rm_M0, []),
  (.nop, .bipush 61, 2, 0, 0, 0, .int 61, rm_M0, []),
  (.newarray .int, .newarray .int, 2, 0, 0, 0, .null, rm_M0, [(0, 163)]),
  (.putfield 28, .putfield 28, 3, 12, 7, 1146, .int 3, rm_M0, [])]
def bX12_initZ_119 : List rm_J := [
  (.aload 0, .aload_n 0, 1, 0, 0, 0, .null, rm_M0, []),
  (.nop, .bipush 10, 2, 0, 0, 0, .int 10, rm_M0, []),
  (.newarray .int, .newarray .int, 2, 0, 0, 0, .null, rm_M0, [(0, 163)]),
  (.putfield 31, .putfield 31, 3, 12, 8, 1147, .int 3, rm_M0, [])]
def bX12_initZ_127 : List rm_J := [
  (.aload 0, .aload_n 0, 1, 0, 0, 0, .null, rm_M0, []),
  (.nop, .bipush 10, 2, 0, 0, 0, .int 10, rm_M0, []),
  (.newarray .int, .newarray .int, 2, 0, 0, 0, .null, rm_M0, [(0, 163)]),
  (.putfield 34, .putfield 34, 3, 12, 9, 1148, .int 3, rm_M0, [])]
def bX12_initZ_135 : List rm_J := [
  (.aload 0, .aload_n 0, 1, 0, 0, 0, .null, rm_M0, []),
  (.nop, .bipush 8, 2, 0, 0, 0, .int 8, rm_M0, []),
  (.newarray .int, .newarray .int, 2, 0, 0, 0, .null, rm_M0, [(0, 163)]),
  (.putfield 37, .putfield 37, 3, 12, 10, 1149, .int 3, rm_M0, [])]
def bX12_initZ_143 : List rm_J := [
  (.aload 0, .aload_n 0, 1, 0, 0, 0, .null, rm_M0, []),
  (.nop, .bipush 8, 2, 0, 0, 0, .int 8, rm_M0, []),
  (.newarray .int, .newarray .int, 2, 0, 0, 0, .null, rm_M0, [(0, 163)]),
  (.putfield 40, .putfield 40, 3, 12, 11, 1150, .int 3, rm_M0, [])]
def bX12_initZ_151 : List rm_J := [
  (.aload 0, .aload_n 0, 1, 0, 0, 0, .null, rm_M0, []),
  (.nop, .iconst 4, 1, 0, 0, 0, .int 4, rm_M0, []),
  (.newarray .int, .newarray .int, 2, 0, 0, 0, .null, rm_M0, [(0, 163)]),
  (.putfield 43, .putfield 43, 3, 12, 12, 1151, .int 3, rm_M0, [])]
def bX12_initZ_158 : List rm_J := [
  (.aload 0, .aload_n 0, 1, 0, 0, 0, .null, rm_M0, []),
  (.nop, .bipush 8, 2, 0, 0, 0, .int 8, rm_M0, []),
  (.newarray .int, .newarray .int, 2, 0, 0, 0, .null, rm_M0, [(0, 163)]),
  (.putfield 46, .putfield 46, 3, 12, 13, 1152, .int 3, rm_M0, [])]
def bX12_initZ_166 : List rm_J := [
  (.aload 0, .aload_n 0, 1, 0, 0, 0, .null, rm_M0, []),
  (.nop, .bipush 8, 2, 0, 0, 0, .int 8, rm_M0, []),
  (.newarray .int, .newarray .int, 2, 0, 0, 0, .null, rm_M0, [(0, 163)]),
  (.putfield 49, .putfield 49, 3, 12, 14, 1153, .int 3, rm_M0, [])]
def bX12_initZ_174 : List rm_J := [
  (.aload 0, .aload_n 0, 1, 0, 0, 0, .null, rm_M0, []),
  (.nop, .bipush 8, 2, 0, 0, 0, .int 8, rm_M0, []),
  (.newarray .int, .newarray .int, 2, 0, 0, 0, .null, rm_M0, [(0, 163)]),
  (.putfield 52, .putfield 52, 3, 12, 15, 1154, .int 3, rm_M0, [])]
def bX12_initZ_182 : List rm_J := [
  (.aload 0, .aload_n 0, 1, 0, 0, 0, .null, rm_M0, []),
  (.nop, .bipush 8, 2, 0, 0, 0, .int 8, rm_M0, []),
  (.newarray .int, .newarray .int, 2, 0, 0, 0, .null, rm_M0, [(0, 163)]),
  (.putfield 55, .putfield 55, 3, 12, 16, 1155, .int 3, rm_M0, [])]
def bX12_initZ_190 : List rm_J := [
  (.aload 0, .aload_n 0, 1, 0, 0, 0, .null, rm_M0, []),
  (.nop, .bipush 61, 2, 0, 0, 0, .int 61, rm_M0, []),
  (.newarray .int, .newarray .int, 2, 0, 0, 0, .null, rm_M0, [(0, 163)]),
  (.putfield 58, .putfield 58, 3, 12, 17, 1156, .int 3, rm_M0, [])]
def bX12_initZ_198 : List rm_J := [
  (.aload 0, .aload_n 0, 1, 0, 0, 0, .null, rm_M0, []),
  (.nop, .bipush 13, 2, 0, 0, 0, .int 13, rm_M0, []),
  (.putfield 61, .putfield 61, 3, 12, 27, 1166, .int 0, rm_M0, []),
  (.aload 0, .aload_n 0, 1, 0, 0, 0, .null, rm_M0, []),
  (.nop, .sipush 400, 3, 0, 0, 0, .int 400, rm_M0, []),
  (.newarray .byte, .newarray .byte, 2, 1, 0, 0, .null, rm_M0, [(0, 162)]),
  (.putfield 65, .putfield 65, 3, 12, 28, 1167, .int 3, rm_M0, [])]
def bX12_initZ_213 : List rm_J := [
  (.aload 0, .aload_n 0, 1, 0, 0, 0, .null, rm_M0, []),
  (.nop, .sipush 1800, 3, 0, 0, 0, .int 1800, rm_M0, []),
  (.newarray .int, .newarray .int, 2, 0, 0, 0, .null, rm_M0, [(0, 163)]),
  (.putfield 69, .putfield 69, 3, 12, 29, 1168, .int 3, rm_M0, [])]
def bX12_initZ_222 : List rm_J := [
  (.aload 0, .aload_n 0, 1, 0, 0, 0, .null, rm_M0, []),
  (.nop, .sipush 1800, 3, 0, 0, 0, .int 1800, rm_M0, []),
  (.newarray .int, .newarray .int, 2, 0, 0, 0, .null, rm_M0, [(0, 163)]),
  (.putfield 72, .putfield 72, 3, 12, 30, 1169, .int 3, rm_M0, [])]
def bX12_initZ_231 : List rm_J := [
  (.aload 0, .aload_n 0, 1, 0, 0, 0, .null, rm_M0, []),
  (.nop, .bipush 6, 2, 0, 0, 0, .int 6, rm_M0, []),
  (.newarray .int, .newarray .int, 2, 0, 0, 0, .null, rm_M0, [(0, 163)]),
  (.putfield 75, .putfield 75, 3, 12, 31, 1170, .int 3, rm_M0, [])]
def bX12_initZ_239 : List rm_J := [
  (.aload 0, .aload_n 0, 1, 0, 0, 0, .null, rm_M0, []),
  (.nop, .bipush 72, 2, 0, 0, 0, .int 72, rm_M0, []),
  (.newarray .int, .newarray .int, 2, 0, 0, 0, .null, rm_M0, [(0, 163)]),
  (.putfield 78, .putfield 78, 3, 12, 32, 1171, .int 3, rm_M0, [])]
def bX12_initZ_247 : List rm_J := [
  (.aload 0, .aload_n 0, 1, 0, 0, 0, .null, rm_M0, []),
  (.nop, .bipush 72, 2, 0, 0, 0, .int 72, rm_M0, []),
  (.newarray .int, .newarray .int, 2, 0, 0, 0, .null, rm_M0, [(0, 163)]),
  (.putfield 81, .putfield 81, 3, 12, 33, 1172, .int 3, rm_M0, [])]
def bX12_initZ_255 : List rm_J := [
  (.aload 0, .aload_n 0, 1, 0, 0, 0, .null, rm_M0, []),
  (.nop, .bipush 72, 2, 0, 0, 0, .int 72, rm_M0, []),
  (.newarray .int, .newarray .int, 2, 0, 0, 0, .null, rm_M0, [(0, 163)]),
  (.putfield 84, .putfield 84, 3, 12, 34, 1173, .int 3, rm_M0, [])]
def bX12_initZ_263 : List rm_J := [
  (.aload 0, .aload_n 0, 1, 0, 0, 0, .null, rm_M0, []),
  (.nop, .sipush 402, 3, 0, 0, 0, .int 402, rm_M0, []),
  (.newarray .int, .newarray .int, 2, 0, 0, 0, .null, rm_M0, [(0, 163)]),
  (.putfield 87, .putfield 87, 3, 12, 35, 1174, .int 3, rm_M0, [])]
def bX12_initZ_272 : List rm_J := [
  (.aload 0, .aload_n 0, 1, 0, 0, 0, .null, rm_M0, []),
  (.nop, .bipush 13, 2, 0, 0, 0, .int 13, rm_M0, []),
  (.newarray .long, .newarray .long, 2, 2, 0, 0, .null, rm_M0, [(0, 391)]),
  (.putfield 90, .putfield 90, 3, 12, 36, 1175, .int 3, rm_M0, [])]
def bX12_initZ_280 : List rm_J := [
  (.aload 0, .aload_n 0, 1, 0, 0, 0, .null, rm_M0, []),
  (.nop, .sipush 300, 3, 0, 0, 0, .int 300, rm_M0, []),
  (.newarray .long, .newarray .long, 2, 2, 0, 0, .null, rm_M0, [(0, 391)]),
  (.putfield 94, .putfield 94, 3, 12, 37, 1176, .int 3, rm_M0, [])]
def bX12_initZ_289 : List rm_J := [
  (.aload 0, .aload_n 0, 1, 0, 0, 0, .null, rm_M0, []),
  (.nop, .sipush 600, 3, 0, 0, 0, .int 600, rm_M0, []),
  (.newarray .int, .newarray .int, 2, 0, 0, 0, .null, rm_M0, [(0, 163)]),
  (.putfield 97, .putfield 97, 3, 12, 38, 1177, .int 3, rm_M0, [])]
def bX12_initZ_298 : List rm_J := [
  (.aload 0, .aload_n 0, 1, 0, 0, 0, .null, rm_M0, []),
  (.nop, .iconst 1, 1, 0, 0, 0, .int 1, rm_M0, []),
  (.newarray .int, .newarray .int, 2, 0, 0, 0, .null, rm_M0, [(0, 163)]),
  (.putfield 100, .putfield 100, 3, 12, 39, 1178, .int 3, rm_M0, [])]
def bX12_initZ_305 : List rm_J := [
  (.aload 0, .aload_n 0, 1, 0, 0, 0, .null, rm_M0, []),
  (.nop, .iconst 4, 1, 0, 0, 0, .int 4, rm_M0, []),
  (.newarray .int, .newarray .int, 2, 0, 0, 0, .null, rm_M0, [(0, 163)]),
  (.putfield 103, .putfield 103, 3, 12, 43, 1182, .int 3, rm_M0, [])]
def bX12_initZ_312 : List rm_J := [
  (.aload 0, .aload_n 0, 1, 0, 0, 0, .null, rm_M0, []),
  (.nop, .iconst 4, 1, 0, 0, 0, .int 4, rm_M0, []),
  (.newarray .int, .newarray .int, 2, 0, 0, 0, .null, rm_M0, [(0, 163)]),
  (.putfield 106, .putfield 106, 3, 12, 44, 1183, .int 3, rm_M0, [])]
def bX12_initZ_319 : List rm_J := [
  (.aload 0, .aload_n 0, 1, 0, 0, 0, .null, rm_M0, []),
  (.nop, .bipush 61, 2, 0, 0, 0, .int 61, rm_M0, []),
  (.newarray .int, .newarray .int, 2, 0, 0, 0, .null, rm_M0, [(0, 163)]),
  (.putfield 109, .putfield 109, 3, 12, 48, 1187, .int 3, rm_M0, [])]
def bX12_initZ_327 : List rm_J := [
  (.aload 0, .aload_n 0, 1, 0, 0, 0, .null, rm_M0, []),
  (.nop, .sipush 427, 3, 0, 0, 0, .int 427, rm_M0, []),
  (.newarray .int, .newarray .int, 2, 0, 0, 0, .null, rm_M0, [(0, 163)]),
  (.putfield 112, .putfield 112, 3, 12, 49, 1188, .int 3, rm_M0, [])]
def bX12_initZ_336 : List rm_J := [
  (.aload 0, .aload_n 0, 1, 0, 0, 0, .null, rm_M0, []),
  (.nop, .sipush 4000, 3, 0, 0, 0, .int 4000, rm_M0, []),
  (.newarray .int, .newarray .int, 2, 0, 0, 0, .null, rm_M0, [(0, 163)]),
  (.putfield 115, .putfield 115, 3, 12, 50, 1189, .int 3, rm_M0, [])]
def bX12_initZ_345 : List rm_J := [
  (.aload 0, .aload_n 0, 1, 0, 0, 0, .null, rm_M0, []),
  (.nop, .iconst 4, 1, 0, 0, 0, .int 4, rm_M0, []),
  (.newarray .boolean, .newarray .boolean, 2, 3, 0, 0, .null, rm_M0, [(0, 1302)]),
  (.putfield 118, .putfield 118, 3, 12, 51, 1190, .int 3, rm_M0, []),
  (.return_, .return_, 1, 0, 0, 0, .null, rm_M0, [])]
def tX12_initZ : rm_P := [(0, bX12_initZ_0), (71, bX12_initZ_71), (79, bX12_initZ_79), (87, bX12_initZ_87), (95, bX12_initZ_95), (103, bX12_initZ_103), (111, bX12_initZ_111), (119, bX12_initZ_119), (127, bX12_initZ_127), (135, bX12_initZ_135), (143, bX12_initZ_143), (151, bX12_initZ_151), (158, bX12_initZ_158), (166, bX12_initZ_166), (174, bX12_initZ_174), (182, bX12_initZ_182), (190, bX12_initZ_190), (198, bX12_initZ_198), (213, bX12_initZ_213), (222, bX12_initZ_222), (231, bX12_initZ_231), (239, bX12_initZ_239), (247, bX12_initZ_247), (255, bX12_initZ_255), (263, bX12_initZ_263), (272, bX12_initZ_272), (280, bX12_initZ_280), (289, bX12_initZ_289), (298, bX12_initZ_298), (305, bX12_initZ_305), (312, bX12_initZ_312), (319, bX12_initZ_319), (327, bX12_initZ_327), (336, bX12_initZ_336), (345, bX12_initZ_345)]
theorem ok_X12_initZ_t : rm_okP mX12_init tX12_initZ = true := by decide +kernel
theorem ok_X12_initZ : rm_okM mX12_init tX12_initZ := ⟨ok_X12_initZ_t, fun _ h => absurd h List.not_mem_nil⟩
theorem atX12_initZ_0 : rm_at tX12_initZ 0 = some bX12_initZ_0 := rfl
theorem atX12_initZ_71 : rm_at tX12_initZ 71 = some bX12_initZ_71 := rfl
theorem atX12_initZ_79 : rm_at tX12_initZ 79 = some bX12_initZ_79 := rfl
theorem atX12_initZ_87 : rm_at tX12_initZ 87 = some bX12_initZ_87 := rfl
theorem atX12_initZ_95 : rm_at tX12_initZ 95 = some bX12_initZ_95 := rfl
theorem atX12_initZ_103 : rm_at tX12_initZ 103 = some bX12_initZ_103 := rfl
theorem atX12_initZ_111 : rm_at tX12_initZ 111 = some bX12_initZ_111 := rfl
theorem atX12_initZ_119 : rm_at tX12_initZ 119 = some bX12_initZ_119 := rfl
theorem atX12_initZ_127 : rm_at tX12_initZ 127 = some bX12_initZ_127 := rfl
theorem atX12_initZ_135 : rm_at tX12_initZ 135 = some bX12_initZ_135 := rfl
theorem atX12_initZ_143 : rm_at tX12_initZ 143 = some bX12_initZ_143 := rfl
theorem atX12_initZ_151 : rm_at tX12_initZ 151 = some bX12_initZ_151 := rfl
theorem atX12_initZ_158 : rm_at tX12_initZ 158 = some bX12_initZ_158 := rfl
theorem atX12_initZ_166 : rm_at tX12_initZ 166 = some bX12_initZ_166 := rfl
theorem atX12_initZ_174 : rm_at tX12_initZ 174 = some bX12_initZ_174 := rfl
theorem atX12_initZ_182 : rm_at tX12_initZ 182 = some bX12_initZ_182 := rfl
theorem atX12_initZ_190 : rm_at tX12_initZ 190 = some bX12_initZ_190 := rfl
theorem atX12_initZ_198 : rm_at tX12_initZ 198 = some bX12_initZ_198 := rfl
theorem atX12_initZ_213 : rm_at tX12_initZ 213 = some bX12_initZ_213 := rfl
theorem atX12_initZ_222 : rm_at tX12_initZ 222 = some bX12_initZ_222 := rfl
theorem atX12_initZ_231 : rm_at tX12_initZ 231 = some bX12_initZ_231 := rfl
theorem atX12_initZ_239 : rm_at tX12_initZ 239 = some bX12_initZ_239 := rfl
theorem atX12_initZ_247 : rm_at tX12_initZ 247 = some bX12_initZ_247 := rfl
theorem atX12_initZ_255 : rm_at tX12_initZ 255 = some bX12_initZ_255 := rfl
theorem atX12_initZ_263 : rm_at tX12_initZ 263 = some bX12_initZ_263 := rfl
theorem atX12_initZ_272 : rm_at tX12_initZ 272 = some bX12_initZ_272 := rfl
theorem atX12_initZ_280 : rm_at tX12_initZ 280 = some bX12_initZ_280 := rfl
theorem atX12_initZ_289 : rm_at tX12_initZ 289 = some bX12_initZ_289 := rfl
theorem atX12_initZ_298 : rm_at tX12_initZ 298 = some bX12_initZ_298 := rfl
theorem atX12_initZ_305 : rm_at tX12_initZ 305 = some bX12_initZ_305 := rfl
theorem atX12_initZ_312 : rm_at tX12_initZ 312 = some bX12_initZ_312 := rfl
theorem atX12_initZ_319 : rm_at tX12_initZ 319 = some bX12_initZ_319 := rfl
theorem atX12_initZ_327 : rm_at tX12_initZ 327 = some bX12_initZ_327 := rfl
theorem atX12_initZ_336 : rm_at tX12_initZ 336 = some bX12_initZ_336 := rfl
theorem atX12_initZ_345 : rm_at tX12_initZ 345 = some bX12_initZ_345 := rfl

