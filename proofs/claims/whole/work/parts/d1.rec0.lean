/-! Records that make no cells: a rule that is not read, an image that is there -/
def m0X6_read : rm_M := (yX6_read, cX6_read, 5, (some (.object "OneDecision$Rule")), 0, 0, 6)
def m0X11_rule : rm_M := (yX11_rule, cX11_rule, 2, (some .int), 0, 0, 11)
def m0X11_image : rm_M := (yX11_image, cX11_image, 2, (some .int), 0, 0, 11)
theorem rt_0X6_read : rm_rt m0X6_read = (some (.object "OneDecision$Rule")) := rfl
theorem mc_0X6_read : rm_mc m0X6_read = 0 := rfl
theorem ms_0X6_read : rm_ms m0X6_read = 0 := rfl
theorem ci_0X6_read : rm_ci m0X6_read = 6 := rfl
theorem rt_0X11_rule : rm_rt m0X11_rule = (some .int) := rfl
theorem mc_0X11_rule : rm_mc m0X11_rule = 0 := rfl
theorem ms_0X11_rule : rm_ms m0X11_rule = 0 := rfl
theorem ci_0X11_rule : rm_ci m0X11_rule = 11 := rfl
theorem rt_0X11_image : rm_rt m0X11_image = (some .int) := rfl
theorem mc_0X11_image : rm_mc m0X11_image = 0 := rfl
theorem ms_0X11_image : rm_ms m0X11_image = 0 := rfl
theorem ci_0X11_image : rm_ci m0X11_image = 11 := rfl
theorem cw_0X6_read : rm_cwd m0X6_read 1 := cw_X6_read
theorem ok_0X6_read : rm_okM m0X6_read tX6_read := ⟨by decide +kernel, ok_X6_read.2⟩
theorem ok_0X11_image : rm_okM m0X11_image tX11_image := ⟨by decide +kernel, ok_X11_image.2⟩
def b0X11_rule_0 : List rm_J := [
  (.aload 0, .aload_n 0, 1, 0, 0, 0, .null, rm_M0, []),
  (.getfield 65, .getfield 65, 3, 11, 3, 452, .null, rm_M0, []),
  (.nop, .bipush 6, 2, 0, 0, 0, .int 6, rm_M0, []),
  (.if_icmp .lt 5, .if_icmp .lt 5, 3, 11, 0, 0, .null, rm_M0, []),
  (.nop, .iconst (-1), 1, 0, 0, 0, .int (-1), rm_M0, []),
  (.ireturn, .ireturn, 1, 0, 0, 0, .null, rm_M0, [])]
def b0X11_rule_11 : List rm_J := [
  (.aload 0, .aload_n 0, 1, 0, 0, 0, .null, rm_M0, []),
  (.getfield 12, .getfield 12, 3, 11, 0, 449, .null, rm_M0, []),
  (.invokevirtual 76, .invokevirtual 76, 3, 0, 0, 0, .null, mX8_split, [(0, 496), (0, 497), (0, 498)]),
  (.aload 0, .aload_n 0, 1, 0, 0, 0, .null, rm_M0, []),
  (.getfield 19, .getfield 19, 3, 11, 1, 450, .null, rm_M0, []),
  (.aload 0, .aload_n 0, 1, 0, 0, 0, .null, rm_M0, []),
  (.getfield 12, .getfield 12, 3, 11, 0, 449, .null, rm_M0, []),
  (.invokevirtual 96, .invokevirtual 96, 3, 0, 1, 0, .null, m0X6_read, [(0, 706), (0, 707), (0, 708)]),
  (.astore 1, .astore_n 1, 1, 0, 0, 0, .null, rm_M0, []),
  (.aload 0, .aload_n 0, 1, 0, 0, 0, .null, rm_M0, []),
  (.getfield 12, .getfield 12, 3, 11, 0, 449, .null, rm_M0, []),
  (.nop, .iconst 0, 1, 0, 0, 0, .int 0, rm_M0, []),
  (.putfield 69, .putfield 69, 3, 8, 1, 134, .int 0, rm_M0, []),
  (.aload 0, .aload_n 0, 1, 0, 0, 0, .null, rm_M0, []),
  (.getfield 12, .getfield 12, 3, 11, 0, 449, .null, rm_M0, []),
  (.getfield 86, .getfield 86, 3, 8, 2, 139, .null, rm_M0, []),
  (.ifCond .eq 14, .ifCond .eq 14, 3, 59, 0, 0, .null, rm_M0, []),
  (.nop, .bipush (-2), 2, 0, 0, 0, .int (-2), rm_M0, []),
  (.aload 0, .aload_n 0, 1, 0, 0, 0, .null, rm_M0, []),
  (.getfield 12, .getfield 12, 3, 11, 0, 449, .null, rm_M0, []),
  (.getfield 86, .getfield 86, 3, 8, 2, 139, .null, rm_M0, []),
  (.isub, .isub, 1, 0, 0, 0, .null, rm_M0, []),
  (.ireturn, .ireturn, 1, 0, 0, 0, .null, rm_M0, [])]
def b0X11_rule_59 : List rm_J := [
  (.aload 0, .aload_n 0, 1, 0, 0, 0, .null, rm_M0, []),
  (.getfield 25, .getfield 25, 3, 11, 2, 451, .null, rm_M0, []),
  (.aload 0, .aload_n 0, 1, 0, 0, 0, .null, rm_M0, []),
  (.getfield 65, .getfield 65, 3, 11, 3, 452, .null, rm_M0, []),
  (.aload 1, .aload_n 1, 1, 0, 0, 0, .null, rm_M0, []),
  (.aastore, .aastore, 1, 0, 0, 0, .null, rm_M0, []),
  (.aload 0, .aload_n 0, 1, 0, 0, 0, .null, rm_M0, []),
  (.dup, .dup, 1, 0, 0, 0, .null, rm_M0, []),
  (.getfield 65, .getfield 65, 3, 11, 3, 452, .null, rm_M0, []),
  (.nop, .iconst 1, 1, 0, 0, 0, .int 1, rm_M0, []),
  (.iadd, .iadd, 1, 0, 0, 0, .null, rm_M0, []),
  (.putfield 65, .putfield 65, 3, 11, 3, 452, .int 0, rm_M0, []),
  (.aload 0, .aload_n 0, 1, 0, 0, 0, .null, rm_M0, []),
  (.getfield 65, .getfield 65, 3, 11, 3, 452, .null, rm_M0, []),
  (.nop, .iconst 1, 1, 0, 0, 0, .int 1, rm_M0, []),
  (.isub, .isub, 1, 0, 0, 0, .null, rm_M0, []),
  (.ireturn, .ireturn, 1, 0, 0, 0, .null, rm_M0, [])]
def t0X11_rule : rm_P := [(0, b0X11_rule_0), (11, b0X11_rule_11), (59, b0X11_rule_59)]
theorem ok_0X11_rule : rm_okM m0X11_rule t0X11_rule := ⟨by decide +kernel, List.forall_mem_cons.mpr ⟨cw_X8_split, List.forall_mem_cons.mpr ⟨cw_0X6_read, fun _ h => absurd h List.not_mem_nil⟩⟩⟩
theorem at0X11_rule_0 : rm_at t0X11_rule 0 = some b0X11_rule_0 := rfl
theorem at0X11_rule_11 : rm_at t0X11_rule 11 = some b0X11_rule_11 := rfl
theorem at0X11_rule_59 : rm_at t0X11_rule 59 = some b0X11_rule_59 := rfl
