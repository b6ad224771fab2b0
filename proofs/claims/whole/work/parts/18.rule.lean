theorem p18J6_bitCount_0f7a4_a0 {k : Nat} {Q : Option Value → rm_H → Prop} {n0 n : Nat} {L : rm_L} {st : List Value} {H : rm_H} {c s : Nat} : rm_p mJ6_bitCount_0f7a4 tJ6_bitCount_0f7a4 [] k Q n0 (n + 1) 0 L st H c s = rm_w mJ6_bitCount_0f7a4 k Q n0 (rm_p mJ6_bitCount_0f7a4 tJ6_bitCount_0f7a4 [] k Q n0 n) bJ6_bitCount_0f7a4_0 0 L st H c s := propext Iff.rfl
theorem p18X5_isSo_a0 {k : Nat} {Q : Option Value → rm_H → Prop} {n0 n : Nat} {L : rm_L} {st : List Value} {H : rm_H} {c s : Nat} : rm_p mX5_isSo tX5_isSo [] k Q n0 (n + 1) 0 L st H c s = rm_w mX5_isSo k Q n0 (rm_p mX5_isSo tX5_isSo [] k Q n0 n) bX5_isSo_0 0 L st H c s := propext Iff.rfl
theorem p18X5_isSo_a44 {k : Nat} {Q : Option Value → rm_H → Prop} {n0 n : Nat} {L : rm_L} {st : List Value} {H : rm_H} {c s : Nat} : rm_p mX5_isSo tX5_isSo [] k Q n0 (n + 1) 44 L st H c s = rm_w mX5_isSo k Q n0 (rm_p mX5_isSo tX5_isSo [] k Q n0 n) bX5_isSo_44 44 L st H c s := propext Iff.rfl
theorem p18X5_isSo_a54 {k : Nat} {Q : Option Value → rm_H → Prop} {n0 n : Nat} {L : rm_L} {st : List Value} {H : rm_H} {c s : Nat} : rm_p mX5_isSo tX5_isSo [] k Q n0 (n + 1) 54 L st H c s = rm_w mX5_isSo k Q n0 (rm_p mX5_isSo tX5_isSo [] k Q n0 n) bX5_isSo_54 54 L st H c s := propext Iff.rfl
theorem p18X5_isSo_a55 {k : Nat} {Q : Option Value → rm_H → Prop} {n0 n : Nat} {L : rm_L} {st : List Value} {H : rm_H} {c s : Nat} : rm_p mX5_isSo tX5_isSo [] k Q n0 (n + 1) 55 L st H c s = rm_w mX5_isSo k Q n0 (rm_p mX5_isSo tX5_isSo [] k Q n0 n) bX5_isSo_55 55 L st H c s := propext Iff.rfl
theorem p18X5_isSo_a56 {k : Nat} {Q : Option Value → rm_H → Prop} {n0 n : Nat} {L : rm_L} {st : List Value} {H : rm_H} {c s : Nat} : rm_p mX5_isSo tX5_isSo [] k Q n0 (n + 1) 56 L st H c s = rm_w mX5_isSo k Q n0 (rm_p mX5_isSo tX5_isSo [] k Q n0 n) bX5_isSo_56 56 L st H c s := propext Iff.rfl
theorem p18X5_isSo_a66 {k : Nat} {Q : Option Value → rm_H → Prop} {n0 n : Nat} {L : rm_L} {st : List Value} {H : rm_H} {c s : Nat} : rm_p mX5_isSo tX5_isSo [] k Q n0 (n + 1) 66 L st H c s = rm_w mX5_isSo k Q n0 (rm_p mX5_isSo tX5_isSo [] k Q n0 n) bX5_isSo_66 66 L st H c s := propext Iff.rfl
theorem p18X5_isSo_a67 {k : Nat} {Q : Option Value → rm_H → Prop} {n0 n : Nat} {L : rm_L} {st : List Value} {H : rm_H} {c s : Nat} : rm_p mX5_isSo tX5_isSo [] k Q n0 (n + 1) 67 L st H c s = rm_w mX5_isSo k Q n0 (rm_p mX5_isSo tX5_isSo [] k Q n0 n) bX5_isSo_67 67 L st H c s := propext Iff.rfl
theorem p18X5_isSo_a68 {k : Nat} {Q : Option Value → rm_H → Prop} {n0 n : Nat} {L : rm_L} {st : List Value} {H : rm_H} {c s : Nat} : rm_p mX5_isSo tX5_isSo [] k Q n0 (n + 1) 68 L st H c s = rm_w mX5_isSo k Q n0 (rm_p mX5_isSo tX5_isSo [] k Q n0 n) bX5_isSo_68 68 L st H c s := propext Iff.rfl
theorem p18X5_isSo_a78 {k : Nat} {Q : Option Value → rm_H → Prop} {n0 n : Nat} {L : rm_L} {st : List Value} {H : rm_H} {c s : Nat} : rm_p mX5_isSo tX5_isSo [] k Q n0 (n + 1) 78 L st H c s = rm_w mX5_isSo k Q n0 (rm_p mX5_isSo tX5_isSo [] k Q n0 n) bX5_isSo_78 78 L st H c s := propext Iff.rfl
theorem p18X5_isSo_a79 {k : Nat} {Q : Option Value → rm_H → Prop} {n0 n : Nat} {L : rm_L} {st : List Value} {H : rm_H} {c s : Nat} : rm_p mX5_isSo tX5_isSo [] k Q n0 (n + 1) 79 L st H c s = rm_w mX5_isSo k Q n0 (rm_p mX5_isSo tX5_isSo [] k Q n0 n) bX5_isSo_79 79 L st H c s := propext Iff.rfl
theorem p18X5_isSo_a80 {k : Nat} {Q : Option Value → rm_H → Prop} {n0 n : Nat} {L : rm_L} {st : List Value} {H : rm_H} {c s : Nat} : rm_p mX5_isSo tX5_isSo [] k Q n0 (n + 1) 80 L st H c s = rm_w mX5_isSo k Q n0 (rm_p mX5_isSo tX5_isSo [] k Q n0 n) bX5_isSo_80 80 L st H c s := propext Iff.rfl
theorem p18X5_isSo_a90 {k : Nat} {Q : Option Value → rm_H → Prop} {n0 n : Nat} {L : rm_L} {st : List Value} {H : rm_H} {c s : Nat} : rm_p mX5_isSo tX5_isSo [] k Q n0 (n + 1) 90 L st H c s = rm_w mX5_isSo k Q n0 (rm_p mX5_isSo tX5_isSo [] k Q n0 n) bX5_isSo_90 90 L st H c s := propext Iff.rfl
theorem p18X5_isSo_a91 {k : Nat} {Q : Option Value → rm_H → Prop} {n0 n : Nat} {L : rm_L} {st : List Value} {H : rm_H} {c s : Nat} : rm_p mX5_isSo tX5_isSo [] k Q n0 (n + 1) 91 L st H c s = rm_w mX5_isSo k Q n0 (rm_p mX5_isSo tX5_isSo [] k Q n0 n) bX5_isSo_91 91 L st H c s := propext Iff.rfl
theorem p18X5_isSo_a92 {k : Nat} {Q : Option Value → rm_H → Prop} {n0 n : Nat} {L : rm_L} {st : List Value} {H : rm_H} {c s : Nat} : rm_p mX5_isSo tX5_isSo [] k Q n0 (n + 1) 92 L st H c s = rm_w mX5_isSo k Q n0 (rm_p mX5_isSo tX5_isSo [] k Q n0 n) bX5_isSo_92 92 L st H c s := propext Iff.rfl
theorem p18X5_isSo_a102 {k : Nat} {Q : Option Value → rm_H → Prop} {n0 n : Nat} {L : rm_L} {st : List Value} {H : rm_H} {c s : Nat} : rm_p mX5_isSo tX5_isSo [] k Q n0 (n + 1) 102 L st H c s = rm_w mX5_isSo k Q n0 (rm_p mX5_isSo tX5_isSo [] k Q n0 n) bX5_isSo_102 102 L st H c s := propext Iff.rfl
theorem p18X5_isSo_a103 {k : Nat} {Q : Option Value → rm_H → Prop} {n0 n : Nat} {L : rm_L} {st : List Value} {H : rm_H} {c s : Nat} : rm_p mX5_isSo tX5_isSo [] k Q n0 (n + 1) 103 L st H c s = rm_w mX5_isSo k Q n0 (rm_p mX5_isSo tX5_isSo [] k Q n0 n) bX5_isSo_103 103 L st H c s := propext Iff.rfl
/-! bitCount; Rule: isSo, joined -/
abbrev ush (x n : Int32) : Int32 := (x.toUInt32 >>> (n.toUInt32 &&& Int32.toUInt32 31)).toInt32
def bc1 (x : Int32) : Int32 := x - (ush x 1 &&& 1431655765)
def bc2 (x : Int32) : Int32 := (x &&& 858993459) + (ush x 2 &&& 858993459)
def bc3 (x : Int32) : Int32 := (x + ush x 4) &&& 252645135
def bc4 (x : Int32) : Int32 := x + ush x 8
def bc5 (x : Int32) : Int32 := x + ush x 16
/-- how many bits -/
def bcF (x : Int32) : Int32 := bc5 (bc4 (bc3 (bc2 (bc1 x)))) &&& 63
theorem c_bitCount (k : Nat) (x : Int32) (H : rm_H) : rm_Do mJ6_bitCount_0f7a4 k [.int x] H (fun v H1 => H1 = H ∧ v = some (.int (bcF x))) := by
  refine rm_m (L := [some (.int x)]) (c := 0) (s := 0) 3 [] ok_J6_bitCount_0f7a4 (by decide) rfl rfl rfl rfl ?_
  simp (disch := omega) only [w_nil, w_nop, w_iload, w_lload, w_aload, w_istore, w_lstore, w_astore, w_astoreN, w_iinc, w_iadd, w_isub, w_imul, w_iand, w_ior, w_ixor, w_ishl, w_ishr, w_iushr, w_idiv, w_irem, w_ladd, w_lsub, w_lmul, w_land, w_lor, w_ldiv, w_lrem, w_lshl, w_lshr, w_lcmp, w_i2l, w_l2i, w_i2b, w_i2c, w_dupI, w_popI, w_dupR, w_popR, w_dupN, w_popN, w_dup2, w_if, w_icmp, w_ifnull, w_ifnullN, w_ifnon, w_ifnonN, w_goto, w_table, w_look, w_getf, w_putf, w_alen, w_iaload, w_baload, w_laload, w_aaload, w_iastore, w_bastore, w_lastore, w_aastore, w_new, w_newarray, w_anewarray, w_static, w_virtual, w_special, w_obj, w_copyi, w_copyq, w_min, w_max, w_iret, w_lret, w_aret, w_aretN, w_ret, g_fg, g_I, g_J, g_R, g_N, g_1r, pw_0, pw_I, pw_R, pw_N, pw_n, pv_0, pv_1, pv_2, pv_3, pv_4, pv_5, pv_6, pv_7, pv_8, pv_9, pv_10, pv_11, pv_12, pv_13, pv_14, pv_15, pv_16, pv_17, pv_18, pv_19, cd_eq, cd_ne, cd_lt, cd_ge, cd_gt, cd_le, ft_0, ft_1, ft_2, ft_3, ft_3n, fk_0, fk_1, fk_2, fk_3, ps_n, ps_s, rf_s, rf_n, gl_0, gl_1, gl_2, gl_3, gl_4, gl_5, gl_6, gl_7, gl_8, gl_9, gl_10, gl_11, gl_12, gl_13, sl_0, sl_1, sl_2, sl_3, sl_4, sl_5, sl_6, sl_7, sl_8, sl_9, sl_10, sl_11, sl_12, sl_13, List.contains_nil, List.contains_cons, Nat.reduceBEq, Bool.false_or, Bool.or_false, Bool.true_or, Nat.reduceAdd, true_and, and_true, Nat.reduceLT, List.length_cons, List.length_nil, Nat.reduceLeDiff, List.drop_zero, List.take_zero, List.take_succ_cons, List.drop_succ_cons, List.reverse_cons, List.reverse_nil, List.nil_append, List.cons_append, List.append_nil, forall_const, rf_int, rf_bool, sr_sn, sn_0, sn_i, sn_l, sn_r, sn_n, ob_o, ar_o, al_o, aq_o, aln_o, oo_1, ao_1, lo_1, qo_1, lno_1, rv_o, rvv_0, rvv_1, rvv_2, rvv_3, rvv_4, rvv_5, rvv_6, rvv_7, rvv_8, rvv_9, rvv_10, rvv_11, rvv_12, List.length_set, List.set_set, hg_set, hg_ne, lt_00, lt_80, tn_8, lt_40, tn_4, tn_10, lt_100, le_88, Nat.zero_add, List.forall_mem_cons, List.not_mem_nil, or_01, or_11, Nat.reduceMul, not_false_eq_true, Bool.false_eq_true, if_false, if_true, ite_false, ite_true, Bool.or_true, Bool.false_eq_true, if_false, if_true, ite_false, ite_true, Bool.or_true, eq_self, and_self, reduceCtorEq, true_or, or_true, true_imp_iff, not_true_eq_false, false_imp_iff, implies_true, p18J6_bitCount_0f7a4_a0, bJ6_bitCount_0f7a4_0, rt_J6_bitCount_0f7a4, mc_J6_bitCount_0f7a4, ms_J6_bitCount_0f7a4]
  rfl
theorem cmp_lt (x y : Int64) : lg_cmp x y < 0 ↔ x < y := by
  unfold lg_cmp
  by_cases h : x > y
  · rw [if_pos h]
    exact ⟨fun q => absurd q (by decide), fun q => absurd q (lg_lt_not h)⟩
  · rw [if_neg h]
    by_cases h2 : x = y
    · rw [if_pos h2]
      exact ⟨fun q => absurd q (by decide), fun q => by rw [h2] at q; exact absurd q (fun z => lg_lt_not z z)⟩
    · rw [if_neg h2]
      exact ⟨fun _ => Int64.lt_of_le_of_ne (Int64.not_lt.mp h) h2, fun _ => by decide⟩
theorem cmp_gt (x y : Int64) : 0 < lg_cmp x y ↔ y < x := by
  unfold lg_cmp
  by_cases h : x > y
  · rw [if_pos h]
    exact ⟨fun _ => h, fun _ => by decide⟩
  · rw [if_neg h]
    by_cases h2 : x = y
    · rw [if_pos h2]
      exact ⟨fun q => absurd q (by decide), fun q => absurd q h⟩
    · rw [if_neg h2]
      exact ⟨fun q => absurd q (by decide), fun q => absurd q h⟩
theorem cmp_eq (x y : Int64) : lg_cmp x y = 0 ↔ x = y := by
  unfold lg_cmp
  by_cases h : x > y
  · rw [if_pos h]
    exact ⟨fun q => absurd q (by decide), fun q => by rw [q] at h; exact absurd h (fun z => lg_lt_not z z)⟩
  · rw [if_neg h]
    by_cases h2 : x = y
    · rw [if_pos h2]
      exact ⟨fun _ => h2, fun _ => rfl⟩
    · rw [if_neg h2]
      exact ⟨fun q => absurd q (by decide), fun q => absurd q h2⟩
theorem cmp_ge (x y : Int64) : 0 ≤ lg_cmp x y ↔ ¬ x < y := by rw [← Int32.not_lt, cmp_lt]
theorem cmp_le (x y : Int64) : lg_cmp x y ≤ 0 ↔ ¬ y < x := by rw [← Int32.not_lt, cmp_gt]
/-- a sign between two numbers: 60 <, 61 =, 256 <=, 257 >=, else > -/
def isF (t : Int32) (l r : Int64) : Int32 := if t = 60 then (if l < r then 1 else 0) else if t = 61 then (if l = r then 1 else 0) else if t = 256 then (if r < l then 0 else 1) else if t = 257 then (if l < r then 0 else 1) else if r < l then 1 else 0
theorem c_isSo (k : Nat) (t : Int32) (l r : Int64) (H : rm_H) : rm_Do mX5_isSo k [.int t, .long l, .long r] H (fun v H1 => H1 = H ∧ v = some (.int (isF t l r))) := by
  refine rm_m (L := [some (.int t), some (.long l), none, some (.long r), none]) (c := 0) (s := 0) 6 [] ok_X5_isSo (by decide) rfl rfl rfl rfl ?_
  simp (disch := omega) only [w_nil, w_nop, w_iload, w_lload, w_aload, w_istore, w_lstore, w_astore, w_astoreN, w_iinc, w_iadd, w_isub, w_imul, w_iand, w_ior, w_ixor, w_ishl, w_ishr, w_iushr, w_idiv, w_irem, w_ladd, w_lsub, w_lmul, w_land, w_lor, w_ldiv, w_lrem, w_lshl, w_lshr, w_lcmp, w_i2l, w_l2i, w_i2b, w_i2c, w_dupI, w_popI, w_dupR, w_popR, w_dupN, w_popN, w_dup2, w_if, w_icmp, w_ifnull, w_ifnullN, w_ifnon, w_ifnonN, w_goto, w_table, w_look, w_getf, w_putf, w_alen, w_iaload, w_baload, w_laload, w_aaload, w_iastore, w_bastore, w_lastore, w_aastore, w_new, w_newarray, w_anewarray, w_static, w_virtual, w_special, w_obj, w_copyi, w_copyq, w_min, w_max, w_iret, w_lret, w_aret, w_aretN, w_ret, g_fg, g_I, g_J, g_R, g_N, g_1r, pw_0, pw_I, pw_R, pw_N, pw_n, pv_0, pv_1, pv_2, pv_3, pv_4, pv_5, pv_6, pv_7, pv_8, pv_9, pv_10, pv_11, pv_12, pv_13, pv_14, pv_15, pv_16, pv_17, pv_18, pv_19, cd_eq, cd_ne, cd_lt, cd_ge, cd_gt, cd_le, ft_0, ft_1, ft_2, ft_3, ft_3n, fk_0, fk_1, fk_2, fk_3, ps_n, ps_s, rf_s, rf_n, gl_0, gl_1, gl_2, gl_3, gl_4, gl_5, gl_6, gl_7, gl_8, gl_9, gl_10, gl_11, gl_12, gl_13, sl_0, sl_1, sl_2, sl_3, sl_4, sl_5, sl_6, sl_7, sl_8, sl_9, sl_10, sl_11, sl_12, sl_13, List.contains_nil, List.contains_cons, Nat.reduceBEq, Bool.false_or, Bool.or_false, Bool.true_or, Nat.reduceAdd, true_and, and_true, Nat.reduceLT, List.length_cons, List.length_nil, Nat.reduceLeDiff, List.drop_zero, List.take_zero, List.take_succ_cons, List.drop_succ_cons, List.reverse_cons, List.reverse_nil, List.nil_append, List.cons_append, List.append_nil, forall_const, rf_int, rf_bool, sr_sn, sn_0, sn_i, sn_l, sn_r, sn_n, ob_o, ar_o, al_o, aq_o, aln_o, oo_1, ao_1, lo_1, qo_1, lno_1, rv_o, rvv_0, rvv_1, rvv_2, rvv_3, rvv_4, rvv_5, rvv_6, rvv_7, rvv_8, rvv_9, rvv_10, rvv_11, rvv_12, List.length_set, List.set_set, hg_set, hg_ne, lt_00, lt_80, tn_8, lt_40, tn_4, tn_10, lt_100, le_88, Nat.zero_add, List.forall_mem_cons, List.not_mem_nil, or_01, or_11, Nat.reduceMul, not_false_eq_true, Bool.false_eq_true, if_false, if_true, ite_false, ite_true, Bool.or_true, Bool.false_eq_true, if_false, if_true, ite_false, ite_true, Bool.or_true, eq_self, and_self, reduceCtorEq, true_or, or_true, true_imp_iff, not_true_eq_false, false_imp_iff, implies_true, p18X5_isSo_a0, bX5_isSo_0, p18X5_isSo_a44, bX5_isSo_44, p18X5_isSo_a54, bX5_isSo_54, p18X5_isSo_a55, bX5_isSo_55, p18X5_isSo_a56, bX5_isSo_56, p18X5_isSo_a66, bX5_isSo_66, p18X5_isSo_a67, bX5_isSo_67, p18X5_isSo_a68, bX5_isSo_68, p18X5_isSo_a78, bX5_isSo_78, p18X5_isSo_a79, bX5_isSo_79, p18X5_isSo_a80, bX5_isSo_80, p18X5_isSo_a90, bX5_isSo_90, p18X5_isSo_a91, bX5_isSo_91, p18X5_isSo_a92, bX5_isSo_92, p18X5_isSo_a102, bX5_isSo_102, p18X5_isSo_a103, bX5_isSo_103, rt_X5_isSo, mc_X5_isSo, ms_X5_isSo, cmp_lt, cmp_gt, cmp_eq, cmp_ge, cmp_le]
  refine ⟨⟨fun h => ?_, fun h => ?_, fun h => ?_, fun h => ?_⟩, fun h => ?_⟩ <;> grind (splits := 30) [isF]
