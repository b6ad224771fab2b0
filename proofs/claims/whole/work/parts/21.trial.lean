theorem p21X9_mostUrgent_c7_a0 {k : Nat} {Q : Option Value → rm_H → Prop} {n0 n : Nat} {L : rm_L} {st : List Value} {H : rm_H} {c s : Nat} : rm_p mX9_mostUrgent tX9_mostUrgent [7] k Q n0 (n + 1) 0 L st H c s = rm_w mX9_mostUrgent k Q n0 (rm_p mX9_mostUrgent tX9_mostUrgent [7] k Q n0 n) bX9_mostUrgent_0 0 L st H c s := propext Iff.rfl
theorem p21X9_mostUrgent_c7_a7 {k : Nat} {Q : Option Value → rm_H → Prop} {n0 n : Nat} {L : rm_L} {st : List Value} {H : rm_H} {c s : Nat} : rm_p mX9_mostUrgent tX9_mostUrgent [7] k Q n0 (n + 1) 7 L st H c s = rm_S mX9_mostUrgent k Q n0 7 L st H c s := propext Iff.rfl
theorem p21X9_mostUrgent_c7_a64 {k : Nat} {Q : Option Value → rm_H → Prop} {n0 n : Nat} {L : rm_L} {st : List Value} {H : rm_H} {c s : Nat} : rm_p mX9_mostUrgent tX9_mostUrgent [7] k Q n0 (n + 1) 64 L st H c s = rm_w mX9_mostUrgent k Q n0 (rm_p mX9_mostUrgent tX9_mostUrgent [7] k Q n0 n) bX9_mostUrgent_64 64 L st H c s := propext Iff.rfl
theorem p21X9_mostUrgent_c7_a70 {k : Nat} {Q : Option Value → rm_H → Prop} {n0 n : Nat} {L : rm_L} {st : List Value} {H : rm_H} {c s : Nat} : rm_p mX9_mostUrgent tX9_mostUrgent [7] k Q n0 (n + 1) 70 L st H c s = rm_w mX9_mostUrgent k Q n0 (rm_p mX9_mostUrgent tX9_mostUrgent [7] k Q n0 n) bX9_mostUrgent_70 70 L st H c s := propext Iff.rfl
theorem p21X9_mostAsked_c7_a0 {k : Nat} {Q : Option Value → rm_H → Prop} {n0 n : Nat} {L : rm_L} {st : List Value} {H : rm_H} {c s : Nat} : rm_p mX9_mostAsked tX9_mostAsked [7] k Q n0 (n + 1) 0 L st H c s = rm_w mX9_mostAsked k Q n0 (rm_p mX9_mostAsked tX9_mostAsked [7] k Q n0 n) bX9_mostAsked_0 0 L st H c s := propext Iff.rfl
theorem p21X9_mostAsked_c7_a7 {k : Nat} {Q : Option Value → rm_H → Prop} {n0 n : Nat} {L : rm_L} {st : List Value} {H : rm_H} {c s : Nat} : rm_p mX9_mostAsked tX9_mostAsked [7] k Q n0 (n + 1) 7 L st H c s = rm_S mX9_mostAsked k Q n0 7 L st H c s := propext Iff.rfl
theorem p21X9_mostAsked_c7_a68 {k : Nat} {Q : Option Value → rm_H → Prop} {n0 n : Nat} {L : rm_L} {st : List Value} {H : rm_H} {c s : Nat} : rm_p mX9_mostAsked tX9_mostAsked [7] k Q n0 (n + 1) 68 L st H c s = rm_w mX9_mostAsked k Q n0 (rm_p mX9_mostAsked tX9_mostAsked [7] k Q n0 n) bX9_mostAsked_68 68 L st H c s := propext Iff.rfl
theorem p21X9_mostAsked_c7_a74 {k : Nat} {Q : Option Value → rm_H → Prop} {n0 n : Nat} {L : rm_L} {st : List Value} {H : rm_H} {c s : Nat} : rm_p mX9_mostAsked tX9_mostAsked [7] k Q n0 (n + 1) 74 L st H c s = rm_w mX9_mostAsked k Q n0 (rm_p mX9_mostAsked tX9_mostAsked [7] k Q n0 n) bX9_mostAsked_74 74 L st H c s := propext Iff.rfl
/-! Trial: the most urgent, the most asked -/
theorem sfF_g {S vl : Nat → Int32} : ∀ (d i top : Nat) (g g2 : Nat → Int64), (∀ j, j < top → g j = g2 j) → sfF S vl d i top g = sfF S vl d i top g2
  | 0, _, _, _, _, _ => rfl
  | d + 1, i, top, g, g2, h => by
    have hu : ∀ (m : Nat) (x y : Int64), x = y → ∀ j, j < m + 1 → (m ≤ top) → vp_updL g m x j = vp_updL g2 m y j := by
      intro m x y hxy j hj hm
      unfold vp_updL
      by_cases h1 : j = m
      · rw [if_pos h1, if_pos h1, hxy]
      · rw [if_neg h1, if_neg h1]
        exact h j (by omega)
    unfold sfF
    by_cases hs : S i ≤ -100
    · rw [if_pos hs, if_pos hs]
      by_cases t16 : -100 - S i = 16
      · rw [if_pos t16, if_pos t16]
        by_cases t1 : top < 1
        · rw [if_pos t1, if_pos t1]
        · rw [if_neg t1, if_neg t1]
          exact h _ (by omega)
      · rw [if_neg t16, if_neg t16]
        by_cases t20 : -100 - S i = 20
        · rw [if_pos t20, if_pos t20]
          by_cases t1 : top < 1
          · rw [if_pos t1, if_pos t1]
            exact sfF_g d (i + 1) top g g2 h
          · rw [if_neg t1, if_neg t1]
            refine sfF_g d (i + 1) top _ _ (fun j hj => hu (top - 1) _ _ ?_ j (by omega) (by omega))
            rw [h (top - 1) (by omega)]
        · rw [if_neg t20, if_neg t20]
          by_cases t2 : top < 2
          · rw [if_pos t2, if_pos t2]
          · rw [if_neg t2, if_neg t2]
            by_cases t17 : -100 - S i = 17
            · rw [if_pos t17, if_pos t17, h (top - 1) (by omega), h (top - 2) (by omega)]
              rw [sfF_g d (i + 1) (top - 2) g g2 (fun j hj => h j (by omega))]
            · rw [if_neg t17, if_neg t17]
              refine sfF_g d (i + 1) (top - 1) _ _ (fun j hj => hu (top - 2) _ _ ?_ j (by omega) (by omega))
              rw [h (top - 1) (by omega), h (top - 2) (by omega)]
    · rw [if_neg hs, if_neg hs]
      by_cases t64 : top < 64
      · rw [if_pos t64, if_pos t64]
        exact sfF_g d (i + 1) (top + 1) _ _ (fun j hj => hu top _ _ rfl j hj (Nat.le_refl _))
      · rw [if_neg t64, if_neg t64]
/-- of those in op the one of least last day, of several the least: who, which day -/
def muF (op : Int32) (La : Nat → Int32) : Nat → Int32 × Int32
  | 0 => (-1, 61)
  | n + 1 => if bq op (nI n) = 0 then muF op La n else if (muF op La n).2 ≤ La n then muF op La n else (nI n, La n)
theorem muF_stop {op : Int32} {La : Nat → Int32} {i : Nat} (h : op >>> (nI i &&& 31) = 0) : ∀ m, i + m ≤ 8 → muF op La (i + m) = muF op La i
  | 0, _ => rfl
  | m + 1, hm => by
    have h1 : bq op (nI (i + m)) = 0 := (bq_0 (by omega)).mpr (sh_0 (by omega) h (by omega) (by omega))
    rw [show i + (m + 1) = (i + m) + 1 by omega, muF, if_pos h1]
    exact muF_stop h m (by omega)
/-- of those in op the one of greatest sum above 0, of several the least: who, how much -/
def maF (op : Int32) (sq : Nat → Int64) : Nat → Int32 × Int64
  | 0 => (-1, 0)
  | n + 1 => if bq op (nI n) = 0 then maF op sq n else if (maF op sq n).2 < sq n then (nI n, sq n) else maF op sq n
theorem maF_stop {op : Int32} {sq : Nat → Int64} {i : Nat} (h : op >>> (nI i &&& 31) = 0) : ∀ m, i + m ≤ 8 → maF op sq (i + m) = maF op sq i
  | 0, _ => rfl
  | m + 1, hm => by
    have h1 : bq op (nI (i + m)) = 0 := (bq_0 (by omega)).mpr (sh_0 (by omega) h (by omega) (by omega))
    rw [show i + (m + 1) = (i + m) + 1 by omega, maF, if_pos h1]
    exact maF_stop h m (by omega)
section TRI
variable {k a r t sk pw pa rr ss : Nat} {H : rm_H} {wk rwk : Int64} {dy kp ga lo wa eg an bu ls to ke ha qu op : Int32} {ru : Value} {W A Fr La S : Nat → Int32} {n : Nat}
theorem c_mostUrgent_loop {Q : Option Value → rm_H → Prop} {n0 : Nat} (hT : H[t]? = some (cTr a sk ru op)) (hA : H[a]? = some (cSt pw pa r wk dy kp ga lo wa eg an bu ls)) (hR : H[r]? = some (cRe r to ke ha qu rwk)) (hLa : H[r + 3]? = some (cI 8 La)) (hQ : Q (some (.int (muF op La 8).1)) H) : ∀ d i : Nat, 8 - i = d → i ≤ 8 → rm_S mX9_mostUrgent k Q n0 7 [some (.ref t), some (.int (muF op La i).1), some (.int (muF op La i).2), some (.int (nI i))] [] H 0 0 := by
  intro d
  induction d with
  | zero =>
    intro i hd hi
    have : i = 8 := by omega
    subst this
    refine rm_from 4 [7] ok_X9_mostUrgent atX9_mostUrgent_7 ?_
    simp (disch := omega) only [w_nil, w_nop, w_iload, w_lload, w_aload, w_istore, w_lstore, w_astore, w_astoreN, w_iinc, w_iadd, w_isub, w_imul, w_iand, w_ior, w_ixor, w_ishl, w_ishr, w_iushr, w_idiv, w_irem, w_ladd, w_lsub, w_lmul, w_land, w_lor, w_ldiv, w_lrem, w_lshl, w_lshr, w_lcmp, w_i2l, w_l2i, w_i2b, w_i2c, w_dupI, w_popI, w_dupR, w_popR, w_dupN, w_popN, w_dup2, w_if, w_icmp, w_ifnull, w_ifnullN, w_ifnon, w_ifnonN, w_goto, w_table, w_look, w_getf, w_putf, w_alen, w_iaload, w_baload, w_laload, w_aaload, w_iastore, w_bastore, w_lastore, w_aastore, w_new, w_newarray, w_anewarray, w_static, w_virtual, w_special, w_obj, w_copyi, w_copyq, w_min, w_max, w_iret, w_lret, w_aret, w_aretN, w_ret, g_fg, g_I, g_J, g_R, g_N, g_1r, pw_0, pw_I, pw_R, pw_N, pw_n, pv_0, pv_1, pv_2, pv_3, pv_4, pv_5, pv_6, pv_7, pv_8, pv_9, pv_10, pv_11, pv_12, pv_13, pv_14, pv_15, pv_16, pv_17, pv_18, pv_19, cd_eq, cd_ne, cd_lt, cd_ge, cd_gt, cd_le, ft_0, ft_1, ft_2, ft_3, ft_3n, fk_0, fk_1, fk_2, fk_3, ps_n, ps_s, rf_s, rf_n, gl_0, gl_1, gl_2, gl_3, gl_4, gl_5, gl_6, gl_7, gl_8, gl_9, gl_10, gl_11, gl_12, gl_13, sl_0, sl_1, sl_2, sl_3, sl_4, sl_5, sl_6, sl_7, sl_8, sl_9, sl_10, sl_11, sl_12, sl_13, List.contains_nil, List.contains_cons, Nat.reduceBEq, Bool.false_or, Bool.or_false, Bool.true_or, Nat.reduceAdd, true_and, and_true, Nat.reduceLT, List.length_cons, List.length_nil, Nat.reduceLeDiff, List.drop_zero, List.take_zero, List.take_succ_cons, List.drop_succ_cons, List.reverse_cons, List.reverse_nil, List.nil_append, List.cons_append, List.append_nil, forall_const, rf_int, rf_bool, sr_sn, sn_0, sn_i, sn_l, sn_r, sn_n, ob_o, ar_o, al_o, aq_o, aln_o, oo_1, ao_1, lo_1, qo_1, lno_1, rv_o, rvv_0, rvv_1, rvv_2, rvv_3, rvv_4, rvv_5, rvv_6, rvv_7, rvv_8, rvv_9, rvv_10, rvv_11, rvv_12, List.length_set, List.set_set, hg_set, hg_ne, lt_00, lt_80, tn_8, lt_40, tn_4, tn_10, lt_100, le_88, Nat.zero_add, List.forall_mem_cons, List.not_mem_nil, or_01, or_11, Nat.reduceMul, not_false_eq_true, Bool.false_eq_true, if_false, if_true, ite_false, ite_true, Bool.or_true, Bool.false_eq_true, if_false, if_true, ite_false, ite_true, Bool.or_true, eq_self, and_self, reduceCtorEq, true_or, or_true, true_imp_iff, not_true_eq_false, false_imp_iff, implies_true, p21X9_mostUrgent_c7_a0, bX9_mostUrgent_0, p21X9_mostUrgent_c7_a7, bX9_mostUrgent_7, p21X9_mostUrgent_c7_a64, bX9_mostUrgent_64, p21X9_mostUrgent_c7_a70, bX9_mostUrgent_70, rt_X9_mostUrgent, mc_X9_mostUrgent, ms_X9_mostUrgent, hT, hA, hR, hLa]
    refine ⟨fun _ => hQ, fun _ => ⟨fun _ => hQ, fun h => absurd (by decide : (8 : Int32) ≤ nI 8) h⟩⟩
  | succ d ih =>
    intro i hd hi
    have hc : (nI i).toNatClampNeg = i := nI_clamp (by omega)
    have hin : vp_in (nI i) 8 := vp_in_nI (by omega) (by omega)
    have hs := ih (i + 1) (by omega) (by omega)
    refine rm_from 4 [7] ok_X9_mostUrgent atX9_mostUrgent_7 ?_
    simp (disch := omega) only [w_nil, w_nop, w_iload, w_lload, w_aload, w_istore, w_lstore, w_astore, w_astoreN, w_iinc, w_iadd, w_isub, w_imul, w_iand, w_ior, w_ixor, w_ishl, w_ishr, w_iushr, w_idiv, w_irem, w_ladd, w_lsub, w_lmul, w_land, w_lor, w_ldiv, w_lrem, w_lshl, w_lshr, w_lcmp, w_i2l, w_l2i, w_i2b, w_i2c, w_dupI, w_popI, w_dupR, w_popR, w_dupN, w_popN, w_dup2, w_if, w_icmp, w_ifnull, w_ifnullN, w_ifnon, w_ifnonN, w_goto, w_table, w_look, w_getf, w_putf, w_alen, w_iaload, w_baload, w_laload, w_aaload, w_iastore, w_bastore, w_lastore, w_aastore, w_new, w_newarray, w_anewarray, w_static, w_virtual, w_special, w_obj, w_copyi, w_copyq, w_min, w_max, w_iret, w_lret, w_aret, w_aretN, w_ret, g_fg, g_I, g_J, g_R, g_N, g_1r, pw_0, pw_I, pw_R, pw_N, pw_n, pv_0, pv_1, pv_2, pv_3, pv_4, pv_5, pv_6, pv_7, pv_8, pv_9, pv_10, pv_11, pv_12, pv_13, pv_14, pv_15, pv_16, pv_17, pv_18, pv_19, cd_eq, cd_ne, cd_lt, cd_ge, cd_gt, cd_le, ft_0, ft_1, ft_2, ft_3, ft_3n, fk_0, fk_1, fk_2, fk_3, ps_n, ps_s, rf_s, rf_n, gl_0, gl_1, gl_2, gl_3, gl_4, gl_5, gl_6, gl_7, gl_8, gl_9, gl_10, gl_11, gl_12, gl_13, sl_0, sl_1, sl_2, sl_3, sl_4, sl_5, sl_6, sl_7, sl_8, sl_9, sl_10, sl_11, sl_12, sl_13, List.contains_nil, List.contains_cons, Nat.reduceBEq, Bool.false_or, Bool.or_false, Bool.true_or, Nat.reduceAdd, true_and, and_true, Nat.reduceLT, List.length_cons, List.length_nil, Nat.reduceLeDiff, List.drop_zero, List.take_zero, List.take_succ_cons, List.drop_succ_cons, List.reverse_cons, List.reverse_nil, List.nil_append, List.cons_append, List.append_nil, forall_const, rf_int, rf_bool, sr_sn, sn_0, sn_i, sn_l, sn_r, sn_n, ob_o, ar_o, al_o, aq_o, aln_o, oo_1, ao_1, lo_1, qo_1, lno_1, rv_o, rvv_0, rvv_1, rvv_2, rvv_3, rvv_4, rvv_5, rvv_6, rvv_7, rvv_8, rvv_9, rvv_10, rvv_11, rvv_12, List.length_set, List.set_set, hg_set, hg_ne, lt_00, lt_80, tn_8, lt_40, tn_4, tn_10, lt_100, le_88, Nat.zero_add, List.forall_mem_cons, List.not_mem_nil, or_01, or_11, Nat.reduceMul, not_false_eq_true, Bool.false_eq_true, if_false, if_true, ite_false, ite_true, Bool.or_true, Bool.false_eq_true, if_false, if_true, ite_false, ite_true, Bool.or_true, eq_self, and_self, reduceCtorEq, true_or, or_true, true_imp_iff, not_true_eq_false, false_imp_iff, implies_true, p21X9_mostUrgent_c7_a0, bX9_mostUrgent_0, p21X9_mostUrgent_c7_a7, bX9_mostUrgent_7, p21X9_mostUrgent_c7_a64, bX9_mostUrgent_64, p21X9_mostUrgent_c7_a70, bX9_mostUrgent_70, rt_X9_mostUrgent, mc_X9_mostUrgent, ms_X9_mostUrgent, hT, hA, hR, hLa, hc, hin, nI_inc]
    refine ⟨fun h => ?_, fun _ => ⟨fun h => absurd h (nI_ge (a := i) (b := 8) (by omega) (by omega)), fun _ => ⟨fun h1 => ?_, fun h1 => ⟨fun h2 => ?_, fun h2 => ?_⟩⟩⟩⟩
    · have h2 := muF_stop (La := La) h (8 - i) (by omega)
      rw [show i + (8 - i) = 8 by omega] at h2
      rw [← h2]; exact hQ
    · simpa only [muF, if_pos h1] using hs
    · simpa only [muF, if_neg h1, if_pos h2] using hs
    · simpa only [muF, if_neg h1, if_neg h2] using hs
theorem c_mostUrgent (hT : H[t]? = some (cTr a sk ru op)) (hA : H[a]? = some (cSt pw pa r wk dy kp ga lo wa eg an bu ls)) (hR : H[r]? = some (cRe r to ke ha qu rwk)) (hLa : H[r + 3]? = some (cI 8 La)) : rm_Do mX9_mostUrgent k [.ref t] H (fun v H1 => H1 = H ∧ v = some (.int (muF op La 8).1)) := by
  refine rm_m (L := [some (.ref t), none, none, none]) (c := 0) (s := 0) 3 [7] ok_X9_mostUrgent (by decide) rfl rfl rfl rfl ?_
  simp (disch := omega) only [w_nil, w_nop, w_iload, w_lload, w_aload, w_istore, w_lstore, w_astore, w_astoreN, w_iinc, w_iadd, w_isub, w_imul, w_iand, w_ior, w_ixor, w_ishl, w_ishr, w_iushr, w_idiv, w_irem, w_ladd, w_lsub, w_lmul, w_land, w_lor, w_ldiv, w_lrem, w_lshl, w_lshr, w_lcmp, w_i2l, w_l2i, w_i2b, w_i2c, w_dupI, w_popI, w_dupR, w_popR, w_dupN, w_popN, w_dup2, w_if, w_icmp, w_ifnull, w_ifnullN, w_ifnon, w_ifnonN, w_goto, w_table, w_look, w_getf, w_putf, w_alen, w_iaload, w_baload, w_laload, w_aaload, w_iastore, w_bastore, w_lastore, w_aastore, w_new, w_newarray, w_anewarray, w_static, w_virtual, w_special, w_obj, w_copyi, w_copyq, w_min, w_max, w_iret, w_lret, w_aret, w_aretN, w_ret, g_fg, g_I, g_J, g_R, g_N, g_1r, pw_0, pw_I, pw_R, pw_N, pw_n, pv_0, pv_1, pv_2, pv_3, pv_4, pv_5, pv_6, pv_7, pv_8, pv_9, pv_10, pv_11, pv_12, pv_13, pv_14, pv_15, pv_16, pv_17, pv_18, pv_19, cd_eq, cd_ne, cd_lt, cd_ge, cd_gt, cd_le, ft_0, ft_1, ft_2, ft_3, ft_3n, fk_0, fk_1, fk_2, fk_3, ps_n, ps_s, rf_s, rf_n, gl_0, gl_1, gl_2, gl_3, gl_4, gl_5, gl_6, gl_7, gl_8, gl_9, gl_10, gl_11, gl_12, gl_13, sl_0, sl_1, sl_2, sl_3, sl_4, sl_5, sl_6, sl_7, sl_8, sl_9, sl_10, sl_11, sl_12, sl_13, List.contains_nil, List.contains_cons, Nat.reduceBEq, Bool.false_or, Bool.or_false, Bool.true_or, Nat.reduceAdd, true_and, and_true, Nat.reduceLT, List.length_cons, List.length_nil, Nat.reduceLeDiff, List.drop_zero, List.take_zero, List.take_succ_cons, List.drop_succ_cons, List.reverse_cons, List.reverse_nil, List.nil_append, List.cons_append, List.append_nil, forall_const, rf_int, rf_bool, sr_sn, sn_0, sn_i, sn_l, sn_r, sn_n, ob_o, ar_o, al_o, aq_o, aln_o, oo_1, ao_1, lo_1, qo_1, lno_1, rv_o, rvv_0, rvv_1, rvv_2, rvv_3, rvv_4, rvv_5, rvv_6, rvv_7, rvv_8, rvv_9, rvv_10, rvv_11, rvv_12, List.length_set, List.set_set, hg_set, hg_ne, lt_00, lt_80, tn_8, lt_40, tn_4, tn_10, lt_100, le_88, Nat.zero_add, List.forall_mem_cons, List.not_mem_nil, or_01, or_11, Nat.reduceMul, not_false_eq_true, Bool.false_eq_true, if_false, if_true, ite_false, ite_true, Bool.or_true, Bool.false_eq_true, if_false, if_true, ite_false, ite_true, Bool.or_true, eq_self, and_self, reduceCtorEq, true_or, or_true, true_imp_iff, not_true_eq_false, false_imp_iff, implies_true, p21X9_mostUrgent_c7_a0, bX9_mostUrgent_0, p21X9_mostUrgent_c7_a7, bX9_mostUrgent_7, p21X9_mostUrgent_c7_a64, bX9_mostUrgent_64, p21X9_mostUrgent_c7_a70, bX9_mostUrgent_70, rt_X9_mostUrgent, mc_X9_mostUrgent, ms_X9_mostUrgent, hT]
  exact c_mostUrgent_loop hT hA hR hLa ⟨rfl, rfl⟩ 8 0 rfl (Nat.zero_le 8)
/-- the sum of a rule for q -/
abbrev sqF (S : Nat → Int32) (n : Nat) (dy kp ga lo wa op ha : Int32) (W A Fr La : Nat → Int32) (q : Nat) : Int64 := sfF S (fun w => vlF dy kp ga lo wa op ha W A Fr La q (nI w)) n 0 0 (fun _ => 0)
theorem c_mostAsked_loop {Q : Option Value → rm_H → Prop} {n0 : Nat} (hk : 3 ≤ k) (hn : n < 1000) (hw : ∀ i, i < n → -100 < S i → S i < 0 → ∃ w : Nat, w < 13 ∧ S i = -1 - nI w) : ∀ (d i : Nat) (g : Nat → Int64) (H : rm_H) (x5 : Option Value), 8 - i = d → i ≤ 8 → sfH a r t sk pw pa rr ss wk rwk dy kp ga lo wa eg an bu ls to ke ha qu op W A Fr La S n g H → (∀ g2, Q (some (.int (maF op (sqF S n dy kp ga lo wa op ha W A Fr La) 8).1)) (H.set sk (cJ 64 g2))) → rm_S mX9_mostAsked k Q n0 7 [some (.ref t), some (.int (maF op (sqF S n dy kp ga lo wa op ha W A Fr La) i).1), some (.long (maF op (sqF S n dy kp ga lo wa op ha W A Fr La) i).2), none, some (.int (nI i)), x5, none] [] H 0 0 := by
  obtain ⟨j, rfl⟩ : ∃ j, k = j + 1 := ⟨k - 1, by omega⟩
  intro d
  induction d with
  | zero =>
    intro i g H x5 hd hi hH hQ
    have : i = 8 := by omega
    subst this
    have hQ0 := hQ g
    rw [hs_same hH.2.2.2.2.2.2.2.2.2] at hQ0
    refine rm_from 4 [7] ok_X9_mostAsked atX9_mostAsked_7 ?_
    simp (disch := omega) only [w_nil, w_nop, w_iload, w_lload, w_aload, w_istore, w_lstore, w_astore, w_astoreN, w_iinc, w_iadd, w_isub, w_imul, w_iand, w_ior, w_ixor, w_ishl, w_ishr, w_iushr, w_idiv, w_irem, w_ladd, w_lsub, w_lmul, w_land, w_lor, w_ldiv, w_lrem, w_lshl, w_lshr, w_lcmp, w_i2l, w_l2i, w_i2b, w_i2c, w_dupI, w_popI, w_dupR, w_popR, w_dupN, w_popN, w_dup2, w_if, w_icmp, w_ifnull, w_ifnullN, w_ifnon, w_ifnonN, w_goto, w_table, w_look, w_getf, w_putf, w_alen, w_iaload, w_baload, w_laload, w_aaload, w_iastore, w_bastore, w_lastore, w_aastore, w_new, w_newarray, w_anewarray, w_static, w_virtual, w_special, w_obj, w_copyi, w_copyq, w_min, w_max, w_iret, w_lret, w_aret, w_aretN, w_ret, g_fg, g_I, g_J, g_R, g_N, g_1r, pw_0, pw_I, pw_R, pw_N, pw_n, pv_0, pv_1, pv_2, pv_3, pv_4, pv_5, pv_6, pv_7, pv_8, pv_9, pv_10, pv_11, pv_12, pv_13, pv_14, pv_15, pv_16, pv_17, pv_18, pv_19, cd_eq, cd_ne, cd_lt, cd_ge, cd_gt, cd_le, ft_0, ft_1, ft_2, ft_3, ft_3n, fk_0, fk_1, fk_2, fk_3, ps_n, ps_s, rf_s, rf_n, gl_0, gl_1, gl_2, gl_3, gl_4, gl_5, gl_6, gl_7, gl_8, gl_9, gl_10, gl_11, gl_12, gl_13, sl_0, sl_1, sl_2, sl_3, sl_4, sl_5, sl_6, sl_7, sl_8, sl_9, sl_10, sl_11, sl_12, sl_13, List.contains_nil, List.contains_cons, Nat.reduceBEq, Bool.false_or, Bool.or_false, Bool.true_or, Nat.reduceAdd, true_and, and_true, Nat.reduceLT, List.length_cons, List.length_nil, Nat.reduceLeDiff, List.drop_zero, List.take_zero, List.take_succ_cons, List.drop_succ_cons, List.reverse_cons, List.reverse_nil, List.nil_append, List.cons_append, List.append_nil, forall_const, rf_int, rf_bool, sr_sn, sn_0, sn_i, sn_l, sn_r, sn_n, ob_o, ar_o, al_o, aq_o, aln_o, oo_1, ao_1, lo_1, qo_1, lno_1, rv_o, rvv_0, rvv_1, rvv_2, rvv_3, rvv_4, rvv_5, rvv_6, rvv_7, rvv_8, rvv_9, rvv_10, rvv_11, rvv_12, List.length_set, List.set_set, hg_set, hg_ne, lt_00, lt_80, tn_8, lt_40, tn_4, tn_10, lt_100, le_88, Nat.zero_add, List.forall_mem_cons, List.not_mem_nil, or_01, or_11, Nat.reduceMul, not_false_eq_true, Bool.false_eq_true, if_false, if_true, ite_false, ite_true, Bool.or_true, Bool.false_eq_true, if_false, if_true, ite_false, ite_true, Bool.or_true, eq_self, and_self, reduceCtorEq, true_or, or_true, true_imp_iff, not_true_eq_false, false_imp_iff, implies_true, p21X9_mostAsked_c7_a0, bX9_mostAsked_0, p21X9_mostAsked_c7_a7, bX9_mostAsked_7, p21X9_mostAsked_c7_a68, bX9_mostAsked_68, p21X9_mostAsked_c7_a74, bX9_mostAsked_74, rt_X9_mostAsked, mc_X9_mostAsked, ms_X9_mostAsked, mc_X5_sumFor, ms_X5_sumFor, ci_X5_sumFor, al_X5_sumFor, hH.1]
    refine ⟨fun _ => hQ0, fun _ => ⟨fun _ => hQ0, fun h => absurd (by decide : (8 : Int32) ≤ nI 8) h⟩⟩
  | succ d ih =>
    intro i g H x5 hd hi hH hQ
    have hQ0 := hQ g
    rw [hs_same hH.2.2.2.2.2.2.2.2.2] at hQ0
    have hs := fun g H x5 h1 h2 => ih (i + 1) g H x5 (by omega) (by omega) h1 h2
    refine rm_from 4 [7] ok_X9_mostAsked atX9_mostAsked_7 ?_
    simp (disch := omega) only [w_nil, w_nop, w_iload, w_lload, w_aload, w_istore, w_lstore, w_astore, w_astoreN, w_iinc, w_iadd, w_isub, w_imul, w_iand, w_ior, w_ixor, w_ishl, w_ishr, w_iushr, w_idiv, w_irem, w_ladd, w_lsub, w_lmul, w_land, w_lor, w_ldiv, w_lrem, w_lshl, w_lshr, w_lcmp, w_i2l, w_l2i, w_i2b, w_i2c, w_dupI, w_popI, w_dupR, w_popR, w_dupN, w_popN, w_dup2, w_if, w_icmp, w_ifnull, w_ifnullN, w_ifnon, w_ifnonN, w_goto, w_table, w_look, w_getf, w_putf, w_alen, w_iaload, w_baload, w_laload, w_aaload, w_iastore, w_bastore, w_lastore, w_aastore, w_new, w_newarray, w_anewarray, w_static, w_virtual, w_special, w_obj, w_copyi, w_copyq, w_min, w_max, w_iret, w_lret, w_aret, w_aretN, w_ret, g_fg, g_I, g_J, g_R, g_N, g_1r, pw_0, pw_I, pw_R, pw_N, pw_n, pv_0, pv_1, pv_2, pv_3, pv_4, pv_5, pv_6, pv_7, pv_8, pv_9, pv_10, pv_11, pv_12, pv_13, pv_14, pv_15, pv_16, pv_17, pv_18, pv_19, cd_eq, cd_ne, cd_lt, cd_ge, cd_gt, cd_le, ft_0, ft_1, ft_2, ft_3, ft_3n, fk_0, fk_1, fk_2, fk_3, ps_n, ps_s, rf_s, rf_n, gl_0, gl_1, gl_2, gl_3, gl_4, gl_5, gl_6, gl_7, gl_8, gl_9, gl_10, gl_11, gl_12, gl_13, sl_0, sl_1, sl_2, sl_3, sl_4, sl_5, sl_6, sl_7, sl_8, sl_9, sl_10, sl_11, sl_12, sl_13, List.contains_nil, List.contains_cons, Nat.reduceBEq, Bool.false_or, Bool.or_false, Bool.true_or, Nat.reduceAdd, true_and, and_true, Nat.reduceLT, List.length_cons, List.length_nil, Nat.reduceLeDiff, List.drop_zero, List.take_zero, List.take_succ_cons, List.drop_succ_cons, List.reverse_cons, List.reverse_nil, List.nil_append, List.cons_append, List.append_nil, forall_const, rf_int, rf_bool, sr_sn, sn_0, sn_i, sn_l, sn_r, sn_n, ob_o, ar_o, al_o, aq_o, aln_o, oo_1, ao_1, lo_1, qo_1, lno_1, rv_o, rvv_0, rvv_1, rvv_2, rvv_3, rvv_4, rvv_5, rvv_6, rvv_7, rvv_8, rvv_9, rvv_10, rvv_11, rvv_12, List.length_set, List.set_set, hg_set, hg_ne, lt_00, lt_80, tn_8, lt_40, tn_4, tn_10, lt_100, le_88, Nat.zero_add, List.forall_mem_cons, List.not_mem_nil, or_01, or_11, Nat.reduceMul, not_false_eq_true, Bool.false_eq_true, if_false, if_true, ite_false, ite_true, Bool.or_true, Bool.false_eq_true, if_false, if_true, ite_false, ite_true, Bool.or_true, eq_self, and_self, reduceCtorEq, true_or, or_true, true_imp_iff, not_true_eq_false, false_imp_iff, implies_true, p21X9_mostAsked_c7_a0, bX9_mostAsked_0, p21X9_mostAsked_c7_a7, bX9_mostAsked_7, p21X9_mostAsked_c7_a68, bX9_mostAsked_68, p21X9_mostAsked_c7_a74, bX9_mostAsked_74, rt_X9_mostAsked, mc_X9_mostAsked, ms_X9_mostAsked, mc_X5_sumFor, ms_X5_sumFor, ci_X5_sumFor, al_X5_sumFor, hH.1, hH.2.2.2.2.2.2.2.1, nI_inc]
    refine ⟨fun h => ?_, fun _ => ⟨fun h => absurd h (nI_ge (a := i) (b := 8) (by omega) (by omega)), fun _ => ⟨fun h1 => ?_, fun h1 => ?_⟩⟩⟩
    · have h2 := maF_stop (sq := sqF S n dy kp ga lo wa op ha W A Fr La) h (8 - i) (by omega)
      rw [show i + (8 - i) = 8 by omega] at h2
      rw [← h2]; exact hQ0
    · refine (fun z => ?_ : ∀ z : True, _) trivial
      have h3 := hs g H x5 hH hQ
      simpa only [maF, if_pos h1] using h3
    · refine (c_sumFor (by omega) (by omega) hn hH hw).mono ?_
      rintro _ _ ⟨rfl, g2, rfl⟩ -
      have e : sfF S (fun w => vlF dy kp ga lo wa op ha W A Fr La i (nI w)) n 0 0 g = sqF S n dy kp ga lo wa op ha W A Fr La i := sfF_g n 0 0 _ _ (fun j hj => absurd hj (Nat.not_lt_zero j))
      simp (disch := omega) only [w_nil, w_nop, w_iload, w_lload, w_aload, w_istore, w_lstore, w_astore, w_astoreN, w_iinc, w_iadd, w_isub, w_imul, w_iand, w_ior, w_ixor, w_ishl, w_ishr, w_iushr, w_idiv, w_irem, w_ladd, w_lsub, w_lmul, w_land, w_lor, w_ldiv, w_lrem, w_lshl, w_lshr, w_lcmp, w_i2l, w_l2i, w_i2b, w_i2c, w_dupI, w_popI, w_dupR, w_popR, w_dupN, w_popN, w_dup2, w_if, w_icmp, w_ifnull, w_ifnullN, w_ifnon, w_ifnonN, w_goto, w_table, w_look, w_getf, w_putf, w_alen, w_iaload, w_baload, w_laload, w_aaload, w_iastore, w_bastore, w_lastore, w_aastore, w_new, w_newarray, w_anewarray, w_static, w_virtual, w_special, w_obj, w_copyi, w_copyq, w_min, w_max, w_iret, w_lret, w_aret, w_aretN, w_ret, g_fg, g_I, g_J, g_R, g_N, g_1r, pw_0, pw_I, pw_R, pw_N, pw_n, pv_0, pv_1, pv_2, pv_3, pv_4, pv_5, pv_6, pv_7, pv_8, pv_9, pv_10, pv_11, pv_12, pv_13, pv_14, pv_15, pv_16, pv_17, pv_18, pv_19, cd_eq, cd_ne, cd_lt, cd_ge, cd_gt, cd_le, ft_0, ft_1, ft_2, ft_3, ft_3n, fk_0, fk_1, fk_2, fk_3, ps_n, ps_s, rf_s, rf_n, gl_0, gl_1, gl_2, gl_3, gl_4, gl_5, gl_6, gl_7, gl_8, gl_9, gl_10, gl_11, gl_12, gl_13, sl_0, sl_1, sl_2, sl_3, sl_4, sl_5, sl_6, sl_7, sl_8, sl_9, sl_10, sl_11, sl_12, sl_13, List.contains_nil, List.contains_cons, Nat.reduceBEq, Bool.false_or, Bool.or_false, Bool.true_or, Nat.reduceAdd, true_and, and_true, Nat.reduceLT, List.length_cons, List.length_nil, Nat.reduceLeDiff, List.drop_zero, List.take_zero, List.take_succ_cons, List.drop_succ_cons, List.reverse_cons, List.reverse_nil, List.nil_append, List.cons_append, List.append_nil, forall_const, rf_int, rf_bool, sr_sn, sn_0, sn_i, sn_l, sn_r, sn_n, ob_o, ar_o, al_o, aq_o, aln_o, oo_1, ao_1, lo_1, qo_1, lno_1, rv_o, rvv_0, rvv_1, rvv_2, rvv_3, rvv_4, rvv_5, rvv_6, rvv_7, rvv_8, rvv_9, rvv_10, rvv_11, rvv_12, List.length_set, List.set_set, hg_set, hg_ne, lt_00, lt_80, tn_8, lt_40, tn_4, tn_10, lt_100, le_88, Nat.zero_add, List.forall_mem_cons, List.not_mem_nil, or_01, or_11, Nat.reduceMul, not_false_eq_true, Bool.false_eq_true, if_false, if_true, ite_false, ite_true, Bool.or_true, Bool.false_eq_true, if_false, if_true, ite_false, ite_true, Bool.or_true, eq_self, and_self, reduceCtorEq, true_or, or_true, true_imp_iff, not_true_eq_false, false_imp_iff, implies_true, p21X9_mostAsked_c7_a0, bX9_mostAsked_0, p21X9_mostAsked_c7_a7, bX9_mostAsked_7, p21X9_mostAsked_c7_a68, bX9_mostAsked_68, p21X9_mostAsked_c7_a74, bX9_mostAsked_74, rt_X9_mostAsked, mc_X9_mostAsked, ms_X9_mostAsked, mc_X5_sumFor, ms_X5_sumFor, ci_X5_sumFor, al_X5_sumFor, e, cmp_le, nI_inc]
      refine ⟨fun h2 => ?_, fun h2 => ?_⟩
      · have h3 := hs g2 _ (some (.long (sqF S n dy kp ga lo wa op ha W A Fr La i))) hH.set (fun g3 => by rw [List.set_set]; exact hQ g3)
        simpa only [maF, if_neg h1, if_neg h2] using h3
      · have h4 := Classical.not_not.mp h2
        have h3 := hs g2 _ (some (.long (sqF S n dy kp ga lo wa op ha W A Fr La i))) hH.set (fun g3 => by rw [List.set_set]; exact hQ g3)
        simpa only [maF, if_neg h1, if_pos h4] using h3
theorem c_mostAsked {g : Nat → Int64} (hk : 3 ≤ k) (hn : n < 1000) (hw : ∀ i, i < n → -100 < S i → S i < 0 → ∃ w : Nat, w < 13 ∧ S i = -1 - nI w) (hH : sfH a r t sk pw pa rr ss wk rwk dy kp ga lo wa eg an bu ls to ke ha qu op W A Fr La S n g H) : rm_Do mX9_mostAsked k [.ref t] H (fun v H1 => v = some (.int (maF op (sqF S n dy kp ga lo wa op ha W A Fr La) 8).1) ∧ ∃ g2, H1 = H.set sk (cJ 64 g2)) := by
  refine rm_m (L := [some (.ref t), none, none, none, none, none, none]) (c := 0) (s := 0) 3 [7] ok_X9_mostAsked (by decide) rfl rfl rfl rfl ?_
  simp (disch := omega) only [w_nil, w_nop, w_iload, w_lload, w_aload, w_istore, w_lstore, w_astore, w_astoreN, w_iinc, w_iadd, w_isub, w_imul, w_iand, w_ior, w_ixor, w_ishl, w_ishr, w_iushr, w_idiv, w_irem, w_ladd, w_lsub, w_lmul, w_land, w_lor, w_ldiv, w_lrem, w_lshl, w_lshr, w_lcmp, w_i2l, w_l2i, w_i2b, w_i2c, w_dupI, w_popI, w_dupR, w_popR, w_dupN, w_popN, w_dup2, w_if, w_icmp, w_ifnull, w_ifnullN, w_ifnon, w_ifnonN, w_goto, w_table, w_look, w_getf, w_putf, w_alen, w_iaload, w_baload, w_laload, w_aaload, w_iastore, w_bastore, w_lastore, w_aastore, w_new, w_newarray, w_anewarray, w_static, w_virtual, w_special, w_obj, w_copyi, w_copyq, w_min, w_max, w_iret, w_lret, w_aret, w_aretN, w_ret, g_fg, g_I, g_J, g_R, g_N, g_1r, pw_0, pw_I, pw_R, pw_N, pw_n, pv_0, pv_1, pv_2, pv_3, pv_4, pv_5, pv_6, pv_7, pv_8, pv_9, pv_10, pv_11, pv_12, pv_13, pv_14, pv_15, pv_16, pv_17, pv_18, pv_19, cd_eq, cd_ne, cd_lt, cd_ge, cd_gt, cd_le, ft_0, ft_1, ft_2, ft_3, ft_3n, fk_0, fk_1, fk_2, fk_3, ps_n, ps_s, rf_s, rf_n, gl_0, gl_1, gl_2, gl_3, gl_4, gl_5, gl_6, gl_7, gl_8, gl_9, gl_10, gl_11, gl_12, gl_13, sl_0, sl_1, sl_2, sl_3, sl_4, sl_5, sl_6, sl_7, sl_8, sl_9, sl_10, sl_11, sl_12, sl_13, List.contains_nil, List.contains_cons, Nat.reduceBEq, Bool.false_or, Bool.or_false, Bool.true_or, Nat.reduceAdd, true_and, and_true, Nat.reduceLT, List.length_cons, List.length_nil, Nat.reduceLeDiff, List.drop_zero, List.take_zero, List.take_succ_cons, List.drop_succ_cons, List.reverse_cons, List.reverse_nil, List.nil_append, List.cons_append, List.append_nil, forall_const, rf_int, rf_bool, sr_sn, sn_0, sn_i, sn_l, sn_r, sn_n, ob_o, ar_o, al_o, aq_o, aln_o, oo_1, ao_1, lo_1, qo_1, lno_1, rv_o, rvv_0, rvv_1, rvv_2, rvv_3, rvv_4, rvv_5, rvv_6, rvv_7, rvv_8, rvv_9, rvv_10, rvv_11, rvv_12, List.length_set, List.set_set, hg_set, hg_ne, lt_00, lt_80, tn_8, lt_40, tn_4, tn_10, lt_100, le_88, Nat.zero_add, List.forall_mem_cons, List.not_mem_nil, or_01, or_11, Nat.reduceMul, not_false_eq_true, Bool.false_eq_true, if_false, if_true, ite_false, ite_true, Bool.or_true, Bool.false_eq_true, if_false, if_true, ite_false, ite_true, Bool.or_true, eq_self, and_self, reduceCtorEq, true_or, or_true, true_imp_iff, not_true_eq_false, false_imp_iff, implies_true, p21X9_mostAsked_c7_a0, bX9_mostAsked_0, p21X9_mostAsked_c7_a7, bX9_mostAsked_7, p21X9_mostAsked_c7_a68, bX9_mostAsked_68, p21X9_mostAsked_c7_a74, bX9_mostAsked_74, rt_X9_mostAsked, mc_X9_mostAsked, ms_X9_mostAsked, mc_X5_sumFor, ms_X5_sumFor, ci_X5_sumFor, al_X5_sumFor, hH.1]
  exact c_mostAsked_loop hk hn hw 8 0 g H none rfl (Nat.zero_le 8) hH (fun g2 => ⟨rfl, g2, rfl⟩)
end TRI
