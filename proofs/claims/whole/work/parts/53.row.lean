theorem p53X11_row_a0 {k : Nat} {Q : Option Value → rm_H → Prop} {n0 n : Nat} {L : rm_L} {st : List Value} {H : rm_H} {c s : Nat} : rm_p mX11_row tX11_row [] k Q n0 (n + 1) 0 L st H c s = rm_w mX11_row k Q n0 (rm_p mX11_row tX11_row [] k Q n0 n) bX11_row_0 0 L st H c s := propext Iff.rfl
theorem p53X11_row_a25 {k : Nat} {Q : Option Value → rm_H → Prop} {n0 n : Nat} {L : rm_L} {st : List Value} {H : rm_H} {c s : Nat} : rm_p mX11_row tX11_row [] k Q n0 (n + 1) 25 L st H c s = rm_w mX11_row k Q n0 (rm_p mX11_row tX11_row [] k Q n0 n) bX11_row_25 25 L st H c s := propext Iff.rfl
theorem p53X11_row_a28 {k : Nat} {Q : Option Value → rm_H → Prop} {n0 n : Nat} {L : rm_L} {st : List Value} {H : rm_H} {c s : Nat} : rm_p mX11_row tX11_row [] k Q n0 (n + 1) 28 L st H c s = rm_w mX11_row k Q n0 (rm_p mX11_row tX11_row [] k Q n0 n) bX11_row_28 28 L st H c s := propext Iff.rfl
theorem p53X11_row_a36 {k : Nat} {Q : Option Value → rm_H → Prop} {n0 n : Nat} {L : rm_L} {st : List Value} {H : rm_H} {c s : Nat} : rm_p mX11_row tX11_row [] k Q n0 (n + 1) 36 L st H c s = rm_w mX11_row k Q n0 (rm_p mX11_row tX11_row [] k Q n0 n) bX11_row_36 36 L st H c s := propext Iff.rfl
theorem p53X11_row_a76 {k : Nat} {Q : Option Value → rm_H → Prop} {n0 n : Nat} {L : rm_L} {st : List Value} {H : rm_H} {c s : Nat} : rm_p mX11_row tX11_row [] k Q n0 (n + 1) 76 L st H c s = rm_w mX11_row k Q n0 (rm_p mX11_row tX11_row [] k Q n0 n) bX11_row_76 76 L st H c s := propext Iff.rfl
theorem p53X11_row_a87 {k : Nat} {Q : Option Value → rm_H → Prop} {n0 n : Nat} {L : rm_L} {st : List Value} {H : rm_H} {c s : Nat} : rm_p mX11_row tX11_row [] k Q n0 (n + 1) 87 L st H c s = rm_w mX11_row k Q n0 (rm_p mX11_row tX11_row [] k Q n0 n) bX11_row_87 87 L st H c s := propext Iff.rfl
/-! Public method: row -/
/-- two searches that have found alike -/
def zR (n i : Nat) (z y : rsZ) : Prop := z.1 = y.1 ∧ (¬ z.1 = 0 → z.2.1 = y.2.1 ∧ ∀ j, j < n → z.2.2.1 j = y.2.2.1 j) ∧ ∀ j, j < i → z.2.2.2 j = y.2.2.2 j
theorem rsF_R {n : Nat} : ∀ (d i : Nat) (v : stV) (z y : rsZ), i + d = n → zR n i z y → zR n i (rsF d i v z) (rsF d i v y)
  | 0, i, v, z, y, hd, h => by
    have hi : i = n := by omega
    subst hi
    obtain ⟨h1, h2, h3⟩ := h
    unfold rsF kbF
    by_cases c0 : z.1 = 0
    · rw [if_pos c0, if_pos (h1 ▸ c0)]
      exact ⟨rfl, fun _ => ⟨rfl, h3⟩, h3⟩
    · have h4 := h2 c0
      have c0' : ¬ y.1 = 0 := h1 ▸ c0
      rw [if_neg c0, if_neg c0', h4.1]
      by_cases c1 : balV v ≤ y.2.1
      · rw [if_pos c1, if_pos c1]
        exact ⟨h1, h2, h3⟩
      · rw [if_neg c1, if_neg c1]
        exact ⟨rfl, fun _ => ⟨rfl, h3⟩, h3⟩
  | d + 1, i, v, z, y, hd, h => by
    unfold rsF
    have step : ∀ (l : List Nat) (z y : rsZ), zR n i z y → zR n i (l.foldl (fun z p => by
        classical
        exact if rsC v p then rsF d (i + 1) (nxV p v) (z.1, z.2.1, z.2.2.1, upd z.2.2.2 i (nI p - 1)) else z) z) (l.foldl (fun z p => by
        classical
        exact if rsC v p then rsF d (i + 1) (nxV p v) (z.1, z.2.1, z.2.2.1, upd z.2.2.2 i (nI p - 1)) else z) y) := by
      intro l
      induction l with
      | nil => intro z y h; exact h
      | cons p l ih =>
        intro z y h
        rw [List.foldl_cons, List.foldl_cons]
        refine ih _ _ ?_
        by_cases hc : rsC v p
        · rw [if_pos hc, if_pos hc]
          have := rsF_R d (i + 1) (nxV p v) (z.1, z.2.1, z.2.2.1, upd z.2.2.2 i (nI p - 1)) (y.1, y.2.1, y.2.2.1, upd y.2.2.2 i (nI p - 1)) (by omega) ⟨h.1, h.2.1, fun j hj => by
            show upd z.2.2.2 i (nI p - 1) j = upd y.2.2.2 i (nI p - 1) j
            unfold upd
            by_cases hji : j = i
            · rw [if_pos hji, if_pos hji]
            · rw [if_neg hji, if_neg hji]
              exact h.2.2 j (by omega)⟩
          exact ⟨this.1, this.2.1, fun j hj => this.2.2 j (by omega)⟩
        · rw [if_neg hc, if_neg hc]
          exact h
    exact step _ z y h
theorem rsF_1 : ∀ (d i : Nat) (v : stV) (z : rsZ), ¬ (rsF d i v z).1 = 0
  | 0, i, v, z => by
    unfold rsF kbF
    split
    · exact (by decide : ¬ (1 : Int32) = 0)
    · split
      · assumption
      · exact (by decide : ¬ (1 : Int32) = 0)
  | d + 1, i, v, z => by
    unfold rsF
    have step : ∀ (l : List Nat) (z : rsZ), ¬ z.1 = 0 → ¬ (l.foldl (fun z p => by
        classical
        exact if rsC v p then rsF d (i + 1) (nxV p v) (z.1, z.2.1, z.2.2.1, upd z.2.2.2 i (nI p - 1)) else z) z).1 = 0 := by
      intro l
      induction l with
      | nil => intro z h; exact h
      | cons p l ih =>
        intro z h
        rw [List.foldl_cons]
        refine ih _ ?_
        by_cases hc : rsC v p
        · rw [if_pos hc]
          exact rsF_1 _ _ _ _
        · rw [if_neg hc]
          exact h
    have e : List.range 9 = 0 :: [1, 2, 3, 4, 5, 6, 7, 8] := by decide
    rw [e, List.foldl_cons]
    refine step _ _ ?_
    rw [if_pos (show rsC v 0 from Or.inl rfl)]
    exact rsF_1 _ _ _ _
noncomputable def rwV (n : Nat) (v : stV) : rsZ := rsF n 0 v (0, 0, fun _ => 0, fun _ => 0)
theorem rwV_eq (n : Nat) (v : stV) (z : Int32 × (Nat → Int32) × (Nat → Int32)) : (rsF n 0 v (0, z)).2.1 = (rwV n v).2.1 ∧ ∀ j, j < n → (rsF n 0 v (0, z)).2.2.1 j = (rwV n v).2.2.1 j := by
  have h := rsF_R (n := n) n 0 v (0, z) (0, 0, fun _ => 0, fun _ => 0) (by omega) ⟨rfl, fun g => absurd rfl g, fun j hj => absurd hj (by omega)⟩
  exact h.2.1 (rsF_1 _ _ _ _)
noncomputable def aRow (n x : Int32) (w : oV) : Int32 × oV := if tld w ∧ wn 1 n 4 ∧ wn 0 x 4 then ((if x ≤ n then (if x = 0 then (rwV n.toNatClampNeg (oS w)).2.1 - balV (oS w) else (rwV n.toNatClampNeg (oS w)).2.2.1 (x.toNatClampNeg - 1)) else -2), w) else (-100000, w)
theorem isO.rs {im : Nat → Prop} {H H1 : rm_H} {w : oV} {z z1 : rsZ} (h : isO im H w) (hz : isRS im H z) (g : sB (fun a => (94 ≤ a ∧ a ≤ 97) ∨ (103 ≤ a ∧ a ≤ 117)) H H1) (hz1 : isRS im H1 z1) : isO im H1 w := by
  have hp : ∀ i, (94 ≤ i ∧ i ≤ 97) ∨ (103 ≤ i ∧ i ≤ 117) → ¬ im i := hz.1
  obtain ⟨⟨rl, r, v, h1⟩, -, ⟨wb, y, h3⟩, F, h4⟩ := h.2.2.2.2.2.2.2.1
  refine h.sc g hp (fun i hi => by omega) ⟨⟨rl, r, v, h1.sB g hp (fun i hi => ?_)⟩, ⟨_, hz1⟩, ⟨wb, y, h3.sB g hp (fun i hi => ?_)⟩, F, g.get (by omega) h4⟩
  · unfold tP; omega
  · unfold wsC; omega
theorem p_row (n x : Int32) : okP mX11_row [.int n, .int x] (aRow n x) := by
  intro im H w k hk h
  obtain ⟨j, rfl⟩ : ∃ j, k = j + 1 := ⟨k - 1, by omega⟩
  refine g_row (by omega) h (fun hc n0 => ?_)
  obtain ⟨m, hm1, hm2, rfl, hm⟩ := wn_nat (a := 1) (b := 4) rfl rfl (by omega) hc.2.1
  obtain ⟨y, hy1, hy2, rfl, hy⟩ := wn_nat (a := 0) (b := 4) rfl rfl (by omega) hc.2.2
  rw [hm, hy]
  obtain ⟨r, hw⟩ := h.ww
  obtain ⟨z, hz⟩ := h.2.2.2.2.2.2.2.1.2.1
  have z94 := hz.2.1
  refine rm_from 4 [] ok_X11_row atX11_row_28 ?_
  by_cases c0 : nI y ≤ nI m
  · rw [if_pos c0]
    simp (disch := first | assumption | decide | omega | (simp only [List.length_set]; omega)) only [w_nil, w_nop, w_iload, w_lload, w_aload, w_istore, w_lstore, w_astore, w_astoreN, w_iinc, w_iadd, w_isub, w_imul, w_iand, w_ior, w_ixor, w_ishl, w_ishr, w_iushr, w_idiv, w_irem, w_ladd, w_lsub, w_lmul, w_land, w_lor, w_ldiv, w_lrem, w_lshl, w_lshr, w_lcmp, w_i2l, w_l2i, w_i2b, w_i2c, w_dupI, w_popI, w_dupR, w_popR, w_dupN, w_popN, w_dup2, w_ifnull, w_ifnullN, w_ifnon, w_ifnonN, w_goto, w_getf, w_putf, w_alen, w_iaload, w_baload, w_laload, w_aaload, w_iastore, w_bastore, w_lastore, w_aastore, w_new, w_newarray, w_anewarray, w_static, w_virtual, w_special, w_obj, w_copyi, w_copyq, w_min, w_max, w_iret, w_lret, w_aret, w_aretN, w_ret, g_fg, g_I, g_J, g_R, g_N, g_1r, pw_0, pw_I, pw_R, pw_N, pw_n, pv_0, pv_1, pv_2, pv_3, pv_4, pv_5, pv_6, pv_7, pv_8, pv_9, pv_10, pv_11, pv_12, pv_13, pv_14, pv_15, pv_16, pv_17, pv_18, pv_19, cd_eq, cd_ne, cd_lt, cd_ge, cd_gt, cd_le, ft_0, ft_1, ft_2, ft_3, ft_3n, fk_0, fk_1, fk_2, fk_3, ps_n, ps_s, rf_s, rf_n, gl_0, gl_1, gl_2, gl_3, gl_4, gl_5, gl_6, gl_7, gl_8, gl_9, gl_10, gl_11, gl_12, gl_13, sl_0, sl_1, sl_2, sl_3, sl_4, sl_5, sl_6, sl_7, sl_8, sl_9, sl_10, sl_11, sl_12, sl_13, List.contains_nil, List.contains_cons, Nat.reduceBEq, Bool.false_or, Bool.or_false, Bool.true_or, Nat.reduceAdd, true_and, and_true, Nat.reduceLT, List.length_cons, List.length_nil, Nat.reduceLeDiff, List.drop_zero, List.take_zero, List.take_succ_cons, List.drop_succ_cons, List.reverse_cons, List.reverse_nil, List.nil_append, List.cons_append, List.append_nil, forall_const, rf_int, rf_bool, sr_sn, sn_0, sn_i, sn_l, sn_r, sn_n, ob_o, ar_o, al_o, aq_o, aln_o, oo_1, ao_1, lo_1, qo_1, lno_1, rv_o, rvv_0, rvv_1, rvv_2, rvv_3, rvv_4, rvv_5, rvv_6, rvv_7, rvv_8, rvv_9, rvv_10, rvv_11, rvv_12, List.length_set, List.set_set, hg_set, hg_ne, lt_00, lt_80, tn_8, lt_40, tn_4, tn_10, lt_100, le_88, Nat.zero_add, or_01, or_11, Nat.reduceMul, not_false_eq_true, Bool.false_eq_true, if_false, if_true, ite_false, ite_true, Bool.or_true, Bool.false_eq_true, if_false, if_true, ite_false, ite_true, Bool.or_true, eq_self, and_self, reduceCtorEq, true_or, or_true, true_imp_iff, not_true_eq_false, false_imp_iff, implies_true, u_zeqT, u_zeqF, u_zneT, u_zneF, u_zltT, u_zltF, u_zgeT, u_zgeF, u_zgtT, u_zgtF, u_zleT, u_zleF, u_ceqT, u_ceqF, u_cneT, u_cneF, u_cltT, u_cltF, u_cgeT, u_cgeF, u_cgtT, u_cgtF, u_cleT, u_cleF, sw_T, sw_F, v_table, v_look, sw_0, Nat.reduceSub, p53X11_row_a0, bX11_row_0, p53X11_row_a25, bX11_row_25, p53X11_row_a28, bX11_row_28, p53X11_row_a36, bX11_row_36, p53X11_row_a76, bX11_row_76, p53X11_row_a87, bX11_row_87, rt_X11_row, mc_X11_row, ms_X11_row, mc_X11_isTold, ms_X11_isTold, ci_X11_isTold, al_X11_isTold, mc_X11_isWithin, ms_X11_isWithin, ci_X11_isWithin, al_X11_isWithin, mc_X4_find, ms_X4_find, ci_X4_find, al_X4_find, mc_X7_balance, ms_X7_balance, ci_X7_balance, al_X7_balance, hw.o, hw.i9, z94]
    refine (c_find (by omega) (by omega) (by omega) (by omega) (by omega) (by omega) (by omega) hz hw.2.1.ss).go ?_
    rintro H1 ⟨q1, b1⟩ _
    have h1 := h.rs hz b1 q1
    have hfr : frM H H1 := frM.x b1 (fun i hi => by omega)
    have i1 : isI im H1 9 r (oI w) := hw.2.1.sB b1 hz.1 (fun i hi => by unfold iP; omega)
    have e := rwV_eq m (oS w) z.2
    by_cases cy : nI y = 0
    · rw [if_pos cy]
      simp (disch := first | assumption | decide | omega | (simp only [List.length_set]; omega)) only [w_nil, w_nop, w_iload, w_lload, w_aload, w_istore, w_lstore, w_astore, w_astoreN, w_iinc, w_iadd, w_isub, w_imul, w_iand, w_ior, w_ixor, w_ishl, w_ishr, w_iushr, w_idiv, w_irem, w_ladd, w_lsub, w_lmul, w_land, w_lor, w_ldiv, w_lrem, w_lshl, w_lshr, w_lcmp, w_i2l, w_l2i, w_i2b, w_i2c, w_dupI, w_popI, w_dupR, w_popR, w_dupN, w_popN, w_dup2, w_ifnull, w_ifnullN, w_ifnon, w_ifnonN, w_goto, w_getf, w_putf, w_alen, w_iaload, w_baload, w_laload, w_aaload, w_iastore, w_bastore, w_lastore, w_aastore, w_new, w_newarray, w_anewarray, w_static, w_virtual, w_special, w_obj, w_copyi, w_copyq, w_min, w_max, w_iret, w_lret, w_aret, w_aretN, w_ret, g_fg, g_I, g_J, g_R, g_N, g_1r, pw_0, pw_I, pw_R, pw_N, pw_n, pv_0, pv_1, pv_2, pv_3, pv_4, pv_5, pv_6, pv_7, pv_8, pv_9, pv_10, pv_11, pv_12, pv_13, pv_14, pv_15, pv_16, pv_17, pv_18, pv_19, cd_eq, cd_ne, cd_lt, cd_ge, cd_gt, cd_le, ft_0, ft_1, ft_2, ft_3, ft_3n, fk_0, fk_1, fk_2, fk_3, ps_n, ps_s, rf_s, rf_n, gl_0, gl_1, gl_2, gl_3, gl_4, gl_5, gl_6, gl_7, gl_8, gl_9, gl_10, gl_11, gl_12, gl_13, sl_0, sl_1, sl_2, sl_3, sl_4, sl_5, sl_6, sl_7, sl_8, sl_9, sl_10, sl_11, sl_12, sl_13, List.contains_nil, List.contains_cons, Nat.reduceBEq, Bool.false_or, Bool.or_false, Bool.true_or, Nat.reduceAdd, true_and, and_true, Nat.reduceLT, List.length_cons, List.length_nil, Nat.reduceLeDiff, List.drop_zero, List.take_zero, List.take_succ_cons, List.drop_succ_cons, List.reverse_cons, List.reverse_nil, List.nil_append, List.cons_append, List.append_nil, forall_const, rf_int, rf_bool, sr_sn, sn_0, sn_i, sn_l, sn_r, sn_n, ob_o, ar_o, al_o, aq_o, aln_o, oo_1, ao_1, lo_1, qo_1, lno_1, rv_o, rvv_0, rvv_1, rvv_2, rvv_3, rvv_4, rvv_5, rvv_6, rvv_7, rvv_8, rvv_9, rvv_10, rvv_11, rvv_12, List.length_set, List.set_set, hg_set, hg_ne, lt_00, lt_80, tn_8, lt_40, tn_4, tn_10, lt_100, le_88, Nat.zero_add, or_01, or_11, Nat.reduceMul, not_false_eq_true, Bool.false_eq_true, if_false, if_true, ite_false, ite_true, Bool.or_true, Bool.false_eq_true, if_false, if_true, ite_false, ite_true, Bool.or_true, eq_self, and_self, reduceCtorEq, true_or, or_true, true_imp_iff, not_true_eq_false, false_imp_iff, implies_true, u_zeqT, u_zeqF, u_zneT, u_zneF, u_zltT, u_zltF, u_zgeT, u_zgeF, u_zgtT, u_zgtF, u_zleT, u_zleF, u_ceqT, u_ceqF, u_cneT, u_cneF, u_cltT, u_cltF, u_cgeT, u_cgeF, u_cgtT, u_cgtF, u_cleT, u_cleF, sw_T, sw_F, v_table, v_look, sw_0, Nat.reduceSub, p53X11_row_a0, bX11_row_0, p53X11_row_a25, bX11_row_25, p53X11_row_a28, bX11_row_28, p53X11_row_a36, bX11_row_36, p53X11_row_a76, bX11_row_76, p53X11_row_a87, bX11_row_87, rt_X11_row, mc_X11_row, ms_X11_row, mc_X11_isTold, ms_X11_isTold, ci_X11_isTold, al_X11_isTold, mc_X11_isWithin, ms_X11_isWithin, ci_X11_isWithin, al_X11_isWithin, mc_X4_find, ms_X4_find, ci_X4_find, al_X4_find, mc_X7_balance, ms_X7_balance, ci_X7_balance, al_X7_balance, h1.o, q1.2.1, i1.i9, i1.s18]
      refine (c_balance i1.s18).same (fun _ => ?_)
      simp (disch := first | assumption | decide | omega | (simp only [List.length_set]; omega)) only [w_nil, w_nop, w_iload, w_lload, w_aload, w_istore, w_lstore, w_astore, w_astoreN, w_iinc, w_iadd, w_isub, w_imul, w_iand, w_ior, w_ixor, w_ishl, w_ishr, w_iushr, w_idiv, w_irem, w_ladd, w_lsub, w_lmul, w_land, w_lor, w_ldiv, w_lrem, w_lshl, w_lshr, w_lcmp, w_i2l, w_l2i, w_i2b, w_i2c, w_dupI, w_popI, w_dupR, w_popR, w_dupN, w_popN, w_dup2, w_ifnull, w_ifnullN, w_ifnon, w_ifnonN, w_goto, w_getf, w_putf, w_alen, w_iaload, w_baload, w_laload, w_aaload, w_iastore, w_bastore, w_lastore, w_aastore, w_new, w_newarray, w_anewarray, w_static, w_virtual, w_special, w_obj, w_copyi, w_copyq, w_min, w_max, w_iret, w_lret, w_aret, w_aretN, w_ret, g_fg, g_I, g_J, g_R, g_N, g_1r, pw_0, pw_I, pw_R, pw_N, pw_n, pv_0, pv_1, pv_2, pv_3, pv_4, pv_5, pv_6, pv_7, pv_8, pv_9, pv_10, pv_11, pv_12, pv_13, pv_14, pv_15, pv_16, pv_17, pv_18, pv_19, cd_eq, cd_ne, cd_lt, cd_ge, cd_gt, cd_le, ft_0, ft_1, ft_2, ft_3, ft_3n, fk_0, fk_1, fk_2, fk_3, ps_n, ps_s, rf_s, rf_n, gl_0, gl_1, gl_2, gl_3, gl_4, gl_5, gl_6, gl_7, gl_8, gl_9, gl_10, gl_11, gl_12, gl_13, sl_0, sl_1, sl_2, sl_3, sl_4, sl_5, sl_6, sl_7, sl_8, sl_9, sl_10, sl_11, sl_12, sl_13, List.contains_nil, List.contains_cons, Nat.reduceBEq, Bool.false_or, Bool.or_false, Bool.true_or, Nat.reduceAdd, true_and, and_true, Nat.reduceLT, List.length_cons, List.length_nil, Nat.reduceLeDiff, List.drop_zero, List.take_zero, List.take_succ_cons, List.drop_succ_cons, List.reverse_cons, List.reverse_nil, List.nil_append, List.cons_append, List.append_nil, forall_const, rf_int, rf_bool, sr_sn, sn_0, sn_i, sn_l, sn_r, sn_n, ob_o, ar_o, al_o, aq_o, aln_o, oo_1, ao_1, lo_1, qo_1, lno_1, rv_o, rvv_0, rvv_1, rvv_2, rvv_3, rvv_4, rvv_5, rvv_6, rvv_7, rvv_8, rvv_9, rvv_10, rvv_11, rvv_12, List.length_set, List.set_set, hg_set, hg_ne, lt_00, lt_80, tn_8, lt_40, tn_4, tn_10, lt_100, le_88, Nat.zero_add, or_01, or_11, Nat.reduceMul, not_false_eq_true, Bool.false_eq_true, if_false, if_true, ite_false, ite_true, Bool.or_true, Bool.false_eq_true, if_false, if_true, ite_false, ite_true, Bool.or_true, eq_self, and_self, reduceCtorEq, true_or, or_true, true_imp_iff, not_true_eq_false, false_imp_iff, implies_true, u_zeqT, u_zeqF, u_zneT, u_zneF, u_zltT, u_zltF, u_zgeT, u_zgeF, u_zgtT, u_zgtF, u_zleT, u_zleF, u_ceqT, u_ceqF, u_cneT, u_cneF, u_cltT, u_cltF, u_cgeT, u_cgeF, u_cgtT, u_cgtF, u_cleT, u_cleF, sw_T, sw_F, v_table, v_look, sw_0, Nat.reduceSub, p53X11_row_a0, bX11_row_0, p53X11_row_a25, bX11_row_25, p53X11_row_a28, bX11_row_28, p53X11_row_a36, bX11_row_36, p53X11_row_a76, bX11_row_76, p53X11_row_a87, bX11_row_87, rt_X11_row, mc_X11_row, ms_X11_row, mc_X11_isTold, ms_X11_isTold, ci_X11_isTold, al_X11_isTold, mc_X11_isWithin, ms_X11_isWithin, ci_X11_isWithin, al_X11_isWithin, mc_X4_find, ms_X4_find, ci_X4_find, al_X4_find, mc_X7_balance, ms_X7_balance, ci_X7_balance, al_X7_balance]
      rw [← e.1]
      exact ⟨rfl, ⟨im, h1⟩, hfr⟩
    · rw [if_neg cy]
      have y1 : 1 ≤ y := by
        rcases Nat.eq_zero_or_pos y with g | g
        · subst g; exact absurd rfl cy
        · exact g
      obtain ⟨y0, rfl⟩ : ∃ y0, y = y0 + 1 := ⟨y - 1, by omega⟩
      have hle : y0 + 1 ≤ m := (nI_leI (by omega) (by omega)).mp c0
      have hin : vp_in (nI y0) 4 := vp_in_nI (by omega) (by omega)
      have hcl : (nI y0).toNatClampNeg = y0 := nI_clamp (by omega)
      simp (disch := first | assumption | decide | omega | (simp only [List.length_set]; omega)) only [w_nil, w_nop, w_iload, w_lload, w_aload, w_istore, w_lstore, w_astore, w_astoreN, w_iinc, w_iadd, w_isub, w_imul, w_iand, w_ior, w_ixor, w_ishl, w_ishr, w_iushr, w_idiv, w_irem, w_ladd, w_lsub, w_lmul, w_land, w_lor, w_ldiv, w_lrem, w_lshl, w_lshr, w_lcmp, w_i2l, w_l2i, w_i2b, w_i2c, w_dupI, w_popI, w_dupR, w_popR, w_dupN, w_popN, w_dup2, w_ifnull, w_ifnullN, w_ifnon, w_ifnonN, w_goto, w_getf, w_putf, w_alen, w_iaload, w_baload, w_laload, w_aaload, w_iastore, w_bastore, w_lastore, w_aastore, w_new, w_newarray, w_anewarray, w_static, w_virtual, w_special, w_obj, w_copyi, w_copyq, w_min, w_max, w_iret, w_lret, w_aret, w_aretN, w_ret, g_fg, g_I, g_J, g_R, g_N, g_1r, pw_0, pw_I, pw_R, pw_N, pw_n, pv_0, pv_1, pv_2, pv_3, pv_4, pv_5, pv_6, pv_7, pv_8, pv_9, pv_10, pv_11, pv_12, pv_13, pv_14, pv_15, pv_16, pv_17, pv_18, pv_19, cd_eq, cd_ne, cd_lt, cd_ge, cd_gt, cd_le, ft_0, ft_1, ft_2, ft_3, ft_3n, fk_0, fk_1, fk_2, fk_3, ps_n, ps_s, rf_s, rf_n, gl_0, gl_1, gl_2, gl_3, gl_4, gl_5, gl_6, gl_7, gl_8, gl_9, gl_10, gl_11, gl_12, gl_13, sl_0, sl_1, sl_2, sl_3, sl_4, sl_5, sl_6, sl_7, sl_8, sl_9, sl_10, sl_11, sl_12, sl_13, List.contains_nil, List.contains_cons, Nat.reduceBEq, Bool.false_or, Bool.or_false, Bool.true_or, Nat.reduceAdd, true_and, and_true, Nat.reduceLT, List.length_cons, List.length_nil, Nat.reduceLeDiff, List.drop_zero, List.take_zero, List.take_succ_cons, List.drop_succ_cons, List.reverse_cons, List.reverse_nil, List.nil_append, List.cons_append, List.append_nil, forall_const, rf_int, rf_bool, sr_sn, sn_0, sn_i, sn_l, sn_r, sn_n, ob_o, ar_o, al_o, aq_o, aln_o, oo_1, ao_1, lo_1, qo_1, lno_1, rv_o, rvv_0, rvv_1, rvv_2, rvv_3, rvv_4, rvv_5, rvv_6, rvv_7, rvv_8, rvv_9, rvv_10, rvv_11, rvv_12, List.length_set, List.set_set, hg_set, hg_ne, lt_00, lt_80, tn_8, lt_40, tn_4, tn_10, lt_100, le_88, Nat.zero_add, or_01, or_11, Nat.reduceMul, not_false_eq_true, Bool.false_eq_true, if_false, if_true, ite_false, ite_true, Bool.or_true, Bool.false_eq_true, if_false, if_true, ite_false, ite_true, Bool.or_true, eq_self, and_self, reduceCtorEq, true_or, or_true, true_imp_iff, not_true_eq_false, false_imp_iff, implies_true, u_zeqT, u_zeqF, u_zneT, u_zneF, u_zltT, u_zltF, u_zgeT, u_zgeF, u_zgtT, u_zgtF, u_zleT, u_zleF, u_ceqT, u_ceqF, u_cneT, u_cneF, u_cltT, u_cltF, u_cgeT, u_cgeF, u_cgtT, u_cgtF, u_cleT, u_cleF, sw_T, sw_F, v_table, v_look, sw_0, Nat.reduceSub, p53X11_row_a0, bX11_row_0, p53X11_row_a25, bX11_row_25, p53X11_row_a28, bX11_row_28, p53X11_row_a36, bX11_row_36, p53X11_row_a76, bX11_row_76, p53X11_row_a87, bX11_row_87, rt_X11_row, mc_X11_row, ms_X11_row, mc_X11_isTold, ms_X11_isTold, ci_X11_isTold, al_X11_isTold, mc_X11_isWithin, ms_X11_isWithin, ci_X11_isWithin, al_X11_isWithin, mc_X4_find, ms_X4_find, ci_X4_find, al_X4_find, mc_X7_balance, ms_X7_balance, ci_X7_balance, al_X7_balance, h1.o, q1.2.1, q1.2.2.1, nI_dec, hin, hcl]
      rw [Nat.add_sub_cancel, ← e.2 y0 (by omega)]
      exact ⟨rfl, ⟨im, h1⟩, hfr⟩
  · rw [if_neg c0]
    simp (disch := first | assumption | decide | omega | (simp only [List.length_set]; omega)) only [w_nil, w_nop, w_iload, w_lload, w_aload, w_istore, w_lstore, w_astore, w_astoreN, w_iinc, w_iadd, w_isub, w_imul, w_iand, w_ior, w_ixor, w_ishl, w_ishr, w_iushr, w_idiv, w_irem, w_ladd, w_lsub, w_lmul, w_land, w_lor, w_ldiv, w_lrem, w_lshl, w_lshr, w_lcmp, w_i2l, w_l2i, w_i2b, w_i2c, w_dupI, w_popI, w_dupR, w_popR, w_dupN, w_popN, w_dup2, w_ifnull, w_ifnullN, w_ifnon, w_ifnonN, w_goto, w_getf, w_putf, w_alen, w_iaload, w_baload, w_laload, w_aaload, w_iastore, w_bastore, w_lastore, w_aastore, w_new, w_newarray, w_anewarray, w_static, w_virtual, w_special, w_obj, w_copyi, w_copyq, w_min, w_max, w_iret, w_lret, w_aret, w_aretN, w_ret, g_fg, g_I, g_J, g_R, g_N, g_1r, pw_0, pw_I, pw_R, pw_N, pw_n, pv_0, pv_1, pv_2, pv_3, pv_4, pv_5, pv_6, pv_7, pv_8, pv_9, pv_10, pv_11, pv_12, pv_13, pv_14, pv_15, pv_16, pv_17, pv_18, pv_19, cd_eq, cd_ne, cd_lt, cd_ge, cd_gt, cd_le, ft_0, ft_1, ft_2, ft_3, ft_3n, fk_0, fk_1, fk_2, fk_3, ps_n, ps_s, rf_s, rf_n, gl_0, gl_1, gl_2, gl_3, gl_4, gl_5, gl_6, gl_7, gl_8, gl_9, gl_10, gl_11, gl_12, gl_13, sl_0, sl_1, sl_2, sl_3, sl_4, sl_5, sl_6, sl_7, sl_8, sl_9, sl_10, sl_11, sl_12, sl_13, List.contains_nil, List.contains_cons, Nat.reduceBEq, Bool.false_or, Bool.or_false, Bool.true_or, Nat.reduceAdd, true_and, and_true, Nat.reduceLT, List.length_cons, List.length_nil, Nat.reduceLeDiff, List.drop_zero, List.take_zero, List.take_succ_cons, List.drop_succ_cons, List.reverse_cons, List.reverse_nil, List.nil_append, List.cons_append, List.append_nil, forall_const, rf_int, rf_bool, sr_sn, sn_0, sn_i, sn_l, sn_r, sn_n, ob_o, ar_o, al_o, aq_o, aln_o, oo_1, ao_1, lo_1, qo_1, lno_1, rv_o, rvv_0, rvv_1, rvv_2, rvv_3, rvv_4, rvv_5, rvv_6, rvv_7, rvv_8, rvv_9, rvv_10, rvv_11, rvv_12, List.length_set, List.set_set, hg_set, hg_ne, lt_00, lt_80, tn_8, lt_40, tn_4, tn_10, lt_100, le_88, Nat.zero_add, or_01, or_11, Nat.reduceMul, not_false_eq_true, Bool.false_eq_true, if_false, if_true, ite_false, ite_true, Bool.or_true, Bool.false_eq_true, if_false, if_true, ite_false, ite_true, Bool.or_true, eq_self, and_self, reduceCtorEq, true_or, or_true, true_imp_iff, not_true_eq_false, false_imp_iff, implies_true, u_zeqT, u_zeqF, u_zneT, u_zneF, u_zltT, u_zltF, u_zgeT, u_zgeF, u_zgtT, u_zgtF, u_zleT, u_zleF, u_ceqT, u_ceqF, u_cneT, u_cneF, u_cltT, u_cltF, u_cgeT, u_cgeF, u_cgtT, u_cgtF, u_cleT, u_cleF, sw_T, sw_F, v_table, v_look, sw_0, Nat.reduceSub, p53X11_row_a0, bX11_row_0, p53X11_row_a25, bX11_row_25, p53X11_row_a28, bX11_row_28, p53X11_row_a36, bX11_row_36, p53X11_row_a76, bX11_row_76, p53X11_row_a87, bX11_row_87, rt_X11_row, mc_X11_row, ms_X11_row, mc_X11_isTold, ms_X11_isTold, ci_X11_isTold, al_X11_isTold, mc_X11_isWithin, ms_X11_isWithin, ci_X11_isWithin, al_X11_isWithin, mc_X4_find, ms_X4_find, ci_X4_find, al_X4_find, mc_X7_balance, ms_X7_balance, ci_X7_balance, al_X7_balance]
    exact hw.q
