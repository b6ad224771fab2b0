theorem pb3X12_ruleClause_a0 {k : Nat} {Q : Option Value → rm_H → Prop} {n0 n : Nat} {L : rm_L} {st : List Value} {H : rm_H} {c s : Nat} : rm_p mX12_ruleClause tX12_ruleClause [] k Q n0 (n + 1) 0 L st H c s = rm_w mX12_ruleClause k Q n0 (rm_p mX12_ruleClause tX12_ruleClause [] k Q n0 n) bX12_ruleClause_0 0 L st H c s := propext Iff.rfl
theorem pb3X12_ruleClause_a26 {k : Nat} {Q : Option Value → rm_H → Prop} {n0 n : Nat} {L : rm_L} {st : List Value} {H : rm_H} {c s : Nat} : rm_p mX12_ruleClause tX12_ruleClause [] k Q n0 (n + 1) 26 L st H c s = rm_w mX12_ruleClause k Q n0 (rm_p mX12_ruleClause tX12_ruleClause [] k Q n0 n) bX12_ruleClause_26 26 L st H c s := propext Iff.rfl
theorem pb3X12_ruleClause_a39 {k : Nat} {Q : Option Value → rm_H → Prop} {n0 n : Nat} {L : rm_L} {st : List Value} {H : rm_H} {c s : Nat} : rm_p mX12_ruleClause tX12_ruleClause [] k Q n0 (n + 1) 39 L st H c s = rm_w mX12_ruleClause k Q n0 (rm_p mX12_ruleClause tX12_ruleClause [] k Q n0 n) bX12_ruleClause_39 39 L st H c s := propext Iff.rfl
theorem pb3X12_ruleClause_a104 {k : Nat} {Q : Option Value → rm_H → Prop} {n0 n : Nat} {L : rm_L} {st : List Value} {H : rm_H} {c s : Nat} : rm_p mX12_ruleClause tX12_ruleClause [] k Q n0 (n + 1) 104 L st H c s = rm_w mX12_ruleClause k Q n0 (rm_p mX12_ruleClause tX12_ruleClause [] k Q n0 n) bX12_ruleClause_104 104 L st H c s := propext Iff.rfl
/-! The reference's rules: a clause -/
def rpP (i : Nat) : Prop := i = 153 ∨ i = 172 ∨ i = 173 ∨ i = 175 ∨ i = 176 ∨ i = 177 ∨ i = 178
theorem rpP_c {i : Nat} (h : rpP i) : i = 153 ∨ i = 172 ∨ i = 173 ∨ i = 175 ∨ i = 176 ∨ i = 177 ∨ i = 178 := h
theorem rpP_i {i : Nat} (h : i = 153 ∨ i = 172 ∨ i = 173 ∨ i = 175 ∨ i = 176 ∨ i = 177 ∨ i = 178) : rpP i := h
/-- a row of the clauses' places -/
def crM (H : rm_H) (a slot : Nat) (X0 : Nat → Int32) (n : Nat) (v : Nat → Nat) : Prop := ∃ X, H[a]? = some (cI 72 X) ∧ (∀ x, x < 12 * slot → X x = X0 x) ∧ ∀ i, i < n → X (12 * slot + i) = nI (v i)
abbrev crT : Type := Nat × (Nat → Nat)
def rsM (H0 : rm_H) (f0 So0 Nu0 Su0 Te0 En0 y : Nat → Int32) (ln slot : Nat) (H : rm_H) (f : Nat → Int32) (s : psT) (a b d : crT) : Prop := psM H f So0 Nu0 y ln slot H f s ∧ fQ f0 f ∧ sB rpP H0 H ∧ crM H 175 slot Su0 a.1 a.2 ∧ crM H 176 slot Te0 b.1 b.2 ∧ crM H 177 slot En0 d.1 d.2
def crA (a : crT) (w : Nat) : crT := (a.1 + 1, fun i => if i = a.1 then w else a.2 i)
theorem cr_set {H : rm_H} {X X0 : Nat → Int32} {a slot n w : Nat} {v : Nat → Nat} (hX : H[a]? = some (cI 72 X)) (h2 : ∀ x, x < 12 * slot → X x = X0 x) (h3 : ∀ i, i < n → X (12 * slot + i) = nI (v i)) : crM (H.set a (cI 72 (upd X (12 * slot + n) (nI w)))) a slot X0 (n + 1) (fun i => if i = n then w else v i) := by
  refine ⟨_, hg_set (hlt hX), fun x hx => (upd_n (by omega)).trans (h2 x hx), fun i hi => ?_⟩
  show upd X (12 * slot + n) (nI w) (12 * slot + i) = nI (if i = n then w else v i)
  by_cases e : i = n
  · rw [if_pos e, e, upd_s]
  · rw [if_neg e, upd_n (by omega)]
    exact h3 i (by omega)
theorem cr_b {P : Nat → Prop} {H H1 : rm_H} {X0 : Nat → Int32} {a slot n : Nat} {v : Nat → Nat} (b : sB P H H1) (hP : ¬ P a) (h : crM H a slot X0 n v) : crM H1 a slot X0 n v := by
  obtain ⟨X, h1, h2, h3⟩ := h
  exact ⟨X, b.get hP h1, h2, h3⟩
theorem cr_v {H : rm_H} {X0 : Nat → Int32} {a slot n : Nat} {v v' : Nat → Nat} (h : crM H a slot X0 n v) (e : ∀ i, i < n → v i = v' i) : crM H a slot X0 n v' := by
  obtain ⟨X, h1, h2, h3⟩ := h
  exact ⟨X, h1, h2, fun i hi => by rw [h3 i hi, e i hi]⟩
section RXP
variable {k ln slot : Nat} {H0 H : rm_H} {f0 f So0 Nu0 Su0 Te0 En0 y : Nat → Int32} {s : psT} {l : List tok} {K0 : List Int32} {E0 D : enL} {c : rdT} {a b d : crT}
theorem ps_set {q : Nat} {e : va_E} (hq : q = 175 ∨ q = 176 ∨ q = 177) (h : psM H f So0 Nu0 y ln slot H f s) : psM (H.set q e) f So0 Nu0 y ln slot (H.set q e) f s := by
  obtain ⟨⟨hm, h18, hl, bb, hb, hy, hr⟩, e1, e2, e3, e4, e5, hf, hc, ⟨So, Nu, q1, q2, q3⟩, ⟨op, q4⟩, -⟩ := h
  exact ⟨⟨by rw [hg_ne (by omega)]; exact hm, h18, hl, bb, by rw [hg_ne (by omega)]; exact hb, hy, hr⟩, e1, e2, e3, e4, e5, hf, hc, ⟨So, Nu, by rw [hg_ne (by omega)]; exact q1, by rw [hg_ne (by omega)]; exact q2, q3⟩, ⟨op, by rw [hg_ne (by omega)]; exact q4⟩, sB.refl _ _⟩
theorem rs_go {H1 : rm_H} {f1 : Nat → Int32} {s1 : psT} (h : rsM H0 f0 So0 Nu0 Su0 Te0 En0 y ln slot H f s a b d) (h1 : psM H f So0 Nu0 y ln slot H1 f1 s1) : rsM H0 f0 So0 Nu0 Su0 Te0 En0 y ln slot H1 f1 s1 a b d := by
  obtain ⟨-, a1, a2, a3, a4, a5⟩ := h
  have h1' := ps_re h1
  obtain ⟨-, -, -, -, -, -, hf, -, -, -, bb⟩ := h1
  exact ⟨h1', fun j hj => (hf j (by omega)).trans (a1 j hj), a2.trans (bb.mono (fun i hi => rpP_i (by have := pzP_c hi; omega))), cr_b bb (fun g => by have := pzP_c g; omega) a3, cr_b bb (fun g => by have := pzP_c g; omega) a4, cr_b bb (fun g => by have := pzP_c g; omega) a5⟩
theorem rs_ot {H1 : rm_H} {f1 : Nat → Int32} {s1 : psT} {st : List Int32} (h : rsM H0 f0 So0 Nu0 Su0 Te0 En0 y ln slot H f s a b d) (h1 : otM H f So0 Nu0 y ln slot H1 f1 s1 st) : rsM H0 f0 So0 Nu0 Su0 Te0 En0 y ln slot H1 f1 s1 a b d := by
  obtain ⟨-, a1, a2, a3, a4, a5⟩ := h
  obtain ⟨p1, hf, bb, -⟩ := h1
  exact ⟨p1, fun j hj => (hf j (by omega)).trans (a1 j hj), a2.trans (bb.mono (fun i hi => rpP_i (by have := pzQ_c hi; omega))), cr_b bb (fun g => by have := pzQ_c g; omega) a3, cr_b bb (fun g => by have := pzQ_c g; omega) a4, cr_b bb (fun g => by have := pzQ_c g; omega) a5⟩
theorem rs_175 {n : Nat} (w : Nat) (hn : a.1 = n) (h : rsM H0 f0 So0 Nu0 Su0 Te0 En0 y ln slot H f s a b d) : ∃ X, H[175]? = some (cI 72 X) ∧ rsM H0 f0 So0 Nu0 Su0 Te0 En0 y ln slot (H.set 175 (cI 72 (upd X (12 * slot + n) (nI w)))) f s (crA a w) b d := by
  subst hn
  obtain ⟨p1, a1, a2, ⟨X, x1, x2, x3⟩, a4, a5⟩ := h
  have bb : sB (fun i => i = 175) H (H.set 175 (cI 72 (upd X (12 * slot + a.1) (nI w)))) := sB.set _ rfl
  exact ⟨X, x1, ps_set (by omega) p1, a1, a2.trans (bb.mono (fun i hi => rpP_i (by have : i = 175 := hi; omega))), cr_set x1 x2 x3, cr_b bb (by omega) a4, cr_b bb (by omega) a5⟩
theorem rs_176 {n : Nat} (w : Nat) (hn : b.1 = n) (h : rsM H0 f0 So0 Nu0 Su0 Te0 En0 y ln slot H f s a b d) : ∃ X, H[176]? = some (cI 72 X) ∧ rsM H0 f0 So0 Nu0 Su0 Te0 En0 y ln slot (H.set 176 (cI 72 (upd X (12 * slot + n) (nI w)))) f s a (crA b w) d := by
  subst hn
  obtain ⟨p1, a1, a2, a3, ⟨X, x1, x2, x3⟩, a5⟩ := h
  have bb : sB (fun i => i = 176) H (H.set 176 (cI 72 (upd X (12 * slot + b.1) (nI w)))) := sB.set _ rfl
  exact ⟨X, x1, ps_set (by omega) p1, a1, a2.trans (bb.mono (fun i hi => rpP_i (by have : i = 176 := hi; omega))), cr_b bb (by omega) a3, cr_set x1 x2 x3, cr_b bb (by omega) a5⟩
theorem rs_177 {n : Nat} (w : Nat) (hn : d.1 = n) (h : rsM H0 f0 So0 Nu0 Su0 Te0 En0 y ln slot H f s a b d) : ∃ X, H[177]? = some (cI 72 X) ∧ rsM H0 f0 So0 Nu0 Su0 Te0 En0 y ln slot (H.set 177 (cI 72 (upd X (12 * slot + n) (nI w)))) f s a b (crA d w) := by
  subst hn
  obtain ⟨p1, a1, a2, a3, a4, ⟨X, x1, x2, x3⟩⟩ := h
  have bb : sB (fun i => i = 177) H (H.set 177 (cI 72 (upd X (12 * slot + d.1) (nI w)))) := sB.set _ rfl
  exact ⟨X, x1, ps_set (by omega) p1, a1, a2.trans (bb.mono (fun i hi => rpP_i (by have : i = 177 := hi; omega))), cr_b bb (by omega) a3, cr_b bb (by omega) a4, cr_set x1 x2 x3⟩
theorem ix12b (a b : Nat) : (12 : Int32) * nI a + nI b = nI (12 * a + b) := by
  show Int32.ofNat 12 * Int32.ofNat a + Int32.ofNat b = Int32.ofNat (12 * a + b)
  rw [← Int32.ofNat_mul, ← Int32.ofNat_add]
/-- the end of a clause -/
theorem rc_end {j n0 : Nat} {p : Int32} {Q : Option Value → rm_H → Prop} (hs : slot < 6) (hj : j < 12) (hd : d.1 = j) (h : rsM H0 f0 So0 Nu0 Su0 Te0 En0 y ln slot H f s a b d) (hQ : ∀ H1, rsM H0 f0 So0 Nu0 Su0 Te0 En0 y ln slot H1 f s a b (crA d s.2.2.1.length) → Q none H1) : rm_S mX12_ruleClause k Q n0 104 [some (.ref 153), some (.int (nI j)), some (.int p), some (.int (nI (12 * slot + j)))] [] H 0 0 := by
  obtain ⟨X, x1, h1⟩ := rs_177 s.2.2.1.length hd h
  have hm := psM_m h.1
  have e23 : f 23 = nI s.2.2.1.length := h.1.2.2.2.1
  have i1 : (nI (12 * slot + j)).toNatClampNeg = 12 * slot + j := nI_clamp (by omega)
  have i2 : vp_in (nI (12 * slot + j)) 72 := vp_in_nI (by omega) (by omega)
  refine rm_from 3 [] ok_X12_ruleClause atX12_ruleClause_104 ?_
  simp (disch := first | assumption | decide | omega | (simp only [List.length_set]; omega)) only [w_nil, w_nop, w_iload, w_lload, w_aload, w_istore, w_lstore, w_astore, w_astoreN, w_iinc, w_iadd, w_isub, w_imul, w_iand, w_ior, w_ixor, w_ishl, w_ishr, w_iushr, w_idiv, w_irem, w_ladd, w_lsub, w_lmul, w_land, w_lor, w_ldiv, w_lrem, w_lshl, w_lshr, w_lcmp, w_i2l, w_l2i, w_i2b, w_i2c, w_dupI, w_popI, w_dupR, w_popR, w_dupN, w_popN, w_dup2, w_ifnull, w_ifnullN, w_ifnon, w_ifnonN, w_goto, w_getf, w_putf, w_alen, w_iaload, w_baload, w_laload, w_aaload, w_iastore, w_bastore, w_lastore, w_aastore, w_new, w_newarray, w_anewarray, w_static, w_virtual, w_special, w_obj, w_copyi, w_copyq, w_min, w_max, w_iret, w_lret, w_aret, w_aretN, w_ret, g_fg, g_I, g_J, g_R, g_N, g_1r, pw_0, pw_I, pw_R, pw_N, pw_n, pv_0, pv_1, pv_2, pv_3, pv_4, pv_5, pv_6, pv_7, pv_8, pv_9, pv_10, pv_11, pv_12, pv_13, pv_14, pv_15, pv_16, pv_17, pv_18, pv_19, cd_eq, cd_ne, cd_lt, cd_ge, cd_gt, cd_le, ft_0, ft_1, ft_2, ft_3, ft_3n, fk_0, fk_1, fk_2, fk_3, ps_n, ps_s, rf_s, rf_n, gl_0, gl_1, gl_2, gl_3, gl_4, gl_5, gl_6, gl_7, gl_8, gl_9, gl_10, gl_11, gl_12, gl_13, sl_0, sl_1, sl_2, sl_3, sl_4, sl_5, sl_6, sl_7, sl_8, sl_9, sl_10, sl_11, sl_12, sl_13, List.contains_nil, List.contains_cons, Nat.reduceBEq, Bool.false_or, Bool.or_false, Bool.true_or, Nat.reduceAdd, true_and, and_true, Nat.reduceLT, List.length_cons, List.length_nil, Nat.reduceLeDiff, List.drop_zero, List.take_zero, List.take_succ_cons, List.drop_succ_cons, List.reverse_cons, List.reverse_nil, List.nil_append, List.cons_append, List.append_nil, forall_const, rf_int, rf_bool, sr_sn, sn_0, sn_i, sn_l, sn_r, sn_n, ob_o, ar_o, al_o, aq_o, aln_o, oo_1, ao_1, lo_1, qo_1, lno_1, rv_o, rvv_0, rvv_1, rvv_2, rvv_3, rvv_4, rvv_5, rvv_6, rvv_7, rvv_8, rvv_9, rvv_10, rvv_11, rvv_12, List.length_set, List.set_set, hg_set, hg_ne, lt_00, lt_80, tn_8, lt_40, tn_4, tn_10, lt_100, le_88, Nat.zero_add, or_01, or_11, Nat.reduceMul, not_false_eq_true, Bool.false_eq_true, if_false, if_true, ite_false, ite_true, Bool.or_true, Bool.false_eq_true, if_false, if_true, ite_false, ite_true, Bool.or_true, eq_self, and_self, reduceCtorEq, true_or, or_true, true_imp_iff, not_true_eq_false, false_imp_iff, implies_true, u_zeqT, u_zeqF, u_zneT, u_zneF, u_zltT, u_zltF, u_zgeT, u_zgeF, u_zgtT, u_zgtF, u_zleT, u_zleF, u_ceqT, u_ceqF, u_cneT, u_cneF, u_cltT, u_cltF, u_cgeT, u_cgeF, u_cgtT, u_cgtF, u_cleT, u_cleF, sw_T, sw_F, v_table, v_look, sw_0, Nat.reduceSub, pb3X12_ruleClause_a0, bX12_ruleClause_0, pb3X12_ruleClause_a26, bX12_ruleClause_26, pb3X12_ruleClause_a39, bX12_ruleClause_39, pb3X12_ruleClause_a104, bX12_ruleClause_104, rt_X12_ruleClause, mc_X12_ruleClause, ms_X12_ruleClause, mc_X12_blanks, ms_X12_blanks, ci_X12_blanks, al_X12_blanks, mc_X12_stood, ms_X12_stood, ci_X12_stood, al_X12_stood, mc_X12_fails, ms_X12_fails, ci_X12_fails, al_X12_fails, mc_X12_sum, ms_X12_sum, ci_X12_sum, al_X12_sum, mc_X12_takes, ms_X12_takes, ci_X12_takes, al_X12_takes, mc_X12_test, ms_X12_test, ci_X12_test, al_X12_test, mt_0, mg_0, mg_1, mg_2, mg_3, mg_4, mg_5, mg_6, mg_7, mg_8, mg_9, mg_10, mg_11, mg_12, mg_13, mg_14, mg_15, mg_16, mg_17, mt_18, mg_18, mt_19, mg_19, mt_20, mg_20, mt_21, mg_21, mt_22, mg_22, mt_23, mg_23, mt_24, mg_24, mt_25, mg_25, mt_26, mg_26, mt_27, mg_27, mg_28, mg_29, mg_30, mg_31, mg_32, mg_33, mg_34, mg_35, mg_36, mg_37, mg_38, mg_39, mt_40, mg_40, mt_41, mg_41, mt_42, mg_42, mg_43, mg_44, mt_45, mg_45, mt_46, mg_46, mt_47, mg_47, mg_48, mg_49, mg_50, mg_51, mt_52, mg_52, mt_53, mg_53, mL_len, hm, x1, e23, i1, i2]
  exact hQ _ h1
/-- a clause is closed -/
theorem sim_cl {CL : List (enL × enL)} {x : enL × enL} (h : simR l y ln (clK CL) (clE CL) s c D) (h0 : s.1 = 0) (eD : D = x.1 ++ x.2) (hlen : c.2.2.1.length < 400) : simR l y ln (clK (CL ++ [x])) (clE (CL ++ [x])) s (adS (tk (clC x)) c) [] := by
  obtain ⟨h1, h2, h3⟩ := h
  refine ⟨h1, h2, fun _ => ?_⟩
  obtain ⟨q1, q2, q3, q4, q5⟩ := h3 h0
  refine ⟨q1, ?_, ?_, q4, q5⟩
  · rw [clE_app, q2, eD, List.append_nil]
    show _ = clE CL ++ ((x.1 ++ x.2) ++ [])
    rw [List.append_nil]
  · show adF c.2.2.1 (tk (clC x)) = _
    rw [adF_1 hlen, q3, clK_app, eD, List.map_nil, List.append_nil]
    show _ = clK CL ++ ((x.1 ++ x.2).map cvE ++ [tk (clC x)])
    rw [List.append_assoc]
theorem cla_17 {c c2 : rdT} {j : Nat} (e : c2 = sumS l (stS l c)) (h16 : tT l c.2.1 = 16) (hj : j < 12) (h17 : tT l c2.2.1 = 17) : clauS l j c = adS (tk 17) (tstS l (fctS l 10) (stS l c2)) := by
  rw [e] at h17 ⊢
  unfold clauS
  rw [if_pos h16, if_pos hj, if_pos h17]
theorem cla_no {c c2 : rdT} {j : Nat} (e : c2 = sumS l (stS l c)) (h16 : tT l c.2.1 = 16) (hj : j < 12) (h17 : ¬ tT l c2.2.1 = 17) : clauS l j c = adS (tk 16) c2 := by
  rw [e] at h17 ⊢
  unfold clauS
  rw [if_pos h16, if_pos hj, if_neg h17]
theorem cla_f {c c2 : rdT} {j : Nat} (e : c2 = sumS l (stS l c)) (h16 : tT l c.2.1 = 16) (hj : j < 12) (hf : ¬ c2.1 = 0) : (clauS l j c).1 = c2.1 := by
  have ad1 : ∀ x (s : rdT), (adS x s).1 = s.1 := fun _ _ => rfl
  by_cases h17 : tT l c2.2.1 = 17
  · rw [cla_17 e h16 hj h17, ad1]
    have hf2 : ¬ (stS l c2).1 = 0 := hf
    unfold tstS
    rw [(fct_mo (l := l) 10).2 _ hf2, tst_f hf2, (tstE_at (stS l c2, 0)).2]
    rfl
  · rw [cla_no e h16 hj h17, ad1]
end RXP
