theorem p26X2_push_a0 {k : Nat} {Q : Option Value → rm_H → Prop} {n0 n : Nat} {L : rm_L} {st : List Value} {H : rm_H} {c s : Nat} : rm_p mX2_push tX2_push [] k Q n0 (n + 1) 0 L st H c s = rm_w mX2_push k Q n0 (rm_p mX2_push tX2_push [] k Q n0 n) bX2_push_0 0 L st H c s := propext Iff.rfl
theorem p26X2_push_a45 {k : Nat} {Q : Option Value → rm_H → Prop} {n0 n : Nat} {L : rm_L} {st : List Value} {H : rm_H} {c s : Nat} : rm_p mX2_push tX2_push [] k Q n0 (n + 1) 45 L st H c s = rm_w mX2_push k Q n0 (rm_p mX2_push tX2_push [] k Q n0 n) bX2_push_45 45 L st H c s := propext Iff.rfl
theorem p26X2_push_c45_a0 {k : Nat} {Q : Option Value → rm_H → Prop} {n0 n : Nat} {L : rm_L} {st : List Value} {H : rm_H} {c s : Nat} : rm_p mX2_push tX2_push [45] k Q n0 (n + 1) 0 L st H c s = rm_w mX2_push k Q n0 (rm_p mX2_push tX2_push [45] k Q n0 n) bX2_push_0 0 L st H c s := propext Iff.rfl
theorem p26X2_push_c45_a45 {k : Nat} {Q : Option Value → rm_H → Prop} {n0 n : Nat} {L : rm_L} {st : List Value} {H : rm_H} {c s : Nat} : rm_p mX2_push tX2_push [45] k Q n0 (n + 1) 45 L st H c s = rm_S mX2_push k Q n0 45 L st H c s := propext Iff.rfl
theorem p26X2_pop_a0 {k : Nat} {Q : Option Value → rm_H → Prop} {n0 n : Nat} {L : rm_L} {st : List Value} {H : rm_H} {c s : Nat} : rm_p mX2_pop tX2_pop [] k Q n0 (n + 1) 0 L st H c s = rm_w mX2_pop k Q n0 (rm_p mX2_pop tX2_pop [] k Q n0 n) bX2_pop_0 0 L st H c s := propext Iff.rfl
theorem p26X2_pop_a30 {k : Nat} {Q : Option Value → rm_H → Prop} {n0 n : Nat} {L : rm_L} {st : List Value} {H : rm_H} {c s : Nat} : rm_p mX2_pop tX2_pop [] k Q n0 (n + 1) 30 L st H c s = rm_w mX2_pop k Q n0 (rm_p mX2_pop tX2_pop [] k Q n0 n) bX2_pop_30 30 L st H c s := propext Iff.rfl
theorem p26X2_copyFrom_c10_a0 {k : Nat} {Q : Option Value → rm_H → Prop} {n0 n : Nat} {L : rm_L} {st : List Value} {H : rm_H} {c s : Nat} : rm_p mX2_copyFrom tX2_copyFrom [10] k Q n0 (n + 1) 0 L st H c s = rm_w mX2_copyFrom k Q n0 (rm_p mX2_copyFrom tX2_copyFrom [10] k Q n0 n) bX2_copyFrom_0 0 L st H c s := propext Iff.rfl
theorem p26X2_copyFrom_c10_a10 {k : Nat} {Q : Option Value → rm_H → Prop} {n0 n : Nat} {L : rm_L} {st : List Value} {H : rm_H} {c s : Nat} : rm_p mX2_copyFrom tX2_copyFrom [10] k Q n0 (n + 1) 10 L st H c s = rm_S mX2_copyFrom k Q n0 10 L st H c s := propext Iff.rfl
theorem p26X2_copyFrom_c10_a39 {k : Nat} {Q : Option Value → rm_H → Prop} {n0 n : Nat} {L : rm_L} {st : List Value} {H : rm_H} {c s : Nat} : rm_p mX2_copyFrom tX2_copyFrom [10] k Q n0 (n + 1) 39 L st H c s = rm_w mX2_copyFrom k Q n0 (rm_p mX2_copyFrom tX2_copyFrom [10] k Q n0 n) bX2_copyFrom_39 39 L st H c s := propext Iff.rfl
/-! Past: push, pop, copies -/
abbrev cQ (t n : Nat) (g : Nat → Option Nat) : va_E := .inl (t, n, .inr (.inr (.inr (.inr g))))
abbrev cPa (n q : Nat) : va_E := .inr (2, [.int (nI n), .ref q])
/-- the cells of a Past that lies at b + 12 -/
def pP (b i : Nat) : Prop := b + 12 ≤ i ∧ i < b + 74
/-- a State with its arrays behind it -/
abbrev isS3 (im : Nat → Prop) (H : rm_H) (a r : Nat) (v : stV) : Prop := isS im H a (a + 1) (a + 2) r v
/-- the Past of the Image at b: n states in the realm r, L of them; p says where each lies -/
def isP (im : Nat → Prop) (H : rm_H) (b n r : Nat) (L : Nat → stV) : Prop :=
  ∃ (p : Nat → Nat) (g : Nat → Option Nat), (∀ i, pP b i → ¬ im i) ∧ H[b + 12]? = some (cPa n (b + 13)) ∧ H[b + 13]? = some (cQ 6 20 g) ∧ n ≤ 20 ∧ (∀ i, i < 20 → g i = some (b + 14 + 3 * p i) ∧ p i < 20) ∧ (∀ i j, i < 20 → j < 20 → p i = p j → i = j) ∧ (∀ i, i < 20 → ∃ r v, isS3 im H (b + 14 + 3 * p i) r v) ∧ ∀ i, i < n → isS3 im H (b + 14 + 3 * p i) r (L i)
theorem isP.sB {im P : Nat → Prop} {H H1 : rm_H} {b n r : Nat} {L : Nat → stV} (h : isP im H b n r L) (g : sB P H H1) (hp : ∀ i, P i → ¬ im i) (hn : ∀ i, P i → ¬ pP b i) : isP im H1 b n r L := by
  obtain ⟨p, f, h1, h2, h3, h4, h5, h6, h7, h8⟩ := h
  have q : ∀ i, pP b i → ¬ P i := fun i hi hq => hn i hq hi
  have mv : ∀ {i r v}, i < 20 → isS3 im H (b + 14 + 3 * p i) r v → isS3 im H1 (b + 14 + 3 * p i) r v := by
    intro i r v hi hs
    have := (h5 i hi).2
    exact hs.sB g hp (q _ ⟨by omega, by omega⟩) (q _ ⟨by omega, by omega⟩) (q _ ⟨by omega, by omega⟩)
  exact ⟨p, f, h1, g.get (q _ ⟨by omega, by omega⟩) h2, g.get (q _ ⟨by omega, by omega⟩) h3, h4, h5, h6, fun i hi => (h7 i hi).imp (fun r => Exists.imp (fun v hs => mv hi hs)), fun i hi => mv (by omega) (h8 i hi)⟩
theorem isP_shrink {im : Nat → Prop} {H : rm_H} {b n m r : Nat} {L L2 : Nat → stV} {r2 : Nat} (h : isP im H b n r L) (hm : m ≤ 20) (hl : ∀ p : Nat → Nat, (∀ i, i < n → isS3 im H (b + 14 + 3 * p i) r (L i)) → ∀ i, i < m → isS3 im H (b + 14 + 3 * p i) r2 (L2 i)) : isP im (H.set (b + 12) (cPa m (b + 13))) b m r2 L2 := by
  obtain ⟨p, f, h1, h2, h3, h4, h5, h6, h7, h8⟩ := h
  have g : sB (fun i => i = b + 12) H (H.set (b + 12) (cPa m (b + 13))) := sB.set _ rfl
  have hp : ∀ i, i = b + 12 → ¬ im i := by rintro i rfl; exact h1 _ ⟨by omega, by omega⟩
  have mv : ∀ {i r v}, i < 20 → isS3 im H (b + 14 + 3 * p i) r v → isS3 im (H.set (b + 12) (cPa m (b + 13))) (b + 14 + 3 * p i) r v := by
    intro i r v hi hs
    exact hs.sB g hp (by omega) (by omega) (by omega)
  refine ⟨p, f, h1, hg_set (hlt h2), ?_, hm, h5, h6, fun i hi => (h7 i hi).imp (fun r => Exists.imp (fun v hs => mv hi hs)), fun i hi => mv (by omega) (hl p h8 i hi)⟩
  rw [hg_ne (by omega)]
  exact h3
section PST
variable {im : Nat → Prop} {H : rm_H} {k a b c pw pa r r1 n m : Nat} {v v1 : stV} {L L1 : Nat → stV}
theorem c19 : (19 : Int32).toNatClampNeg = 19 := by decide
theorem c1_ : (1 : Int32).toNatClampNeg = 1 := by decide
theorem c0_ : (0 : Int32).toNatClampNeg = 0 := by decide
theorem l19 : ((19 : Int32) < 0) = False := eq_false (by decide)
theorem l1_ : ((1 : Int32) < 0) = False := eq_false (by decide)
theorem i19 : vp_in 19 20 := by unfold vp_in; decide
theorem i0_20 : vp_in 0 20 := by unfold vp_in; decide
set_option maxHeartbeats 4000000 in
/-- behind the making of room -/
theorem c_push_end {Q : Option Value → rm_H → Prop} {n0 : Nat} {z : Option Value} (hk : 2 ≤ k) (hn : n < 20) (h : isP im H b n r L) (hs : isS im H a pw pa r v) (ha : ¬ pP b a) (hpw : ¬ pP b pw) (hpa : ¬ pP b pa) (hQ : ∀ H1, isP im H1 b (n + 1) r (fun i => if i = n then v else L i) → sB (pP b) H H1 → Q none H1) : rm_S mX2_push k Q n0 45 [some (.ref (b + 12)), some (.ref a), z] [] H 0 0 := by
  obtain ⟨j, rfl⟩ : ∃ j, k = j + 1 := ⟨k - 1, by omega⟩
  have hP := h
  obtain ⟨p, g, h1, h2, h3, h4, h5, h6, h7, h8⟩ := h
  obtain ⟨e1, e2⟩ := h5 n hn
  obtain ⟨r', v', hn'⟩ := h7 n hn
  have hin : vp_in (nI n) 20 := vp_in_nI hn (by omega)
  have hc : (nI n).toNatClampNeg = n := nI_clamp (by omega)
  unfold pP at ha hpw hpa
  refine rm_from 4 [] ok_X2_push atX2_push_45 ?_
  simp (disch := omega) only [w_nil, w_nop, w_iload, w_lload, w_aload, w_istore, w_lstore, w_astore, w_astoreN, w_iinc, w_iadd, w_isub, w_imul, w_iand, w_ior, w_ixor, w_ishl, w_ishr, w_iushr, w_idiv, w_irem, w_ladd, w_lsub, w_lmul, w_land, w_lor, w_ldiv, w_lrem, w_lshl, w_lshr, w_lcmp, w_i2l, w_l2i, w_i2b, w_i2c, w_dupI, w_popI, w_dupR, w_popR, w_dupN, w_popN, w_dup2, w_if, w_icmp, w_ifnull, w_ifnullN, w_ifnon, w_ifnonN, w_goto, w_table, w_look, w_getf, w_putf, w_alen, w_iaload, w_baload, w_laload, w_aaload, w_iastore, w_bastore, w_lastore, w_aastore, w_new, w_newarray, w_anewarray, w_static, w_virtual, w_special, w_obj, w_copyi, w_copyq, w_min, w_max, w_iret, w_lret, w_aret, w_aretN, w_ret, g_fg, g_I, g_J, g_R, g_N, g_1r, pw_0, pw_I, pw_R, pw_N, pw_n, pv_0, pv_1, pv_2, pv_3, pv_4, pv_5, pv_6, pv_7, pv_8, pv_9, pv_10, pv_11, pv_12, pv_13, pv_14, pv_15, pv_16, pv_17, pv_18, pv_19, cd_eq, cd_ne, cd_lt, cd_ge, cd_gt, cd_le, ft_0, ft_1, ft_2, ft_3, ft_3n, fk_0, fk_1, fk_2, fk_3, ps_n, ps_s, rf_s, rf_n, gl_0, gl_1, gl_2, gl_3, gl_4, gl_5, gl_6, gl_7, gl_8, gl_9, gl_10, gl_11, gl_12, gl_13, sl_0, sl_1, sl_2, sl_3, sl_4, sl_5, sl_6, sl_7, sl_8, sl_9, sl_10, sl_11, sl_12, sl_13, List.contains_nil, List.contains_cons, Nat.reduceBEq, Bool.false_or, Bool.or_false, Bool.true_or, Nat.reduceAdd, true_and, and_true, Nat.reduceLT, List.length_cons, List.length_nil, Nat.reduceLeDiff, List.drop_zero, List.take_zero, List.take_succ_cons, List.drop_succ_cons, List.reverse_cons, List.reverse_nil, List.nil_append, List.cons_append, List.append_nil, forall_const, rf_int, rf_bool, sr_sn, sn_0, sn_i, sn_l, sn_r, sn_n, ob_o, ar_o, al_o, aq_o, aln_o, oo_1, ao_1, lo_1, qo_1, lno_1, rv_o, rvv_0, rvv_1, rvv_2, rvv_3, rvv_4, rvv_5, rvv_6, rvv_7, rvv_8, rvv_9, rvv_10, rvv_11, rvv_12, List.length_set, List.set_set, hg_set, hg_ne, lt_00, lt_80, tn_8, lt_40, tn_4, tn_10, lt_100, le_88, Nat.zero_add, List.forall_mem_cons, List.not_mem_nil, or_01, or_11, Nat.reduceMul, not_false_eq_true, Bool.false_eq_true, if_false, if_true, ite_false, ite_true, Bool.or_true, Bool.false_eq_true, if_false, if_true, ite_false, ite_true, Bool.or_true, eq_self, and_self, reduceCtorEq, true_or, or_true, true_imp_iff, not_true_eq_false, false_imp_iff, implies_true, p26X2_push_a0, bX2_push_0, p26X2_push_a45, bX2_push_45, rt_X2_push, mc_X2_push, ms_X2_push, mc_X7_copyFrom, ms_X7_copyFrom, ci_X7_copyFrom, al_X7_copyFrom, h2, h3, hin, hc, e1, hn'.2.1]
  refine (c_cp (by omega) (by omega) (by omega) (by omega) (by omega) (by omega) (by omega) hn' hs).mono ?_
  rintro _ H1 ⟨rfl, hs1, hb⟩ -
  have hm : ∀ i, stP (b + 14 + 3 * p n) (b + 14 + 3 * p n + 1) (b + 14 + 3 * p n + 2) i → pP b i := by
    rintro i (rfl | rfl | rfl) <;> exact ⟨by omega, by omega⟩
  have hb2 := hb.mono hm
  have hg1 : H1[b + 12]? = some (cPa n (b + 13)) := hb.get (by unfold stP; omega) h2
  simp (disch := omega) only [w_nil, w_nop, w_iload, w_lload, w_aload, w_istore, w_lstore, w_astore, w_astoreN, w_iinc, w_iadd, w_isub, w_imul, w_iand, w_ior, w_ixor, w_ishl, w_ishr, w_iushr, w_idiv, w_irem, w_ladd, w_lsub, w_lmul, w_land, w_lor, w_ldiv, w_lrem, w_lshl, w_lshr, w_lcmp, w_i2l, w_l2i, w_i2b, w_i2c, w_dupI, w_popI, w_dupR, w_popR, w_dupN, w_popN, w_dup2, w_if, w_icmp, w_ifnull, w_ifnullN, w_ifnon, w_ifnonN, w_goto, w_table, w_look, w_getf, w_putf, w_alen, w_iaload, w_baload, w_laload, w_aaload, w_iastore, w_bastore, w_lastore, w_aastore, w_new, w_newarray, w_anewarray, w_static, w_virtual, w_special, w_obj, w_copyi, w_copyq, w_min, w_max, w_iret, w_lret, w_aret, w_aretN, w_ret, g_fg, g_I, g_J, g_R, g_N, g_1r, pw_0, pw_I, pw_R, pw_N, pw_n, pv_0, pv_1, pv_2, pv_3, pv_4, pv_5, pv_6, pv_7, pv_8, pv_9, pv_10, pv_11, pv_12, pv_13, pv_14, pv_15, pv_16, pv_17, pv_18, pv_19, cd_eq, cd_ne, cd_lt, cd_ge, cd_gt, cd_le, ft_0, ft_1, ft_2, ft_3, ft_3n, fk_0, fk_1, fk_2, fk_3, ps_n, ps_s, rf_s, rf_n, gl_0, gl_1, gl_2, gl_3, gl_4, gl_5, gl_6, gl_7, gl_8, gl_9, gl_10, gl_11, gl_12, gl_13, sl_0, sl_1, sl_2, sl_3, sl_4, sl_5, sl_6, sl_7, sl_8, sl_9, sl_10, sl_11, sl_12, sl_13, List.contains_nil, List.contains_cons, Nat.reduceBEq, Bool.false_or, Bool.or_false, Bool.true_or, Nat.reduceAdd, true_and, and_true, Nat.reduceLT, List.length_cons, List.length_nil, Nat.reduceLeDiff, List.drop_zero, List.take_zero, List.take_succ_cons, List.drop_succ_cons, List.reverse_cons, List.reverse_nil, List.nil_append, List.cons_append, List.append_nil, forall_const, rf_int, rf_bool, sr_sn, sn_0, sn_i, sn_l, sn_r, sn_n, ob_o, ar_o, al_o, aq_o, aln_o, oo_1, ao_1, lo_1, qo_1, lno_1, rv_o, rvv_0, rvv_1, rvv_2, rvv_3, rvv_4, rvv_5, rvv_6, rvv_7, rvv_8, rvv_9, rvv_10, rvv_11, rvv_12, List.length_set, List.set_set, hg_set, hg_ne, lt_00, lt_80, tn_8, lt_40, tn_4, tn_10, lt_100, le_88, Nat.zero_add, List.forall_mem_cons, List.not_mem_nil, or_01, or_11, Nat.reduceMul, not_false_eq_true, Bool.false_eq_true, if_false, if_true, ite_false, ite_true, Bool.or_true, Bool.false_eq_true, if_false, if_true, ite_false, ite_true, Bool.or_true, eq_self, and_self, reduceCtorEq, true_or, or_true, true_imp_iff, not_true_eq_false, false_imp_iff, implies_true, p26X2_push_a0, bX2_push_0, p26X2_push_a45, bX2_push_45, rt_X2_push, mc_X2_push, ms_X2_push, mc_X7_copyFrom, ms_X7_copyFrom, ci_X7_copyFrom, al_X7_copyFrom, hg1, nI_inc]
  refine hQ _ ?_ (hb2.trans (sB.set _ ⟨by omega, by omega⟩))
  have g4 : sB (fun i => i = b + 12) H1 (H1.set (b + 12) (cPa (n + 1) (b + 13))) := sB.set _ rfl
  have hp4 : ∀ i, i = b + 12 → ¬ im i := by rintro i rfl; exact h1 _ ⟨by omega, by omega⟩
  have m4 : ∀ {i r v}, isS3 im H1 (b + 14 + 3 * p i) r v → isS3 im (H1.set (b + 12) (cPa (n + 1) (b + 13))) (b + 14 + 3 * p i) r v := by
    intro i r v hs
    exact hs.sB g4 hp4 (by omega) (by omega) (by omega)
  have mv : ∀ {i r v}, i < 20 → ¬ i = n → isS3 im H (b + 14 + 3 * p i) r v → isS3 im H1 (b + 14 + 3 * p i) r v := by
    intro i r v hi hne hs
    have : ¬ p i = p n := fun q => hne (h6 i n hi hn q)
    refine hs.sB hb (fun i hi => h1 i (hm i hi)) ?_ ?_ ?_ <;> (unfold stP; omega)
  refine ⟨p, g, h1, hg_set (hlt hg1), ?_, by omega, h5, h6, fun i hi => ?_, fun i hi => ?_⟩
  · rw [hg_ne (by omega)]
    exact hb.get (by unfold stP; omega) h3
  · by_cases he : i = n
    · subst he
      exact ⟨_, _, m4 hs1⟩
    · obtain ⟨r, v, hv⟩ := h7 i hi
      exact ⟨r, v, m4 (mv hi he hv)⟩
  · by_cases he : i = n
    · subst he
      simp only [if_true]
      exact m4 hs1
    · simp only [if_neg he]
      exact m4 (mv (by omega) he (h8 i (by omega)))
/-- the states behind a push -/
def puL (n : Nat) (L : Nat → stV) (v : stV) : Nat → stV := if n < 20 then (fun i => if i = n then v else L i) else (fun i => if i = 19 then v else L (i + 1))
def puN (n : Nat) : Nat := if n < 20 then n + 1 else 20
set_option maxHeartbeats 4000000 in
theorem c_push (hk : 2 ≤ k) (h : isP im H b n r L) (hs : isS im H a pw pa r v) (ha : ¬ pP b a) (hpw : ¬ pP b pw) (hpa : ¬ pP b pa) : rm_Do mX2_push k [.ref (b + 12), .ref a] H (fun w H1 => w = none ∧ isP im H1 b (puN n) r (puL n L v) ∧ sB (pP b) H H1) := by
  obtain ⟨j, rfl⟩ : ∃ j, k = j + 1 := ⟨k - 1, by omega⟩
  have hP := h
  obtain ⟨p, g, h1, h2, h3, h4, h5, h6, h7, h8⟩ := h
  refine rm_m (L := [some (.ref (b + 12)), some (.ref a), none]) (c := 0) (s := 0) 4 [45] ok_X2_push (by decide) rfl rfl rfl rfl ?_
  by_cases hn : n < 20
  · have c0 : (nI n < 20) = True := eq_true (nI_lt (a := n) (b := 20) hn (by omega))
    simp (disch := omega) only [w_nil, w_nop, w_iload, w_lload, w_aload, w_istore, w_lstore, w_astore, w_astoreN, w_iinc, w_iadd, w_isub, w_imul, w_iand, w_ior, w_ixor, w_ishl, w_ishr, w_iushr, w_idiv, w_irem, w_ladd, w_lsub, w_lmul, w_land, w_lor, w_ldiv, w_lrem, w_lshl, w_lshr, w_lcmp, w_i2l, w_l2i, w_i2b, w_i2c, w_dupI, w_popI, w_dupR, w_popR, w_dupN, w_popN, w_dup2, w_if, w_icmp, w_ifnull, w_ifnullN, w_ifnon, w_ifnonN, w_goto, w_table, w_look, w_getf, w_putf, w_alen, w_iaload, w_baload, w_laload, w_aaload, w_iastore, w_bastore, w_lastore, w_aastore, w_new, w_newarray, w_anewarray, w_static, w_virtual, w_special, w_obj, w_copyi, w_copyq, w_min, w_max, w_iret, w_lret, w_aret, w_aretN, w_ret, g_fg, g_I, g_J, g_R, g_N, g_1r, pw_0, pw_I, pw_R, pw_N, pw_n, pv_0, pv_1, pv_2, pv_3, pv_4, pv_5, pv_6, pv_7, pv_8, pv_9, pv_10, pv_11, pv_12, pv_13, pv_14, pv_15, pv_16, pv_17, pv_18, pv_19, cd_eq, cd_ne, cd_lt, cd_ge, cd_gt, cd_le, ft_0, ft_1, ft_2, ft_3, ft_3n, fk_0, fk_1, fk_2, fk_3, ps_n, ps_s, rf_s, rf_n, gl_0, gl_1, gl_2, gl_3, gl_4, gl_5, gl_6, gl_7, gl_8, gl_9, gl_10, gl_11, gl_12, gl_13, sl_0, sl_1, sl_2, sl_3, sl_4, sl_5, sl_6, sl_7, sl_8, sl_9, sl_10, sl_11, sl_12, sl_13, List.contains_nil, List.contains_cons, Nat.reduceBEq, Bool.false_or, Bool.or_false, Bool.true_or, Nat.reduceAdd, true_and, and_true, Nat.reduceLT, List.length_cons, List.length_nil, Nat.reduceLeDiff, List.drop_zero, List.take_zero, List.take_succ_cons, List.drop_succ_cons, List.reverse_cons, List.reverse_nil, List.nil_append, List.cons_append, List.append_nil, forall_const, rf_int, rf_bool, sr_sn, sn_0, sn_i, sn_l, sn_r, sn_n, ob_o, ar_o, al_o, aq_o, aln_o, oo_1, ao_1, lo_1, qo_1, lno_1, rv_o, rvv_0, rvv_1, rvv_2, rvv_3, rvv_4, rvv_5, rvv_6, rvv_7, rvv_8, rvv_9, rvv_10, rvv_11, rvv_12, List.length_set, List.set_set, hg_set, hg_ne, lt_00, lt_80, tn_8, lt_40, tn_4, tn_10, lt_100, le_88, Nat.zero_add, List.forall_mem_cons, List.not_mem_nil, or_01, or_11, Nat.reduceMul, not_false_eq_true, Bool.false_eq_true, if_false, if_true, ite_false, ite_true, Bool.or_true, Bool.false_eq_true, if_false, if_true, ite_false, ite_true, Bool.or_true, eq_self, and_self, reduceCtorEq, true_or, or_true, true_imp_iff, not_true_eq_false, false_imp_iff, implies_true, p26X2_push_c45_a0, bX2_push_0, p26X2_push_c45_a45, bX2_push_45, rt_X2_push, mc_X2_push, ms_X2_push, mc_X7_copyFrom, ms_X7_copyFrom, ci_X7_copyFrom, al_X7_copyFrom, h2, c0]
    refine c_push_end hk hn hP hs ha hpw hpa (fun H1 q1 q2 => ⟨rfl, ?_, q2⟩)
    simpa only [puN, puL, if_pos hn] using q1
  · have c0 : (nI n < 20) = False := eq_false (nI_nlt (a := n) (b := 20) (by omega) (by omega))
    have hn2 : n = 20 := by omega
    subst hn2
    have e0 := (h5 0 (by omega)).1
    obtain ⟨r0, v0, hz⟩ := h7 0 (by omega)
    have hl12 := hlt h2
    have hl13 := hlt h3
    have hfit : ∀ (i : Nat), i < 19 → ∀ y, g (1 + i) = some y → rm_ob H y fun ci _ => ci = 7 := by
      intro i hi y hy
      rw [(h5 (1 + i) (by omega)).1] at hy
      obtain ⟨r', v', hv'⟩ := h7 (1 + i) (by omega)
      rw [← Option.some.inj hy, ob_o, hv'.2.1, oo_1]
    simp (disch := omega) only [w_nil, w_nop, w_iload, w_lload, w_aload, w_istore, w_lstore, w_astore, w_astoreN, w_iinc, w_iadd, w_isub, w_imul, w_iand, w_ior, w_ixor, w_ishl, w_ishr, w_iushr, w_idiv, w_irem, w_ladd, w_lsub, w_lmul, w_land, w_lor, w_ldiv, w_lrem, w_lshl, w_lshr, w_lcmp, w_i2l, w_l2i, w_i2b, w_i2c, w_dupI, w_popI, w_dupR, w_popR, w_dupN, w_popN, w_dup2, w_if, w_icmp, w_ifnull, w_ifnullN, w_ifnon, w_ifnonN, w_goto, w_table, w_look, w_getf, w_putf, w_alen, w_iaload, w_baload, w_laload, w_aaload, w_iastore, w_bastore, w_lastore, w_aastore, w_new, w_newarray, w_anewarray, w_static, w_virtual, w_special, w_obj, w_copyi, w_copyq, w_min, w_max, w_iret, w_lret, w_aret, w_aretN, w_ret, g_fg, g_I, g_J, g_R, g_N, g_1r, pw_0, pw_I, pw_R, pw_N, pw_n, pv_0, pv_1, pv_2, pv_3, pv_4, pv_5, pv_6, pv_7, pv_8, pv_9, pv_10, pv_11, pv_12, pv_13, pv_14, pv_15, pv_16, pv_17, pv_18, pv_19, cd_eq, cd_ne, cd_lt, cd_ge, cd_gt, cd_le, ft_0, ft_1, ft_2, ft_3, ft_3n, fk_0, fk_1, fk_2, fk_3, ps_n, ps_s, rf_s, rf_n, gl_0, gl_1, gl_2, gl_3, gl_4, gl_5, gl_6, gl_7, gl_8, gl_9, gl_10, gl_11, gl_12, gl_13, sl_0, sl_1, sl_2, sl_3, sl_4, sl_5, sl_6, sl_7, sl_8, sl_9, sl_10, sl_11, sl_12, sl_13, List.contains_nil, List.contains_cons, Nat.reduceBEq, Bool.false_or, Bool.or_false, Bool.true_or, Nat.reduceAdd, true_and, and_true, Nat.reduceLT, List.length_cons, List.length_nil, Nat.reduceLeDiff, List.drop_zero, List.take_zero, List.take_succ_cons, List.drop_succ_cons, List.reverse_cons, List.reverse_nil, List.nil_append, List.cons_append, List.append_nil, forall_const, rf_int, rf_bool, sr_sn, sn_0, sn_i, sn_l, sn_r, sn_n, ob_o, ar_o, al_o, aq_o, aln_o, oo_1, ao_1, lo_1, qo_1, lno_1, rv_o, rvv_0, rvv_1, rvv_2, rvv_3, rvv_4, rvv_5, rvv_6, rvv_7, rvv_8, rvv_9, rvv_10, rvv_11, rvv_12, List.length_set, List.set_set, hg_set, hg_ne, lt_00, lt_80, tn_8, lt_40, tn_4, tn_10, lt_100, le_88, Nat.zero_add, List.forall_mem_cons, List.not_mem_nil, or_01, or_11, Nat.reduceMul, not_false_eq_true, Bool.false_eq_true, if_false, if_true, ite_false, ite_true, Bool.or_true, Bool.false_eq_true, if_false, if_true, ite_false, ite_true, Bool.or_true, eq_self, and_self, reduceCtorEq, true_or, or_true, true_imp_iff, not_true_eq_false, false_imp_iff, implies_true, p26X2_push_c45_a0, bX2_push_0, p26X2_push_c45_a45, bX2_push_45, rt_X2_push, mc_X2_push, ms_X2_push, mc_X7_copyFrom, ms_X7_copyFrom, ci_X7_copyFrom, al_X7_copyFrom, h2, h3, c0, c19, c1_, c0_, l19, l1_, i19, i0_20, e0, Nat.reduceLeDiff, hz.2.1]
    refine ⟨hfit, rfl, ?_⟩
    have e19 : (19 : Int32) = nI 19 := rfl
    rw [e19]
    have gb : sB (fun i => i = b + 12 ∨ i = b + 13) H ((H.set (b + 13) (cQ 6 20 (va_up (va_cpy g g 1 0 19) 19 (some (b + 14 + 3 * p 0))))).set (b + 12) (cPa 19 (b + 13))) := (sB.set _ (Or.inr rfl)).trans (sB.set _ (Or.inl rfl))
    have hgb : ∀ i, (i = b + 12 ∨ i = b + 13) → ¬ im i := by rintro i (rfl | rfl) <;> exact h1 _ ⟨by omega, by omega⟩
    have gb2 : sB (pP b) H ((H.set (b + 13) (cQ 6 20 (va_up (va_cpy g g 1 0 19) 19 (some (b + 14 + 3 * p 0))))).set (b + 12) (cPa 19 (b + 13))) := gb.mono (by rintro i (rfl | rfl) <;> exact ⟨by omega, by omega⟩)
    unfold pP at ha hpw hpa
    refine c_push_end (n := 19) (L := fun i => L (i + 1)) hk (by omega) ?_ (hs.sB gb hgb (by omega) (by omega) (by omega)) ha hpw hpa (fun H1 q1 q2 => ⟨rfl, ?_, gb2.trans q2⟩)
    · refine ⟨fun i => if i < 19 then p (i + 1) else p 0, va_up (va_cpy g g 1 0 19) 19 (some (b + 14 + 3 * p 0)), h1, hg_set (by simp only [List.length_set]; exact hl12), ?_, by omega, fun i hi => ?_, fun i j hi hj => ?_, fun i hi => ?_, fun i hi => ?_⟩
      · rw [hg_ne (by omega)]
        exact hg_set hl13
      · by_cases h19 : i < 19
        · have e := h5 (i + 1) (by omega)
          have e' : va_up (va_cpy g g 1 0 19) 19 (some (b + 14 + 3 * p 0)) i = g (i + 1) := by
            unfold va_up va_cpy
            rw [if_neg (by omega), if_pos ⟨by omega, by omega⟩]
            congr 1
            omega
          simp only [if_pos h19, e']
          exact e
        · have : i = 19 := by omega
          subst this
          refine ⟨?_, ?_⟩
          · unfold va_up
            simp
          · simpa using (h5 0 (by omega)).2
      · simp only
        intro he
        by_cases hi9 : i < 19 <;> by_cases hj9 : j < 19 <;> simp only [hi9, hj9, if_true, if_false] at he
        · have := h6 _ _ (by omega) (by omega) he; omega
        · have := h6 _ _ (by omega) (by omega) he; omega
        · have := h6 _ _ (by omega) (by omega) he; omega
        · omega
      · by_cases h19 : i < 19
        · simp only [if_pos h19]
          obtain ⟨r, v, hv⟩ := h7 (i + 1) (by omega)
          exact ⟨r, v, hv.sB gb hgb (by omega) (by omega) (by omega)⟩
        · simp only [if_neg h19]
          obtain ⟨r, v, hv⟩ := h7 0 (by omega)
          exact ⟨r, v, hv.sB gb hgb (by omega) (by omega) (by omega)⟩
      · simp only [if_pos hi]
        exact (h8 (i + 1) (by omega)).sB gb hgb (by omega) (by omega) (by omega)
    · simpa only [puN, puL, if_neg hn] using q1
theorem c_pop (hk : 2 ≤ k) (h : isP im H b (n + 1) r L) (hs : isS im H a pw pa r1 v1) (d0 : ¬ pw = pa) (ha : ¬ pP b a) (hpw : ¬ pP b pw) (hpa : ¬ pP b pa) : rm_Do mX2_pop k [.ref (b + 12), .ref a] H (fun w H1 => w = none ∧ isP im H1 b n r L ∧ isS im H1 a pw pa r (L n) ∧ sB (fun i => i = b + 12 ∨ stP a pw pa i) H H1) := by
  obtain ⟨j, rfl⟩ : ∃ j, k = j + 1 := ⟨k - 1, by omega⟩
  have hP := h
  obtain ⟨p, g, h1, h2, h3, h4, h5, h6, h7, h8⟩ := h
  have c0 : (nI (n + 1) ≤ 0) = False := eq_false (nI_nle (by omega) (by omega))
  have e1 := (h5 n (by omega)).1
  have hv := h8 n (by omega)
  have hin : vp_in (nI n) 20 := vp_in_nI (by omega) (by omega)
  have hc : (nI n).toNatClampNeg = n := nI_clamp (by omega)
  have hl := hlt h2
  have gb : sB (fun i => i = b + 12) H (H.set (b + 12) (cPa n (b + 13))) := sB.set _ rfl
  have hgb : ∀ i, i = b + 12 → ¬ im i := by rintro i rfl; exact h1 _ ⟨by omega, by omega⟩
  unfold pP at ha hpw hpa
  have hs1 := hs.sB gb hgb (by omega) (by omega) (by omega)
  have hv1 := hv.sB gb hgb (by omega) (by omega) (by omega)
  have hp5 := (h5 n (by omega)).2
  have hP1 := isP_shrink (m := n) (r2 := r) (L2 := L) hP (by omega) (fun p hq i hi => hq i (by omega))
  refine rm_m (L := [some (.ref (b + 12)), some (.ref a)]) (c := 0) (s := 0) 4 [] ok_X2_pop (by decide) rfl rfl rfl rfl ?_
  simp (disch := omega) only [w_nil, w_nop, w_iload, w_lload, w_aload, w_istore, w_lstore, w_astore, w_astoreN, w_iinc, w_iadd, w_isub, w_imul, w_iand, w_ior, w_ixor, w_ishl, w_ishr, w_iushr, w_idiv, w_irem, w_ladd, w_lsub, w_lmul, w_land, w_lor, w_ldiv, w_lrem, w_lshl, w_lshr, w_lcmp, w_i2l, w_l2i, w_i2b, w_i2c, w_dupI, w_popI, w_dupR, w_popR, w_dupN, w_popN, w_dup2, w_if, w_icmp, w_ifnull, w_ifnullN, w_ifnon, w_ifnonN, w_goto, w_table, w_look, w_getf, w_putf, w_alen, w_iaload, w_baload, w_laload, w_aaload, w_iastore, w_bastore, w_lastore, w_aastore, w_new, w_newarray, w_anewarray, w_static, w_virtual, w_special, w_obj, w_copyi, w_copyq, w_min, w_max, w_iret, w_lret, w_aret, w_aretN, w_ret, g_fg, g_I, g_J, g_R, g_N, g_1r, pw_0, pw_I, pw_R, pw_N, pw_n, pv_0, pv_1, pv_2, pv_3, pv_4, pv_5, pv_6, pv_7, pv_8, pv_9, pv_10, pv_11, pv_12, pv_13, pv_14, pv_15, pv_16, pv_17, pv_18, pv_19, cd_eq, cd_ne, cd_lt, cd_ge, cd_gt, cd_le, ft_0, ft_1, ft_2, ft_3, ft_3n, fk_0, fk_1, fk_2, fk_3, ps_n, ps_s, rf_s, rf_n, gl_0, gl_1, gl_2, gl_3, gl_4, gl_5, gl_6, gl_7, gl_8, gl_9, gl_10, gl_11, gl_12, gl_13, sl_0, sl_1, sl_2, sl_3, sl_4, sl_5, sl_6, sl_7, sl_8, sl_9, sl_10, sl_11, sl_12, sl_13, List.contains_nil, List.contains_cons, Nat.reduceBEq, Bool.false_or, Bool.or_false, Bool.true_or, Nat.reduceAdd, true_and, and_true, Nat.reduceLT, List.length_cons, List.length_nil, Nat.reduceLeDiff, List.drop_zero, List.take_zero, List.take_succ_cons, List.drop_succ_cons, List.reverse_cons, List.reverse_nil, List.nil_append, List.cons_append, List.append_nil, forall_const, rf_int, rf_bool, sr_sn, sn_0, sn_i, sn_l, sn_r, sn_n, ob_o, ar_o, al_o, aq_o, aln_o, oo_1, ao_1, lo_1, qo_1, lno_1, rv_o, rvv_0, rvv_1, rvv_2, rvv_3, rvv_4, rvv_5, rvv_6, rvv_7, rvv_8, rvv_9, rvv_10, rvv_11, rvv_12, List.length_set, List.set_set, hg_set, hg_ne, lt_00, lt_80, tn_8, lt_40, tn_4, tn_10, lt_100, le_88, Nat.zero_add, List.forall_mem_cons, List.not_mem_nil, or_01, or_11, Nat.reduceMul, not_false_eq_true, Bool.false_eq_true, if_false, if_true, ite_false, ite_true, Bool.or_true, Bool.false_eq_true, if_false, if_true, ite_false, ite_true, Bool.or_true, eq_self, and_self, reduceCtorEq, true_or, or_true, true_imp_iff, not_true_eq_false, false_imp_iff, implies_true, p26X2_pop_a0, bX2_pop_0, p26X2_pop_a30, bX2_pop_30, rt_X2_pop, mc_X2_pop, ms_X2_pop, mc_X7_copyFrom, ms_X7_copyFrom, ci_X7_copyFrom, al_X7_copyFrom, h2, h3, c0, nI_dec, hin, hc, e1, hs.2.1]
  refine (c_cp (by omega) (by omega) d0 (by omega) (by omega) (by omega) (by omega) hs1 hv1).mono ?_
  rintro _ H1 ⟨rfl, q1, q2⟩ -
  simp (disch := omega) only [w_nil, w_nop, w_iload, w_lload, w_aload, w_istore, w_lstore, w_astore, w_astoreN, w_iinc, w_iadd, w_isub, w_imul, w_iand, w_ior, w_ixor, w_ishl, w_ishr, w_iushr, w_idiv, w_irem, w_ladd, w_lsub, w_lmul, w_land, w_lor, w_ldiv, w_lrem, w_lshl, w_lshr, w_lcmp, w_i2l, w_l2i, w_i2b, w_i2c, w_dupI, w_popI, w_dupR, w_popR, w_dupN, w_popN, w_dup2, w_if, w_icmp, w_ifnull, w_ifnullN, w_ifnon, w_ifnonN, w_goto, w_table, w_look, w_getf, w_putf, w_alen, w_iaload, w_baload, w_laload, w_aaload, w_iastore, w_bastore, w_lastore, w_aastore, w_new, w_newarray, w_anewarray, w_static, w_virtual, w_special, w_obj, w_copyi, w_copyq, w_min, w_max, w_iret, w_lret, w_aret, w_aretN, w_ret, g_fg, g_I, g_J, g_R, g_N, g_1r, pw_0, pw_I, pw_R, pw_N, pw_n, pv_0, pv_1, pv_2, pv_3, pv_4, pv_5, pv_6, pv_7, pv_8, pv_9, pv_10, pv_11, pv_12, pv_13, pv_14, pv_15, pv_16, pv_17, pv_18, pv_19, cd_eq, cd_ne, cd_lt, cd_ge, cd_gt, cd_le, ft_0, ft_1, ft_2, ft_3, ft_3n, fk_0, fk_1, fk_2, fk_3, ps_n, ps_s, rf_s, rf_n, gl_0, gl_1, gl_2, gl_3, gl_4, gl_5, gl_6, gl_7, gl_8, gl_9, gl_10, gl_11, gl_12, gl_13, sl_0, sl_1, sl_2, sl_3, sl_4, sl_5, sl_6, sl_7, sl_8, sl_9, sl_10, sl_11, sl_12, sl_13, List.contains_nil, List.contains_cons, Nat.reduceBEq, Bool.false_or, Bool.or_false, Bool.true_or, Nat.reduceAdd, true_and, and_true, Nat.reduceLT, List.length_cons, List.length_nil, Nat.reduceLeDiff, List.drop_zero, List.take_zero, List.take_succ_cons, List.drop_succ_cons, List.reverse_cons, List.reverse_nil, List.nil_append, List.cons_append, List.append_nil, forall_const, rf_int, rf_bool, sr_sn, sn_0, sn_i, sn_l, sn_r, sn_n, ob_o, ar_o, al_o, aq_o, aln_o, oo_1, ao_1, lo_1, qo_1, lno_1, rv_o, rvv_0, rvv_1, rvv_2, rvv_3, rvv_4, rvv_5, rvv_6, rvv_7, rvv_8, rvv_9, rvv_10, rvv_11, rvv_12, List.length_set, List.set_set, hg_set, hg_ne, lt_00, lt_80, tn_8, lt_40, tn_4, tn_10, lt_100, le_88, Nat.zero_add, List.forall_mem_cons, List.not_mem_nil, or_01, or_11, Nat.reduceMul, not_false_eq_true, Bool.false_eq_true, if_false, if_true, ite_false, ite_true, Bool.or_true, Bool.false_eq_true, if_false, if_true, ite_false, ite_true, Bool.or_true, eq_self, and_self, reduceCtorEq, true_or, or_true, true_imp_iff, not_true_eq_false, false_imp_iff, implies_true, p26X2_pop_a0, bX2_pop_0, p26X2_pop_a30, bX2_pop_30, rt_X2_pop, mc_X2_pop, ms_X2_pop, mc_X7_copyFrom, ms_X7_copyFrom, ci_X7_copyFrom, al_X7_copyFrom]
  refine ⟨hP1.sB q2 hs1.im ?_, q1, (gb.mono (fun i hi => Or.inl hi)).trans (q2.mono (fun i hi => Or.inr hi))⟩
  rintro i (rfl | rfl | rfl) <;> (unfold pP; omega)
theorem c_pcp_loop {p : Nat → Nat} {g : Nat → Option Nat} {Q : Option Value → rm_H → Prop} {n0 : Nat} (hk : 2 ≤ k) (hd : ∀ i, pP b i → ¬ pP c i) (h1 : ∀ i, pP b i → ¬ im i) (hn : n ≤ 20) (h5 : ∀ i, i < 20 → g i = some (b + 14 + 3 * p i) ∧ p i < 20) (h6 : ∀ i j, i < 20 → j < 20 → p i = p j → i = j) : ∀ (d i : Nat) (H : rm_H), n - i = d → i ≤ n → isP im H c n r L → H[b + 12]? = some (cPa n (b + 13)) → H[b + 13]? = some (cQ 6 20 g) → (∀ i, i < 20 → ∃ r v, isS3 im H (b + 14 + 3 * p i) r v) → (∀ i', i' < i → isS3 im H (b + 14 + 3 * p i') r (L i')) → (∀ H1, isP im H1 b n r L → sB (pP b) H H1 → Q none H1) → rm_S mX2_copyFrom k Q n0 10 [some (.ref (b + 12)), some (.ref (c + 12)), some (.int (nI i))] [] H 0 0 := by
  obtain ⟨j, rfl⟩ : ∃ j, k = j + 1 := ⟨k - 1, by omega⟩
  intro d
  induction d with
  | zero =>
    intro i H hd' hi hC h2 h3 h7 h8 hQ
    have : i = n := by omega
    subst this
    have c0 : (nI i ≤ nI i) = True := eq_true (nI_le (Nat.le_refl _) (by omega))
    refine rm_from 4 [10] ok_X2_copyFrom atX2_copyFrom_10 ?_
    simp (disch := omega) only [w_nil, w_nop, w_iload, w_lload, w_aload, w_istore, w_lstore, w_astore, w_astoreN, w_iinc, w_iadd, w_isub, w_imul, w_iand, w_ior, w_ixor, w_ishl, w_ishr, w_iushr, w_idiv, w_irem, w_ladd, w_lsub, w_lmul, w_land, w_lor, w_ldiv, w_lrem, w_lshl, w_lshr, w_lcmp, w_i2l, w_l2i, w_i2b, w_i2c, w_dupI, w_popI, w_dupR, w_popR, w_dupN, w_popN, w_dup2, w_if, w_icmp, w_ifnull, w_ifnullN, w_ifnon, w_ifnonN, w_goto, w_table, w_look, w_getf, w_putf, w_alen, w_iaload, w_baload, w_laload, w_aaload, w_iastore, w_bastore, w_lastore, w_aastore, w_new, w_newarray, w_anewarray, w_static, w_virtual, w_special, w_obj, w_copyi, w_copyq, w_min, w_max, w_iret, w_lret, w_aret, w_aretN, w_ret, g_fg, g_I, g_J, g_R, g_N, g_1r, pw_0, pw_I, pw_R, pw_N, pw_n, pv_0, pv_1, pv_2, pv_3, pv_4, pv_5, pv_6, pv_7, pv_8, pv_9, pv_10, pv_11, pv_12, pv_13, pv_14, pv_15, pv_16, pv_17, pv_18, pv_19, cd_eq, cd_ne, cd_lt, cd_ge, cd_gt, cd_le, ft_0, ft_1, ft_2, ft_3, ft_3n, fk_0, fk_1, fk_2, fk_3, ps_n, ps_s, rf_s, rf_n, gl_0, gl_1, gl_2, gl_3, gl_4, gl_5, gl_6, gl_7, gl_8, gl_9, gl_10, gl_11, gl_12, gl_13, sl_0, sl_1, sl_2, sl_3, sl_4, sl_5, sl_6, sl_7, sl_8, sl_9, sl_10, sl_11, sl_12, sl_13, List.contains_nil, List.contains_cons, Nat.reduceBEq, Bool.false_or, Bool.or_false, Bool.true_or, Nat.reduceAdd, true_and, and_true, Nat.reduceLT, List.length_cons, List.length_nil, Nat.reduceLeDiff, List.drop_zero, List.take_zero, List.take_succ_cons, List.drop_succ_cons, List.reverse_cons, List.reverse_nil, List.nil_append, List.cons_append, List.append_nil, forall_const, rf_int, rf_bool, sr_sn, sn_0, sn_i, sn_l, sn_r, sn_n, ob_o, ar_o, al_o, aq_o, aln_o, oo_1, ao_1, lo_1, qo_1, lno_1, rv_o, rvv_0, rvv_1, rvv_2, rvv_3, rvv_4, rvv_5, rvv_6, rvv_7, rvv_8, rvv_9, rvv_10, rvv_11, rvv_12, List.length_set, List.set_set, hg_set, hg_ne, lt_00, lt_80, tn_8, lt_40, tn_4, tn_10, lt_100, le_88, Nat.zero_add, List.forall_mem_cons, List.not_mem_nil, or_01, or_11, Nat.reduceMul, not_false_eq_true, Bool.false_eq_true, if_false, if_true, ite_false, ite_true, Bool.or_true, Bool.false_eq_true, if_false, if_true, ite_false, ite_true, Bool.or_true, eq_self, and_self, reduceCtorEq, true_or, or_true, true_imp_iff, not_true_eq_false, false_imp_iff, implies_true, p26X2_copyFrom_c10_a0, bX2_copyFrom_0, p26X2_copyFrom_c10_a10, bX2_copyFrom_10, p26X2_copyFrom_c10_a39, bX2_copyFrom_39, rt_X2_copyFrom, mc_X2_copyFrom, ms_X2_copyFrom, mc_X7_copyFrom, ms_X7_copyFrom, ci_X7_copyFrom, al_X7_copyFrom, h2, c0]
    exact hQ H ⟨p, g, h1, h2, h3, hn, h5, h6, h7, h8⟩ (sB.refl _ _)
  | succ d ih =>
    intro i H hd' hi hC h2 h3 h7 h8 hQ
    have c0 : (nI n ≤ nI i) = False := eq_false (nI_ge (by omega) (by omega))
    have hin : vp_in (nI i) 20 := vp_in_nI (by omega) (by omega)
    have hc : (nI i).toNatClampNeg = i := nI_clamp (by omega)
    obtain ⟨e1, e2⟩ := h5 i (by omega)
    obtain ⟨r', v', hv'⟩ := h7 i (by omega)
    have hC0 := hC
    obtain ⟨p', g', f1, f2, f3, f4, f5, f6, f7, f8⟩ := hC
    obtain ⟨e3, e4⟩ := f5 i (by omega)
    have hw := f8 i (by omega)
    have dj : ∀ x y : Nat, x < 62 → y < 62 → ¬ b + 12 + x = c + 12 + y := by
      intro x y hx hy he
      exact hd (b + 12 + x) ⟨by omega, by omega⟩ (by rw [he]; exact ⟨by omega, by omega⟩)
    have dj2 : ∀ x y : Nat, x < 3 → y < 3 → ¬ b + 14 + 3 * p i + x = c + 14 + 3 * p' i + y := by
      intro x y hx hy he
      exact dj (2 + 3 * p i + x) (2 + 3 * p' i + y) (by omega) (by omega) (by omega)
    refine rm_from 4 [10] ok_X2_copyFrom atX2_copyFrom_10 ?_
    simp (disch := omega) only [w_nil, w_nop, w_iload, w_lload, w_aload, w_istore, w_lstore, w_astore, w_astoreN, w_iinc, w_iadd, w_isub, w_imul, w_iand, w_ior, w_ixor, w_ishl, w_ishr, w_iushr, w_idiv, w_irem, w_ladd, w_lsub, w_lmul, w_land, w_lor, w_ldiv, w_lrem, w_lshl, w_lshr, w_lcmp, w_i2l, w_l2i, w_i2b, w_i2c, w_dupI, w_popI, w_dupR, w_popR, w_dupN, w_popN, w_dup2, w_if, w_icmp, w_ifnull, w_ifnullN, w_ifnon, w_ifnonN, w_goto, w_table, w_look, w_getf, w_putf, w_alen, w_iaload, w_baload, w_laload, w_aaload, w_iastore, w_bastore, w_lastore, w_aastore, w_new, w_newarray, w_anewarray, w_static, w_virtual, w_special, w_obj, w_copyi, w_copyq, w_min, w_max, w_iret, w_lret, w_aret, w_aretN, w_ret, g_fg, g_I, g_J, g_R, g_N, g_1r, pw_0, pw_I, pw_R, pw_N, pw_n, pv_0, pv_1, pv_2, pv_3, pv_4, pv_5, pv_6, pv_7, pv_8, pv_9, pv_10, pv_11, pv_12, pv_13, pv_14, pv_15, pv_16, pv_17, pv_18, pv_19, cd_eq, cd_ne, cd_lt, cd_ge, cd_gt, cd_le, ft_0, ft_1, ft_2, ft_3, ft_3n, fk_0, fk_1, fk_2, fk_3, ps_n, ps_s, rf_s, rf_n, gl_0, gl_1, gl_2, gl_3, gl_4, gl_5, gl_6, gl_7, gl_8, gl_9, gl_10, gl_11, gl_12, gl_13, sl_0, sl_1, sl_2, sl_3, sl_4, sl_5, sl_6, sl_7, sl_8, sl_9, sl_10, sl_11, sl_12, sl_13, List.contains_nil, List.contains_cons, Nat.reduceBEq, Bool.false_or, Bool.or_false, Bool.true_or, Nat.reduceAdd, true_and, and_true, Nat.reduceLT, List.length_cons, List.length_nil, Nat.reduceLeDiff, List.drop_zero, List.take_zero, List.take_succ_cons, List.drop_succ_cons, List.reverse_cons, List.reverse_nil, List.nil_append, List.cons_append, List.append_nil, forall_const, rf_int, rf_bool, sr_sn, sn_0, sn_i, sn_l, sn_r, sn_n, ob_o, ar_o, al_o, aq_o, aln_o, oo_1, ao_1, lo_1, qo_1, lno_1, rv_o, rvv_0, rvv_1, rvv_2, rvv_3, rvv_4, rvv_5, rvv_6, rvv_7, rvv_8, rvv_9, rvv_10, rvv_11, rvv_12, List.length_set, List.set_set, hg_set, hg_ne, lt_00, lt_80, tn_8, lt_40, tn_4, tn_10, lt_100, le_88, Nat.zero_add, List.forall_mem_cons, List.not_mem_nil, or_01, or_11, Nat.reduceMul, not_false_eq_true, Bool.false_eq_true, if_false, if_true, ite_false, ite_true, Bool.or_true, Bool.false_eq_true, if_false, if_true, ite_false, ite_true, Bool.or_true, eq_self, and_self, reduceCtorEq, true_or, or_true, true_imp_iff, not_true_eq_false, false_imp_iff, implies_true, p26X2_copyFrom_c10_a0, bX2_copyFrom_0, p26X2_copyFrom_c10_a10, bX2_copyFrom_10, p26X2_copyFrom_c10_a39, bX2_copyFrom_39, rt_X2_copyFrom, mc_X2_copyFrom, ms_X2_copyFrom, mc_X7_copyFrom, ms_X7_copyFrom, ci_X7_copyFrom, al_X7_copyFrom, h2, h3, c0, hin, hc, e1, e3, f2, f3, hv'.2.1]
    refine (c_cp (by omega) (dj2 0 0 (by omega) (by omega)) (by omega) (dj2 1 1 (by omega) (by omega)) (dj2 1 2 (by omega) (by omega)) (dj2 2 1 (by omega) (by omega)) (dj2 2 2 (by omega) (by omega)) hv' hw).mono ?_
    rintro _ H1 ⟨rfl, hs1, hb⟩ -
    have hm : ∀ i', stP (b + 14 + 3 * p i) (b + 14 + 3 * p i + 1) (b + 14 + 3 * p i + 2) i' → pP b i' := by
      rintro i (rfl | rfl | rfl) <;> exact ⟨by omega, by omega⟩
    have hb2 := hb.mono hm
    have mv : ∀ {i' r v}, i' < 20 → ¬ i' = i → isS3 im H (b + 14 + 3 * p i') r v → isS3 im H1 (b + 14 + 3 * p i') r v := by
      intro i' r v hi' hne hs
      have : ¬ p i' = p i := fun q => hne (h6 i' i hi' (by omega) q)
      refine hs.sB hb (fun i hi => h1 i (hm i hi)) ?_ ?_ ?_ <;> (unfold stP; omega)
    simp (disch := omega) only [w_nil, w_nop, w_iload, w_lload, w_aload, w_istore, w_lstore, w_astore, w_astoreN, w_iinc, w_iadd, w_isub, w_imul, w_iand, w_ior, w_ixor, w_ishl, w_ishr, w_iushr, w_idiv, w_irem, w_ladd, w_lsub, w_lmul, w_land, w_lor, w_ldiv, w_lrem, w_lshl, w_lshr, w_lcmp, w_i2l, w_l2i, w_i2b, w_i2c, w_dupI, w_popI, w_dupR, w_popR, w_dupN, w_popN, w_dup2, w_if, w_icmp, w_ifnull, w_ifnullN, w_ifnon, w_ifnonN, w_goto, w_table, w_look, w_getf, w_putf, w_alen, w_iaload, w_baload, w_laload, w_aaload, w_iastore, w_bastore, w_lastore, w_aastore, w_new, w_newarray, w_anewarray, w_static, w_virtual, w_special, w_obj, w_copyi, w_copyq, w_min, w_max, w_iret, w_lret, w_aret, w_aretN, w_ret, g_fg, g_I, g_J, g_R, g_N, g_1r, pw_0, pw_I, pw_R, pw_N, pw_n, pv_0, pv_1, pv_2, pv_3, pv_4, pv_5, pv_6, pv_7, pv_8, pv_9, pv_10, pv_11, pv_12, pv_13, pv_14, pv_15, pv_16, pv_17, pv_18, pv_19, cd_eq, cd_ne, cd_lt, cd_ge, cd_gt, cd_le, ft_0, ft_1, ft_2, ft_3, ft_3n, fk_0, fk_1, fk_2, fk_3, ps_n, ps_s, rf_s, rf_n, gl_0, gl_1, gl_2, gl_3, gl_4, gl_5, gl_6, gl_7, gl_8, gl_9, gl_10, gl_11, gl_12, gl_13, sl_0, sl_1, sl_2, sl_3, sl_4, sl_5, sl_6, sl_7, sl_8, sl_9, sl_10, sl_11, sl_12, sl_13, List.contains_nil, List.contains_cons, Nat.reduceBEq, Bool.false_or, Bool.or_false, Bool.true_or, Nat.reduceAdd, true_and, and_true, Nat.reduceLT, List.length_cons, List.length_nil, Nat.reduceLeDiff, List.drop_zero, List.take_zero, List.take_succ_cons, List.drop_succ_cons, List.reverse_cons, List.reverse_nil, List.nil_append, List.cons_append, List.append_nil, forall_const, rf_int, rf_bool, sr_sn, sn_0, sn_i, sn_l, sn_r, sn_n, ob_o, ar_o, al_o, aq_o, aln_o, oo_1, ao_1, lo_1, qo_1, lno_1, rv_o, rvv_0, rvv_1, rvv_2, rvv_3, rvv_4, rvv_5, rvv_6, rvv_7, rvv_8, rvv_9, rvv_10, rvv_11, rvv_12, List.length_set, List.set_set, hg_set, hg_ne, lt_00, lt_80, tn_8, lt_40, tn_4, tn_10, lt_100, le_88, Nat.zero_add, List.forall_mem_cons, List.not_mem_nil, or_01, or_11, Nat.reduceMul, not_false_eq_true, Bool.false_eq_true, if_false, if_true, ite_false, ite_true, Bool.or_true, Bool.false_eq_true, if_false, if_true, ite_false, ite_true, Bool.or_true, eq_self, and_self, reduceCtorEq, true_or, or_true, true_imp_iff, not_true_eq_false, false_imp_iff, implies_true, p26X2_copyFrom_c10_a0, bX2_copyFrom_0, p26X2_copyFrom_c10_a10, bX2_copyFrom_10, p26X2_copyFrom_c10_a39, bX2_copyFrom_39, rt_X2_copyFrom, mc_X2_copyFrom, ms_X2_copyFrom, mc_X7_copyFrom, ms_X7_copyFrom, ci_X7_copyFrom, al_X7_copyFrom, nI_inc]
    refine ih (i + 1) H1 (by omega) (by omega) (hC0.sB hb2 h1 hd) (hb.get (by unfold stP; omega) h2) (hb.get (by unfold stP; omega) h3) (fun i' hi' => ?_) (fun i' hi' => ?_) (fun H2 q1 q2 => hQ H2 q1 (hb2.trans q2))
    · by_cases he : i' = i
      · subst he
        exact ⟨_, _, hs1⟩
      · obtain ⟨r, v, hv⟩ := h7 i' hi'
        exact ⟨r, v, mv hi' he hv⟩
    · by_cases he : i' = i
      · subst he
        exact hs1
      · exact mv (by omega) he (h8 i' (by omega))
theorem c_pcp (hk : 2 ≤ k) (hd : ∀ i, pP b i → ¬ pP c i) (h : isP im H b m r1 L1) (hC : isP im H c n r L) : rm_Do mX2_copyFrom k [.ref (b + 12), .ref (c + 12)] H (fun w H1 => w = none ∧ isP im H1 b n r L ∧ sB (pP b) H H1) := by
  have hC0 := hC
  obtain ⟨p, g, h1, h2, h3, h4, h5, h6, h7, h8⟩ := h
  obtain ⟨p', g', f1, f2, f3, f4, f5, f6, f7, f8⟩ := hC
  have gb : sB (fun i => i = b + 12) H (H.set (b + 12) (cPa n (b + 13))) := sB.set _ rfl
  have hgb : ∀ i, i = b + 12 → ¬ im i := by rintro i rfl; exact h1 _ ⟨by omega, by omega⟩
  have gb2 : sB (pP b) H (H.set (b + 12) (cPa n (b + 13))) := sB.set _ ⟨by omega, by omega⟩
  refine rm_m (L := [some (.ref (b + 12)), some (.ref (c + 12)), none]) (c := 0) (s := 0) 4 [10] ok_X2_copyFrom (by decide) rfl rfl rfl rfl ?_
  simp (disch := omega) only [w_nil, w_nop, w_iload, w_lload, w_aload, w_istore, w_lstore, w_astore, w_astoreN, w_iinc, w_iadd, w_isub, w_imul, w_iand, w_ior, w_ixor, w_ishl, w_ishr, w_iushr, w_idiv, w_irem, w_ladd, w_lsub, w_lmul, w_land, w_lor, w_ldiv, w_lrem, w_lshl, w_lshr, w_lcmp, w_i2l, w_l2i, w_i2b, w_i2c, w_dupI, w_popI, w_dupR, w_popR, w_dupN, w_popN, w_dup2, w_if, w_icmp, w_ifnull, w_ifnullN, w_ifnon, w_ifnonN, w_goto, w_table, w_look, w_getf, w_putf, w_alen, w_iaload, w_baload, w_laload, w_aaload, w_iastore, w_bastore, w_lastore, w_aastore, w_new, w_newarray, w_anewarray, w_static, w_virtual, w_special, w_obj, w_copyi, w_copyq, w_min, w_max, w_iret, w_lret, w_aret, w_aretN, w_ret, g_fg, g_I, g_J, g_R, g_N, g_1r, pw_0, pw_I, pw_R, pw_N, pw_n, pv_0, pv_1, pv_2, pv_3, pv_4, pv_5, pv_6, pv_7, pv_8, pv_9, pv_10, pv_11, pv_12, pv_13, pv_14, pv_15, pv_16, pv_17, pv_18, pv_19, cd_eq, cd_ne, cd_lt, cd_ge, cd_gt, cd_le, ft_0, ft_1, ft_2, ft_3, ft_3n, fk_0, fk_1, fk_2, fk_3, ps_n, ps_s, rf_s, rf_n, gl_0, gl_1, gl_2, gl_3, gl_4, gl_5, gl_6, gl_7, gl_8, gl_9, gl_10, gl_11, gl_12, gl_13, sl_0, sl_1, sl_2, sl_3, sl_4, sl_5, sl_6, sl_7, sl_8, sl_9, sl_10, sl_11, sl_12, sl_13, List.contains_nil, List.contains_cons, Nat.reduceBEq, Bool.false_or, Bool.or_false, Bool.true_or, Nat.reduceAdd, true_and, and_true, Nat.reduceLT, List.length_cons, List.length_nil, Nat.reduceLeDiff, List.drop_zero, List.take_zero, List.take_succ_cons, List.drop_succ_cons, List.reverse_cons, List.reverse_nil, List.nil_append, List.cons_append, List.append_nil, forall_const, rf_int, rf_bool, sr_sn, sn_0, sn_i, sn_l, sn_r, sn_n, ob_o, ar_o, al_o, aq_o, aln_o, oo_1, ao_1, lo_1, qo_1, lno_1, rv_o, rvv_0, rvv_1, rvv_2, rvv_3, rvv_4, rvv_5, rvv_6, rvv_7, rvv_8, rvv_9, rvv_10, rvv_11, rvv_12, List.length_set, List.set_set, hg_set, hg_ne, lt_00, lt_80, tn_8, lt_40, tn_4, tn_10, lt_100, le_88, Nat.zero_add, List.forall_mem_cons, List.not_mem_nil, or_01, or_11, Nat.reduceMul, not_false_eq_true, Bool.false_eq_true, if_false, if_true, ite_false, ite_true, Bool.or_true, Bool.false_eq_true, if_false, if_true, ite_false, ite_true, Bool.or_true, eq_self, and_self, reduceCtorEq, true_or, or_true, true_imp_iff, not_true_eq_false, false_imp_iff, implies_true, p26X2_copyFrom_c10_a0, bX2_copyFrom_0, p26X2_copyFrom_c10_a10, bX2_copyFrom_10, p26X2_copyFrom_c10_a39, bX2_copyFrom_39, rt_X2_copyFrom, mc_X2_copyFrom, ms_X2_copyFrom, mc_X7_copyFrom, ms_X7_copyFrom, ci_X7_copyFrom, al_X7_copyFrom, h2, f2]
  refine c_pcp_loop hk hd h1 f4 h5 h6 n 0 _ rfl (Nat.zero_le _) (hC0.sB gb2 h1 hd) (hg_set (hlt h2)) ?_ (fun i hi => ?_) (fun i hi => absurd hi (Nat.not_lt_zero _)) (fun H1 q1 q2 => ⟨rfl, q1, gb2.trans q2⟩)
  · rw [hg_ne (by omega)]
    exact h3
  · obtain ⟨r, v, hv⟩ := h7 i hi
    exact ⟨r, v, hv.sB gb hgb (by omega) (by omega) (by omega)⟩
end PST
