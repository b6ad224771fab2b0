theorem p28X4_keepIfBetter_a0 {k : Nat} {Q : Option Value → rm_H → Prop} {n0 n : Nat} {L : rm_L} {st : List Value} {H : rm_H} {c s : Nat} : rm_p mX4_keepIfBetter tX4_keepIfBetter [] k Q n0 (n + 1) 0 L st H c s = rm_w mX4_keepIfBetter k Q n0 (rm_p mX4_keepIfBetter tX4_keepIfBetter [] k Q n0 n) bX4_keepIfBetter_0 0 L st H c s := propext Iff.rfl
theorem p28X4_keepIfBetter_a15 {k : Nat} {Q : Option Value → rm_H → Prop} {n0 n : Nat} {L : rm_L} {st : List Value} {H : rm_H} {c s : Nat} : rm_p mX4_keepIfBetter tX4_keepIfBetter [] k Q n0 (n + 1) 15 L st H c s = rm_w mX4_keepIfBetter k Q n0 (rm_p mX4_keepIfBetter tX4_keepIfBetter [] k Q n0 n) bX4_keepIfBetter_15 15 L st H c s := propext Iff.rfl
theorem p28X4_keepIfBetter_a39 {k : Nat} {Q : Option Value → rm_H → Prop} {n0 n : Nat} {L : rm_L} {st : List Value} {H : rm_H} {c s : Nat} : rm_p mX4_keepIfBetter tX4_keepIfBetter [] k Q n0 (n + 1) 39 L st H c s = rm_w mX4_keepIfBetter k Q n0 (rm_p mX4_keepIfBetter tX4_keepIfBetter [] k Q n0 n) bX4_keepIfBetter_39 39 L st H c s := propext Iff.rfl
theorem p28X4_keepIfBetter_c15_a0 {k : Nat} {Q : Option Value → rm_H → Prop} {n0 n : Nat} {L : rm_L} {st : List Value} {H : rm_H} {c s : Nat} : rm_p mX4_keepIfBetter tX4_keepIfBetter [15] k Q n0 (n + 1) 0 L st H c s = rm_w mX4_keepIfBetter k Q n0 (rm_p mX4_keepIfBetter tX4_keepIfBetter [15] k Q n0 n) bX4_keepIfBetter_0 0 L st H c s := propext Iff.rfl
theorem p28X4_keepIfBetter_c15_a15 {k : Nat} {Q : Option Value → rm_H → Prop} {n0 n : Nat} {L : rm_L} {st : List Value} {H : rm_H} {c s : Nat} : rm_p mX4_keepIfBetter tX4_keepIfBetter [15] k Q n0 (n + 1) 15 L st H c s = rm_S mX4_keepIfBetter k Q n0 15 L st H c s := propext Iff.rfl
theorem p28X4_keepIfBetter_c15_a39 {k : Nat} {Q : Option Value → rm_H → Prop} {n0 n : Nat} {L : rm_L} {st : List Value} {H : rm_H} {c s : Nat} : rm_p mX4_keepIfBetter tX4_keepIfBetter [15] k Q n0 (n + 1) 39 L st H c s = rm_w mX4_keepIfBetter k Q n0 (rm_p mX4_keepIfBetter tX4_keepIfBetter [15] k Q n0 n) bX4_keepIfBetter_39 39 L st H c s := propext Iff.rfl
/-! RowSearch -/
def decV (q : Int32) (v : stV) : stV := (sR v, sK v, decF (rFr (sR v)) (sW v) (sA v) (rN (sR v)) (rKe (sR v)) (rHa (sR v)) q (s9 v), sW v, sA v)
def endV (v : stV) : stV := (sR v, sK v, endF (rFr (sR v)) (rLa (sR v)) (sW v) (rN (sR v)) (s9 v), sW v, sA v)
def wstV (v : stV) : Int32 := wstF (sK v) (s9 v)
/-- the ones that are there -/
def opV (v : stV) : Int32 := o_set ((s9 v).2.2.2.2.2.2.1 ||| (s9 v).2.2.2.2.2.2.2.1 ||| (s9 v).2.2.2.2.2.2.2.2) (s9 v).1 (rFr (sR v)) (rN (sR v))
section RWA
variable {im : Nat → Prop} {H : rm_H} {k a pw pa r : Nat} {v : stV} {q : Int32}
theorem isS_set {s : c9} (he : s.2.2.2.2.2.1 = 0 ∨ s.2.2.2.2.2.1 = 1) (h : isS im H a pw pa r v) : isS im (H.set a (cS9 pw pa r (sK v) s)) a pw pa r (sR v, sK v, s, sW v, sA v) ∧ sB (stP a pw pa) H (H.set a (cS9 pw pa r (sK v) s)) := by
  have hI := h.im
  obtain ⟨m, h1, h2, h3, h4, h5, h6, h7⟩ := h
  have b : sB (stP a pw pa) H (H.set a (cS9 pw pa r (sK v) s)) := sB.set _ (Or.inl rfl)
  refine ⟨⟨m, hg_set (hlt h1), ?_, ?_, h4.sB b hI, h5, h6, he⟩, b⟩
  · rw [hg_ne (ne_oi h1 h2)]; exact h2
  · rw [hg_ne (ne_oi h1 h3)]; exact h3
theorem decF_eg (Fr W A : Nat → Int32) (N : Nat) (ke ha q : Int32) (s : c9) : (decF Fr W A N ke ha q s).2.2.2.2.2.1 = s.2.2.2.2.2.1 := by
  obtain ⟨dy, kp, ga, lo, wa, eg, an, bu, ls⟩ := s
  unfold decF
  simp only
  split <;> rfl
theorem c_dec (hk : 2 ≤ k) (hq : q = -1 ∨ ∃ q', q' < rN (sR v) ∧ q = nI q') (h : isS im H a pw pa r v) : rm_Do mX7_decide k [.ref a, .int q] H (fun w H1 => w = none ∧ isS im H1 a pw pa r (decV q v) ∧ sB (stP a pw pa) H H1) := by
  have h0 := h
  obtain ⟨m, h1, h2, h3, ⟨-, g1, g2, g3, g4, g5, g6, -⟩, h5, h6, h7⟩ := h
  refine (c_decide hk g6 hq h1 g1 g3 h2 h3).mono ?_
  rintro _ _ ⟨rfl, rfl⟩
  exact ⟨rfl, isS_set (by rw [decF_eg]; exact h7) h0⟩
theorem c_end (hk : 1 ≤ k) (h : isS im H a pw pa r v) : rm_Do mX7_endDay k [.ref a] H (fun w H1 => w = none ∧ isS im H1 a pw pa r (endV v) ∧ sB (stP a pw pa) H H1) := by
  have h0 := h
  obtain ⟨m, h1, h2, h3, ⟨-, g1, g2, g3, g4, g5, g6, -⟩, h5, h6, h7⟩ := h
  refine (c_endDay9 hk g6 h1 g1 g3 g4 h2).mono ?_
  rintro _ _ ⟨rfl, rfl⟩
  exact ⟨rfl, isS_set (Or.inl rfl) h0⟩
theorem c_wst (hk : 1 ≤ k) (h : isS im H a pw pa r v) : rm_Do mX7_isDayWasted k [.ref a] H (fun w H1 => H1 = H ∧ w = some (.int (wstV v))) := c_isDayWasted hk h.2.1
theorem c_op (h : isS im H a pw pa r v) : rm_Do mX7_openSet k [.ref a] H (fun w H1 => H1 = H ∧ w = some (.int (opV v))) := by
  obtain ⟨m, h1, h2, h3, ⟨-, g1, g2, g3, g4, g5, g6, -⟩, h5, h6, h7⟩ := h
  exact c_openSet g6 h1 g1 g3
end RWA
/-- what a search of rows has found: found, balance, the best row, the tried row -/
abbrev rsZ : Type := Int32 × Int32 × (Nat → Int32) × (Nat → Int32)
def nz4 (f : Nat → Int32) : Prop := ∀ j, 4 ≤ j → f j = 0
theorem nz_cpy4 {f g : Nat → Int32} (hf : nz4 f) (hg : nz4 g) : va_cpy f g 0 0 4 = f := by
  funext j
  unfold va_cpy
  by_cases h : 0 ≤ j ∧ j < 0 + 4
  · rw [if_pos h]; congr 1; omega
  · rw [if_neg h, hf j (by omega), hg j (by omega)]
def kbF (b : Int32) (z : rsZ) : rsZ := if z.1 = 0 then (1, b, z.2.2.2, z.2.2.2) else if b ≤ z.2.1 then z else (1, b, z.2.2.2, z.2.2.2)
/-- the state behind a day on which put (p - 1) was put to him -/
def nxV (p : Nat) (v : stV) : stV := if wstV v = 0 then endV (decV (nI p - 1) v) else endV v
def rsC (v : stV) (p : Nat) : Prop := p = 0 ∨ ¬ bq (if wstV v = 0 then opV v else 0) (nI p - 1) = 0
noncomputable def rsF : Nat → Nat → stV → rsZ → rsZ
  | 0, _, v, z => kbF (balV v) z
  | d + 1, i, v, z => (List.range 9).foldl (fun z p => by
      classical
      exact if rsC v p then rsF d (i + 1) (nxV p v) (z.1, z.2.1, z.2.2.1, upd z.2.2.2 i (nI p - 1)) else z) z
/-- its cells behind the states up to i -/
def rsP (i a : Nat) : Prop := (94 ≤ a ∧ a ≤ 97) ∨ (106 + 3 * i ≤ a ∧ a ≤ 117)
abbrev cRs (fd bb : Int32) : va_E := .inr (4, [.ref 95, .int bb, .ref 96, .ref 97, .int fd])
def isRS (im : Nat → Prop) (H : rm_H) (z : rsZ) : Prop :=
  (∀ a, (94 ≤ a ∧ a ≤ 97) ∨ (103 ≤ a ∧ a ≤ 117) → ¬ im a) ∧ H[94]? = some (cRs z.1 z.2.1) ∧ H[95]? = some (cI 4 z.2.2.1) ∧ H[96]? = some (cI 4 z.2.2.2) ∧ (∃ g, H[97]? = some (cQ 6 5 g) ∧ ∀ i, i < 5 → g i = some (103 + 3 * i)) ∧ (∀ i, i < 5 → ∃ r v, isS3 im H (103 + 3 * i) r v) ∧ nz4 z.2.2.1 ∧ nz4 z.2.2.2
theorem isRS.sB {im P : Nat → Prop} {H H1 : rm_H} {z : rsZ} (h : isRS im H z) (g : sB P H H1) (hp : ∀ i, P i → ¬ im i) (hn : ∀ a, P a → ¬ ((94 ≤ a ∧ a ≤ 97) ∨ (103 ≤ a ∧ a ≤ 117))) : isRS im H1 z := by
  obtain ⟨m, h1, h2, h3, ⟨f, h4, h5⟩, h6, h7⟩ := h
  refine ⟨m, g.get (fun q => hn _ q (by omega)) h1, g.get (fun q => hn _ q (by omega)) h2, g.get (fun q => hn _ q (by omega)) h3, ⟨f, g.get (fun q => hn _ q (by omega)) h4, h5⟩, fun i hi => ?_, h7⟩
  obtain ⟨r, v, hv⟩ := h6 i hi
  exact ⟨r, v, hv.sB g hp (fun q => hn _ q (by omega)) (fun q => hn _ q (by omega)) (fun q => hn _ q (by omega))⟩
/-- a State of it changes -/
theorem isRS_st {im : Nat → Prop} {H H1 : rm_H} {z : rsZ} {i r : Nat} {v : stV} (h : isRS im H z) (hi : i < 5) (g : sB (stP (103 + 3 * i) (103 + 3 * i + 1) (103 + 3 * i + 2)) H H1) (hs : isS3 im H1 (103 + 3 * i) r v) : isRS im H1 z := by
  obtain ⟨m, h1, h2, h3, ⟨f, h4, h5⟩, h6, h7⟩ := h
  refine ⟨m, g.get (by unfold stP; omega) h1, g.get (by unfold stP; omega) h2, g.get (by unfold stP; omega) h3, ⟨f, g.get (by unfold stP; omega) h4, h5⟩, fun i' hi' => ?_, h7⟩
  by_cases he : i' = i
  · subst he
    exact ⟨_, _, hs⟩
  · obtain ⟨r, v, hv⟩ := h6 i' hi'
    refine ⟨r, v, hv.sB g (fun a ha => m a ?_) ?_ ?_ ?_⟩
    · unfold stP at ha; omega
    all_goals (unfold stP; omega)
section RWB
variable {im : Nat → Prop} {H : rm_H} {k r n : Nat} {v : stV} {z : rsZ}
theorem c_keepIf {b : Int32} (hk : 1 ≤ k) (h : isRS im H z) : rm_Do mX4_keepIfBetter k [.ref 94, .int b] H (fun w H1 => w = none ∧ isRS im H1 (kbF b z) ∧ sB (fun a => a = 94 ∨ a = 95) H H1) := by
  have h0 := h
  obtain ⟨m, h1, h2, h3, ⟨f, h4, h5⟩, h6, h7, h8⟩ := h
  have l1 := hlt h1
  have l2 := hlt h2
  refine rm_m (L := [some (.ref 94), some (.int b)]) (c := 0) (s := 0) 4 [15] ok_X4_keepIfBetter (by decide) rfl rfl rfl rfl ?_
  have up : ∀ (Q : Option Value → rm_H → Prop) (n0 : Nat), (∀ H1, isRS im H1 (1, b, z.2.2.2, z.2.2.2) → sB (fun a => a = 94 ∨ a = 95) H H1 → Q none H1) → rm_S mX4_keepIfBetter k Q n0 15 [some (.ref 94), some (.int b)] [] H 0 0 := by
    intro Q n0 hQ
    refine rm_from 4 [] ok_X4_keepIfBetter atX4_keepIfBetter_15 ?_
    simp (disch := omega) only [w_nil, w_nop, w_iload, w_lload, w_aload, w_istore, w_lstore, w_astore, w_astoreN, w_iinc, w_iadd, w_isub, w_imul, w_iand, w_ior, w_ixor, w_ishl, w_ishr, w_iushr, w_idiv, w_irem, w_ladd, w_lsub, w_lmul, w_land, w_lor, w_ldiv, w_lrem, w_lshl, w_lshr, w_lcmp, w_i2l, w_l2i, w_i2b, w_i2c, w_dupI, w_popI, w_dupR, w_popR, w_dupN, w_popN, w_dup2, w_if, w_icmp, w_ifnull, w_ifnullN, w_ifnon, w_ifnonN, w_goto, w_table, w_look, w_getf, w_putf, w_alen, w_iaload, w_baload, w_laload, w_aaload, w_iastore, w_bastore, w_lastore, w_aastore, w_new, w_newarray, w_anewarray, w_static, w_virtual, w_special, w_obj, w_copyi, w_copyq, w_min, w_max, w_iret, w_lret, w_aret, w_aretN, w_ret, g_fg, g_I, g_J, g_R, g_N, g_1r, pw_0, pw_I, pw_R, pw_N, pw_n, pv_0, pv_1, pv_2, pv_3, pv_4, pv_5, pv_6, pv_7, pv_8, pv_9, pv_10, pv_11, pv_12, pv_13, pv_14, pv_15, pv_16, pv_17, pv_18, pv_19, cd_eq, cd_ne, cd_lt, cd_ge, cd_gt, cd_le, ft_0, ft_1, ft_2, ft_3, ft_3n, fk_0, fk_1, fk_2, fk_3, ps_n, ps_s, rf_s, rf_n, gl_0, gl_1, gl_2, gl_3, gl_4, gl_5, gl_6, gl_7, gl_8, gl_9, gl_10, gl_11, gl_12, gl_13, sl_0, sl_1, sl_2, sl_3, sl_4, sl_5, sl_6, sl_7, sl_8, sl_9, sl_10, sl_11, sl_12, sl_13, List.contains_nil, List.contains_cons, Nat.reduceBEq, Bool.false_or, Bool.or_false, Bool.true_or, Nat.reduceAdd, true_and, and_true, Nat.reduceLT, List.length_cons, List.length_nil, Nat.reduceLeDiff, List.drop_zero, List.take_zero, List.take_succ_cons, List.drop_succ_cons, List.reverse_cons, List.reverse_nil, List.nil_append, List.cons_append, List.append_nil, forall_const, rf_int, rf_bool, sr_sn, sn_0, sn_i, sn_l, sn_r, sn_n, ob_o, ar_o, al_o, aq_o, aln_o, oo_1, ao_1, lo_1, qo_1, lno_1, rv_o, rvv_0, rvv_1, rvv_2, rvv_3, rvv_4, rvv_5, rvv_6, rvv_7, rvv_8, rvv_9, rvv_10, rvv_11, rvv_12, List.length_set, List.set_set, hg_set, hg_ne, lt_00, lt_80, tn_8, lt_40, tn_4, tn_10, lt_100, le_88, Nat.zero_add, List.forall_mem_cons, List.not_mem_nil, or_01, or_11, Nat.reduceMul, not_false_eq_true, Bool.false_eq_true, if_false, if_true, ite_false, ite_true, Bool.or_true, Bool.false_eq_true, if_false, if_true, ite_false, ite_true, Bool.or_true, eq_self, and_self, reduceCtorEq, true_or, or_true, true_imp_iff, not_true_eq_false, false_imp_iff, implies_true, p28X4_keepIfBetter_a0, bX4_keepIfBetter_0, p28X4_keepIfBetter_a15, bX4_keepIfBetter_15, p28X4_keepIfBetter_a39, bX4_keepIfBetter_39, rt_X4_keepIfBetter, mc_X4_keepIfBetter, ms_X4_keepIfBetter, h1, h2, h3, nz_cpy4 h8 h7]
    have b1 : sB (fun a => a = 94 ∨ a = 95) H ((H.set 94 (cRs 1 b)).set 95 (cI 4 z.2.2.2)) := (sB.set _ (Or.inl rfl)).trans (sB.set _ (Or.inr rfl))
    refine ⟨hk, hQ _ ⟨m, ?_, ?_, ?_, ⟨f, ?_, h5⟩, fun i hi => ?_, h8, h8⟩ b1⟩
    · rw [hg_ne (by omega), hg_set l1]
    · exact hg_set (by simp only [List.length_set]; exact l2)
    · exact b1.get (by omega) h3
    · exact b1.get (by omega) h4
    · obtain ⟨r, v, hv⟩ := h6 i hi
      exact ⟨r, v, hv.sB b1 (fun a ha => m a (by omega)) (by omega) (by omega) (by omega)⟩
  simp (disch := omega) only [w_nil, w_nop, w_iload, w_lload, w_aload, w_istore, w_lstore, w_astore, w_astoreN, w_iinc, w_iadd, w_isub, w_imul, w_iand, w_ior, w_ixor, w_ishl, w_ishr, w_iushr, w_idiv, w_irem, w_ladd, w_lsub, w_lmul, w_land, w_lor, w_ldiv, w_lrem, w_lshl, w_lshr, w_lcmp, w_i2l, w_l2i, w_i2b, w_i2c, w_dupI, w_popI, w_dupR, w_popR, w_dupN, w_popN, w_dup2, w_if, w_icmp, w_ifnull, w_ifnullN, w_ifnon, w_ifnonN, w_goto, w_table, w_look, w_getf, w_putf, w_alen, w_iaload, w_baload, w_laload, w_aaload, w_iastore, w_bastore, w_lastore, w_aastore, w_new, w_newarray, w_anewarray, w_static, w_virtual, w_special, w_obj, w_copyi, w_copyq, w_min, w_max, w_iret, w_lret, w_aret, w_aretN, w_ret, g_fg, g_I, g_J, g_R, g_N, g_1r, pw_0, pw_I, pw_R, pw_N, pw_n, pv_0, pv_1, pv_2, pv_3, pv_4, pv_5, pv_6, pv_7, pv_8, pv_9, pv_10, pv_11, pv_12, pv_13, pv_14, pv_15, pv_16, pv_17, pv_18, pv_19, cd_eq, cd_ne, cd_lt, cd_ge, cd_gt, cd_le, ft_0, ft_1, ft_2, ft_3, ft_3n, fk_0, fk_1, fk_2, fk_3, ps_n, ps_s, rf_s, rf_n, gl_0, gl_1, gl_2, gl_3, gl_4, gl_5, gl_6, gl_7, gl_8, gl_9, gl_10, gl_11, gl_12, gl_13, sl_0, sl_1, sl_2, sl_3, sl_4, sl_5, sl_6, sl_7, sl_8, sl_9, sl_10, sl_11, sl_12, sl_13, List.contains_nil, List.contains_cons, Nat.reduceBEq, Bool.false_or, Bool.or_false, Bool.true_or, Nat.reduceAdd, true_and, and_true, Nat.reduceLT, List.length_cons, List.length_nil, Nat.reduceLeDiff, List.drop_zero, List.take_zero, List.take_succ_cons, List.drop_succ_cons, List.reverse_cons, List.reverse_nil, List.nil_append, List.cons_append, List.append_nil, forall_const, rf_int, rf_bool, sr_sn, sn_0, sn_i, sn_l, sn_r, sn_n, ob_o, ar_o, al_o, aq_o, aln_o, oo_1, ao_1, lo_1, qo_1, lno_1, rv_o, rvv_0, rvv_1, rvv_2, rvv_3, rvv_4, rvv_5, rvv_6, rvv_7, rvv_8, rvv_9, rvv_10, rvv_11, rvv_12, List.length_set, List.set_set, hg_set, hg_ne, lt_00, lt_80, tn_8, lt_40, tn_4, tn_10, lt_100, le_88, Nat.zero_add, List.forall_mem_cons, List.not_mem_nil, or_01, or_11, Nat.reduceMul, not_false_eq_true, Bool.false_eq_true, if_false, if_true, ite_false, ite_true, Bool.or_true, Bool.false_eq_true, if_false, if_true, ite_false, ite_true, Bool.or_true, eq_self, and_self, reduceCtorEq, true_or, or_true, true_imp_iff, not_true_eq_false, false_imp_iff, implies_true, p28X4_keepIfBetter_c15_a0, bX4_keepIfBetter_0, p28X4_keepIfBetter_c15_a15, bX4_keepIfBetter_15, p28X4_keepIfBetter_c15_a39, bX4_keepIfBetter_39, rt_X4_keepIfBetter, mc_X4_keepIfBetter, ms_X4_keepIfBetter, h1, h2, h3]
  refine ⟨fun hz => up _ _ (fun H1 q1 q2 => ⟨rfl, ?_, q2⟩), fun hz => ⟨fun hb => ⟨?_, sB.refl _ _⟩, fun hb => up _ _ (fun H1 q1 q2 => ⟨rfl, ?_, q2⟩)⟩⟩
  · simpa only [kbF, if_pos hz] using q1
  · simpa only [kbF, if_neg hz, if_pos hb] using h0
  · simpa only [kbF, if_neg hz, if_neg hb] using q1
end RWB
