theorem p41X11_isWithin_a0 {k : Nat} {Q : Option Value → rm_H → Prop} {n0 n : Nat} {L : rm_L} {st : List Value} {H : rm_H} {c s : Nat} : rm_p mX11_isWithin tX11_isWithin [] k Q n0 (n + 1) 0 L st H c s = rm_w mX11_isWithin k Q n0 (rm_p mX11_isWithin tX11_isWithin [] k Q n0 n) bX11_isWithin_0 0 L st H c s := propext Iff.rfl
theorem p41X11_isWithin_a14 {k : Nat} {Q : Option Value → rm_H → Prop} {n0 n : Nat} {L : rm_L} {st : List Value} {H : rm_H} {c s : Nat} : rm_p mX11_isWithin tX11_isWithin [] k Q n0 (n + 1) 14 L st H c s = rm_w mX11_isWithin k Q n0 (rm_p mX11_isWithin tX11_isWithin [] k Q n0 n) bX11_isWithin_14 14 L st H c s := propext Iff.rfl
theorem p41X11_isWithin_a15 {k : Nat} {Q : Option Value → rm_H → Prop} {n0 n : Nat} {L : rm_L} {st : List Value} {H : rm_H} {c s : Nat} : rm_p mX11_isWithin tX11_isWithin [] k Q n0 (n + 1) 15 L st H c s = rm_w mX11_isWithin k Q n0 (rm_p mX11_isWithin tX11_isWithin [] k Q n0 n) bX11_isWithin_15 15 L st H c s := propext Iff.rfl
theorem p41X11_isTold_a0 {k : Nat} {Q : Option Value → rm_H → Prop} {n0 n : Nat} {L : rm_L} {st : List Value} {H : rm_H} {c s : Nat} : rm_p mX11_isTold tX11_isTold [] k Q n0 (n + 1) 0 L st H c s = rm_w mX11_isTold k Q n0 (rm_p mX11_isTold tX11_isTold [] k Q n0 n) bX11_isTold_0 0 L st H c s := propext Iff.rfl
theorem p41X11_isQuestion_a0 {k : Nat} {Q : Option Value → rm_H → Prop} {n0 n : Nat} {L : rm_L} {st : List Value} {H : rm_H} {c s : Nat} : rm_p mX11_isQuestion tX11_isQuestion [] k Q n0 (n + 1) 0 L st H c s = rm_w mX11_isQuestion k Q n0 (rm_p mX11_isQuestion tX11_isQuestion [] k Q n0 n) bX11_isQuestion_0 0 L st H c s := propext Iff.rfl
/-! The whole object: what it is worth (oV), and how it lies (isO) -/
abbrev oV : Type := ((Nat → Int32) × Nat) × (Nat × (Nat → Nat × (Nat → Int32))) × iV × (Nat → Option iV)
abbrev oB (w : oV) : Nat → Int32 := w.1.1
abbrev oL (w : oV) : Nat := w.1.2
abbrev oC (w : oV) : Nat := w.2.1.1
abbrev oR (w : oV) : Nat → Nat × (Nat → Int32) := w.2.1.2
abbrev oI (w : oV) : iV := w.2.2.1
abbrev oG (w : oV) : Nat → Option iV := w.2.2.2
abbrev oS (w : oV) : stV := w.2.2.1.1
abbrev cOD (rc : Int32) : va_E := .inr (11, [.ref 1, .ref 6, .ref 8, .int rc, .ref 9, .ref 83, .ref 84, .ref 94, .ref 118, .ref 152])
def isTx (H : rm_H) (B : Nat → Int32) (ln : Nat) : Prop := ∃ fa l at_, isX H B ln fa l at_
def isRdr (H : rm_H) : Prop := ∃ (K : List Int32) (ci : Int32) (St : Nat → Int32), H[6]? = some (cRd (nI K.length) ci) ∧ H[7]? = some (cI 400 St) ∧ K.length ≤ 400 ∧ ∀ j, j < K.length → St j = K.getD j 0
def isRls (im : Nat → Prop) (H : rm_H) (rc : Nat) (R : Nat → Nat × (Nat → Int32)) : Prop := rc ≤ 6 ∧ ∃ g, H[8]? = some (cQ 4 6 g) ∧ ∀ i, i < rc → ∃ rr, g i = some rr ∧ isRu2 im H (.ref rr) (some (R i))
def isImg (im : Nat → Prop) (H : rm_H) (G : Nat → Option iV) : Prop := ∃ gi, H[83]? = some (cQ 5 4 gi) ∧ (∀ k, k < 4 → (G k = none ∧ gi k = none) ∨ ∃ u b r, G k = some u ∧ gi k = some b ∧ 189 ≤ b ∧ b + 74 ≤ H.length ∧ isI im H b r u) ∧ ∀ j k b c, j < 4 → k < 4 → j ≠ k → gi j = some b → gi k = some c → b + 74 ≤ c ∨ c + 74 ≤ b
def isSc (im : Nat → Prop) (H : rm_H) : Prop := isT0 im H ∧ (∃ z, isRS im H z) ∧ (∃ wb z, isWS im H wb z) ∧ ∃ P, H[152]? = some (cI 427 P)
def okIm (im : Nat → Prop) (H : rm_H) : Prop := (∀ i, im i → i < H.length ∧ 9 ≤ i ∧ ¬ i = 83 ∧ ¬ i = 152 ∧ ¬ (153 ≤ i ∧ i ≤ 188)) ∧ 189 ≤ H.length
/-- told is yes or no -/
abbrev b01 (v : stV) : Prop := rTo (sR v) = 0 ∨ rTo (sR v) = 1
def okB (w : oV) : Prop := b01 (oS w) ∧ ∀ k u, k < 4 → oG w k = some u → b01 u.1
def isO (im : Nat → Prop) (H : rm_H) (w : oV) : Prop :=
  okIm im H ∧ H[0]? = some (cOD (nI (oC w))) ∧ isTx H (oB w) (oL w) ∧ isRdr H ∧ isRls im H (oC w) (oR w) ∧ (∃ r, isI im H 9 r (oI w)) ∧ isImg im H (oG w) ∧ isSc im H ∧ okB w
theorem isTx.sB {P : Nat → Prop} {H H1 : rm_H} {B : Nat → Int32} {ln : Nat} (h : isTx H B ln) (g : sB P H H1) (hn : ∀ i, P i → 6 ≤ i) : isTx H1 B ln := by
  obtain ⟨fa, l, a, hx⟩ := h
  exact ⟨fa, l, a, hx.sB g (fun i hi => by have := hn i hi; unfold xP; omega)⟩
theorem isRdr.sB {P : Nat → Prop} {H H1 : rm_H} (h : isRdr H) (g : sB P H H1) (hn : ∀ i, P i → ¬ (i = 6 ∨ i = 7)) : isRdr H1 := by
  obtain ⟨K, ci, St, h1, h2, h3⟩ := h
  exact ⟨K, ci, St, g.get (fun q => hn _ q (Or.inl rfl)) h1, g.get (fun q => hn _ q (Or.inr rfl)) h2, h3⟩
theorem isRls.sB {im P : Nat → Prop} {H H1 : rm_H} {rc : Nat} {R : Nat → Nat × (Nat → Int32)} (h : isRls im H rc R) (g : sB P H H1) (hp : ∀ i, P i → ¬ im i) (hn : ∀ i, P i → ¬ i = 8) : isRls im H1 rc R := by
  obtain ⟨h1, f, h2, h3⟩ := h
  exact ⟨h1, f, g.get (fun q => hn _ q rfl) h2, fun i hi => (h3 i hi).imp (fun rr q => ⟨q.1, q.2.sB g hp⟩)⟩
theorem isImg.sB {im P : Nat → Prop} {H H1 : rm_H} {G : Nat → Option iV} (h : isImg im H G) (g : sB P H H1) (hp : ∀ i, P i → ¬ im i) (hn : ∀ i, P i → ¬ i = 83 ∧ i ≤ 188) : isImg im H1 G := by
  obtain ⟨gi, h1, h2, h3⟩ := h
  refine ⟨gi, g.get (fun q => (hn _ q).1 rfl) h1, fun k hk => ?_, h3⟩
  rcases h2 k hk with q | ⟨u, b, r, q1, q2, q3, q5, q4⟩
  · exact Or.inl q
  · exact Or.inr ⟨u, b, r, q1, q2, q3, by rw [g.1]; exact q5, q4.sB g hp (fun i hi => by have := (hn i hi).2; unfold iP; omega)⟩
theorem okIm.sB {im P : Nat → Prop} {H H1 : rm_H} (h : okIm im H) (g : sB P H H1) : okIm im H1 := by
  unfold okIm
  rw [g.1]
  exact h
theorem isSc.ref {im P : Nat → Prop} {H H1 : rm_H} (h : isSc im H) (g : sB P H H1) (hp : ∀ i, P i → ¬ im i) (hn : ∀ i, P i → i ≤ 83 ∨ 153 ≤ i) : isSc im H1 := by
  obtain ⟨⟨rl, r, v, h1⟩, ⟨z, h2⟩, ⟨wb, y, h3⟩, F, h4⟩ := h
  refine ⟨⟨rl, r, v, h1.sB g hp (fun i hi => ?_)⟩, ⟨z, h2.sB g hp (fun i hi => ?_)⟩, ⟨wb, y, h3.sB g hp (fun i hi => ?_)⟩, F, g.get (fun q => ?_) h4⟩
  · have := hn i hi; unfold tP; omega
  · have := hn i hi; omega
  · have := hn i hi; unfold wsC; omega
  · have := hn _ q; omega
theorem isSc.t {im : Nat → Prop} {H H1 : rm_H} (h : isSc im H) (g : sB tP H H1) (ht : isT0 im H1) : isSc im H1 := by
  obtain ⟨⟨rl, r, v, h1⟩, ⟨z, h2⟩, ⟨wb, y, h3⟩, F, h4⟩ := h
  have hp := h1.im
  refine ⟨ht, ⟨z, h2.sB g hp (fun i hi => ?_)⟩, ⟨wb, y, h3.sB g hp (fun i hi => ?_)⟩, F, g.get (fun q => ?_) h4⟩
  · unfold tP at hi; omega
  · unfold tP at hi; unfold wsC; omega
  · unfold tP at q; omega
/-- what lies behind the image that is now, or the reference's, has changed -/
theorem isO.sc {im P : Nat → Prop} {H H1 : rm_H} {w : oV} (h : isO im H w) (g : sB P H H1) (hp : ∀ i, P i → ¬ im i) (hn : ∀ i, P i → 84 ≤ i ∧ i ≤ 188) (hs : isSc im H1) : isO im H1 w := by
  obtain ⟨h1, h2, h3, h4, h5, ⟨r, h6⟩, h7, h8, h9⟩ := h
  refine ⟨h1.sB g, g.get (fun q => ?_) h2, h3.sB g (fun i hi => ?_), h4.sB g (fun i hi => ?_), h5.sB g hp (fun i hi => ?_), ⟨r, h6.sB g hp (fun i hi => ?_)⟩, h7.sB g hp (fun i hi => ?_), hs, h9⟩
  · have := hn _ q; omega
  · have := hn _ hi; omega
  · have := hn _ hi; omega
  · have := hn _ hi; omega
  · have := hn _ hi; unfold iP; omega
  · have := hn _ hi; omega
theorem isO.t {im : Nat → Prop} {H H1 : rm_H} {w : oV} (h : isO im H w) (g : sB tP H H1) (ht : isT0 im H1) : isO im H1 w := by
  have hp : ∀ i, tP i → ¬ im i := by
    obtain ⟨-, -, -, -, -, -, -, ⟨⟨rl, r, v, h1⟩, -⟩, -⟩ := h
    exact h1.im
  exact h.sc g hp (fun i hi => by unfold tP at hi; omega) (h.2.2.2.2.2.2.2.1.t g ht)
/-- the reference's cells -/
def mP (i : Nat) : Prop := 153 ≤ i ∧ i ≤ 188
theorem isO.m {im : Nat → Prop} {H H1 : rm_H} {w : oV} (h : isO im H w) (g : sB mP H H1) : isO im H1 w := by
  have hp : ∀ i, mP i → ¬ im i := fun i hi q => (h.1.1 i q).2.2.2.2 hi
  exact h.sc g hp (fun i hi => by unfold mP at hi; omega) (h.2.2.2.2.2.2.2.1.ref g hp (fun i hi => by unfold mP at hi; omega))
/-- the image that is now has changed -/
theorem isO.n {im P : Nat → Prop} {H H1 : rm_H} {w : oV} {v : iV} {r : Nat} (h : isO im H w) (g : sB P H H1) (hn : ∀ i, P i → iP 9 i) (hv : isI im H1 9 r v) (hb : b01 v.1) : isO im H1 (w.1, w.2.1, v, w.2.2.2) := by
  obtain ⟨h1, h2, h3, h4, h5, ⟨r0, h6⟩, h7, h8, h9⟩ := h
  have hp : ∀ i, P i → ¬ im i := fun i hi => h6.im i (hn i hi)
  have hn2 : ∀ i, P i → 9 ≤ i ∧ i ≤ 82 := fun i hi => by have := hn i hi; unfold iP at this; omega
  refine ⟨h1.sB g, g.get (fun q => ?_) h2, h3.sB g (fun i hi => ?_), h4.sB g (fun i hi => ?_), h5.sB g hp (fun i hi => ?_), ⟨r, hv⟩, h7.sB g hp (fun i hi => ?_), h8.ref g hp (fun i hi => ?_), hb, h9.2⟩
  · have := hn2 _ q; omega
  · have := hn2 _ hi; omega
  · have := hn2 _ hi; omega
  · have := hn2 _ hi; omega
  · have := hn2 _ hi; omega
  · have := hn2 _ hi; omega
/-- the reference's cells are as they were -/
def frM (H H1 : rm_H) : Prop := H.length ≤ H1.length ∧ ∀ i, mP i → H1[i]? = H[i]?
theorem frM.refl (H : rm_H) : frM H H := ⟨Nat.le_refl _, fun _ _ => rfl⟩
theorem frM.trans {H H1 H2 : rm_H} (h : frM H H1) (g : frM H1 H2) : frM H H2 := ⟨Nat.le_trans h.1 g.1, fun i hi => (g.2 i hi).trans (h.2 i hi)⟩
theorem frM.of {P : Nat → Prop} {H H1 : rm_H} (g : sB P H H1) (hn : ∀ i, P i → ¬ mP i) : frM H H1 := ⟨Nat.le_of_eq g.1.symm, fun i hi => g.2 i (fun q => hn i q hi)⟩
theorem frM.t {H H1 : rm_H} (g : sB tP H H1) : frM H H1 := .of g (fun i hi => by unfold tP at hi; unfold mP; omega)
theorem frM.i {P : Nat → Prop} {H H1 : rm_H} (g : sB P H H1) (hn : ∀ i, P i → iP 9 i) : frM H H1 := .of g (fun i hi => by have := hn i hi; unfold iP at this; unfold mP; omega)
theorem it01 (p : Prop) {d : Decidable p} : (@ite Int32 p d 1 0) = 0 ∨ (@ite Int32 p d 1 0) = 1 := by
  split
  · exact Or.inr rfl
  · exact Or.inl rfl
section OBA
variable {im : Nat → Prop} {H : rm_H} {w : oV} {k r : Nat}
theorem isO.o (h : isO im H w) : H[0]? = some (cOD (nI (oC w))) := h.2.1
theorem isI.i9 {v : iV} (h : isI im H 9 r v) : H[9]? = some (cIm 9 v.2.2.2.1 v.2.2.2.2) := h.2.1
theorem isI.s18 {v : iV} (h : isI im H 9 r v) : H[18]? = some (cS9 19 20 r (sK v.1) (s9 v.1)) := h.2.2.1.2.1
theorem isI.w19 {v : iV} (h : isI im H 9 r v) : H[19]? = some (cI 8 (sW v.1)) := h.2.2.1.2.2.1
theorem isI.a20 {v : iV} (h : isI im H 9 r v) : H[20]? = some (cI 8 (sA v.1)) := h.2.2.1.2.2.2.1
theorem isI.rr {v : iV} (h : isI im H 9 r v) : isR im H r (sR v.1) := h.2.2.1.2.2.2.2.1
theorem isI.ss {v : iV} (h : isI im H 9 r v) : isS im H 18 19 20 r v.1 := h.2.2.1
theorem isR.c {v : rV} (h : isR im H r v) : H[r]? = some (cRe r (rTo v) (rKe v) (rHa v) (nI (rN v)) (rWk v)) := h.2.1
theorem isR.f {v : rV} (h : isR im H r v) : H[r + 2]? = some (cI 8 (rFr v)) := h.2.2.2.1
theorem isR.l {v : rV} (h : isR im H r v) : H[r + 3]? = some (cI 8 (rLa v)) := h.2.2.2.2.1
theorem isR.n {v : rV} (h : isR im H r v) : rN v ≤ 8 := h.2.2.2.2.2.2.1
/-- a question of the realm -/
abbrev isQn (w : oV) (q : Int32) : Prop := 0 ≤ q ∧ q < nI (rN (sR (oS w)))
theorem isQn.nat {q : Int32} (h : isQn w q) (hN : rN (sR (oS w)) ≤ 8) : ∃ j, j < rN (sR (oS w)) ∧ q = nI j ∧ q.toNatClampNeg = j := by
  obtain ⟨j, h1, h2, -, h3, -⟩ := pk_mu (Int32.not_lt.mpr h.1) (Int32.not_le.mpr h.2) (by omega)
  exact ⟨j, h1, h2, h3⟩
theorem c_within (x lo hi : Int32) : rm_Do mX11_isWithin k [.int x, .int lo, .int hi] H (fun v H1 => H1 = H ∧ v = some (.int (if lo ≤ x ∧ x ≤ hi then 1 else 0))) := by
  refine rm_m (L := [some (.int x), some (.int lo), some (.int hi)]) (c := 0) (s := 0) 5 [] ok_X11_isWithin (by decide) rfl rfl rfl rfl ?_
  by_cases c0 : x < lo
  · simp (disch := first | assumption | decide | omega | (simp only [List.length_set]; omega)) only [w_nil, w_nop, w_iload, w_lload, w_aload, w_istore, w_lstore, w_astore, w_astoreN, w_iinc, w_iadd, w_isub, w_imul, w_iand, w_ior, w_ixor, w_ishl, w_ishr, w_iushr, w_idiv, w_irem, w_ladd, w_lsub, w_lmul, w_land, w_lor, w_ldiv, w_lrem, w_lshl, w_lshr, w_lcmp, w_i2l, w_l2i, w_i2b, w_i2c, w_dupI, w_popI, w_dupR, w_popR, w_dupN, w_popN, w_dup2, w_ifnull, w_ifnullN, w_ifnon, w_ifnonN, w_goto, w_getf, w_putf, w_alen, w_iaload, w_baload, w_laload, w_aaload, w_iastore, w_bastore, w_lastore, w_aastore, w_new, w_newarray, w_anewarray, w_static, w_virtual, w_special, w_obj, w_copyi, w_copyq, w_min, w_max, w_iret, w_lret, w_aret, w_aretN, w_ret, g_fg, g_I, g_J, g_R, g_N, g_1r, pw_0, pw_I, pw_R, pw_N, pw_n, pv_0, pv_1, pv_2, pv_3, pv_4, pv_5, pv_6, pv_7, pv_8, pv_9, pv_10, pv_11, pv_12, pv_13, pv_14, pv_15, pv_16, pv_17, pv_18, pv_19, cd_eq, cd_ne, cd_lt, cd_ge, cd_gt, cd_le, ft_0, ft_1, ft_2, ft_3, ft_3n, fk_0, fk_1, fk_2, fk_3, ps_n, ps_s, rf_s, rf_n, gl_0, gl_1, gl_2, gl_3, gl_4, gl_5, gl_6, gl_7, gl_8, gl_9, gl_10, gl_11, gl_12, gl_13, sl_0, sl_1, sl_2, sl_3, sl_4, sl_5, sl_6, sl_7, sl_8, sl_9, sl_10, sl_11, sl_12, sl_13, List.contains_nil, List.contains_cons, Nat.reduceBEq, Bool.false_or, Bool.or_false, Bool.true_or, Nat.reduceAdd, true_and, and_true, Nat.reduceLT, List.length_cons, List.length_nil, Nat.reduceLeDiff, List.drop_zero, List.take_zero, List.take_succ_cons, List.drop_succ_cons, List.reverse_cons, List.reverse_nil, List.nil_append, List.cons_append, List.append_nil, forall_const, rf_int, rf_bool, sr_sn, sn_0, sn_i, sn_l, sn_r, sn_n, ob_o, ar_o, al_o, aq_o, aln_o, oo_1, ao_1, lo_1, qo_1, lno_1, rv_o, rvv_0, rvv_1, rvv_2, rvv_3, rvv_4, rvv_5, rvv_6, rvv_7, rvv_8, rvv_9, rvv_10, rvv_11, rvv_12, List.length_set, List.set_set, hg_set, hg_ne, lt_00, lt_80, tn_8, lt_40, tn_4, tn_10, lt_100, le_88, Nat.zero_add, or_01, or_11, Nat.reduceMul, not_false_eq_true, Bool.false_eq_true, if_false, if_true, ite_false, ite_true, Bool.or_true, Bool.false_eq_true, if_false, if_true, ite_false, ite_true, Bool.or_true, eq_self, and_self, reduceCtorEq, true_or, or_true, true_imp_iff, not_true_eq_false, false_imp_iff, implies_true, u_zeqT, u_zeqF, u_zneT, u_zneF, u_zltT, u_zltF, u_zgeT, u_zgeF, u_zgtT, u_zgtF, u_zleT, u_zleF, u_ceqT, u_ceqF, u_cneT, u_cneF, u_cltT, u_cltF, u_cgeT, u_cgeF, u_cgtT, u_cgtF, u_cleT, u_cleF, sw_T, sw_F, v_table, v_look, sw_0, Nat.reduceSub, p41X11_isWithin_a0, bX11_isWithin_0, p41X11_isWithin_a14, bX11_isWithin_14, p41X11_isWithin_a15, bX11_isWithin_15, rt_X11_isWithin, mc_X11_isWithin, ms_X11_isWithin]
    rw [if_neg (fun q => absurd c0 (Int32.not_lt.mpr q.1))]
  · by_cases c1 : hi < x
    · simp (disch := first | assumption | decide | omega | (simp only [List.length_set]; omega)) only [w_nil, w_nop, w_iload, w_lload, w_aload, w_istore, w_lstore, w_astore, w_astoreN, w_iinc, w_iadd, w_isub, w_imul, w_iand, w_ior, w_ixor, w_ishl, w_ishr, w_iushr, w_idiv, w_irem, w_ladd, w_lsub, w_lmul, w_land, w_lor, w_ldiv, w_lrem, w_lshl, w_lshr, w_lcmp, w_i2l, w_l2i, w_i2b, w_i2c, w_dupI, w_popI, w_dupR, w_popR, w_dupN, w_popN, w_dup2, w_ifnull, w_ifnullN, w_ifnon, w_ifnonN, w_goto, w_getf, w_putf, w_alen, w_iaload, w_baload, w_laload, w_aaload, w_iastore, w_bastore, w_lastore, w_aastore, w_new, w_newarray, w_anewarray, w_static, w_virtual, w_special, w_obj, w_copyi, w_copyq, w_min, w_max, w_iret, w_lret, w_aret, w_aretN, w_ret, g_fg, g_I, g_J, g_R, g_N, g_1r, pw_0, pw_I, pw_R, pw_N, pw_n, pv_0, pv_1, pv_2, pv_3, pv_4, pv_5, pv_6, pv_7, pv_8, pv_9, pv_10, pv_11, pv_12, pv_13, pv_14, pv_15, pv_16, pv_17, pv_18, pv_19, cd_eq, cd_ne, cd_lt, cd_ge, cd_gt, cd_le, ft_0, ft_1, ft_2, ft_3, ft_3n, fk_0, fk_1, fk_2, fk_3, ps_n, ps_s, rf_s, rf_n, gl_0, gl_1, gl_2, gl_3, gl_4, gl_5, gl_6, gl_7, gl_8, gl_9, gl_10, gl_11, gl_12, gl_13, sl_0, sl_1, sl_2, sl_3, sl_4, sl_5, sl_6, sl_7, sl_8, sl_9, sl_10, sl_11, sl_12, sl_13, List.contains_nil, List.contains_cons, Nat.reduceBEq, Bool.false_or, Bool.or_false, Bool.true_or, Nat.reduceAdd, true_and, and_true, Nat.reduceLT, List.length_cons, List.length_nil, Nat.reduceLeDiff, List.drop_zero, List.take_zero, List.take_succ_cons, List.drop_succ_cons, List.reverse_cons, List.reverse_nil, List.nil_append, List.cons_append, List.append_nil, forall_const, rf_int, rf_bool, sr_sn, sn_0, sn_i, sn_l, sn_r, sn_n, ob_o, ar_o, al_o, aq_o, aln_o, oo_1, ao_1, lo_1, qo_1, lno_1, rv_o, rvv_0, rvv_1, rvv_2, rvv_3, rvv_4, rvv_5, rvv_6, rvv_7, rvv_8, rvv_9, rvv_10, rvv_11, rvv_12, List.length_set, List.set_set, hg_set, hg_ne, lt_00, lt_80, tn_8, lt_40, tn_4, tn_10, lt_100, le_88, Nat.zero_add, or_01, or_11, Nat.reduceMul, not_false_eq_true, Bool.false_eq_true, if_false, if_true, ite_false, ite_true, Bool.or_true, Bool.false_eq_true, if_false, if_true, ite_false, ite_true, Bool.or_true, eq_self, and_self, reduceCtorEq, true_or, or_true, true_imp_iff, not_true_eq_false, false_imp_iff, implies_true, u_zeqT, u_zeqF, u_zneT, u_zneF, u_zltT, u_zltF, u_zgeT, u_zgeF, u_zgtT, u_zgtF, u_zleT, u_zleF, u_ceqT, u_ceqF, u_cneT, u_cneF, u_cltT, u_cltF, u_cgeT, u_cgeF, u_cgtT, u_cgtF, u_cleT, u_cleF, sw_T, sw_F, v_table, v_look, sw_0, Nat.reduceSub, p41X11_isWithin_a0, bX11_isWithin_0, p41X11_isWithin_a14, bX11_isWithin_14, p41X11_isWithin_a15, bX11_isWithin_15, rt_X11_isWithin, mc_X11_isWithin, ms_X11_isWithin]
      rw [if_neg (fun q => absurd c1 (Int32.not_lt.mpr q.2))]
    · simp (disch := first | assumption | decide | omega | (simp only [List.length_set]; omega)) only [w_nil, w_nop, w_iload, w_lload, w_aload, w_istore, w_lstore, w_astore, w_astoreN, w_iinc, w_iadd, w_isub, w_imul, w_iand, w_ior, w_ixor, w_ishl, w_ishr, w_iushr, w_idiv, w_irem, w_ladd, w_lsub, w_lmul, w_land, w_lor, w_ldiv, w_lrem, w_lshl, w_lshr, w_lcmp, w_i2l, w_l2i, w_i2b, w_i2c, w_dupI, w_popI, w_dupR, w_popR, w_dupN, w_popN, w_dup2, w_ifnull, w_ifnullN, w_ifnon, w_ifnonN, w_goto, w_getf, w_putf, w_alen, w_iaload, w_baload, w_laload, w_aaload, w_iastore, w_bastore, w_lastore, w_aastore, w_new, w_newarray, w_anewarray, w_static, w_virtual, w_special, w_obj, w_copyi, w_copyq, w_min, w_max, w_iret, w_lret, w_aret, w_aretN, w_ret, g_fg, g_I, g_J, g_R, g_N, g_1r, pw_0, pw_I, pw_R, pw_N, pw_n, pv_0, pv_1, pv_2, pv_3, pv_4, pv_5, pv_6, pv_7, pv_8, pv_9, pv_10, pv_11, pv_12, pv_13, pv_14, pv_15, pv_16, pv_17, pv_18, pv_19, cd_eq, cd_ne, cd_lt, cd_ge, cd_gt, cd_le, ft_0, ft_1, ft_2, ft_3, ft_3n, fk_0, fk_1, fk_2, fk_3, ps_n, ps_s, rf_s, rf_n, gl_0, gl_1, gl_2, gl_3, gl_4, gl_5, gl_6, gl_7, gl_8, gl_9, gl_10, gl_11, gl_12, gl_13, sl_0, sl_1, sl_2, sl_3, sl_4, sl_5, sl_6, sl_7, sl_8, sl_9, sl_10, sl_11, sl_12, sl_13, List.contains_nil, List.contains_cons, Nat.reduceBEq, Bool.false_or, Bool.or_false, Bool.true_or, Nat.reduceAdd, true_and, and_true, Nat.reduceLT, List.length_cons, List.length_nil, Nat.reduceLeDiff, List.drop_zero, List.take_zero, List.take_succ_cons, List.drop_succ_cons, List.reverse_cons, List.reverse_nil, List.nil_append, List.cons_append, List.append_nil, forall_const, rf_int, rf_bool, sr_sn, sn_0, sn_i, sn_l, sn_r, sn_n, ob_o, ar_o, al_o, aq_o, aln_o, oo_1, ao_1, lo_1, qo_1, lno_1, rv_o, rvv_0, rvv_1, rvv_2, rvv_3, rvv_4, rvv_5, rvv_6, rvv_7, rvv_8, rvv_9, rvv_10, rvv_11, rvv_12, List.length_set, List.set_set, hg_set, hg_ne, lt_00, lt_80, tn_8, lt_40, tn_4, tn_10, lt_100, le_88, Nat.zero_add, or_01, or_11, Nat.reduceMul, not_false_eq_true, Bool.false_eq_true, if_false, if_true, ite_false, ite_true, Bool.or_true, Bool.false_eq_true, if_false, if_true, ite_false, ite_true, Bool.or_true, eq_self, and_self, reduceCtorEq, true_or, or_true, true_imp_iff, not_true_eq_false, false_imp_iff, implies_true, u_zeqT, u_zeqF, u_zneT, u_zneF, u_zltT, u_zltF, u_zgeT, u_zgeF, u_zgtT, u_zgtF, u_zleT, u_zleF, u_ceqT, u_ceqF, u_cneT, u_cneF, u_cltT, u_cltF, u_cgeT, u_cgeF, u_cgtT, u_cgtF, u_cleT, u_cleF, sw_T, sw_F, v_table, v_look, sw_0, Nat.reduceSub, p41X11_isWithin_a0, bX11_isWithin_0, p41X11_isWithin_a14, bX11_isWithin_14, p41X11_isWithin_a15, bX11_isWithin_15, rt_X11_isWithin, mc_X11_isWithin, ms_X11_isWithin]
      rw [if_pos ⟨Int32.not_lt.mp c0, Int32.not_lt.mp c1⟩]
theorem c_isTold (h : isO im H w) : rm_Do mX11_isTold k [.ref 0] H (fun v H1 => H1 = H ∧ v = some (.int (rTo (sR (oS w))))) := by
  obtain ⟨r, hi⟩ := h.2.2.2.2.2.1
  refine rm_m (L := [some (.ref 0)]) (c := 0) (s := 0) 5 [] ok_X11_isTold (by decide) rfl rfl rfl rfl ?_
  simp (disch := first | assumption | decide | omega | (simp only [List.length_set]; omega)) only [w_nil, w_nop, w_iload, w_lload, w_aload, w_istore, w_lstore, w_astore, w_astoreN, w_iinc, w_iadd, w_isub, w_imul, w_iand, w_ior, w_ixor, w_ishl, w_ishr, w_iushr, w_idiv, w_irem, w_ladd, w_lsub, w_lmul, w_land, w_lor, w_ldiv, w_lrem, w_lshl, w_lshr, w_lcmp, w_i2l, w_l2i, w_i2b, w_i2c, w_dupI, w_popI, w_dupR, w_popR, w_dupN, w_popN, w_dup2, w_ifnull, w_ifnullN, w_ifnon, w_ifnonN, w_goto, w_getf, w_putf, w_alen, w_iaload, w_baload, w_laload, w_aaload, w_iastore, w_bastore, w_lastore, w_aastore, w_new, w_newarray, w_anewarray, w_static, w_virtual, w_special, w_obj, w_copyi, w_copyq, w_min, w_max, w_iret, w_lret, w_aret, w_aretN, w_ret, g_fg, g_I, g_J, g_R, g_N, g_1r, pw_0, pw_I, pw_R, pw_N, pw_n, pv_0, pv_1, pv_2, pv_3, pv_4, pv_5, pv_6, pv_7, pv_8, pv_9, pv_10, pv_11, pv_12, pv_13, pv_14, pv_15, pv_16, pv_17, pv_18, pv_19, cd_eq, cd_ne, cd_lt, cd_ge, cd_gt, cd_le, ft_0, ft_1, ft_2, ft_3, ft_3n, fk_0, fk_1, fk_2, fk_3, ps_n, ps_s, rf_s, rf_n, gl_0, gl_1, gl_2, gl_3, gl_4, gl_5, gl_6, gl_7, gl_8, gl_9, gl_10, gl_11, gl_12, gl_13, sl_0, sl_1, sl_2, sl_3, sl_4, sl_5, sl_6, sl_7, sl_8, sl_9, sl_10, sl_11, sl_12, sl_13, List.contains_nil, List.contains_cons, Nat.reduceBEq, Bool.false_or, Bool.or_false, Bool.true_or, Nat.reduceAdd, true_and, and_true, Nat.reduceLT, List.length_cons, List.length_nil, Nat.reduceLeDiff, List.drop_zero, List.take_zero, List.take_succ_cons, List.drop_succ_cons, List.reverse_cons, List.reverse_nil, List.nil_append, List.cons_append, List.append_nil, forall_const, rf_int, rf_bool, sr_sn, sn_0, sn_i, sn_l, sn_r, sn_n, ob_o, ar_o, al_o, aq_o, aln_o, oo_1, ao_1, lo_1, qo_1, lno_1, rv_o, rvv_0, rvv_1, rvv_2, rvv_3, rvv_4, rvv_5, rvv_6, rvv_7, rvv_8, rvv_9, rvv_10, rvv_11, rvv_12, List.length_set, List.set_set, hg_set, hg_ne, lt_00, lt_80, tn_8, lt_40, tn_4, tn_10, lt_100, le_88, Nat.zero_add, or_01, or_11, Nat.reduceMul, not_false_eq_true, Bool.false_eq_true, if_false, if_true, ite_false, ite_true, Bool.or_true, Bool.false_eq_true, if_false, if_true, ite_false, ite_true, Bool.or_true, eq_self, and_self, reduceCtorEq, true_or, or_true, true_imp_iff, not_true_eq_false, false_imp_iff, implies_true, u_zeqT, u_zeqF, u_zneT, u_zneF, u_zltT, u_zltF, u_zgeT, u_zgeF, u_zgtT, u_zgtF, u_zleT, u_zleF, u_ceqT, u_ceqF, u_cneT, u_cneF, u_cltT, u_cltF, u_cgeT, u_cgeF, u_cgtT, u_cgtF, u_cleT, u_cleF, sw_T, sw_F, v_table, v_look, sw_0, Nat.reduceSub, p41X11_isTold_a0, bX11_isTold_0, rt_X11_isTold, mc_X11_isTold, ms_X11_isTold, h.o, hi.i9, hi.s18, hi.rr.c]
  exact h.2.2.2.2.2.2.2.2.1
theorem c_isQ (hk : 1 ≤ k) (q : Int32) (h : isO im H w) : rm_Do mX11_isQuestion k [.ref 0, .int q] H (fun v H1 => H1 = H ∧ v = some (.int (if isQn w q then 1 else 0))) := by
  obtain ⟨j, rfl⟩ : ∃ j, k = j + 1 := ⟨k - 1, by omega⟩
  obtain ⟨r, hi⟩ := h.2.2.2.2.2.1
  refine rm_m (L := [some (.ref 0), some (.int q)]) (c := 0) (s := 0) 5 [] ok_X11_isQuestion (by decide) rfl rfl rfl rfl ?_
  simp (disch := first | assumption | decide | omega | (simp only [List.length_set]; omega)) only [w_nil, w_nop, w_iload, w_lload, w_aload, w_istore, w_lstore, w_astore, w_astoreN, w_iinc, w_iadd, w_isub, w_imul, w_iand, w_ior, w_ixor, w_ishl, w_ishr, w_iushr, w_idiv, w_irem, w_ladd, w_lsub, w_lmul, w_land, w_lor, w_ldiv, w_lrem, w_lshl, w_lshr, w_lcmp, w_i2l, w_l2i, w_i2b, w_i2c, w_dupI, w_popI, w_dupR, w_popR, w_dupN, w_popN, w_dup2, w_ifnull, w_ifnullN, w_ifnon, w_ifnonN, w_goto, w_getf, w_putf, w_alen, w_iaload, w_baload, w_laload, w_aaload, w_iastore, w_bastore, w_lastore, w_aastore, w_new, w_newarray, w_anewarray, w_static, w_virtual, w_special, w_obj, w_copyi, w_copyq, w_min, w_max, w_iret, w_lret, w_aret, w_aretN, w_ret, g_fg, g_I, g_J, g_R, g_N, g_1r, pw_0, pw_I, pw_R, pw_N, pw_n, pv_0, pv_1, pv_2, pv_3, pv_4, pv_5, pv_6, pv_7, pv_8, pv_9, pv_10, pv_11, pv_12, pv_13, pv_14, pv_15, pv_16, pv_17, pv_18, pv_19, cd_eq, cd_ne, cd_lt, cd_ge, cd_gt, cd_le, ft_0, ft_1, ft_2, ft_3, ft_3n, fk_0, fk_1, fk_2, fk_3, ps_n, ps_s, rf_s, rf_n, gl_0, gl_1, gl_2, gl_3, gl_4, gl_5, gl_6, gl_7, gl_8, gl_9, gl_10, gl_11, gl_12, gl_13, sl_0, sl_1, sl_2, sl_3, sl_4, sl_5, sl_6, sl_7, sl_8, sl_9, sl_10, sl_11, sl_12, sl_13, List.contains_nil, List.contains_cons, Nat.reduceBEq, Bool.false_or, Bool.or_false, Bool.true_or, Nat.reduceAdd, true_and, and_true, Nat.reduceLT, List.length_cons, List.length_nil, Nat.reduceLeDiff, List.drop_zero, List.take_zero, List.take_succ_cons, List.drop_succ_cons, List.reverse_cons, List.reverse_nil, List.nil_append, List.cons_append, List.append_nil, forall_const, rf_int, rf_bool, sr_sn, sn_0, sn_i, sn_l, sn_r, sn_n, ob_o, ar_o, al_o, aq_o, aln_o, oo_1, ao_1, lo_1, qo_1, lno_1, rv_o, rvv_0, rvv_1, rvv_2, rvv_3, rvv_4, rvv_5, rvv_6, rvv_7, rvv_8, rvv_9, rvv_10, rvv_11, rvv_12, List.length_set, List.set_set, hg_set, hg_ne, lt_00, lt_80, tn_8, lt_40, tn_4, tn_10, lt_100, le_88, Nat.zero_add, or_01, or_11, Nat.reduceMul, not_false_eq_true, Bool.false_eq_true, if_false, if_true, ite_false, ite_true, Bool.or_true, Bool.false_eq_true, if_false, if_true, ite_false, ite_true, Bool.or_true, eq_self, and_self, reduceCtorEq, true_or, or_true, true_imp_iff, not_true_eq_false, false_imp_iff, implies_true, u_zeqT, u_zeqF, u_zneT, u_zneF, u_zltT, u_zltF, u_zgeT, u_zgeF, u_zgtT, u_zgtF, u_zleT, u_zleF, u_ceqT, u_ceqF, u_cneT, u_cneF, u_cltT, u_cltF, u_cgeT, u_cgeF, u_cgtT, u_cgtF, u_cleT, u_cleF, sw_T, sw_F, v_table, v_look, sw_0, Nat.reduceSub, p41X11_isQuestion_a0, bX11_isQuestion_0, rt_X11_isQuestion, mc_X11_isQuestion, ms_X11_isQuestion, mc_X3_has, ms_X3_has, ci_X3_has, al_X3_has, h.o, hi.i9, hi.s18, hi.rr.c]
  refine (c_has q hi.rr.c).same (fun _ => ?_)
  simp (disch := first | assumption | decide | omega | (simp only [List.length_set]; omega)) only [w_nil, w_nop, w_iload, w_lload, w_aload, w_istore, w_lstore, w_astore, w_astoreN, w_iinc, w_iadd, w_isub, w_imul, w_iand, w_ior, w_ixor, w_ishl, w_ishr, w_iushr, w_idiv, w_irem, w_ladd, w_lsub, w_lmul, w_land, w_lor, w_ldiv, w_lrem, w_lshl, w_lshr, w_lcmp, w_i2l, w_l2i, w_i2b, w_i2c, w_dupI, w_popI, w_dupR, w_popR, w_dupN, w_popN, w_dup2, w_ifnull, w_ifnullN, w_ifnon, w_ifnonN, w_goto, w_getf, w_putf, w_alen, w_iaload, w_baload, w_laload, w_aaload, w_iastore, w_bastore, w_lastore, w_aastore, w_new, w_newarray, w_anewarray, w_static, w_virtual, w_special, w_obj, w_copyi, w_copyq, w_min, w_max, w_iret, w_lret, w_aret, w_aretN, w_ret, g_fg, g_I, g_J, g_R, g_N, g_1r, pw_0, pw_I, pw_R, pw_N, pw_n, pv_0, pv_1, pv_2, pv_3, pv_4, pv_5, pv_6, pv_7, pv_8, pv_9, pv_10, pv_11, pv_12, pv_13, pv_14, pv_15, pv_16, pv_17, pv_18, pv_19, cd_eq, cd_ne, cd_lt, cd_ge, cd_gt, cd_le, ft_0, ft_1, ft_2, ft_3, ft_3n, fk_0, fk_1, fk_2, fk_3, ps_n, ps_s, rf_s, rf_n, gl_0, gl_1, gl_2, gl_3, gl_4, gl_5, gl_6, gl_7, gl_8, gl_9, gl_10, gl_11, gl_12, gl_13, sl_0, sl_1, sl_2, sl_3, sl_4, sl_5, sl_6, sl_7, sl_8, sl_9, sl_10, sl_11, sl_12, sl_13, List.contains_nil, List.contains_cons, Nat.reduceBEq, Bool.false_or, Bool.or_false, Bool.true_or, Nat.reduceAdd, true_and, and_true, Nat.reduceLT, List.length_cons, List.length_nil, Nat.reduceLeDiff, List.drop_zero, List.take_zero, List.take_succ_cons, List.drop_succ_cons, List.reverse_cons, List.reverse_nil, List.nil_append, List.cons_append, List.append_nil, forall_const, rf_int, rf_bool, sr_sn, sn_0, sn_i, sn_l, sn_r, sn_n, ob_o, ar_o, al_o, aq_o, aln_o, oo_1, ao_1, lo_1, qo_1, lno_1, rv_o, rvv_0, rvv_1, rvv_2, rvv_3, rvv_4, rvv_5, rvv_6, rvv_7, rvv_8, rvv_9, rvv_10, rvv_11, rvv_12, List.length_set, List.set_set, hg_set, hg_ne, lt_00, lt_80, tn_8, lt_40, tn_4, tn_10, lt_100, le_88, Nat.zero_add, or_01, or_11, Nat.reduceMul, not_false_eq_true, Bool.false_eq_true, if_false, if_true, ite_false, ite_true, Bool.or_true, Bool.false_eq_true, if_false, if_true, ite_false, ite_true, Bool.or_true, eq_self, and_self, reduceCtorEq, true_or, or_true, true_imp_iff, not_true_eq_false, false_imp_iff, implies_true, u_zeqT, u_zeqF, u_zneT, u_zneF, u_zltT, u_zltF, u_zgeT, u_zgeF, u_zgtT, u_zgtF, u_zleT, u_zleF, u_ceqT, u_ceqF, u_cneT, u_cneF, u_cltT, u_cltF, u_cgeT, u_cgeF, u_cgtT, u_cgtF, u_cleT, u_cleF, sw_T, sw_F, v_table, v_look, sw_0, Nat.reduceSub, p41X11_isQuestion_a0, bX11_isQuestion_0, rt_X11_isQuestion, mc_X11_isQuestion, ms_X11_isQuestion, mc_X3_has, ms_X3_has, ci_X3_has, al_X3_has]
  exact it01 _
end OBA
