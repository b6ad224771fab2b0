theorem pb7X12_rule_c27_a0 {k : Nat} {Q : Option Value → rm_H → Prop} {n0 n : Nat} {L : rm_L} {st : List Value} {H : rm_H} {c s : Nat} : rm_p mX12_rule tX12_rule [27] k Q n0 (n + 1) 0 L st H c s = rm_w mX12_rule k Q n0 (rm_p mX12_rule tX12_rule [27] k Q n0 n) bX12_rule_0 0 L st H c s := propext Iff.rfl
theorem pb7X12_rule_c27_a11 {k : Nat} {Q : Option Value → rm_H → Prop} {n0 n : Nat} {L : rm_L} {st : List Value} {H : rm_H} {c s : Nat} : rm_p mX12_rule tX12_rule [27] k Q n0 (n + 1) 11 L st H c s = rm_w mX12_rule k Q n0 (rm_p mX12_rule tX12_rule [27] k Q n0 n) bX12_rule_11 11 L st H c s := propext Iff.rfl
theorem pb7X12_rule_c27_a27 {k : Nat} {Q : Option Value → rm_H → Prop} {n0 n : Nat} {L : rm_L} {st : List Value} {H : rm_H} {c s : Nat} : rm_p mX12_rule tX12_rule [27] k Q n0 (n + 1) 27 L st H c s = rm_S mX12_rule k Q n0 27 L st H c s := propext Iff.rfl
theorem pb7X12_rule_c27_a47 {k : Nat} {Q : Option Value → rm_H → Prop} {n0 n : Nat} {L : rm_L} {st : List Value} {H : rm_H} {c s : Nat} : rm_p mX12_rule tX12_rule [27] k Q n0 (n + 1) 47 L st H c s = rm_w mX12_rule k Q n0 (rm_p mX12_rule tX12_rule [27] k Q n0 n) bX12_rule_47 47 L st H c s := propext Iff.rfl
theorem pb7X12_rule_c27_a78 {k : Nat} {Q : Option Value → rm_H → Prop} {n0 n : Nat} {L : rm_L} {st : List Value} {H : rm_H} {c s : Nat} : rm_p mX12_rule tX12_rule [27] k Q n0 (n + 1) 78 L st H c s = rm_w mX12_rule k Q n0 (rm_p mX12_rule tX12_rule [27] k Q n0 n) bX12_rule_78 78 L st H c s := propext Iff.rfl
theorem pb7X12_rule_c27_a79 {k : Nat} {Q : Option Value → rm_H → Prop} {n0 n : Nat} {L : rm_L} {st : List Value} {H : rm_H} {c s : Nat} : rm_p mX12_rule tX12_rule [27] k Q n0 (n + 1) 79 L st H c s = rm_w mX12_rule k Q n0 (rm_p mX12_rule tX12_rule [27] k Q n0 n) bX12_rule_79 79 L st H c s := propext Iff.rfl
theorem pb7X12_rule_c27_a100 {k : Nat} {Q : Option Value → rm_H → Prop} {n0 n : Nat} {L : rm_L} {st : List Value} {H : rm_H} {c s : Nat} : rm_p mX12_rule tX12_rule [27] k Q n0 (n + 1) 100 L st H c s = rm_w mX12_rule k Q n0 (rm_p mX12_rule tX12_rule [27] k Q n0 n) bX12_rule_100 100 L st H c s := propext Iff.rfl
theorem pb7X12_rule_c27_a106 {k : Nat} {Q : Option Value → rm_H → Prop} {n0 n : Nat} {L : rm_L} {st : List Value} {H : rm_H} {c s : Nat} : rm_p mX12_rule tX12_rule [27] k Q n0 (n + 1) 106 L st H c s = rm_w mX12_rule k Q n0 (rm_p mX12_rule tX12_rule [27] k Q n0 n) bX12_rule_106 106 L st H c s := propext Iff.rfl
theorem pb7X12_rule_a0 {k : Nat} {Q : Option Value → rm_H → Prop} {n0 n : Nat} {L : rm_L} {st : List Value} {H : rm_H} {c s : Nat} : rm_p mX12_rule tX12_rule [] k Q n0 (n + 1) 0 L st H c s = rm_w mX12_rule k Q n0 (rm_p mX12_rule tX12_rule [] k Q n0 n) bX12_rule_0 0 L st H c s := propext Iff.rfl
theorem pb7X12_rule_a11 {k : Nat} {Q : Option Value → rm_H → Prop} {n0 n : Nat} {L : rm_L} {st : List Value} {H : rm_H} {c s : Nat} : rm_p mX12_rule tX12_rule [] k Q n0 (n + 1) 11 L st H c s = rm_w mX12_rule k Q n0 (rm_p mX12_rule tX12_rule [] k Q n0 n) bX12_rule_11 11 L st H c s := propext Iff.rfl
theorem pb7X12_rule_a27 {k : Nat} {Q : Option Value → rm_H → Prop} {n0 n : Nat} {L : rm_L} {st : List Value} {H : rm_H} {c s : Nat} : rm_p mX12_rule tX12_rule [] k Q n0 (n + 1) 27 L st H c s = rm_w mX12_rule k Q n0 (rm_p mX12_rule tX12_rule [] k Q n0 n) bX12_rule_27 27 L st H c s := propext Iff.rfl
theorem pb7X12_rule_a47 {k : Nat} {Q : Option Value → rm_H → Prop} {n0 n : Nat} {L : rm_L} {st : List Value} {H : rm_H} {c s : Nat} : rm_p mX12_rule tX12_rule [] k Q n0 (n + 1) 47 L st H c s = rm_w mX12_rule k Q n0 (rm_p mX12_rule tX12_rule [] k Q n0 n) bX12_rule_47 47 L st H c s := propext Iff.rfl
theorem pb7X12_rule_a78 {k : Nat} {Q : Option Value → rm_H → Prop} {n0 n : Nat} {L : rm_L} {st : List Value} {H : rm_H} {c s : Nat} : rm_p mX12_rule tX12_rule [] k Q n0 (n + 1) 78 L st H c s = rm_w mX12_rule k Q n0 (rm_p mX12_rule tX12_rule [] k Q n0 n) bX12_rule_78 78 L st H c s := propext Iff.rfl
theorem pb7X12_rule_a79 {k : Nat} {Q : Option Value → rm_H → Prop} {n0 n : Nat} {L : rm_L} {st : List Value} {H : rm_H} {c s : Nat} : rm_p mX12_rule tX12_rule [] k Q n0 (n + 1) 79 L st H c s = rm_w mX12_rule k Q n0 (rm_p mX12_rule tX12_rule [] k Q n0 n) bX12_rule_79 79 L st H c s := propext Iff.rfl
theorem pb7X12_rule_a100 {k : Nat} {Q : Option Value → rm_H → Prop} {n0 n : Nat} {L : rm_L} {st : List Value} {H : rm_H} {c s : Nat} : rm_p mX12_rule tX12_rule [] k Q n0 (n + 1) 100 L st H c s = rm_w mX12_rule k Q n0 (rm_p mX12_rule tX12_rule [] k Q n0 n) bX12_rule_100 100 L st H c s := propext Iff.rfl
theorem pb7X12_rule_a106 {k : Nat} {Q : Option Value → rm_H → Prop} {n0 n : Nat} {L : rm_L} {st : List Value} {H : rm_H} {c s : Nat} : rm_p mX12_rule tX12_rule [] k Q n0 (n + 1) 106 L st H c s = rm_w mX12_rule k Q n0 (rm_p mX12_rule tX12_rule [] k Q n0 n) bX12_rule_106 106 L st H c s := propext Iff.rfl
/-! The reference's rules: a rule -/
theorem evE_cg {So Nu So1 Nu1 : Nat → Int32} {as : Nat → Int64} : ∀ (d b : Nat) (st : List Int64), (∀ x, b ≤ x → x < b + d → So1 x = So x ∧ Nu1 x = Nu x) → evE So1 Nu1 as d b st = evE So Nu as d b st
  | 0, b, st, _ => rfl
  | d + 1, b, st, h => by
    have h0 := h b (Nat.le_refl _) (by omega)
    have ih := fun st => evE_cg (as := as) d (b + 1) st (fun x h1 h2 => h x (by omega) (by omega))
    show (match stE as (So1 b) (Nu1 b) st with
      | some st1 => evE So1 Nu1 as d (b + 1) st1
      | none => none) = (match stE as (So b) (Nu b) st with
      | some st1 => evE So Nu as d (b + 1) st1
      | none => none)
    rw [h0.1, h0.2]
    cases stE as (So b) (Nu b) st with
    | none => rfl
    | some st1 => exact ih st1
theorem ruM_cg {So Nu So1 Nu1 : Nat → Int32} {slot C n : Nat} {u t e : Nat → Nat} {S : Nat → Int32} (hle : ∀ c, c < C → u c ≤ t c ∧ t c ≤ e c ∧ e c ≤ 300) (he : ∀ x, x < 300 * (slot + 1) → So1 x = So x ∧ Nu1 x = Nu x) (h : ruM So Nu slot C u t e n S) : ruM So1 Nu1 slot C u t e n S := by
  intro vl
  obtain ⟨vs, ts, h1, h2, h3⟩ := h vl
  refine ⟨vs, ts, fun c hc => ?_, fun c hc hn => ?_, h3⟩
  · rw [evE_cg (So := So) (Nu := Nu) _ _ _ (fun x x1 x2 => he x (by have := hle c hc; omega))]
    exact h1 c hc
  · rw [evE_cg (So := So) (Nu := Nu) _ _ _ (fun x x1 x2 => he x (by have := hle c hc; omega))]
    exact h2 c hc hn
theorem cI_inj {n : Nat} {f g : Nat → Int32} (h : some (cI n f) = some (cI n g)) : f = g := Sum.inl.inj (Prod.mk.inj (Prod.mk.inj (Sum.inl.inj (Option.some.inj h))).2).2
/-- the rows of the rules, seen as rows -/
def rrM (H : rm_H) (So Nu Cl Su Te En : Nat → Int32) : Prop := H[172]? = some (cI 1800 So) ∧ H[173]? = some (cI 1800 Nu) ∧ H[174]? = some (cI 6 Cl) ∧ H[175]? = some (cI 72 Su) ∧ H[176]? = some (cI 72 Te) ∧ H[177]? = some (cI 72 En)
/-- an earlier rule stays -/
theorem rn_old {H H1 : rm_H} {So Nu Cl Su Te En So1 Nu1 Cl1 Su1 Te1 En1 : Nat → Int32} {slot s n : Nat} {S : Nat → Int32} (r : rrM H So Nu Cl Su Te En) (r1 : rrM H1 So1 Nu1 Cl1 Su1 Te1 En1) (hs : s < slot) (h1 : ∀ x, x < 300 * slot → So1 x = So x ∧ Nu1 x = Nu x) (h2 : ∀ x, x < slot → Cl1 x = Cl x) (h3 : ∀ x, x < 12 * slot → Su1 x = Su x) (h4 : ∀ x, x < 12 * slot → Te1 x = Te x) (h5 : ∀ x, x < 12 * slot → En1 x = En x) (h : ∃ So Nu K u t e, rnH H So Nu s K u t e ∧ ruM So Nu s K u t e n S) : ∃ So Nu K u t e, rnH H1 So Nu s K u t e ∧ ruM So Nu s K u t e n S := by
  obtain ⟨So', Nu', K, u, t, e, ⟨a1, a2, a3, a4, ⟨Cl', a5, a5'⟩, ⟨Su', a6, a6'⟩, ⟨Te', a7, a7'⟩, ⟨En', a8, a8'⟩, a9⟩, a10⟩ := h
  obtain ⟨b1, b2, b3, b4, b5, b6⟩ := r
  obtain ⟨c1, c2, c3, c4, c5, c6⟩ := r1
  have e1 := cI_inj (a3.symm.trans b1)
  have e2 := cI_inj (a4.symm.trans b2)
  have e3 := cI_inj (a5.symm.trans b3)
  have e4 := cI_inj (a6.symm.trans b4)
  have e5 := cI_inj (a7.symm.trans b5)
  have e6 := cI_inj (a8.symm.trans b6)
  subst e1 e2 e3 e4 e5 e6
  exact ⟨So1, Nu1, K, u, t, e, ⟨a1, a2, c1, c2, ⟨Cl1, c3, (h2 s hs).trans a5'⟩, ⟨Su1, c4, fun c hc => (h3 _ (by omega)).trans (a6' c hc)⟩, ⟨Te1, c5, fun c hc => (h4 _ (by omega)).trans (a7' c hc)⟩, ⟨En1, c6, fun c hc => (h5 _ (by omega)).trans (a8' c hc)⟩, a9⟩, ruM_cg a9 (fun x hx => h1 x (by omega)) a10⟩
/-- how the text lies at its start -/
theorem tx_0 {H : rm_H} {f : Nat → Int32} {w : oV} (hm : H[153]? = some (cM f)) (h18 : f 18 = nI (oL w)) (ht : mTp H (oB w) (oL w)) (hB : bOK (oB w)) : txM H f (yF (oB w) (oL w)) (oL w) := by
  obtain ⟨b, h1, h2, h3⟩ := ht
  refine ⟨hm, h18, h2, b, h1, fun i hi => ?_, fun i hi => by rw [h3 i hi]; exact hB i⟩
  unfold yF
  rw [if_pos hi, h3 i hi]
def q_rlP (i : Nat) : Prop := i = 153 ∨ (172 ≤ i ∧ i ≤ 178)
theorem q_rlP_c {i : Nat} (h : q_rlP i) : i = 153 ∨ (172 ≤ i ∧ i ≤ 178) := h
theorem q_rlP_i {i : Nat} (h : i = 153 ∨ (172 ≤ i ∧ i ≤ 178)) : q_rlP i := h
/-- the reference behind a rule's text -/
theorem rl_M {H H2 : rm_H} {w : oV} {C1 : Nat} {R1 : Nat → Nat × (Nat → Int32)} (h : isM H w) (b : sB q_rlP H H2) (hf : ∃ f2, H2[153]? = some (cM f2) ∧ f2 18 = 0 ∧ f2 22 = nI C1 ∧ f2 27 = 13 ∧ f2 40 = nI (iPn (oI w))) (hR : mRu H2 C1 R1) (hop : ∃ op, H2[178]? = some (cI 402 op)) : isM H2 ((oB w, 0), (C1, R1), w.2.2) ∧ sB mP H H2 := by
  obtain ⟨⟨-, g2, g3, ⟨tb, t1, t2, t3⟩, g5, ⟨⟨x1, h1⟩, ⟨x2, h2⟩, ⟨x3, h3⟩, ⟨x4, h4⟩, ⟨x5, h5⟩, ⟨x6, h6⟩, -, ⟨x8, h8⟩⟩, g7, g8, g9, g10⟩, hS⟩ := h
  obtain ⟨f2, a1, a2, a3, a4, a5⟩ := hf
  have hn : ∀ i, q_rlP i → i = 153 ∨ (172 ≤ i ∧ i ≤ 178) := fun i g => g
  refine ⟨⟨⟨⟨f2, a1, a2, a3, a4, a5⟩, mNo_b b (fun i q => by have := hn i q; omega) g2, mTo_b b (fun i q => by have := hn i q; omega) g3, ⟨tb, b.get (fun q => by have := hn _ q; omega) t1, Nat.zero_le _, fun i hi => absurd hi (Nat.not_lt_zero _)⟩, hR, ⟨⟨x1, b.get (fun q => by have := hn _ q; omega) h1⟩, ⟨x2, b.get (fun q => by have := hn _ q; omega) h2⟩, ⟨x3, b.get (fun q => by have := hn _ q; omega) h3⟩, ⟨x4, b.get (fun q => by have := hn _ q; omega) h4⟩, ⟨x5, b.get (fun q => by have := hn _ q; omega) h5⟩, ⟨x6, b.get (fun q => by have := hn _ q; omega) h6⟩, hop, ⟨x8, b.get (fun q => by have := hn _ q; omega) h8⟩⟩, mXs_b b (fun i q => by have := hn i q; omega) g7, mXr_b b (fun i q => by have := hn i q; omega) g8, mPa_b b (fun i q => by have := hn i q; omega) g9, mIm_b b (fun i q => by have := hn i q; omega) g10⟩, hS.sB b (fun i q => by have := hn i q; omega)⟩, b.mono (fun i q => by have := hn i q; unfold mP; omega)⟩
/-- the rows behind a rule's text -/
theorem rs_rr {H0 H1 : rm_H} {f0 f1 So Nu Su Te En Cl y : Nat → Int32} {ln slot m : Nat} {s1 : psT} {a b d : crT} {f2 f3 : Nat → Int32} (h : rsM H0 f0 So Nu Su Te En y ln slot H1 f1 s1 a b d) (hCl : H0[174]? = some (cI 6 Cl)) : H1[174]? = some (cI 6 Cl) ∧ sB q_rlP H0 (((H1.set 153 (cM f2)).set 174 (cI 6 (upd Cl slot (nI m)))).set 153 (cM f3)) ∧ (((H1.set 153 (cM f2)).set 174 (cI 6 (upd Cl slot (nI m)))).set 153 (cM f3))[153]? = some (cM f3) ∧ (∃ op, (((H1.set 153 (cM f2)).set 174 (cI 6 (upd Cl slot (nI m)))).set 153 (cM f3))[178]? = some (cI 402 op)) ∧ ∃ So1 Nu1 Su1 Te1 En1, rrM (((H1.set 153 (cM f2)).set 174 (cI 6 (upd Cl slot (nI m)))).set 153 (cM f3)) So1 Nu1 (upd Cl slot (nI m)) Su1 Te1 En1 ∧ enM So1 Nu1 So Nu slot s1.2.2.1 ∧ ((∀ x, x < 12 * slot → Su1 x = Su x) ∧ ∀ i, i < a.1 → Su1 (12 * slot + i) = nI (a.2 i)) ∧ ((∀ x, x < 12 * slot → Te1 x = Te x) ∧ ∀ i, i < b.1 → Te1 (12 * slot + i) = nI (b.2 i)) ∧ ((∀ x, x < 12 * slot → En1 x = En x) ∧ ∀ i, i < d.1 → En1 (12 * slot + i) = nI (d.2 i)) := by
  obtain ⟨⟨ht, -, -, -, -, -, -, -, ⟨So1, Nu1, q1, q2, q3⟩, ⟨op, q4⟩, -⟩, -, bb, ⟨Su1, x1, x2⟩, ⟨Te1, y1, y2⟩, ⟨En1, w1, w2⟩⟩ := h
  have hm := ht.1
  have l1 := hlt hm
  have hc1 := bb.get (fun g => by have := rpP_c g; omega) hCl
  have l2 := hlt hc1
  refine ⟨hc1, (bb.mono (fun i hi => q_rlP_i (by have := rpP_c hi; omega))).trans ((sB.set _ (q_rlP_i (by omega))).trans ((sB.set _ (q_rlP_i (by omega))).trans (sB.set _ (q_rlP_i (by omega))))), hg_set (by rw [List.length_set, List.length_set]; exact l1), ⟨op, by rw [hg_ne (by omega), hg_ne (by omega), hg_ne (by omega)]; exact q4⟩, So1, Nu1, Su1, Te1, En1, ⟨by rw [hg_ne (by omega), hg_ne (by omega), hg_ne (by omega)]; exact q1, by rw [hg_ne (by omega), hg_ne (by omega), hg_ne (by omega)]; exact q2, by rw [hg_ne (by omega)]; exact hg_set (by rw [List.length_set]; exact l2), by rw [hg_ne (by omega), hg_ne (by omega), hg_ne (by omega)]; exact x1, by rw [hg_ne (by omega), hg_ne (by omega), hg_ne (by omega)]; exact y1, by rw [hg_ne (by omega), hg_ne (by omega), hg_ne (by omega)]; exact w1⟩, q3, x2, y2, w2⟩
theorem rr_x {H : rm_H} {So Nu Cl Su Te En : Nat → Int32} (r : rrM H So Nu Cl Su Te En) : (∃ x, H[172]? = some (cI 1800 x)) ∧ (∃ x, H[173]? = some (cI 1800 x)) ∧ (∃ x, H[174]? = some (cI 6 x)) ∧ (∃ x, H[175]? = some (cI 72 x)) ∧ (∃ x, H[176]? = some (cI 72 x)) ∧ (∃ x, H[177]? = some (cI 72 x)) := ⟨⟨_, r.1⟩, ⟨_, r.2.1⟩, ⟨_, r.2.2.1⟩, ⟨_, r.2.2.2.1⟩, ⟨_, r.2.2.2.2.1⟩, ⟨_, r.2.2.2.2.2⟩⟩
set_option maxHeartbeats 4000000 in
theorem q_rule (H : rm_H) (w : oV) (k : Nat) (hk : 30 ≤ k) (ho : okW w) (hB : bOK (oB w)) (h : isM H w) : rm_Do mX12_rule k [.ref 153] H (fun v H1 => v = some (.int (aRule w).1) ∧ isM H1 (aRule w).2 ∧ sB mP H H1) := by
  obtain ⟨j, rfl⟩ : ∃ j, k = j + 1 := ⟨k - 1, by omega⟩
  obtain ⟨⟨⟨f, hm, hf⟩, g2, g3, g4, g5, g6, g7, g8, g9, g10⟩, hS⟩ := id h
  have h22 := hf.2.1
  have hC : oC w ≤ 6 := ho.2.1
  obtain ⟨-, ⟨So, r1⟩, ⟨Nu, r2⟩, ⟨Cl, r3⟩, ⟨Su, r4⟩, ⟨Te, r5⟩, ⟨En, r6⟩, r7⟩ := id g5
  have hln : oL w ≤ 400 := g4.choose_spec.2.1
  refine rm_m (L := [some (.ref 153), none, none]) (c := 0) (s := 0) 6 [27] ok_X12_rule (by decide) rfl rfl rfl rfl ?_
  unfold aRule
  by_cases c6 : oC w < 6
  · have c6' : ¬ nI (oC w) = 6 := fun g => by
      have := (nI_eqI (b := 6) (by omega) (by omega)).mp g
      omega
    rw [if_pos c6]
    obtain ⟨tok1, tok2, tok3⟩ := toks_ok (B := oB w) hln
    have l1 := hlt hm
    have hm1 : (H.set 153 (cM (upd f 21 (nI (oC w)))))[153]? = some (cM (upd f 21 (nI (oC w)))) := hg_set l1
    simp (disch := first | assumption | decide | omega | (simp only [List.length_set]; omega)) only [w_nil, w_nop, w_iload, w_lload, w_aload, w_istore, w_lstore, w_astore, w_astoreN, w_iinc, w_iadd, w_isub, w_imul, w_iand, w_ior, w_ixor, w_ishl, w_ishr, w_iushr, w_idiv, w_irem, w_ladd, w_lsub, w_lmul, w_land, w_lor, w_ldiv, w_lrem, w_lshl, w_lshr, w_lcmp, w_i2l, w_l2i, w_i2b, w_i2c, w_dupI, w_popI, w_dupR, w_popR, w_dupN, w_popN, w_dup2, w_ifnull, w_ifnullN, w_ifnon, w_ifnonN, w_goto, w_getf, w_putf, w_alen, w_iaload, w_baload, w_laload, w_aaload, w_iastore, w_bastore, w_lastore, w_aastore, w_new, w_newarray, w_anewarray, w_static, w_virtual, w_special, w_obj, w_copyi, w_copyq, w_min, w_max, w_iret, w_lret, w_aret, w_aretN, w_ret, g_fg, g_I, g_J, g_R, g_N, g_1r, pw_0, pw_I, pw_R, pw_N, pw_n, pv_0, pv_1, pv_2, pv_3, pv_4, pv_5, pv_6, pv_7, pv_8, pv_9, pv_10, pv_11, pv_12, pv_13, pv_14, pv_15, pv_16, pv_17, pv_18, pv_19, cd_eq, cd_ne, cd_lt, cd_ge, cd_gt, cd_le, ft_0, ft_1, ft_2, ft_3, ft_3n, fk_0, fk_1, fk_2, fk_3, ps_n, ps_s, rf_s, rf_n, gl_0, gl_1, gl_2, gl_3, gl_4, gl_5, gl_6, gl_7, gl_8, gl_9, gl_10, gl_11, gl_12, gl_13, sl_0, sl_1, sl_2, sl_3, sl_4, sl_5, sl_6, sl_7, sl_8, sl_9, sl_10, sl_11, sl_12, sl_13, List.contains_nil, List.contains_cons, Nat.reduceBEq, Bool.false_or, Bool.or_false, Bool.true_or, Nat.reduceAdd, true_and, and_true, Nat.reduceLT, List.length_cons, List.length_nil, Nat.reduceLeDiff, List.drop_zero, List.take_zero, List.take_succ_cons, List.drop_succ_cons, List.reverse_cons, List.reverse_nil, List.nil_append, List.cons_append, List.append_nil, forall_const, rf_int, rf_bool, sr_sn, sn_0, sn_i, sn_l, sn_r, sn_n, ob_o, ar_o, al_o, aq_o, aln_o, oo_1, ao_1, lo_1, qo_1, lno_1, rv_o, rvv_0, rvv_1, rvv_2, rvv_3, rvv_4, rvv_5, rvv_6, rvv_7, rvv_8, rvv_9, rvv_10, rvv_11, rvv_12, List.length_set, List.set_set, hg_set, hg_ne, lt_00, lt_80, tn_8, lt_40, tn_4, tn_10, lt_100, le_88, Nat.zero_add, or_01, or_11, Nat.reduceMul, not_false_eq_true, Bool.false_eq_true, if_false, if_true, ite_false, ite_true, Bool.or_true, Bool.false_eq_true, if_false, if_true, ite_false, ite_true, Bool.or_true, eq_self, and_self, reduceCtorEq, true_or, or_true, true_imp_iff, not_true_eq_false, false_imp_iff, implies_true, u_zeqT, u_zeqF, u_zneT, u_zneF, u_zltT, u_zltF, u_zgeT, u_zgeF, u_zgtT, u_zgtF, u_zleT, u_zleF, u_ceqT, u_ceqF, u_cneT, u_cneF, u_cltT, u_cltF, u_cgeT, u_cgeF, u_cgtT, u_cgtF, u_cleT, u_cleF, sw_T, sw_F, v_table, v_look, sw_0, Nat.reduceSub, pb7X12_rule_c27_a0, bX12_rule_0, pb7X12_rule_c27_a11, bX12_rule_11, pb7X12_rule_c27_a27, bX12_rule_27, pb7X12_rule_c27_a47, bX12_rule_47, pb7X12_rule_c27_a78, bX12_rule_78, pb7X12_rule_c27_a79, bX12_rule_79, pb7X12_rule_c27_a100, bX12_rule_100, pb7X12_rule_c27_a106, bX12_rule_106, rt_X12_rule, mc_X12_rule, ms_X12_rule, mc_X12_starts, ms_X12_starts, ci_X12_starts, al_X12_starts, mc_X12_ruleClause, ms_X12_ruleClause, ci_X12_ruleClause, al_X12_ruleClause, mc_X12_goesOn, ms_X12_goesOn, ci_X12_goesOn, al_X12_goesOn, mt_0, mg_0, mg_1, mg_2, mg_3, mg_4, mg_5, mg_6, mg_7, mg_8, mg_9, mg_10, mg_11, mg_12, mg_13, mg_14, mg_15, mg_16, mg_17, mt_18, mg_18, mt_19, mg_19, mt_20, mg_20, mt_21, mg_21, mt_22, mg_22, mt_23, mg_23, mt_24, mg_24, mt_25, mg_25, mt_26, mg_26, mt_27, mg_27, mg_28, mg_29, mg_30, mg_31, mg_32, mg_33, mg_34, mg_35, mg_36, mg_37, mg_38, mg_39, mt_40, mg_40, mt_41, mg_41, mt_42, mg_42, mg_43, mg_44, mt_45, mg_45, mt_46, mg_46, mt_47, mg_47, mg_48, mg_49, mg_50, mg_51, mt_52, mg_52, mt_53, mg_53, mL_len, hm, h22, hm1]
    refine (pn_starts hm1).mono ?_
    rintro z H1 ⟨rfl, rfl⟩ _
    rw [List.set_set]
    generalize ef0 : upd (upd (upd (upd (upd (upd f 21 (nI (oC w))) 19 0) 20 0) 23 0) 24 0) 25 0 = f0
    have z19 : f0 19 = 0 := by rw [← ef0, upd_n (by omega), upd_n (by omega), upd_n (by omega), upd_n (by omega), upd_s]
    have z20 : f0 20 = 0 := by rw [← ef0, upd_n (by omega), upd_n (by omega), upd_n (by omega), upd_s]
    have z23 : f0 23 = 0 := by rw [← ef0, upd_n (by omega), upd_n (by omega), upd_s]
    have z24 : f0 24 = 0 := by rw [← ef0, upd_n (by omega), upd_s]
    have z25 : f0 25 = 0 := by rw [← ef0, upd_s]
    have z21 : f0 21 = nI (oC w) := by rw [← ef0, upd_n (by omega), upd_n (by omega), upd_n (by omega), upd_n (by omega), upd_n (by omega), upd_s]
    have zo : ∀ q, ¬ (q = 19 ∨ q = 20 ∨ q = 21 ∨ q = 23 ∨ q = 24 ∨ q = 25) → f0 q = f q := fun q hq => by rw [← ef0, upd_n (by omega), upd_n (by omega), upd_n (by omega), upd_n (by omega), upd_n (by omega), upd_n (by omega)]
    have b0 : sB (fun i => i = 153) H (H.set 153 (cM f0)) := sB.set _ rfl
    have hm0 : (H.set 153 (cM f0))[153]? = some (cM f0) := hg_set l1
    obtain ⟨⟨op, hop⟩, -⟩ := g6.2.2.2.2.2.2
    generalize eH : H.set 153 (cM f0) = H0 at *
    have q1 := b0.get (by omega) r1
    have q2 := b0.get (by omega) r2
    have q3 := b0.get (by omega) r3
    have q4 := b0.get (by omega) r4
    have q5 := b0.get (by omega) r5
    have q6 := b0.get (by omega) r6
    have hop0 := b0.get (by omega) hop
    have t0 : txM H0 f0 (yF (oB w) (oL w)) (oL w) := tx_0 hm0 ((zo 18 (by omega)).trans hf.1) (mTp_b b0 (by omega) g4) hB
    have p0 : psM H0 f0 So Nu (yF (oB w) (oL w)) (oL w) (oC w) H0 f0 (0, 0, [], 0, 0) := ⟨t0, z19, z20, z23, z24, z25, fun _ _ => rfl, ⟨z21, (zo 27 (by omega)).trans hf.2.2.1⟩, ⟨So, Nu, q1, q2, fun i hi => absurd hi (by show ¬ i < 0; omega), fun _ _ => ⟨rfl, rfl⟩⟩, ⟨op, hop0⟩, sB.refl _ _⟩
    have rs0 : rsM H0 f0 So Nu Su Te En (yF (oB w) (oL w)) (oL w) (oC w) H0 f0 (0, 0, [], 0, 0) (0, clU []) (0, clT []) (0, clN []) := ⟨p0, fun _ _ => rfl, sB.refl _ _, ⟨Su, q4, fun _ _ => rfl, fun i hi => absurd hi (Nat.not_lt_zero _)⟩, ⟨Te, q5, fun _ _ => rfl, fun i hi => absurd hi (Nat.not_lt_zero _)⟩, ⟨En, q6, fun _ _ => rfl, fun i hi => absurd hi (Nat.not_lt_zero _)⟩⟩
    have sim0 : simR (toks (oB w) (oL w)) (yF (oB w) (oL w)) (oL w) (clK []) (clE []) (0, 0, [], 0, 0) (0, 0, [], 0) [] := ⟨rfl, Nat.zero_le _, fun _ => ⟨⟨rfl, Nat.zero_le _⟩, rfl, rfl, rfl, Nat.zero_le _⟩⟩
    have hfp : fp (ruS (toks (oB w) (oL w)) 0) := fp_ru tok1 13 0 _ (Or.inl rfl)
    have eru : ruL (toks (oB w) (oL w)) 13 0 (0, 0, [], 0) = ruS (toks (oB w) (oL w)) 0 := rfl
    generalize ruS (toks (oB w) (oL w)) 0 = F at *
    generalize toks (oB w) (oL w) = l at *
    have hy0 : ∀ q, oL w ≤ q → yF (oB w) (oL w) q = 0 := fun q hq => if_neg (by omega)
    generalize yF (oB w) (oL w) = y at *
    simp (disch := first | assumption | decide | omega | (simp only [List.length_set]; omega)) only [w_nil, w_nop, w_iload, w_lload, w_aload, w_istore, w_lstore, w_astore, w_astoreN, w_iinc, w_iadd, w_isub, w_imul, w_iand, w_ior, w_ixor, w_ishl, w_ishr, w_iushr, w_idiv, w_irem, w_ladd, w_lsub, w_lmul, w_land, w_lor, w_ldiv, w_lrem, w_lshl, w_lshr, w_lcmp, w_i2l, w_l2i, w_i2b, w_i2c, w_dupI, w_popI, w_dupR, w_popR, w_dupN, w_popN, w_dup2, w_ifnull, w_ifnullN, w_ifnon, w_ifnonN, w_goto, w_getf, w_putf, w_alen, w_iaload, w_baload, w_laload, w_aaload, w_iastore, w_bastore, w_lastore, w_aastore, w_new, w_newarray, w_anewarray, w_static, w_virtual, w_special, w_obj, w_copyi, w_copyq, w_min, w_max, w_iret, w_lret, w_aret, w_aretN, w_ret, g_fg, g_I, g_J, g_R, g_N, g_1r, pw_0, pw_I, pw_R, pw_N, pw_n, pv_0, pv_1, pv_2, pv_3, pv_4, pv_5, pv_6, pv_7, pv_8, pv_9, pv_10, pv_11, pv_12, pv_13, pv_14, pv_15, pv_16, pv_17, pv_18, pv_19, cd_eq, cd_ne, cd_lt, cd_ge, cd_gt, cd_le, ft_0, ft_1, ft_2, ft_3, ft_3n, fk_0, fk_1, fk_2, fk_3, ps_n, ps_s, rf_s, rf_n, gl_0, gl_1, gl_2, gl_3, gl_4, gl_5, gl_6, gl_7, gl_8, gl_9, gl_10, gl_11, gl_12, gl_13, sl_0, sl_1, sl_2, sl_3, sl_4, sl_5, sl_6, sl_7, sl_8, sl_9, sl_10, sl_11, sl_12, sl_13, List.contains_nil, List.contains_cons, Nat.reduceBEq, Bool.false_or, Bool.or_false, Bool.true_or, Nat.reduceAdd, true_and, and_true, Nat.reduceLT, List.length_cons, List.length_nil, Nat.reduceLeDiff, List.drop_zero, List.take_zero, List.take_succ_cons, List.drop_succ_cons, List.reverse_cons, List.reverse_nil, List.nil_append, List.cons_append, List.append_nil, forall_const, rf_int, rf_bool, sr_sn, sn_0, sn_i, sn_l, sn_r, sn_n, ob_o, ar_o, al_o, aq_o, aln_o, oo_1, ao_1, lo_1, qo_1, lno_1, rv_o, rvv_0, rvv_1, rvv_2, rvv_3, rvv_4, rvv_5, rvv_6, rvv_7, rvv_8, rvv_9, rvv_10, rvv_11, rvv_12, List.length_set, List.set_set, hg_set, hg_ne, lt_00, lt_80, tn_8, lt_40, tn_4, tn_10, lt_100, le_88, Nat.zero_add, or_01, or_11, Nat.reduceMul, not_false_eq_true, Bool.false_eq_true, if_false, if_true, ite_false, ite_true, Bool.or_true, Bool.false_eq_true, if_false, if_true, ite_false, ite_true, Bool.or_true, eq_self, and_self, reduceCtorEq, true_or, or_true, true_imp_iff, not_true_eq_false, false_imp_iff, implies_true, u_zeqT, u_zeqF, u_zneT, u_zneF, u_zltT, u_zltF, u_zgeT, u_zgeF, u_zgtT, u_zgtF, u_zleT, u_zleF, u_ceqT, u_ceqF, u_cneT, u_cneF, u_cltT, u_cltF, u_cgeT, u_cgeF, u_cgtT, u_cgtF, u_cleT, u_cleF, sw_T, sw_F, v_table, v_look, sw_0, Nat.reduceSub, pb7X12_rule_c27_a0, bX12_rule_0, pb7X12_rule_c27_a11, bX12_rule_11, pb7X12_rule_c27_a27, bX12_rule_27, pb7X12_rule_c27_a47, bX12_rule_47, pb7X12_rule_c27_a78, bX12_rule_78, pb7X12_rule_c27_a79, bX12_rule_79, pb7X12_rule_c27_a100, bX12_rule_100, pb7X12_rule_c27_a106, bX12_rule_106, rt_X12_rule, mc_X12_rule, ms_X12_rule, mc_X12_starts, ms_X12_starts, ci_X12_starts, al_X12_starts, mc_X12_ruleClause, ms_X12_ruleClause, ci_X12_ruleClause, al_X12_ruleClause, mc_X12_goesOn, ms_X12_goesOn, ci_X12_goesOn, al_X12_goesOn]
    refine rl_lp (by omega) c6 tok1 tok3 hln hy0 ?_ 13 0 [] H0 f0 (0, 0, [], 0, 0) (0, 0, [], 0) _ (by omega) (by omega) rfl (fun x hx => absurd hx (List.not_mem_nil)) rfl sim0 ⟨⟨0, by show 0 + 0 ≤ 2 * 0 + 0; omega, by show 3 * 0 ≤ 0; omega⟩, Nat.le_refl _⟩ rfl rs0 eru
    clear eru
    rintro H1 m n1 ⟨f1, s1, es, hm13, hx⟩
    have rr : rrM H So Nu Cl Su Te En := ⟨r1, r2, r3, r4, r5, r6⟩
    have i1 : (nI (oC w)).toNatClampNeg = oC w := nI_clamp (by omega)
    have i2 : vp_in (nI (oC w)) 6 := vp_in_nI (by omega) (by omega)
    have b0' : sB q_rlP H H0 := b0.mono (fun i hi => q_rlP_i (Or.inl hi))
    refine rm_from 5 [] ok_X12_rule atX12_rule_47 ?_
    rcases hx with ⟨z1, a, b, d, g1⟩ | ⟨z1, CL, hlen, hm12, hG, hK, hnv, h253, hE, g1⟩
    · have hF : ¬ F.1 = 0 := fun g => z1 (es.trans g)
      have hFp : 0 < F.1 := hfp.resolve_left hF
      have hFn : ¬ F.1 ≤ 0 := Int32.not_le.mpr hFp
      rw [if_neg hF]
      have hmm := psM_m g1.1
      have e20 : f1 20 = F.1 := (g1.1.2.2.1).trans es
      have e21 : f1 21 = nI (oC w) := g1.1.2.2.2.2.2.2.2.1.1
      have e22 : f1 22 = nI (oC w) := ((g1.2.1 22 (by omega)).trans (zo 22 (by omega))).trans h22
      have e27 : f1 27 = 13 := g1.1.2.2.2.2.2.2.2.1.2
      have e40 : f1 40 = nI (iPn (oI w)) := ((g1.2.1 40 (by omega)).trans (zo 40 (by omega))).trans hf.2.2.2
      have k20 : upd f1 18 0 20 = F.1 := (upd_n (by omega)).trans e20
      have k21 : upd f1 18 0 21 = nI (oC w) := (upd_n (by omega)).trans e21
      have k22 : upd f1 18 0 22 = nI (oC w) := (upd_n (by omega)).trans e22
      have k20' : upd (upd f1 18 0) 22 (nI (oC w)) 20 = F.1 := (upd_n (by omega)).trans k20
      have m0 : nI (oC w) + 0 = nI (oC w) := Int32.add_zero _
      obtain ⟨c174, bb, m153, mop, So1, Nu1, Su1, Te1, En1, rr1, en, ⟨su1, -⟩, ⟨te1, -⟩, ⟨en1, -⟩⟩ := rs_rr (m := m) (f2 := upd f1 18 0) (f3 := upd (upd f1 18 0) 22 (nI (oC w))) g1 q3
      obtain ⟨v1, v2, v3, v4, v5, v6⟩ := rr_x rr1
      have fin := rl_M (C1 := oC w) (R1 := oR w) h (b0'.trans bb) ⟨_, m153, (upd_n (by omega)).trans (upd_s _ _ _), upd_s _ _ _, (upd_n (by omega)).trans ((upd_n (by omega)).trans e27), (upd_n (by omega)).trans ((upd_n (by omega)).trans e40)⟩ ⟨hC, v1, v2, v3, v4, v5, v6, fun q hq => rn_old rr rr1 hq en.2 (fun x hx => upd_n (by omega)) su1 te1 en1 (r7 q hq)⟩ mop
      have l1 := hlt hmm
      have hmA : (H1.set 153 (cM (upd f1 18 0)))[153]? = some (cM (upd f1 18 0)) := hg_set l1
      have hmB : (H1.set 153 (cM (upd f1 18 0)))[174]? = some (cI 6 Cl) := by rw [hg_ne (by omega)]; exact c174
      have hmC : ((H1.set 153 (cM (upd f1 18 0))).set 174 (cI 6 (upd Cl (oC w) (nI m))))[153]? = some (cM (upd f1 18 0)) := by rw [hg_ne (by omega)]; exact hmA
      simp (disch := first | assumption | decide | omega | (simp only [List.length_set]; omega)) only [w_nil, w_nop, w_iload, w_lload, w_aload, w_istore, w_lstore, w_astore, w_astoreN, w_iinc, w_iadd, w_isub, w_imul, w_iand, w_ior, w_ixor, w_ishl, w_ishr, w_iushr, w_idiv, w_irem, w_ladd, w_lsub, w_lmul, w_land, w_lor, w_ldiv, w_lrem, w_lshl, w_lshr, w_lcmp, w_i2l, w_l2i, w_i2b, w_i2c, w_dupI, w_popI, w_dupR, w_popR, w_dupN, w_popN, w_dup2, w_ifnull, w_ifnullN, w_ifnon, w_ifnonN, w_goto, w_getf, w_putf, w_alen, w_iaload, w_baload, w_laload, w_aaload, w_iastore, w_bastore, w_lastore, w_aastore, w_new, w_newarray, w_anewarray, w_static, w_virtual, w_special, w_obj, w_copyi, w_copyq, w_min, w_max, w_iret, w_lret, w_aret, w_aretN, w_ret, g_fg, g_I, g_J, g_R, g_N, g_1r, pw_0, pw_I, pw_R, pw_N, pw_n, pv_0, pv_1, pv_2, pv_3, pv_4, pv_5, pv_6, pv_7, pv_8, pv_9, pv_10, pv_11, pv_12, pv_13, pv_14, pv_15, pv_16, pv_17, pv_18, pv_19, cd_eq, cd_ne, cd_lt, cd_ge, cd_gt, cd_le, ft_0, ft_1, ft_2, ft_3, ft_3n, fk_0, fk_1, fk_2, fk_3, ps_n, ps_s, rf_s, rf_n, gl_0, gl_1, gl_2, gl_3, gl_4, gl_5, gl_6, gl_7, gl_8, gl_9, gl_10, gl_11, gl_12, gl_13, sl_0, sl_1, sl_2, sl_3, sl_4, sl_5, sl_6, sl_7, sl_8, sl_9, sl_10, sl_11, sl_12, sl_13, List.contains_nil, List.contains_cons, Nat.reduceBEq, Bool.false_or, Bool.or_false, Bool.true_or, Nat.reduceAdd, true_and, and_true, Nat.reduceLT, List.length_cons, List.length_nil, Nat.reduceLeDiff, List.drop_zero, List.take_zero, List.take_succ_cons, List.drop_succ_cons, List.reverse_cons, List.reverse_nil, List.nil_append, List.cons_append, List.append_nil, forall_const, rf_int, rf_bool, sr_sn, sn_0, sn_i, sn_l, sn_r, sn_n, ob_o, ar_o, al_o, aq_o, aln_o, oo_1, ao_1, lo_1, qo_1, lno_1, rv_o, rvv_0, rvv_1, rvv_2, rvv_3, rvv_4, rvv_5, rvv_6, rvv_7, rvv_8, rvv_9, rvv_10, rvv_11, rvv_12, List.length_set, List.set_set, hg_set, hg_ne, lt_00, lt_80, tn_8, lt_40, tn_4, tn_10, lt_100, le_88, Nat.zero_add, or_01, or_11, Nat.reduceMul, not_false_eq_true, Bool.false_eq_true, if_false, if_true, ite_false, ite_true, Bool.or_true, Bool.false_eq_true, if_false, if_true, ite_false, ite_true, Bool.or_true, eq_self, and_self, reduceCtorEq, true_or, or_true, true_imp_iff, not_true_eq_false, false_imp_iff, implies_true, u_zeqT, u_zeqF, u_zneT, u_zneF, u_zltT, u_zltF, u_zgeT, u_zgeF, u_zgtT, u_zgtF, u_zleT, u_zleF, u_ceqT, u_ceqF, u_cneT, u_cneF, u_cltT, u_cltF, u_cgeT, u_cgeF, u_cgtT, u_cgtF, u_cleT, u_cleF, sw_T, sw_F, v_table, v_look, sw_0, Nat.reduceSub, pb7X12_rule_a0, bX12_rule_0, pb7X12_rule_a11, bX12_rule_11, pb7X12_rule_a27, bX12_rule_27, pb7X12_rule_a47, bX12_rule_47, pb7X12_rule_a78, bX12_rule_78, pb7X12_rule_a79, bX12_rule_79, pb7X12_rule_a100, bX12_rule_100, pb7X12_rule_a106, bX12_rule_106, rt_X12_rule, mc_X12_rule, ms_X12_rule, mc_X12_starts, ms_X12_starts, ci_X12_starts, al_X12_starts, mc_X12_ruleClause, ms_X12_ruleClause, ci_X12_ruleClause, al_X12_ruleClause, mc_X12_goesOn, ms_X12_goesOn, ci_X12_goesOn, al_X12_goesOn, mt_0, mg_0, mg_1, mg_2, mg_3, mg_4, mg_5, mg_6, mg_7, mg_8, mg_9, mg_10, mg_11, mg_12, mg_13, mg_14, mg_15, mg_16, mg_17, mt_18, mg_18, mt_19, mg_19, mt_20, mg_20, mt_21, mg_21, mt_22, mg_22, mt_23, mg_23, mt_24, mg_24, mt_25, mg_25, mt_26, mg_26, mt_27, mg_27, mg_28, mg_29, mg_30, mg_31, mg_32, mg_33, mg_34, mg_35, mg_36, mg_37, mg_38, mg_39, mt_40, mg_40, mt_41, mg_41, mt_42, mg_42, mg_43, mg_44, mt_45, mg_45, mt_46, mg_46, mt_47, mg_47, mg_48, mg_49, mg_50, mg_51, mt_52, mg_52, mt_53, mg_53, mL_len, hmm, hmA, hmB, hmC, m153, k20, k21, k22, k20', i1, i2, m0]
      exact fin
    · have hF : F.1 = 0 := es.symm.trans z1
      rw [if_pos hF]
      have hmm := psM_m g1.1
      have e20 : f1 20 = 0 := (g1.1.2.2.1).trans z1
      have e21 : f1 21 = nI (oC w) := g1.1.2.2.2.2.2.2.2.1.1
      have e22 : f1 22 = nI (oC w) := ((g1.2.1 22 (by omega)).trans (zo 22 (by omega))).trans h22
      have e27 : f1 27 = 13 := g1.1.2.2.2.2.2.2.2.1.2
      have e40 : f1 40 = nI (iPn (oI w)) := ((g1.2.1 40 (by omega)).trans (zo 40 (by omega))).trans hf.2.2.2
      have k20 : upd f1 18 0 20 = 0 := (upd_n (by omega)).trans e20
      have k21 : upd f1 18 0 21 = nI (oC w) := (upd_n (by omega)).trans e21
      have k22 : upd f1 18 0 22 = nI (oC w) := (upd_n (by omega)).trans e22
      have k20' : upd (upd f1 18 0) 22 (nI (oC w + 1)) 20 = 0 := (upd_n (by omega)).trans k20
      have k22' : upd (upd f1 18 0) 22 (nI (oC w + 1)) 22 = nI (oC w + 1) := upd_s _ _ _
      obtain ⟨c174, bb, m153, mop, So1, Nu1, Su1, Te1, En1, rr1, en, ⟨su1, su2⟩, ⟨te1, te2⟩, ⟨en1, en2⟩⟩ := rs_rr (m := m) (f2 := upd f1 18 0) (f3 := upd (upd f1 18 0) 22 (nI (oC w + 1))) g1 q3
      obtain ⟨v1, v2, v3, v4, v5, v6⟩ := rr_x rr1
      have en0 := en.1
      rw [hE] at en0
      have fin := rl_M (C1 := oC w + 1) (R1 := fun i => if i = oC w then (F.2.2.1.length, stpA F.2.2.1) else oR w i) h (b0'.trans bb) ⟨_, m153, (upd_n (by omega)).trans (upd_s _ _ _), upd_s _ _ _, (upd_n (by omega)).trans ((upd_n (by omega)).trans e27), (upd_n (by omega)).trans ((upd_n (by omega)).trans e40)⟩ ⟨by omega, v1, v2, v3, v4, v5, v6, fun q hq => by
        show ∃ So Nu K u t e, rnH _ So Nu q K u t e ∧ ruM So Nu q K u t e (if q = oC w then (F.2.2.1.length, stpA F.2.2.1) else oR w q).1 (if q = oC w then (F.2.2.1.length, stpA F.2.2.1) else oR w q).2
        by_cases eq : q = oC w
        · rw [if_pos eq, eq, hK]
          refine ⟨So1, Nu1, m, clU CL, clT CL, clN CL, ⟨c6, hm12, rr1.1, rr1.2.1, ⟨_, rr1.2.2.1, upd_s _ _ _⟩, ⟨_, rr1.2.2.2.1, su2⟩, ⟨_, rr1.2.2.2.2.1, te2⟩, ⟨_, rr1.2.2.2.2.2, en2⟩, fun c hc => ?_⟩, ?_⟩
          · have := cl_len (CL := CL) (c := c) (by omega)
            have e1 : clT CL c = clU CL c + (CL.getD c ([], [])).1.length := rfl
            have e2 : clN CL c = clT CL c + (CL.getD c ([], [])).2.length := rfl
            omega
          · rw [← hlen]
            exact ru_m en0 hG hnv
        · rw [if_neg eq]
          have hq' : q < oC w := by omega
          exact rn_old rr rr1 hq' en.2 (fun x hx => upd_n (by omega)) su1 te1 en1 (r7 q hq')⟩ mop
      have l1 := hlt hmm
      have hmA : (H1.set 153 (cM (upd f1 18 0)))[153]? = some (cM (upd f1 18 0)) := hg_set l1
      have hmB : (H1.set 153 (cM (upd f1 18 0)))[174]? = some (cI 6 Cl) := by rw [hg_ne (by omega)]; exact c174
      have hmC : ((H1.set 153 (cM (upd f1 18 0))).set 174 (cI 6 (upd Cl (oC w) (nI m))))[153]? = some (cM (upd f1 18 0)) := by rw [hg_ne (by omega)]; exact hmA
      have zz : (0 : Int32) ≤ 0 := Int32.le_refl _
      simp (disch := first | assumption | decide | omega | (simp only [List.length_set]; omega)) only [w_nil, w_nop, w_iload, w_lload, w_aload, w_istore, w_lstore, w_astore, w_astoreN, w_iinc, w_iadd, w_isub, w_imul, w_iand, w_ior, w_ixor, w_ishl, w_ishr, w_iushr, w_idiv, w_irem, w_ladd, w_lsub, w_lmul, w_land, w_lor, w_ldiv, w_lrem, w_lshl, w_lshr, w_lcmp, w_i2l, w_l2i, w_i2b, w_i2c, w_dupI, w_popI, w_dupR, w_popR, w_dupN, w_popN, w_dup2, w_ifnull, w_ifnullN, w_ifnon, w_ifnonN, w_goto, w_getf, w_putf, w_alen, w_iaload, w_baload, w_laload, w_aaload, w_iastore, w_bastore, w_lastore, w_aastore, w_new, w_newarray, w_anewarray, w_static, w_virtual, w_special, w_obj, w_copyi, w_copyq, w_min, w_max, w_iret, w_lret, w_aret, w_aretN, w_ret, g_fg, g_I, g_J, g_R, g_N, g_1r, pw_0, pw_I, pw_R, pw_N, pw_n, pv_0, pv_1, pv_2, pv_3, pv_4, pv_5, pv_6, pv_7, pv_8, pv_9, pv_10, pv_11, pv_12, pv_13, pv_14, pv_15, pv_16, pv_17, pv_18, pv_19, cd_eq, cd_ne, cd_lt, cd_ge, cd_gt, cd_le, ft_0, ft_1, ft_2, ft_3, ft_3n, fk_0, fk_1, fk_2, fk_3, ps_n, ps_s, rf_s, rf_n, gl_0, gl_1, gl_2, gl_3, gl_4, gl_5, gl_6, gl_7, gl_8, gl_9, gl_10, gl_11, gl_12, gl_13, sl_0, sl_1, sl_2, sl_3, sl_4, sl_5, sl_6, sl_7, sl_8, sl_9, sl_10, sl_11, sl_12, sl_13, List.contains_nil, List.contains_cons, Nat.reduceBEq, Bool.false_or, Bool.or_false, Bool.true_or, Nat.reduceAdd, true_and, and_true, Nat.reduceLT, List.length_cons, List.length_nil, Nat.reduceLeDiff, List.drop_zero, List.take_zero, List.take_succ_cons, List.drop_succ_cons, List.reverse_cons, List.reverse_nil, List.nil_append, List.cons_append, List.append_nil, forall_const, rf_int, rf_bool, sr_sn, sn_0, sn_i, sn_l, sn_r, sn_n, ob_o, ar_o, al_o, aq_o, aln_o, oo_1, ao_1, lo_1, qo_1, lno_1, rv_o, rvv_0, rvv_1, rvv_2, rvv_3, rvv_4, rvv_5, rvv_6, rvv_7, rvv_8, rvv_9, rvv_10, rvv_11, rvv_12, List.length_set, List.set_set, hg_set, hg_ne, lt_00, lt_80, tn_8, lt_40, tn_4, tn_10, lt_100, le_88, Nat.zero_add, or_01, or_11, Nat.reduceMul, not_false_eq_true, Bool.false_eq_true, if_false, if_true, ite_false, ite_true, Bool.or_true, Bool.false_eq_true, if_false, if_true, ite_false, ite_true, Bool.or_true, eq_self, and_self, reduceCtorEq, true_or, or_true, true_imp_iff, not_true_eq_false, false_imp_iff, implies_true, u_zeqT, u_zeqF, u_zneT, u_zneF, u_zltT, u_zltF, u_zgeT, u_zgeF, u_zgtT, u_zgtF, u_zleT, u_zleF, u_ceqT, u_ceqF, u_cneT, u_cneF, u_cltT, u_cltF, u_cgeT, u_cgeF, u_cgtT, u_cgtF, u_cleT, u_cleF, sw_T, sw_F, v_table, v_look, sw_0, Nat.reduceSub, pb7X12_rule_a0, bX12_rule_0, pb7X12_rule_a11, bX12_rule_11, pb7X12_rule_a27, bX12_rule_27, pb7X12_rule_a47, bX12_rule_47, pb7X12_rule_a78, bX12_rule_78, pb7X12_rule_a79, bX12_rule_79, pb7X12_rule_a100, bX12_rule_100, pb7X12_rule_a106, bX12_rule_106, rt_X12_rule, mc_X12_rule, ms_X12_rule, mc_X12_starts, ms_X12_starts, ci_X12_starts, al_X12_starts, mc_X12_ruleClause, ms_X12_ruleClause, ci_X12_ruleClause, al_X12_ruleClause, mc_X12_goesOn, ms_X12_goesOn, ci_X12_goesOn, al_X12_goesOn, mt_0, mg_0, mg_1, mg_2, mg_3, mg_4, mg_5, mg_6, mg_7, mg_8, mg_9, mg_10, mg_11, mg_12, mg_13, mg_14, mg_15, mg_16, mg_17, mt_18, mg_18, mt_19, mg_19, mt_20, mg_20, mt_21, mg_21, mt_22, mg_22, mt_23, mg_23, mt_24, mg_24, mt_25, mg_25, mt_26, mg_26, mt_27, mg_27, mg_28, mg_29, mg_30, mg_31, mg_32, mg_33, mg_34, mg_35, mg_36, mg_37, mg_38, mg_39, mt_40, mg_40, mt_41, mg_41, mt_42, mg_42, mg_43, mg_44, mt_45, mg_45, mt_46, mg_46, mt_47, mg_47, mg_48, mg_49, mg_50, mg_51, mt_52, mg_52, mt_53, mg_53, mL_len, hmm, hmA, hmB, hmC, m153, k20, k21, k22, k20', k22', i1, i2, nI_inc, nI_dec]
      exact fin
  · have c6' : oC w = 6 := by omega
    have c6'' : nI (oC w) = 6 := by rw [c6']; rfl
    rw [if_neg c6]
    simp (disch := first | assumption | decide | omega | (simp only [List.length_set]; omega)) only [w_nil, w_nop, w_iload, w_lload, w_aload, w_istore, w_lstore, w_astore, w_astoreN, w_iinc, w_iadd, w_isub, w_imul, w_iand, w_ior, w_ixor, w_ishl, w_ishr, w_iushr, w_idiv, w_irem, w_ladd, w_lsub, w_lmul, w_land, w_lor, w_ldiv, w_lrem, w_lshl, w_lshr, w_lcmp, w_i2l, w_l2i, w_i2b, w_i2c, w_dupI, w_popI, w_dupR, w_popR, w_dupN, w_popN, w_dup2, w_ifnull, w_ifnullN, w_ifnon, w_ifnonN, w_goto, w_getf, w_putf, w_alen, w_iaload, w_baload, w_laload, w_aaload, w_iastore, w_bastore, w_lastore, w_aastore, w_new, w_newarray, w_anewarray, w_static, w_virtual, w_special, w_obj, w_copyi, w_copyq, w_min, w_max, w_iret, w_lret, w_aret, w_aretN, w_ret, g_fg, g_I, g_J, g_R, g_N, g_1r, pw_0, pw_I, pw_R, pw_N, pw_n, pv_0, pv_1, pv_2, pv_3, pv_4, pv_5, pv_6, pv_7, pv_8, pv_9, pv_10, pv_11, pv_12, pv_13, pv_14, pv_15, pv_16, pv_17, pv_18, pv_19, cd_eq, cd_ne, cd_lt, cd_ge, cd_gt, cd_le, ft_0, ft_1, ft_2, ft_3, ft_3n, fk_0, fk_1, fk_2, fk_3, ps_n, ps_s, rf_s, rf_n, gl_0, gl_1, gl_2, gl_3, gl_4, gl_5, gl_6, gl_7, gl_8, gl_9, gl_10, gl_11, gl_12, gl_13, sl_0, sl_1, sl_2, sl_3, sl_4, sl_5, sl_6, sl_7, sl_8, sl_9, sl_10, sl_11, sl_12, sl_13, List.contains_nil, List.contains_cons, Nat.reduceBEq, Bool.false_or, Bool.or_false, Bool.true_or, Nat.reduceAdd, true_and, and_true, Nat.reduceLT, List.length_cons, List.length_nil, Nat.reduceLeDiff, List.drop_zero, List.take_zero, List.take_succ_cons, List.drop_succ_cons, List.reverse_cons, List.reverse_nil, List.nil_append, List.cons_append, List.append_nil, forall_const, rf_int, rf_bool, sr_sn, sn_0, sn_i, sn_l, sn_r, sn_n, ob_o, ar_o, al_o, aq_o, aln_o, oo_1, ao_1, lo_1, qo_1, lno_1, rv_o, rvv_0, rvv_1, rvv_2, rvv_3, rvv_4, rvv_5, rvv_6, rvv_7, rvv_8, rvv_9, rvv_10, rvv_11, rvv_12, List.length_set, List.set_set, hg_set, hg_ne, lt_00, lt_80, tn_8, lt_40, tn_4, tn_10, lt_100, le_88, Nat.zero_add, or_01, or_11, Nat.reduceMul, not_false_eq_true, Bool.false_eq_true, if_false, if_true, ite_false, ite_true, Bool.or_true, Bool.false_eq_true, if_false, if_true, ite_false, ite_true, Bool.or_true, eq_self, and_self, reduceCtorEq, true_or, or_true, true_imp_iff, not_true_eq_false, false_imp_iff, implies_true, u_zeqT, u_zeqF, u_zneT, u_zneF, u_zltT, u_zltF, u_zgeT, u_zgeF, u_zgtT, u_zgtF, u_zleT, u_zleF, u_ceqT, u_ceqF, u_cneT, u_cneF, u_cltT, u_cltF, u_cgeT, u_cgeF, u_cgtT, u_cgtF, u_cleT, u_cleF, sw_T, sw_F, v_table, v_look, sw_0, Nat.reduceSub, pb7X12_rule_c27_a0, bX12_rule_0, pb7X12_rule_c27_a11, bX12_rule_11, pb7X12_rule_c27_a27, bX12_rule_27, pb7X12_rule_c27_a47, bX12_rule_47, pb7X12_rule_c27_a78, bX12_rule_78, pb7X12_rule_c27_a79, bX12_rule_79, pb7X12_rule_c27_a100, bX12_rule_100, pb7X12_rule_c27_a106, bX12_rule_106, rt_X12_rule, mc_X12_rule, ms_X12_rule, mc_X12_starts, ms_X12_starts, ci_X12_starts, al_X12_starts, mc_X12_ruleClause, ms_X12_ruleClause, ci_X12_ruleClause, al_X12_ruleClause, mc_X12_goesOn, ms_X12_goesOn, ci_X12_goesOn, al_X12_goesOn, mt_0, mg_0, mg_1, mg_2, mg_3, mg_4, mg_5, mg_6, mg_7, mg_8, mg_9, mg_10, mg_11, mg_12, mg_13, mg_14, mg_15, mg_16, mg_17, mt_18, mg_18, mt_19, mg_19, mt_20, mg_20, mt_21, mg_21, mt_22, mg_22, mt_23, mg_23, mt_24, mg_24, mt_25, mg_25, mt_26, mg_26, mt_27, mg_27, mg_28, mg_29, mg_30, mg_31, mg_32, mg_33, mg_34, mg_35, mg_36, mg_37, mg_38, mg_39, mt_40, mg_40, mt_41, mg_41, mt_42, mg_42, mg_43, mg_44, mt_45, mg_45, mt_46, mg_46, mt_47, mg_47, mg_48, mg_49, mg_50, mg_51, mt_52, mg_52, mt_53, mg_53, mL_len, hm, h22]
    exact ⟨h, sB.refl _ _⟩
