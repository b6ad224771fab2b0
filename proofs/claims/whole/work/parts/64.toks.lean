/-! What tokens a text has -/
abbrev toks (B : Nat → Int32) (ln : Nat) : List tok := tkL (yF B ln) ln ln 0
def okTk (ln : Nat) (x : tok) : Prop := (∃ t, t ≤ 260 ∧ ¬ t = 259 ∧ x.1 = nI t) ∧ (x.1 = 258 → x.2.2 = -1 ∨ 0 ≤ x.2.2) ∧ x.2.1 ≤ ln
theorem nV_n {y : Nat → Int32} {s : Nat} : ∀ (d p a : Nat), s ≤ p → a < 10 ^ (min (p - s) 5) → ∃ b, b < 100000 ∧ nV y s d p (nI a) = nI b
  | 0, p, a, hp, ha => ⟨a, Nat.lt_of_lt_of_le ha (by
      have : 10 ^ (min (p - s) 5) ≤ 10 ^ 5 := Nat.pow_le_pow_right (by omega) (by omega)
      omega), rfl⟩
  | d + 1, p, a, hp, ha => by
    have ha5 : a < 100000 := Nat.lt_of_lt_of_le ha (by
      have : 10 ^ (min (p - s) 5) ≤ 10 ^ 5 := Nat.pow_le_pow_right (by omega) (by omega)
      omega)
    unfold nV
    by_cases hd : isD (y p)
    · rw [if_pos hd]
      by_cases h5 : p < s + 5
      · rw [if_pos h5]
        obtain ⟨c, hc1, hc2, hc3, -⟩ := wn_nat (a := 48) (b := 57) rfl rfl (by omega) hd
        have e : nI a * 10 + y p - 48 = nI (a * 10 + c - 48) := by
          rw [hc3, show (10 : Int32) = nI 10 from rfl, pk_mul, nI_add, show (48 : Int32) = nI 48 from rfl, pk_sub (by omega)]
        rw [e]
        refine nV_n d (p + 1) _ (by omega) ?_
        have e1 : min (p + 1 - s) 5 = min (p - s) 5 + 1 := by omega
        rw [e1, Nat.pow_succ]
        omega
      · rw [if_neg h5]
        refine nV_n d (p + 1) _ (by omega) ?_
        have e1 : min (p + 1 - s) 5 = min (p - s) 5 := by omega
        rw [e1]
        exact ha
    · rw [if_neg hd]
      exact ⟨a, ha5, rfl⟩
theorem scF_n {y : Nat → Int32} {s n : Nat} : ∀ (d i w b : Nat), w ≤ i → i + d ≤ 113 → scF y s n d i w b = 260 ∨ ∃ t, t ≤ 112 ∧ scF y s n d i w b = nI t
  | 0, i, w, b, hw, hi => Or.inl rfl
  | d + 1, i, w, b, hw, hi => by
    unfold scF
    split
    · split
      · exact Or.inr ⟨w, by omega, rfl⟩
      · exact scF_n d _ _ _ (by omega) (by omega)
    · exact scF_n d _ _ _ (by omega) (by omega)
theorem tk1_ok {B : Nat → Int32} {ln p : Nat} (hp : p < ln) : okTk ln (tk1 (yF B ln) ln p).1 := by
  unfold tk1
  by_cases h1 : isD (yF B ln p)
  · rw [if_pos h1]
    refine ⟨⟨258, by omega, by omega, rfl⟩, fun _ => ?_, by show p ≤ ln; omega⟩
    show (if 5 < dE (yF B ln) (ln - p) p - p then (-1 : Int32) else nV (yF B ln) p (ln - p) p 0) = -1 ∨ 0 ≤ (if 5 < dE (yF B ln) (ln - p) p - p then (-1 : Int32) else nV (yF B ln) p (ln - p) p 0)
    split
    · exact Or.inl rfl
    · obtain ⟨b, hb, e⟩ := nV_n (y := yF B ln) (s := p) (ln - p) p 0 (by omega) (by simp)
      refine Or.inr ?_
      have e2 : nV (yF B ln) p (ln - p) p 0 = nI b := e
      rw [e2]
      exact nI_pos' (by omega)
  · rw [if_neg h1]
    by_cases h2 : isL (yF B ln p)
    · rw [if_pos h2]
      have hs : wdF (yF B ln) p (lE (yF B ln) (ln - (p + 1)) (p + 1)) = 260 ∨ ∃ t, t ≤ 112 ∧ wdF (yF B ln) p (lE (yF B ln) (ln - (p + 1)) (p + 1)) = nI t := scF_n 113 0 0 0 (by omega) (by omega)
      generalize wdF (yF B ln) p (lE (yF B ln) (ln - (p + 1)) (p + 1)) = W at hs ⊢
      refine ⟨?_, fun _ => Or.inr (by show (0 : Int32) ≤ 0; decide), by show p ≤ ln; omega⟩
      rcases hs with q | ⟨t, ht, q⟩
      · exact ⟨260, by omega, by omega, q⟩
      · exact ⟨t, by omega, by omega, q⟩
    · rw [if_neg h2]
      by_cases h3 : (yF B ln p = 60 ∨ yF B ln p = 62) ∧ yF B ln (p + 1) = 61
      · rw [if_pos h3]
        refine ⟨?_, fun _ => Or.inr (by show (0 : Int32) ≤ 0; decide), by show p ≤ ln; omega⟩
        show ∃ t, t ≤ 260 ∧ ¬ t = 259 ∧ (if yF B ln p = 60 then (256 : Int32) else 257) = nI t
        split
        · exact ⟨256, by omega, by omega, rfl⟩
        · exact ⟨257, by omega, by omega, rfl⟩
      · rw [if_neg h3]
        refine ⟨?_, fun _ => Or.inr (by show (0 : Int32) ≤ 0; decide), by show p ≤ ln; omega⟩
        show ∃ t, t ≤ 260 ∧ ¬ t = 259 ∧ (if sgn (yF B ln p).toNatClampNeg = true then yF B ln p else 260) = nI t
        split
        · obtain ⟨n, hn, e⟩ := yF_n B ln p
          exact ⟨n, by omega, by omega, e⟩
        · exact ⟨260, by omega, by omega, rfl⟩
theorem tkL_m {B : Nat → Int32} {ln : Nat} : ∀ (d p : Nat), ∃ m, tkL (yF B ln) ln d p = m ++ [(259, ln, 0)] ∧ (∀ x ∈ m, okTk ln x) ∧ m.length ≤ ln - p
  | 0, p => ⟨[], rfl, fun x hx => absurd hx (by simp), by simp⟩
  | d + 1, p => by
    unfold tkL
    by_cases hp : p < ln
    · rw [if_pos hp]
      by_cases h32 : yF B ln p = 32
      · rw [if_pos h32]
        obtain ⟨m, h1, h2, h3⟩ := tkL_m (B := B) (ln := ln) d (p + 1)
        exact ⟨m, h1, h2, by omega⟩
      · rw [if_neg h32]
        obtain ⟨m, h1, h2, h3⟩ := tkL_m (B := B) (ln := ln) d (tk1 (yF B ln) ln p).2
        have h4 := tk1_gt (y := yF B ln) hp
        refine ⟨(tk1 (yF B ln) ln p).1 :: m, by rw [h1]; rfl, fun x hx => ?_, by rw [List.length_cons]; omega⟩
        rcases List.mem_cons.mp hx with rfl | hx
        · exact tk1_ok hp
        · exact h2 x hx
    · rw [if_neg hp]
      exact ⟨[], rfl, fun x hx => absurd hx (by simp), by simp⟩
theorem tkG_of {ln : Nat} {l m : List tok} (hln : ln ≤ 400) (e : l = m ++ [(259, ln, 0)]) (hm : ∀ x ∈ m, okTk ln x) : tkG l := by
  have hlen : l.length = m.length + 1 := by rw [e]; simp
  have g1 : ∀ i, i < m.length → okTk ln (l.getD i (0, 0, 0)) := by
    intro i hi
    rw [e, gd_l hi]
    rw [List.getD_eq_getElem?_getD, List.getElem?_eq_getElem hi]
    exact hm _ (List.getElem_mem hi)
  have g2 : l.getD m.length (0, 0, 0) = (259, ln, 0) := by
    rw [e, gd_r (Nat.le_refl _), Nat.sub_self]; rfl
  have g3 : ∀ i, m.length < i → l.getD i (0, 0, 0) = (0, 0, 0) := by
    intro i hi
    rw [List.getD_eq_getElem?_getD, List.getElem?_eq_none (by omega)]; rfl
  refine ⟨fun i hi => ?_, fun i => ?_, fun i => ?_, fun i => ?_⟩
  · rcases Nat.lt_or_ge i m.length with h | h
    · obtain ⟨⟨t, h1, h2, h3⟩, -⟩ := g1 i h
      constructor
      · intro q
        exfalso
        have h4 : nI t = 259 := h3.symm.trans q
        have := congrArg Int32.toNatClampNeg h4
        rw [nI_clamp (by omega)] at this
        exact h2 this
      · intro q; omega
    · have : i = m.length := by omega
      subst this
      constructor
      · intro _; omega
      · intro _; unfold tT; rw [g2]
  · rcases Nat.lt_trichotomy i m.length with h | h | h
    · obtain ⟨⟨t, h1, h2, h3⟩, -⟩ := g1 i h
      exact ⟨t, h1, h3⟩
    · subst h
      exact ⟨259, by omega, by unfold tT; rw [g2]; rfl⟩
    · exact ⟨0, by omega, by unfold tT; rw [g3 i h]; rfl⟩
  · rcases Nat.lt_trichotomy i m.length with h | h | h
    · exact (g1 i h).2.1
    · subst h
      intro q
      unfold tT at q
      rw [g2] at q
      exact absurd q (by decide : ¬ (259 : Int32) = 258)
    · intro _
      unfold tV
      rw [g3 i h]
      exact Or.inr (by decide)
  · rcases Nat.lt_trichotomy i m.length with h | h | h
    · exact Nat.le_trans (g1 i h).2.2 hln
    · subst h
      unfold tS
      rw [g2]
      exact hln
    · unfold tS
      rw [g3 i h]
      exact Nat.zero_le _
set_option maxRecDepth 100000 in
theorem sc_1 (y : Nat → Int32) (s : Nat) : scF y s 1 113 0 0 0 = 260 := by rfl
/-- one letter is no word -/
theorem tk1_16 {B : Nat → Int32} {ln p : Nat} (hp : p < ln) (h : (tk1 (yF B ln) ln p).1.1 = 16) : p + 2 ≤ (tk1 (yF B ln) ln p).2 ∧ (tk1 (yF B ln) ln p).2 ≤ ln := by
  have hg := tk1_gt (y := yF B ln) hp
  unfold tk1 at h hg ⊢
  by_cases h1 : isD (yF B ln p)
  · rw [if_pos h1] at h
    exact absurd h (by decide : ¬ (258 : Int32) = 16)
  · rw [if_neg h1] at h hg ⊢
    by_cases h2 : isL (yF B ln p)
    · rw [if_pos h2] at h hg ⊢
      have hg : p < lE (yF B ln) (ln - (p + 1)) (p + 1) := hg
      have hle := (lE_ge (y := yF B ln) (ln - (p + 1)) (p + 1)).2
      dsimp only at h ⊢
      generalize lE (yF B ln) (ln - (p + 1)) (p + 1) = e at h hg hle ⊢
      refine ⟨?_, by omega⟩
      rcases Nat.lt_or_ge e (p + 2) with q | q
      · have : e = p + 1 := by omega
        subst this
        unfold wdF at h
        rw [Nat.add_sub_cancel_left, sc_1] at h
        exact absurd h (by decide)
      · exact q
    · rw [if_neg h2] at h hg ⊢
      by_cases h3 : (yF B ln p = 60 ∨ yF B ln p = 62) ∧ yF B ln (p + 1) = 61
      · rw [if_pos h3] at h
        exfalso
        have h : (if yF B ln p = 60 then (256 : Int32) else 257) = 16 := h
        split at h
        · exact absurd h (by decide)
        · exact absurd h (by decide)
      · rw [if_neg h3] at h
        exfalso
        have h : (if sgn (yF B ln p).toNatClampNeg = true then yF B ln p else 260) = 16 := h
        by_cases h4 : sgn (yF B ln p).toNatClampNeg = true
        · rw [if_pos h4] at h
          rw [h] at h4
          exact absurd h4 (by decide)
        · rw [if_neg h4] at h
          exact absurd h (by decide)
theorem tkL_16 {B : Nat → Int32} {ln : Nat} : ∀ (d p : Nat), ln ≤ 400 → tT (tkL (yF B ln) ln d p) 0 = 16 → (tkL (yF B ln) ln d p).length ≤ ln - p
  | 0, p, hl, h => absurd h (by decide : ¬ (259 : Int32) = 16)
  | d + 1, p, hl, h => by
    unfold tkL at h ⊢
    by_cases hp : p < ln
    · rw [if_pos hp] at h ⊢
      by_cases h32 : yF B ln p = 32
      · rw [if_pos h32] at h ⊢
        have := tkL_16 d (p + 1) hl h
        omega
      · rw [if_neg h32] at h ⊢
        have h1 := tk1_16 hp h
        obtain ⟨m, h2, -, h3⟩ := tkL_m (B := B) (ln := ln) d (tk1 (yF B ln) ln p).2
        rw [List.length_cons, h2, List.length_append, List.length_singleton]
        omega
    · rw [if_neg hp] at h
      exact absurd h (by decide : ¬ (259 : Int32) = 16)
/-- a text's tokens, and what a rule's steps are -/
theorem toks_ok {B : Nat → Int32} {ln : Nat} (hl : ln ≤ 400) : tkG (toks B ln) ∧ 0 < (toks B ln).length ∧ (toks B ln).length ≤ 401 := by
  obtain ⟨m, h1, h2, h3⟩ := tkL_m (B := B) (ln := ln) ln 0
  refine ⟨tkG_of hl h1 h2, ?_, ?_⟩
  · show 0 < (tkL (yF B ln) ln ln 0).length
    rw [h1]; simp
  · show (tkL (yF B ln) ln ln 0).length ≤ 401
    rw [h1, List.length_append, List.length_singleton]; omega
theorem ru_0 {l : List tok} (h : ¬ tT l 0 = 16) (hl : tkG l) : ¬ (ruS l 0).1 = 0 := by
  have e1 : clauS l 0 (0, 0, [], 0) = flS l 0 (0, 0, [], 0) := by
    unfold clauS
    rw [if_neg h]
  have e2 : ¬ (flS l 0 (0, 0, [], 0)).1 = 0 := flS_n0 (k := 0) hl (by omega)
  have e3 : goS l (flS l 0 (0, 0, [], 0)) = (0, flS l 0 (0, 0, [], 0)) := by
    unfold goS
    rw [if_neg e2]
  unfold ruS ruL
  rw [e1, e3, if_pos rfl]
  exact e2
theorem ru_ok {B : Nat → Int32} {ln : Nat} (hl : ln ≤ 400) (h : (ruS (toks B ln) 0).1 = 0) : (ruS (toks B ln) 0).2.2.1.length < 400 ∧ ∀ x ∈ (ruS (toks B ln) 0).2.2.1, gx x := by
  obtain ⟨h1, h2, h3⟩ := toks_ok (B := B) hl
  have g := gs_ru h1 h2
  refine ⟨?_, g.1⟩
  have g2 := g.2.2 h
  have g3 := g.2.1
  by_cases h16 : tT (toks B ln) 0 = 16
  · have := tkL_16 (B := B) ln 0 hl h16
    have : (toks B ln).length ≤ ln - 0 := this
    omega
  · exact absurd h (ru_0 h16 h1)
