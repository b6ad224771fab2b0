/-! Counting bits; what is lost stays lost -/
def cN (x : Int32) : Nat → Nat
  | 0 => 0
  | n + 1 => cN x n + if bt x n = true then 1 else 0
theorem cN_le (x : Int32) : ∀ n, cN x n ≤ n
  | 0 => Nat.le_refl _
  | n + 1 => by
    have := cN_le x n
    show cN x n + (if bt x n = true then 1 else 0) ≤ n + 1
    split <;> omega
theorem btF_c (x : Int32) : ∀ n, n ≤ 32 → btF x n = nI (cN x n)
  | 0, _ => rfl
  | n + 1, h => by
    rw [btF_s, btF_c x n (by omega)]
    show _ = nI (cN x n + (if bt x n = true then 1 else 0))
    by_cases c : bt x n = true
    · rw [if_pos c, if_neg ((bq_n0 (by omega)).mpr c), nI_inc]
    · rw [if_neg c, if_pos ((bq_0 (by omega)).mpr (Bool.eq_false_iff.mpr c)), Int32.add_zero]
      rfl
theorem cN_mono {x y : Int32} : ∀ n, (∀ i, i < n → bt x i = true → bt y i = true) → cN x n ≤ cN y n
  | 0, _ => Nat.le_refl _
  | n + 1, h => by
    have ih := cN_mono (x := x) (y := y) n (fun i hi => h i (by omega))
    show cN x n + (if bt x n = true then 1 else 0) ≤ cN y n + (if bt y n = true then 1 else 0)
    by_cases c : bt x n = true
    · rw [if_pos c, if_pos (h n (by omega) c)]; omega
    · rw [if_neg c]; omega
theorem cN_eq {x y : Int32} : ∀ n, (∀ i, i < n → bt x i = true → bt y i = true) → cN x n = cN y n → ∀ i, i < n → bt x i = bt y i
  | 0, _, _, i, hi => absurd hi (Nat.not_lt_zero i)
  | n + 1, h, e, i, hi => by
    have m := cN_mono (x := x) (y := y) n (fun i hi => h i (by omega))
    have e' : cN x n + (if bt x n = true then 1 else 0) = cN y n + (if bt y n = true then 1 else 0) := e
    have hn := h n (by omega)
    by_cases c : bt x n = true
    · rw [if_pos c, if_pos (hn c)] at e'
      by_cases g : i = n
      · rw [g, c, hn c]
      · exact cN_eq n (fun i hi => h i (by omega)) (by omega) i (by omega)
    · rw [if_neg c] at e'
      by_cases c2 : bt y n = true
      · rw [if_pos c2] at e'
        omega
      · rw [if_neg c2] at e'
        by_cases g : i = n
        · rw [g, Bool.eq_false_iff.mpr c, Bool.eq_false_iff.mpr c2]
        · exact cN_eq n (fun i hi => h i (by omega)) (by omega) i (by omega)
theorem edr_bt {o dy : Int32} {La W : Nat → Int32} : ∀ (d i : Nat) (ls lo : Int32), i + d ≤ 8 → ∀ b, b < 32 → (bt (edr o dy La W i d ls lo).1 b = true ↔ bt ls b = true ∨ (i ≤ b ∧ b < i + d ∧ ¬ bq o (nI b) = 0 ∧ ¬ dy < La b))
  | 0, i, ls, lo, _, b, _ => ⟨fun h => Or.inl h, fun h => h.elim id (fun g => by omega)⟩
  | d + 1, i, ls, lo, hi, b, hb => by
    rw [edr]
    by_cases c : bq o (nI i) = 0
    · rw [if_pos c, edr_bt d (i + 1) ls lo (by omega) b hb]
      constructor
      · rintro (h | ⟨h1, h2, h3⟩)
        · exact Or.inl h
        · exact Or.inr ⟨by omega, by omega, h3⟩
      · rintro (h | ⟨h1, h2, h3, h4⟩)
        · exact Or.inl h
        · refine Or.inr ⟨?_, by omega, h3, h4⟩
          have : ¬ b = i := fun g => h3 (g ▸ c)
          omega
    · rw [if_neg c]
      by_cases c2 : dy < La i
      · rw [if_pos c2, edr_bt d (i + 1) ls lo (by omega) b hb]
        constructor
        · rintro (h | ⟨h1, h2, h3⟩)
          · exact Or.inl h
          · exact Or.inr ⟨by omega, by omega, h3⟩
        · rintro (h | ⟨h1, h2, h3, h4⟩)
          · exact Or.inl h
          · refine Or.inr ⟨?_, by omega, h3, h4⟩
            have : ¬ b = i := fun g => h4 (g ▸ c2)
            omega
      · rw [if_neg c2, edr_bt d (i + 1) _ _ (by omega) b hb, b_or, bt_sh1 (by omega) hb]
        constructor
        · rintro (h | ⟨h1, h2, h3⟩)
          · rcases Bool.or_eq_true _ _ ▸ h with g | g
            · exact Or.inl g
            · have : b = i := of_decide_eq_true g
              subst this
              exact Or.inr ⟨Nat.le_refl _, by omega, c, c2⟩
          · exact Or.inr ⟨by omega, by omega, h3⟩
        · rintro (h | ⟨h1, h2, h3, h4⟩)
          · exact Or.inl (by rw [h, Bool.true_or])
          · by_cases g : b = i
            · exact Or.inl (by rw [decide_eq_true g, Bool.or_true])
            · exact Or.inr ⟨by omega, by omega, h3, h4⟩
/-- open: neither answered nor in a bundle nor lost -/
theorem op_clear {v : stV} (hN : rN (sR v) ≤ 8) {i : Nat} (hi : i < 32) (h : bt (opV v) i = true) : bt (nAn v) i = false ∧ bt (nBu v) i = false ∧ bt (nLs v) i = false := by
  have h1 : ¬ bq (opV v) (nI i) = 0 := (bq_n0 hi).mpr h
  have hiN : i < rN (sR v) := Nat.lt_of_not_le (fun g => h1 (opV_hi hN g hi))
  have h2 := (fc_0 hi).mp ((opV_bq hN hiN).mp h1).1
  have h3 := (bq_0 hi).mp h2
  rw [b_or, b_or, Bool.or_eq_false_iff, Bool.or_eq_false_iff] at h3
  exact ⟨h3.1.1, h3.1.2, h3.2⟩
def lsG (u v : stV) : Prop := (∀ i, i < 32 → bt (nLs v) i = true → bt (nLs u) i = true) ∧ (∀ i, i < 32 → rN (sR v) ≤ i → bt (nLs u) i = bt (nLs v) i)
theorem dj_end {v : stV} (hN : rN (sR v) ≤ 8) (h : djOK v) : djOK (endV v) ∧ lsG (endV v) v := by
  rw [endV_q]
  have e := fun (i : Nat) (hi : i < 32) => edr_bt (o := opV v) (dy := nDy v) (La := rLa (sR v)) (W := sW v) (rN (sR v)) 0 (nLs v) (nLo v) (by omega) i hi
  refine ⟨fun i hi hb => ?_, fun i hi hb => (e i hi).mpr (Or.inl hb), fun i hi hn => ?_⟩
  · rcases (e i hi).mp hb with g | ⟨g1, g2, g3, g4⟩
    · exact h i hi g
    · have := op_clear hN hi ((bq_n0 hi).mp g3)
      exact ⟨this.1, this.2.1⟩
  · apply Bool.eq_iff_iff.mpr
    rw [e i hi]
    exact ⟨fun g => g.elim id (fun q => by omega), Or.inl⟩
theorem dj_dec {v : stV} {q : Nat} (hN : rN (sR v) ≤ 8) (hq : q < 8) (ho : ¬ bq (opV v) (nI q) = 0) (h : djOK v) : djOK (decV (nI q) v) := by
  rw [decV_q hq]
  intro i hi hb
  have hb' : bt (nLs v) i = true := hb
  have h1 := h i hi hb'
  have hno : bt (opV v) i = false := by
    apply Bool.eq_false_iff.mpr
    intro g
    rw [(op_clear hN hi g).2.2] at hb'
    exact absurd hb' (by decide)
  have hiq : ¬ i = q := by
    intro g
    rw [g, (bq_n0 (by omega)).mp ho] at hno
    exact absurd hno (by decide)
  show bt (nAn v ||| (1 <<< (nI q &&& 31))) i = false ∧ bt (nBu v ||| (sA v q &&& opV v)) i = false
  rw [b_or, b_or, b_and, bt_sh1 (by omega) hi, h1.1, h1.2, hno, decide_eq_false hiq, Bool.and_false]
  exact ⟨rfl, rfl⟩
theorem pk_o {rl : rlA} {v : stV} (hN : rN (sR v) ≤ 8) (hl : laOK (sR v)) : pkV rl v = -1 ∨ ∃ q, q < rN (sR v) ∧ ¬ bq (opV v) (nI q) = 0 ∧ pkV rl v = nI q := by
  rw [pk_ma hN hl]
  exact maF_r (op := opV v) (sq := sqR rl v) (rN (sR v))
theorem lsG_t {u v z : stV} (hR : sR u = sR v) (h : lsG u v) (g : lsG z u) : lsG z v := ⟨fun i hi hb => g.1 i hi (h.1 i hi hb), fun i hi hn => (g.2 i hi (by rw [hR]; exact hn)).trans (h.2 i hi hn)⟩
theorem dj_dy {rl : rlA} {v : stV} (hN : rN (sR v) ≤ 8) (hl : laOK (sR v)) (h : djOK v) : djOK (dyV rl v).2 ∧ lsG (dyV rl v).2 v := by
  rw [dyV_q]
  by_cases c : wstV v = 0
  · rw [if_pos c]
    show djOK (gwV (pkV rl v) v) ∧ lsG (gwV (pkV rl v) v) v
    unfold gwV
    rw [if_pos c]
    rcases pk_o (rl := rl) hN hl with e | ⟨q, h1, h2, e⟩
    · rw [e]
      have d : djOK (decV (-1) v) := by rw [decV_n]; exact h
      have g := dj_end (v := decV (-1) v) hN d
      refine ⟨g.1, ?_⟩
      have g2 := g.2
      rw [decV_n] at g2 ⊢
      exact g2
    · rw [e]
      have d := dj_dec hN (show q < 8 by omega) h2 h
      have g := dj_end (v := decV (nI q) v) hN d
      refine ⟨g.1, ?_⟩
      have g2 := g.2
      rw [decV_q (show q < 8 by omega)] at g2 ⊢
      exact g2
  · rw [if_neg c]
    show djOK (gwV (-1) v) ∧ lsG (gwV (-1) v) v
    unfold gwV
    rw [if_neg c]
    exact dj_end (v := waV v) hN h
theorem dj_ds {rl : rlA} : ∀ (n : Nat) {v : stV}, rN (sR v) ≤ 8 → laOK (sR v) → djOK v → djOK (dsV rl n v) ∧ lsG (dsV rl n v) v
  | 0, v, _, _, h => ⟨h, fun _ _ g => g, fun _ _ _ => rfl⟩
  | n + 1, v, hN, hl, h => by
    obtain ⟨h1, h2⟩ := dj_dy (rl := rl) hN hl h
    obtain ⟨g1, g2⟩ := dj_ds (rl := rl) n (v := (dyV rl v).2) hN hl h1
    exact ⟨g1, lsG_t (u := (dyV rl v).2) rfl h2 g2⟩
