/-! Which rules could have been: counting -/
theorem fiV_bt {w : oV} : ∀ (d i : Nat) (f : Int32), i + d ≤ 31 → ∀ b, b < 32 → (bt (fiV w d i f) b = true ↔ bt f b = true ∨ (i ≤ b ∧ b < i + d ∧ asV w b = true))
  | 0, i, f, _, b, _ => ⟨Or.inl, fun h => h.elim id (fun g => by omega)⟩
  | d + 1, i, f, hi, b, hb => by
    rw [fiV, fiV_bt d (i + 1) _ (by omega) b hb]
    by_cases c : asV w i = true
    · rw [if_pos c, b_or, bt_sh1 (by omega) hb, Bool.or_eq_true, decide_eq_true_iff]
      constructor
      · rintro ((h | h) | ⟨h1, h2, h3⟩)
        · exact Or.inl h
        · exact Or.inr ⟨by omega, by omega, by rw [h]; exact c⟩
        · exact Or.inr ⟨by omega, by omega, h3⟩
      · rintro (h | ⟨h1, h2, h3⟩)
        · exact Or.inl (Or.inl h)
        · by_cases e : b = i
          · exact Or.inl (Or.inr e)
          · exact Or.inr ⟨by omega, by omega, h3⟩
    · rw [if_neg c]
      constructor
      · rintro (h | ⟨h1, h2, h3⟩)
        · exact Or.inl h
        · exact Or.inr ⟨by omega, by omega, h3⟩
      · rintro (h | ⟨h1, h2, h3⟩)
        · exact Or.inl h
        · refine Or.inr ⟨?_, by omega, h3⟩
          have : ¬ b = i := fun e => c (e ▸ h3)
          omega
theorem fit_bt {w : oV} (hC : oC w ≤ 6) {b : Nat} (hb : b < 32) : bt (fitV w) b = true ↔ b < oC w + 1 ∧ asV w b = true := by
  have := fiV_bt (w := w) (oC w + 1) 0 0 (by omega) b hb
  rw [b_0] at this
  refine this.trans ⟨fun h => h.elim (fun q => absurd q (by decide)) (fun q => ⟨by omega, q.2.2⟩), fun h => Or.inr ⟨by omega, by omega, h.2⟩⟩
theorem fit_low {w : oV} (hC : oC w ≤ 6) : ∀ i, 8 ≤ i → i < 32 → bt (fitV w) i = false := fun i h1 h2 => Bool.eq_false_iff.mpr (fun g => by have := ((fit_bt hC h2).mp g).1; omega)
/-- how many below i could have been -/
def mN (w : oV) : Nat → Nat
  | 0 => 0
  | i + 1 => mN w i + if asV w i = true then 1 else 0
theorem mN_le (w : oV) : ∀ i, mN w i ≤ i
  | 0 => Nat.le_refl _
  | i + 1 => by
    have := mN_le w i
    show mN w i + (if asV w i = true then 1 else 0) ≤ i + 1
    split <;> omega
theorem mN_mono (w : oV) : ∀ i j, i ≤ j → mN w i ≤ mN w j := by
  intro i j h
  induction j with
  | zero => have : i = 0 := by omega
            rw [this]
            exact Nat.le_refl _
  | succ j ih =>
    by_cases e : i = j + 1
    · rw [e]; exact Nat.le_refl _
    · have := ih (by omega)
      show mN w i ≤ mN w j + (if asV w j = true then 1 else 0)
      omega
theorem fit_c {w : oV} (hC : oC w ≤ 6) : ∀ i, i ≤ oC w + 1 → cN (fitV w) i = mN w i
  | 0, _ => rfl
  | i + 1, hi => by
    show cN (fitV w) i + (if bt (fitV w) i = true then 1 else 0) = mN w i + (if asV w i = true then 1 else 0)
    rw [fit_c hC i (by omega)]
    by_cases c : asV w i = true
    · rw [if_pos c, if_pos ((fit_bt hC (by omega)).mpr ⟨by omega, c⟩)]
    · rw [if_neg c, if_neg (fun g => c ((fit_bt hC (by omega)).mp g).2)]
theorem fit_bc {w : oV} (hC : oC w ≤ 6) : bcF (fitV w) = nI (mN w (oC w + 1)) := by
  rw [(bc_c (fit_low hC)).1, ← fit_c hC _ (Nat.le_refl _)]
  congr 1
  have : ∀ m, oC w + 1 + m ≤ 16 → cN (fitV w) (oC w + 1 + m) = cN (fitV w) (oC w + 1) := by
    intro m
    induction m with
    | zero => exact fun _ => rfl
    | succ m ih =>
      intro hm
      show cN (fitV w) (oC w + 1 + m) + (if bt (fitV w) (oC w + 1 + m) = true then 1 else 0) = _
      rw [if_neg (fun g => by have := ((fit_bt hC (by omega)).mp g).1; omega)]
      exact ih (by omega)
  have h := this (16 - (oC w + 1)) (by omega)
  rw [show oC w + 1 + (16 - (oC w + 1)) = 16 by omega] at h
  exact h
/-- the first that could have been -/
def frS (w : oV) : Nat → Int32
  | 0 => -2
  | i + 1 => if asV w i = true then (if mN w i = 0 then nI i - 1 else frS w i) else frS w i
theorem ruF_fr {w : oV} (hC : oC w ≤ 6) : ∀ (d i : Nat), i + d = oC w + 1 → mN w i = 0 → ruF (fitV w) d i = frS w (oC w + 1) := by
  have fr0 : ∀ i, mN w i = 0 → frS w i = -2 := by
    intro i
    induction i with
    | zero => exact fun _ => rfl
    | succ i ih =>
      intro h
      have h' : mN w i + (if asV w i = true then 1 else 0) = 0 := h
      by_cases c : asV w i = true
      · rw [if_pos c] at h'; omega
      · show (if asV w i = true then _ else frS w i) = -2
        rw [if_neg c]
        exact ih (by omega)
  have frk : ∀ i j, mN w i = 0 → asV w i = true → i < j → frS w j = nI i - 1 := by
    intro i j h0 h1 hij
    induction j with
    | zero => omega
    | succ j ih =>
      show (if asV w j = true then (if mN w j = 0 then nI j - 1 else frS w j) else frS w j) = nI i - 1
      by_cases e : j = i
      · rw [e, if_pos h1, if_pos h0]
      · have hj := ih (by omega)
        by_cases c : asV w j = true
        · rw [if_pos c, if_neg, hj]
          have h2 := mN_mono w (i + 1) j (by omega)
          have h3 : mN w (i + 1) = mN w i + (if asV w i = true then 1 else 0) := rfl
          rw [if_pos h1] at h3
          omega
        · rw [if_neg c, hj]
  intro d
  induction d with
  | zero =>
    intro i hi h0
    have : i = oC w + 1 := by omega
    rw [← this, fr0 i h0]
    rfl
  | succ d ih =>
    intro i hi h0
    rw [ruF]
    by_cases c : asV w i = true
    · rw [if_neg ((bq_n0 (by omega)).mpr ((fit_bt hC (by omega)).mpr ⟨by omega, c⟩)), frk i _ h0 c (by omega)]
    · rw [if_pos ((bq_0 (by omega)).mpr (Bool.eq_false_iff.mpr (fun g => c ((fit_bt hC (by omega)).mp g).2)))]
      refine ih (i + 1) (by omega) ?_
      show mN w i + (if asV w i = true then 1 else 0) = 0
      rw [if_neg c, h0]
theorem fit_0 {w : oV} (hC : oC w ≤ 6) : fitV w = 0 ↔ mN w (oC w + 1) = 0 := by
  rw [← fit_c hC _ (Nat.le_refl _)]
  constructor
  · intro h
    rw [h]
    have : ∀ n, cN 0 n = 0 := by
      intro n
      induction n with
      | zero => rfl
      | succ n ih =>
        show cN 0 n + (if bt 0 n = true then 1 else 0) = 0
        rw [ih, b_0, if_neg (by decide)]
    exact this _
  · intro h
    apply b_ext
    intro i hi
    rw [b_0]
    by_cases c : i < oC w + 1
    · apply Bool.eq_false_iff.mpr
      intro g
      have := cN_pos _ i c g
      omega
    · exact Bool.eq_false_iff.mpr (fun g => c ((fit_bt hC hi).mp g).1)
/-- how many of those are like x; the most -/
def ccS (w : oV) (c : Nat → Int32) (x : Int32) : Nat → Nat
  | 0 => 0
  | j + 1 => ccS w c x j + if asV w j = true ∧ c j = x then 1 else 0
def mmS (w : oV) (c : Nat → Int32) : Nat → Nat
  | 0 => 0
  | j + 1 => if asV w j = true then max (mmS w c j) (ccS w c (c j) (oC w + 1)) else mmS w c j
theorem ccS_le (w : oV) (c : Nat → Int32) (x : Int32) : ∀ j, ccS w c x j ≤ j
  | 0 => Nat.le_refl _
  | j + 1 => by
    have := ccS_le w c x j
    show ccS w c x j + (if asV w j = true ∧ c j = x then 1 else 0) ≤ j + 1
    split <;> omega
theorem mmS_le (w : oV) (c : Nat → Int32) : ∀ j, mmS w c j ≤ oC w + 1
  | 0 => by show 0 ≤ _; omega
  | j + 1 => by
    have h1 := mmS_le w c j
    have h2 := ccS_le w c (c j) (oC w + 1)
    show (if asV w j = true then max (mmS w c j) (ccS w c (c j) (oC w + 1)) else mmS w c j) ≤ oC w + 1
    split <;> omega
theorem bits_and {f : Int32} {i j : Nat} (hi : i < 32) (hj : j < 32) : ((f >>> (nI i &&& 31)) &&& (f >>> (nI j &&& 31))) &&& 1 = 0 ↔ ¬ (bt f i = true ∧ bt f j = true) := by
  have e : ((f >>> (nI i &&& 31)) &&& (f >>> (nI j &&& 31))) &&& 1 = (if bt f i = true ∧ bt f j = true then 1 else 0) := by
    have h1 := bq_bt f hi
    have h2 := bq_bt f hj
    have h3 : ((f >>> (nI i &&& 31)) &&& (f >>> (nI j &&& 31))) &&& 1 = ((f >>> (nI i &&& 31)) &&& 1) &&& ((f >>> (nI j &&& 31)) &&& 1) := by
      apply b_ext
      intro k hk
      rw [b_and, b_and, b_and, b_and, b_and]
      cases bt (f >>> (nI i &&& 31)) k <;> cases bt (f >>> (nI j &&& 31)) k <;> cases bt 1 k <;> rfl
    rw [h3, h1, h2]
    by_cases c1 : bt f i = true
    · by_cases c2 : bt f j = true
      · rw [if_pos c1, if_pos c2, if_pos ⟨c1, c2⟩]; decide
      · rw [if_pos c1, if_neg c2, if_neg (fun g => c2 g.2)]; decide
    · by_cases c2 : bt f j = true
      · rw [if_neg c1, if_pos c2, if_neg (fun g => c1 g.1)]; decide
      · rw [if_neg c1, if_neg c2, if_neg (fun g => c1 g.1)]; decide
  rw [e]
  by_cases c : bt f i = true ∧ bt f j = true
  · rw [if_pos c]; exact ⟨fun g => absurd g (by decide), fun g => absurd c g⟩
  · rw [if_neg c]; exact ⟨fun _ => c, fun _ => rfl⟩
theorem maI_c {w : oV} (hC : oC w ≤ 6) {c : Nat → Int32} {i : Nat} (hi : i < oC w + 1) (ha : asV w i = true) : ∀ (d j : Nat) (a : Nat), j + d = oC w + 1 → a ≤ j → maI (fitV w) c i d j (nI a) = nI (a + (ccS w c (c i) (oC w + 1) - ccS w c (c i) j)) ∧ ccS w c (c i) j ≤ ccS w c (c i) (oC w + 1)
  | 0, j, a, hj, _ => by
    have : j = oC w + 1 := by omega
    subst this
    refine ⟨?_, Nat.le_refl _⟩
    show nI a = _
    rw [Nat.sub_self, Nat.add_zero]
  | d + 1, j, a, hj, haj => by
    have hcs : ccS w c (c i) (j + 1) = ccS w c (c i) j + if asV w j = true ∧ c j = c i then 1 else 0 := rfl
    rw [maI]
    have hbi : bt (fitV w) i = true := (fit_bt hC (by omega)).mpr ⟨hi, ha⟩
    by_cases cj : asV w j = true
    · have hbj : bt (fitV w) j = true := (fit_bt hC (by omega)).mpr ⟨by omega, cj⟩
      rw [if_neg (fun g => (bits_and (by omega) (by omega)).mp g ⟨hbi, hbj⟩)]
      by_cases ce : c i = c j
      · rw [if_pos ce]
        rw [if_pos ⟨cj, ce.symm⟩] at hcs
        obtain ⟨h1, h2⟩ := maI_c hC (c := c) hi ha d (j + 1) (a + 1) (by omega) (by omega)
        rw [show nI a + 1 = nI (a + 1) from nI_inc a, h1]
        exact ⟨congrArg nI (by omega), by omega⟩
      · rw [if_neg ce]
        rw [if_neg (fun g => ce g.2.symm)] at hcs
        obtain ⟨h1, h2⟩ := maI_c hC (c := c) hi ha d (j + 1) a (by omega) (by omega)
        rw [h1]
        exact ⟨congrArg nI (by omega), by omega⟩
    · have hbj : ¬ bt (fitV w) j = true := fun g => cj ((fit_bt hC (by omega)).mp g).2
      rw [if_pos ((bits_and (by omega) (by omega)).mpr (fun g => hbj g.2))]
      rw [if_neg (fun g => cj g.1)] at hcs
      obtain ⟨h1, h2⟩ := maI_c hC (c := c) hi ha d (j + 1) a (by omega) (by omega)
      rw [h1]
      exact ⟨congrArg nI (by omega), by omega⟩
theorem maI_z {w : oV} (hC : oC w ≤ 6) {c : Nat → Int32} {i : Nat} (hi : i < oC w + 1) (ha : ¬ asV w i = true) : ∀ (d j : Nat) (a : Int32), j + d = oC w + 1 → maI (fitV w) c i d j a = a
  | 0, _, _, _ => rfl
  | d + 1, j, a, hj => by
    rw [maI, if_pos ((bits_and (by omega) (by omega)).mpr (fun g => ha ((fit_bt hC (by omega)).mp g.1).2))]
    exact maI_z hC hi ha d (j + 1) a (by omega)
theorem max_nat {a b : Nat} (ha : a < 2 ^ 31) (hb : b < 2 ^ 31) : i_max (nI a) (nI b) = nI (max a b) := by
  unfold i_max
  by_cases c : a < b
  · rw [if_pos ((nI_ltI ha hb).mpr c), Nat.max_eq_right (by omega)]
  · rw [if_neg (fun g => c ((nI_ltI ha hb).mp g)), Nat.max_eq_left (by omega)]
theorem maO_m {w : oV} (hC : oC w ≤ 6) {c : Nat → Int32} : ∀ (d i : Nat), i + d = oC w + 1 → maO (fitV w) c (oC w + 1) d i (nI (mmS w c i)) = nI (mmS w c (oC w + 1))
  | 0, i, hi => by
    have : i = oC w + 1 := by omega
    rw [this]
    rfl
  | d + 1, i, hi => by
    have h1 := mmS_le w c i
    rw [maO]
    have e : i_max (nI (mmS w c i)) (maI (fitV w) c i (oC w + 1) 0 0) = nI (mmS w c (i + 1)) := by
      by_cases ca : asV w i = true
      · have h2 := (maI_c hC (c := c) (i := i) (by omega) ca (oC w + 1) 0 0 (by omega) (Nat.le_refl _)).1
        have h3 := ccS_le w c (c i) (oC w + 1)
        rw [show (0 : Int32) = nI 0 from rfl, h2, max_nat (by omega) (by omega)]
        show nI (max (mmS w c i) (0 + (ccS w c (c i) (oC w + 1) - 0))) = nI (if asV w i = true then max (mmS w c i) (ccS w c (c i) (oC w + 1)) else mmS w c i)
        rw [if_pos ca, Nat.zero_add, Nat.sub_zero]
      · rw [maI_z hC (by omega) ca _ _ _ (by omega), show (0 : Int32) = nI 0 from rfl, max_nat (by omega) (by omega)]
        show nI (max (mmS w c i) 0) = nI (if asV w i = true then max (mmS w c i) (ccS w c (c i) (oC w + 1)) else mmS w c i)
        rw [if_neg ca, Nat.max_eq_left (Nat.zero_le _)]
    rw [e]
    exact maO_m hC d (i + 1) (by omega)
theorem moV_m {w : oV} (hC : oC w ≤ 6) (d : Nat) : moV w (fitV w) d = nI (mmS w (fun i => csV w i d) (oC w + 1)) := maO_m hC (oC w + 1) 0 (by omega)
/-- the same by the row of those that could have been -/
def csR (a : Nat → Int32) (x : Int32) : Nat → Nat
  | 0 => 0
  | k + 1 => csR a x k + if a k = x then 1 else 0
def mxR (a : Nat → Int32) (n : Nat) : Nat → Nat
  | 0 => 0
  | i + 1 => if mxR a n i < csR a (a i) n then csR a (a i) n else mxR a n i
theorem csR_c {w : oV} {a c : Nat → Int32} {x : Int32} {m : Nat} (h : ∀ i, i < m → asV w i = true → a (mN w i) = c i) : ∀ i, i ≤ m → csR a x (mN w i) = ccS w c x i
  | 0, _ => rfl
  | i + 1, hi => by
    have ih := csR_c (x := x) h i (by omega)
    show csR a x (mN w i + (if asV w i = true then 1 else 0)) = ccS w c x i + (if asV w i = true ∧ c i = x then 1 else 0)
    by_cases ca : asV w i = true
    · rw [if_pos ca]
      show csR a x (mN w i) + (if a (mN w i) = x then 1 else 0) = _
      rw [ih, h i (by omega) ca]
      by_cases cx : c i = x
      · rw [if_pos cx, if_pos ⟨ca, cx⟩]
      · rw [if_neg cx, if_neg (fun g => cx g.2)]
    · rw [if_neg ca, if_neg (fun g => ca g.1), Nat.add_zero, Nat.add_zero, ih]
theorem mxR_m {w : oV} {a c : Nat → Int32} (h : ∀ i, i < oC w + 1 → asV w i = true → a (mN w i) = c i) : ∀ i, i ≤ oC w + 1 → mxR a (mN w (oC w + 1)) (mN w i) = mmS w c i
  | 0, _ => rfl
  | i + 1, hi => by
    have ih := mxR_m h i (by omega)
    show mxR a (mN w (oC w + 1)) (mN w i + (if asV w i = true then 1 else 0)) = (if asV w i = true then max (mmS w c i) (ccS w c (c i) (oC w + 1)) else mmS w c i)
    by_cases ca : asV w i = true
    · rw [if_pos ca, if_pos ca]
      show (if mxR a (mN w (oC w + 1)) (mN w i) < csR a (a (mN w i)) (mN w (oC w + 1)) then csR a (a (mN w i)) (mN w (oC w + 1)) else mxR a (mN w (oC w + 1)) (mN w i)) = _
      rw [ih, h i (by omega) ca, csR_c h _ (Nat.le_refl _)]
      split <;> omega
    · rw [if_neg ca, if_neg ca]
      exact ih
