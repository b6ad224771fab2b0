/-! A realm read: what holds of it -/
section REO
variable {l : List tok} {t : Int32 × Nat} {v : rV}
theorem nu_0 {lo hi bn : Int32} (h : (nuP l lo hi bn t).2.1 = 0) : t.1 = 0 := by
  by_cases c : t.1 = 0
  · exact c
  · rw [nuP_f c] at h
    exact h
theorem nu_lh (hl : tkG l) {a m : Nat} (ha : a < 1000) (hm : m < 1000) (h : (nuP l (nI a) (nI m) (-1) t).2.1 = 0) : ∃ b, b ≤ m ∧ (nuP l (nI a) (nI m) (-1) t).1 = nI b := by
  unfold nuP at h ⊢
  by_cases t0 : t.1 = 0
  · rw [if_pos t0] at h ⊢
    by_cases t2 : tT l t.2 = 258
    · rw [if_pos t2] at h ⊢
      by_cases c : tV l t.2 < nI a ∨ nI m < tV l t.2 ∨ tV l t.2 = -1
      · rw [if_pos c] at h
        exact absurd h (fq_n0 hl (q := 1) (by omega))
      · rw [if_neg c]
        have c0 : (0 : Int32) ≤ nI a := nI_pos' (by omega)
        have c1 : ¬ tV l t.2 < 0 := fun g => c (Or.inl (Int32.lt_of_lt_of_le g c0))
        have c2 : tV l t.2 ≤ nI m := Int32.not_lt.mp (fun g => c (Or.inr (Or.inl g)))
        obtain ⟨b, hb, eb, -⟩ := nat_le hm c1 c2
        exact ⟨b, hb, eb⟩
    · rw [if_neg t2] at h
      exact absurd h (fq_n0 hl (q := 0) (by omega))
  · rw [if_neg t0] at h
    exact absurd h t0
theorem nz_upd {f : Nat → Int32} {i : Nat} {x : Int32} (hi : i < 8) (h : nz8 f) : nz8 (upd f i x) := nz8_upd h hi x
theorem re_Z : reOK rvZ := ⟨Nat.zero_le _, fun q hq => absurd hq (Nat.not_lt_zero _), ⟨0, by omega, rfl⟩, ⟨0, by omega, rfl⟩, fun _ _ => rfl, fun _ _ => rfl, fun _ _ => ⟨0, by omega, rfl⟩, fun i j _ _ => (b_0 j).trans (b_0 i).symm⟩
theorem re_rk (hl : tkG l) (h : reOK v) (h0 : (rkS l (t, v)).1.1 = 0) : reOK (rkS l (t, v)).2 := by
  obtain ⟨h1, h2, -, -, h5⟩ := h
  have e2 : (nuP l 0 9 (-1) (nuP l 0 9 (-1) t).2).2.1 = 0 := h0
  have e1 : (nuP l 0 9 (-1) t).2.1 = 0 := nu_0 e2
  exact ⟨h1, h2, nu_hi (m := 9) hl (by omega) e1, nu_hi (m := 9) hl (by omega) e2, h5⟩
theorem re_rq (hl : tkG l) (h8 : rN v < 8) (h : reOK v) (h0 : (rqS l (t, v)).1.1 = 0) : reOK (rqS l (t, v)).2 := by
  obtain ⟨h1, h2, h3, h4, h5, h6, h7, h8'⟩ := h
  obtain ⟨t1, et1⟩ : ∃ b, b = nuP l 0 99 (-1) t := ⟨_, rfl⟩
  obtain ⟨t2, et2⟩ : ∃ b, b = nuP l 0 60 (-1) t1.2 := ⟨_, rfl⟩
  have hsc : rqS l (t, v) = ((nuP l t2.1 60 (-1) t2.2).2, (rTo v, rKe v, rHa v, rN v + 1, rWk v, upd (rW v) (rN v) t1.1, upd (rFr v) (rN v) t2.1, upd (rLa v) (rN v) (nuP l t2.1 60 (-1) t2.2).1, rA v)) := by rw [et2, et1]; rfl
  rw [hsc] at h0 ⊢
  have e3 : (nuP l t2.1 60 (-1) t2.2).2.1 = 0 := h0
  have e2 : t2.2.1 = 0 := nu_0 e3
  rw [et2] at e2
  have e1 : t1.2.1 = 0 := nu_0 e2
  rw [et1] at e1
  obtain ⟨a, ha, ea⟩ := nu_hi (m := 99) hl (by omega) e1
  obtain ⟨b, hb, eb⟩ := nu_hi (m := 60) hl (by omega) e2
  have ea' : t1.1 = nI a := by rw [et1]; exact ea
  have eb' : t2.1 = nI b := by rw [et2]; exact eb
  rw [eb'] at e3
  obtain ⟨d, hd, ed⟩ := nu_lh (m := 60) hl (a := b) (by omega) (by omega) e3
  have ed' : (nuP l t2.1 60 (-1) t2.2).1 = nI d := by rw [eb']; exact ed
  rw [ea', ed']
  refine ⟨by show rN v + 1 ≤ 8; omega, fun q hq => ?_, h3, h4, nz_upd h8 h5, h6, fun i hi => ?_, h8'⟩
  · show ∃ l, l ≤ 60 ∧ upd (rLa v) (rN v) (nI d) q = nI l
    have hq' : q < rN v + 1 := hq
    by_cases e : q = rN v
    · exact ⟨d, hd, by rw [e, upd_s]⟩
    · rw [upd_n e]
      exact h2 q (by omega)
  · show ∃ x, x ≤ 999 ∧ upd (rW v) (rN v) (nI a) i = nI x
    by_cases e : i = rN v
    · exact ⟨a, by omega, by rw [e, upd_s]⟩
    · rw [upd_n e]
      exact h7 i hi
theorem ti_bt {A : Nat → Int32} {a b i j : Nat} (ha : a < 8) (hb : b < 8) (hj : j < 8) : bt (tiA A (nI a) (nI b) i) j = (bt (A i) j || (decide (i = a) && decide (j = b)) || (decide (i = b) && decide (j = a))) := by
  have i1 : (nI a).toNatClampNeg = a := nI_clamp (by omega)
  have j1 : (nI b).toNatClampNeg = b := nI_clamp (by omega)
  show bt (upd (upd A (nI a).toNatClampNeg (A (nI a).toNatClampNeg ||| (1 <<< (nI b &&& 31)))) (nI b).toNatClampNeg (upd A (nI a).toNatClampNeg (A (nI a).toNatClampNeg ||| (1 <<< (nI b &&& 31))) (nI b).toNatClampNeg ||| (1 <<< (nI a &&& 31))) i) j = _
  rw [i1, j1]
  by_cases e1 : i = b
  · rw [e1, upd_s, b_or, bt_sh1 (by omega) (by omega), decide_eq_true (show b = b from rfl)]
    by_cases e2 : b = a
    · rw [e2, upd_s, b_or, bt_sh1 (by omega) (by omega), decide_eq_true (show a = a from rfl)]
      simp
    · rw [upd_n e2, decide_eq_false e2]
      simp
  · rw [upd_n e1, decide_eq_false e1]
    by_cases e2 : i = a
    · rw [e2, upd_s, b_or, bt_sh1 (by omega) (by omega), decide_eq_true (show a = a from rfl)]
      simp
    · rw [upd_n e2, decide_eq_false e2]
      simp
theorem re_ra (hl : tkG l) (h : reOK v) (h0 : (raS l (t, v)).1.1 = 0) : reOK (raS l (t, v)).2 := by
  obtain ⟨h1, h2, h3, h4, h5, h6, h7, h8⟩ := h
  obtain ⟨t1, et1⟩ : ∃ b, b = nuP l 0 (nI (rN v) - 1) (-1) t := ⟨_, rfl⟩
  have hsc : (raS l (t, v)).1 = (nuP l 0 (nI (rN v) - 1) t1.1 t1.2).2 := by rw [et1]; exact raS_1
  rw [hsc] at h0
  have e1 : t1.2.1 = 0 := nu_0 h0
  obtain ⟨a, ha, ea⟩ := nu_rg (t := t) hl h1 (by rw [← et1]; exact e1)
  have en : nuP l 0 (nI (rN v) - 1) t1.1 t1.2 = nuP l 0 (nI (rN v) - 1) (-1) t1.2 := by
    refine nu_ne (fun g1 g2 => ?_)
    have := nu_eq hl e1 g1 g2
    rw [this] at h0
    exact absurd h0 (fq_n0 hl (q := 1) (by omega))
  obtain ⟨b, hb, eb⟩ := nu_rg (t := t1.2) hl h1 (by rw [← en]; exact h0)
  have hsc2 : (raS l (t, v)).2 = (rTo v, rKe v, rHa v, rN v, rWk v, rW v, rFr v, rLa v, tiA (rA v) (nI a) (nI b)) := by
    refine raS_2 h1 ha hb ea ?_ ?_
    · show (nuP l 0 (nI (rN v) - 1) (nuP l 0 (nI (rN v) - 1) (-1) t).1 (nuP l 0 (nI (rN v) - 1) (-1) t).2).1 = nI b
      rw [← et1, en]
      exact eb
    · show (nuP l 0 (nI (rN v) - 1) (nuP l 0 (nI (rN v) - 1) (-1) t).1 (nuP l 0 (nI (rN v) - 1) (-1) t).2).2.1 = 0
      rw [← et1]
      exact h0
  rw [hsc2]
  have i1 : (nI a).toNatClampNeg = a := nI_clamp (by omega)
  have j1 : (nI b).toNatClampNeg = b := nI_clamp (by omega)
  refine ⟨h1, h2, h3, h4, h5, ?_, h7, fun i j hi hj => ?_⟩
  · show nz8 (upd (upd (rA v) (nI a).toNatClampNeg _) (nI b).toNatClampNeg _)
    rw [i1, j1]
    exact nz_upd (by omega) (nz_upd (by omega) h6)
  · show bt (tiA (rA v) (nI a) (nI b) i) j = bt (tiA (rA v) (nI a) (nI b) j) i
    rw [ti_bt (by omega) (by omega) hj, ti_bt (by omega) (by omega) hi, h8 i j hi hj]
    cases bt (rA v j) i <;> by_cases c1 : i = a <;> by_cases c2 : j = b <;> by_cases c3 : i = b <;> by_cases c4 : j = a <;> simp [c1, c2, c3, c4]
theorem re_rc (hl : tkG l) {c : Nat} (h : reOK v) (h0 : (rcS l c (t, v)).1.1 = 0) (t0 : t.1 = 0) : reOK (rcS l c (t, v)).2 := by
  have fl : ∀ q, q < 8 → ¬ (flP l (nI q) t).1 = 0 := fun q hq => by
    show ¬ (if t.1 = 0 then fF l t.2 (nI q) else t.1) = 0
    rw [if_pos t0]
    exact fq_n0 hl hq
  have e : rcS l c (t, v) = (if tT l t.2 = 0 ∨ tT l t.2 = 13 ∨ tT l t.2 = 14 ∨ tT l t.2 = 15 then (if rBad (tT l t.2) c (rN v) then (flP l 4 t, v) else rsw l (tT l t.2) (stP1 l t, v)) else (flP l 0 t, v)) := rfl
  rw [e] at h0 ⊢
  by_cases c1 : tT l t.2 = 0 ∨ tT l t.2 = 13 ∨ tT l t.2 = 14 ∨ tT l t.2 = 15
  · rw [if_pos c1] at h0 ⊢
    by_cases c2 : rBad (tT l t.2) c (rN v)
    · rw [if_pos c2] at h0
      exact absurd h0 (fl 4 (by omega))
    · rw [if_neg c2] at h0 ⊢
      unfold rsw at h0 ⊢
      by_cases d0 : tT l t.2 = 0
      · rw [if_pos d0] at h0 ⊢
        have h8 : rN v < 8 := Classical.not_not.mp (fun g => c2 (Or.inr (Or.inr ⟨d0, g⟩)))
        exact re_rq hl h8 h h0
      · rw [if_neg d0] at h0 ⊢
        by_cases d1 : tT l t.2 = 13
        · rw [if_pos d1] at h0 ⊢
          exact re_rk hl h h0
        · rw [if_neg d1] at h0 ⊢
          by_cases d2 : tT l t.2 = 14
          · rw [if_pos d2] at h0 ⊢
            exact re_ra hl h h0
          · rw [if_neg d2] at h0 ⊢
            exact h
  · rw [if_neg c1] at h0
    exact absurd h0 (fl 0 (by omega))
theorem goP_0 (h : (goP l t).2.1 = 0) : t.1 = 0 := by
  by_cases c : t.1 = 0
  · exact c
  · have e : goP l t = (0, t) := if_neg c
    rw [e] at h
    exact h
theorem goP_1 (h : ¬ (goP l t).1 = 0) : (goP l t).2.1 = 0 := by
  unfold goP at h ⊢
  by_cases c : t.1 = 0
  · rw [if_pos c] at h ⊢
    by_cases c1 : tT l t.2 = 259
    · rw [if_pos c1] at h
      exact absurd rfl h
    · rw [if_neg c1] at h ⊢
      by_cases c2 : tT l t.2 = 59
      · rw [if_pos c2] at h ⊢
        exact c
      · rw [if_neg c2] at h
        exact absurd rfl h
  · rw [if_neg c] at h
    exact absurd rfl h
theorem re_rm (hl : tkG l) : ∀ (d c : Nat) (s : rz), reOK s.2 → s.1.1 = 0 → (rmL l d c s).1.1 = 0 → reOK (rmL l d c s).2
  | 0, c, s, h, _, _ => h
  | d + 1, c, s, h, s0, h0 => by
    rw [rmL] at h0 ⊢
    by_cases g : (goP l (rcS l c s).1).1 = 0
    · rw [if_pos g] at h0 ⊢
      exact re_rc (t := s.1) (v := s.2) hl h (goP_0 h0) s0
    · rw [if_neg g] at h0 ⊢
      have g2 := goP_1 g
      exact re_rm hl d (c + 1) _ (re_rc (t := s.1) (v := s.2) hl h (goP_0 g2) s0) g2 h0
end REO
/-! A realm's faults are above 0 -/
def fr (t : Int32 × Nat) : Prop := t.1 = 0 ∨ 0 < t.1
section FPR
variable {l : List tok}
theorem fF_gt (hl : tkG l) {i q : Nat} (hq : q < 8) : 0 < fF l i (nI q) := by
  have h4 := hl.2.2.2 i
  show 0 < 1 + 8 * nI (tS l i) + nI q
  generalize tS l i = p at *
  have e : 1 + 8 * nI p + nI q = nI (1 + 8 * p + q) := by
    show Int32.ofNat 1 + Int32.ofNat 8 * Int32.ofNat p + Int32.ofNat q = Int32.ofNat (1 + 8 * p + q)
    rw [← Int32.ofNat_mul, ← Int32.ofNat_add, ← Int32.ofNat_add]
  rw [e]
  exact nI_gt0 (by omega) (by omega)
theorem fr_nu (hl : tkG l) {lo hi bn : Int32} {t : Int32 × Nat} (h : fr t) : fr (nuP l lo hi bn t).2 := by
  unfold nuP
  split
  · split
    · split
      · exact Or.inr (fF_gt hl (q := 1) (by omega))
      · exact Or.inl rfl
    · exact Or.inr (fF_gt hl (q := 0) (by omega))
  · exact h
theorem fr_fl (hl : tkG l) {q : Nat} (hq : q < 8) {t : Int32 × Nat} (h : fr t) : fr (flP l (nI q) t) := by
  show (if t.1 = 0 then fF l t.2 (nI q) else t.1) = 0 ∨ 0 < (if t.1 = 0 then fF l t.2 (nI q) else t.1)
  split
  · exact Or.inr (fF_gt hl hq)
  · exact h
theorem fr_rc (hl : tkG l) {c : Nat} {s : rz} (h : fr s.1) : fr (rcS l c s).1 := by
  have hs : fr (stP1 l s.1) := h
  unfold rcS
  split
  · split
    · exact fr_fl hl (q := 4) (by omega) h
    · unfold rsw
      split
      · exact fr_nu hl (fr_nu hl (fr_nu hl hs))
      · split
        · exact fr_nu hl (fr_nu hl hs)
        · split
          · rw [raS_1]
            exact fr_nu hl (fr_nu hl hs)
          · exact fr_nu hl hs
  · exact fr_fl hl (q := 0) (by omega) h
theorem fr_go (hl : tkG l) {t : Int32 × Nat} (h : fr t) : fr (goP l t).2 := by
  unfold goP
  split
  · split
    · exact h
    · split
      · exact h
      · exact fr_fl hl (q := 0) (by omega) h
  · exact h
theorem fr_rm (hl : tkG l) : ∀ (d c : Nat) (s : rz), fr s.1 → fr (rmL l d c s).1
  | 0, c, s, h => h
  | d + 1, c, s, h => by
    rw [rmL]
    have h1 := fr_rc hl (c := c) h
    generalize rcS l c s = b at *
    have h2 := fr_go hl h1
    split
    · exact h2
    · exact fr_rm hl d (c + 1) _ h2
end FPR
