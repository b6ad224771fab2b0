/-! The class's faults are above 0 -/
def fp (c : rdT) : Prop := c.1 = 0 ∨ 0 < c.1
theorem nI_gt0 {n : Nat} (h : 0 < n) (h2 : n < 100000) : 0 < nI n := nI_lt (a := 0) (by omega) (by omega)
section FPO
variable {l : List tok}
theorem fp_fl (hl : tkG l) {kd : Int32} {q : Nat} (hk : kd = nI q) (hq : q < 8) {c : rdT} (h : fp c) : fp (flS l kd c) := by
  show (if c.1 = 0 then 1 + 8 * nI (tS l c.2.1) + kd else c.1) = 0 ∨ 0 < (if c.1 = 0 then 1 + 8 * nI (tS l c.2.1) + kd else c.1)
  by_cases c0 : c.1 = 0
  · rw [if_pos c0]
    have h4 := hl.2.2.2 c.2.1
    generalize tS l c.2.1 = p at *
    have e : 1 + 8 * nI p + kd = nI (1 + 8 * p + q) := by
      rw [hk]
      show Int32.ofNat 1 + Int32.ofNat 8 * Int32.ofNat p + Int32.ofNat q = Int32.ofNat (1 + 8 * p + q)
      rw [← Int32.ofNat_mul, ← Int32.ofNat_add, ← Int32.ofNat_add]
    rw [e]
    exact Or.inr (nI_gt0 (by omega) (by omega))
  · rw [if_neg c0]
    exact h
theorem fp_val (hl : tkG l) {c : rdT} (h : fp c) : fp (valS l c) := by
  have vt : ∀ x, fp (vtS l x c) := fun x => by
    unfold vtS
    split
    · exact h
    · exact fp_fl hl (q := 3) rfl (by omega) h
  unfold valS
  split
  · split
    · split
      · exact fp_fl hl (q := 1) rfl (by omega) h
      · exact vt _
    · split
      · exact vt _
      · exact fp_fl hl (q := 0) rfl (by omega) h
  · exact h
theorem fp_sumL (hl : tkG l) : ∀ (d : Nat) (c : rdT) (w : Int32), fp c → fp (sumL l d c w).1
  | 0, c, w, h => h
  | d + 1, c, w, h => by
    rw [sumL]
    split
    · split
      · refine fp_sumL hl d _ _ (fp_val hl ?_)
        have g : ∀ b : rdT, b.1 = c.1 → fp (stS l b) := fun b e => by
          show b.1 = 0 ∨ 0 < b.1
          rw [e]
          exact h
        exact g _ (by split <;> rfl)
      · split
        · have h1 : fp (valS l (stS l c)) := fp_val hl h
          generalize valS l (stS l c) = b at *
          exact fp_sumL hl d _ _ h1
        · exact h
    · exact h
theorem fp_sum (hl : tkG l) {c : rdT} (h : fp c) : fp (sumS l c) := by
  unfold sumS
  have := fp_sumL hl 400 (valS l c) 0 (fp_val hl h)
  generalize sumL l 400 (valS l c) 0 = b at *
  unfold sumE
  split
  · exact this
  · exact this
theorem fp_sgn (hl : tkG l) {c : rdT} (h : fp c) : fp (sgnS l c) := by
  have g : ∀ b : rdT, fp b → fp (stS l (cnS b)) := fun b hb => hb
  unfold sgnS
  refine g _ ?_
  split
  · split
    · exact h
    · exact fp_fl hl (q := 3) rfl (by omega) h
  · exact fp_fl hl (q := 0) rfl (by omega) h
theorem fp_cmp (hl : tkG l) {c : rdT} (h : fp c) : fp (cmpS l c) := by
  unfold cmpS
  have h1 := fp_sum hl (fp_sgn hl (fp_sum hl h))
  generalize sumS l (sgnS l (sumS l c)) = b at *
  generalize tk (tT l (sumS l c).2.1) = x
  exact h1
theorem fp_tstL {F : rdT → rdT} (hF : ∀ c, fp c → fp (F c)) : ∀ (d : Nat) (c : rdT) (w : Int32), fp c → fp (tstL l F d c w).1
  | 0, c, w, h => h
  | d + 1, c, w, h => by
    rw [tstL]
    split
    · split
      · have h1 := hF (stS l c) h
        generalize F (stS l c) = b at *
        exact fp_tstL hF d _ _ h1
      · split
        · refine fp_tstL hF d _ _ (hF _ ?_)
          have g : ∀ b : rdT, b.1 = c.1 → fp (stS l b) := fun b e => by
            show b.1 = 0 ∨ 0 < b.1
            rw [e]
            exact h
          exact g _ (by split <;> rfl)
        · exact h
    · exact h
theorem fp_tst {F : rdT → rdT} (hF : ∀ c, fp c → fp (F c)) {c : rdT} (h : fp c) : fp (tstS l F c) := by
  unfold tstS
  have := fp_tstL (l := l) hF 400 (F c) 0 (hF c h)
  generalize tstL l F 400 (F c) 0 = b at *
  have e := (tstE_at b).2
  unfold fp
  rw [e]
  exact this
theorem fp_cls (hl : tkG l) {c : rdT} (h : fp c) : fp (clsS l c) := by
  have g : ∀ b : rdT, fp b → fp (stS l b) := fun b hb => hb
  unfold clsS
  refine g _ ?_
  split
  · exact h
  · exact fp_fl hl (q := 0) rfl (by omega) h
theorem fp_fct (hl : tkG l) : ∀ (e : Nat) (c : rdT), fp c → fp (fctS l e c)
  | 0, c, h => by
    rw [fctS]
    split
    · split
      · exact fp_fl hl (q := 2) rfl (by omega) h
      · exact fp_cmp hl h
    · exact h
  | e + 1, c, h => by
    rw [fctS]
    split
    · split
      · have h1 := fp_fct hl e (stS l c) h
        generalize fctS l e (stS l c) = b at *
        exact h1
      · split
        · have h1 := fp_tst (l := l) (fp_fct hl e) (c := stS l c) h
          generalize tstS l (fctS l e) (stS l c) = b at *
          exact fp_cls hl h1
        · exact fp_cmp hl h
    · exact h
theorem fp_clau (hl : tkG l) {j : Nat} {c : rdT} (h : fp c) : fp (clauS l j c) := by
  unfold clauS
  split
  · split
    · have h1 : fp (sumS l (stS l c)) := fp_sum hl h
      generalize sumS l (stS l c) = b at *
      split
      · have h2 := fp_tst (l := l) (fp_fct hl 10) (c := stS l b) h1
        generalize tstS l (fctS l 10) (stS l b) = d at *
        exact h2
      · exact h1
    · exact fp_fl hl (q := 4) rfl (by omega) h
  · exact fp_fl hl (q := 0) rfl (by omega) h
theorem fp_go (hl : tkG l) {c : rdT} (h : fp c) : fp (goS l c).2 := by
  unfold goS
  split
  · split
    · exact h
    · split
      · exact h
      · exact fp_fl hl (q := 0) rfl (by omega) h
  · exact h
theorem fp_ru (hl : tkG l) : ∀ (d j : Nat) (c : rdT), fp c → fp (ruL l d j c)
  | 0, j, c, h => h
  | d + 1, j, c, h => by
    rw [ruL]
    have h1 := fp_clau hl (j := j) h
    generalize clauS l j c = b at *
    have h2 := fp_go hl h1
    split
    · exact h2
    · exact fp_ru hl d (j + 1) _ h2
end FPO
/-- a thirteenth clause is a fault -/
theorem cla_12 {l : List tok} (hl : tkG l) {c : rdT} (h : c.1 = 0) : ¬ (clauS l 12 c).1 = 0 := by
  have key : ∀ q, q < 8 → ¬ (flS l (nI q) c).1 = 0 := fun q hq => by
    show ¬ (if c.1 = 0 then 1 + 8 * nI (tS l c.2.1) + nI q else c.1) = 0
    rw [if_pos h]
    have h4 := hl.2.2.2 c.2.1
    exact fa_n0 (by omega) hq
  unfold clauS
  rw [if_neg (show ¬ 12 < 12 by omega)]
  split
  · exact key 4 (by omega)
  · exact key 0 (by omega)
