/-! Words as tokens, both ways -/
theorem tk_wd {y : Nat → Int32} {ln p w : Nat} (hw : w < 21) (e : (tkP y ln p).1.1 = nI w) : mtW y p (lE y (ln - p) p - p) w := by
  have cd : ¬ (p < ln ∧ isD (y p)) := by
    rintro ⟨c1, c2⟩
    unfold tkP tk1 at e
    rw [if_pos c1, if_pos c2] at e
    have := (nI_eqI (a := 258) (b := w) (by omega) (by omega)).mp e
    omega
  by_cases cl : p < ln ∧ isL (y p)
  · have ndd : ¬ isD (y p) := fun g => cd ⟨cl.1, g⟩
    have ek : tkP y ln p = ((wdF y p (lE y (ln - (p + 1)) (p + 1)), p, 0), lE y (ln - (p + 1)) (p + 1)) := by
      unfold tkP tk1
      rw [if_pos cl.1, if_neg ndd, if_pos cl.2]
    obtain ⟨d, hd⟩ : ∃ d, ln - p = d + 1 := ⟨ln - p - 1, by omega⟩
    have e1 : lE y (ln - p) p = lE y (ln - (p + 1)) (p + 1) := by
      rw [hd, lE, if_pos cl.2, show ln - (p + 1) = d by omega]
    have hW := wd_mt (y := y) (s := p) (e := lE y (ln - (p + 1)) (p + 1))
    generalize wdF y p (lE y (ln - (p + 1)) (p + 1)) = W at *
    rw [ek] at e
    have e' : W = nI w := e
    rw [e1]
    rcases hW with ⟨q, hq, h2, h3⟩ | ⟨-, h3⟩
    · have : q = w := (nI_eqI (by omega) (by omega)).mp (h3.symm.trans e')
      rw [← this]; exact h2
    · rw [h3] at e'
      have := (nI_eqI (a := 260) (b := w) (by omega) (by omega)).mp e'
      omega
  · exfalso
    by_cases cp : p < ln
    · have ndd : ¬ isD (y p) := fun g => cd ⟨cp, g⟩
      have nl : ¬ isL (y p) := fun g => cl ⟨cp, g⟩
      unfold tkP tk1 at e
      rw [if_pos cp, if_neg ndd, if_neg nl] at e
      by_cases c2 : (y p = 60 ∨ y p = 62) ∧ y (p + 1) = 61
      · rw [if_pos c2] at e
        have e' : (if y p = 60 then (256 : Int32) else 257) = nI w := e
        by_cases c3 : y p = 60
        · rw [if_pos c3] at e'
          have := (nI_eqI (a := 256) (b := w) (by omega) (by omega)).mp e'
          omega
        · rw [if_neg c3] at e'
          have := (nI_eqI (a := 257) (b := w) (by omega) (by omega)).mp e'
          omega
      · rw [if_neg c2] at e
        have e' : (if sgn (y p).toNatClampNeg = true then y p else 260) = nI w := e
        by_cases c3 : sgn (y p).toNatClampNeg = true
        · rw [if_pos c3] at e'
          rw [e', nI_clamp (by omega)] at c3
          have key : ∀ w : Fin 21, sgn w.val = false := by decide
          rw [key ⟨w, hw⟩] at c3
          exact absurd c3 (by decide)
        · rw [if_neg c3] at e'
          have := (nI_eqI (a := 260) (b := w) (by omega) (by omega)).mp e'
          omega
    · unfold tkP at e
      rw [if_neg cp] at e
      have := (nI_eqI (a := 259) (b := w) (by omega) (by omega)).mp e
      omega
section SIW
variable {l : List tok} {y : Nat → Int32} {ln : Nat} {K0 : List Int32} {E0 : enL} {s : psT} {c : rdT} {D : enL}
theorem sim_wi {w : Nat} (hw : w < 21) (h : simR l y ln K0 E0 s c D) (h0 : s.1 = 0) (hb : blE y ln ln s.2.1 = s.2.1) : tT l c.2.1 = nI w ↔ mtW y s.2.1 (lE y (ln - s.2.1) s.2.1 - s.2.1) w := by
  rw [(sim_tok h h0 hb).1]
  exact ⟨fun e => tk_wd hw e, fun e => ((word_tk h.2.1 hw).mp e).2.2.1⟩
/-- a word is passed -/
theorem sim_wd {w : Nat} (hw : w < 21) (h : simR l y ln K0 E0 s c D) (h0 : s.1 = 0) (hb : blE y ln ln s.2.1 = s.2.1) (hm : mtW y s.2.1 (lE y (ln - s.2.1) s.2.1 - s.2.1) w) : simR l y ln K0 E0 (s.1, s.2.1 + wlT.getD w 0, s.2.2) (stS l c) D ∧ s.2.1 + wlT.getD w 0 ≤ ln := by
  obtain ⟨h1, h2, h3⟩ := id h
  obtain ⟨w1, w2, w3, w4⟩ := (word_tk h2 hw).mp hm
  have hge : s.2.1 + wlT.getD w 0 ≤ ln := by
    obtain ⟨dd, hdd⟩ : ∃ d, ln - s.2.1 = d + 1 := ⟨ln - s.2.1 - 1, by omega⟩
    have := (lE_ge (y := y) (ln - s.2.1) s.2.1).2
    have hx1 := hm.1
    omega
  refine ⟨⟨h1, hge, fun _ => ?_⟩, hge⟩
  obtain ⟨q1, q2, q3, q4, q5⟩ := h3 h0
  obtain ⟨r1, r2, r3, r4, r5, r6⟩ := pos_hd' q1
  rw [hb] at r6
  have p1 := r6 w1 (by rw [w4]; exact hge)
  rw [w4] at p1
  refine ⟨?_, q2, q3, q4, q5⟩
  show posR y ln l (s.2.1 + wlT.getD w 0) (stpF l c.2.1)
  rw [stp_1 (pos_lt p1)]
  exact p1
end SIW
