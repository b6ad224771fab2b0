/-! What holds between calls: of the whole -/
theorem ok_C {C C1 : Nat} {u : iV} (hC : C ≤ C1) (h : okI C u) : okI C1 u := by
  obtain ⟨h1, h2, h3, h4, h5, h6⟩ := h
  refine ⟨h1, h2, h3, h4, h5, ?_⟩
  rcases h6 with g | ⟨s, g1, g2⟩
  · exact Or.inl g
  · exact Or.inr ⟨s, by omega, g2⟩
theorem ok_wI {w : oV} {u : iV} (h : okW w) (hu : okI (oC w) u) : okW (wI w u) := ⟨h.1, h.2.1, hu, h.2.2.2⟩
theorem ok_act {w : oV} {f : stV → stV} (h : okW w) (hf : okS (f (oS w))) (hR : sR (f (oS w)) = sR (oS w)) : okW (actW f w) := by
  refine ok_wI h ?_
  obtain ⟨h1, h2, h3, h4, h5, h6⟩ := h.2.2.1
  have h1' : okS (oS w) := h1
  refine ⟨hf, ?_, h3, fun i hi => ?_, h5, h6⟩
  · show puN (iPn (oI w)) ≤ 20
    unfold puN
    split <;> omega
  · have hi' : i < puN (iPn (oI w)) := hi
    show okS (puL (iPn (oI w)) (iPl (oI w)) (oS w) i) ∧ sR (puL (iPn (oI w)) (iPl (oI w)) (oS w) i) = sR (f (oS w))
    rw [hR]
    unfold puL
    unfold puN at hi'
    by_cases c : iPn (oI w) < 20
    · rw [if_pos c] at hi' ⊢
      show okS (if i = iPn (oI w) then oS w else iPl (oI w) i) ∧ sR (if i = iPn (oI w) then oS w else iPl (oI w) i) = sR (oS w)
      by_cases e : i = iPn (oI w)
      · rw [if_pos e]
        exact ⟨h1', rfl⟩
      · rw [if_neg e]
        exact h4 i (by omega)
    · rw [if_neg c] at hi' ⊢
      show okS (if i = 19 then oS w else iPl (oI w) (i + 1)) ∧ sR (if i = 19 then oS w else iPl (oI w) (i + 1)) = sR (oS w)
      by_cases e : i = 19
      · rw [if_pos e]
        exact ⟨h1', rfl⟩
      · rw [if_neg e]
        exact h4 (i + 1) (by omega)
theorem qn_nat {w : oV} {q : Int32} (h : okW w) (hq : isQn w q) : ∃ n, n < rN (sR (oS w)) ∧ n < 8 ∧ q = nI n ∧ q.toNatClampNeg = n := by
  have hN := okS_N (okW_s h)
  obtain ⟨h1, h2⟩ := hq
  have hle : q ≤ nI (rN (sR (oS w))) := Int32.le_of_lt h2
  obtain ⟨n, hn, e1, e2⟩ := nat_le (by omega) (Int32.not_lt.mpr h1) hle
  have : n < rN (sR (oS w)) := by
    apply Nat.lt_of_le_of_ne hn
    intro g
    rw [e1, g] at h2
    exact Int32.lt_irrefl h2
  exact ⟨n, this, by omega, e1, e2⟩
theorem kW_day {w : oV} (h : okW w) : okW (aDay w).2 := by
  unfold aDay
  split
  · exact h
  · split
    · rename_i hd
      exact ok_act h (ok_dy (okW_s h) hd) rfl
    · exact h
theorem kW_use {q : Int32} {w : oV} (h : okW w) : okW (aUse q w).2 := by
  unfold aUse
  split
  · exact h
  · rename_i hk
    split
    · rename_i ho
      obtain ⟨n, hn, h8, e1, e2⟩ := qn_nat h ho.1
      obtain ⟨k, hk9, ek⟩ := okS_kp (okW_s h)
      have hk0 : ¬ k = 0 := fun g => hk (by rw [ek, g]; decide)
      obtain ⟨k', ek'⟩ : ∃ k', k = k' + 1 := ⟨k - 1, by omega⟩
      have e3 : nKp (oS w) - 1 = nI k' := by rw [ek, ek', nI_dec]
      have hs : okS (decV q (setKp (nKp (oS w) - 1) (oS w))) := by
        rw [e1, e3]
        have ho' : ¬ bq (opV (setKp (nI k') (oS w))) (nI n) = 0 := by
          have := ho.2
          rw [e1] at this
          exact this
        exact ok_dec h8 ho' (ok_kp (by omega) (okW_s h))
      exact ok_act h hs (by rw [e1, decV_q h8]; rfl)
    · exact h
theorem kW_egg {w : oV} (h : okW w) : okW (aEgg w).2 := by
  unfold aEgg
  split
  · exact h
  · split
    · exact ok_act h (ok_eg (okW_s h)) rfl
    · exact h
theorem kW_tie {x y : Int32} {w : oV} (h : okW w) : okW (aTie x y w).2 := by
  unfold aTie
  split
  · rename_i hx
    split
    · rename_i hy
      split
      · exact h
      · rename_i hxy
        obtain ⟨a, ha, ha8, e1, e2⟩ := qn_nat h hx
        obtain ⟨b, hb, hb8, e3, e4⟩ := qn_nat h hy
        have hab : ¬ x.toNatClampNeg = y.toNatClampNeg := fun g => hxy (by rw [e1, e3, ← e2, ← e4, g])
        exact ok_act h (ok_tie (by omega) (by omega) hab (okW_s h)) rfl
    · exact h
  · exact h
theorem kW_grow {q m : Int32} {w : oV} (h : okW w) : okW (aGrow q m w).2 := by
  unfold aGrow
  split
  · rename_i hq
    split
    · rename_i hf
      split
      · exact h
      · rename_i hm
        split
        · rename_i hm2
          obtain ⟨a, ha, ha8, e1, e2⟩ := qn_nat h hq
          have hm0 : ¬ m < 0 := fun g => hm (Int32.lt_of_lt_of_le g (by decide))
          obtain ⟨b, hb, eb, -⟩ := nat_le (m := 99) (by omega) hm0 hm2
          have hls : bt (nLs (oS w)) q.toNatClampNeg = false := by
            rw [e2]
            rw [e1] at hf
            have g : fc (nAn (oS w)) (nBu (oS w)) (nLs (oS w)) (nI a) = 0 := hf
            rw [fc_bt (by omega)] at g
            apply Bool.eq_false_iff.mpr
            intro hb
            by_cases c1 : bt (nAn (oS w)) a = true
            · rw [if_pos c1] at g
              exact absurd g (by decide)
            · rw [if_neg c1] at g
              by_cases c2 : bt (nBu (oS w)) a = true
              · rw [if_pos c2] at g
                exact absurd g (by decide)
              · rw [if_neg c2, if_pos hb] at g
                exact absurd g (by decide)
          have := ok_gr (v := oS w) (q := q.toNatClampNeg) (by omega) hb hls (okW_s h)
          rw [← eb] at this
          exact ok_act h this rfl
        · exact h
    · exact h
  · exact h
theorem kW_undo {w : oV} (h : okW w) : okW (aUndo w).2 := by
  unfold aUndo
  split
  · exact h
  · rename_i n hn
    obtain ⟨h1, h2, h3, h4, h5, h6⟩ := h.2.2.1
    have hn' : iPn (oI w) = n + 1 := hn
    obtain ⟨g1, g2⟩ := h4 n (by omega)
    refine ok_wI h ⟨g1, by show n ≤ 20; omega, h3, fun i hi => ?_, h5, h6⟩
    have hi' : i < n := hi
    obtain ⟨k1, k2⟩ := h4 i (by omega)
    exact ⟨k1, k2.trans g2.symm⟩
theorem kW_note {n q : Int32} {w : oV} (h : okW w) : okW (aNote n q w).2 := by
  obtain ⟨h1, h2, h3, h4, h5, h6⟩ := h.2.2.1
  unfold aNote
  split
  · exact ok_wI h ⟨h1, h2, Nat.zero_le _, h4, fun j hj => absurd hj (Nat.not_lt_zero _), h6⟩
  · split
    · rename_i hc
      obtain ⟨-, -, ⟨c1, c2⟩, c3⟩ := hc
      have c3' : iNt (oI w) < 10 := c3
      obtain ⟨d, hd, ed, -⟩ := nat_le (m := 60) (by omega) (Int32.not_lt.mpr c1) c2
      refine ok_wI h ⟨h1, h2, by show iNt (oI w) + 1 ≤ 10; omega, h4, fun j hj => ?_, h6⟩
      show ∃ d, d ≤ 60 ∧ upd (iD (oI w)) (iNt (oI w)) n j = nI d
      have hj' : j < iNt (oI w) + 1 := hj
      by_cases e : j = iNt (oI w)
      · exact ⟨d, hd, by rw [e, upd_s, ed]⟩
      · rw [upd_n e]
        exact h5 j (by omega)
    · exact h
theorem kW_seed {x : Int32} {w : oV} (h : okW w) : okW (aSeed x w).2 := by
  unfold aSeed
  split
  · exact ok_wI h h.2.2.1
  · exact h
theorem kW_force {q : Int32} {w : oV} (h : okW w) : okW (aForce q w).2 := by
  obtain ⟨h1, h2, h3, h4, h5, h6⟩ := h.2.2.1
  unfold aForce
  split
  · rename_i hq
    refine ok_wI h ⟨h1, h2, h3, h4, h5, ?_⟩
    show q = -1 ∨ ∃ s, s < oC w ∧ q = nI s
    by_cases c : q < 0
    · refine Or.inl (Int32.le_antisymm ?_ hq.1)
      have e1 := Int32.lt_iff_toInt_lt.mp c
      have e0 : (0 : Int32).toInt = 0 := by decide
      have em : (-1 : Int32).toInt = -1 := by decide
      exact Int32.le_iff_toInt_le.mpr (by omega)
    · have hC := h.2.1
      obtain ⟨n, hn, e1, -⟩ := nat_le (m := oC w) (by omega) c (Int32.le_of_lt hq.2)
      refine Or.inr ⟨n, ?_, e1⟩
      apply Nat.lt_of_le_of_ne hn
      intro g
      have := hq.2
      rw [e1, g] at this
      exact Int32.lt_irrefl this
  · exact h
theorem kW_image {q : Int32} {w : oV} (h : okW w) : okW (aImage q w).2 := by
  unfold aImage
  split
  · refine ⟨h.1, h.2.1, h.2.2.1, fun k u hk hu => ?_⟩
    have hu' : (if k = q.toNatClampNeg then some (oI w) else oG w k) = some u := hu
    by_cases e : k = q.toNatClampNeg
    · rw [if_pos e] at hu'
      rw [← Option.some.inj hu']
      exact h.2.2.1
    · rw [if_neg e] at hu'
      exact h.2.2.2 k u hk hu'
  · exact h
theorem kW_back {q : Int32} {w : oV} (h : okW w) : okW (aBack q w).2 := by
  unfold aBack
  split
  · rename_i hq
    obtain ⟨n, hn, e1, e2⟩ := nat_le (m := 3) (by omega) (Int32.not_lt.mpr hq.1) hq.2
    split
    · exact h
    · rename_i u hu
      exact ok_wI h (h.2.2.2 _ u (by omega) hu)
  · exact h
theorem kW_end {n : Int32} {w : oV} (h : okW w) : okW (aEnd n w).2 := by
  have hl := h.1
  unfold aEnd
  split
  · exact h
  · rename_i h0
    split
    · rename_i h1
      obtain ⟨m, hm, e1, e2⟩ := nat_le (m := oL w) (by omega) h0 h1
      exact ⟨by show n.toNatClampNeg ≤ 400; omega, h.2⟩
    · exact h
theorem kW_feed {a b c d e : Int32} {w : oV} (h : okW w) : okW (aFeed a b c d e w).2 := by
  unfold aFeed
  split
  · rename_i hc
    exact ⟨hc, h.2⟩
  · exact h
theorem kW_rule {w : oV} (h : okW w) : okW (aRule w).2 := by
  unfold aRule
  split
  · rename_i hc
    split
    · exact ⟨Nat.zero_le _, by show oC w + 1 ≤ 6; omega, ok_C (by show oC w ≤ oC w + 1; omega) h.2.2.1, fun k u hk hu => ok_C (by show oC w ≤ oC w + 1; omega) (h.2.2.2 k u hk hu)⟩
    · exact ⟨Nat.zero_le _, h.2⟩
  · exact h
theorem kW_realm {w : oV} (h : okW w) : okW (aRealm w).2 := by
  obtain ⟨tok1, -, -⟩ := toks_ok (B := oB w) h.1
  have hre : (rmS (toks (oB w) (oL w)) 0).1.1 = 0 → reOK (rmS (toks (oB w) (oL w)) 0).2 := fun g => re_rm tok1 41 0 _ re_Z rfl g
  unfold aRealm
  generalize rmS (toks (oB w) (oL w)) 0 = F at *
  split
  · rename_i hf
    obtain ⟨h1, h2, h3, h4, h5, h6⟩ := h.2.2.1
    have hr : reOK (rmT F) := hre hf
    have hb : rTo (rmT F) = 0 ∨ rTo (rmT F) = 1 := Or.inr (if_pos hf)
    exact ⟨Nat.zero_le _, h.2.1, ⟨ok_beg hb hr, Nat.zero_le _, Nat.zero_le _, fun i hi => absurd hi (Nat.not_lt_zero _), fun i hi => absurd hi (Nat.not_lt_zero _), h6⟩, h.2.2.2⟩
  · exact ⟨Nat.zero_le _, h.2⟩
theorem kW_Z : okW wZ := ⟨Nat.zero_le _, Nat.zero_le _, ⟨ok_stZ, Nat.zero_le _, Nat.zero_le _, fun i hi => absurd hi (Nat.not_lt_zero _), fun i hi => absurd hi (Nat.not_lt_zero _), Or.inl rfl⟩, fun k u _ hu => absurd hu (by show ¬ (none : Option iV) = some u; simp)⟩
