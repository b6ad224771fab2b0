/-! What is gained never falls; what is lost is bounded -/
def tOK (v : stV) : Prop := rN (sR v) ≤ 8 ∧ wOK v ∧ (∃ h, h ≤ 9 ∧ rHa (sR v) = nI h) ∧ gaOK v ∧ ∃ l, l ≤ 99999 ∧ nLo v = nI l
theorem br_nat {W : Nat → Int32} {ha bun w0 : Int32} {h w : Nat} (hh : h ≤ 9) (eh : ha = nI h) (hw : w ≤ 999) (ew : w0 = nI w) (hW : ∀ i, i < 8 → ∃ x, x ≤ 999 ∧ W i = nI x) : ∀ n, n ≤ 8 → ∃ x, x ≤ 999 + 900 * n ∧ br W ha bun w0 n = nI x
  | 0, _ => ⟨w, by omega, ew⟩
  | n + 1, hn => by
    obtain ⟨x, hx, ex⟩ := br_nat (bun := bun) hh eh hw ew hW n (by omega)
    rw [br]
    by_cases c : bq bun (nI n) = 0
    · rw [if_pos c]; exact ⟨x, by omega, ex⟩
    · rw [if_neg c]
      obtain ⟨y, hy, ey⟩ := hW n (by omega)
      have hyh : y * h ≤ 8991 := Nat.mul_le_mul hy hh
      have e : W n * ha / 10 = nI (y * h / 10) := by
        rw [ey, eh]
        show Int32.ofNat y * Int32.ofNat h / nI 10 = _
        rw [← Int32.ofNat_mul]
        exact pk_div (by omega) (by omega) (by omega)
      rw [ex, e, nI_add]
      exact ⟨_, by omega, rfl⟩
theorem brV_nat {v : stV} (h : tOK v) {q : Nat} (hq : q < 8) : ∃ x, x ≤ 8199 ∧ brV q v = nI x := by
  obtain ⟨hN, hW, ⟨a, ha, ea⟩, -, -⟩ := h
  obtain ⟨y, hy, ey⟩ := hW q hq
  exact br_nat ha ea hy ey hW 8 (by omega)
theorem min_nat {a b : Nat} (ha : a < 2 ^ 31) (hb : b < 2 ^ 31) : i_min (nI a) (nI b) = nI (min a b) := by
  unfold i_min
  by_cases c : b < a
  · rw [if_pos ((nI_ltI hb ha).mpr c), Nat.min_eq_right (by omega)]
  · rw [if_neg (fun g => c ((nI_ltI hb ha).mp g)), Nat.min_eq_left (by omega)]
theorem edr_nat {o dy : Int32} {La W : Nat → Int32} (hW : ∀ i, i < 8 → ∃ x, x ≤ 999 ∧ W i = nI x) : ∀ (d i : Nat) (ls lo : Int32), i + d ≤ 8 → (∃ l, l ≤ 99999 ∧ lo = nI l) → ∃ l, l ≤ 99999 ∧ (edr o dy La W i d ls lo).2 = nI l
  | 0, _, _, _, _, h => h
  | d + 1, i, ls, lo, hi, h => by
    rw [edr]
    split
    · exact edr_nat hW d (i + 1) ls lo (by omega) h
    · split
      · exact edr_nat hW d (i + 1) ls lo (by omega) h
      · refine edr_nat hW d (i + 1) _ _ (by omega) ?_
        obtain ⟨l, hl, el⟩ := h
        obtain ⟨x, hx, ex⟩ := hW i (by omega)
        refine ⟨min 99999 (l + x), by omega, ?_⟩
        rw [el, ex, nI_add]
        exact min_nat (a := 99999) (by omega) (by omega)
/-- at least as much is gained in u -/
def gGe (u v : stV) : Prop := ∃ a b, a ≤ b ∧ b ≤ 99999 ∧ nGa v = nI a ∧ nGa u = nI b
theorem gGe_r {v : stV} (h : gaOK v) : gGe v v := by
  obtain ⟨g, h1, h2⟩ := h
  exact ⟨g, g, Nat.le_refl _, h1, h2, h2⟩
theorem gGe_t {u v z : stV} (h : gGe u v) (g : gGe z u) : gGe z v := by
  obtain ⟨a, b, h1, h2, h3, h4⟩ := h
  obtain ⟨c, d, g1, g2, g3, g4⟩ := g
  refine ⟨a, d, ?_, g2, h3, g4⟩
  have e1 : (nI b).toNatClampNeg = b := nI_clamp (by omega)
  have e2 : (nI c).toNatClampNeg = c := nI_clamp (by omega)
  rw [← h4, g3, e2] at e1
  omega
theorem tOK_end {v : stV} (h : tOK v) : tOK (endV v) ∧ nGa (endV v) = nGa v := by
  obtain ⟨hN, hW, hh, hg, hl⟩ := h
  rw [endV_q]
  exact ⟨⟨hN, hW, hh, hg, edr_nat hW _ _ _ _ (by omega) hl⟩, rfl⟩
theorem tOK_dec {v : stV} {q : Nat} (hq : q < 8) (h : tOK v) : tOK (decV (nI q) v) ∧ gGe (decV (nI q) v) v := by
  obtain ⟨x, hx, ex⟩ := brV_nat h hq
  obtain ⟨hN, hW, hh, ⟨g, hg, eg⟩, hl⟩ := h
  rw [decV_q hq]
  have e : i_min 99999 (nGa v + brV q v) = nI (min 99999 (g + x)) := by
    rw [ex, eg, nI_add]
    exact min_nat (a := 99999) (by omega) (by omega)
  refine ⟨⟨hN, hW, hh, ⟨min 99999 (g + x), by omega, e⟩, hl⟩, ⟨g, min 99999 (g + x), by omega, by omega, eg, e⟩⟩
theorem tOK_gw {v : stV} {q : Int32} (hq : q = -1 ∨ ∃ q', q' < rN (sR v) ∧ q = nI q') (h : tOK v) : tOK (gwV q v) ∧ gGe (gwV q v) v := by
  unfold gwV
  split
  · rcases hq with rfl | ⟨q', h1, rfl⟩
    · have hd : tOK (decV (-1) v) := by rw [decV_n]; exact h
      obtain ⟨e1, e2⟩ := tOK_end hd
      refine ⟨e1, ?_⟩
      obtain ⟨g, hg, eg⟩ := h.2.2.2.1
      refine ⟨g, g, Nat.le_refl _, hg, eg, ?_⟩
      rw [e2, decV_n]
      exact eg
    · have h8 : q' < 8 := by have := h.1; omega
      obtain ⟨d1, d2⟩ := tOK_dec h8 h
      obtain ⟨e1, e2⟩ := tOK_end d1
      refine ⟨e1, ?_⟩
      obtain ⟨a, b, r1, r2, r3, r4⟩ := d2
      exact ⟨a, b, r1, r2, r3, e2.trans r4⟩
  · have hd : tOK (waV v) := h
    obtain ⟨e1, e2⟩ := tOK_end hd
    refine ⟨e1, ?_⟩
    obtain ⟨g, hg, eg⟩ := h.2.2.2.1
    exact ⟨g, g, Nat.le_refl _, hg, eg, e2.trans eg⟩
theorem dy1_r {rl : rlA} {v : stV} (hN : rN (sR v) ≤ 8) (hl : laOK (sR v)) : (dyV rl v).1 = -1 ∨ ∃ q', q' < rN (sR v) ∧ (dyV rl v).1 = nI q' := by
  rw [dyV_q]
  split
  · exact pk_r hN hl
  · exact Or.inl rfl
theorem tOK_dy {rl : rlA} {v : stV} (hl : laOK (sR v)) (h : tOK v) : tOK (dyV rl v).2 ∧ gGe (dyV rl v).2 v := by
  rw [dyV_gw]
  exact tOK_gw (dy1_r h.1 hl) h
theorem tOK_ds {rl : rlA} : ∀ (n : Nat) {v : stV}, laOK (sR v) → tOK v → tOK (dsV rl n v) ∧ gGe (dsV rl n v) v
  | 0, _, _, h => ⟨h, gGe_r h.2.2.2.1⟩
  | n + 1, v, hl, h => by
    obtain ⟨h1, h2⟩ := tOK_dy (rl := rl) hl h
    obtain ⟨g1, g2⟩ := tOK_ds (rl := rl) n (v := (dyV rl v).2) hl h1
    exact ⟨g1, gGe_t h2 g2⟩
theorem tOK_eg {v : stV} (h : tOK v) : tOK (setEg 1 v) := h
/-- a balance as an integer -/
theorem bal_int {v : stV} (h : tOK v) : -99999 ≤ (balV v).toInt ∧ (balV v).toInt ≤ 99999 := by
  obtain ⟨-, -, -, ⟨g, hg, eg⟩, ⟨l, hl, el⟩⟩ := h
  have e : balV v = nI g - nI l := by
    show nGa v - nLo v = _
    rw [eg, el]
  rw [e, pk_sub_toInt (by omega) (by omega)]
  omega
theorem sub_int {x y : Int32} (hx : -99999 ≤ x.toInt ∧ x.toInt ≤ 99999) (hy : -99999 ≤ y.toInt ∧ y.toInt ≤ 99999) : (x - y).toInt = x.toInt - y.toInt := by
  rw [Int32.toInt_sub]
  exact Int.bmod_eq_of_le (by omega) (by omega)
theorem sub_lt {x y z : Int32} (hx : -99999 ≤ x.toInt ∧ x.toInt ≤ 99999) (hy : -99999 ≤ y.toInt ∧ y.toInt ≤ 99999) (hz : -99999 ≤ z.toInt ∧ z.toInt ≤ 99999) : x - z < y - z ↔ x < y := by
  rw [Int32.lt_iff_toInt_lt, Int32.lt_iff_toInt_lt, sub_int hx hz, sub_int hy hz]
  omega
/-- no balance falls by 100000 -/
theorem bal_fall {u v : stV} (hv : tOK v) (hu : tOK u) (h : gGe u v) : (-100000 : Int32) < balV u - balV v := by
  obtain ⟨a, b, h1, h2, h3, h4⟩ := h
  obtain ⟨-, -, -, -, ⟨l, hl, el⟩⟩ := hv
  obtain ⟨-, -, -, -, ⟨m, hm, em⟩⟩ := hu
  have e1 : balV u = nI b - nI m := by
    show nGa u - nLo u = _
    rw [h4, em]
  have e2 : balV v = nI a - nI l := by
    show nGa v - nLo v = _
    rw [h3, el]
  rw [Int32.lt_iff_toInt_lt, e1, e2, Int32.toInt_sub, pk_sub_toInt (by omega) (by omega), pk_sub_toInt (by omega) (by omega), show (-100000 : Int32).toInt = -100000 by decide, Int.bmod_eq_of_le (by omega) (by omega)]
  omega
theorem loS_le {ls : Int32} {W : Nat → Int32} (hW : ∀ i, i < 8 → ∃ x, x ≤ 999 ∧ W i = nI x) : ∀ n, n ≤ 8 → loS ls W n ≤ 999 * n
  | 0, _ => Nat.le_refl _
  | n + 1, hn => by
    have ih := loS_le (ls := ls) hW n (by omega)
    obtain ⟨x, hx, ex⟩ := hW n (by omega)
    have e : (W n).toNatClampNeg = x := by rw [ex]; exact nI_clamp (by omega)
    show loS ls W n + (if bt ls n = true then (W n).toNatClampNeg else 0) ≤ 999 * (n + 1)
    rw [e]
    split <;> omega
theorem okS_t {v : stV} (h : okS v) : tOK v := by
  have hN := okS_N h
  have := loS_le (ls := nLs v) (okS_w h) (rN (sR v)) hN
  exact ⟨hN, okS_w h, (okS_r h).2.2.2.1, okS_ga h, ⟨_, by omega, okS_lo h⟩⟩
