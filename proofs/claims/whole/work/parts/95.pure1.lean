/-! When all are settled nothing is won or lost any more -/
theorem all1 : ∀ N : Fin 9, ∀ i : Fin 8, i.val < N.val → bt (((1 : Int32) <<< (nI N.val &&& 31)) - 1) i.val = true := by decide +kernel
theorem stl_op {v : stV} (hN : rN (sR v) ≤ 8) (h : stl v) : opV v = 0 := by
  apply b_ext
  intro i hi
  rw [b_0]
  by_cases g : bt (opV v) i = true
  · obtain ⟨h1, h2, h3⟩ := (oset_bt _ hN i hi).mp g
    have e : (nAn v ||| nBu v ||| nLs v) = (1 <<< (nI (rN (sR v)) &&& 31)) - 1 := h
    have h3' : bq (nAn v ||| nBu v ||| nLs v) (nI i) = 0 := h3
    rw [e, bq_0 hi, all1 ⟨rN (sR v), by omega⟩ ⟨i, by omega⟩ h1] at h3'
    exact absurd h3' (by decide)
  · exact Bool.eq_false_iff.mpr g
theorem bq_z {i : Nat} (h : i < 32) : bq 0 (nI i) = 0 := (bq_0 h).mpr (b_0 _)
theorem muF_z {La : Nat → Int32} : ∀ i, i ≤ 8 → muF 0 La i = (-1, 61)
  | 0, _ => rfl
  | i + 1, h => by rw [muF, if_pos (bq_z (by omega))]; exact muF_z i (by omega)
theorem maF_z {sq : Nat → Int64} : ∀ i, i ≤ 8 → maF 0 sq i = (-1, 0)
  | 0, _ => rfl
  | i + 1, h => by rw [maF, if_pos (bq_z (by omega))]; exact maF_z i (by omega)
theorem edr_z {dy : Int32} {La W : Nat → Int32} {ls lo : Int32} : ∀ (d i : Nat), i + d ≤ 8 → edr 0 dy La W i d ls lo = (ls, lo)
  | 0, _, _ => rfl
  | d + 1, i, h => by rw [edr, if_pos (bq_z (by omega))]; exact edr_z d (i + 1) (by omega)
theorem op0_pk {rl : rlA} {v : stV} (h : opV v = 0) : pkV rl v = -1 := by
  cases rl with
  | none =>
    show (muF (opV v) _ 8).1 = -1
    rw [h, muF_z 8 (by omega)]
  | some z =>
    obtain ⟨n, S⟩ := z
    show (maF (opV v) _ 8).1 = -1
    rw [h, maF_z 8 (by omega)]
def sameS (u v : stV) : Prop := nGa u = nGa v ∧ nLo u = nLo v ∧ nAn u = nAn v ∧ nBu u = nBu v ∧ nLs u = nLs v
theorem op0_end {v : stV} (hN : rN (sR v) ≤ 8) (h : opV v = 0) : sameS (endV v) v := by
  rw [endV_q, h, edr_z _ _ (by omega)]
  exact ⟨rfl, rfl, rfl, rfl, rfl⟩
theorem op0_dy {rl : rlA} {v : stV} (hN : rN (sR v) ≤ 8) (h : opV v = 0) : sameS (dyV rl v).2 v := by
  rw [dyV_q]
  by_cases c : wstV v = 0
  · rw [if_pos c, op0_pk h]
    show sameS (gwV (-1) v) v
    unfold gwV
    rw [if_pos c]
    have e : opV (decV (-1) v) = 0 := by rw [decV_n]; exact h
    have g := op0_end (v := decV (-1) v) hN e
    rw [decV_n] at g ⊢
    exact g
  · rw [if_neg c]
    show sameS (gwV (-1) v) v
    unfold gwV
    rw [if_neg c]
    have e : opV (waV v) = 0 := h
    exact op0_end (v := waV v) hN e
theorem stl_dy {rl : rlA} {v : stV} (hN : rN (sR v) ≤ 8) (h : stl v) : stl (dyV rl v).2 ∧ sameS (dyV rl v).2 v := by
  have g := op0_dy (rl := rl) hN (stl_op hN h)
  refine ⟨?_, g⟩
  unfold stl
  have e : nAn (dyV rl v).2 ||| nBu (dyV rl v).2 ||| nLs (dyV rl v).2 = nAn v ||| nBu v ||| nLs v := by rw [g.2.2.1, g.2.2.2.1, g.2.2.2.2]
  exact e.trans h
theorem stl_ds {rl : rlA} : ∀ (n : Nat) {v : stV}, rN (sR v) ≤ 8 → stl v → sameS (dsV rl n v) v
  | 0, v, _, _ => ⟨rfl, rfl, rfl, rfl, rfl⟩
  | n + 1, v, hN, h => by
    obtain ⟨h1, h2⟩ := stl_dy (rl := rl) hN h
    have g := stl_ds (rl := rl) n (v := (dyV rl v).2) hN h1
    exact ⟨g.1.trans h2.1, g.2.1.trans h2.2.1, g.2.2.1.trans h2.2.2.1, g.2.2.2.1.trans h2.2.2.2.1, g.2.2.2.2.trans h2.2.2.2.2⟩
theorem bal_bs {rl : rlA} : ∀ (n : Nat) {v : stV}, rN (sR v) ≤ 8 → balV (bsV rl n v) = balV (dsV rl n v)
  | 0, _, _ => rfl
  | n + 1, v, hN => by
    unfold bsV
    by_cases h : stl v
    · rw [if_pos h]
      have g := stl_ds (rl := rl) (n + 1) hN h
      show nGa v - nLo v = nGa (dsV rl (n + 1) v) - nLo (dsV rl (n + 1) v)
      rw [g.1, g.2.1]
    · rw [if_neg h]
      exact bal_bs n (v := (dyV rl v).2) hN
