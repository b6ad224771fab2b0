/-! The object as it is made -/
def wZ : oV := ((fun _ => 0, 0), (0, fun _ => (0, fun _ => 0)), imZ, fun _ => none)
def imS (i : Nat) : Prop := (13 ≤ i ∧ i ≤ 17) ∨ (86 ≤ i ∧ i ≤ 90) ∨ (98 ≤ i ∧ i ≤ 102) ∨ (120 ≤ i ∧ i ≤ 124)
section STT
variable {g g2 g3 : Nat → Option Nat}
theorem hgBl {P Bk R : rm_H} {i : Nat} (hi : i < Bk.length) : (P ++ (Bk ++ R))[P.length + i]? = Bk[i]? := by
  rw [hgB (i := i) rfl, List.getElem?_append_left hi]
theorem oN_len : (oN g g2 g3).length = 153 := by simp [oN, txN_len, rdN_len, imN_len, trN_len, rsN_len, wsN_len]
theorem oN_tx {i : Nat} (hi : i < 5) : (oN g g2 g3)[1 + i]? = (txN 1)[i]? := hgBl (P := [_]) (Bk := txN 1) (by rw [txN_len]; omega)
theorem oN_rd {i : Nat} (hi : i < 2) : (oN g g2 g3)[6 + i]? = (rdN 6)[i]? := hgBl (P := _ :: txN 1) (Bk := rdN 6) (by rw [rdN_len]; omega)
theorem oN_8 : (oN g g2 g3)[8]? = some (cQ 4 6 (fun _ => none)) := rfl
theorem oN_im {i : Nat} (hi : i < 74) : (oN g g2 g3)[9 + i]? = (imN 9 g)[i]? := hgBl (P := _ :: (txN 1 ++ (rdN 6 ++ [_]))) (Bk := imN 9 g) (by rw [imN_len]; omega)
theorem oN_e83 : oN g g2 g3 = (cOD 0 :: (txN 1 ++ (rdN 6 ++ cQ 4 6 (fun _ => none) :: imN 9 g))) ++ ([cQ 5 4 (fun _ => none)] ++ (trN 84 ++ (rsN 94 g2 ++ (wsN 118 g3 ++ [zI 427])))) := by simp [oN]
theorem oN_83 : (oN g g2 g3)[83]? = some (cQ 5 4 (fun _ => none)) := by
  rw [oN_e83, hgB (i := 0) (by simp [txN_len, rdN_len, imN_len])]
  rfl
theorem oN_tr {i : Nat} (hi : i < 10) : (oN g g2 g3)[84 + i]? = (trN 84)[i]? := by
  have e : oN g g2 g3 = (cOD 0 :: (txN 1 ++ (rdN 6 ++ cQ 4 6 (fun _ => none) :: (imN 9 g ++ [cQ 5 4 (fun _ => none)])))) ++ (trN 84 ++ (rsN 94 g2 ++ (wsN 118 g3 ++ [zI 427]))) := by simp [oN]
  rw [e, hgB (i := i) (by simp [txN_len, rdN_len, imN_len] <;> omega), List.getElem?_append_left (by rw [trN_len]; omega)]
theorem oN_rs {i : Nat} (hi : i < 24) : (oN g g2 g3)[94 + i]? = (rsN 94 g2)[i]? := by
  have e : oN g g2 g3 = (cOD 0 :: (txN 1 ++ (rdN 6 ++ cQ 4 6 (fun _ => none) :: (imN 9 g ++ cQ 5 4 (fun _ => none) :: trN 84)))) ++ (rsN 94 g2 ++ (wsN 118 g3 ++ [zI 427])) := by simp [oN]
  rw [e, hgB (i := i) (by simp [txN_len, rdN_len, imN_len, trN_len] <;> omega), List.getElem?_append_left (by rw [rsN_len]; omega)]
theorem oN_ws {i : Nat} (hi : i < 34) : (oN g g2 g3)[118 + i]? = (wsN 118 g3)[i]? := by
  have e : oN g g2 g3 = (cOD 0 :: (txN 1 ++ (rdN 6 ++ cQ 4 6 (fun _ => none) :: (imN 9 g ++ cQ 5 4 (fun _ => none) :: (trN 84 ++ rsN 94 g2))))) ++ (wsN 118 g3 ++ [zI 427]) := by simp [oN]
  rw [e, hgB (i := i) (by simp [txN_len, rdN_len, imN_len, trN_len, rsN_len] <;> omega), List.getElem?_append_left (by rw [wsN_len]; omega)]
theorem oN_152 : (oN g g2 g3)[152]? = some (zI 427) := by
  have e : oN g g2 g3 = (cOD 0 :: (txN 1 ++ (rdN 6 ++ cQ 4 6 (fun _ => none) :: (imN 9 g ++ cQ 5 4 (fun _ => none) :: (trN 84 ++ (rsN 94 g2 ++ wsN 118 g3)))))) ++ [zI 427] := by simp [oN]
  rw [e, hgB (i := 0) (by simp [txN_len, rdN_len, imN_len, trN_len, rsN_len, wsN_len])]
  rfl
theorem rsN_st {q : Nat} (hq : q < 5) : (rsN 94 g2)[9 + 3 * q]? = some (cS0 (103 + 3 * q) 98) ∧ (rsN 94 g2)[9 + 3 * q + 1]? = some (zI 8) ∧ (rsN 94 g2)[9 + 3 * q + 2]? = some (zI 8) := by
  obtain ⟨h1, h2, h3⟩ := stN_at 103 98 5 q hq
  unfold rsN
  rw [List.getElem?_append_right (by simp <;> omega), List.getElem?_append_right (by simp <;> omega), List.getElem?_append_right (by simp <;> omega)]
  simp only [List.length_cons, List.length_nil, Nat.reduceAdd]
  rw [show 9 + 3 * q - 9 = 3 * q by omega, show 9 + 3 * q + 1 - 9 = 3 * q + 1 by omega, show 9 + 3 * q + 2 - 9 = 3 * q + 2 by omega]
  exact ⟨h1, h2, h3⟩
theorem wsN_st {q : Nat} (hq : q < 9) : (wsN 118 g3)[7 + 3 * q]? = some (cS0 (125 + 3 * q) 120) ∧ (wsN 118 g3)[7 + 3 * q + 1]? = some (zI 8) ∧ (wsN 118 g3)[7 + 3 * q + 2]? = some (zI 8) := by
  obtain ⟨h1, h2, h3⟩ := stN_at 125 120 9 q hq
  unfold wsN
  rw [List.getElem?_append_right (by simp <;> omega), List.getElem?_append_right (by simp <;> omega), List.getElem?_append_right (by simp <;> omega)]
  simp only [List.length_cons, List.length_nil, Nat.reduceAdd]
  rw [show 7 + 3 * q - 7 = 3 * q by omega, show 7 + 3 * q + 1 - 7 = 3 * q + 1 by omega, show 7 + 3 * q + 2 - 7 = 3 * q + 2 by omega]
  exact ⟨h1, h2, h3⟩
theorem isO_Z {E : rm_H} (hE : 36 ≤ E.length) (hg : ∀ q, q < 20 → g q = some (23 + 3 * q)) (hg2 : ∀ q, q < 5 → g2 q = some (103 + 3 * q)) (hg3 : ∀ q, q < 9 → g3 q = some (125 + 3 * q)) : isO imS (oN g g2 g3 ++ E) wZ := by
  have hl := oN_len (g := g) (g2 := g2) (g3 := g3)
  have ga : ∀ {i : Nat}, i < 153 → (oN g g2 g3 ++ E)[i]? = (oN g g2 g3)[i]? := fun hi => List.getElem?_append_left (by omega)
  have re : ∀ r, (∀ i, i < 5 → (oN g g2 g3 ++ E)[r + i]? = (reN r)[i]?) → (∀ i, r ≤ i → i ≤ r + 4 → imS i) → isR imS (oN g g2 g3 ++ E) r rvZ := fun r h1 h2 => isR_Z h2 h1
  have r86 : isR imS (oN g g2 g3 ++ E) 86 rvZ := re 86 (fun i hi => by
    rw [ga (by omega), show 86 + i = 84 + (2 + i) by omega, oN_tr (by omega)]
    have : i = 0 ∨ i = 1 ∨ i = 2 ∨ i = 3 ∨ i = 4 := by omega
    rcases this with rfl | rfl | rfl | rfl | rfl <;> rfl) (fun i h1 h2 => by unfold imS; omega)
  have r98 : isR imS (oN g g2 g3 ++ E) 98 rvZ := re 98 (fun i hi => by
    rw [ga (by omega), show 98 + i = 94 + (4 + i) by omega, oN_rs (by omega)]
    have : i = 0 ∨ i = 1 ∨ i = 2 ∨ i = 3 ∨ i = 4 := by omega
    rcases this with rfl | rfl | rfl | rfl | rfl <;> rfl) (fun i h1 h2 => by unfold imS; omega)
  have r120 : isR imS (oN g g2 g3 ++ E) 120 rvZ := re 120 (fun i hi => by
    rw [ga (by omega), show 120 + i = 118 + (2 + i) by omega, oN_ws (by omega)]
    have : i = 0 ∨ i = 1 ∨ i = 2 ∨ i = 3 ∨ i = 4 := by omega
    rcases this with rfl | rfl | rfl | rfl | rfl <;> rfl) (fun i h1 h2 => by unfold imS; omega)
  refine ⟨⟨fun i hi => by rw [List.length_append, hl]; unfold imS at hi; omega, by rw [List.length_append, hl]; omega⟩, (ga (by omega)).trans rfl, ⟨0, [], 0, fun _ => 0, fun _ => 0, fun _ => 0, ?_, ?_, ?_, ?_, ?_, by show 0 ≤ 400; omega, by show 0 ≤ 401; omega, fun i hi => absurd hi (by simp)⟩, ⟨[], 0, fun _ => 0, ?_, ?_, by simp, fun i hi => absurd hi (by simp)⟩, ⟨by show 0 ≤ 6; omega, fun _ => none, (ga (by omega)).trans oN_8, fun i hi => absurd hi (by show ¬ i < 0; omega)⟩, ⟨13, isI_Z (b := 9) (g := g) (fun i hi => (ga (by omega)).trans (oN_im hi)) hg (fun i h1 h2 => by unfold imS; omega) (fun i h1 h2 h3 => by unfold imS; omega)⟩, ⟨fun _ => none, (ga (by omega)).trans oN_83, fun k hk => Or.inl ⟨rfl, rfl⟩, fun j k b c _ _ _ h => by cases h⟩, ⟨⟨none, 86, stZ, ⟨by unfold imS; omega, by unfold imS; omega⟩, .null, 0, fun _ => 0, ?_, ?_, isS_Z ⟨by unfold imS; omega, by unfold imS; omega, by unfold imS; omega⟩ ?_ ?_ ?_ r86, rfl, trivial⟩, ⟨(0, 0, fun _ => 0, fun _ => 0), fun a ha => by unfold imS; omega, ?_, ?_, ?_, ⟨g2, ?_, hg2⟩, fun i hi => ⟨98, stZ, ?_⟩, fun _ _ => rfl, fun _ _ => rfl⟩, ⟨0, (0, 0, 0), fun a ha => by unfold wsC at ha; unfold imS; omega, ?_, ⟨g3, ?_, hg3⟩, fun i hi => ⟨120, stZ, ?_⟩⟩, fun _ => 0, (ga (by omega)).trans oN_152⟩, Or.inl rfl, fun k u hk hu => by cases hu⟩
  · exact (ga (by omega)).trans (oN_tx (i := 0) (by omega))
  · exact (ga (by omega)).trans (oN_tx (i := 1) (by omega))
  · exact (ga (by omega)).trans (oN_tx (i := 2) (by omega))
  · exact (ga (by omega)).trans (oN_tx (i := 3) (by omega))
  · exact (ga (by omega)).trans (oN_tx (i := 4) (by omega))
  · exact (ga (by omega)).trans (oN_rd (i := 0) (by omega))
  · exact (ga (by omega)).trans (oN_rd (i := 1) (by omega))
  · exact (ga (by omega)).trans (oN_tr (i := 0) (by omega))
  · exact (ga (by omega)).trans (oN_tr (i := 9) (by omega))
  · exact (ga (by omega)).trans (oN_tr (i := 1) (by omega))
  · exact (ga (by omega)).trans (oN_tr (i := 7) (by omega))
  · exact (ga (by omega)).trans (oN_tr (i := 8) (by omega))
  · exact (ga (by omega)).trans (oN_rs (i := 0) (by omega))
  · exact (ga (by omega)).trans (oN_rs (i := 1) (by omega))
  · exact (ga (by omega)).trans (oN_rs (i := 2) (by omega))
  · exact (ga (by omega)).trans (oN_rs (i := 3) (by omega))
  · obtain ⟨s1, s2, s3⟩ := rsN_st (g2 := g2) hi
    exact isS_Z ⟨by unfold imS; omega, by unfold imS; omega, by unfold imS; omega⟩ (by rw [ga (by omega), show 103 + 3 * i = 94 + (9 + 3 * i) by omega, oN_rs (by omega), s1, show 94 + (9 + 3 * i) = 103 + 3 * i by omega]) (by rw [ga (by omega), show 103 + 3 * i + 1 = 94 + (9 + 3 * i + 1) by omega, oN_rs (by omega), s2]) (by rw [ga (by omega), show 103 + 3 * i + 2 = 94 + (9 + 3 * i + 2) by omega, oN_rs (by omega), s3]) r98
  · exact (ga (by omega)).trans (oN_ws (i := 0) (by omega))
  · exact (ga (by omega)).trans (oN_ws (i := 1) (by omega))
  · obtain ⟨s1, s2, s3⟩ := wsN_st (g3 := g3) hi
    exact isS_Z ⟨by unfold imS; omega, by unfold imS; omega, by unfold imS; omega⟩ (by rw [ga (by omega), show 125 + 3 * i = 118 + (7 + 3 * i) by omega, oN_ws (by omega), s1, show 118 + (7 + 3 * i) = 125 + 3 * i by omega]) (by rw [ga (by omega), show 125 + 3 * i + 1 = 118 + (7 + 3 * i + 1) by omega, oN_ws (by omega), s2]) (by rw [ga (by omega), show 125 + 3 * i + 2 = 118 + (7 + 3 * i + 2) by omega, oN_ws (by omega), s3]) r120
end STT
