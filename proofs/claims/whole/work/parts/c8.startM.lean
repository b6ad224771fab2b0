/-! The reference as it is made: where it begins -/
section INY
variable {X : rm_H}
theorem hZ_a {j : Nat} {e : va_E} (hX : X.length = 153) (he : arT[j]? = some e) : (hZ X 35 13)[154 + j]? = some e := by
  unfold hZ
  rw [show arT.take 35 = arT from rfl, hgB (i := j + 1) (by rw [hX]; omega), List.getElem?_cons_succ]
  exact he
theorem sc_Z : scZ = scM (oS wZ) (nI (iNt (oI wZ))) (iX (oI wZ)) (iFo (oI wZ)) := by
  funext x
  by_cases h : x < 13
  · have : x = 0 ∨ x = 1 ∨ x = 2 ∨ x = 3 ∨ x = 4 ∨ x = 5 ∨ x = 6 ∨ x = 7 ∨ x = 8 ∨ x = 9 ∨ x = 10 ∨ x = 11 ∨ x = 12 := by omega
    rcases this with rfl | rfl | rfl | rfl | rfl | rfl | rfl | rfl | rfl | rfl | rfl | rfl | rfl <;> rfl
  · rw [scM_13 _ _ _ _ x (by omega)]
    unfold scZ upd
    rw [if_neg (by omega), if_neg (by omega), if_neg (by omega), if_neg (by omega), if_neg (by omega), if_neg (by omega), if_neg (by omega), if_neg (by omega), if_neg (by omega), if_neg (by omega), if_neg (by omega), if_neg (by omega), if_neg (by omega)]
theorem isM_Z (hX : X.length = 153) : isM (hZ X 35 13) wZ := by
  have hm : (hZ X 35 13)[153]? = some (cM (upd (fun _ => 0) 27 13)) := hZ_g0 hX
  have a : ∀ {j : Nat} {e : va_E}, arT[j]? = some e → (hZ X 35 13)[154 + j]? = some e := fun he => hZ_a hX he
  refine ⟨⟨⟨_, hm, rfl, rfl, rfl, rfl⟩, ⟨⟨_, a (j := 7) rfl, fun j hj => absurd hj (Nat.not_lt_zero _)⟩, ⟨_, a (j := 8) rfl, fun j hj => absurd hj (Nat.not_lt_zero _)⟩, Nat.zero_le _⟩, ⟨⟨_, a (j := 9) rfl, fun _ _ => rfl⟩, ⟨_, a (j := 10) rfl, fun _ _ => rfl⟩⟩, ⟨_, a (j := 17) rfl, Nat.zero_le _, fun i hi => absurd hi (Nat.not_lt_zero _)⟩, ⟨Nat.zero_le _, ⟨_, a (j := 18) rfl⟩, ⟨_, a (j := 19) rfl⟩, ⟨_, a (j := 20) rfl⟩, ⟨_, a (j := 21) rfl⟩, ⟨_, a (j := 22) rfl⟩, ⟨_, a (j := 23) rfl⟩, fun s hs => absurd hs (Nat.not_lt_zero _)⟩, ⟨⟨_, a (j := 11) rfl⟩, ⟨_, a (j := 12) rfl⟩, ⟨_, a (j := 13) rfl⟩, ⟨_, a (j := 14) rfl⟩, ⟨_, a (j := 15) rfl⟩, ⟨_, a (j := 16) rfl⟩, ⟨_, a (j := 24) rfl⟩, ⟨_, a (j := 28) rfl⟩⟩, ⟨⟨_, a (j := 25) rfl⟩, ⟨_, a (j := 26) rfl⟩⟩, ⟨⟨_, a (j := 29) rfl⟩, ⟨_, a (j := 30) rfl⟩, ⟨_, a (j := 31) rfl⟩, ⟨_, a (j := 32) rfl⟩⟩, ⟨_, a (j := 27) rfl, Nat.zero_le _, fun i hi => absurd hi (Nat.not_lt_zero _)⟩, ⟨_, _, a (j := 33) rfl, a (j := 34) rfl, fun k hk => Or.inl ⟨rfl, rfl⟩⟩⟩, ?_, a (j := 1) rfl, a (j := 3) rfl, ⟨_, a (j := 2) rfl, fun q hq => fc_00 hq⟩, ⟨_, a (j := 4) rfl, fun q hq => absurd hq (Nat.not_lt_zero _)⟩, ⟨_, a (j := 5) rfl, fun q hq => absurd hq (Nat.not_lt_zero _)⟩, ⟨_, a (j := 6) rfl, fun d hd => (wkb_0 hd).symm⟩, Nat.zero_le _⟩
  rw [← sc_Z]
  exact a (j := 0) rfl
end INY
