/-! The law: what the calls leave as it is -/
theorem sq_question {q x : Int32} {w : oV} : (aQuestion q x w).2 = w := rfl
theorem sq_count {x : Int32} {w : oV} : (aCount x w).2 = w := rfl
theorem sq_blame {m q : Int32} {w : oV} : (aBlame m q w).2 = w := rfl
theorem sq_woke {f n g x : Int32} {w : oV} : (aWoke f n g x w).2 = w := rfl
theorem sq_reigns {m n p x : Int32} {w : oV} : (aReigns m n p x w).2 = w := rfl
theorem sq_today {n : Int32} {w : oV} : (aToday n w).2 = w := by
  unfold aToday
  split <;> rfl
theorem sq_waste {n x : Int32} {w : oV} : (aWaste n x w).2 = w := by
  unfold aWaste
  split <;> rfl
theorem sq_ahead {q n x : Int32} {w : oV} : (aAhead q n x w).2 = w := by
  unfold aAhead
  split <;> rfl
theorem sq_fate {q x : Int32} {w : oV} : (aFate q x w).2 = w := by
  unfold aFate
  split <;> rfl
theorem sq_bind {n x : Int32} {w : oV} : (aBind n x w).2 = w := by
  unfold aBind
  split <;> rfl
theorem sq_cover {x : Int32} {w : oV} : (aCover x w).2 = w := by
  unfold aCover
  split <;> rfl
theorem sq_rescue {n x : Int32} {w : oV} : (aRescue n x w).2 = w := by
  unfold aRescue
  split <;> rfl
theorem sq_row {n x : Int32} {w : oV} : (aRow n x w).2 = w := by
  unfold aRow
  split <;> rfl
theorem sq_ruled {x : Int32} {w : oV} : (aRuled x w).2 = w := by
  unfold aRuled
  split <;> rfl
theorem sq_look {x : Int32} {w : oV} : (aLook x w).2 = w := by
  unfold aLook
  split <;> rfl
theorem sb_end {n : Int32} {w : oV} : oB (aEnd n w).2 = oB w := by
  unfold aEnd
  split
  · rfl
  · split <;> rfl
theorem sb_realm {w : oV} : oB (aRealm w).2 = oB w := by
  unfold aRealm
  split <;> rfl
theorem sb_rule {w : oV} : oB (aRule w).2 = oB w := by
  unfold aRule
  split
  · split <;> rfl
  · rfl
theorem sb_force {q : Int32} {w : oV} : oB (aForce q w).2 = oB w := by
  unfold aForce
  split <;> rfl
theorem sb_day {w : oV} : oB (aDay w).2 = oB w := by
  unfold aDay
  split
  · rfl
  · split <;> rfl
theorem sb_use {q : Int32} {w : oV} : oB (aUse q w).2 = oB w := by
  unfold aUse
  split
  · rfl
  · split <;> rfl
theorem sb_egg {w : oV} : oB (aEgg w).2 = oB w := by
  unfold aEgg
  split
  · rfl
  · split <;> rfl
theorem sb_tie {x y : Int32} {w : oV} : oB (aTie x y w).2 = oB w := by
  unfold aTie
  split
  · split
    · split <;> rfl
    · rfl
  · rfl
theorem sb_grow {q m : Int32} {w : oV} : oB (aGrow q m w).2 = oB w := by
  unfold aGrow
  split
  · split
    · split
      · rfl
      · split <;> rfl
    · rfl
  · rfl
theorem sb_undo {w : oV} : oB (aUndo w).2 = oB w := by
  unfold aUndo
  split <;> rfl
theorem sb_note {n q : Int32} {w : oV} : oB (aNote n q w).2 = oB w := by
  unfold aNote
  split
  · rfl
  · split <;> rfl
theorem sb_seed {x : Int32} {w : oV} : oB (aSeed x w).2 = oB w := by
  unfold aSeed
  split <;> rfl
theorem sb_image {q : Int32} {w : oV} : oB (aImage q w).2 = oB w := by
  unfold aImage
  split <;> rfl
theorem sb_back {q : Int32} {w : oV} : oB (aBack q w).2 = oB w := by
  unfold aBack
  split
  · split <;> rfl
  · rfl
theorem byF_r (x sh : Int32) : -128 ≤ (byF x sh).toInt ∧ (byF x sh).toInt ≤ 127 := by
  have key : ∀ z : Int8, -128 ≤ (vp_nar .byte z.toInt32).toInt ∧ (vp_nar .byte z.toInt32).toInt ≤ 127 := by
    intro z
    have e : vp_nar .byte z.toInt32 = z.toInt32.toInt8.toInt32 := rfl
    rw [e, Int8.toInt8_toInt32, Int8.toInt_toInt32]
    have h1 := z.le_toInt
    have h2 := z.toInt_lt
    omega
  exact key _
theorem by_r {B : Nat → Int32} {n : Nat} {x : Int32} (h : bOK B) : bOK (by4 B n x) := by
  have up : ∀ {C : Nat → Int32} {k : Nat} {v : Int32}, (-128 ≤ v.toInt ∧ v.toInt ≤ 127) → bOK C → bOK (upd C k v) := by
    intro C k v hv hC i
    by_cases e : i = k
    · rw [e, upd_s]
      exact hv
    · rw [upd_n e]
      exact hC i
  unfold by4
  exact up (byF_r _ _) (up (byF_r _ _) (up (byF_r _ _) (up (byF_r _ _) h)))
theorem sb_feed {a b c d e : Int32} {w : oV} (h : bOK (oB w)) : bOK (oB (aFeed a b c d e w).2) := by
  unfold aFeed
  split
  · exact by_r (by_r (by_r (by_r (by_r h))))
  · exact h
theorem bOK_Z : bOK (oB wZ) := fun i => by
  show -128 ≤ (0 : Int32).toInt ∧ (0 : Int32).toInt ≤ 127
  decide
theorem ok_nOK {w : oV} (h : okW w) : nOK w := by
  intro j hj
  obtain ⟨d, hd, e⟩ := h.2.2.1.2.2.2.2.1 j hj
  have e' : (oI w).2.2.1.2.1 j = nI d := e
  rw [e']
  exact ⟨nI_pos' (by omega), nI_le (b := 60) hd (by omega)⟩
