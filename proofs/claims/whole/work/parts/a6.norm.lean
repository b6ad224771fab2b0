/-! The reference's tests: what the three answers come to -/
theorem ld_j {kd : Int32} (hk : ¬ kd = 12) : ∀ st : List Int32, ldS kd st ≤ jS st
  | [] => Nat.le_refl _
  | x :: r => by
    have := ld_j hk r
    rw [ldS, jS]
    by_cases c : x = kd
    · rw [if_pos c, if_neg (by rw [c]; exact hk)]
      omega
    · rw [if_neg c]
      omega
theorem ld_d : ∀ st : List Int32, ldS 9 st ≤ dpS st
  | [] => Nat.le_refl _
  | x :: r => by
    have := ld_d r
    rw [ldS, dpS]
    by_cases c : x = 9
    · rw [if_pos c, if_pos (Or.inl c)]
      omega
    · rw [if_neg c]
      omega
theorem an_no {kd : Int32} {s : psT} : ∀ {st : List Int32}, ¬ topS st = kd → anS kd s st = (s, st)
  | [], _ => by rw [anS]
  | x :: r, h => by
    have h' : ¬ x = kd := h
    rw [anS, if_neg (fun g => h' g.1)]
section IVN
variable {l : List tok} {y : Nat → Int32} {ln : Nat} {K0 : List Int32} {E0 D0 : enL}
theorem an_9 (hK : K0.length ≤ E0.length + 13) (hln : ln ≤ 400) : ∀ (st : List Int32) (s : psT) (c : rdT) (e : Nat), ivT l y ln K0 E0 D0 1 s c st e → shp st 0 → ∃ s' st' c' e', anS 9 s st = (s', st') ∧ kC l st e 0 c = kC l st' e' 0 c' ∧ ivT l y ln K0 E0 D0 1 s' c' st' e' ∧ shp st' 0 ∧ ¬ topS st' = 9 ∧ c'.2.1 = c.2.1 ∧ s'.2.1 = s.2.1
  | [], s, c, e, h, hs => ⟨s, [], c, e, by rw [anS], rfl, h, hs, by decide, rfl, rfl⟩
  | x :: r, s, c, e, h, hs => by
    by_cases c9 : x = 9
    · subst c9
      have hr : shp r 0 := by
        rcases hs with ⟨-, -, g⟩ | ⟨g, -⟩ | ⟨g, -⟩ | ⟨g, -⟩
        · exact g
        · exact absurd g (by decide)
        · exact absurd g (by decide)
        · exact absurd g (by decide)
      obtain ⟨s', st', c', e', a1, a2, a3, a4, a5, a6, a7⟩ := an_9 hK hln r _ _ _ (iv_9 hK hln h) hr
      exact ⟨s', st', c', e', by rw [anS, if_pos ⟨rfl, h.1⟩]; exact a1, by rw [kc_9]; exact a2, a3, a4, a5, a6, a7⟩
    · exact ⟨s, x :: r, c, e, an_no c9, rfl, h, hs, c9, rfl, rfl⟩
theorem shp_t1 : ∀ {r : List Int32}, shp r 1 → ¬ topS r = 10 ∧ ¬ topS r = 9
  | [], _ => by decide
  | x :: r, h => by
    show ¬ x = 10 ∧ ¬ x = 9
    rcases h with ⟨-, g, -⟩ | ⟨-, g, -⟩ | ⟨rfl, -⟩ | ⟨rfl, -⟩
    · omega
    · omega
    · decide
    · decide
theorem shp_t2 : ∀ {r : List Int32}, shp r 2 → ¬ topS r = 11
  | [], _ => by decide
  | x :: r, h => by
    show ¬ x = 11
    rcases h with ⟨-, g, -⟩ | ⟨-, g, -⟩ | ⟨-, g, -⟩ | ⟨rfl, -⟩
    · omega
    · omega
    · omega
    · decide
theorem an_10 (hK : K0.length ≤ E0.length + 13) (hln : ln ≤ 400) (st : List Int32) (s : psT) (c : rdT) (e : Nat) (h : ivT l y ln K0 E0 D0 1 s c st e) (hs : shp st 0) (h9 : ¬ topS st = 9) : ∃ s' st' c', anS 10 s st = (s', st') ∧ kC l st e 0 c = kC l st' e 0 c' ∧ ivT l y ln K0 E0 D0 1 s' c' st' e ∧ shp st' 1 ∧ c'.2.1 = c.2.1 ∧ s'.2.1 = s.2.1 := by
  cases st with
  | nil => exact ⟨s, [], c, by rw [anS], rfl, h, trivial, rfl, rfl⟩
  | cons x r =>
    have h9' : ¬ x = 9 := h9
    rcases hs with ⟨g, -⟩ | ⟨rfl, -, g⟩ | ⟨rfl, -, g⟩ | ⟨rfl, g⟩
    · exact absurd g h9'
    · refine ⟨_, r, _, ?_, kc_10, iv_b (Or.inl ⟨rfl, rfl⟩) hK hln h, g, rfl, rfl⟩
      rw [anS, if_pos ⟨rfl, h.1⟩]
      exact an_no (shp_t1 g).1
    · exact ⟨s, _, c, an_no (by show ¬ (11 : Int32) = 10; decide), rfl, h, Or.inr (Or.inr (Or.inl ⟨rfl, by omega, g⟩)), rfl, rfl⟩
    · exact ⟨s, _, c, an_no (by show ¬ (12 : Int32) = 10; decide), rfl, h, Or.inr (Or.inr (Or.inr ⟨rfl, g⟩)), rfl, rfl⟩
/-- below an and: w tells whether an or stands open -/
theorem an_11 (hK : K0.length ≤ E0.length + 13) (hln : ln ≤ 400) (st : List Int32) (s : psT) (c : rdT) (e : Nat) (h : ivT l y ln K0 E0 D0 1 s c st e) (hs : shp st 1) : ∃ s' st' w, anS 11 s st = (s', st') ∧ kC l st e 0 c = kC l st' e w c ∧ ivT l y ln K0 E0 D0 1 s' (tstE (c, w)) st' e ∧ shp st' 2 ∧ s'.2.1 = s.2.1 ∧ ((w = 0 ∧ st' = st) ∨ (w = 1 ∧ st = 11 :: st')) := by
  cases st with
  | nil => exact ⟨s, [], 0, by rw [anS], rfl, h, trivial, rfl, Or.inl ⟨rfl, rfl⟩⟩
  | cons x r =>
    rcases hs with ⟨-, g, -⟩ | ⟨-, g, -⟩ | ⟨rfl, -, g⟩ | ⟨rfl, g⟩
    · omega
    · omega
    · refine ⟨_, r, 1, ?_, kc_11, iv_b (kd := 11) (t := 19) (Or.inr ⟨rfl, rfl⟩) hK hln h, g, rfl, Or.inr ⟨rfl, rfl⟩⟩
      rw [anS, if_pos ⟨rfl, h.1⟩]
      exact an_no (shp_t2 g)
    · exact ⟨s, _, 0, an_no (by show ¬ (12 : Int32) = 11; decide), rfl, h, Or.inr (Or.inr (Or.inr ⟨rfl, g⟩)), rfl, Or.inl ⟨rfl, rfl⟩⟩
end IVN
