/-! The law: the classes as the tables have them -/
theorem t_in : ∀ i : Fin 13, Cond.instantiable (rm_cl.getD i.val ("", TX0, 0)).1 (rm_cl.getD i.val ("", TX0, 0)).2.2 ∈ lw_tbl := by decide +kernel
theorem t_ac : Cond.arrayClass .int ∈ lw_tbl ∧ Cond.arrayClass .byte ∈ lw_tbl ∧ Cond.arrayClass .long ∈ lw_tbl ∧ Cond.arrayClass .boolean ∈ lw_tbl := by decide +kernel
theorem lw_ty {args : Array Value} {s : State} (hts : ∀ w ∈ lw_tbl, w.before args s = true) : ∀ k : Nat, ∃ cA : ClassId, ∀ ty, rm_tyc[k]? = some ty → ArrOfT s cA ty ∧ va_RA s cA ty := by
  have prim : ∀ ty : FieldType, Cond.arrayClass ty ∈ lw_tbl → (∀ C, ¬ ty = .object C) → ∃ cA : ClassId, ArrOfT s cA ty ∧ va_RA s cA ty := by
    intro ty h hn
    obtain ⟨cA, kA, comp, h1, h2, h3⟩ := Cond.arrayClass_spec (hts _ h)
    refine ⟨cA, fun n z => ⟨fun k h => (by cases h), kA, h2, comp, h3⟩, ?_⟩
    cases ty with
    | object C => exact absurd rfl (hn C)
    | _ => exact h1
  have obj : ∀ C : String, Cond.arrayOver (.object C) ∈ lw_tbl → ∃ cA : ClassId, ArrOfT s cA (.object C) ∧ va_RA s cA (.object C) := by
    intro C h
    obtain ⟨comp, cA, kA, h1, h2, h3, h4, h5⟩ := Cond.arrayOver_spec (hts _ h)
    exact ⟨cA, fun n z => ⟨fun k h => (by cases h), kA, h3, comp, h4⟩, kA, comp, h3, h4, h1, h5⟩
  have of : ∀ {k : Nat} {ty0 : FieldType}, rm_tyc[k]? = some ty0 → (∃ cA : ClassId, ArrOfT s cA ty0 ∧ va_RA s cA ty0) → ∃ cA : ClassId, ∀ ty, rm_tyc[k]? = some ty → ArrOfT s cA ty ∧ va_RA s cA ty := by
    rintro k ty0 h ⟨cA, h1⟩
    refine ⟨cA, fun ty hty => ?_⟩
    rw [h] at hty
    cases hty
    exact h1
  intro k
  match k with
  | 0 => exact of (ty0 := .int) rfl (prim _ t_ac.1 (fun C h => by cases h))
  | 1 => exact of (ty0 := .byte) rfl (prim _ t_ac.2.1 (fun C h => by cases h))
  | 2 => exact of (ty0 := .long) rfl (prim _ t_ac.2.2.1 (fun C h => by cases h))
  | 3 => exact of (ty0 := .boolean) rfl (prim _ t_ac.2.2.2 (fun C h => by cases h))
  | 4 => exact of (ty0 := .object "OneDecision$Rule") rfl (obj _ t_ao.1)
  | 5 => exact of (ty0 := .object "OneDecision$Image") rfl (obj _ t_ao.2.1)
  | 6 => exact of (ty0 := .object "OneDecision$State") rfl (obj _ t_ao.2.2)
  | k + 7 =>
    obtain ⟨cA, -⟩ := prim _ t_ac.1 (fun C h => by cases h)
    exact ⟨cA, fun ty h => by simp [rm_tyc] at h⟩
theorem lw_K {args : Array Value} {s : State} (hts : ∀ w ∈ lw_tbl, w.before args s = true) : ∃ (D : va_G) (ct : Nat → ClassId), va_K D rm_cl (rm_tys ct) s := by
  obtain ⟨ct, hct⟩ := Classical.skolem.mp (lw_ty hts)
  have hcl : ∀ c : Nat, ∃ x : ClassId × (Nat → Nat), ∀ q, rm_cl[c]? = some q → u_Kn s q.1 q.2.1 q.2.2 x.1 x.2 := by
    intro c
    by_cases hc : c < 13
    · have hlen : rm_cl.length = 13 := rfl
      obtain ⟨q, hq⟩ : ∃ q, rm_cl[c]? = some q := ⟨_, List.getElem?_eq_getElem (by rw [hlen]; exact hc)⟩
      have hin := t_in ⟨c, hc⟩
      have eq : rm_cl.getD c ("", TX0, 0) = q := by rw [List.getD_eq_getElem?_getD, hq]; rfl
      have hin' : Cond.instantiable (rm_cl.getD c ("", TX0, 0)).1 (rm_cl.getD c ("", TX0, 0)).2.2 ∈ lw_tbl := hin
      rw [eq] at hin'
      have hok := rm_clok _ _ hq
      obtain ⟨cC, iS, hK⟩ := u_known (args := args) (s := s) (C := q.1) (T := q.2.1) (N := q.2.2) (n := q.2.2) (lw_T hts) hok.1 (hts _ hin')
      refine ⟨(cC, iS), fun q' hq' => ?_⟩
      rw [hq] at hq'
      cases hq'
      exact hK
    · obtain ⟨cA, -⟩ := lw_ty hts 0
      refine ⟨(cA, fun _ => 0), fun q hq => ?_⟩
      have hlen : rm_cl.length = 13 := rfl
      have := (List.getElem?_eq_some_iff.mp hq).1
      omega
  obtain ⟨f, hf⟩ := Classical.skolem.mp hcl
  refine ⟨(fun c => (f c).1, fun c => (f c).2), ct, fun c q hq => hf c q hq, fun k q hq => ?_⟩
  unfold rm_tys at hq
  rw [List.getElem?_mapIdx] at hq
  cases hk : rm_tyc[k]? with
  | none => rw [hk] at hq; cases hq
  | some ty =>
    rw [hk] at hq
    cases hq
    exact hct k ty hk
