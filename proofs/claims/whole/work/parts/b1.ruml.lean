/-! A rule's clauses: the reference's entries -/
def clU (CL : List (enL × enL)) (c : Nat) : Nat := (clE (CL.take c)).length
def clT (CL : List (enL × enL)) (c : Nat) : Nat := clU CL c + (CL.getD c ([], [])).1.length
def clN (CL : List (enL × enL)) (c : Nat) : Nat := clT CL c + (CL.getD c ([], [])).2.length
theorem evE_L {So Nu : Nat → Int32} {as : Nat → Int64} : ∀ (D : enL) (b : Nat) (st : List Int64), (∀ j, j < D.length → So (b + j) = (D.getD j (0, 0)).1 ∧ Nu (b + j) = (D.getD j (0, 0)).2) → evE So Nu as D.length b st = evL as D st
  | [], b, st, _ => rfl
  | x :: r, b, st, h => by
    have h0 := h 0 (by rw [List.length_cons]; omega)
    have e1 : So b = x.1 := h0.1
    have e2 : Nu b = x.2 := h0.2
    have ih := fun st => evE_L (So := So) (Nu := Nu) (as := as) r (b + 1) st (fun j hj => by
      have := h (j + 1) (by rw [List.length_cons]; omega)
      rw [show b + 1 + j = b + (j + 1) by omega]
      exact this)
    show (match stE as (So b) (Nu b) st with
      | some st1 => evE So Nu as r.length (b + 1) st1
      | none => none) = (match stE as x.1 x.2 st with
      | some st1 => evL as r st1
      | none => none)
    rw [e1, e2]
    cases stE as x.1 x.2 st with
    | none => rfl
    | some st1 => exact ih st1
theorem cl_at {CL : List (enL × enL)} {c : Nat} (h : c < CL.length) : CL = CL.take c ++ CL.getD c ([], []) :: CL.drop (c + 1) := by
  have e : CL.getD c ([], []) = CL[c] := by
    rw [List.getD_eq_getElem?_getD, List.getElem?_eq_getElem h]
    rfl
  rw [e, ← List.drop_eq_getElem_cons h, List.take_append_drop]
theorem cl_E {CL : List (enL × enL)} {c : Nat} (h : c < CL.length) : clE CL = clE (CL.take c) ++ ((CL.getD c ([], [])).1 ++ ((CL.getD c ([], [])).2 ++ clE (CL.drop (c + 1)))) := by
  have e := cl_at h
  generalize CL.getD c ([], []) = x at *
  have e2 := congrArg clE e
  rw [clE_app] at e2
  rw [e2]
  show clE (List.take c CL) ++ ((x.1 ++ x.2) ++ clE (List.drop (c + 1) CL)) = _
  rw [List.append_assoc x.1]
theorem cl_len {CL : List (enL × enL)} {c : Nat} (h : c < CL.length) : clN CL c + (clE (CL.drop (c + 1))).length = (clE CL).length := by
  have e := congrArg List.length (cl_E h)
  rw [List.length_append, List.length_append, List.length_append] at e
  unfold clN clT clU
  omega
theorem cl_in {CL : List (enL × enL)} {c : Nat} (h : c < CL.length) : CL.getD c ([], []) ∈ CL := by
  have e : CL.getD c ([], []) = CL[c] := by
    rw [List.getD_eq_getElem?_getD, List.getElem?_eq_getElem h]
    rfl
  rw [e]
  exact List.getElem_mem h
theorem wn_cl {CL : List (enL × enL)} {vl : Nat → Int32} {ts vs : Nat → Int64} (hv : ∀ c, c < CL.length → vs c = vL vl (CL.getD c ([], [])).1) (ht : ∀ c, c < CL.length → ts c = vL vl (CL.getD c ([], [])).2) : ∀ (B A : List (enL × enL)), A ++ B = CL → wnF (clT CL) (clN CL) ts vs B.length A.length = wnC vl B
  | [], A, _ => rfl
  | x :: r, A, e => by
    have hl : A.length < CL.length := by rw [← e, List.length_append, List.length_cons]; omega
    have hx : CL.getD A.length ([], []) = x := by
      have := getD_app_r (a := A) (b := x :: r) (j := 0) (d := (([], []) : enL × enL))
      rw [e, Nat.add_zero] at this
      exact this
    have ih := wn_cl hv ht r (A ++ [x]) (by rw [List.append_assoc]; exact e)
    rw [List.length_append] at ih
    have ih' : wnF (clT CL) (clN CL) ts vs r.length (A.length + 1) = wnC vl r := ih
    show (if clT CL A.length = clN CL A.length then vs A.length else if ts A.length = 1 then vs A.length else wnF (clT CL) (clN CL) ts vs r.length (A.length + 1)) = _
    have hc : clT CL A.length = clN CL A.length ↔ x.2 = [] := by
      unfold clN
      rw [hx]
      constructor
      · intro g
        exact List.length_eq_zero_iff.mp (by omega)
      · intro g
        rw [g, List.length_nil]
        omega
    rw [wnC, ih', hv _ hl, ht _ hl, hx]
    by_cases c : x.2 = []
    · rw [if_pos c, if_pos (hc.mpr c)]
    · rw [if_neg c, if_neg (fun g => c (hc.mp g))]
theorem ru_m {So Nu : Nat → Int32} {slot : Nat} {CL : List (enL × enL)} (hE : ∀ i, i < (clE CL).length → So (300 * slot + i) = ((clE CL).getD i (0, 0)).1 ∧ Nu (300 * slot + i) = ((clE CL).getD i (0, 0)).2) (hG : clG CL) (hn : nvL (clE CL) ≤ 60) : ruM So Nu slot CL.length (clU CL) (clT CL) (clN CL) (clK CL).length (stpA (clK CL)) := by
  intro vl
  refine ⟨fun c => vL vl (CL.getD c ([], [])).1, fun c => vL vl (CL.getD c ([], [])).2, fun c hc => ?_, fun c hc hne => ?_, ?_⟩
  · have hl := cl_len hc
    have e1 : clT CL c - clU CL c = (CL.getD c ([], [])).1.length := by unfold clT; omega
    rw [e1, evE_L, vL_wf (hG _ (cl_in hc)).1 vl []]
    intro j hj
    have h2 : clU CL c + j < (clE CL).length := by
      have : clN CL c = clU CL c + (CL.getD c ([], [])).1.length + (CL.getD c ([], [])).2.length := rfl
      omega
    rw [Nat.add_assoc, (hE _ h2).1, (hE _ h2).2]
    have e2 : (clE CL).getD (clU CL c + j) (0, 0) = (CL.getD c ([], [])).1.getD j (0, 0) := by
      have := congrArg (fun z => List.getD z (clU CL c + j) ((0, 0) : Int32 × Int32)) (cl_E hc)
      refine this.trans ?_
      show (clE (CL.take c) ++ _).getD ((clE (CL.take c)).length + j) (0, 0) = _
      rw [getD_app_r, getD_app_l hj]
    rw [e2]
    exact ⟨rfl, rfl⟩
  · have hl := cl_len hc
    have e1 : clN CL c - clT CL c = (CL.getD c ([], [])).2.length := by unfold clN; omega
    have b2 : bfS (CL.getD c ([], [])).2 := (hG _ (cl_in hc)).2.resolve_left (fun g => hne (by unfold clN; rw [g, List.length_nil]; omega))
    rw [e1, evE_L, vL_wf (bf_wf b2) vl []]
    intro j hj
    have h2 : clT CL c + j < (clE CL).length := by
      have : clN CL c = clT CL c + (CL.getD c ([], [])).2.length := rfl
      omega
    rw [Nat.add_assoc, (hE _ h2).1, (hE _ h2).2]
    have e2 : (clE CL).getD (clT CL c + j) (0, 0) = (CL.getD c ([], [])).2.getD j (0, 0) := by
      have := congrArg (fun z => List.getD z (clT CL c + j) ((0, 0) : Int32 × Int32)) (cl_E hc)
      refine this.trans ?_
      show (clE (CL.take c) ++ _).getD ((clE (CL.take c)).length + (CL.getD c ([], [])).1.length + j) (0, 0) = _
      rw [Nat.add_assoc, getD_app_r, getD_app_r, getD_app_l hj]
    rw [e2]
    exact ⟨rfl, rfl⟩
  · have a := wn_cl (CL := CL) (vl := vl) (ts := fun c => vL vl (CL.getD c ([], [])).2) (vs := fun c => vL vl (CL.getD c ([], [])).1) (fun c _ => rfl) (fun c _ => rfl) CL [] rfl
    have b := sf_cl (S := stpA (clK CL)) (vl := vl) CL 0 (fun _ => 0) hG (fun j _ => by rw [Nat.zero_add]; rfl) hn
    rw [b]
    exact a
