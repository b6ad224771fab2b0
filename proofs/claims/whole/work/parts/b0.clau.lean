/-! A rule's clauses: what the class's steps come to -/
def clE : List (enL × enL) → enL
  | [] => []
  | x :: r => (x.1 ++ x.2) ++ clE r
def clC (x : enL × enL) : Int32 := if x.2 = [] then 16 else 17
def clK : List (enL × enL) → List Int32
  | [] => []
  | x :: r => (x.1 ++ x.2).map cvE ++ tk (clC x) :: clK r
theorem clE_app : ∀ a b, clE (a ++ b) = clE a ++ clE b
  | [], b => rfl
  | x :: a, b => by
    show (x.1 ++ x.2) ++ clE (a ++ b) = ((x.1 ++ x.2) ++ clE a) ++ clE b
    rw [clE_app a b, List.append_assoc (x.1 ++ x.2)]
theorem clK_app : ∀ a b, clK (a ++ b) = clK a ++ clK b
  | [], b => rfl
  | x :: a, b => by
    show (x.1 ++ x.2).map cvE ++ tk (clC x) :: clK (a ++ b) = ((x.1 ++ x.2).map cvE ++ tk (clC x) :: clK a) ++ clK b
    rw [clK_app a b, List.append_assoc]
    rfl
theorem clK_len : ∀ a, (clK a).length = (clE a).length + a.length
  | [] => rfl
  | x :: a => by
    show ((x.1 ++ x.2).map cvE ++ tk (clC x) :: clK a).length = ((x.1 ++ x.2) ++ clE a).length + (a.length + 1)
    rw [List.length_append, List.length_map, List.length_cons, List.length_append (as := x.1 ++ x.2), clK_len a]
    omega
def clG (CL : List (enL × enL)) : Prop := ∀ x ∈ CL, wfS x.1 ∧ (x.2 = [] ∨ bfS x.2)
theorem wn_13 : ∀ w : Fin 13, ¬ (-1 - nI w.val) ≤ -100 ∧ (-1 - nI w.val) < 0 ∧ (-1 - (-1 - nI w.val)).toNatClampNeg = w.val := by decide
theorem tk_b {k : Int32} (h : isB k) : tk (tkS k) ≤ -100 ∧ ¬ -100 - tk (tkS k) = 16 ∧ ¬ -100 - tk (tkS k) = 20 ∧ ¬ -100 - tk (tkS k) = 17 ∧ -100 - tk (tkS k) = tkS k ∧ ¬ k = 0 ∧ ¬ k = 1 := by
  rcases h with rfl | rfl | rfl | rfl | rfl | rfl | rfl | rfl | rfl | rfl | rfl | rfl <;> decide
theorem up_s {g : Nat → Int64} {p : Nat} {v : Int64} : vp_updL g p v p = v := by
  show (if p = p then v else g p) = v
  rw [if_pos rfl]
/-- one step on the stack -/
theorem sf_1 {S vl : Nat → Int32} {x : Int32 × Int32} {i d : Nat} {g : Nat → Int64} {st st1 : List Int64} (hS : S i = cvE x) (hv : stE (fun w => (vl w).toInt64) x.1 x.2 st = some st1) (hg : stk g st) (hn : st.length + nvE x ≤ 63) : ∃ g1, sfF S vl (d + 1) i st.length g = sfF S vl d (i + 1) st1.length g1 ∧ stk g1 st1 ∧ st1.length ≤ st.length + nvE x := by
  unfold cvE at hS
  unfold stE at hv
  rw [sfF]
  by_cases c0 : x.1 = 0
  · rw [if_pos c0] at hS hv
    have e : st1 = x.2.toInt64 :: st := (Option.some.inj hv).symm
    have hx : ¬ x.2 < 0 := fun g => by
      have : nvE x = 1000 := by
        unfold nvE
        rw [if_pos (Or.inl c0), if_pos ⟨c0, g⟩]
      omega
    have e1 : nvE x = 1 := by
      unfold nvE
      rw [if_pos (Or.inl c0), if_neg (fun g => hx g.2)]
    have h1 : ¬ x.2 ≤ -100 := fun g => hx (by
      have := Int32.le_iff_toInt_le.mp g
      have e100 : (-100 : Int32).toInt = -100 := by decide
      have e00 : (0 : Int32).toInt = 0 := by decide
      exact Int32.lt_iff_toInt_lt.mpr (by omega))
    rw [hS, if_neg h1, if_pos (show st.length < 64 by omega), if_neg hx, e]
    exact ⟨_, rfl, stk_push hg, by rw [List.length_cons]; omega⟩
  rw [if_neg c0] at hS hv
  by_cases c1 : x.1 = 1
  · rw [if_pos c1] at hS hv
    have e1 : nvE x = 1 := by
      unfold nvE
      rw [if_pos (Or.inr c1), if_neg (fun g => c0 g.1)]
    split at hv
    · rename_i hw
      obtain ⟨hw, ew⟩ := hw
      have e : st1 = (vl x.2.toNatClampNeg).toInt64 :: st := (Option.some.inj hv).symm
      generalize x.2.toNatClampNeg = w at *
      obtain ⟨w1, w2, w3⟩ := wn_13 ⟨w, hw⟩
      rw [ew] at hS
      rw [hS, if_neg w1, if_pos (show st.length < 64 by omega), if_pos w2, e]
      refine ⟨_, rfl, ?_, by rw [List.length_cons]; omega⟩
      have e3 : (-1 - (-1 - nI w)).toNatClampNeg = w := w3
      rw [e3]
      exact stk_push hg
    · exact absurd hv (by simp)
  rw [if_neg c1] at hS hv
  have e0 : nvE x = 0 := by
    unfold nvE
    rw [if_neg (fun g => g.elim c0 c1)]
  by_cases c9 : x.1 = 9
  · rw [if_pos c9] at hv
    have e9 : tkS x.1 = 20 := by rw [c9]; decide
    rw [e9] at hS
    cases st with
    | nil => exact absurd hv (by simp)
    | cons v st0 =>
      have e : st1 = (1 - v) :: st0 := (Option.some.inj hv).symm
      have hl : (v :: st0).length = st0.length + 1 := rfl
      have e1 : st0.length + 1 - 1 = st0.length := by omega
      have hgv : g st0.length = v := hg.1
      rw [hS, if_pos (show tk 20 ≤ -100 by decide), if_neg (show ¬ -100 - tk 20 = 16 by decide), if_pos (show -100 - tk 20 = 20 by decide), hl, if_neg (show ¬ st0.length + 1 < 1 by omega), e1, e, hgv]
      exact ⟨_, rfl, ⟨up_s, stk_upd st0 (Nat.le_refl _) hg.2⟩, by rw [List.length_cons]; omega⟩
  · rw [if_neg c9] at hv
    by_cases cb : isB x.1
    · rw [if_pos cb] at hv
      obtain ⟨b1, b2, b3, b4, b5, -, -⟩ := tk_b cb
      match st, hv, hg, hn with
      | [], hv, _, _ => exact absurd hv (by simp)
      | [_], hv, _, _ => exact absurd hv (by simp)
      | y :: z :: st0, hv, hg, hn =>
        have e : st1 = jnF (tkS x.1) z y :: st0 := (Option.some.inj hv).symm
        have hl : (y :: z :: st0).length = st0.length + 2 := rfl
        have e1 : st0.length + 2 - 1 = st0.length + 1 := by omega
        have e2 : st0.length + 2 - 2 = st0.length := by omega
        have hgy : g (st0.length + 1) = y := hg.1
        have hgz : g st0.length = z := hg.2.1
        rw [hS, if_pos b1, if_neg b2, if_neg b3, hl, if_neg (show ¬ st0.length + 2 < 2 by omega), if_neg b4, e1, e2, b5, e, hgy, hgz]
        exact ⟨_, rfl, ⟨up_s, stk_upd st0 (Nat.le_refl _) hg.2.2⟩, by rw [List.length_cons]; omega⟩
    · rw [if_neg cb] at hv
      exact absurd hv (by simp)
/-- a row of steps on the stack -/
theorem sf_seg {S vl : Nat → Int32} : ∀ (D : enL) (i d : Nat) (st st' : List Int64) (g : Nat → Int64), (∀ j, j < D.length → S (i + j) = cvE (D.getD j (0, 0))) → evL (fun w => (vl w).toInt64) D st = some st' → stk g st → st.length + nvL D ≤ 63 → ∃ g', sfF S vl (D.length + d) i st.length g = sfF S vl d (i + D.length) st'.length g' ∧ stk g' st'
  | [], i, d, st, st', g, _, hv, hg, _ => by
    have e : st = st' := Option.some.inj hv
    exact ⟨g, by rw [← e]; show sfF S vl (0 + d) i st.length g = sfF S vl d (i + 0) st.length g; rw [Nat.zero_add, Nat.add_zero], by rw [← e]; exact hg⟩
  | x :: r, i, d, st, st', g, hS, hv, hg, hn => by
    have hn' : st.length + (nvE x + nvL r) ≤ 63 := hn
    have hv' : (match stE (fun w => (vl w).toInt64) x.1 x.2 st with
      | some st1 => evL (fun w => (vl w).toInt64) r st1
      | none => none) = some st' := hv
    cases e : stE (fun w => (vl w).toInt64) x.1 x.2 st with
    | none => rw [e] at hv'; exact absurd hv' (by simp)
    | some st1 =>
      rw [e] at hv'
      have hS0 : S i = cvE x := hS 0 (by rw [List.length_cons]; omega)
      obtain ⟨g1, a1, a2, a3⟩ := sf_1 (d := r.length + d) hS0 e hg (by omega)
      obtain ⟨g2, b1, b2⟩ := sf_seg r (i + 1) d st1 st' g1 (fun j hj => by
        have := hS (j + 1) (by rw [List.length_cons]; omega)
        rw [show i + 1 + j = i + (j + 1) by omega]
        exact this) hv' a2 (by omega)
      refine ⟨g2, ?_, b2⟩
      rw [show (x :: r).length + d = (r.length + d) + 1 by rw [List.length_cons]; omega, a1, b1, show i + (x :: r).length = i + 1 + r.length by rw [List.length_cons]; omega]
/-- what a row of entries comes to -/
def vL (vl : Nat → Int32) (D : enL) : Int64 := match evL (fun w => (vl w).toInt64) D [] with
  | some (v :: _) => v
  | _ => 0
theorem vL_wf {D : enL} (h : wfS D) (vl : Nat → Int32) (st : List Int64) : evL (fun w => (vl w).toInt64) D st = some (vL vl D :: st) := by
  obtain ⟨v, hv⟩ := h (fun w => (vl w).toInt64)
  have e : vL vl D = v := by
    unfold vL
    rw [hv []]
  rw [e]
  exact hv st
theorem vL_bf {D : enL} (h : bfS D) (vl : Nat → Int32) : vL vl D = 0 ∨ vL vl D = 1 := by
  obtain ⟨v, b, hv⟩ := h (fun w => (vl w).toInt64)
  have e : vL vl D = v := by
    unfold vL
    rw [hv []]
  rw [e]
  exact b
def wnC (vl : Nat → Int32) : List (enL × enL) → Int64
  | [] => 0
  | x :: r => if x.2 = [] then vL vl x.1 else if vL vl x.2 = 1 then vL vl x.1 else wnC vl r
theorem getD_app_l {α : Type} {a b : List α} {j : Nat} {d : α} (h : j < a.length) : (a ++ b).getD j d = a.getD j d := by
  rw [List.getD_eq_getElem?_getD, List.getD_eq_getElem?_getD, List.getElem?_append_left h]
theorem getD_app_r {α : Type} {a b : List α} {j : Nat} {d : α} : (a ++ b).getD (a.length + j) d = b.getD j d := by
  rw [List.getD_eq_getElem?_getD, List.getD_eq_getElem?_getD, List.getElem?_append_right (by omega), Nat.add_sub_cancel_left]
theorem getD_map {D : enL} {j : Nat} (h : j < D.length) : (D.map cvE).getD j 0 = cvE (D.getD j (0, 0)) := by
  rw [List.getD_eq_getElem?_getD, List.getD_eq_getElem?_getD, List.getElem?_map, List.getElem?_eq_getElem h]
  rfl
theorem sf_cl {S vl : Nat → Int32} : ∀ (CL : List (enL × enL)) (i : Nat) (g : Nat → Int64), clG CL → (∀ j, j < (clK CL).length → S (i + j) = (clK CL).getD j 0) → nvL (clE CL) ≤ 60 → sfF S vl (clK CL).length i 0 g = wnC vl CL
  | [], i, g, _, _, _ => rfl
  | x :: r, i, g, hG, hS, hn => by
    have hn' : nvL ((x.1 ++ x.2) ++ clE r) ≤ 60 := hn
    rw [nvL_app] at hn'
    obtain ⟨w1, w2⟩ := hG x (List.mem_cons.mpr (Or.inl rfl))
    have eK : clK (x :: r) = (x.1 ++ x.2).map cvE ++ tk (clC x) :: clK r := rfl
    have eL : (clK (x :: r)).length = (x.1 ++ x.2).length + ((clK r).length + 1) := by
      rw [eK, List.length_append, List.length_map, List.length_cons]
    have hS1 : ∀ j, j < (x.1 ++ x.2).length → S (i + j) = cvE ((x.1 ++ x.2).getD j (0, 0)) := fun j hj => by
      rw [hS j (by rw [eL]; omega), eK, getD_app_l (by rw [List.length_map]; exact hj), getD_map hj]
    have hS2 : S (i + (x.1 ++ x.2).length) = tk (clC x) := by
      rw [hS _ (by rw [eL]; omega), eK]
      have := getD_app_r (a := (x.1 ++ x.2).map cvE) (b := tk (clC x) :: clK r) (j := 0) (d := 0)
      rw [List.length_map, Nat.add_zero] at this
      rw [this]
      rfl
    have hS3 : ∀ j, j < (clK r).length → S (i + (x.1 ++ x.2).length + 1 + j) = (clK r).getD j 0 := fun j hj => by
      have e1 := hS ((x.1 ++ x.2).length + (j + 1)) (by rw [eL]; omega)
      rw [show i + (x.1 ++ x.2).length + 1 + j = i + ((x.1 ++ x.2).length + (j + 1)) by omega, e1, eK]
      have := getD_app_r (a := (x.1 ++ x.2).map cvE) (b := tk (clC x) :: clK r) (j := j + 1) (d := 0)
      rw [List.length_map] at this
      rw [this]
      rfl
    have ih := fun g => sf_cl (S := S) (vl := vl) r (i + (x.1 ++ x.2).length + 1) g (fun z hz => hG z (List.mem_cons.mpr (Or.inr hz))) hS3 (by omega)
    rw [eL, wnC]
    by_cases c : x.2 = []
    · rw [if_pos c]
      have ev : evL (fun w => (vl w).toInt64) (x.1 ++ x.2) [] = some [vL vl x.1] := by
        rw [c, List.append_nil]
        exact vL_wf w1 vl []
      obtain ⟨g', a1, a2⟩ := sf_seg (x.1 ++ x.2) i ((clK r).length + 1) [] _ g hS1 ev trivial (by show 0 + _ ≤ 63; omega)
      have a1' : sfF S vl ((x.1 ++ x.2).length + ((clK r).length + 1)) i 0 g = sfF S vl ((clK r).length + 1) (i + (x.1 ++ x.2).length) 1 g' := a1
      have hc : clC x = 16 := if_pos c
      rw [a1', sfF, hS2, hc, if_pos (show tk 16 ≤ -100 by decide), if_pos (show -100 - tk 16 = 16 by decide), if_neg (by omega)]
      exact a2.1
    · rw [if_neg c]
      have b2 := w2.resolve_left c
      have ev : evL (fun w => (vl w).toInt64) (x.1 ++ x.2) [] = some [vL vl x.2, vL vl x.1] := by
        rw [evL_app _ x.1 x.2 [] _ (vL_wf w1 vl [])]
        exact vL_wf (bf_wf b2) vl _
      obtain ⟨g', a1, a2⟩ := sf_seg (x.1 ++ x.2) i ((clK r).length + 1) [] _ g hS1 ev trivial (by show 0 + _ ≤ 63; omega)
      have a1' : sfF S vl ((x.1 ++ x.2).length + ((clK r).length + 1)) i 0 g = sfF S vl ((clK r).length + 1) (i + (x.1 ++ x.2).length) 2 g' := a1
      have hc : clC x = 17 := if_neg c
      have g1 : g' 1 = vL vl x.2 := a2.1
      have g0 : g' 0 = vL vl x.1 := a2.2.1
      have e1 : 2 - 1 = 1 := rfl
      have e2 : 2 - 2 = 0 := rfl
      rw [a1', sfF, hS2, hc, if_pos (show tk 17 ≤ -100 by decide), if_neg (show ¬ -100 - tk 17 = 16 by decide), if_neg (show ¬ -100 - tk 17 = 20 by decide), if_neg (by omega), if_pos (show -100 - tk 17 = 17 by decide), e1, e2, g1, g0]
      rcases vL_bf b2 vl with e | e
      · rw [if_pos e, if_neg (by rw [e]; decide)]
        exact ih g'
      · rw [if_neg (by rw [e]; decide), if_pos e]
