/-! The reference's tests: what holds at the loop's head -/
def tvS (W : enL) (n : Nat) : Prop := ∀ as, ∃ vs : List Int64, vs.length = n ∧ (∀ v ∈ vs, v = 0 ∨ v = 1) ∧ ∀ st, evL as W st = some (vs ++ st)
theorem tv_add {W V : enL} {n : Nat} (h : tvS W n) (hv : bfS V) : tvS (W ++ V) (n + 1) := by
  intro as
  obtain ⟨vs, e, b, h⟩ := h as
  obtain ⟨v, b1, hv⟩ := hv as
  refine ⟨v :: vs, by rw [List.length_cons, e], fun x hx => (List.mem_cons.mp hx).elim (fun g => by rw [g]; exact b1) (b x), fun st => ?_⟩
  rw [evL_app as W V st _ (h st), hv]
  rfl
theorem tv_not {W : enL} {n : Nat} (h : tvS W (n + 1)) : tvS (W ++ [(9, 0)]) (n + 1) := by
  intro as
  obtain ⟨vs, e, b, h⟩ := h as
  cases vs with
  | nil => exact absurd e (by rw [List.length_nil]; omega)
  | cons v vs =>
    refine ⟨(1 - v) :: vs, e, fun x hx => (List.mem_cons.mp hx).elim (fun g => ?_) (fun g => b x (List.mem_cons.mpr (Or.inr g))), fun st => ?_⟩
    · rw [g]
      rcases b v (List.mem_cons.mpr (Or.inl rfl)) with rfl | rfl
      · exact Or.inr (by decide)
      · exact Or.inl (by decide)
    · rw [evL_app as W _ st _ (h st)]
      show (match stE as 9 0 (v :: (vs ++ st)) with
        | some st1 => evL as [] st1
        | none => none) = _
      unfold stE
      rw [if_neg (by decide), if_neg (by decide), if_pos rfl]
      rfl
theorem jn_ao {k : Int32} (hk : k = 10 ∨ k = 11) {l r : Int64} (hl : l = 0 ∨ l = 1) (hr : r = 0 ∨ r = 1) : jnF (tkS k) l r = 0 ∨ jnF (tkS k) l r = 1 := by
  rcases hk with rfl | rfl <;> rcases hl with rfl | rfl <;> rcases hr with rfl | rfl <;> decide
theorem tv_bin {W : enL} {n : Nat} {k : Int32} (h : tvS W (n + 2)) (hk : k = 10 ∨ k = 11) : tvS (W ++ [(k, 0)]) (n + 1) := by
  intro as
  obtain ⟨vs, e, b, h⟩ := h as
  match vs, e, b, h with
  | [], e, _, _ => exact absurd e (by rw [List.length_nil]; omega)
  | [_], e, _, _ => exact absurd e (by rw [List.length_cons, List.length_nil]; omega)
  | vb :: va :: vs, e, b, h =>
    refine ⟨jnF (tkS k) va vb :: vs, by rw [List.length_cons, List.length_cons] at e; rw [List.length_cons]; omega, fun x hx => (List.mem_cons.mp hx).elim (fun g => ?_) (fun g => b x (List.mem_cons.mpr (Or.inr (List.mem_cons.mpr (Or.inr g))))), fun st => ?_⟩
    · rw [g]
      exact jn_ao hk (b va (List.mem_cons.mpr (Or.inr (List.mem_cons.mpr (Or.inl rfl))))) (b vb (List.mem_cons.mpr (Or.inl rfl)))
    · rw [evL_app as W _ st _ (h st)]
      show (match stE as k 0 (vb :: va :: (vs ++ st)) with
        | some st1 => evL as [] st1
        | none => none) = _
      have h0 : ¬ k = 0 := by rcases hk with rfl | rfl <;> decide
      have h1 : ¬ k = 1 := by rcases hk with rfl | rfl <;> decide
      have h9 : ¬ k = 9 := by rcases hk with rfl | rfl <;> decide
      have hB : isB k := by rcases hk with rfl | rfl <;> decide
      unfold stE
      rw [if_neg h0, if_neg h1, if_neg h9, if_pos hB]
      rfl
theorem tv_1 {W : enL} (h : tvS W 1) : bfS W := by
  intro as
  obtain ⟨vs, e, b, h⟩ := h as
  match vs, e, b, h with
  | [], e, _, _ => exact absurd e (by decide)
  | [v], _, b, h => exact ⟨v, b v (List.mem_cons.mpr (Or.inl rfl)), h⟩
  | _ :: _ :: _, e, _, _ => rw [List.length_cons, List.length_cons] at e; omega
def jS : List Int32 → Nat
  | [] => 0
  | x :: r => (if x = 12 then 0 else 1) + jS r
def dpS : List Int32 → Nat
  | [] => 0
  | x :: r => (if x = 9 ∨ x = 12 then 1 else 0) + dpS r
def pvS : List Int32 → Nat
  | [] => 0
  | x :: r => (if x = 10 ∨ x = 11 then 1 else 0) + pvS r
/-- v: whether a fact has just been read -/
def ivT (l : List tok) (y : Nat → Int32) (ln : Nat) (K0 : List Int32) (E0 D0 : enL) (v : Nat) (s : psT) (c : rdT) (st : List Int32) (e : Nat) : Prop := s.1 = 0 ∧ e + s.2.2.2.2 = 10 ∧ dpS st = s.2.2.2.2 ∧ bud s (jS st + v) ∧ st.length ≤ s.2.1 ∧ ∃ W, simR l y ln K0 E0 s c (D0 ++ W) ∧ tvS W (pvS st + v)
section IVT
variable {l : List tok} {y : Nat → Int32} {ln : Nat} {K0 : List Int32} {E0 D0 : enL} {s : psT} {c : rdT} {r : List Int32} {e : Nat}
theorem iv_9 (hK : K0.length ≤ E0.length + 13) (hln : ln ≤ 400) (h : ivT l y ln K0 E0 D0 1 s c (9 :: r) e) : ivT l y ln K0 E0 D0 1 (s.1, s.2.1, s.2.2.1 ++ [(9, 0)], s.2.2.2.1, s.2.2.2.2 - (if (9 : Int32) = 9 then 1 else 0)) (adS (tk 20) c) r (e + 1) := by
  obtain ⟨h0, h1, h2, h3, h4, W, h5, h6⟩ := h
  have d1 : dpS (9 :: r) = 1 + dpS r := rfl
  have j1 : jS (9 :: r) = 1 + jS r := rfl
  have p1 : pvS (9 :: r) = 0 + pvS r := rfl
  have l1 : (9 :: r).length = r.length + 1 := rfl
  have r1 := sim_ad (x := (9, 0)) hK hln h5 (fun _ => h3)
  rw [if_pos h0] at r1
  obtain ⟨⟨m, m1, m2⟩, m3⟩ := h3
  have e1 : (if (9 : Int32) = 9 then 1 else 0) = 1 := rfl
  rw [e1]
  refine ⟨h0, by show e + 1 + (s.2.2.2.2 - 1) = 10; omega, by show dpS r = s.2.2.2.2 - 1; omega, ⟨⟨m, ?_, m2⟩, ?_⟩, by show r.length ≤ s.2.1; omega, W ++ [(9, 0)], ?_, ?_⟩
  · show (s.2.2.1 ++ [((9 : Int32), (0 : Int32))]).length + (jS r + 1) ≤ 2 * s.2.2.2.1 + m
    rw [List.length_append]
    show s.2.2.1.length + 1 + (jS r + 1) ≤ 2 * s.2.2.2.1 + m
    omega
  · show nvL (s.2.2.1 ++ [((9 : Int32), (0 : Int32))]) ≤ s.2.2.2.1
    rw [nvL_app]
    exact m3
  · rw [← List.append_assoc]
    exact r1
  · rw [p1, Nat.zero_add] at h6
    exact tv_not h6
theorem iv_b {kd t : Int32} (hkd : (kd = 10 ∧ t = 18) ∨ (kd = 11 ∧ t = 19)) (hK : K0.length ≤ E0.length + 13) (hln : ln ≤ 400) (h : ivT l y ln K0 E0 D0 1 s c (kd :: r) e) : ivT l y ln K0 E0 D0 1 (s.1, s.2.1, s.2.2.1 ++ [(kd, 0)], s.2.2.2.1, s.2.2.2.2 - (if kd = 9 then 1 else 0)) (adS (tk t) c) r e := by
  obtain ⟨h0, h1, h2, h3, h4, W, h5, h6⟩ := h
  have d1 : dpS (kd :: r) = 0 + dpS r := by rcases hkd with ⟨rfl, -⟩ | ⟨rfl, -⟩ <;> rfl
  have j1 : jS (kd :: r) = 1 + jS r := by rcases hkd with ⟨rfl, -⟩ | ⟨rfl, -⟩ <;> rfl
  have p1 : pvS (kd :: r) = 1 + pvS r := by rcases hkd with ⟨rfl, -⟩ | ⟨rfl, -⟩ <;> rfl
  have nk : nvL [(kd, (0 : Int32))] = 0 := by rcases hkd with ⟨rfl, -⟩ | ⟨rfl, -⟩ <;> rfl
  have cv : cvE (kd, 0) = tk t := by rcases hkd with ⟨rfl, rfl⟩ | ⟨rfl, rfl⟩ <;> decide
  have hB : kd = 10 ∨ kd = 11 := by rcases hkd with ⟨rfl, -⟩ | ⟨rfl, -⟩ <;> decide
  have e1 : (if kd = 9 then 1 else 0) = 0 := by rcases hkd with ⟨rfl, -⟩ | ⟨rfl, -⟩ <;> rfl
  have l1 : (kd :: r).length = r.length + 1 := rfl
  have r1 := sim_ad (x := (kd, 0)) hK hln h5 (fun _ => h3)
  rw [if_pos h0, cv] at r1
  obtain ⟨⟨m, m1, m2⟩, m3⟩ := h3
  rw [e1]
  refine ⟨h0, by show e + (s.2.2.2.2 - 0) = 10; omega, by show dpS r = s.2.2.2.2 - 0; omega, ⟨⟨m, ?_, m2⟩, ?_⟩, by show r.length ≤ s.2.1; omega, W ++ [(kd, 0)], ?_, ?_⟩
  · show (s.2.2.1 ++ [(kd, (0 : Int32))]).length + (jS r + 1) ≤ 2 * s.2.2.2.1 + m
    rw [List.length_append]
    show s.2.2.1.length + 1 + (jS r + 1) ≤ 2 * s.2.2.2.1 + m
    omega
  · show nvL (s.2.2.1 ++ [(kd, (0 : Int32))]) ≤ s.2.2.2.1
    rw [nvL_app, nk]
    exact m3
  · rw [← List.append_assoc]
    exact r1
  · rw [p1, show 1 + pvS r + 1 = pvS r + 2 by omega] at h6
    exact tv_bin h6 hB
end IVT
