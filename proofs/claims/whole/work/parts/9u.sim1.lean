/-! The two readers beside each other: values and sums -/
def cvE (x : Int32 × Int32) : Int32 := if x.1 = 0 then x.2 else if x.1 = 1 then -1 - x.2 else tk (tkS x.1)
def simR (l : List tok) (y : Nat → Int32) (ln : Nat) (K0 : List Int32) (E0 : enL) (s : psT) (c : rdT) (D : enL) : Prop := s.1 = c.1 ∧ s.2.1 ≤ ln ∧ (s.1 = 0 → posR y ln l s.2.1 c.2.1 ∧ s.2.2.1 = E0 ++ D ∧ c.2.2.1 = K0 ++ D.map cvE ∧ c.2.2.2 = nI s.2.2.2.1 ∧ s.2.2.2.1 ≤ 60)
/-- how many are put on the stack -/
def nvE (x : Int32 × Int32) : Nat := if x.1 = 0 ∨ x.1 = 1 then (if x.1 = 0 ∧ x.2 < 0 then 1000 else 1) else 0
def nvL : enL → Nat
  | [] => 0
  | x :: r => nvE x + nvL r
theorem nvL_app : ∀ (a b : enL), nvL (a ++ b) = nvL a + nvL b
  | [], b => by show nvL b = 0 + nvL b; omega
  | x :: a, b => by
    show nvE x + nvL (a ++ b) = nvE x + nvL a + nvL b
    rw [nvL_app a b]
    omega
theorem nvL_1 (x : Int32 × Int32) (h : (x.1 = 0 ∧ 0 ≤ x.2) ∨ (x.1 = 1 ∧ ∃ w, w < 13 ∧ x.2 = nI w)) : nvL [x] ≤ 1 := by
  show (if x.1 = 0 ∨ x.1 = 1 then (if x.1 = 0 ∧ x.2 < 0 then 1000 else 1) else 0) + 0 ≤ 1
  have g : ¬ (x.1 = 0 ∧ x.2 < 0) := by
    rintro ⟨g1, g2⟩
    rcases h with ⟨-, h2⟩ | ⟨h1, -⟩
    · exact absurd g2 (Int32.not_lt.mpr h2)
    · rw [g1] at h1
      exact absurd h1 (by decide)
  rw [if_neg g]
  split <;> omega
/-- room for j entries more -/
def bud (s : psT) (j : Nat) : Prop := (∃ m, s.2.2.1.length + j ≤ 2 * s.2.2.2.1 + m ∧ 3 * m ≤ s.2.1) ∧ nvL s.2.2.1 ≤ s.2.2.2.1
theorem pos_hd' {y : Nat → Int32} {ln : Nat} {l : List tok} {p0 i : Nat} (h : posR y ln l p0 i) : tT l i = (tkP y ln (blE y ln ln p0)).1.1 ∧ tS l i = blE y ln ln p0 ∧ tV l i = (tkP y ln (blE y ln ln p0)).1.2.2 ∧ i < l.length ∧ posR y ln l (blE y ln ln p0) i ∧ (blE y ln ln p0 < ln → (tkP y ln (blE y ln ln p0)).2 ≤ ln → posR y ln l (tkP y ln (blE y ln ln p0)).2 (i + 1)) := by
  rcases Nat.eq_zero_or_pos ln with h0 | h0
  · subst h0
    obtain ⟨h1, h2⟩ := h
    have e0 : p0 = 0 := by omega
    subst e0
    have e1 : [((259 : Int32), 0, (0 : Int32))] = l.drop i := h1
    obtain ⟨r1, r2, r3, r4, -⟩ := dr_T e1
    exact ⟨r1, r2, r3, r4, ⟨h1, h2⟩, fun g => absurd g (Nat.lt_irrefl 0)⟩
  · exact pos_hd h h0
theorem tkL_ne {y : Nat → Int32} {ln : Nat} : ∀ d p, ¬ tkL y ln d p = []
  | 0, _ => by intro g; exact absurd g (by simp [tkL])
  | d + 1, p => by
    intro g
    rw [tkL] at g
    split at g
    · split at g
      · exact tkL_ne d (p + 1) g
      · exact absurd g (by simp)
    · exact absurd g (by simp)
theorem pos_lt {y : Nat → Int32} {ln : Nat} {l : List tok} {p i : Nat} (h : posR y ln l p i) : i < l.length := by
  apply Nat.lt_of_not_le
  intro g
  have := h.1
  rw [List.drop_eq_nil_of_le g] at this
  exact tkL_ne _ _ this
theorem stp_1 {l : List tok} {i : Nat} (h : i + 1 < l.length) : stpF l i = i + 1 := if_pos h
theorem adF_1 {K : List Int32} {x : Int32} (h : K.length < 400) : adF K x = K ++ [x] := if_pos h
def isVal (x : Int32 × Int32) : Prop := (x.1 = 0 ∧ 0 ≤ x.2) ∨ (x.1 = 1 ∧ ∃ w, w < 13 ∧ x.2 = nI w)
section SIM
variable {l : List tok} {y : Nat → Int32} {ln : Nat} {K0 : List Int32} {E0 : enL} {s s1 : psT} {c : rdT} {D : enL}
theorem bud_len {j : Nat} (hb : bud s j) (hc : s.2.2.2.1 ≤ 60) (hp : s.2.1 ≤ ln) (hl : ln ≤ 400) : s.2.2.1.length + j ≤ 253 := by
  obtain ⟨⟨m, h1, h2⟩, -⟩ := hb
  omega
theorem sim_len (hK : K0.length ≤ E0.length + 13) (hln : ln ≤ 400) (h : simR l y ln K0 E0 s c D) (h0 : s.1 = 0) {j : Nat} (hb : bud s j) : c.2.2.1.length < 400 ∧ s.2.2.1.length + j < 300 := by
  obtain ⟨-, h2, h3⟩ := h
  obtain ⟨q1, q2, q3, q4, q5⟩ := h3 h0
  have hb' := bud_len hb q5 h2 hln
  rw [q3]
  have e : s.2.2.1.length = E0.length + D.length := by rw [q2, List.length_append]
  rw [List.length_append, List.length_map]
  omega
/-- an entry on both sides -/
theorem sim_ad {x : Int32 × Int32} (hK : K0.length ≤ E0.length + 13) (hln : ln ≤ 400) (h : simR l y ln K0 E0 s c D) {j : Nat} (hb : s.1 = 0 → bud s j) : simR l y ln K0 E0 (s.1, s.2.1, (if s.1 = 0 then s.2.2.1 ++ [x] else s.2.2.1), s.2.2.2) (adS (cvE x) c) (D ++ [x]) := by
  obtain ⟨h1, h2, h3⟩ := id h
  refine ⟨h1, h2, fun h0 => ?_⟩
  obtain ⟨q1, q2, q3, q4, q5⟩ := h3 h0
  have hl := (sim_len hK hln h h0 (hb h0)).1
  refine ⟨q1, ?_, ?_, q4, q5⟩
  · show (if s.1 = 0 then s.2.2.1 ++ [x] else s.2.2.1) = _
    rw [if_pos h0, q2, List.append_assoc]
  · show adF c.2.2.1 (cvE x) = _
    rw [adF_1 hl, q3, List.map_append, List.append_assoc]
    rfl
theorem tk_12 (hl : tkG l) (i : Nat) : tT l i ≤ 12 ↔ ∃ w, w < 13 ∧ tT l i = nI w := by
  obtain ⟨t, ht, et⟩ := hl.2.1 i
  rw [et]
  constructor
  · intro g
    have : t ≤ 12 := (nI_leI (a := t) (b := 12) (by omega) (by omega)).mp g
    exact ⟨t, by omega, rfl⟩
  · rintro ⟨w, hw, e⟩
    have : t = w := (nI_eqI (by omega) (by omega)).mp e
    exact nI_le (b := 12) (by omega) (by omega)
theorem val_sim (hl : tkG l) (hK : K0.length ≤ E0.length + 13) (hln : ln ≤ 400) (h : simR l y ln K0 E0 s c D) {j : Nat} (hb : s.1 = 0 → bud s j) (hv : vaR y ln s s1) : ∃ D1, simR l y ln K0 E0 s1 (valS l c) D1 ∧ (s1.1 = 0 → s.1 = 0 ∧ ∃ x, D1 = D ++ [x] ∧ isVal x ∧ bud s1 (j + 1)) := by
  obtain ⟨v1, v2, v3, v4⟩ := hv
  obtain ⟨h1, h2, h3⟩ := id h
  unfold valS
  rcases v4 with ⟨g0, g1, g2⟩ | ⟨g0, g1, g2, x, g3, g4⟩ | ⟨g0, g1, kd, g2, g3⟩
  · refine ⟨D, ?_, fun g => absurd (g1.symm.trans g) g0⟩
    rw [if_neg (fun q => g0 (h1.trans q))]
    exact ⟨g1.trans h1, v1, fun g => absurd (g1.symm.trans g) g0⟩
  · obtain ⟨q1, q2, q3, q4, q5⟩ := h3 g0
    obtain ⟨r1, r2, r3, r4, r5, r6⟩ := pos_hd' q1
    have hle : (tkP y ln (blE y ln ln s.2.1)).2 ≤ ln := by
      have := v1
      rw [g4] at this
      exact this
    have p1 := r6 g2 hle
    have hlt := pos_lt p1
    have hlen := (sim_len hK hln h g0 (hb g0)).1
    have hgt : s.2.1 ≤ (tkP y ln (blE y ln ln s.2.1)).2 := by
      have a1 := (blE_ge (y := y) (ln := ln) ln s.2.1).1
      have a2 : blE y ln ln s.2.1 < (tkP y ln (blE y ln ln s.2.1)).2 := by
        unfold tkP
        rw [if_pos g2]
        exact tk1_gt g2
      omega
    have fin : isVal x → simR l y ln K0 E0 s1 (vtS l (cvE x) c) (D ++ [x]) ∧ (s1.1 = 0 → s.1 = 0 ∧ ∃ x', D ++ [x] = D ++ [x'] ∧ isVal x' ∧ bud s1 (j + 1)) := by
      intro hx
      have c60 : c.2.2.2 < 60 := by rw [q4]; exact nI_lt (b := 60) g1 (by omega)
      unfold vtS
      rw [if_pos c60, g4]
      refine ⟨⟨?_, hle, fun _ => ⟨?_, ?_, ?_, ?_, by show s.2.2.2.1 + 1 ≤ 60; omega⟩⟩, fun _ => ⟨g0, x, rfl, hx, ?_⟩⟩
      · show 0 = c.1
        rw [← h1, g0]
      · show posR y ln l (tkP y ln (blE y ln ln s.2.1)).2 (stpF l c.2.1)
        rw [stp_1 hlt]
        exact p1
      · show s.2.2.1 ++ [x] = _
        rw [q2, List.append_assoc]
      · show adF c.2.2.1 (cvE x) = _
        rw [adF_1 hlen, q3, List.map_append, List.append_assoc]
        rfl
      · show c.2.2.2 + 1 = _
        rw [q4, nI_inc]
      · obtain ⟨⟨m, m1, m2⟩, m3⟩ := hb g0
        have n1 := nvL_1 x hx
        refine ⟨⟨m, ?_, by show 3 * m ≤ (tkP y ln (blE y ln ln s.2.1)).2; omega⟩, by show nvL (s.2.2.1 ++ [x]) ≤ s.2.2.2.1 + 1; rw [nvL_app]; omega⟩
        show (s.2.2.1 ++ [x]).length + (j + 1) ≤ 2 * (s.2.2.2.1 + 1) + m
        rw [List.length_append]
        show s.2.2.1.length + 1 + (j + 1) ≤ _
        omega
    rw [if_pos (h1.symm.trans g0)]
    rcases g3 with ⟨a1, a2, rfl⟩ | ⟨w, hw, a1, rfl⟩
    · have hvp : 0 ≤ (tkP y ln (blE y ln ln s.2.1)).1.2.2 := by
        have := hl.2.2.1 c.2.1 (r1.trans a1)
        rw [r3] at this
        exact this.elim (fun q => absurd q a2) id
      have ec : cvE (0, (tkP y ln (blE y ln ln s.2.1)).1.2.2) = (tkP y ln (blE y ln ln s.2.1)).1.2.2 := if_pos rfl
      have := fin (Or.inl ⟨rfl, hvp⟩)
      rw [ec] at this
      refine ⟨_, ?_, this.2⟩
      rw [if_pos (r1.trans a1), r3, if_neg a2]
      exact this.1
    · have n258 : ¬ tT l c.2.1 = 258 := by
        rw [r1, a1]
        exact fun g => by have := (nI_eqI (b := 258) (by omega) (by omega)).mp g; omega
      have ec : cvE (1, nI w) = -1 - nI w := by
        unfold cvE
        rw [if_neg (show ¬ (1 : Int32) = 0 by decide), if_pos rfl]
      have := fin (Or.inr ⟨rfl, w, hw, rfl⟩)
      rw [ec] at this
      refine ⟨_, ?_, this.2⟩
      rw [if_neg n258, if_pos ((tk_12 hl _).mpr ⟨w, hw, r1.trans a1⟩), r1, a1]
      exact this.1
  · obtain ⟨q1, q2, q3, q4, q5⟩ := h3 g0
    obtain ⟨r1, r2, r3, r4, r5, r6⟩ := pos_hd' q1
    have hc0 : c.1 = 0 := h1.symm.trans g0
    have hbl := (blE_ge (y := y) (ln := ln) ln s.2.1).2 h2
    have efl : ∀ kd, (flS l kd c).1 = 1 + 8 * nI (blE y ln ln s.2.1) + kd := fun kd => by
      unfold flS fF
      show (if c.1 = 0 then 1 + 8 * nI (tS l c.2.1) + kd else c.1) = _
      rw [if_pos hc0, r2]
    have done : ∀ {z : Nat}, kd = nI z → z < 8 → ∀ c1 : rdT, c1.1 = (flS l kd c).1 → ∃ D1, simR l y ln K0 E0 s1 c1 D1 ∧ (s1.1 = 0 → s.1 = 0 ∧ ∃ x, D1 = D ++ [x] ∧ isVal x ∧ bud s1 (j + 1)) := by
      intro z ez hz c1 e
      have n0 : ¬ s1.1 = 0 := by
        rw [g2, ez]
        exact fa_n0 (by omega) hz
      exact ⟨D, ⟨by rw [e, efl, g2], v1, fun g => absurd g n0⟩, fun g => absurd g n0⟩
    rw [if_pos hc0]
    rcases g3 with ⟨rfl, a1, a2⟩ | ⟨rfl, a1, a2⟩ | ⟨rfl, a1, a2⟩
    · rw [if_pos (r1.trans a1), r3, if_pos a2]
      exact done (z := 1) rfl (by omega) _ rfl
    · have c60 : ¬ c.2.2.2 < 60 := by rw [q4, a1]; decide
      rcases a2 with ⟨b1, b2⟩ | ⟨w, hw, b1⟩
      · rw [if_pos (r1.trans b1), r3, if_neg b2]
        unfold vtS
        rw [if_neg c60]
        exact done (z := 3) rfl (by omega) _ rfl
      · have n258 : ¬ tT l c.2.1 = 258 := by
          rw [r1, b1]
          exact fun g => by have := (nI_eqI (b := 258) (by omega) (by omega)).mp g; omega
        rw [if_neg n258, if_pos ((tk_12 hl _).mpr ⟨w, hw, r1.trans b1⟩)]
        unfold vtS
        rw [if_neg c60]
        exact done (z := 3) rfl (by omega) _ rfl
    · rw [if_neg (fun g => a1 (r1.symm.trans g)), if_neg (fun g => by
        obtain ⟨w, hw, e⟩ := (tk_12 hl _).mp g
        exact a2 w hw (r1.symm.trans e))]
      exact done (z := 0) rfl (by omega) _ rfl
end SIM
