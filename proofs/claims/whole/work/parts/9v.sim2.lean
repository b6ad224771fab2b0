/-! The two readers beside each other: what rows of entries come to; single signs -/
def evL (as : Nat → Int64) : enL → List Int64 → Option (List Int64)
  | [], st => some st
  | x :: r, st => match stE as x.1 x.2 st with
    | some st1 => evL as r st1
    | none => none
theorem evL_app (as : Nat → Int64) : ∀ (a b : enL) (st st1 : List Int64), evL as a st = some st1 → evL as (a ++ b) st = evL as b st1
  | [], b, st, st1, h => by
    have : st = st1 := Option.some.inj h
    rw [this]
    rfl
  | x :: a, b, st, st1, h => by
    show (match stE as x.1 x.2 st with
      | some st1 => evL as (a ++ b) st1
      | none => none) = evL as b st1
    have h' : (match stE as x.1 x.2 st with
      | some st1 => evL as a st1
      | none => none) = some st1 := h
    cases e : stE as x.1 x.2 st with
    | none => rw [e] at h'; exact absurd h' (by simp)
    | some st2 => rw [e] at h'; exact evL_app as a b st2 st1 h'
/-- a row of entries puts one number on the stack -/
def wfS (D : enL) : Prop := ∀ as, ∃ v, ∀ st, evL as D st = some (v :: st)
theorem wf_val {x : Int32 × Int32} (h : isVal x) : wfS [x] := by
  intro as
  rcases h with ⟨h1, h2⟩ | ⟨h1, w, hw, h2⟩
  · refine ⟨x.2.toInt64, fun st => ?_⟩
    show (match stE as x.1 x.2 st with
      | some st1 => evL as [] st1
      | none => none) = _
    unfold stE
    rw [if_pos h1]
    rfl
  · refine ⟨as w, fun st => ?_⟩
    show (match stE as x.1 x.2 st with
      | some st1 => evL as [] st1
      | none => none) = _
    unfold stE
    rw [h1, h2, if_neg (by decide), if_pos rfl, nI_clamp (by omega), if_pos ⟨hw, rfl⟩]
    rfl
theorem wf_bin {a b : enL} {k n : Int32} (ha : wfS a) (hb : wfS b) (hk : isB k) : wfS (a ++ b ++ [(k, n)]) := by
  intro as
  obtain ⟨va, ea⟩ := ha as
  obtain ⟨vb, eb⟩ := hb as
  refine ⟨jnF (tkS k) va vb, fun st => ?_⟩
  rw [evL_app as (a ++ b) _ st (vb :: va :: st) (by rw [evL_app as a b st _ (ea st)]; exact eb _)]
  show (match stE as k n (vb :: va :: st) with
      | some st1 => evL as [] st1
      | none => none) = _
  have h0 : ¬ k = 0 := by rcases hk with rfl | rfl | rfl | rfl | rfl | rfl | rfl | rfl | rfl | rfl | rfl | rfl <;> decide
  have h1 : ¬ k = 1 := by rcases hk with rfl | rfl | rfl | rfl | rfl | rfl | rfl | rfl | rfl | rfl | rfl | rfl <;> decide
  have h9 : ¬ k = 9 := by rcases hk with rfl | rfl | rfl | rfl | rfl | rfl | rfl | rfl | rfl | rfl | rfl | rfl <;> decide
  unfold stE
  rw [if_neg h0, if_neg h1, if_neg h9, if_pos hk]
  rfl
theorem wf_not {a : enL} {n : Int32} (ha : wfS a) : wfS (a ++ [(9, n)]) := by
  intro as
  obtain ⟨va, ea⟩ := ha as
  refine ⟨1 - va, fun st => ?_⟩
  rw [evL_app as a _ st _ (ea st)]
  show (match stE as 9 n (va :: st) with
      | some st1 => evL as [] st1
      | none => none) = _
  unfold stE
  rw [if_neg (by decide), if_neg (by decide), if_pos rfl]
  rfl
/-- a single sign is its own token -/
def sg1 (g : Nat) : Prop := sgn g = true ∧ ¬ (g = 60 ∨ g = 62) ∧ ¬ (48 ≤ g ∧ g ≤ 57) ∧ ¬ (97 ≤ g ∧ g ≤ 122) ∧ 21 ≤ g ∧ g < 256
theorem sg_tk {y : Nat → Int32} {ln p g : Nat} (hg : sg1 g) : (p < ln ∧ y p = nI g) ↔ (tkP y ln p).1.1 = nI g := by
  obtain ⟨g1, g2, g3, g4, g5, g6⟩ := hg
  have kD : isD (nI g) → False := fun q => g3 ⟨(nI_leI (a := 48) (b := g) (by omega) (by omega)).mp q.1, (nI_leI (a := g) (b := 57) (by omega) (by omega)).mp q.2⟩
  have kL : isL (nI g) → False := fun q => g4 ⟨(nI_leI (a := 97) (b := g) (by omega) (by omega)).mp q.1, (nI_leI (a := g) (b := 122) (by omega) (by omega)).mp q.2⟩
  have ne : ∀ {n : Nat}, n < 1000 → ¬ n = g → ¬ nI n = nI g := fun hn hne q => hne ((nI_eqI (by omega) (by omega)).mp q)
  by_cases cp : p < ln
  · have ek : tkP y ln p = tk1 y ln p := if_pos cp
    rw [ek]
    constructor
    · rintro ⟨-, e⟩
      unfold tk1
      rw [e, if_neg kD, if_neg kL, if_neg (fun q => q.1.elim (fun z => ne (n := 60) (by omega) (by omega) z.symm) (fun z => ne (n := 62) (by omega) (by omega) z.symm)), nI_clamp (by omega), if_pos g1]
    · intro e
      refine ⟨cp, ?_⟩
      unfold tk1 at e
      by_cases cD : isD (y p)
      · rw [if_pos cD] at e
        exact absurd e (ne (n := 258) (by omega) (by omega))
      · rw [if_neg cD] at e
        by_cases cL : isL (y p)
        · rw [if_pos cL] at e
          have hW := wd_mt (y := y) (s := p) (e := lE y (ln - (p + 1)) (p + 1))
          generalize wdF y p (lE y (ln - (p + 1)) (p + 1)) = W at *
          have e' : W = nI g := e
          rcases hW with ⟨q, hq, -, h3⟩ | ⟨-, h3⟩
          · exact absurd (h3.symm.trans e') (ne (by omega) (by omega))
          · exact absurd (h3.symm.trans e') (ne (n := 260) (by omega) (by omega))
        · rw [if_neg cL] at e
          by_cases c2 : (y p = 60 ∨ y p = 62) ∧ y (p + 1) = 61
          · rw [if_pos c2] at e
            have e' : (if y p = 60 then (256 : Int32) else 257) = nI g := e
            by_cases c3 : y p = 60
            · rw [if_pos c3] at e'
              exact absurd e' (ne (n := 256) (by omega) (by omega))
            · rw [if_neg c3] at e'
              exact absurd e' (ne (n := 257) (by omega) (by omega))
          · rw [if_neg c2] at e
            have e' : (if sgn (y p).toNatClampNeg = true then y p else 260) = nI g := e
            by_cases c3 : sgn (y p).toNatClampNeg = true
            · rw [if_pos c3] at e'; exact e'
            · rw [if_neg c3] at e'
              exact absurd e' (ne (n := 260) (by omega) (by omega))
  · unfold tkP
    rw [if_neg cp]
    refine ⟨fun q => absurd q.1 cp, fun e => absurd e (ne (n := 259) (by omega) (by omega))⟩
theorem sg_end {y : Nat → Int32} {ln p g : Nat} (hg : sg1 g) (h : p < ln ∧ y p = nI g) : (tkP y ln p).2 = p + 1 := by
  obtain ⟨g1, g2, g3, g4, g5, g6⟩ := hg
  have kD : isD (nI g) → False := fun q => g3 ⟨(nI_leI (a := 48) (b := g) (by omega) (by omega)).mp q.1, (nI_leI (a := g) (b := 57) (by omega) (by omega)).mp q.2⟩
  have kL : isL (nI g) → False := fun q => g4 ⟨(nI_leI (a := 97) (b := g) (by omega) (by omega)).mp q.1, (nI_leI (a := g) (b := 122) (by omega) (by omega)).mp q.2⟩
  have ne : ∀ {n : Nat}, n < 1000 → ¬ n = g → ¬ nI n = nI g := fun hn hne q => hne ((nI_eqI (by omega) (by omega)).mp q)
  unfold tkP tk1
  rw [if_pos h.1, h.2, if_neg kD, if_neg kL, if_neg (fun q => q.1.elim (fun z => ne (n := 60) (by omega) (by omega) z.symm) (fun z => ne (n := 62) (by omega) (by omega) z.symm))]
/-- the sign at the place -/
def sgP (y : Nat → Int32) (ln p : Nat) : Int32 := if p < ln then y p else -1
theorem sgP_iff {y : Nat → Int32} {ln p g : Nat} (hg : g < 256) : sgP y ln p = nI g ↔ (p < ln ∧ y p = nI g) := by
  unfold sgP
  by_cases c : p < ln
  · rw [if_pos c]; exact ⟨fun h => ⟨c, h⟩, fun h => h.2⟩
  · rw [if_neg c]
    refine ⟨fun h => ?_, fun h => absurd h.1 c⟩
    exfalso
    have := Int32.not_lt.mpr (nI_pos' (n := g) (by omega))
    rw [← h] at this
    exact this (by decide)
section SIN
variable {l : List tok} {y : Nat → Int32} {ln : Nat} {K0 : List Int32} {E0 : enL} {s : psT} {c : rdT} {D : enL}
/-- blanks change nothing -/
theorem sim_bl (h : simR l y ln K0 E0 s c D) : simR l y ln K0 E0 (s.1, blE y ln ln s.2.1, s.2.2) c D := by
  obtain ⟨h1, h2, h3⟩ := h
  refine ⟨h1, (blE_ge (y := y) (ln := ln) ln s.2.1).2 h2, fun h0 => ?_⟩
  obtain ⟨q1, q2⟩ := h3 h0
  exact ⟨(pos_hd' q1).2.2.2.2.1, q2⟩
theorem bud_p {j q : Nat} (h : bud s j) (hq : s.2.1 ≤ q) : bud (s.1, q, s.2.2) j := by
  obtain ⟨⟨m, h1, h2⟩, h3⟩ := h
  exact ⟨⟨m, h1, by show 3 * m ≤ q; omega⟩, h3⟩
theorem bud_dn {i j : Nat} (h : bud s j) (hi : i ≤ j) : bud s i := by
  obtain ⟨⟨m, h1, h2⟩, h3⟩ := h
  exact ⟨⟨m, by omega, h2⟩, h3⟩
/-- the token at a place without blanks -/
theorem sim_tok (h : simR l y ln K0 E0 s c D) (h0 : s.1 = 0) (hb : blE y ln ln s.2.1 = s.2.1) : tT l c.2.1 = (tkP y ln s.2.1).1.1 ∧ tS l c.2.1 = s.2.1 := by
  obtain ⟨q1, -⟩ := h.2.2 h0
  have := pos_hd' q1
  rw [hb] at this
  exact ⟨this.1, this.2.1⟩
theorem sim_sg {g : Nat} (hg : sg1 g) (h : simR l y ln K0 E0 s c D) (h0 : s.1 = 0) (hb : blE y ln ln s.2.1 = s.2.1) : tT l c.2.1 = nI g ↔ sgP y ln s.2.1 = nI g := by
  rw [(sim_tok h h0 hb).1, ← sg_tk hg, sgP_iff hg.2.2.2.2.2]
/-- a sign is passed -/
theorem sim_st {g : Nat} (hg : sg1 g) (h : simR l y ln K0 E0 s c D) (h0 : s.1 = 0) (hb : blE y ln ln s.2.1 = s.2.1) (hs : sgP y ln s.2.1 = nI g) : simR l y ln K0 E0 (s.1, s.2.1 + 1, s.2.2) (stS l c) D := by
  have hp := (sgP_iff hg.2.2.2.2.2).mp hs
  obtain ⟨h1, h2, h3⟩ := id h
  refine ⟨h1, hp.1, fun _ => ?_⟩
  obtain ⟨q1, q2, q3, q4, q5⟩ := h3 h0
  obtain ⟨r1, r2, r3, r4, r5, r6⟩ := pos_hd' q1
  rw [hb] at r6
  have p1 := r6 hp.1 (by rw [sg_end hg hp]; exact hp.1)
  rw [sg_end hg hp] at p1
  refine ⟨?_, q2, q3, q4, q5⟩
  show posR y ln l (s.2.1 + 1) (stpF l c.2.1)
  rw [stp_1 (pos_lt p1)]
  exact p1
end SIN
theorem sg_42 : sg1 42 := by unfold sg1; decide
theorem sg_47 : sg1 47 := by unfold sg1; decide
theorem sg_37 : sg1 37 := by unfold sg1; decide
theorem sg_43 : sg1 43 := by unfold sg1; decide
theorem sg_45 : sg1 45 := by unfold sg1; decide
theorem sg_91 : sg1 91 := by unfold sg1; decide
theorem sg_93 : sg1 93 := by unfold sg1; decide
theorem sg_59 : sg1 59 := by unfold sg1; decide
theorem sg_61 : sg1 61 := by unfold sg1; decide
