/-! Realm: a text is read, as a machine over the tokens: fault, place, the realm so far -/
abbrev rz : Type := (Int32 × Nat) × rV
/-- a number is read: what, and fault and place behind it -/
def nuP (l : List tok) (lo hi bn : Int32) (t : Int32 × Nat) : Int32 × (Int32 × Nat) :=
  if t.1 = 0 then (if tT l t.2 = 258 then (if tV l t.2 < lo ∨ hi < tV l t.2 ∨ tV l t.2 = bn then (0, (fF l t.2 1, t.2)) else (tV l t.2, (0, stpF l t.2))) else (0, (fF l t.2 0, t.2))) else (0, t)
def flP (l : List tok) (kd : Int32) (t : Int32 × Nat) : Int32 × Nat := (if t.1 = 0 then fF l t.2 kd else t.1, t.2)
def stP1 (l : List tok) (t : Int32 × Nat) : Int32 × Nat := (t.1, stpF l t.2)
def goP (l : List tok) (t : Int32 × Nat) : Int32 × (Int32 × Nat) := if t.1 = 0 then (if tT l t.2 = 259 then (0, t) else if tT l t.2 = 59 then (1, stP1 l t) else (0, flP l 0 t)) else (0, t)
def rqS (l : List tok) (s : rz) : rz :=
  ((nuP l (nuP l 0 60 (-1) (nuP l 0 99 (-1) s.1).2).1 60 (-1) (nuP l 0 60 (-1) (nuP l 0 99 (-1) s.1).2).2).2, (rTo s.2, rKe s.2, rHa s.2, rN s.2 + 1, rWk s.2, upd (rW s.2) (rN s.2) (nuP l 0 99 (-1) s.1).1, upd (rFr s.2) (rN s.2) (nuP l 0 60 (-1) (nuP l 0 99 (-1) s.1).2).1, upd (rLa s.2) (rN s.2) (nuP l (nuP l 0 60 (-1) (nuP l 0 99 (-1) s.1).2).1 60 (-1) (nuP l 0 60 (-1) (nuP l 0 99 (-1) s.1).2).2).1, rA s.2))
abbrev tiA (A : Nat → Int32) (x y : Int32) : Nat → Int32 := upd (upd A x.toNatClampNeg (A x.toNatClampNeg ||| (1 <<< (y &&& 31)))) y.toNatClampNeg (upd A x.toNatClampNeg (A x.toNatClampNeg ||| (1 <<< (y &&& 31))) y.toNatClampNeg ||| (1 <<< (x &&& 31)))
def raS (l : List tok) (s : rz) : rz :=
  ((nuP l 0 (nI (rN s.2) - 1) (nuP l 0 (nI (rN s.2) - 1) (-1) s.1).1 (nuP l 0 (nI (rN s.2) - 1) (-1) s.1).2).2,
   if (nuP l 0 (nI (rN s.2) - 1) (nuP l 0 (nI (rN s.2) - 1) (-1) s.1).1 (nuP l 0 (nI (rN s.2) - 1) (-1) s.1).2).2.1 = 0 then
     if 0 ≤ (nuP l 0 (nI (rN s.2) - 1) (-1) s.1).1 ∧ (nuP l 0 (nI (rN s.2) - 1) (-1) s.1).1 < nI (rN s.2) then
       if 0 ≤ (nuP l 0 (nI (rN s.2) - 1) (nuP l 0 (nI (rN s.2) - 1) (-1) s.1).1 (nuP l 0 (nI (rN s.2) - 1) (-1) s.1).2).1 ∧ (nuP l 0 (nI (rN s.2) - 1) (nuP l 0 (nI (rN s.2) - 1) (-1) s.1).1 (nuP l 0 (nI (rN s.2) - 1) (-1) s.1).2).1 < nI (rN s.2) then
         (rTo s.2, rKe s.2, rHa s.2, rN s.2, rWk s.2, rW s.2, rFr s.2, rLa s.2, tiA (rA s.2) (nuP l 0 (nI (rN s.2) - 1) (-1) s.1).1 (nuP l 0 (nI (rN s.2) - 1) (nuP l 0 (nI (rN s.2) - 1) (-1) s.1).1 (nuP l 0 (nI (rN s.2) - 1) (-1) s.1).2).1)
       else s.2
     else s.2
   else s.2)
def rkS (l : List tok) (s : rz) : rz := ((nuP l 0 9 (-1) (nuP l 0 9 (-1) s.1).2).2, (rTo s.2, (nuP l 0 9 (-1) s.1).1, (nuP l 0 9 (-1) (nuP l 0 9 (-1) s.1).2).1, s.2.2.2.2))
def rwS (l : List tok) (s : rz) : rz := ((nuP l 0 60 (-1) s.1).2, (rTo s.2, rKe s.2, rHa s.2, rN s.2, rWk s.2 ||| (1 <<< ((nuP l 0 60 (-1) s.1).1.toInt64 &&& 63)), s.2.2.2.2.2.2))
/-- too many, or in a wrong place -/
abbrev rBad (t : Int32) (c N : Nat) : Prop := ¬ c < 40 ∨ ¬ (t = 13 ↔ c = 0) ∨ (t = 0 ∧ ¬ N < 8)
def rsw (l : List tok) (t : Int32) (s : rz) : rz := if t = 0 then rqS l s else if t = 13 then rkS l s else if t = 14 then raS l s else rwS l s
def rcS (l : List tok) (c : Nat) (s : rz) : rz :=
  if tT l s.1.2 = 0 ∨ tT l s.1.2 = 13 ∨ tT l s.1.2 = 14 ∨ tT l s.1.2 = 15 then (if rBad (tT l s.1.2) c (rN s.2) then (flP l 4 s.1, s.2) else rsw l (tT l s.1.2) (stP1 l s.1, s.2)) else (flP l 0 s.1, s.2)
def rmL (l : List tok) : Nat → Nat → rz → rz
  | 0, _, s => s
  | d + 1, c, s => if (goP l (rcS l c s).1).1 = 0 then ((goP l (rcS l c s).1).2, (rcS l c s).2) else rmL l d (c + 1) ((goP l (rcS l c s).1).2, (rcS l c s).2)
def rvZ : rV := (0, 0, 0, 0, 0, fun _ => 0, fun _ => 0, fun _ => 0, fun _ => 0)
def rmS (l : List tok) (at_ : Nat) : rz := rmL l 41 0 ((0, at_), rvZ)
/-- told -/
def rmT (s : rz) : rV := (if s.1.1 = 0 then 1 else 0, s.2.2)
def rrP (r i : Nat) : Prop := i = 1 ∨ (r ≤ i ∧ i ≤ r + 4)
def isRZ (H : rm_H) (r : Nat) (v : rV) : Prop := H[r]? = some (cRe r (rTo v) (rKe v) (rHa v) (nI (rN v)) (rWk v)) ∧ H[r + 1]? = some (cI 8 (rW v)) ∧ H[r + 2]? = some (cI 8 (rFr v)) ∧ H[r + 3]? = some (cI 8 (rLa v)) ∧ H[r + 4]? = some (cI 8 (rA v)) ∧ rN v ≤ 8 ∧ nz8 (rW v) ∧ nz8 (rA v)
theorem isRZ.sB {P : Nat → Prop} {H H1 : rm_H} {r : Nat} {v : rV} (h : isRZ H r v) (g : sB P H H1) (hp : ∀ i, r ≤ i → i ≤ r + 4 → ¬ P i) : isRZ H1 r v := by
  obtain ⟨h1, h2, h3, h4, h5, h6⟩ := h
  exact ⟨g.get (hp _ (by omega) (by omega)) h1, g.get (hp _ (by omega) (by omega)) h2, g.get (hp _ (by omega) (by omega)) h3, g.get (hp _ (by omega) (by omega)) h4, g.get (hp _ (by omega) (by omega)) h5, h6⟩
def rzB (H0 H : rm_H) (B : Nat → Int32) (ln : Nat) (l : List tok) (r : Nat) (s : rz) : Prop :=
  (isX H B ln s.1.1 l s.1.2 ∧ s.1.2 < l.length ∧ isRZ H r s.2 ∧ 6 ≤ r) ∧ sB (rrP r) H0 H
theorem nz8_upd {f : Nat → Int32} (hf : nz8 f) {i : Nat} (hi : i < 8) (x : Int32) : nz8 (upd f i x) := by
  intro j hj
  unfold upd
  rw [if_neg (by omega)]
  exact hf j hj
section RZA
variable {k ln r : Nat} {H0 H : rm_H} {B : Nat → Int32} {l : List tok} {s : rz}
theorem rzB.tx (h : rzB H0 H B ln l r s) : H[1]? = some (cTx (nI ln) s.1.1 (nI l.length) (nI s.1.2)) := by
  obtain ⟨⟨⟨T, S, V, h1, -⟩, -⟩, -⟩ := h
  exact h1
theorem rzB.re (h : rzB H0 H B ln l r s) : H[r]? = some (cRe r (rTo s.2) (rKe s.2) (rHa s.2) (nI (rN s.2)) (rWk s.2)) := h.1.2.2.1.1
theorem rzB.x1 {H1 : rm_H} {t : Int32 × Nat} (h : rzB H0 H B ln l r s) (hi : t.2 < l.length) (hx : isX H1 B ln t.1 l t.2) (b : sB (fun i => i = 1) H H1) : rzB H0 H1 B ln l r (t, s.2) := by
  obtain ⟨⟨-, -, h1, h2⟩, hb⟩ := h
  exact ⟨⟨hx, hi, h1.sB b (by intro i h1 h2; omega), h2⟩, hb.trans (b.mono (by rintro i rfl; exact Or.inl rfl))⟩
/-- the realm's own cells -/
theorem rzB.v1 {H1 : rm_H} {v : rV} (h : rzB H0 H B ln l r s) (hv : isRZ H1 r v) (b : sB (fun i => r ≤ i ∧ i ≤ r + 4) H H1) : rzB H0 H1 B ln l r (s.1, v) := by
  obtain ⟨⟨hx, hi, h1, h2⟩, hb⟩ := h
  exact ⟨⟨hx.sB b (by unfold xP; omega), hi, hv, h2⟩, hb.trans (b.mono (fun i hi => Or.inr hi))⟩
theorem c_tkZ (h : rzB H0 H B ln l r s) : rm_Do mX8_token k [.ref 1] H (fun w H1 => H1 = H ∧ w = some (.int (tT l s.1.2))) := c_token h.1.1 h.1.2.1
theorem c_stZ (h : rzB H0 H B ln l r s) : rm_Do mX8_step k [.ref 1] H (fun w H1 => w = none ∧ rzB H0 H1 B ln l r (stP1 l s.1, s.2)) := (c_step h.1.1 h.1.2.1).mono (by
  rintro w H1 ⟨q1, q2, q3⟩
  exact ⟨q1, h.x1 (t := stP1 l s.1) (stp_lt h.1.2.1) q2 q3⟩)
theorem c_flZ {kd : Int32} (h : rzB H0 H B ln l r s) : rm_Do mX8_fail k [.ref 1, .int kd] H (fun w H1 => w = none ∧ rzB H0 H1 B ln l r (flP l kd s.1, s.2)) := (c_fail h.1.1 h.1.2.1).mono (by
  rintro w H1 ⟨q1, q2, q3⟩
  exact ⟨q1, h.x1 (t := flP l kd s.1) h.1.2.1 q2 q3⟩)
theorem c_goZ (hk : 1 ≤ k) (h : rzB H0 H B ln l r s) : rm_Do mX8_goesOn k [.ref 1] H (fun w H1 => w = some (.int (goP l s.1).1) ∧ rzB H0 H1 B ln l r ((goP l s.1).2, s.2)) := (c_goesOn hk h.1.1 h.1.2.1).mono (by
  rintro w H1 ⟨q1, q2⟩
  obtain ⟨⟨f, i⟩, v⟩ := s
  unfold goP
  dsimp only at q2 ⊢
  by_cases c0 : f = 0
  · subst c0
    rw [if_pos rfl] at q2 ⊢
    by_cases c1 : tT l i = 259
    · rw [if_pos c1] at q2 ⊢
      exact ⟨q2.1, h.x1 (t := (0, i)) h.1.2.1 q2.2 q1⟩
    · rw [if_neg c1] at q2 ⊢
      by_cases c2 : tT l i = 59
      · rw [if_pos c2] at q2 ⊢
        exact ⟨q2.1, h.x1 (t := stP1 l (0, i)) (stp_lt h.1.2.1) q2.2 q1⟩
      · rw [if_neg c2] at q2 ⊢
        refine ⟨q2.1, ?_⟩
        show rzB H0 H1 B ln l r ((if (0 : Int32) = 0 then fF l i 0 else 0, i), _)
        rw [if_pos rfl]
        exact h.x1 (t := (fF l i 0, i)) h.1.2.1 q2.2 q1
  · rw [if_neg c0] at q2 ⊢
    exact ⟨q2.1, h.x1 (t := (f, i)) h.1.2.1 q2.2 q1⟩)
theorem c_nuZ {lo hi bn : Int32} (hk : 1 ≤ k) (h : rzB H0 H B ln l r s) : rm_Do mX8_number k [.ref 1, .int lo, .int hi, .int bn] H (fun w H1 => w = some (.int (nuP l lo hi bn s.1).1) ∧ rzB H0 H1 B ln l r ((nuP l lo hi bn s.1).2, s.2)) := by
  obtain ⟨⟨f, i⟩, v⟩ := s
  by_cases c0 : f = 0
  · subst c0
    refine (c_number hk h.1.1 h.1.2.1).mono ?_
    rintro w H1 ⟨q1, q2⟩
    unfold nuP
    dsimp only at q2 ⊢
    rw [if_pos rfl]
    by_cases c1 : tT l i = 258
    · rw [if_pos c1] at q2 ⊢
      by_cases c2 : tV l i < lo ∨ hi < tV l i ∨ tV l i = bn
      · rw [if_pos c2] at q2 ⊢
        exact ⟨q2.1, h.x1 (t := (fF l i 1, i)) h.1.2.1 q2.2 q1⟩
      · rw [if_neg c2] at q2 ⊢
        exact ⟨q2.1, h.x1 (t := (0, stpF l i)) (stp_lt h.1.2.1) q2.2 q1⟩
    · rw [if_neg c1] at q2 ⊢
      exact ⟨q2.1, h.x1 (t := (fF l i 0, i)) h.1.2.1 q2.2 q1⟩
  · refine (c_numberF c0 h.1.1).mono ?_
    rintro w H1 ⟨rfl, q2⟩
    unfold nuP
    dsimp only
    rw [if_neg c0]
    exact ⟨q2, h⟩
end RZA
