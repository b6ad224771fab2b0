/-! Trial: a day -/
theorem ne_c {H : rm_H} {a b : Nat} {e1 e2 : va_E} (hA : H[a]? = some e1) (hB : H[b]? = some e2) (h : ¬ e1 = e2) : ¬ a = b := by
  rintro rfl
  rw [hA] at hB
  exact h (Option.some.inj hB)
/-- the ones that are there, bit by bit -/
theorem oset_bt {dn dy : Int32} {Fr : Nat → Int32} : ∀ n, n ≤ 8 → ∀ i, i < 32 → (bt (o_set dn dy Fr n) i = true ↔ i < n ∧ ¬ dy < Fr i ∧ bq dn (nI i) = 0)
  | 0, _, i, hi => by simp [o_set, b_0]
  | n + 1, hn, i, hi => by
    have ih := oset_bt (dn := dn) (dy := dy) (Fr := Fr) n (by omega) i hi
    unfold o_set
    by_cases h1 : dy < Fr n
    · rw [if_pos h1, ih]
      constructor
      · rintro ⟨q1, q2, q3⟩
        exact ⟨by omega, q2, q3⟩
      · rintro ⟨q1, q2, q3⟩
        refine ⟨?_, q2, q3⟩
        rcases Nat.lt_or_ge i n with q | q
        · exact q
        · have : i = n := by omega
          subst this
          exact absurd h1 q2
    · rw [if_neg h1]
      by_cases h2 : bq dn (nI n) = 0
      · rw [if_pos h2, b_or, Bool.or_eq_true, ih, bt_sh1 (by omega) hi, decide_eq_true_eq]
        constructor
        · rintro (⟨q1, q2, q3⟩ | rfl)
          · exact ⟨by omega, q2, q3⟩
          · exact ⟨by omega, h1, h2⟩
        · rintro ⟨q1, q2, q3⟩
          rcases Nat.lt_or_ge i n with q | q
          · exact Or.inl ⟨q, q2, q3⟩
          · exact Or.inr (by omega)
      · rw [if_neg h2, ih]
        constructor
        · rintro ⟨q1, q2, q3⟩
          exact ⟨by omega, q2, q3⟩
        · rintro ⟨q1, q2, q3⟩
          refine ⟨?_, q2, q3⟩
          rcases Nat.lt_or_ge i n with q | q
          · exact q
          · have : i = n := by omega
            subst this
            exact absurd q3 h2
theorem muF_in {op : Int32} {La : Nat → Int32} : ∀ n, n ≤ 8 → ((muF op La n).1 = -1 ∨ ∃ q, q < n ∧ (muF op La n).1 = nI q ∧ bt op q = true)
  | 0, _ => Or.inl rfl
  | n + 1, hn => by
    have ih := muF_in (op := op) (La := La) n (by omega)
    unfold muF
    by_cases h1 : bq op (nI n) = 0
    · rw [if_pos h1]
      exact ih.imp id (fun ⟨q, q1, q2⟩ => ⟨q, by omega, q2⟩)
    · rw [if_neg h1]
      by_cases h2 : (muF op La n).2 ≤ La n
      · rw [if_pos h2]
        exact ih.imp id (fun ⟨q, q1, q2⟩ => ⟨q, by omega, q2⟩)
      · rw [if_neg h2]
        exact Or.inr ⟨n, by omega, rfl, (bq_n0 (by omega)).mp h1⟩
theorem maF_in {op : Int32} {sq : Nat → Int64} : ∀ n, n ≤ 8 → ((maF op sq n).1 = -1 ∨ ∃ q, q < n ∧ (maF op sq n).1 = nI q ∧ bt op q = true)
  | 0, _ => Or.inl rfl
  | n + 1, hn => by
    have ih := maF_in (op := op) (sq := sq) n (by omega)
    unfold maF
    by_cases h1 : bq op (nI n) = 0
    · rw [if_pos h1]
      exact ih.imp id (fun ⟨q, q1, q2⟩ => ⟨q, by omega, q2⟩)
    · rw [if_neg h1]
      by_cases h2 : (maF op sq n).2 < sq n
      · rw [if_pos h2]
        exact Or.inr ⟨n, by omega, rfl, (bq_n0 (by omega)).mp h1⟩
      · rw [if_neg h2]
        exact ih.imp id (fun ⟨q, q1, q2⟩ => ⟨q, by omega, q2⟩)
/-- day, kept, gained, lost, wasted, egg, answered, bundled, lost ones -/
abbrev c9 : Type := Int32 × Int32 × Int32 × Int32 × Int32 × Int32 × Int32 × Int32 × Int32
abbrev cS9 (pw pa r : Nat) (wk : Int64) (s : c9) : va_E := cSt pw pa r wk s.1 s.2.1 s.2.2.1 s.2.2.2.1 s.2.2.2.2.1 s.2.2.2.2.2.1 s.2.2.2.2.2.2.1 s.2.2.2.2.2.2.2.1 s.2.2.2.2.2.2.2.2
/-- the day's end -/
def endF (Fr La W : Nat → Int32) (N : Nat) (s : c9) : c9 := match s with
  | (dy, kp, ga, lo, wa, _, an, bu, ls) => (dy + 1, kp, ga, (edr (o_set (an ||| bu ||| ls) dy Fr N) dy La W 0 N ls lo).2, wa, 0, an, bu, (edr (o_set (an ||| bu ||| ls) dy Fr N) dy La W 0 N ls lo).1)
/-- what is put to him is answered, or the decision is kept -/
def decF (Fr W A : Nat → Int32) (N : Nat) (ke ha : Int32) (q : Int32) (s : c9) : c9 := match s with
  | (dy, kp, ga, lo, wa, eg, an, bu, ls) => if q < 0 then (dy, i_min ke (kp + 1), ga, lo, wa, eg, an, bu, ls) else (dy, kp, i_min 99999 (ga + br W ha (A q.toNatClampNeg &&& o_set (an ||| bu ||| ls) dy Fr N) (W q.toNatClampNeg) 8), lo, wa, eg, an ||| (1 <<< (q &&& 31)), bu ||| (A q.toNatClampNeg &&& o_set (an ||| bu ||| ls) dy Fr N), ls)
/-- a rule: how many steps, the steps -/
abbrev rlA : Type := Option (Nat × (Nat → Int32))
/-- what is put to him -/
def pickF (rl : rlA) (Fr La W A : Nat → Int32) (N : Nat) (ha : Int32) (s : c9) : Int32 := match s with
  | (dy, kp, ga, lo, wa, _, an, bu, ls) => match rl with
    | none => (muF (o_set (an ||| bu ||| ls) dy Fr N) La 8).1
    | some (n, S) => (maF (o_set (an ||| bu ||| ls) dy Fr N) (sqF S n dy kp ga lo wa (o_set (an ||| bu ||| ls) dy Fr N) ha W A Fr La) 8).1
/-- is the day wasted? -/
def wstF (wk : Int64) (s : c9) : Int32 := if s.2.2.2.2.2.1 = 0 then wkb wk s.1 else 1
/-- a day: what was put to him, what is then -/
def dayF (rl : rlA) (wk : Int64) (Fr La W A : Nat → Int32) (N : Nat) (ke ha : Int32) (s : c9) : Int32 × c9 :=
  if wstF wk s = 0 then (pickF rl Fr La W A N ha s, endF Fr La W N (decF Fr W A N ke ha (pickF rl Fr La W A N ha s) s))
  else (-1, endF Fr La W N (s.1, s.2.1, s.2.2.1, s.2.2.2.1, s.2.2.2.2.1 + 1, s.2.2.2.2.2))
theorem pickF_in {rl : rlA} {Fr La W A : Nat → Int32} {N : Nat} {ha : Int32} (hN : N ≤ 8) (s : c9) : pickF rl Fr La W A N ha s = -1 ∨ ∃ q, q < N ∧ pickF rl Fr La W A N ha s = nI q := by
  obtain ⟨dy, kp, ga, lo, wa, eg, an, bu, ls⟩ := s
  cases rl with
  | none =>
    exact (muF_in (op := o_set (an ||| bu ||| ls) dy Fr N) (La := La) 8 (by omega)).imp id (fun ⟨q, q1, q2, q3⟩ => ⟨q, ((oset_bt N hN q (by omega)).mp q3).1, q2⟩)
  | some z =>
    obtain ⟨n, S⟩ := z
    exact (maF_in (op := o_set (an ||| bu ||| ls) dy Fr N) 8 (by omega)).imp id (fun ⟨q, q1, q2, q3⟩ => ⟨q, ((oset_bt N hN q (by omega)).mp q3).1, q2⟩)
