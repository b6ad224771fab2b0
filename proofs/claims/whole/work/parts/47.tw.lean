/-! The object while it tries: the Trial beside what is so now -/
def tW (im : Nat → Prop) (H0 H : rm_H) (w : oV) (r : Nat) (rl : rlA) (v : stV) : Prop := isO im H w ∧ isI im H 9 r (oI w) ∧ isT im H rl r v ∧ frM H0 H
section TWA
variable {im : Nat → Prop} {H0 H H1 : rm_H} {w : oV} {k r : Nat} {rl : rlA} {v : stV}
theorem tW.o (h : tW im H0 H w r rl v) : H[0]? = some (cOD (nI (oC w))) := h.1.o
theorem tW.i9 (h : tW im H0 H w r rl v) : H[9]? = some (cIm 9 (oI w).2.2.2.1 (oI w).2.2.2.2) := h.2.1.i9
theorem tW.s18 (h : tW im H0 H w r rl v) : H[18]? = some (cS9 19 20 r (sK (oS w)) (s9 (oS w))) := h.2.1.s18
theorem tW.t84 (h : tW im H0 H w r rl v) : ∃ ru op, H[84]? = some (cTr 85 93 ru op) := by
  obtain ⟨-, -, ⟨-, ru, op, g, h1, -⟩, -⟩ := h
  exact ⟨ru, op, h1⟩
theorem tW.ss (h : tW im H0 H w r rl v) : isS im H 85 91 92 r v := by
  obtain ⟨-, -, ⟨-, ru, op, g, -, -, h3, -⟩, -⟩ := h
  exact h3
theorem tW.s85 (h : tW im H0 H w r rl v) : H[85]? = some (cS9 91 92 r (sK v) (s9 v)) := h.ss.2.1
theorem tW.q (h : tW im H0 H w r rl v) {x : Int32} : qO H0 (x, w) (some (.int x)) H := ⟨rfl, ⟨im, h.1⟩, h.2.2.2⟩
theorem tW.stp {rl1 : rlA} {v1 : stV} (h : tW im H0 H w r rl v) (q : isT im H1 rl1 r v1) (b : sB tP H H1) : tW im H0 H1 w r rl1 v1 := ⟨h.1.t b ⟨_, _, _, q⟩, h.2.1.sB b q.im (fun i hi => by unfold tP at hi; unfold iP; omega), q, h.2.2.2.trans (frM.t b)⟩
theorem tW.stS {v1 : stV} (h : tW im H0 H w r rl v) (q : isS im H1 85 91 92 r v1) (b : sB (stP 85 91 92) H H1) : tW im H0 H1 w r rl v1 := h.stp (isT_cp h.2.2.1 q b) (b.mono stP_tP)
theorem w_start {ru : Value} (hk : 2 ≤ k) (h : isO im H w) (hi : isI im H 9 r (oI w)) (hr : isRu2 im H ru rl) : rm_Do mX9_start k [.ref 84, .ref 18, ru] H (fun z H1 => z = none ∧ tW im H H1 w r rl (oS w)) := by
  refine (c_start hk (by omega) (by omega) (by omega) (by omega) (by omega) h.tr hi.ss hr).mono ?_
  rintro _ H1 ⟨rfl, q, b⟩
  exact ⟨rfl, h.t b ⟨_, _, _, q⟩, hi.sB b q.im (fun i hi => by unfold tP at hi; unfold iP; omega), q, frM.t b⟩
/-- again from what is so now -/
theorem w_restart {ru : Value} {rl1 : rlA} (hk : 2 ≤ k) (h : tW im H0 H w r rl1 v) (hr : isRu2 im H ru rl) : rm_Do mX9_start k [.ref 84, .ref 18, ru] H (fun z H1 => z = none ∧ tW im H0 H1 w r rl (oS w)) := by
  refine (w_start hk h.1 h.2.1 hr).mono ?_
  rintro _ H1 ⟨rfl, q⟩
  exact ⟨rfl, q.1, q.2.1, q.2.2.1, h.2.2.2.trans q.2.2.2⟩
theorem w_pD (hk : 4 ≤ k) (h : tW im H0 H w r rl v) : rm_Do mX9_passDay k [.ref 84] H (fun z H1 => z = some (.int (dyV rl v).1) ∧ tW im H0 H1 w r rl (dyV rl v).2) := by
  refine (c_pD hk h.2.2.1).mono ?_
  rintro _ H1 ⟨rfl, q, b⟩
  exact ⟨rfl, h.stp q b⟩
theorem w_pDs {n : Nat} (hk : 5 ≤ k) (hn : n < 1000) (h : tW im H0 H w r rl v) : rm_Do mX9_passDays k [.ref 84, .int (nI n)] H (fun z H1 => z = none ∧ tW im H0 H1 w r rl (dsV rl n v)) := by
  refine (c_pDs hk hn h.2.2.1).mono ?_
  rintro _ H1 ⟨rfl, q, b⟩
  exact ⟨rfl, h.stp q b⟩
theorem w_bB {n : Nat} (hk : 5 ≤ k) (hn : n < 1000) (h : tW im H0 H w r rl v) : rm_Do mX9_balanceBehind k [.ref 84, .int (nI n)] H (fun z H1 => z = some (.int (balV (bsV rl n v))) ∧ tW im H0 H1 w r rl (bsV rl n v)) := by
  refine (c_bB hk hn h.2.2.1).mono ?_
  rintro _ H1 ⟨rfl, q, b⟩
  exact ⟨rfl, h.stp q b⟩
theorem w_eg (h : tW im H0 H w r rl v) : tW im H0 (H.set 85 (cS9 91 92 r (sK v) ((s9 v).1, (s9 v).2.1, (s9 v).2.2.1, (s9 v).2.2.2.1, (s9 v).2.2.2.2.1, 1, (s9 v).2.2.2.2.2.2))) w r rl (setEg 1 v) := by
  have q := isT_set (wk := sK v) (s := ((s9 v).1, (s9 v).2.1, (s9 v).2.2.1, (s9 v).2.2.2.1, (s9 v).2.2.2.2.1, 1, (s9 v).2.2.2.2.2.2)) (Or.inr rfl) h.2.2.1
  exact h.stp q.1 q.2
theorem w_tie {x y : Nat} (hx : x < 8) (hy : y < 8) (h : tW im H0 H w r rl v) : rm_Do mX7_tieOrCut k [.ref 85, .int (nI x), .int (nI y)] H (fun z H1 => z = none ∧ tW im H0 H1 w r rl (tieV x y v)) := by
  refine (c_tie (by omega) hx hy h.ss).mono ?_
  rintro _ H1 ⟨rfl, q, b⟩
  exact ⟨rfl, h.stS q b⟩
theorem w_ans {x : Nat} (hk : 1 ≤ k) (hx : x < rN (sR v)) (h : tW im H0 H w r rl v) : rm_Do mX7_answer k [.ref 85, .int (nI x)] H (fun z H1 => z = some (.int (brV x v)) ∧ tW im H0 H1 w r rl (decV (nI x) v)) := by
  refine (c_ans hk hx h.ss).mono ?_
  rintro _ H1 ⟨rfl, q, b⟩
  exact ⟨rfl, h.stS q b⟩
theorem wn_nat {lo hi x : Int32} {a b : Nat} (ha : lo = nI a) (hb : hi = nI b) (hl : a ≤ 100000 ∧ b < 100000) (h : lo ≤ x ∧ x ≤ hi) : ∃ n, a ≤ n ∧ n ≤ b ∧ x = nI n ∧ x.toNatClampNeg = n := by
  subst ha; subst hb
  have h0 : ¬ x < 0 := fun g => absurd g (Int32.not_lt.mpr (Int32.le_trans (nI_pos' (n := a) (by omega)) h.1))
  obtain ⟨n, h1, rfl, -, h2, -⟩ := pk_mu (L := b + 1) h0 (fun g => absurd (Int32.le_trans g h.2) (nI_ge (by omega) (by omega))) (by omega)
  exact ⟨n, (nI_leI (by omega) (by omega)).mp h.1, by omega, rfl, h2⟩
end TWA
