/-! What a rule's steps are: numbers, words, tokens; fewer than bytes -/
def tkG (l : List tok) : Prop := (∀ i, i < l.length → (tT l i = 259 ↔ i + 1 = l.length)) ∧ (∀ i, ∃ t, t ≤ 260 ∧ tT l i = nI t) ∧ (∀ i, tT l i = 258 → tV l i = -1 ∨ 0 ≤ tV l i) ∧ ∀ i, tS l i ≤ 400
def gx (x : Int32) : Prop := 0 ≤ x ∨ x ≤ -100 ∨ ∃ w, w < 13 ∧ x = -1 - nI w
def gs (l : List tok) (j : Nat) (s : rdT) : Prop := (∀ x ∈ s.2.2.1, gx x) ∧ s.2.1 < l.length ∧ (s.1 = 0 → s.2.2.1.length + j ≤ s.2.1)
section GSA
variable {l : List tok} {j : Nat} {s : rdT}
theorem gs.bad (h : gs l j s) (hf : ¬ s.1 = 0) (i : Nat) : gs l i s := ⟨h.1, h.2.1, fun g => absurd g hf⟩
theorem gs.dn {i : Nat} (h : gs l j s) (hi : i ≤ j) : gs l i s := ⟨h.1, h.2.1, fun g => by have := h.2.2 g; omega⟩
theorem fF_n0 (hl : tkG l) (i : Nat) {k : Nat} (hk : k < 8) : ¬ fF l i (nI k) = 0 := by
  have h1 := hl.2.2.2 i
  have e : fF l i (nI k) = nI (1 + 8 * tS l i + k) := by
    unfold fF
    rw [← nI_add, ← nI_add, ← pk_mul]
    rfl
  rw [e]
  exact nI_ne0 (by omega) (by omega)
theorem flS_n0 (hl : tkG l) {k : Nat} (hk : k < 8) : ¬ (flS l (nI k) s).1 = 0 := by
  unfold flS
  by_cases h : s.1 = 0
  · rw [if_pos h]; exact fF_n0 hl _ hk
  · rw [if_neg h]; exact h
theorem gs.fl {i : Nat} (hl : tkG l) (h : gs l j s) {k : Nat} (hk : k < 8) : gs l i (flS l (nI k) s) := ⟨h.1, h.2.1, fun g => absurd g (flS_n0 hl hk)⟩
theorem gs.st0 (h : gs l j s) : gs l j (stS l s) := ⟨h.1, stp_lt h.2.1, fun g => by
  have := h.2.2 g
  show s.2.2.1.length + j ≤ stpF l s.2.1
  unfold stpF
  split <;> omega⟩
theorem gs.st (hl : tkG l) (h : gs l j s) (ht : ¬ tT l s.2.1 = 259) : gs l (j + 1) (stS l s) := ⟨h.1, stp_lt h.2.1, fun g => by
  have h1 := h.2.2 g
  have h2 := h.2.1
  have h3 := (not_congr (hl.1 _ h2)).mp ht
  show s.2.2.1.length + (j + 1) ≤ stpF l s.2.1
  unfold stpF
  rw [if_pos (by omega)]
  omega⟩
theorem adF_mem {K : List Int32} {x y : Int32} (h : y ∈ adF K x) : y ∈ K ∨ y = x := by
  unfold adF at h
  split at h
  · rcases List.mem_append.mp h with q | q
    · exact Or.inl q
    · exact Or.inr (List.mem_singleton.mp q)
  · exact Or.inl h
theorem adF_len (K : List Int32) (x : Int32) : (adF K x).length ≤ K.length + 1 := by
  unfold adF
  split
  · simp
  · omega
theorem gs.ad {x : Int32} (h : gs l (j + 1) s) (hx : gx x) : gs l j (adS x s) := ⟨fun y hy => (adF_mem hy).elim (h.1 y) (fun e => e ▸ hx), h.2.1, fun g => by
  have h1 := h.2.2 g
  have h2 := adF_len s.2.2.1 x
  show (adF s.2.2.1 x).length + j ≤ s.2.1
  omega⟩
theorem gs.adst {x : Int32} (hl : tkG l) (h : gs l j s) (hx : gx x) (ht : ¬ tT l s.2.1 = 259) : gs l j (stS l (adS x s)) := ⟨fun y hy => (adF_mem hy).elim (h.1 y) (fun e => e ▸ hx), stp_lt h.2.1, fun g => by
  have h1 := h.2.2 g
  have h2 := adF_len s.2.2.1 x
  have h4 := h.2.1
  have h3 := (not_congr (hl.1 _ h4)).mp ht
  show (adF s.2.2.1 x).length + j ≤ stpF l s.2.1
  unfold stpF
  rw [if_pos (by omega)]
  omega⟩
theorem gx_tk {t : Nat} (ht : t ≤ 260) : gx (tk (nI t)) := by
  refine Or.inr (Or.inl ?_)
  unfold tk
  have : ∀ t : Fin 261, -100 - nI t.val ≤ -100 := by decide +kernel
  exact this ⟨t, by omega⟩
theorem gx_t (hl : tkG l) (i : Nat) : gx (tk (tT l i)) := by
  obtain ⟨t, h1, h2⟩ := hl.2.1 i
  rw [h2]
  exact gx_tk h1
theorem gs_val (hl : tkG l) (h : gs l j s) : gs l j (valS l s) := by
  have vt : ∀ x, gx x → ¬ tT l s.2.1 = 259 → gs l j (vtS l x s) := by
    intro x hx ht
    unfold vtS
    split
    · exact gs.adst (s := cnS s) hl h hx ht
    · exact h.fl (k := 3) hl (by omega)
  unfold valS
  split
  · split
    · rename_i h1
      have n59 : ¬ tT l s.2.1 = 259 := by rw [h1]; decide
      split
      · exact h.fl (k := 1) hl (by omega)
      · rename_i h2
        exact vt _ (Or.inl ((hl.2.2.1 _ h1).resolve_left h2)) n59
    · split
      · rename_i h2
        obtain ⟨t, h3, h4⟩ := hl.2.1 s.2.1
        have h5 : t ≤ 12 := by
          rw [h4] at h2
          exact (nI_leI (b := 12) (by omega) (by omega)).mp h2
        refine vt _ (Or.inr (Or.inr ⟨t, by omega, by rw [h4]⟩)) (fun g => ?_)
        rw [h4] at g
        have : t = 259 := by
          have := congrArg Int32.toNatClampNeg g
          rw [nI_clamp (by omega)] at this
          exact this
        omega
      · exact h.fl (k := 0) hl (by omega)
  · exact h
/-- what waits, waits as a token -/
def gw (l : List tok) (j : Nat) (w : Int32) (s : rdT) : Prop := (w = 0 ∧ gs l j s) ∨ (¬ w = 0 ∧ gx (tk w) ∧ gs l (j + 1) s)
theorem gw.e {w : Int32} (h : gw l j w s) : gs l j (if w = 0 then s else adS (tk w) s) := by
  rcases h with ⟨h1, h2⟩ | ⟨h1, h2, h3⟩
  · rw [if_pos h1]; exact h2
  · rw [if_neg h1]; exact h3.ad h2
theorem gw.f {F : rdT → rdT} {w : Int32} (hF : ∀ i, gs l i s → gs l i (F s)) (h : gw l j w s) : gw l j w (F s) := h.imp (fun q => ⟨q.1, hF _ q.2⟩) (fun q => ⟨q.1, q.2.1, hF _ q.2.2⟩)
theorem gs_sumL (hl : tkG l) : ∀ (d : Nat) (s : rdT) (w : Int32), gw l j w s → gw l j (sumL l d s w).2 (sumL l d s w).1
  | 0, s, w, h => h
  | d + 1, s, w, h => by
    unfold sumL
    split
    · split
      · rename_i h1
        have n59 : ¬ tT l s.2.1 = 259 := by rcases h1 with q | q <;> rw [q] <;> decide
        refine gs_sumL hl d _ _ (Or.inr ⟨by rcases h1 with q | q <;> rw [q] <;> decide, gx_t hl _, ?_⟩)
        refine gs_val hl ?_
        have he := h.e
        refine gs.st hl he ?_
        have e2 : (if w = 0 then s else adS (tk w) s).2.1 = s.2.1 := by split <;> rfl
        rw [e2]
        exact n59
      · split
        · rename_i h1
          have n59 : ¬ tT l s.2.1 = 259 := by rcases h1 with q | q | q <;> rw [q] <;> decide
          refine gs_sumL hl d _ _ ?_
          exact h.f (F := fun s' => adS (tk (tT l s.2.1)) (valS l (stS l s'))) (fun i hi => (gs_val hl (hi.st hl n59)).ad (gx_t hl _))
        · exact h
    · exact h
theorem gs_sum (hl : tkG l) (h : gs l j s) : gs l j (sumS l s) := (gs_sumL hl 400 (valS l s) 0 (Or.inl ⟨rfl, gs_val hl h⟩)).e
theorem gs_sgn (hl : tkG l) (h : gs l j s) : gs l (j + 1) (sgnS l s) := by
  unfold sgnS
  split
  · rename_i h1
    have n59 : ¬ tT l s.2.1 = 259 := by rcases h1 with q | q | q | q | q <;> rw [q] <;> decide
    split
    · exact gs.st (s := cnS s) hl h n59
    · exact gs.st (s := cnS (flS l 3 s)) hl (h.fl (k := 3) hl (by omega) : gs l j (flS l 3 s)) n59
  · exact gs.st0 (s := cnS (flS l 0 s)) (h.fl (k := 0) hl (by omega) : gs l (j + 1) (flS l 0 s))
theorem gs_cmp (hl : tkG l) (h : gs l j s) : gs l j (cmpS l s) := (gs_sum hl (gs_sgn hl (gs_sum hl h))).ad (gx_t hl _)
theorem gs_tstL {F : rdT → rdT} (hl : tkG l) (hF : ∀ j s, gs l j s → gs l j (F s)) : ∀ (d : Nat) (s : rdT) (w : Int32), ((w = 0 ∧ gs l j s) ∨ (¬ w = 0 ∧ gs l (j + 1) s)) → (((tstL l F d s w).2 = 0 ∧ gs l j (tstL l F d s w).1) ∨ (¬ (tstL l F d s w).2 = 0 ∧ gs l (j + 1) (tstL l F d s w).1))
  | 0, s, w, h => h
  | d + 1, s, w, h => by
    unfold tstL
    split
    · split
      · rename_i h1
        have n59 : ¬ tT l s.2.1 = 259 := by rw [h1]; decide
        refine gs_tstL hl hF d _ _ ?_
        exact h.imp (fun q => ⟨q.1, (hF _ _ (q.2.st hl n59)).ad (gx_tk (t := 18) (by omega))⟩) (fun q => ⟨q.1, (hF _ _ (q.2.st hl n59)).ad (gx_tk (t := 18) (by omega))⟩)
      · split
        · rename_i h1
          have n59 : ¬ tT l s.2.1 = 259 := by rw [h1]; decide
          refine gs_tstL hl hF d _ _ (Or.inr ⟨by decide, hF _ _ ?_⟩)
          have he : gs l j (if w = 0 then s else adS (tk 19) s) := by
            rcases h with ⟨q1, q2⟩ | ⟨q1, q2⟩
            · rw [if_pos q1]; exact q2
            · rw [if_neg q1]; exact q2.ad (gx_tk (t := 19) (by omega))
          refine gs.st hl he ?_
          have e2 : (if w = 0 then s else adS (tk 19) s).2.1 = s.2.1 := by split <;> rfl
          rw [e2]
          exact n59
        · exact h
    · exact h
theorem gs_tst {F : rdT → rdT} (hl : tkG l) (hF : ∀ j s, gs l j s → gs l j (F s)) (h : gs l j s) : gs l j (tstS l F s) := by
  unfold tstS tstE
  rcases gs_tstL hl hF 400 (F s) 0 (Or.inl ⟨rfl, hF _ _ h⟩) with ⟨q1, q2⟩ | ⟨q1, q2⟩
  · rw [if_pos q1]; exact q2
  · rw [if_neg q1]; exact q2.ad (gx_tk (t := 19) (by omega))
theorem gs_fct (hl : tkG l) : ∀ (e j : Nat) (s : rdT), gs l j s → gs l j (fctS l e s)
  | 0, j, s, h => by
    unfold fctS
    split
    · split
      · exact h.fl (k := 2) hl (by omega)
      · exact gs_cmp hl h
    · exact h
  | e + 1, j, s, h => by
    unfold fctS
    split
    · split
      · rename_i h1
        have n59 : ¬ tT l s.2.1 = 259 := by rw [h1]; decide
        exact (gs_fct hl e _ _ (h.st hl n59)).ad (gx_tk (t := 20) (by omega))
      · split
        · have h2 := gs_tst hl (gs_fct hl e) h.st0
          unfold clsS
          split
          · exact h2.st0
          · exact gs.st0 (h2.fl (k := 0) hl (by omega))
        · exact gs_cmp hl h
    · exact h
theorem gs_clau (hl : tkG l) {c : Nat} (h : gs l j s) : gs l j (clauS l c s) := by
  unfold clauS
  split
  · rename_i h1
    have n59 : ¬ tT l s.2.1 = 259 := by rw [h1]; decide
    split
    · have h2 := gs_sum hl (h.st hl n59)
      split
      · exact (gs_tst hl (gs_fct hl 10) h2.st0).ad (gx_tk (t := 17) (by omega))
      · exact h2.ad (gx_tk (t := 16) (by omega))
    · exact h.fl (k := 4) hl (by omega)
  · exact h.fl (k := 0) hl (by omega)
theorem gs_go (hl : tkG l) (h : gs l j s) : gs l j (goS l s).2 := by
  unfold goS
  split
  · split
    · exact h
    · split
      · exact h.st0
      · exact h.fl (k := 0) hl (by omega)
  · exact h
theorem gs_ruL (hl : tkG l) : ∀ (d c : Nat) (s : rdT), gs l j s → gs l j (ruL l d c s)
  | 0, c, s, h => h
  | d + 1, c, s, h => by
    unfold ruL
    split
    · exact gs_go hl (gs_clau hl h)
    · exact gs_ruL hl d _ _ (gs_go hl (gs_clau hl h))
theorem gs_ru (hl : tkG l) (h0 : 0 < l.length) : gs l 0 (ruS l 0) := gs_ruL hl 13 0 _ ⟨fun x hx => absurd hx (by simp), h0, fun _ => Nat.le_refl _⟩
end GSA
