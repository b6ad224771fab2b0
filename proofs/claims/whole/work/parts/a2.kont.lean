/-! The class's tests, by what stands open: places, fuel, what is still to be done -/
section KON
variable {l : List tok}
theorem cmp_at (c : rdT) (h : c.2.1 < l.length) : c.2.1 ≤ (cmpS l c).2.1 ∧ (cmpS l c).2.1 < l.length := by
  unfold cmpS
  have a := sumS_at (l := l) c h
  generalize sumS l c = b at *
  have a2 := sgnS_at (l := l) b a.2
  generalize sgnS l b = d at *
  have a3 := sumS_at (l := l) d a2.2
  generalize sumS l d = g at *
  show c.2.1 ≤ g.2.1 ∧ g.2.1 < l.length
  omega
def moF (l : List tok) (F : rdT → rdT) : Prop := (∀ c, c.2.1 < l.length → c.2.1 ≤ (F c).2.1 ∧ (F c).2.1 < l.length) ∧ ∀ c, ¬ c.1 = 0 → F c = c
theorem st_pl (c : rdT) (h : c.2.1 < l.length) : c.2.1 ≤ (stS l c).2.1 ∧ (stS l c).2.1 < l.length := ⟨st_ge (l := l) c, stp_lt h⟩
theorem tstL_at {F : rdT → rdT} (hF : moF l F) : ∀ (d : Nat) (c : rdT) (w : Int32), c.2.1 < l.length → c.2.1 ≤ (tstL l F d c w).1.2.1 ∧ (tstL l F d c w).1.2.1 < l.length
  | 0, c, w, h => ⟨Nat.le_refl _, h⟩
  | d + 1, c, w, h => by
    rw [tstL]
    split
    · split
      · have a1 := st_pl c h
        have a2 := hF.1 _ a1.2
        have a3 := tstL_at hF d (adS (tk 18) (F (stS l c))) w a2.2
        have e : (adS (tk 18) (F (stS l c))).2.1 = (F (stS l c)).2.1 := rfl
        omega
      · split
        · have b : ∀ b : rdT, b.2.1 = c.2.1 → c.2.1 ≤ (tstL l F d (F (stS l b)) 1).1.2.1 ∧ (tstL l F d (F (stS l b)) 1).1.2.1 < l.length := fun b hb => by
            have a1 := st_pl (l := l) b (by omega)
            have a2 := hF.1 _ a1.2
            have a3 := tstL_at hF d (F (stS l b)) 1 a2.2
            omega
          exact b _ (by split <;> rfl)
        · exact ⟨Nat.le_refl _, h⟩
    · exact ⟨Nat.le_refl _, h⟩
theorem tstE_at (p : rdT × Int32) : (tstE p).2.1 = p.1.2.1 ∧ (tstE p).1 = p.1.1 := by
  unfold tstE
  split <;> exact ⟨rfl, rfl⟩
theorem cls_at (c : rdT) (h : c.2.1 < l.length) : c.2.1 ≤ (clsS l c).2.1 ∧ (clsS l c).2.1 < l.length := by
  have e : (clsS l c).2.1 = stpF l c.2.1 := by
    unfold clsS
    show stpF l (if tT l c.2.1 = 93 then c else flS l 0 c).2.1 = _
    congr 1
    split <;> rfl
  rw [e]
  exact st_pl c h
theorem cls_f {c : rdT} (h : ¬ c.1 = 0) : (clsS l c).1 = c.1 := by
  unfold clsS
  show (if tT l c.2.1 = 93 then c else flS l 0 c).1 = c.1
  split
  · rfl
  · show (if c.1 = 0 then _ else c.1) = c.1
    rw [if_neg h]
theorem fct_mo : ∀ e, moF l (fctS l e)
  | 0 => ⟨fun c h => by
      rw [fctS]
      split
      · split
        · exact ⟨Nat.le_refl _, h⟩
        · exact cmp_at c h
      · exact ⟨Nat.le_refl _, h⟩, fun c h => by rw [fctS, if_neg h]⟩
  | e + 1 => ⟨fun c h => by
      have ih := fct_mo e
      have a1 := st_pl c h
      have a2 := ih.1 _ a1.2
      rw [fctS]
      split
      · split
        · have e1 : (adS (tk 20) (fctS l e (stS l c))).2.1 = (fctS l e (stS l c)).2.1 := rfl
          omega
        · split
          · have a3 := tstL_at ih 400 (fctS l e (stS l c)) 0 a2.2
            have e1 := (tstE_at (tstL l (fctS l e) 400 (fctS l e (stS l c)) 0)).1
            have a4 := cls_at (l := l) (tstE (tstL l (fctS l e) 400 (fctS l e (stS l c)) 0)) (by omega)
            show c.2.1 ≤ (clsS l (tstE (tstL l (fctS l e) 400 (fctS l e (stS l c)) 0))).2.1 ∧ (clsS l (tstE (tstL l (fctS l e) 400 (fctS l e (stS l c)) 0))).2.1 < l.length
            omega
          · exact cmp_at c h
      · exact ⟨Nat.le_refl _, h⟩, fun c h => by rw [fctS, if_neg h]⟩
theorem tst_stab {F : rdT → rdT} (hl : tkG l) (hF : moF l F) : ∀ (n d : Nat) (c : rdT) (w : Int32), c.2.1 < l.length → l.length - c.2.1 ≤ n → n ≤ d → tstL l F d c w = tstL l F n c w
  | 0, d, c, w, h1, h2, _ => by omega
  | n + 1, 0, c, w, _, _, h3 => by omega
  | n + 1, d + 1, c, w, h1, h2, h3 => by
    have key : ∀ b : rdT, b.2.1 = c.2.1 → ¬ tT l c.2.1 = 259 → (F (stS l b)).2.1 < l.length ∧ l.length - (F (stS l b)).2.1 ≤ n := fun b hb ht => by
      obtain ⟨a1, a2⟩ := st_adv hl h1 ht
      have e : (stS l b).2.1 = stpF l c.2.1 := by rw [← hb]; rfl
      have a3 := hF.1 (stS l b) (by rw [e]; exact stp_lt h1)
      have e' : (stS l c).2.1 = stpF l c.2.1 := rfl
      omega
    rw [tstL, tstL]
    by_cases c0 : c.1 = 0
    · rw [if_pos c0, if_pos c0]
      by_cases ca : tT l c.2.1 = 18
      · rw [if_pos ca, if_pos ca]
        have := key c rfl (by rw [ca]; decide)
        exact tst_stab hl hF n d _ _ this.1 this.2 (by omega)
      · rw [if_neg ca, if_neg ca]
        by_cases co : tT l c.2.1 = 19
        · rw [if_pos co, if_pos co]
          have := key (if w = 0 then c else adS (tk 19) c) (by split <;> rfl) (by rw [co]; decide)
          exact tst_stab hl hF n d _ _ this.1 this.2 (by omega)
        · rw [if_neg co, if_neg co]
    · rw [if_neg c0, if_neg c0]
/-- what the class has still to do, by what stands open; w: whether an or stands open at this level -/
def kC (l : List tok) : List Int32 → Nat → Int32 → rdT → rdT
  | [], e, w, c => tstE (tstL l (fctS l e) 400 c w)
  | x :: r, e, w, c => if x = 9 then kC l r (e + 1) 0 (adS (tk 20) c) else if x = 10 then kC l r e 0 (adS (tk 18) c) else if x = 11 then kC l r e 1 c else kC l r (e + 1) 0 (clsS l (tstE (tstL l (fctS l e) 400 c w)))
/-- the form of what stands open: 0 anything, 1 below an and, 2 below an or -/
def shp : List Int32 → Nat → Prop
  | [], _ => True
  | x :: r, m => (x = 9 ∧ m = 0 ∧ shp r 0) ∨ (x = 10 ∧ m = 0 ∧ shp r 1) ∨ (x = 11 ∧ m ≤ 1 ∧ shp r 2) ∨ (x = 12 ∧ shp r 0)
theorem tst_f {F : rdT → rdT} {c : rdT} {w : Int32} (h : ¬ c.1 = 0) : tstL l F 400 c w = (c, w) := by rw [tstL, if_neg h]
theorem kC_f : ∀ (st : List Int32) (e : Nat) (w : Int32) (c : rdT), ¬ c.1 = 0 → (kC l st e w c).1 = c.1
  | [], e, w, c, h => by
    rw [kC, tst_f h]
    exact (tstE_at (c, w)).2
  | x :: r, e, w, c, h => by
    rw [kC]
    split
    · exact kC_f r (e + 1) 0 (adS (tk 20) c) h
    · split
      · exact kC_f r e 0 (adS (tk 18) c) h
      · split
        · exact kC_f r e 1 c h
        · rw [tst_f h]
          have e1 : (tstE (c, w)).1 = c.1 := (tstE_at (c, w)).2
          have h2 : ¬ (tstE (c, w)).1 = 0 := by rw [e1]; exact h
          have e2 := cls_f (l := l) h2
          rw [kC_f r (e + 1) 0 _ (by rw [e2]; exact h2), e2, e1]
theorem tst_and {F : rdT → rdT} {c : rdT} {w : Int32} (hl : tkG l) (hF : moF l F) (h0 : c.1 = 0) (h1 : c.2.1 < l.length) (h4 : l.length - c.2.1 ≤ 400) (ht : tT l c.2.1 = 18) : tstL l F 400 c w = tstL l F 400 (adS (tk 18) (F (stS l c))) w := by
  obtain ⟨a1, a2⟩ := st_adv hl h1 (by rw [ht]; decide)
  have a3 := hF.1 (stS l c) (by omega)
  have e : tstL l F 400 c w = tstL l F 399 (adS (tk 18) (F (stS l c))) w := by rw [tstL, if_pos h0, if_pos ht]
  rw [e]
  exact (tst_stab hl hF 399 400 (adS (tk 18) (F (stS l c))) w a3.2 (by show l.length - (F (stS l c)).2.1 ≤ 399; omega) (by omega)).symm
theorem tst_or {F : rdT → rdT} {c : rdT} {w : Int32} (hl : tkG l) (hF : moF l F) (h0 : c.1 = 0) (h1 : c.2.1 < l.length) (h4 : l.length - c.2.1 ≤ 400) (ht : tT l c.2.1 = 19) : tstL l F 400 c w = tstL l F 400 (F (stS l (tstE (c, w)))) 1 := by
  obtain ⟨a1, a2⟩ := st_adv hl h1 (by rw [ht]; decide)
  have n18 : ¬ tT l c.2.1 = 18 := by rw [ht]; decide
  have eb : (stS l (tstE (c, w))).2.1 = (stS l c).2.1 := by
    show stpF l (tstE (c, w)).2.1 = stpF l c.2.1
    rw [(tstE_at (c, w)).1]
  have a3 := hF.1 (stS l (tstE (c, w))) (by omega)
  have e : tstL l F 400 c w = tstL l F 399 (F (stS l (tstE (c, w)))) 1 := by
    rw [tstL, if_pos h0, if_neg n18, if_pos ht]
    rfl
  rw [e]
  exact (tst_stab hl hF 399 400 _ 1 a3.2 (by omega) (by omega)).symm
theorem tst_end {F : rdT → rdT} {c : rdT} {w : Int32} (n18 : ¬ tT l c.2.1 = 18) (n19 : ¬ tT l c.2.1 = 19) : tstL l F 400 c w = (c, w) := by
  rw [tstL, if_neg n18, if_neg n19]
  split <;> rfl
theorem kc_9 {r : List Int32} {e : Nat} {w : Int32} {c : rdT} : kC l (9 :: r) e w c = kC l r (e + 1) 0 (adS (tk 20) c) := by rw [kC, if_pos rfl]
theorem kc_10 {r : List Int32} {e : Nat} {w : Int32} {c : rdT} : kC l (10 :: r) e w c = kC l r e 0 (adS (tk 18) c) := by rw [kC, if_neg (by decide), if_pos rfl]
theorem kc_11 {r : List Int32} {e : Nat} {w : Int32} {c : rdT} : kC l (11 :: r) e w c = kC l r e 1 c := by rw [kC, if_neg (by decide), if_neg (by decide), if_pos rfl]
theorem kc_12 {r : List Int32} {e : Nat} {w : Int32} {c : rdT} : kC l (12 :: r) e w c = kC l r (e + 1) 0 (clsS l (tstE (tstL l (fctS l e) 400 c w))) := by rw [kC, if_neg (by decide), if_neg (by decide), if_neg (by decide)]
/-- below an or: nothing, or a bracket -/
theorem shp_2 : ∀ {r : List Int32}, shp r 2 → r = [] ∨ ∃ q, r = 12 :: q ∧ shp q 0
  | [], _ => Or.inl rfl
  | x :: r, h => by
    rcases h with ⟨-, g, -⟩ | ⟨-, g, -⟩ | ⟨-, g, -⟩ | ⟨rfl, g⟩
    · omega
    · omega
    · omega
    · exact Or.inr ⟨r, rfl, g⟩
theorem kb_and {r : List Int32} {e : Nat} {w : Int32} {c : rdT} (hl : tkG l) (hr : shp r 2) (h0 : c.1 = 0) (h1 : c.2.1 < l.length) (h4 : l.length - c.2.1 ≤ 400) (ht : tT l c.2.1 = 18) : kC l r e w c = kC l r e w (adS (tk 18) (fctS l e (stS l c))) := by
  have := tst_and (w := w) hl (fct_mo (l := l) e) h0 h1 h4 ht
  rcases shp_2 hr with rfl | ⟨q, rfl, -⟩
  · rw [kC, kC, this]
  · rw [kc_12, kc_12, this]
theorem kb_or {r : List Int32} {e : Nat} {w : Int32} {c : rdT} (hl : tkG l) (hr : shp r 2) (h0 : c.1 = 0) (h1 : c.2.1 < l.length) (h4 : l.length - c.2.1 ≤ 400) (ht : tT l c.2.1 = 19) : kC l r e w c = kC l r e 1 (fctS l e (stS l (tstE (c, w)))) := by
  have := tst_or (w := w) hl (fct_mo (l := l) e) h0 h1 h4 ht
  rcases shp_2 hr with rfl | ⟨q, rfl, -⟩
  · rw [kC, kC, this]
  · rw [kc_12, kc_12, this]
theorem kb_end0 {e : Nat} {w : Int32} {c : rdT} (n18 : ¬ tT l c.2.1 = 18) (n19 : ¬ tT l c.2.1 = 19) : kC l [] e w c = tstE (c, w) := by rw [kC, tst_end n18 n19]
theorem kb_end1 {r : List Int32} {e : Nat} {w : Int32} {c : rdT} (n18 : ¬ tT l c.2.1 = 18) (n19 : ¬ tT l c.2.1 = 19) : kC l (12 :: r) e w c = kC l r (e + 1) 0 (clsS l (tstE (c, w))) := by rw [kc_12, tst_end n18 n19]
/-- a fact opens a not, a bracket -/
theorem kf_not {st : List Int32} {e : Nat} {c : rdT} (h0 : c.1 = 0) (ht : tT l c.2.1 = 20) : kC l st (e + 1) 0 (fctS l (e + 1) c) = kC l (9 :: st) e 0 (fctS l e (stS l c)) := by rw [kc_9, fctS, if_pos h0, if_pos ht]
theorem kf_br {st : List Int32} {e : Nat} {c : rdT} (h0 : c.1 = 0) (ht : tT l c.2.1 = 91) : kC l st (e + 1) 0 (fctS l (e + 1) c) = kC l (12 :: st) e 0 (fctS l e (stS l c)) := by
  rw [kc_12, fctS, if_pos h0, if_neg (by rw [ht]; decide), if_pos ht]
  rfl
theorem fct_cm {e : Nat} {c : rdT} (h0 : c.1 = 0) (n20 : ¬ tT l c.2.1 = 20) (n91 : ¬ tT l c.2.1 = 91) : fctS l e c = cmpS l c := by
  cases e with
  | zero => rw [fctS, if_pos h0, if_neg (fun g => g.elim n20 n91)]
  | succ e => rw [fctS, if_pos h0, if_neg n20, if_neg n91]
theorem fct_d0 {c : rdT} (h0 : c.1 = 0) (ht : tT l c.2.1 = 20 ∨ tT l c.2.1 = 91) : fctS l 0 c = flS l 2 c := by rw [fctS, if_pos h0, if_pos ht]
end KON
