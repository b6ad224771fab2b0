theorem p9yX12_compared_a0 {k : Nat} {Q : Option Value → rm_H → Prop} {n0 n : Nat} {L : rm_L} {st : List Value} {H : rm_H} {c s : Nat} : rm_p mX12_compared tX12_compared [] k Q n0 (n + 1) 0 L st H c s = rm_w mX12_compared k Q n0 (rm_p mX12_compared tX12_compared [] k Q n0 n) bX12_compared_0 0 L st H c s := propext Iff.rfl
theorem p9yX12_compared_a37 {k : Nat} {Q : Option Value → rm_H → Prop} {n0 n : Nat} {L : rm_L} {st : List Value} {H : rm_H} {c s : Nat} : rm_p mX12_compared tX12_compared [] k Q n0 (n + 1) 37 L st H c s = rm_w mX12_compared k Q n0 (rm_p mX12_compared tX12_compared [] k Q n0 n) bX12_compared_37 37 L st H c s := propext Iff.rfl
theorem p9yX12_compared_a74 {k : Nat} {Q : Option Value → rm_H → Prop} {n0 n : Nat} {L : rm_L} {st : List Value} {H : rm_H} {c s : Nat} : rm_p mX12_compared tX12_compared [] k Q n0 (n + 1) 74 L st H c s = rm_w mX12_compared k Q n0 (rm_p mX12_compared tX12_compared [] k Q n0 n) bX12_compared_74 74 L st H c s := propext Iff.rfl
theorem p9yX12_compared_a75 {k : Nat} {Q : Option Value → rm_H → Prop} {n0 n : Nat} {L : rm_L} {st : List Value} {H : rm_H} {c s : Nat} : rm_p mX12_compared tX12_compared [] k Q n0 (n + 1) 75 L st H c s = rm_w mX12_compared k Q n0 (rm_p mX12_compared tX12_compared [] k Q n0 n) bX12_compared_75 75 L st H c s := propext Iff.rfl
theorem p9yX12_compared_a89 {k : Nat} {Q : Option Value → rm_H → Prop} {n0 n : Nat} {L : rm_L} {st : List Value} {H : rm_H} {c s : Nat} : rm_p mX12_compared tX12_compared [] k Q n0 (n + 1) 89 L st H c s = rm_w mX12_compared k Q n0 (rm_p mX12_compared tX12_compared [] k Q n0 n) bX12_compared_89 89 L st H c s := propext Iff.rfl
theorem p9yX12_compared_a90 {k : Nat} {Q : Option Value → rm_H → Prop} {n0 n : Nat} {L : rm_L} {st : List Value} {H : rm_H} {c s : Nat} : rm_p mX12_compared tX12_compared [] k Q n0 (n + 1) 90 L st H c s = rm_w mX12_compared k Q n0 (rm_p mX12_compared tX12_compared [] k Q n0 n) bX12_compared_90 90 L st H c s := propext Iff.rfl
theorem p9yX12_compared_a110 {k : Nat} {Q : Option Value → rm_H → Prop} {n0 n : Nat} {L : rm_L} {st : List Value} {H : rm_H} {c s : Nat} : rm_p mX12_compared tX12_compared [] k Q n0 (n + 1) 110 L st H c s = rm_w mX12_compared k Q n0 (rm_p mX12_compared tX12_compared [] k Q n0 n) bX12_compared_110 110 L st H c s := propext Iff.rfl
theorem p9yX12_compared_a124 {k : Nat} {Q : Option Value → rm_H → Prop} {n0 n : Nat} {L : rm_L} {st : List Value} {H : rm_H} {c s : Nat} : rm_p mX12_compared tX12_compared [] k Q n0 (n + 1) 124 L st H c s = rm_w mX12_compared k Q n0 (rm_p mX12_compared tX12_compared [] k Q n0 n) bX12_compared_124 124 L st H c s := propext Iff.rfl
theorem p9yX12_compared_a128 {k : Nat} {Q : Option Value → rm_H → Prop} {n0 n : Nat} {L : rm_L} {st : List Value} {H : rm_H} {c s : Nat} : rm_p mX12_compared tX12_compared [] k Q n0 (n + 1) 128 L st H c s = rm_w mX12_compared k Q n0 (rm_p mX12_compared tX12_compared [] k Q n0 n) bX12_compared_128 128 L st H c s := propext Iff.rfl
theorem p9yX12_compared_a137 {k : Nat} {Q : Option Value → rm_H → Prop} {n0 n : Nat} {L : rm_L} {st : List Value} {H : rm_H} {c s : Nat} : rm_p mX12_compared tX12_compared [] k Q n0 (n + 1) 137 L st H c s = rm_w mX12_compared k Q n0 (rm_p mX12_compared tX12_compared [] k Q n0 n) bX12_compared_137 137 L st H c s := propext Iff.rfl
theorem p9yX12_compared_a139 {k : Nat} {Q : Option Value → rm_H → Prop} {n0 n : Nat} {L : rm_L} {st : List Value} {H : rm_H} {c s : Nat} : rm_p mX12_compared tX12_compared [] k Q n0 (n + 1) 139 L st H c s = rm_w mX12_compared k Q n0 (rm_p mX12_compared tX12_compared [] k Q n0 n) bX12_compared_139 139 L st H c s := propext Iff.rfl
theorem p9yX12_compared_c139_a0 {k : Nat} {Q : Option Value → rm_H → Prop} {n0 n : Nat} {L : rm_L} {st : List Value} {H : rm_H} {c s : Nat} : rm_p mX12_compared tX12_compared [139] k Q n0 (n + 1) 0 L st H c s = rm_w mX12_compared k Q n0 (rm_p mX12_compared tX12_compared [139] k Q n0 n) bX12_compared_0 0 L st H c s := propext Iff.rfl
theorem p9yX12_compared_c139_a37 {k : Nat} {Q : Option Value → rm_H → Prop} {n0 n : Nat} {L : rm_L} {st : List Value} {H : rm_H} {c s : Nat} : rm_p mX12_compared tX12_compared [139] k Q n0 (n + 1) 37 L st H c s = rm_w mX12_compared k Q n0 (rm_p mX12_compared tX12_compared [139] k Q n0 n) bX12_compared_37 37 L st H c s := propext Iff.rfl
theorem p9yX12_compared_c139_a74 {k : Nat} {Q : Option Value → rm_H → Prop} {n0 n : Nat} {L : rm_L} {st : List Value} {H : rm_H} {c s : Nat} : rm_p mX12_compared tX12_compared [139] k Q n0 (n + 1) 74 L st H c s = rm_w mX12_compared k Q n0 (rm_p mX12_compared tX12_compared [139] k Q n0 n) bX12_compared_74 74 L st H c s := propext Iff.rfl
theorem p9yX12_compared_c139_a75 {k : Nat} {Q : Option Value → rm_H → Prop} {n0 n : Nat} {L : rm_L} {st : List Value} {H : rm_H} {c s : Nat} : rm_p mX12_compared tX12_compared [139] k Q n0 (n + 1) 75 L st H c s = rm_w mX12_compared k Q n0 (rm_p mX12_compared tX12_compared [139] k Q n0 n) bX12_compared_75 75 L st H c s := propext Iff.rfl
theorem p9yX12_compared_c139_a89 {k : Nat} {Q : Option Value → rm_H → Prop} {n0 n : Nat} {L : rm_L} {st : List Value} {H : rm_H} {c s : Nat} : rm_p mX12_compared tX12_compared [139] k Q n0 (n + 1) 89 L st H c s = rm_w mX12_compared k Q n0 (rm_p mX12_compared tX12_compared [139] k Q n0 n) bX12_compared_89 89 L st H c s := propext Iff.rfl
theorem p9yX12_compared_c139_a90 {k : Nat} {Q : Option Value → rm_H → Prop} {n0 n : Nat} {L : rm_L} {st : List Value} {H : rm_H} {c s : Nat} : rm_p mX12_compared tX12_compared [139] k Q n0 (n + 1) 90 L st H c s = rm_w mX12_compared k Q n0 (rm_p mX12_compared tX12_compared [139] k Q n0 n) bX12_compared_90 90 L st H c s := propext Iff.rfl
theorem p9yX12_compared_c139_a110 {k : Nat} {Q : Option Value → rm_H → Prop} {n0 n : Nat} {L : rm_L} {st : List Value} {H : rm_H} {c s : Nat} : rm_p mX12_compared tX12_compared [139] k Q n0 (n + 1) 110 L st H c s = rm_w mX12_compared k Q n0 (rm_p mX12_compared tX12_compared [139] k Q n0 n) bX12_compared_110 110 L st H c s := propext Iff.rfl
theorem p9yX12_compared_c139_a124 {k : Nat} {Q : Option Value → rm_H → Prop} {n0 n : Nat} {L : rm_L} {st : List Value} {H : rm_H} {c s : Nat} : rm_p mX12_compared tX12_compared [139] k Q n0 (n + 1) 124 L st H c s = rm_w mX12_compared k Q n0 (rm_p mX12_compared tX12_compared [139] k Q n0 n) bX12_compared_124 124 L st H c s := propext Iff.rfl
theorem p9yX12_compared_c139_a128 {k : Nat} {Q : Option Value → rm_H → Prop} {n0 n : Nat} {L : rm_L} {st : List Value} {H : rm_H} {c s : Nat} : rm_p mX12_compared tX12_compared [139] k Q n0 (n + 1) 128 L st H c s = rm_w mX12_compared k Q n0 (rm_p mX12_compared tX12_compared [139] k Q n0 n) bX12_compared_128 128 L st H c s := propext Iff.rfl
theorem p9yX12_compared_c139_a137 {k : Nat} {Q : Option Value → rm_H → Prop} {n0 n : Nat} {L : rm_L} {st : List Value} {H : rm_H} {c s : Nat} : rm_p mX12_compared tX12_compared [139] k Q n0 (n + 1) 137 L st H c s = rm_w mX12_compared k Q n0 (rm_p mX12_compared tX12_compared [139] k Q n0 n) bX12_compared_137 137 L st H c s := propext Iff.rfl
theorem p9yX12_compared_c139_a139 {k : Nat} {Q : Option Value → rm_H → Prop} {n0 n : Nat} {L : rm_L} {st : List Value} {H : rm_H} {c s : Nat} : rm_p mX12_compared tX12_compared [139] k Q n0 (n + 1) 139 L st H c s = rm_S mX12_compared k Q n0 139 L st H c s := propext Iff.rfl
/-! The two readers beside each other: comparisons -/
section FLT
variable {l : List tok}
theorem val_f {c : rdT} (h : ¬ c.1 = 0) : valS l c = c := by unfold valS; rw [if_neg h]
theorem sumS_f {c : rdT} (h : ¬ c.1 = 0) : (sumS l c).1 = c.1 := by
  unfold sumS
  rw [val_f h]
  have e : sumL l 400 c 0 = (c, 0) := by rw [sumL, if_neg h]
  rw [e]
  rfl
theorem sgnS_f {c : rdT} (h : ¬ c.1 = 0) : (sgnS l c).1 = c.1 := by
  have hf : ∀ kd, (flS l kd c).1 = c.1 := fun kd => by
    show (if c.1 = 0 then _ else c.1) = c.1
    rw [if_neg h]
  unfold sgnS
  show (if isCm (tT l c.2.1) then (if c.2.2.2 < 60 then c else flS l 3 c) else flS l 0 c).1 = c.1
  split
  · split
    · rfl
    · exact hf 3
  · exact hf 0
theorem cmpS_f1 {c : rdT} (h : ¬ (sgnS l (sumS l c)).1 = 0) : (cmpS l c).1 = (sgnS l (sumS l c)).1 := by
  unfold cmpS
  generalize sgnS l (sumS l c) = b at *
  generalize tT l (sumS l c).2.1 = t
  have := sumS_f (l := l) h
  generalize sumS l b = d at *
  exact this
theorem sumL_ge : ∀ (d : Nat) (c : rdT) (w : Int32), c.2.1 ≤ (sumL l d c w).1.2.1
  | 0, c, w => Nat.le_refl _
  | d + 1, c, w => by
    rw [sumL]
    split
    · split
      · have h1 := sumL_ge d (valS l (stS l (if w = 0 then c else adS (tk w) c))) (tT l c.2.1)
        have h2 := val_ge (l := l) (stS l (if w = 0 then c else adS (tk w) c))
        have h3 := st_ge (l := l) (if w = 0 then c else adS (tk w) c)
        have h4 : (if w = 0 then c else adS (tk w) c).2.1 = c.2.1 := by split <;> rfl
        omega
      · split
        · have h1 := sumL_ge d (adS (tk (tT l c.2.1)) (valS l (stS l c))) w
          have h2 := val_ge (l := l) (stS l c)
          have h3 := st_ge (l := l) c
          have h5 : (adS (tk (tT l c.2.1)) (valS l (stS l c))).2.1 = (valS l (stS l c)).2.1 := rfl
          omega
        · exact Nat.le_refl _
    · exact Nat.le_refl _
theorem sumL_lt : ∀ (d : Nat) (c : rdT) (w : Int32), c.2.1 < l.length → (sumL l d c w).1.2.1 < l.length
  | 0, c, w, h => h
  | d + 1, c, w, h => by
    rw [sumL]
    split
    · split
      · refine sumL_lt d _ _ (val_lt _ (stp_lt ?_))
        split <;> exact h
      · split
        · exact sumL_lt d _ _ (val_lt (l := l) (stS l c) (stp_lt h))
        · exact h
    · exact h
theorem sumE_at (p : rdT × Int32) : (sumE p).2.1 = p.1.2.1 := by unfold sumE; split <;> rfl
theorem sumS_at (c : rdT) (h : c.2.1 < l.length) : c.2.1 ≤ (sumS l c).2.1 ∧ (sumS l c).2.1 < l.length := by
  unfold sumS
  rw [sumE_at]
  exact ⟨Nat.le_trans (val_ge (l := l) c) (sumL_ge _ _ _), sumL_lt _ _ _ (val_lt _ h)⟩
theorem sgnS_at (c : rdT) (h : c.2.1 < l.length) : c.2.1 ≤ (sgnS l c).2.1 ∧ (sgnS l c).2.1 < l.length := by
  have e : (sgnS l c).2.1 = stpF l c.2.1 := by
    unfold sgnS
    show stpF l (if isCm (tT l c.2.1) then (if c.2.2.2 < 60 then c else flS l 3 c) else flS l 0 c).2.1 = _
    congr 1
    split
    · split <;> rfl
    · rfl
  rw [e]
  exact ⟨st_ge (l := l) c, stp_lt h⟩
end FLT
/-- the sign of a comparison as token -/
theorem cm_tk {y : Nat → Int32} {ln p : Nat} (hp : p < ln) : (y p = 60 → tkP y ln p = if y (p + 1) = 61 then ((256, p, 0), p + 2) else ((60, p, 0), p + 1)) ∧ (y p = 62 → tkP y ln p = if y (p + 1) = 61 then ((257, p, 0), p + 2) else ((62, p, 0), p + 1)) := by
  constructor
  · intro e
    unfold tkP tk1
    rw [if_pos hp, e, if_neg (by decide), if_neg (by decide)]
    by_cases c : y (p + 1) = 61
    · rw [if_pos ⟨Or.inl rfl, c⟩, if_pos c, if_pos rfl]
    · rw [if_neg (fun g => c g.2), if_neg c]
      rfl
  · intro e
    unfold tkP tk1
    rw [if_pos hp, e, if_neg (by decide), if_neg (by decide)]
    by_cases c : y (p + 1) = 61
    · rw [if_pos ⟨Or.inr rfl, c⟩, if_pos c, if_neg (by decide)]
    · rw [if_neg (fun g => c g.2), if_neg c]
      rfl
theorem cm_iff {y : Nat → Int32} {ln p : Nat} : isCm (tkP y ln p).1.1 ↔ (sgP y ln p = 60 ∨ sgP y ln p = 61 ∨ sgP y ln p = 62) := by
  by_cases hp : p < ln
  · have es : sgP y ln p = y p := if_pos hp
    rw [es]
    constructor
    · intro h
      by_cases c1 : y p = 60
      · exact Or.inl c1
      by_cases c2 : y p = 62
      · exact Or.inr (Or.inr c2)
      by_cases c3 : y p = 61
      · exact Or.inr (Or.inl c3)
      exfalso
      unfold tkP tk1 at h
      rw [if_pos hp] at h
      by_cases cD : isD (y p)
      · rw [if_pos cD] at h
        exact absurd h (by show ¬ isCm 258; decide)
      · rw [if_neg cD] at h
        by_cases cL : isL (y p)
        · rw [if_pos cL] at h
          have hW := wd_mt (y := y) (s := p) (e := lE y (ln - (p + 1)) (p + 1))
          generalize wdF y p (lE y (ln - (p + 1)) (p + 1)) = W at *
          have h' : isCm W := h
          rcases hW with ⟨q, hq, -, h3⟩ | ⟨-, h3⟩
          · rw [h3] at h'
            have key : ∀ q : Fin 21, ¬ isCm (nI q.val) := by decide
            exact key ⟨q, hq⟩ h'
          · rw [h3] at h'
            exact absurd h' (by decide)
        · rw [if_neg cL, if_neg (fun g => g.1.elim c1 c2)] at h
          have h' : isCm (if sgn (y p).toNatClampNeg = true then y p else 260) := h
          by_cases cs : sgn (y p).toNatClampNeg = true
          · rw [if_pos cs] at h'
            rcases h' with e | e | e | e | e
            · exact c1 e
            · rw [e] at cs; exact absurd cs (by decide)
            · exact c3 e
            · rw [e] at cs; exact absurd cs (by decide)
            · exact c2 e
          · rw [if_neg cs] at h'
            exact absurd h' (by decide)
    · rintro (e | e | e)
      · rw [(cm_tk hp).1 e]
        split
        · exact Or.inr (Or.inl rfl)
        · exact Or.inl rfl
      · rw [(sg_tk (g := 61) sg_61).mp ⟨hp, e⟩]
        exact Or.inr (Or.inr (Or.inl rfl))
      · rw [(cm_tk hp).2 e]
        split
        · exact Or.inr (Or.inr (Or.inr (Or.inl rfl)))
        · exact Or.inr (Or.inr (Or.inr (Or.inr rfl)))
  · have es : sgP y ln p = -1 := if_neg hp
    rw [es]
    unfold tkP
    rw [if_neg hp]
    refine ⟨fun h => absurd h (by show ¬ isCm 259; decide), fun h => absurd h (by decide)⟩
/-- a row of entries puts 0 or 1 on the stack -/
def bfS (D : enL) : Prop := ∀ as, ∃ v : Int64, (v = 0 ∨ v = 1) ∧ ∀ st, evL as D st = some (v :: st)
theorem bf_wf {D : enL} (h : bfS D) : wfS D := fun as => by
  obtain ⟨v, -, h⟩ := h as
  exact ⟨v, h⟩
theorem jn_cm {t : Int32} (ht : t = 60 ∨ t = 256 ∨ t = 61 ∨ t = 257 ∨ t = 62) (l r : Int64) : jnF t l r = 0 ∨ jnF t l r = 1 := by
  have e : jnF t l r = if isF t l r = 0 then 0 else 1 := by
    unfold jnF
    rcases ht with rfl | rfl | rfl | rfl | rfl <;> rw [if_neg (by decide), if_neg (by decide), if_neg (by decide), if_neg (by decide), if_neg (by decide), if_neg (by decide), if_neg (by decide)]
  rw [e]
  split
  · exact Or.inl rfl
  · exact Or.inr rfl
theorem bf_cm {a b : enL} {k n : Int32} (ha : wfS a) (hb : wfS b) (hk : k = 4 ∨ k = 5 ∨ k = 6 ∨ k = 7 ∨ k = 8) : bfS (a ++ b ++ [(k, n)]) := by
  intro as
  obtain ⟨va, ea⟩ := ha as
  obtain ⟨vb, eb⟩ := hb as
  refine ⟨jnF (tkS k) va vb, jn_cm (by rcases hk with rfl | rfl | rfl | rfl | rfl <;> decide) _ _, fun st => ?_⟩
  rw [evL_app as (a ++ b) _ st (vb :: va :: st) (by rw [evL_app as a b st _ (ea st)]; exact eb _)]
  show (match stE as k n (vb :: va :: st) with
      | some st1 => evL as [] st1
      | none => none) = _
  have h0 : ¬ k = 0 := by rcases hk with rfl | rfl | rfl | rfl | rfl <;> decide
  have h1 : ¬ k = 1 := by rcases hk with rfl | rfl | rfl | rfl | rfl <;> decide
  have h9 : ¬ k = 9 := by rcases hk with rfl | rfl | rfl | rfl | rfl <;> decide
  have hB : isB k := by rcases hk with rfl | rfl | rfl | rfl | rfl <;> decide
  unfold stE
  rw [if_neg h0, if_neg h1, if_neg h9, if_pos hB]
  rfl
/-- what stands behind a comparison -/
def cmQ (y : Nat → Int32) (ln : Nat) (s s1 : psT) (D D1 : enL) (j : Nat) : Prop := s1.2.2.2.2 = s.2.2.2.2 ∧ s1.2.2.2.1 ≤ max 60 s.2.2.2.1 + 3 ∧ (s1.1 = 0 → s.1 = 0 ∧ blE y ln ln s1.2.1 = s1.2.1 ∧ bud s1 (j + 1) ∧ s.2.1 ≤ s1.2.1 ∧ ∃ W, D1 = D ++ W ∧ bfS W)
section RXG
variable {k ln slot : Nat} {H0 H : rm_H} {f0 f So0 Nu0 y : Nat → Int32} {s : psT} {l : List tok} {K0 : List Int32} {E0 : enL} {c : rdT} {D : enL}
theorem pn_cmT {j i p d n0 : Nat} {c1 sm kd : Int32} {H1 : rm_H} {f1 : Nat → Int32} {sp : psT} {cc : rdT} {D1 : enL} {Q : Option Value → rm_H → Prop} (hi : 8 ≤ i) (hs : slot < 6) (hl : tkG l) (hl1 : l.length ≤ 401) (hln : ln ≤ 400) (hK : K0.length ≤ E0.length + 13) (ep : sp.2.1 = p) (hr : simR l y ln K0 E0 (sp.1, p + d, sp.2.2) cc D1) (hlt0 : cc.2.1 < l.length) (h400 : l.length - cc.2.1 ≤ 400) (hb : sp.1 = 0 → bud (sp.1, p + d, sp.2.2) (j + 2)) (hc : sp.2.2.2.1 < 800) (h : psM H0 f0 So0 Nu0 y ln slot H1 f1 sp) (hsm : (c1 = 61 ∧ kd = 6) ∨ (¬ c1 = 61 ∧ c1 = 60 ∧ ¬ sm = 0 ∧ kd = 5) ∨ (¬ c1 = 61 ∧ c1 = 60 ∧ sm = 0 ∧ kd = 4) ∨ (¬ c1 = 61 ∧ ¬ c1 = 60 ∧ ¬ sm = 0 ∧ kd = 7) ∨ (¬ c1 = 61 ∧ ¬ c1 = 60 ∧ sm = 0 ∧ kd = 8)) (hQ : ∀ H2 f2 s2 D2, psM H0 f0 So0 Nu0 y ln slot H2 f2 s2 → simR l y ln K0 E0 s2 (adS (cvE (kd, 0)) (sumS l cc)) (D2 ++ [(kd, 0)]) → s2.2.2.2.2 = sp.2.2.2.2 → s2.2.2.2.1 ≤ max 60 sp.2.2.2.1 + 1 → (s2.1 = 0 → sp.1 = 0 ∧ blE y ln ln s2.2.1 = s2.2.1 ∧ bud s2 (j + 2) ∧ p + d ≤ s2.2.1 ∧ ∃ W, D2 = D1 ++ W ∧ wfS W) → Q none H2) : rm_S mX12_compared (i + 1) Q n0 90 [some (.ref 153), some (.int c1), some (.int sm)] [.int (nI d), .int (nI p), .ref 153] H1 0 0 := by
  have hm1 := psM_m h
  have h2 := p_p h (p + d)
  have hm2 := psM_m h2
  have ea : nI p + nI d = nI (p + d) := nI_add p d
  have fin : ∀ (H3 : rm_H) (f3 : Nat → Int32) (s3 : psT) (D3 : enL) (n0 : Nat), psM H0 f0 So0 Nu0 y ln slot H3 f3 s3 → simR l y ln K0 E0 s3 (sumS l cc) D3 → sumQ y ln (sp.1, p + d, sp.2.2) s3 D1 D3 (j + 2) → rm_S mX12_compared (i + 1) Q n0 139 [some (.ref 153), some (.int c1), some (.int sm)] [.int kd, .ref 153] H3 0 0 := by
    intro H3 f3 s3 D3 n0 h3 r3 q3
    have b3 : s3.1 = 0 → bud s3 (j + 2 + 1) := fun z => (q3.2.2 z).2.2.1
    refine rm_from 4 [] ok_X12_compared atX12_compared_139 ?_
    simp (disch := first | assumption | decide | omega | (simp only [List.length_set]; omega)) only [w_nil, w_nop, w_iload, w_lload, w_aload, w_istore, w_lstore, w_astore, w_astoreN, w_iinc, w_iadd, w_isub, w_imul, w_iand, w_ior, w_ixor, w_ishl, w_ishr, w_iushr, w_idiv, w_irem, w_ladd, w_lsub, w_lmul, w_land, w_lor, w_ldiv, w_lrem, w_lshl, w_lshr, w_lcmp, w_i2l, w_l2i, w_i2b, w_i2c, w_dupI, w_popI, w_dupR, w_popR, w_dupN, w_popN, w_dup2, w_ifnull, w_ifnullN, w_ifnon, w_ifnonN, w_goto, w_getf, w_putf, w_alen, w_iaload, w_baload, w_laload, w_aaload, w_iastore, w_bastore, w_lastore, w_aastore, w_new, w_newarray, w_anewarray, w_static, w_virtual, w_special, w_obj, w_copyi, w_copyq, w_min, w_max, w_iret, w_lret, w_aret, w_aretN, w_ret, g_fg, g_I, g_J, g_R, g_N, g_1r, pw_0, pw_I, pw_R, pw_N, pw_n, pv_0, pv_1, pv_2, pv_3, pv_4, pv_5, pv_6, pv_7, pv_8, pv_9, pv_10, pv_11, pv_12, pv_13, pv_14, pv_15, pv_16, pv_17, pv_18, pv_19, cd_eq, cd_ne, cd_lt, cd_ge, cd_gt, cd_le, ft_0, ft_1, ft_2, ft_3, ft_3n, fk_0, fk_1, fk_2, fk_3, ps_n, ps_s, rf_s, rf_n, gl_0, gl_1, gl_2, gl_3, gl_4, gl_5, gl_6, gl_7, gl_8, gl_9, gl_10, gl_11, gl_12, gl_13, sl_0, sl_1, sl_2, sl_3, sl_4, sl_5, sl_6, sl_7, sl_8, sl_9, sl_10, sl_11, sl_12, sl_13, List.contains_nil, List.contains_cons, Nat.reduceBEq, Bool.false_or, Bool.or_false, Bool.true_or, Nat.reduceAdd, true_and, and_true, Nat.reduceLT, List.length_cons, List.length_nil, Nat.reduceLeDiff, List.drop_zero, List.take_zero, List.take_succ_cons, List.drop_succ_cons, List.reverse_cons, List.reverse_nil, List.nil_append, List.cons_append, List.append_nil, forall_const, rf_int, rf_bool, sr_sn, sn_0, sn_i, sn_l, sn_r, sn_n, ob_o, ar_o, al_o, aq_o, aln_o, oo_1, ao_1, lo_1, qo_1, lno_1, rv_o, rvv_0, rvv_1, rvv_2, rvv_3, rvv_4, rvv_5, rvv_6, rvv_7, rvv_8, rvv_9, rvv_10, rvv_11, rvv_12, List.length_set, List.set_set, hg_set, hg_ne, lt_00, lt_80, tn_8, lt_40, tn_4, tn_10, lt_100, le_88, Nat.zero_add, or_01, or_11, Nat.reduceMul, not_false_eq_true, Bool.false_eq_true, if_false, if_true, ite_false, ite_true, Bool.or_true, Bool.false_eq_true, if_false, if_true, ite_false, ite_true, Bool.or_true, eq_self, and_self, reduceCtorEq, true_or, or_true, true_imp_iff, not_true_eq_false, false_imp_iff, implies_true, u_zeqT, u_zeqF, u_zneT, u_zneF, u_zltT, u_zltF, u_zgeT, u_zgeF, u_zgtT, u_zgtF, u_zleT, u_zleF, u_ceqT, u_ceqF, u_cneT, u_cneF, u_cltT, u_cltF, u_cgeT, u_cgeF, u_cgtT, u_cgtF, u_cleT, u_cleF, sw_T, sw_F, v_table, v_look, sw_0, Nat.reduceSub, p9yX12_compared_a0, bX12_compared_0, p9yX12_compared_a37, bX12_compared_37, p9yX12_compared_a74, bX12_compared_74, p9yX12_compared_a75, bX12_compared_75, p9yX12_compared_a89, bX12_compared_89, p9yX12_compared_a90, bX12_compared_90, p9yX12_compared_a110, bX12_compared_110, p9yX12_compared_a124, bX12_compared_124, p9yX12_compared_a128, bX12_compared_128, p9yX12_compared_a137, bX12_compared_137, p9yX12_compared_a139, bX12_compared_139, rt_X12_compared, mc_X12_compared, ms_X12_compared, mc_X12_sum, ms_X12_sum, ci_X12_sum, al_X12_sum, mc_X12_sign, ms_X12_sign, ci_X12_sign, al_X12_sign, mc_X12_fails, ms_X12_fails, ci_X12_fails, al_X12_fails, mc_X12_isCounted, ms_X12_isCounted, ci_X12_isCounted, al_X12_isCounted, mc_X12_entry, ms_X12_entry, ci_X12_entry, al_X12_entry, psM_m h3]
    refine (pn_entry kd 0 (fun z => by have := (sim_len hK hln r3 z (b3 z)).2; omega) hs h3).go ?_
    rintro H4 ⟨f4, h4⟩ _
    have r4 := sim_ad (x := (kd, 0)) hK hln r3 b3
    simp (disch := first | assumption | decide | omega | (simp only [List.length_set]; omega)) only [w_nil, w_nop, w_iload, w_lload, w_aload, w_istore, w_lstore, w_astore, w_astoreN, w_iinc, w_iadd, w_isub, w_imul, w_iand, w_ior, w_ixor, w_ishl, w_ishr, w_iushr, w_idiv, w_irem, w_ladd, w_lsub, w_lmul, w_land, w_lor, w_ldiv, w_lrem, w_lshl, w_lshr, w_lcmp, w_i2l, w_l2i, w_i2b, w_i2c, w_dupI, w_popI, w_dupR, w_popR, w_dupN, w_popN, w_dup2, w_ifnull, w_ifnullN, w_ifnon, w_ifnonN, w_goto, w_getf, w_putf, w_alen, w_iaload, w_baload, w_laload, w_aaload, w_iastore, w_bastore, w_lastore, w_aastore, w_new, w_newarray, w_anewarray, w_static, w_virtual, w_special, w_obj, w_copyi, w_copyq, w_min, w_max, w_iret, w_lret, w_aret, w_aretN, w_ret, g_fg, g_I, g_J, g_R, g_N, g_1r, pw_0, pw_I, pw_R, pw_N, pw_n, pv_0, pv_1, pv_2, pv_3, pv_4, pv_5, pv_6, pv_7, pv_8, pv_9, pv_10, pv_11, pv_12, pv_13, pv_14, pv_15, pv_16, pv_17, pv_18, pv_19, cd_eq, cd_ne, cd_lt, cd_ge, cd_gt, cd_le, ft_0, ft_1, ft_2, ft_3, ft_3n, fk_0, fk_1, fk_2, fk_3, ps_n, ps_s, rf_s, rf_n, gl_0, gl_1, gl_2, gl_3, gl_4, gl_5, gl_6, gl_7, gl_8, gl_9, gl_10, gl_11, gl_12, gl_13, sl_0, sl_1, sl_2, sl_3, sl_4, sl_5, sl_6, sl_7, sl_8, sl_9, sl_10, sl_11, sl_12, sl_13, List.contains_nil, List.contains_cons, Nat.reduceBEq, Bool.false_or, Bool.or_false, Bool.true_or, Nat.reduceAdd, true_and, and_true, Nat.reduceLT, List.length_cons, List.length_nil, Nat.reduceLeDiff, List.drop_zero, List.take_zero, List.take_succ_cons, List.drop_succ_cons, List.reverse_cons, List.reverse_nil, List.nil_append, List.cons_append, List.append_nil, forall_const, rf_int, rf_bool, sr_sn, sn_0, sn_i, sn_l, sn_r, sn_n, ob_o, ar_o, al_o, aq_o, aln_o, oo_1, ao_1, lo_1, qo_1, lno_1, rv_o, rvv_0, rvv_1, rvv_2, rvv_3, rvv_4, rvv_5, rvv_6, rvv_7, rvv_8, rvv_9, rvv_10, rvv_11, rvv_12, List.length_set, List.set_set, hg_set, hg_ne, lt_00, lt_80, tn_8, lt_40, tn_4, tn_10, lt_100, le_88, Nat.zero_add, or_01, or_11, Nat.reduceMul, not_false_eq_true, Bool.false_eq_true, if_false, if_true, ite_false, ite_true, Bool.or_true, Bool.false_eq_true, if_false, if_true, ite_false, ite_true, Bool.or_true, eq_self, and_self, reduceCtorEq, true_or, or_true, true_imp_iff, not_true_eq_false, false_imp_iff, implies_true, u_zeqT, u_zeqF, u_zneT, u_zneF, u_zltT, u_zltF, u_zgeT, u_zgeF, u_zgtT, u_zgtF, u_zleT, u_zleF, u_ceqT, u_ceqF, u_cneT, u_cneF, u_cltT, u_cltF, u_cgeT, u_cgeF, u_cgtT, u_cgtF, u_cleT, u_cleF, sw_T, sw_F, v_table, v_look, sw_0, Nat.reduceSub, p9yX12_compared_a0, bX12_compared_0, p9yX12_compared_a37, bX12_compared_37, p9yX12_compared_a74, bX12_compared_74, p9yX12_compared_a75, bX12_compared_75, p9yX12_compared_a89, bX12_compared_89, p9yX12_compared_a90, bX12_compared_90, p9yX12_compared_a110, bX12_compared_110, p9yX12_compared_a124, bX12_compared_124, p9yX12_compared_a128, bX12_compared_128, p9yX12_compared_a137, bX12_compared_137, p9yX12_compared_a139, bX12_compared_139, rt_X12_compared, mc_X12_compared, ms_X12_compared, mc_X12_sum, ms_X12_sum, ci_X12_sum, al_X12_sum, mc_X12_sign, ms_X12_sign, ci_X12_sign, al_X12_sign, mc_X12_fails, ms_X12_fails, ci_X12_fails, al_X12_fails, mc_X12_isCounted, ms_X12_isCounted, ci_X12_isCounted, al_X12_isCounted, mc_X12_entry, ms_X12_entry, ci_X12_entry, al_X12_entry]
    refine hQ H4 f4 _ D3 h4 r4 q3.1 q3.2.1 (fun z => ?_)
    have z3 : s3.1 = 0 := z
    obtain ⟨z0, qb3, hb3, qp3, W3, ex, w3⟩ := q3.2.2 z3
    refine ⟨z0, qb3, ?_, qp3, W3, ex, w3⟩
    obtain ⟨⟨m, m1, m2⟩, m3⟩ := hb3
    have nk : nvL [(kd, (0 : Int32))] = 0 := by
      have h0 : ¬ (kd = 0 ∨ kd = 1) := by rcases hsm with ⟨-, rfl⟩ | ⟨-, -, -, rfl⟩ | ⟨-, -, -, rfl⟩ | ⟨-, -, -, rfl⟩ | ⟨-, -, -, rfl⟩ <;> decide
      show (if kd = 0 ∨ kd = 1 then (if kd = 0 ∧ (0 : Int32) < 0 then 1000 else 1) else 0) + 0 = 0
      rw [if_neg h0]
    refine ⟨⟨m, ?_, m2⟩, ?_⟩
    · show (if s3.1 = 0 then s3.2.2.1 ++ [(kd, 0)] else s3.2.2.1).length + (j + 2) ≤ 2 * s3.2.2.2.1 + m
      rw [if_pos z3, List.length_append]
      show s3.2.2.1.length + 1 + (j + 2) ≤ _
      omega
    · show nvL (if s3.1 = 0 then s3.2.2.1 ++ [(kd, 0)] else s3.2.2.1) ≤ s3.2.2.2.1
      rw [if_pos z3, nvL_app, nk]
      omega
  refine rm_from 6 [139] ok_X12_compared atX12_compared_90 ?_
  simp (disch := first | assumption | decide | omega | (simp only [List.length_set]; omega)) only [w_nil, w_nop, w_iload, w_lload, w_aload, w_istore, w_lstore, w_astore, w_astoreN, w_iinc, w_iadd, w_isub, w_imul, w_iand, w_ior, w_ixor, w_ishl, w_ishr, w_iushr, w_idiv, w_irem, w_ladd, w_lsub, w_lmul, w_land, w_lor, w_ldiv, w_lrem, w_lshl, w_lshr, w_lcmp, w_i2l, w_l2i, w_i2b, w_i2c, w_dupI, w_popI, w_dupR, w_popR, w_dupN, w_popN, w_dup2, w_ifnull, w_ifnullN, w_ifnon, w_ifnonN, w_goto, w_getf, w_putf, w_alen, w_iaload, w_baload, w_laload, w_aaload, w_iastore, w_bastore, w_lastore, w_aastore, w_new, w_newarray, w_anewarray, w_static, w_virtual, w_special, w_obj, w_copyi, w_copyq, w_min, w_max, w_iret, w_lret, w_aret, w_aretN, w_ret, g_fg, g_I, g_J, g_R, g_N, g_1r, pw_0, pw_I, pw_R, pw_N, pw_n, pv_0, pv_1, pv_2, pv_3, pv_4, pv_5, pv_6, pv_7, pv_8, pv_9, pv_10, pv_11, pv_12, pv_13, pv_14, pv_15, pv_16, pv_17, pv_18, pv_19, cd_eq, cd_ne, cd_lt, cd_ge, cd_gt, cd_le, ft_0, ft_1, ft_2, ft_3, ft_3n, fk_0, fk_1, fk_2, fk_3, ps_n, ps_s, rf_s, rf_n, gl_0, gl_1, gl_2, gl_3, gl_4, gl_5, gl_6, gl_7, gl_8, gl_9, gl_10, gl_11, gl_12, gl_13, sl_0, sl_1, sl_2, sl_3, sl_4, sl_5, sl_6, sl_7, sl_8, sl_9, sl_10, sl_11, sl_12, sl_13, List.contains_nil, List.contains_cons, Nat.reduceBEq, Bool.false_or, Bool.or_false, Bool.true_or, Nat.reduceAdd, true_and, and_true, Nat.reduceLT, List.length_cons, List.length_nil, Nat.reduceLeDiff, List.drop_zero, List.take_zero, List.take_succ_cons, List.drop_succ_cons, List.reverse_cons, List.reverse_nil, List.nil_append, List.cons_append, List.append_nil, forall_const, rf_int, rf_bool, sr_sn, sn_0, sn_i, sn_l, sn_r, sn_n, ob_o, ar_o, al_o, aq_o, aln_o, oo_1, ao_1, lo_1, qo_1, lno_1, rv_o, rvv_0, rvv_1, rvv_2, rvv_3, rvv_4, rvv_5, rvv_6, rvv_7, rvv_8, rvv_9, rvv_10, rvv_11, rvv_12, List.length_set, List.set_set, hg_set, hg_ne, lt_00, lt_80, tn_8, lt_40, tn_4, tn_10, lt_100, le_88, Nat.zero_add, or_01, or_11, Nat.reduceMul, not_false_eq_true, Bool.false_eq_true, if_false, if_true, ite_false, ite_true, Bool.or_true, Bool.false_eq_true, if_false, if_true, ite_false, ite_true, Bool.or_true, eq_self, and_self, reduceCtorEq, true_or, or_true, true_imp_iff, not_true_eq_false, false_imp_iff, implies_true, u_zeqT, u_zeqF, u_zneT, u_zneF, u_zltT, u_zltF, u_zgeT, u_zgeF, u_zgtT, u_zgtF, u_zleT, u_zleF, u_ceqT, u_ceqF, u_cneT, u_cneF, u_cltT, u_cltF, u_cgeT, u_cgeF, u_cgtT, u_cgtF, u_cleT, u_cleF, sw_T, sw_F, v_table, v_look, sw_0, Nat.reduceSub, p9yX12_compared_c139_a0, bX12_compared_0, p9yX12_compared_c139_a37, bX12_compared_37, p9yX12_compared_c139_a74, bX12_compared_74, p9yX12_compared_c139_a75, bX12_compared_75, p9yX12_compared_c139_a89, bX12_compared_89, p9yX12_compared_c139_a90, bX12_compared_90, p9yX12_compared_c139_a110, bX12_compared_110, p9yX12_compared_c139_a124, bX12_compared_124, p9yX12_compared_c139_a128, bX12_compared_128, p9yX12_compared_c139_a137, bX12_compared_137, p9yX12_compared_c139_a139, bX12_compared_139, rt_X12_compared, mc_X12_compared, ms_X12_compared, mc_X12_sum, ms_X12_sum, ci_X12_sum, al_X12_sum, mc_X12_sign, ms_X12_sign, ci_X12_sign, al_X12_sign, mc_X12_fails, ms_X12_fails, ci_X12_fails, al_X12_fails, mc_X12_isCounted, ms_X12_isCounted, ci_X12_isCounted, al_X12_isCounted, mc_X12_entry, ms_X12_entry, ci_X12_entry, al_X12_entry, mt_0, mg_0, mg_1, mg_2, mg_3, mg_4, mg_5, mg_6, mg_7, mg_8, mg_9, mg_10, mg_11, mg_12, mg_13, mg_14, mg_15, mg_16, mg_17, mt_18, mg_18, mt_19, mg_19, mt_20, mg_20, mt_21, mg_21, mt_22, mg_22, mt_23, mg_23, mt_24, mg_24, mt_25, mg_25, mt_26, mg_26, mt_27, mg_27, mg_28, mg_29, mg_30, mg_31, mg_32, mg_33, mg_34, mg_35, mg_36, mg_37, mg_38, mg_39, mt_40, mg_40, mt_41, mg_41, mt_42, mg_42, mg_43, mg_44, mt_45, mg_45, mt_46, mg_46, mt_47, mg_47, mg_48, mg_49, mg_50, mg_51, mt_52, mg_52, mt_53, mg_53, mL_len, hm1, ea, hm2]
  refine (pn_sum (j := j + 2) hi hs hl hl1 hln hK hr hlt0 h400 hb hc h2).go ?_
  rintro H3 ⟨f3, s3, D3, h3, r3, q3⟩ _
  rcases hsm with ⟨g1, g2⟩ | ⟨g1, g2, g3, g4⟩ | ⟨g1, g2, g3, g4⟩ | ⟨g1, g2, g3, g4⟩ | ⟨g1, g2, g3, g4⟩
  · subst g2
    simp (disch := first | assumption | decide | omega | (simp only [List.length_set]; omega)) only [w_nil, w_nop, w_iload, w_lload, w_aload, w_istore, w_lstore, w_astore, w_astoreN, w_iinc, w_iadd, w_isub, w_imul, w_iand, w_ior, w_ixor, w_ishl, w_ishr, w_iushr, w_idiv, w_irem, w_ladd, w_lsub, w_lmul, w_land, w_lor, w_ldiv, w_lrem, w_lshl, w_lshr, w_lcmp, w_i2l, w_l2i, w_i2b, w_i2c, w_dupI, w_popI, w_dupR, w_popR, w_dupN, w_popN, w_dup2, w_ifnull, w_ifnullN, w_ifnon, w_ifnonN, w_goto, w_getf, w_putf, w_alen, w_iaload, w_baload, w_laload, w_aaload, w_iastore, w_bastore, w_lastore, w_aastore, w_new, w_newarray, w_anewarray, w_static, w_virtual, w_special, w_obj, w_copyi, w_copyq, w_min, w_max, w_iret, w_lret, w_aret, w_aretN, w_ret, g_fg, g_I, g_J, g_R, g_N, g_1r, pw_0, pw_I, pw_R, pw_N, pw_n, pv_0, pv_1, pv_2, pv_3, pv_4, pv_5, pv_6, pv_7, pv_8, pv_9, pv_10, pv_11, pv_12, pv_13, pv_14, pv_15, pv_16, pv_17, pv_18, pv_19, cd_eq, cd_ne, cd_lt, cd_ge, cd_gt, cd_le, ft_0, ft_1, ft_2, ft_3, ft_3n, fk_0, fk_1, fk_2, fk_3, ps_n, ps_s, rf_s, rf_n, gl_0, gl_1, gl_2, gl_3, gl_4, gl_5, gl_6, gl_7, gl_8, gl_9, gl_10, gl_11, gl_12, gl_13, sl_0, sl_1, sl_2, sl_3, sl_4, sl_5, sl_6, sl_7, sl_8, sl_9, sl_10, sl_11, sl_12, sl_13, List.contains_nil, List.contains_cons, Nat.reduceBEq, Bool.false_or, Bool.or_false, Bool.true_or, Nat.reduceAdd, true_and, and_true, Nat.reduceLT, List.length_cons, List.length_nil, Nat.reduceLeDiff, List.drop_zero, List.take_zero, List.take_succ_cons, List.drop_succ_cons, List.reverse_cons, List.reverse_nil, List.nil_append, List.cons_append, List.append_nil, forall_const, rf_int, rf_bool, sr_sn, sn_0, sn_i, sn_l, sn_r, sn_n, ob_o, ar_o, al_o, aq_o, aln_o, oo_1, ao_1, lo_1, qo_1, lno_1, rv_o, rvv_0, rvv_1, rvv_2, rvv_3, rvv_4, rvv_5, rvv_6, rvv_7, rvv_8, rvv_9, rvv_10, rvv_11, rvv_12, List.length_set, List.set_set, hg_set, hg_ne, lt_00, lt_80, tn_8, lt_40, tn_4, tn_10, lt_100, le_88, Nat.zero_add, or_01, or_11, Nat.reduceMul, not_false_eq_true, Bool.false_eq_true, if_false, if_true, ite_false, ite_true, Bool.or_true, Bool.false_eq_true, if_false, if_true, ite_false, ite_true, Bool.or_true, eq_self, and_self, reduceCtorEq, true_or, or_true, true_imp_iff, not_true_eq_false, false_imp_iff, implies_true, u_zeqT, u_zeqF, u_zneT, u_zneF, u_zltT, u_zltF, u_zgeT, u_zgeF, u_zgtT, u_zgtF, u_zleT, u_zleF, u_ceqT, u_ceqF, u_cneT, u_cneF, u_cltT, u_cltF, u_cgeT, u_cgeF, u_cgtT, u_cgtF, u_cleT, u_cleF, sw_T, sw_F, v_table, v_look, sw_0, Nat.reduceSub, p9yX12_compared_c139_a0, bX12_compared_0, p9yX12_compared_c139_a37, bX12_compared_37, p9yX12_compared_c139_a74, bX12_compared_74, p9yX12_compared_c139_a75, bX12_compared_75, p9yX12_compared_c139_a89, bX12_compared_89, p9yX12_compared_c139_a90, bX12_compared_90, p9yX12_compared_c139_a110, bX12_compared_110, p9yX12_compared_c139_a124, bX12_compared_124, p9yX12_compared_c139_a128, bX12_compared_128, p9yX12_compared_c139_a137, bX12_compared_137, p9yX12_compared_c139_a139, bX12_compared_139, rt_X12_compared, mc_X12_compared, ms_X12_compared, mc_X12_sum, ms_X12_sum, ci_X12_sum, al_X12_sum, mc_X12_sign, ms_X12_sign, ci_X12_sign, al_X12_sign, mc_X12_fails, ms_X12_fails, ci_X12_fails, al_X12_fails, mc_X12_isCounted, ms_X12_isCounted, ci_X12_isCounted, al_X12_isCounted, mc_X12_entry, ms_X12_entry, ci_X12_entry, al_X12_entry]
    exact fin H3 f3 s3 D3 _ h3 r3 q3
  · subst g4
    simp (disch := first | assumption | decide | omega | (simp only [List.length_set]; omega)) only [w_nil, w_nop, w_iload, w_lload, w_aload, w_istore, w_lstore, w_astore, w_astoreN, w_iinc, w_iadd, w_isub, w_imul, w_iand, w_ior, w_ixor, w_ishl, w_ishr, w_iushr, w_idiv, w_irem, w_ladd, w_lsub, w_lmul, w_land, w_lor, w_ldiv, w_lrem, w_lshl, w_lshr, w_lcmp, w_i2l, w_l2i, w_i2b, w_i2c, w_dupI, w_popI, w_dupR, w_popR, w_dupN, w_popN, w_dup2, w_ifnull, w_ifnullN, w_ifnon, w_ifnonN, w_goto, w_getf, w_putf, w_alen, w_iaload, w_baload, w_laload, w_aaload, w_iastore, w_bastore, w_lastore, w_aastore, w_new, w_newarray, w_anewarray, w_static, w_virtual, w_special, w_obj, w_copyi, w_copyq, w_min, w_max, w_iret, w_lret, w_aret, w_aretN, w_ret, g_fg, g_I, g_J, g_R, g_N, g_1r, pw_0, pw_I, pw_R, pw_N, pw_n, pv_0, pv_1, pv_2, pv_3, pv_4, pv_5, pv_6, pv_7, pv_8, pv_9, pv_10, pv_11, pv_12, pv_13, pv_14, pv_15, pv_16, pv_17, pv_18, pv_19, cd_eq, cd_ne, cd_lt, cd_ge, cd_gt, cd_le, ft_0, ft_1, ft_2, ft_3, ft_3n, fk_0, fk_1, fk_2, fk_3, ps_n, ps_s, rf_s, rf_n, gl_0, gl_1, gl_2, gl_3, gl_4, gl_5, gl_6, gl_7, gl_8, gl_9, gl_10, gl_11, gl_12, gl_13, sl_0, sl_1, sl_2, sl_3, sl_4, sl_5, sl_6, sl_7, sl_8, sl_9, sl_10, sl_11, sl_12, sl_13, List.contains_nil, List.contains_cons, Nat.reduceBEq, Bool.false_or, Bool.or_false, Bool.true_or, Nat.reduceAdd, true_and, and_true, Nat.reduceLT, List.length_cons, List.length_nil, Nat.reduceLeDiff, List.drop_zero, List.take_zero, List.take_succ_cons, List.drop_succ_cons, List.reverse_cons, List.reverse_nil, List.nil_append, List.cons_append, List.append_nil, forall_const, rf_int, rf_bool, sr_sn, sn_0, sn_i, sn_l, sn_r, sn_n, ob_o, ar_o, al_o, aq_o, aln_o, oo_1, ao_1, lo_1, qo_1, lno_1, rv_o, rvv_0, rvv_1, rvv_2, rvv_3, rvv_4, rvv_5, rvv_6, rvv_7, rvv_8, rvv_9, rvv_10, rvv_11, rvv_12, List.length_set, List.set_set, hg_set, hg_ne, lt_00, lt_80, tn_8, lt_40, tn_4, tn_10, lt_100, le_88, Nat.zero_add, or_01, or_11, Nat.reduceMul, not_false_eq_true, Bool.false_eq_true, if_false, if_true, ite_false, ite_true, Bool.or_true, Bool.false_eq_true, if_false, if_true, ite_false, ite_true, Bool.or_true, eq_self, and_self, reduceCtorEq, true_or, or_true, true_imp_iff, not_true_eq_false, false_imp_iff, implies_true, u_zeqT, u_zeqF, u_zneT, u_zneF, u_zltT, u_zltF, u_zgeT, u_zgeF, u_zgtT, u_zgtF, u_zleT, u_zleF, u_ceqT, u_ceqF, u_cneT, u_cneF, u_cltT, u_cltF, u_cgeT, u_cgeF, u_cgtT, u_cgtF, u_cleT, u_cleF, sw_T, sw_F, v_table, v_look, sw_0, Nat.reduceSub, p9yX12_compared_c139_a0, bX12_compared_0, p9yX12_compared_c139_a37, bX12_compared_37, p9yX12_compared_c139_a74, bX12_compared_74, p9yX12_compared_c139_a75, bX12_compared_75, p9yX12_compared_c139_a89, bX12_compared_89, p9yX12_compared_c139_a90, bX12_compared_90, p9yX12_compared_c139_a110, bX12_compared_110, p9yX12_compared_c139_a124, bX12_compared_124, p9yX12_compared_c139_a128, bX12_compared_128, p9yX12_compared_c139_a137, bX12_compared_137, p9yX12_compared_c139_a139, bX12_compared_139, rt_X12_compared, mc_X12_compared, ms_X12_compared, mc_X12_sum, ms_X12_sum, ci_X12_sum, al_X12_sum, mc_X12_sign, ms_X12_sign, ci_X12_sign, al_X12_sign, mc_X12_fails, ms_X12_fails, ci_X12_fails, al_X12_fails, mc_X12_isCounted, ms_X12_isCounted, ci_X12_isCounted, al_X12_isCounted, mc_X12_entry, ms_X12_entry, ci_X12_entry, al_X12_entry]
    exact fin H3 f3 s3 D3 _ h3 r3 q3
  · subst g4
    simp (disch := first | assumption | decide | omega | (simp only [List.length_set]; omega)) only [w_nil, w_nop, w_iload, w_lload, w_aload, w_istore, w_lstore, w_astore, w_astoreN, w_iinc, w_iadd, w_isub, w_imul, w_iand, w_ior, w_ixor, w_ishl, w_ishr, w_iushr, w_idiv, w_irem, w_ladd, w_lsub, w_lmul, w_land, w_lor, w_ldiv, w_lrem, w_lshl, w_lshr, w_lcmp, w_i2l, w_l2i, w_i2b, w_i2c, w_dupI, w_popI, w_dupR, w_popR, w_dupN, w_popN, w_dup2, w_ifnull, w_ifnullN, w_ifnon, w_ifnonN, w_goto, w_getf, w_putf, w_alen, w_iaload, w_baload, w_laload, w_aaload, w_iastore, w_bastore, w_lastore, w_aastore, w_new, w_newarray, w_anewarray, w_static, w_virtual, w_special, w_obj, w_copyi, w_copyq, w_min, w_max, w_iret, w_lret, w_aret, w_aretN, w_ret, g_fg, g_I, g_J, g_R, g_N, g_1r, pw_0, pw_I, pw_R, pw_N, pw_n, pv_0, pv_1, pv_2, pv_3, pv_4, pv_5, pv_6, pv_7, pv_8, pv_9, pv_10, pv_11, pv_12, pv_13, pv_14, pv_15, pv_16, pv_17, pv_18, pv_19, cd_eq, cd_ne, cd_lt, cd_ge, cd_gt, cd_le, ft_0, ft_1, ft_2, ft_3, ft_3n, fk_0, fk_1, fk_2, fk_3, ps_n, ps_s, rf_s, rf_n, gl_0, gl_1, gl_2, gl_3, gl_4, gl_5, gl_6, gl_7, gl_8, gl_9, gl_10, gl_11, gl_12, gl_13, sl_0, sl_1, sl_2, sl_3, sl_4, sl_5, sl_6, sl_7, sl_8, sl_9, sl_10, sl_11, sl_12, sl_13, List.contains_nil, List.contains_cons, Nat.reduceBEq, Bool.false_or, Bool.or_false, Bool.true_or, Nat.reduceAdd, true_and, and_true, Nat.reduceLT, List.length_cons, List.length_nil, Nat.reduceLeDiff, List.drop_zero, List.take_zero, List.take_succ_cons, List.drop_succ_cons, List.reverse_cons, List.reverse_nil, List.nil_append, List.cons_append, List.append_nil, forall_const, rf_int, rf_bool, sr_sn, sn_0, sn_i, sn_l, sn_r, sn_n, ob_o, ar_o, al_o, aq_o, aln_o, oo_1, ao_1, lo_1, qo_1, lno_1, rv_o, rvv_0, rvv_1, rvv_2, rvv_3, rvv_4, rvv_5, rvv_6, rvv_7, rvv_8, rvv_9, rvv_10, rvv_11, rvv_12, List.length_set, List.set_set, hg_set, hg_ne, lt_00, lt_80, tn_8, lt_40, tn_4, tn_10, lt_100, le_88, Nat.zero_add, or_01, or_11, Nat.reduceMul, not_false_eq_true, Bool.false_eq_true, if_false, if_true, ite_false, ite_true, Bool.or_true, Bool.false_eq_true, if_false, if_true, ite_false, ite_true, Bool.or_true, eq_self, and_self, reduceCtorEq, true_or, or_true, true_imp_iff, not_true_eq_false, false_imp_iff, implies_true, u_zeqT, u_zeqF, u_zneT, u_zneF, u_zltT, u_zltF, u_zgeT, u_zgeF, u_zgtT, u_zgtF, u_zleT, u_zleF, u_ceqT, u_ceqF, u_cneT, u_cneF, u_cltT, u_cltF, u_cgeT, u_cgeF, u_cgtT, u_cgtF, u_cleT, u_cleF, sw_T, sw_F, v_table, v_look, sw_0, Nat.reduceSub, p9yX12_compared_c139_a0, bX12_compared_0, p9yX12_compared_c139_a37, bX12_compared_37, p9yX12_compared_c139_a74, bX12_compared_74, p9yX12_compared_c139_a75, bX12_compared_75, p9yX12_compared_c139_a89, bX12_compared_89, p9yX12_compared_c139_a90, bX12_compared_90, p9yX12_compared_c139_a110, bX12_compared_110, p9yX12_compared_c139_a124, bX12_compared_124, p9yX12_compared_c139_a128, bX12_compared_128, p9yX12_compared_c139_a137, bX12_compared_137, p9yX12_compared_c139_a139, bX12_compared_139, rt_X12_compared, mc_X12_compared, ms_X12_compared, mc_X12_sum, ms_X12_sum, ci_X12_sum, al_X12_sum, mc_X12_sign, ms_X12_sign, ci_X12_sign, al_X12_sign, mc_X12_fails, ms_X12_fails, ci_X12_fails, al_X12_fails, mc_X12_isCounted, ms_X12_isCounted, ci_X12_isCounted, al_X12_isCounted, mc_X12_entry, ms_X12_entry, ci_X12_entry, al_X12_entry]
    exact fin H3 f3 s3 D3 _ h3 r3 q3
  · subst g4
    simp (disch := first | assumption | decide | omega | (simp only [List.length_set]; omega)) only [w_nil, w_nop, w_iload, w_lload, w_aload, w_istore, w_lstore, w_astore, w_astoreN, w_iinc, w_iadd, w_isub, w_imul, w_iand, w_ior, w_ixor, w_ishl, w_ishr, w_iushr, w_idiv, w_irem, w_ladd, w_lsub, w_lmul, w_land, w_lor, w_ldiv, w_lrem, w_lshl, w_lshr, w_lcmp, w_i2l, w_l2i, w_i2b, w_i2c, w_dupI, w_popI, w_dupR, w_popR, w_dupN, w_popN, w_dup2, w_ifnull, w_ifnullN, w_ifnon, w_ifnonN, w_goto, w_getf, w_putf, w_alen, w_iaload, w_baload, w_laload, w_aaload, w_iastore, w_bastore, w_lastore, w_aastore, w_new, w_newarray, w_anewarray, w_static, w_virtual, w_special, w_obj, w_copyi, w_copyq, w_min, w_max, w_iret, w_lret, w_aret, w_aretN, w_ret, g_fg, g_I, g_J, g_R, g_N, g_1r, pw_0, pw_I, pw_R, pw_N, pw_n, pv_0, pv_1, pv_2, pv_3, pv_4, pv_5, pv_6, pv_7, pv_8, pv_9, pv_10, pv_11, pv_12, pv_13, pv_14, pv_15, pv_16, pv_17, pv_18, pv_19, cd_eq, cd_ne, cd_lt, cd_ge, cd_gt, cd_le, ft_0, ft_1, ft_2, ft_3, ft_3n, fk_0, fk_1, fk_2, fk_3, ps_n, ps_s, rf_s, rf_n, gl_0, gl_1, gl_2, gl_3, gl_4, gl_5, gl_6, gl_7, gl_8, gl_9, gl_10, gl_11, gl_12, gl_13, sl_0, sl_1, sl_2, sl_3, sl_4, sl_5, sl_6, sl_7, sl_8, sl_9, sl_10, sl_11, sl_12, sl_13, List.contains_nil, List.contains_cons, Nat.reduceBEq, Bool.false_or, Bool.or_false, Bool.true_or, Nat.reduceAdd, true_and, and_true, Nat.reduceLT, List.length_cons, List.length_nil, Nat.reduceLeDiff, List.drop_zero, List.take_zero, List.take_succ_cons, List.drop_succ_cons, List.reverse_cons, List.reverse_nil, List.nil_append, List.cons_append, List.append_nil, forall_const, rf_int, rf_bool, sr_sn, sn_0, sn_i, sn_l, sn_r, sn_n, ob_o, ar_o, al_o, aq_o, aln_o, oo_1, ao_1, lo_1, qo_1, lno_1, rv_o, rvv_0, rvv_1, rvv_2, rvv_3, rvv_4, rvv_5, rvv_6, rvv_7, rvv_8, rvv_9, rvv_10, rvv_11, rvv_12, List.length_set, List.set_set, hg_set, hg_ne, lt_00, lt_80, tn_8, lt_40, tn_4, tn_10, lt_100, le_88, Nat.zero_add, or_01, or_11, Nat.reduceMul, not_false_eq_true, Bool.false_eq_true, if_false, if_true, ite_false, ite_true, Bool.or_true, Bool.false_eq_true, if_false, if_true, ite_false, ite_true, Bool.or_true, eq_self, and_self, reduceCtorEq, true_or, or_true, true_imp_iff, not_true_eq_false, false_imp_iff, implies_true, u_zeqT, u_zeqF, u_zneT, u_zneF, u_zltT, u_zltF, u_zgeT, u_zgeF, u_zgtT, u_zgtF, u_zleT, u_zleF, u_ceqT, u_ceqF, u_cneT, u_cneF, u_cltT, u_cltF, u_cgeT, u_cgeF, u_cgtT, u_cgtF, u_cleT, u_cleF, sw_T, sw_F, v_table, v_look, sw_0, Nat.reduceSub, p9yX12_compared_c139_a0, bX12_compared_0, p9yX12_compared_c139_a37, bX12_compared_37, p9yX12_compared_c139_a74, bX12_compared_74, p9yX12_compared_c139_a75, bX12_compared_75, p9yX12_compared_c139_a89, bX12_compared_89, p9yX12_compared_c139_a90, bX12_compared_90, p9yX12_compared_c139_a110, bX12_compared_110, p9yX12_compared_c139_a124, bX12_compared_124, p9yX12_compared_c139_a128, bX12_compared_128, p9yX12_compared_c139_a137, bX12_compared_137, p9yX12_compared_c139_a139, bX12_compared_139, rt_X12_compared, mc_X12_compared, ms_X12_compared, mc_X12_sum, ms_X12_sum, ci_X12_sum, al_X12_sum, mc_X12_sign, ms_X12_sign, ci_X12_sign, al_X12_sign, mc_X12_fails, ms_X12_fails, ci_X12_fails, al_X12_fails, mc_X12_isCounted, ms_X12_isCounted, ci_X12_isCounted, al_X12_isCounted, mc_X12_entry, ms_X12_entry, ci_X12_entry, al_X12_entry]
    exact fin H3 f3 s3 D3 _ h3 r3 q3
  · subst g4
    simp (disch := first | assumption | decide | omega | (simp only [List.length_set]; omega)) only [w_nil, w_nop, w_iload, w_lload, w_aload, w_istore, w_lstore, w_astore, w_astoreN, w_iinc, w_iadd, w_isub, w_imul, w_iand, w_ior, w_ixor, w_ishl, w_ishr, w_iushr, w_idiv, w_irem, w_ladd, w_lsub, w_lmul, w_land, w_lor, w_ldiv, w_lrem, w_lshl, w_lshr, w_lcmp, w_i2l, w_l2i, w_i2b, w_i2c, w_dupI, w_popI, w_dupR, w_popR, w_dupN, w_popN, w_dup2, w_ifnull, w_ifnullN, w_ifnon, w_ifnonN, w_goto, w_getf, w_putf, w_alen, w_iaload, w_baload, w_laload, w_aaload, w_iastore, w_bastore, w_lastore, w_aastore, w_new, w_newarray, w_anewarray, w_static, w_virtual, w_special, w_obj, w_copyi, w_copyq, w_min, w_max, w_iret, w_lret, w_aret, w_aretN, w_ret, g_fg, g_I, g_J, g_R, g_N, g_1r, pw_0, pw_I, pw_R, pw_N, pw_n, pv_0, pv_1, pv_2, pv_3, pv_4, pv_5, pv_6, pv_7, pv_8, pv_9, pv_10, pv_11, pv_12, pv_13, pv_14, pv_15, pv_16, pv_17, pv_18, pv_19, cd_eq, cd_ne, cd_lt, cd_ge, cd_gt, cd_le, ft_0, ft_1, ft_2, ft_3, ft_3n, fk_0, fk_1, fk_2, fk_3, ps_n, ps_s, rf_s, rf_n, gl_0, gl_1, gl_2, gl_3, gl_4, gl_5, gl_6, gl_7, gl_8, gl_9, gl_10, gl_11, gl_12, gl_13, sl_0, sl_1, sl_2, sl_3, sl_4, sl_5, sl_6, sl_7, sl_8, sl_9, sl_10, sl_11, sl_12, sl_13, List.contains_nil, List.contains_cons, Nat.reduceBEq, Bool.false_or, Bool.or_false, Bool.true_or, Nat.reduceAdd, true_and, and_true, Nat.reduceLT, List.length_cons, List.length_nil, Nat.reduceLeDiff, List.drop_zero, List.take_zero, List.take_succ_cons, List.drop_succ_cons, List.reverse_cons, List.reverse_nil, List.nil_append, List.cons_append, List.append_nil, forall_const, rf_int, rf_bool, sr_sn, sn_0, sn_i, sn_l, sn_r, sn_n, ob_o, ar_o, al_o, aq_o, aln_o, oo_1, ao_1, lo_1, qo_1, lno_1, rv_o, rvv_0, rvv_1, rvv_2, rvv_3, rvv_4, rvv_5, rvv_6, rvv_7, rvv_8, rvv_9, rvv_10, rvv_11, rvv_12, List.length_set, List.set_set, hg_set, hg_ne, lt_00, lt_80, tn_8, lt_40, tn_4, tn_10, lt_100, le_88, Nat.zero_add, or_01, or_11, Nat.reduceMul, not_false_eq_true, Bool.false_eq_true, if_false, if_true, ite_false, ite_true, Bool.or_true, Bool.false_eq_true, if_false, if_true, ite_false, ite_true, Bool.or_true, eq_self, and_self, reduceCtorEq, true_or, or_true, true_imp_iff, not_true_eq_false, false_imp_iff, implies_true, u_zeqT, u_zeqF, u_zneT, u_zneF, u_zltT, u_zltF, u_zgeT, u_zgeF, u_zgtT, u_zgtF, u_zleT, u_zleF, u_ceqT, u_ceqF, u_cneT, u_cneF, u_cltT, u_cltF, u_cgeT, u_cgeF, u_cgtT, u_cgtF, u_cleT, u_cleF, sw_T, sw_F, v_table, v_look, sw_0, Nat.reduceSub, p9yX12_compared_c139_a0, bX12_compared_0, p9yX12_compared_c139_a37, bX12_compared_37, p9yX12_compared_c139_a74, bX12_compared_74, p9yX12_compared_c139_a75, bX12_compared_75, p9yX12_compared_c139_a89, bX12_compared_89, p9yX12_compared_c139_a90, bX12_compared_90, p9yX12_compared_c139_a110, bX12_compared_110, p9yX12_compared_c139_a124, bX12_compared_124, p9yX12_compared_c139_a128, bX12_compared_128, p9yX12_compared_c139_a137, bX12_compared_137, p9yX12_compared_c139_a139, bX12_compared_139, rt_X12_compared, mc_X12_compared, ms_X12_compared, mc_X12_sum, ms_X12_sum, ci_X12_sum, al_X12_sum, mc_X12_sign, ms_X12_sign, ci_X12_sign, al_X12_sign, mc_X12_fails, ms_X12_fails, ci_X12_fails, al_X12_fails, mc_X12_isCounted, ms_X12_isCounted, ci_X12_isCounted, al_X12_isCounted, mc_X12_entry, ms_X12_entry, ci_X12_entry, al_X12_entry]
    exact fin H3 f3 s3 D3 _ h3 r3 q3
end RXG
