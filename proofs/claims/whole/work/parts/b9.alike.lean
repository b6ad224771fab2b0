theorem pb9X12_alikePart_c55_a0 {k : Nat} {Q : Option Value → rm_H → Prop} {n0 n : Nat} {L : rm_L} {st : List Value} {H : rm_H} {c s : Nat} : rm_p mX12_alikePart tX12_alikePart [55] k Q n0 (n + 1) 0 L st H c s = rm_w mX12_alikePart k Q n0 (rm_p mX12_alikePart tX12_alikePart [55] k Q n0 n) bX12_alikePart_0 0 L st H c s := propext Iff.rfl
theorem pb9X12_alikePart_c55_a55 {k : Nat} {Q : Option Value → rm_H → Prop} {n0 n : Nat} {L : rm_L} {st : List Value} {H : rm_H} {c s : Nat} : rm_p mX12_alikePart tX12_alikePart [55] k Q n0 (n + 1) 55 L st H c s = rm_S mX12_alikePart k Q n0 55 L st H c s := propext Iff.rfl
theorem pb9X12_alikePart_c55_a86 {k : Nat} {Q : Option Value → rm_H → Prop} {n0 n : Nat} {L : rm_L} {st : List Value} {H : rm_H} {c s : Nat} : rm_p mX12_alikePart tX12_alikePart [55] k Q n0 (n + 1) 86 L st H c s = rm_w mX12_alikePart k Q n0 (rm_p mX12_alikePart tX12_alikePart [55] k Q n0 n) bX12_alikePart_86 86 L st H c s := propext Iff.rfl
theorem pb9X12_alikePart_a0 {k : Nat} {Q : Option Value → rm_H → Prop} {n0 n : Nat} {L : rm_L} {st : List Value} {H : rm_H} {c s : Nat} : rm_p mX12_alikePart tX12_alikePart [] k Q n0 (n + 1) 0 L st H c s = rm_w mX12_alikePart k Q n0 (rm_p mX12_alikePart tX12_alikePart [] k Q n0 n) bX12_alikePart_0 0 L st H c s := propext Iff.rfl
theorem pb9X12_alikePart_a55 {k : Nat} {Q : Option Value → rm_H → Prop} {n0 n : Nat} {L : rm_L} {st : List Value} {H : rm_H} {c s : Nat} : rm_p mX12_alikePart tX12_alikePart [] k Q n0 (n + 1) 55 L st H c s = rm_w mX12_alikePart k Q n0 (rm_p mX12_alikePart tX12_alikePart [] k Q n0 n) bX12_alikePart_55 55 L st H c s := propext Iff.rfl
theorem pb9X12_alikePart_a86 {k : Nat} {Q : Option Value → rm_H → Prop} {n0 n : Nat} {L : rm_L} {st : List Value} {H : rm_H} {c s : Nat} : rm_p mX12_alikePart tX12_alikePart [] k Q n0 (n + 1) 86 L st H c s = rm_w mX12_alikePart k Q n0 (rm_p mX12_alikePart tX12_alikePart [] k Q n0 n) bX12_alikePart_86 86 L st H c s := propext Iff.rfl
/-! The reference's realms: how it lies while it is read; those alike -/
def zrP (i : Nat) : Prop := i = 153 ∨ (165 ≤ i ∧ i ≤ 170) ∨ i = 172 ∨ i = 173
theorem zrP_c {i : Nat} (h : zrP i) : i = 153 ∨ (165 ≤ i ∧ i ≤ 170) ∨ i = 172 ∨ i = 173 := h
theorem zrP_i {i : Nat} (h : i = 153 ∨ (165 ≤ i ∧ i ≤ 170) ∨ i = 172 ∨ i = 173) : zrP i := h
/-- a realm's text is being read -/
def zsM (H0 : rm_H) (f0 So0 Nu0 y : Nat → Int32) (ln slot : Nat) (H : rm_H) (f : Nat → Int32) (s : psT) : Prop := psM H f So0 Nu0 y ln slot H f s ∧ fP f0 f ∧ sB zrP H0 H
/-- the new realm so far; z: whether it was told -/
def nwM (H : rm_H) (v : rV) (z : Int32) : Prop := (∃ X, H[165]? = some (cI 4 X) ∧ X 0 = z ∧ X 1 = rKe v ∧ X 2 = rHa v ∧ X 3 = nI (rN v)) ∧ (∃ X, H[166]? = some (cI 8 X) ∧ ∀ i, i < 8 → X i = rW v i) ∧ (∃ X, H[167]? = some (cI 8 X) ∧ ∀ i, i < 8 → X i = rA v i) ∧ (∃ X, H[168]? = some (cI 8 X) ∧ ∀ i, i < rN v → X i = rFr v i) ∧ (∃ X, H[169]? = some (cI 8 X) ∧ ∀ i, i < rN v → X i = rLa v i) ∧ (∃ X, H[170]? = some (cI 61 X) ∧ ∀ d, d < 61 → X d = wkb (rWk v) (nI d)) ∧ rN v ≤ 8
def nwX (H : rm_H) : Prop := (∃ X, H[165]? = some (cI 4 X)) ∧ (∃ X, H[166]? = some (cI 8 X)) ∧ (∃ X, H[167]? = some (cI 8 X)) ∧ (∃ X, H[168]? = some (cI 8 X)) ∧ (∃ X, H[169]? = some (cI 8 X)) ∧ (∃ X, H[170]? = some (cI 61 X))
theorem nw_x {H : rm_H} {v : rV} {z : Int32} (h : nwM H v z) : nwX H := by
  obtain ⟨⟨X1, h1, -⟩, ⟨X2, h2, -⟩, ⟨X3, h3, -⟩, ⟨X4, h4, -⟩, ⟨X5, h5, -⟩, ⟨X6, h6, -⟩, -⟩ := h
  exact ⟨⟨X1, h1⟩, ⟨X2, h2⟩, ⟨X3, h3⟩, ⟨X4, h4⟩, ⟨X5, h5⟩, ⟨X6, h6⟩⟩
theorem nw_b {P : Nat → Prop} {H H1 : rm_H} {v : rV} {z : Int32} (b : sB P H H1) (hn : ∀ i, P i → ¬ (165 ≤ i ∧ i ≤ 170)) (h : nwM H v z) : nwM H1 v z := by
  obtain ⟨⟨X1, h1, g1⟩, ⟨X2, h2, g2⟩, ⟨X3, h3, g3⟩, ⟨X4, h4, g4⟩, ⟨X5, h5, g5⟩, ⟨X6, h6, g6⟩, g7⟩ := h
  exact ⟨⟨X1, b.get (fun q => hn _ q (by omega)) h1, g1⟩, ⟨X2, b.get (fun q => hn _ q (by omega)) h2, g2⟩, ⟨X3, b.get (fun q => hn _ q (by omega)) h3, g3⟩, ⟨X4, b.get (fun q => hn _ q (by omega)) h4, g4⟩, ⟨X5, b.get (fun q => hn _ q (by omega)) h5, g5⟩, ⟨X6, b.get (fun q => hn _ q (by omega)) h6, g6⟩, g7⟩
theorem nx_b {P : Nat → Prop} {H H1 : rm_H} (b : sB P H H1) (hn : ∀ i, P i → ¬ (165 ≤ i ∧ i ≤ 170)) (h : nwX H) : nwX H1 := by
  obtain ⟨⟨X1, h1⟩, ⟨X2, h2⟩, ⟨X3, h3⟩, ⟨X4, h4⟩, ⟨X5, h5⟩, ⟨X6, h6⟩⟩ := h
  exact ⟨⟨X1, b.get (fun q => hn _ q (by omega)) h1⟩, ⟨X2, b.get (fun q => hn _ q (by omega)) h2⟩, ⟨X3, b.get (fun q => hn _ q (by omega)) h3⟩, ⟨X4, b.get (fun q => hn _ q (by omega)) h4⟩, ⟨X5, b.get (fun q => hn _ q (by omega)) h5⟩, ⟨X6, b.get (fun q => hn _ q (by omega)) h6⟩⟩
/-- an 8-row changed -/
theorem nx_8 {H : rm_H} {q : Nat} {X : Nat → Int32} (hq : 166 ≤ q ∧ q ≤ 169) (h : nwX H) : nwX (H.set q (cI 8 X)) := by
  obtain ⟨⟨X1, h1⟩, ⟨X2, h2⟩, ⟨X3, h3⟩, ⟨X4, h4⟩, ⟨X5, h5⟩, ⟨X6, h6⟩⟩ := h
  have key : ∀ (a : Nat) (Y : Nat → Int32), H[a]? = some (cI 8 Y) → ∃ Z, (H.set q (cI 8 X))[a]? = some (cI 8 Z) := fun a Y hY => by
    by_cases e : a = q
    · subst e
      exact ⟨X, hg_set (hlt hY)⟩
    · exact ⟨Y, by rw [hg_ne (fun g => e g.symm)]; exact hY⟩
  exact ⟨⟨X1, by rw [hg_ne (by omega)]; exact h1⟩, key 166 X2 h2, key 167 X3 h3, key 168 X4 h4, key 169 X5 h5, ⟨X6, by rw [hg_ne (by omega)]; exact h6⟩⟩
theorem nx_4 {H : rm_H} {X : Nat → Int32} (h : nwX H) : nwX (H.set 165 (cI 4 X)) := by
  obtain ⟨⟨X1, h1⟩, ⟨X2, h2⟩, ⟨X3, h3⟩, ⟨X4, h4⟩, ⟨X5, h5⟩, ⟨X6, h6⟩⟩ := h
  exact ⟨⟨X, hg_set (hlt h1)⟩, ⟨X2, by rw [hg_ne (by omega)]; exact h2⟩, ⟨X3, by rw [hg_ne (by omega)]; exact h3⟩, ⟨X4, by rw [hg_ne (by omega)]; exact h4⟩, ⟨X5, by rw [hg_ne (by omega)]; exact h5⟩, ⟨X6, by rw [hg_ne (by omega)]; exact h6⟩⟩
theorem ti_c {X A : Nat → Int32} {x y : Int32} (hx : x.toNatClampNeg < 8) (hy : y.toNatClampNeg < 8) (h : ∀ i, i < 8 → X i = A i) : ∀ i, i < 8 → tiA X x y i = tiA A x y i := by
  intro i hi
  unfold tiA upd
  rw [h _ hx, h _ hy, h i hi]
theorem vi_0 : vp_in 0 4 := show vp_in (nI 0) 4 from vp_in_nI (by omega) (by omega)
theorem vi_1 : vp_in 1 4 := show vp_in (nI 1) 4 from vp_in_nI (by omega) (by omega)
theorem vi_2 : vp_in 2 4 := show vp_in (nI 2) 4 from vp_in_nI (by omega) (by omega)
theorem vi_3 : vp_in 3 4 := show vp_in (nI 3) 4 from vp_in_nI (by omega) (by omega)
def alQ (H0 : rm_H) (f0 So0 Nu0 y : Nat → Int32) (ln slot : Nat) (l : List tok) (sc : rz) (z : Option Value) (H1 : rm_H) : Prop := z = none ∧ ∃ f1 s1, zsM H0 f0 So0 Nu0 y ln slot H1 f1 s1 ∧ s1.1 = sc.1.1 ∧ s1.2.1 ≤ ln ∧ s1.2.2 = ([], 0, 0) ∧ nwX H1 ∧ (s1.1 = 0 → simP l y ln s1 sc.1 ∧ nwM H1 sc.2 1)
section RXT
variable {k ln slot : Nat} {H0 H : rm_H} {f0 f So0 Nu0 y : Nat → Int32} {s : psT} {l : List tok} {t : Int32 × Nat} {v : rV} {z : Int32}
theorem zs_go {H1 : rm_H} {f1 : Nat → Int32} {s1 : psT} (h : zsM H0 f0 So0 Nu0 y ln slot H f s) (h1 : psM H f So0 Nu0 y ln slot H1 f1 s1) : zsM H0 f0 So0 Nu0 y ln slot H1 f1 s1 ∧ sB pzP H H1 := by
  obtain ⟨-, a1, a2⟩ := h
  have h1' := ps_re h1
  obtain ⟨-, -, -, -, -, -, hf, -, -, -, bb⟩ := h1
  exact ⟨⟨h1', fun j hj => (hf j hj).trans (a1 j hj), a2.trans (bb.mono (fun i hi => zrP_i (by have := pzP_c hi; omega)))⟩, bb⟩
theorem zs_set {q : Nat} {e : va_E} (hq : 165 ≤ q ∧ q ≤ 170) (h : zsM H0 f0 So0 Nu0 y ln slot H f s) : zsM H0 f0 So0 Nu0 y ln slot (H.set q e) f s := by
  obtain ⟨⟨⟨hm, h18, hl, bb, hb, hy, hr⟩, e1, e2, e3, e4, e5, hf, hc, ⟨So, Nu, q1, q2, q3⟩, ⟨op, q4⟩, -⟩, a1, a2⟩ := h
  exact ⟨⟨⟨by rw [hg_ne (by omega)]; exact hm, h18, hl, bb, by rw [hg_ne (by omega)]; exact hb, hy, hr⟩, e1, e2, e3, e4, e5, hf, hc, ⟨So, Nu, by rw [hg_ne (by omega)]; exact q1, by rw [hg_ne (by omega)]; exact q2, q3⟩, ⟨op, by rw [hg_ne (by omega)]; exact q4⟩, sB.refl _ _⟩, a1, a2.trans (sB.set _ (zrP_i (by omega)))⟩
theorem pz_n {i : Nat} (h : pzP i) : ¬ (165 ≤ i ∧ i ≤ 170) := by
  have := pzP_c h
  omega
theorem fq_n0 (hl : tkG l) {i q : Nat} (hq : q < 8) : ¬ fF l i (nI q) = 0 := fa_n0 (by have := hl.2.2.2 i; omega) hq
/-- a number within the questions -/
theorem nu_rg (hl : tkG l) {n : Nat} (hn : n ≤ 8) (h : (nuP l 0 (nI n - 1) (-1) t).2.1 = 0) : ∃ a, a < n ∧ (nuP l 0 (nI n - 1) (-1) t).1 = nI a := by
  unfold nuP at h ⊢
  by_cases t0 : t.1 = 0
  · rw [if_pos t0] at h ⊢
    by_cases t2 : tT l t.2 = 258
    · rw [if_pos t2] at h ⊢
      by_cases c : tV l t.2 < 0 ∨ nI n - 1 < tV l t.2 ∨ tV l t.2 = -1
      · rw [if_pos c] at h
        exact absurd h (fq_n0 hl (q := 1) (by omega))
      · rw [if_neg c]
        have c1 : ¬ tV l t.2 < 0 := fun g => c (Or.inl g)
        have c2 : tV l t.2 ≤ nI n - 1 := Int32.not_lt.mp (fun g => c (Or.inr (Or.inl g)))
        cases n with
        | zero =>
          exfalso
          have e : nI 0 - 1 = -1 := by decide
          rw [e] at c2
          exact c1 (Int32.lt_of_le_of_lt c2 (by decide))
        | succ m =>
          rw [nI_dec] at c2
          obtain ⟨a, ha, ea, -⟩ := nat_le (by omega) c1 c2
          exact ⟨a, by omega, ea⟩
    · rw [if_neg t2] at h
      exact absurd h (fq_n0 hl (q := 0) (by omega))
  · rw [if_neg t0] at h
    exact absurd h t0
theorem nu_ne {hi bn : Int32} (h : (nuP l 0 hi (-1) t).2.1 = 0 → ¬ (nuP l 0 hi (-1) t).1 = bn) : nuP l 0 hi bn t = nuP l 0 hi (-1) t := by
  unfold nuP at h ⊢
  by_cases t0 : t.1 = 0
  · rw [if_pos t0, if_pos t0]
    rw [if_pos t0] at h
    by_cases t2 : tT l t.2 = 258
    · rw [if_pos t2, if_pos t2]
      rw [if_pos t2] at h
      by_cases c : tV l t.2 < 0 ∨ hi < tV l t.2 ∨ tV l t.2 = -1
      · have c' : tV l t.2 < 0 ∨ hi < tV l t.2 ∨ tV l t.2 = bn := by
          rcases c with g | g | g
          · exact Or.inl g
          · exact Or.inr (Or.inl g)
          · exact Or.inl (by rw [g]; decide)
        rw [if_pos c, if_pos c']
      · rw [if_neg c] at h
        have hb : ¬ tV l t.2 = bn := h rfl
        have c' : ¬ (tV l t.2 < 0 ∨ hi < tV l t.2 ∨ tV l t.2 = bn) := by
          rintro (g | g | g)
          · exact c (Or.inl g)
          · exact c (Or.inr (Or.inl g))
          · exact hb g
        rw [if_neg c, if_neg c']
    · rw [if_neg t2, if_neg t2]
  · rw [if_neg t0, if_neg t0]
theorem nu_eq (hl : tkG l) {hi bn : Int32} (t0 : t.1 = 0) (h : (nuP l 0 hi (-1) t).2.1 = 0) (e : (nuP l 0 hi (-1) t).1 = bn) : nuP l 0 hi bn t = (0, (fF l t.2 1, t.2)) := by
  unfold nuP at h e ⊢
  rw [if_pos t0] at h e ⊢
  by_cases t2 : tT l t.2 = 258
  · rw [if_pos t2] at h e ⊢
    by_cases c : tV l t.2 < 0 ∨ hi < tV l t.2 ∨ tV l t.2 = -1
    · rw [if_pos c] at h
      exact absurd h (fq_n0 hl (q := 1) (by omega))
    · rw [if_neg c] at e
      have e' : tV l t.2 = bn := e
      rw [if_pos (Or.inr (Or.inr e'))]
  · rw [if_neg t2] at h
    exact absurd h (fq_n0 hl (q := 0) (by omega))
theorem raS_1 {sc : rz} : (raS l sc).1 = (nuP l 0 (nI (rN sc.2) - 1) (nuP l 0 (nI (rN sc.2) - 1) (-1) sc.1).1 (nuP l 0 (nI (rN sc.2) - 1) (-1) sc.1).2).2 := rfl
theorem raS_2 {sc : rz} {a b : Nat} (hn : rN sc.2 ≤ 8) (ha : a < rN sc.2) (hb : b < rN sc.2) (e1 : (nuP l 0 (nI (rN sc.2) - 1) (-1) sc.1).1 = nI a) (e2 : (nuP l 0 (nI (rN sc.2) - 1) (nuP l 0 (nI (rN sc.2) - 1) (-1) sc.1).1 (nuP l 0 (nI (rN sc.2) - 1) (-1) sc.1).2).1 = nI b) (h0 : (nuP l 0 (nI (rN sc.2) - 1) (nuP l 0 (nI (rN sc.2) - 1) (-1) sc.1).1 (nuP l 0 (nI (rN sc.2) - 1) (-1) sc.1).2).2.1 = 0) : (raS l sc).2 = (rTo sc.2, rKe sc.2, rHa sc.2, rN sc.2, rWk sc.2, rW sc.2, rFr sc.2, rLa sc.2, tiA (rA sc.2) (nI a) (nI b)) := by
  unfold raS
  rw [if_pos h0, e1]
  rw [e1] at e2
  rw [e2, if_pos ⟨nI_pos' (by omega), nI_lt ha (by omega)⟩, if_pos ⟨nI_pos' (by omega), nI_lt hb (by omega)⟩]
theorem pn_alike (hk : 6 ≤ k) (hln : ln ≤ 400) (hl : tkG l) (h0 : s.1 = 0) (hr : simP l y ln s t) (hE : s.2.2 = ([], 0, 0)) (hn : nwM H v 1) (h : zsM H0 f0 So0 Nu0 y ln slot H f s) : rm_Do mX12_alikePart k [.ref 153] H (alQ H0 f0 So0 Nu0 y ln slot l (raS l (t, v))) := by
  obtain ⟨i, rfl⟩ : ∃ i, k = i + 1 := ⟨k - 1, by omega⟩
  have hm := psM_m h.1
  have hN : rN v ≤ 8 := hn.2.2.2.2.2.2
  obtain ⟨X, x1, -, -, -, x2⟩ := id hn.1
  refine rm_m (L := [some (.ref 153), none, none, none]) (c := 0) (s := 0) 8 [55] ok_X12_alikePart (by decide) rfl rfl rfl rfl ?_
  simp (disch := first | assumption | decide | omega | (simp only [List.length_set]; omega)) only [w_nil, w_nop, w_iload, w_lload, w_aload, w_istore, w_lstore, w_astore, w_astoreN, w_iinc, w_iadd, w_isub, w_imul, w_iand, w_ior, w_ixor, w_ishl, w_ishr, w_iushr, w_idiv, w_irem, w_ladd, w_lsub, w_lmul, w_land, w_lor, w_ldiv, w_lrem, w_lshl, w_lshr, w_lcmp, w_i2l, w_l2i, w_i2b, w_i2c, w_dupI, w_popI, w_dupR, w_popR, w_dupN, w_popN, w_dup2, w_ifnull, w_ifnullN, w_ifnon, w_ifnonN, w_goto, w_getf, w_putf, w_alen, w_iaload, w_baload, w_laload, w_aaload, w_iastore, w_bastore, w_lastore, w_aastore, w_new, w_newarray, w_anewarray, w_static, w_virtual, w_special, w_obj, w_copyi, w_copyq, w_min, w_max, w_iret, w_lret, w_aret, w_aretN, w_ret, g_fg, g_I, g_J, g_R, g_N, g_1r, pw_0, pw_I, pw_R, pw_N, pw_n, pv_0, pv_1, pv_2, pv_3, pv_4, pv_5, pv_6, pv_7, pv_8, pv_9, pv_10, pv_11, pv_12, pv_13, pv_14, pv_15, pv_16, pv_17, pv_18, pv_19, cd_eq, cd_ne, cd_lt, cd_ge, cd_gt, cd_le, ft_0, ft_1, ft_2, ft_3, ft_3n, fk_0, fk_1, fk_2, fk_3, ps_n, ps_s, rf_s, rf_n, gl_0, gl_1, gl_2, gl_3, gl_4, gl_5, gl_6, gl_7, gl_8, gl_9, gl_10, gl_11, gl_12, gl_13, sl_0, sl_1, sl_2, sl_3, sl_4, sl_5, sl_6, sl_7, sl_8, sl_9, sl_10, sl_11, sl_12, sl_13, List.contains_nil, List.contains_cons, Nat.reduceBEq, Bool.false_or, Bool.or_false, Bool.true_or, Nat.reduceAdd, true_and, and_true, Nat.reduceLT, List.length_cons, List.length_nil, Nat.reduceLeDiff, List.drop_zero, List.take_zero, List.take_succ_cons, List.drop_succ_cons, List.reverse_cons, List.reverse_nil, List.nil_append, List.cons_append, List.append_nil, forall_const, rf_int, rf_bool, sr_sn, sn_0, sn_i, sn_l, sn_r, sn_n, ob_o, ar_o, al_o, aq_o, aln_o, oo_1, ao_1, lo_1, qo_1, lno_1, rv_o, rvv_0, rvv_1, rvv_2, rvv_3, rvv_4, rvv_5, rvv_6, rvv_7, rvv_8, rvv_9, rvv_10, rvv_11, rvv_12, List.length_set, List.set_set, hg_set, hg_ne, lt_00, lt_80, tn_8, lt_40, tn_4, tn_10, lt_100, le_88, Nat.zero_add, or_01, or_11, Nat.reduceMul, not_false_eq_true, Bool.false_eq_true, if_false, if_true, ite_false, ite_true, Bool.or_true, Bool.false_eq_true, if_false, if_true, ite_false, ite_true, Bool.or_true, eq_self, and_self, reduceCtorEq, true_or, or_true, true_imp_iff, not_true_eq_false, false_imp_iff, implies_true, u_zeqT, u_zeqF, u_zneT, u_zneF, u_zltT, u_zltF, u_zgeT, u_zgeF, u_zgtT, u_zgtF, u_zleT, u_zleF, u_ceqT, u_ceqF, u_cneT, u_cneF, u_cltT, u_cltF, u_cgeT, u_cgeF, u_cgtT, u_cgtF, u_cleT, u_cleF, sw_T, sw_F, v_table, v_look, sw_0, Nat.reduceSub, pb9X12_alikePart_c55_a0, bX12_alikePart_0, pb9X12_alikePart_c55_a55, bX12_alikePart_55, pb9X12_alikePart_c55_a86, bX12_alikePart_86, rt_X12_alikePart, mc_X12_alikePart, ms_X12_alikePart, mc_X12_amount, ms_X12_amount, ci_X12_amount, al_X12_amount, mc_X12_blanks, ms_X12_blanks, ci_X12_blanks, al_X12_blanks, mc_X12_fails, ms_X12_fails, ci_X12_fails, al_X12_fails, mt_0, mg_0, mg_1, mg_2, mg_3, mg_4, mg_5, mg_6, mg_7, mg_8, mg_9, mg_10, mg_11, mg_12, mg_13, mg_14, mg_15, mg_16, mg_17, mt_18, mg_18, mt_19, mg_19, mt_20, mg_20, mt_21, mg_21, mt_22, mg_22, mt_23, mg_23, mt_24, mg_24, mt_25, mg_25, mt_26, mg_26, mt_27, mg_27, mg_28, mg_29, mg_30, mg_31, mg_32, mg_33, mg_34, mg_35, mg_36, mg_37, mg_38, mg_39, mt_40, mg_40, mt_41, mg_41, mt_42, mg_42, mg_43, mg_44, mt_45, mg_45, mt_46, mg_46, mt_47, mg_47, mg_48, mg_49, mg_50, mg_51, mt_52, mg_52, mt_53, mg_53, mL_len, hm, x1, x2, vi_3]
  refine (pn_amount (lo := 0) (hi := nI (rN v) - 1) (by omega) hln hr.1 hr.2.1 (fun _ => hr) h.1).mono ?_
  rintro z H1 ⟨f1, s1, xa, rfl, h1, a1, a2, a3, a4⟩ _
  obtain ⟨z1, b1⟩ := zs_go h h1
  have n1 := nw_b b1 (fun _ => pz_n) hn
  have hm1 := psM_m h1
  obtain ⟨t1, et1⟩ : ∃ b, b = nuP l 0 (nI (rN v) - 1) (-1) t := ⟨_, rfl⟩
  rw [← et1] at a1 a4
  simp (disch := first | assumption | decide | omega | (simp only [List.length_set]; omega)) only [w_nil, w_nop, w_iload, w_lload, w_aload, w_istore, w_lstore, w_astore, w_astoreN, w_iinc, w_iadd, w_isub, w_imul, w_iand, w_ior, w_ixor, w_ishl, w_ishr, w_iushr, w_idiv, w_irem, w_ladd, w_lsub, w_lmul, w_land, w_lor, w_ldiv, w_lrem, w_lshl, w_lshr, w_lcmp, w_i2l, w_l2i, w_i2b, w_i2c, w_dupI, w_popI, w_dupR, w_popR, w_dupN, w_popN, w_dup2, w_ifnull, w_ifnullN, w_ifnon, w_ifnonN, w_goto, w_getf, w_putf, w_alen, w_iaload, w_baload, w_laload, w_aaload, w_iastore, w_bastore, w_lastore, w_aastore, w_new, w_newarray, w_anewarray, w_static, w_virtual, w_special, w_obj, w_copyi, w_copyq, w_min, w_max, w_iret, w_lret, w_aret, w_aretN, w_ret, g_fg, g_I, g_J, g_R, g_N, g_1r, pw_0, pw_I, pw_R, pw_N, pw_n, pv_0, pv_1, pv_2, pv_3, pv_4, pv_5, pv_6, pv_7, pv_8, pv_9, pv_10, pv_11, pv_12, pv_13, pv_14, pv_15, pv_16, pv_17, pv_18, pv_19, cd_eq, cd_ne, cd_lt, cd_ge, cd_gt, cd_le, ft_0, ft_1, ft_2, ft_3, ft_3n, fk_0, fk_1, fk_2, fk_3, ps_n, ps_s, rf_s, rf_n, gl_0, gl_1, gl_2, gl_3, gl_4, gl_5, gl_6, gl_7, gl_8, gl_9, gl_10, gl_11, gl_12, gl_13, sl_0, sl_1, sl_2, sl_3, sl_4, sl_5, sl_6, sl_7, sl_8, sl_9, sl_10, sl_11, sl_12, sl_13, List.contains_nil, List.contains_cons, Nat.reduceBEq, Bool.false_or, Bool.or_false, Bool.true_or, Nat.reduceAdd, true_and, and_true, Nat.reduceLT, List.length_cons, List.length_nil, Nat.reduceLeDiff, List.drop_zero, List.take_zero, List.take_succ_cons, List.drop_succ_cons, List.reverse_cons, List.reverse_nil, List.nil_append, List.cons_append, List.append_nil, forall_const, rf_int, rf_bool, sr_sn, sn_0, sn_i, sn_l, sn_r, sn_n, ob_o, ar_o, al_o, aq_o, aln_o, oo_1, ao_1, lo_1, qo_1, lno_1, rv_o, rvv_0, rvv_1, rvv_2, rvv_3, rvv_4, rvv_5, rvv_6, rvv_7, rvv_8, rvv_9, rvv_10, rvv_11, rvv_12, List.length_set, List.set_set, hg_set, hg_ne, lt_00, lt_80, tn_8, lt_40, tn_4, tn_10, lt_100, le_88, Nat.zero_add, or_01, or_11, Nat.reduceMul, not_false_eq_true, Bool.false_eq_true, if_false, if_true, ite_false, ite_true, Bool.or_true, Bool.false_eq_true, if_false, if_true, ite_false, ite_true, Bool.or_true, eq_self, and_self, reduceCtorEq, true_or, or_true, true_imp_iff, not_true_eq_false, false_imp_iff, implies_true, u_zeqT, u_zeqF, u_zneT, u_zneF, u_zltT, u_zltF, u_zgeT, u_zgeF, u_zgtT, u_zgtF, u_zleT, u_zleF, u_ceqT, u_ceqF, u_cneT, u_cneF, u_cltT, u_cltF, u_cgeT, u_cgeF, u_cgtT, u_cgtF, u_cleT, u_cleF, sw_T, sw_F, v_table, v_look, sw_0, Nat.reduceSub, pb9X12_alikePart_c55_a0, bX12_alikePart_0, pb9X12_alikePart_c55_a55, bX12_alikePart_55, pb9X12_alikePart_c55_a86, bX12_alikePart_86, rt_X12_alikePart, mc_X12_alikePart, ms_X12_alikePart, mc_X12_amount, ms_X12_amount, ci_X12_amount, al_X12_amount, mc_X12_blanks, ms_X12_blanks, ci_X12_blanks, al_X12_blanks, mc_X12_fails, ms_X12_fails, ci_X12_fails, al_X12_fails, hm1]
  refine (pn_blanks (by omega) a3 z1.1).go ?_
  rintro H2 ⟨f2, h2⟩ _
  obtain ⟨z2, b2⟩ := zs_go z1 h2
  have n2 := nw_b b2 (fun _ => pz_n) n1
  have hm2 := psM_m h2
  have hbl : blE y ln ln (blE y ln ln s1.2.1) = blE y ln ln s1.2.1 := blE_idem _
  have hp2 : blE y ln ln s1.2.1 ≤ ln := (blE_ge (y := y) (ln := ln) ln s1.2.1).2 a3
  have hr2 : s1.1 = 0 → simP l y ln (s1.1, blE y ln ln s1.2.1, s1.2.2) t1.2 := fun q => sim_bl (a4 q).2.2
  generalize blE y ln ln s1.2.1 = p at *
  have e19 : f2 19 = nI p := h2.2.1
  obtain ⟨X2, x12, -, -, -, x22⟩ := id n2.1
  simp (disch := first | assumption | decide | omega | (simp only [List.length_set]; omega)) only [w_nil, w_nop, w_iload, w_lload, w_aload, w_istore, w_lstore, w_astore, w_astoreN, w_iinc, w_iadd, w_isub, w_imul, w_iand, w_ior, w_ixor, w_ishl, w_ishr, w_iushr, w_idiv, w_irem, w_ladd, w_lsub, w_lmul, w_land, w_lor, w_ldiv, w_lrem, w_lshl, w_lshr, w_lcmp, w_i2l, w_l2i, w_i2b, w_i2c, w_dupI, w_popI, w_dupR, w_popR, w_dupN, w_popN, w_dup2, w_ifnull, w_ifnullN, w_ifnon, w_ifnonN, w_goto, w_getf, w_putf, w_alen, w_iaload, w_baload, w_laload, w_aaload, w_iastore, w_bastore, w_lastore, w_aastore, w_new, w_newarray, w_anewarray, w_static, w_virtual, w_special, w_obj, w_copyi, w_copyq, w_min, w_max, w_iret, w_lret, w_aret, w_aretN, w_ret, g_fg, g_I, g_J, g_R, g_N, g_1r, pw_0, pw_I, pw_R, pw_N, pw_n, pv_0, pv_1, pv_2, pv_3, pv_4, pv_5, pv_6, pv_7, pv_8, pv_9, pv_10, pv_11, pv_12, pv_13, pv_14, pv_15, pv_16, pv_17, pv_18, pv_19, cd_eq, cd_ne, cd_lt, cd_ge, cd_gt, cd_le, ft_0, ft_1, ft_2, ft_3, ft_3n, fk_0, fk_1, fk_2, fk_3, ps_n, ps_s, rf_s, rf_n, gl_0, gl_1, gl_2, gl_3, gl_4, gl_5, gl_6, gl_7, gl_8, gl_9, gl_10, gl_11, gl_12, gl_13, sl_0, sl_1, sl_2, sl_3, sl_4, sl_5, sl_6, sl_7, sl_8, sl_9, sl_10, sl_11, sl_12, sl_13, List.contains_nil, List.contains_cons, Nat.reduceBEq, Bool.false_or, Bool.or_false, Bool.true_or, Nat.reduceAdd, true_and, and_true, Nat.reduceLT, List.length_cons, List.length_nil, Nat.reduceLeDiff, List.drop_zero, List.take_zero, List.take_succ_cons, List.drop_succ_cons, List.reverse_cons, List.reverse_nil, List.nil_append, List.cons_append, List.append_nil, forall_const, rf_int, rf_bool, sr_sn, sn_0, sn_i, sn_l, sn_r, sn_n, ob_o, ar_o, al_o, aq_o, aln_o, oo_1, ao_1, lo_1, qo_1, lno_1, rv_o, rvv_0, rvv_1, rvv_2, rvv_3, rvv_4, rvv_5, rvv_6, rvv_7, rvv_8, rvv_9, rvv_10, rvv_11, rvv_12, List.length_set, List.set_set, hg_set, hg_ne, lt_00, lt_80, tn_8, lt_40, tn_4, tn_10, lt_100, le_88, Nat.zero_add, or_01, or_11, Nat.reduceMul, not_false_eq_true, Bool.false_eq_true, if_false, if_true, ite_false, ite_true, Bool.or_true, Bool.false_eq_true, if_false, if_true, ite_false, ite_true, Bool.or_true, eq_self, and_self, reduceCtorEq, true_or, or_true, true_imp_iff, not_true_eq_false, false_imp_iff, implies_true, u_zeqT, u_zeqF, u_zneT, u_zneF, u_zltT, u_zltF, u_zgeT, u_zgeF, u_zgtT, u_zgtF, u_zleT, u_zleF, u_ceqT, u_ceqF, u_cneT, u_cneF, u_cltT, u_cltF, u_cgeT, u_cgeF, u_cgtT, u_cgtF, u_cleT, u_cleF, sw_T, sw_F, v_table, v_look, sw_0, Nat.reduceSub, pb9X12_alikePart_c55_a0, bX12_alikePart_0, pb9X12_alikePart_c55_a55, bX12_alikePart_55, pb9X12_alikePart_c55_a86, bX12_alikePart_86, rt_X12_alikePart, mc_X12_alikePart, ms_X12_alikePart, mc_X12_amount, ms_X12_amount, ci_X12_amount, al_X12_amount, mc_X12_blanks, ms_X12_blanks, ci_X12_blanks, al_X12_blanks, mc_X12_fails, ms_X12_fails, ci_X12_fails, al_X12_fails, mt_0, mg_0, mg_1, mg_2, mg_3, mg_4, mg_5, mg_6, mg_7, mg_8, mg_9, mg_10, mg_11, mg_12, mg_13, mg_14, mg_15, mg_16, mg_17, mt_18, mg_18, mt_19, mg_19, mt_20, mg_20, mt_21, mg_21, mt_22, mg_22, mt_23, mg_23, mt_24, mg_24, mt_25, mg_25, mt_26, mg_26, mt_27, mg_27, mg_28, mg_29, mg_30, mg_31, mg_32, mg_33, mg_34, mg_35, mg_36, mg_37, mg_38, mg_39, mt_40, mg_40, mt_41, mg_41, mt_42, mg_42, mg_43, mg_44, mt_45, mg_45, mt_46, mg_46, mt_47, mg_47, mg_48, mg_49, mg_50, mg_51, mt_52, mg_52, mt_53, mg_53, mL_len, hm2, e19, x12, x22, vi_3]
  refine (pn_amount (s := (s1.1, p, s1.2.2)) (lo := 0) (hi := nI (rN v) - 1) (by omega) hln a1 hp2 hr2 z2.1).mono ?_
  rintro z H3 ⟨f3, s3, xb, rfl, h3, b1', b2', b3', b4'⟩ _
  obtain ⟨z3, bb3⟩ := zs_go z2 h3
  have n3 := nw_b bb3 (fun _ => pz_n) n2
  have hm3 := psM_m h3
  have e20 : f3 20 = s3.1 := h3.2.2.1
  have es3 : s3.2.2 = ([], 0, 0) := b2'.trans (a2.trans hE)
  have hsc : (raS l (t, v)).1 = (nuP l 0 (nI (rN v) - 1) t1.1 t1.2).2 := by rw [et1]; exact raS_1
  obtain ⟨t2, et2⟩ : ∃ b, b = nuP l 0 (nI (rN v) - 1) (-1) t1.2 := ⟨_, rfl⟩
  rw [← et2] at b1' b4'
  -- the end
  have fin : ∀ (H4 : rm_H) (f4 : Nat → Int32) (s4 : psT) (n0 : Nat), zsM H0 f0 So0 Nu0 y ln slot H4 f4 s4 → nwX H4 → s4.2.1 ≤ ln → s4.2.2 = ([], 0, 0) → s4.1 = (raS l (t, v)).1.1 → ¬ s4.1 = 0 → rm_S mX12_alikePart (i + 1) (alQ H0 f0 So0 Nu0 y ln slot l (raS l (t, v))) n0 55 [some (.ref 153), some (.int xa), some (.int (nI p)), some (.int xb)] [] H4 0 0 := by
    intro H4 f4 s4 n0 g1 g2 g3 g4 g5 g6
    have hm4 := psM_m g1.1
    have e20 : ¬ f4 20 = 0 := by rw [g1.1.2.2.1]; exact g6
    refine rm_from 3 [] ok_X12_alikePart atX12_alikePart_55 ?_
    simp (disch := first | assumption | decide | omega | (simp only [List.length_set]; omega)) only [w_nil, w_nop, w_iload, w_lload, w_aload, w_istore, w_lstore, w_astore, w_astoreN, w_iinc, w_iadd, w_isub, w_imul, w_iand, w_ior, w_ixor, w_ishl, w_ishr, w_iushr, w_idiv, w_irem, w_ladd, w_lsub, w_lmul, w_land, w_lor, w_ldiv, w_lrem, w_lshl, w_lshr, w_lcmp, w_i2l, w_l2i, w_i2b, w_i2c, w_dupI, w_popI, w_dupR, w_popR, w_dupN, w_popN, w_dup2, w_ifnull, w_ifnullN, w_ifnon, w_ifnonN, w_goto, w_getf, w_putf, w_alen, w_iaload, w_baload, w_laload, w_aaload, w_iastore, w_bastore, w_lastore, w_aastore, w_new, w_newarray, w_anewarray, w_static, w_virtual, w_special, w_obj, w_copyi, w_copyq, w_min, w_max, w_iret, w_lret, w_aret, w_aretN, w_ret, g_fg, g_I, g_J, g_R, g_N, g_1r, pw_0, pw_I, pw_R, pw_N, pw_n, pv_0, pv_1, pv_2, pv_3, pv_4, pv_5, pv_6, pv_7, pv_8, pv_9, pv_10, pv_11, pv_12, pv_13, pv_14, pv_15, pv_16, pv_17, pv_18, pv_19, cd_eq, cd_ne, cd_lt, cd_ge, cd_gt, cd_le, ft_0, ft_1, ft_2, ft_3, ft_3n, fk_0, fk_1, fk_2, fk_3, ps_n, ps_s, rf_s, rf_n, gl_0, gl_1, gl_2, gl_3, gl_4, gl_5, gl_6, gl_7, gl_8, gl_9, gl_10, gl_11, gl_12, gl_13, sl_0, sl_1, sl_2, sl_3, sl_4, sl_5, sl_6, sl_7, sl_8, sl_9, sl_10, sl_11, sl_12, sl_13, List.contains_nil, List.contains_cons, Nat.reduceBEq, Bool.false_or, Bool.or_false, Bool.true_or, Nat.reduceAdd, true_and, and_true, Nat.reduceLT, List.length_cons, List.length_nil, Nat.reduceLeDiff, List.drop_zero, List.take_zero, List.take_succ_cons, List.drop_succ_cons, List.reverse_cons, List.reverse_nil, List.nil_append, List.cons_append, List.append_nil, forall_const, rf_int, rf_bool, sr_sn, sn_0, sn_i, sn_l, sn_r, sn_n, ob_o, ar_o, al_o, aq_o, aln_o, oo_1, ao_1, lo_1, qo_1, lno_1, rv_o, rvv_0, rvv_1, rvv_2, rvv_3, rvv_4, rvv_5, rvv_6, rvv_7, rvv_8, rvv_9, rvv_10, rvv_11, rvv_12, List.length_set, List.set_set, hg_set, hg_ne, lt_00, lt_80, tn_8, lt_40, tn_4, tn_10, lt_100, le_88, Nat.zero_add, or_01, or_11, Nat.reduceMul, not_false_eq_true, Bool.false_eq_true, if_false, if_true, ite_false, ite_true, Bool.or_true, Bool.false_eq_true, if_false, if_true, ite_false, ite_true, Bool.or_true, eq_self, and_self, reduceCtorEq, true_or, or_true, true_imp_iff, not_true_eq_false, false_imp_iff, implies_true, u_zeqT, u_zeqF, u_zneT, u_zneF, u_zltT, u_zltF, u_zgeT, u_zgeF, u_zgtT, u_zgtF, u_zleT, u_zleF, u_ceqT, u_ceqF, u_cneT, u_cneF, u_cltT, u_cltF, u_cgeT, u_cgeF, u_cgtT, u_cgtF, u_cleT, u_cleF, sw_T, sw_F, v_table, v_look, sw_0, Nat.reduceSub, pb9X12_alikePart_a0, bX12_alikePart_0, pb9X12_alikePart_a55, bX12_alikePart_55, pb9X12_alikePart_a86, bX12_alikePart_86, rt_X12_alikePart, mc_X12_alikePart, ms_X12_alikePart, mc_X12_amount, ms_X12_amount, ci_X12_amount, al_X12_amount, mc_X12_blanks, ms_X12_blanks, ci_X12_blanks, al_X12_blanks, mc_X12_fails, ms_X12_fails, ci_X12_fails, al_X12_fails, mt_0, mg_0, mg_1, mg_2, mg_3, mg_4, mg_5, mg_6, mg_7, mg_8, mg_9, mg_10, mg_11, mg_12, mg_13, mg_14, mg_15, mg_16, mg_17, mt_18, mg_18, mt_19, mg_19, mt_20, mg_20, mt_21, mg_21, mt_22, mg_22, mt_23, mg_23, mt_24, mg_24, mt_25, mg_25, mt_26, mg_26, mt_27, mg_27, mg_28, mg_29, mg_30, mg_31, mg_32, mg_33, mg_34, mg_35, mg_36, mg_37, mg_38, mg_39, mt_40, mg_40, mt_41, mg_41, mt_42, mg_42, mg_43, mg_44, mt_45, mg_45, mt_46, mg_46, mt_47, mg_47, mg_48, mg_49, mg_50, mg_51, mt_52, mg_52, mt_53, mg_53, mL_len, hm4]
    exact ⟨rfl, f4, s4, g1, g5, g3, g4, g2, fun g => absurd g g6⟩
  by_cases c3 : s3.1 = 0
  · have e20' : f3 20 = 0 := e20.trans c3
    obtain ⟨c1', exb, r3⟩ := b4' c3
    have c1 : s1.1 = 0 := c1'
    obtain ⟨c0, exa, r1⟩ := a4 c1
    have t10 : t1.2.1 = 0 := a1.symm.trans c1
    have t20 : t2.2.1 = 0 := b1'.symm.trans c3
    by_cases ce : xa = xb
    · have en : nuP l 0 (nI (rN v) - 1) t1.1 t1.2 = (0, (fF l t1.2.2 1, t1.2.2)) := nu_eq hl t10 (by rw [← et2]; exact t20) (by rw [← et2, ← exb, ← ce]; exact exa)
      have ts : tS l t1.2.2 = p := (sim_tok (hr2 c1) c1 hbl).2
      have nf : ¬ faF s3.1 p 1 = 0 := faF_n0 (q := 1) c3 (by omega) (by omega)
      simp (disch := first | assumption | decide | omega | (simp only [List.length_set]; omega)) only [w_nil, w_nop, w_iload, w_lload, w_aload, w_istore, w_lstore, w_astore, w_astoreN, w_iinc, w_iadd, w_isub, w_imul, w_iand, w_ior, w_ixor, w_ishl, w_ishr, w_iushr, w_idiv, w_irem, w_ladd, w_lsub, w_lmul, w_land, w_lor, w_ldiv, w_lrem, w_lshl, w_lshr, w_lcmp, w_i2l, w_l2i, w_i2b, w_i2c, w_dupI, w_popI, w_dupR, w_popR, w_dupN, w_popN, w_dup2, w_ifnull, w_ifnullN, w_ifnon, w_ifnonN, w_goto, w_getf, w_putf, w_alen, w_iaload, w_baload, w_laload, w_aaload, w_iastore, w_bastore, w_lastore, w_aastore, w_new, w_newarray, w_anewarray, w_static, w_virtual, w_special, w_obj, w_copyi, w_copyq, w_min, w_max, w_iret, w_lret, w_aret, w_aretN, w_ret, g_fg, g_I, g_J, g_R, g_N, g_1r, pw_0, pw_I, pw_R, pw_N, pw_n, pv_0, pv_1, pv_2, pv_3, pv_4, pv_5, pv_6, pv_7, pv_8, pv_9, pv_10, pv_11, pv_12, pv_13, pv_14, pv_15, pv_16, pv_17, pv_18, pv_19, cd_eq, cd_ne, cd_lt, cd_ge, cd_gt, cd_le, ft_0, ft_1, ft_2, ft_3, ft_3n, fk_0, fk_1, fk_2, fk_3, ps_n, ps_s, rf_s, rf_n, gl_0, gl_1, gl_2, gl_3, gl_4, gl_5, gl_6, gl_7, gl_8, gl_9, gl_10, gl_11, gl_12, gl_13, sl_0, sl_1, sl_2, sl_3, sl_4, sl_5, sl_6, sl_7, sl_8, sl_9, sl_10, sl_11, sl_12, sl_13, List.contains_nil, List.contains_cons, Nat.reduceBEq, Bool.false_or, Bool.or_false, Bool.true_or, Nat.reduceAdd, true_and, and_true, Nat.reduceLT, List.length_cons, List.length_nil, Nat.reduceLeDiff, List.drop_zero, List.take_zero, List.take_succ_cons, List.drop_succ_cons, List.reverse_cons, List.reverse_nil, List.nil_append, List.cons_append, List.append_nil, forall_const, rf_int, rf_bool, sr_sn, sn_0, sn_i, sn_l, sn_r, sn_n, ob_o, ar_o, al_o, aq_o, aln_o, oo_1, ao_1, lo_1, qo_1, lno_1, rv_o, rvv_0, rvv_1, rvv_2, rvv_3, rvv_4, rvv_5, rvv_6, rvv_7, rvv_8, rvv_9, rvv_10, rvv_11, rvv_12, List.length_set, List.set_set, hg_set, hg_ne, lt_00, lt_80, tn_8, lt_40, tn_4, tn_10, lt_100, le_88, Nat.zero_add, or_01, or_11, Nat.reduceMul, not_false_eq_true, Bool.false_eq_true, if_false, if_true, ite_false, ite_true, Bool.or_true, Bool.false_eq_true, if_false, if_true, ite_false, ite_true, Bool.or_true, eq_self, and_self, reduceCtorEq, true_or, or_true, true_imp_iff, not_true_eq_false, false_imp_iff, implies_true, u_zeqT, u_zeqF, u_zneT, u_zneF, u_zltT, u_zltF, u_zgeT, u_zgeF, u_zgtT, u_zgtF, u_zleT, u_zleF, u_ceqT, u_ceqF, u_cneT, u_cneF, u_cltT, u_cltF, u_cgeT, u_cgeF, u_cgtT, u_cgtF, u_cleT, u_cleF, sw_T, sw_F, v_table, v_look, sw_0, Nat.reduceSub, pb9X12_alikePart_c55_a0, bX12_alikePart_0, pb9X12_alikePart_c55_a55, bX12_alikePart_55, pb9X12_alikePart_c55_a86, bX12_alikePart_86, rt_X12_alikePart, mc_X12_alikePart, ms_X12_alikePart, mc_X12_amount, ms_X12_amount, ci_X12_amount, al_X12_amount, mc_X12_blanks, ms_X12_blanks, ci_X12_blanks, al_X12_blanks, mc_X12_fails, ms_X12_fails, ci_X12_fails, al_X12_fails, mt_0, mg_0, mg_1, mg_2, mg_3, mg_4, mg_5, mg_6, mg_7, mg_8, mg_9, mg_10, mg_11, mg_12, mg_13, mg_14, mg_15, mg_16, mg_17, mt_18, mg_18, mt_19, mg_19, mt_20, mg_20, mt_21, mg_21, mt_22, mg_22, mt_23, mg_23, mt_24, mg_24, mt_25, mg_25, mt_26, mg_26, mt_27, mg_27, mg_28, mg_29, mg_30, mg_31, mg_32, mg_33, mg_34, mg_35, mg_36, mg_37, mg_38, mg_39, mt_40, mg_40, mt_41, mg_41, mt_42, mg_42, mg_43, mg_44, mt_45, mg_45, mt_46, mg_46, mt_47, mg_47, mg_48, mg_49, mg_50, mg_51, mt_52, mg_52, mt_53, mg_53, mL_len, hm3]
      refine (pn_fails 1 p z3.1).go ?_
      rintro H4 ⟨f4, h4⟩ _
      obtain ⟨z4, b4⟩ := zs_go z3 h4
      simp (disch := first | assumption | decide | omega | (simp only [List.length_set]; omega)) only [w_nil, w_nop, w_iload, w_lload, w_aload, w_istore, w_lstore, w_astore, w_astoreN, w_iinc, w_iadd, w_isub, w_imul, w_iand, w_ior, w_ixor, w_ishl, w_ishr, w_iushr, w_idiv, w_irem, w_ladd, w_lsub, w_lmul, w_land, w_lor, w_ldiv, w_lrem, w_lshl, w_lshr, w_lcmp, w_i2l, w_l2i, w_i2b, w_i2c, w_dupI, w_popI, w_dupR, w_popR, w_dupN, w_popN, w_dup2, w_ifnull, w_ifnullN, w_ifnon, w_ifnonN, w_goto, w_getf, w_putf, w_alen, w_iaload, w_baload, w_laload, w_aaload, w_iastore, w_bastore, w_lastore, w_aastore, w_new, w_newarray, w_anewarray, w_static, w_virtual, w_special, w_obj, w_copyi, w_copyq, w_min, w_max, w_iret, w_lret, w_aret, w_aretN, w_ret, g_fg, g_I, g_J, g_R, g_N, g_1r, pw_0, pw_I, pw_R, pw_N, pw_n, pv_0, pv_1, pv_2, pv_3, pv_4, pv_5, pv_6, pv_7, pv_8, pv_9, pv_10, pv_11, pv_12, pv_13, pv_14, pv_15, pv_16, pv_17, pv_18, pv_19, cd_eq, cd_ne, cd_lt, cd_ge, cd_gt, cd_le, ft_0, ft_1, ft_2, ft_3, ft_3n, fk_0, fk_1, fk_2, fk_3, ps_n, ps_s, rf_s, rf_n, gl_0, gl_1, gl_2, gl_3, gl_4, gl_5, gl_6, gl_7, gl_8, gl_9, gl_10, gl_11, gl_12, gl_13, sl_0, sl_1, sl_2, sl_3, sl_4, sl_5, sl_6, sl_7, sl_8, sl_9, sl_10, sl_11, sl_12, sl_13, List.contains_nil, List.contains_cons, Nat.reduceBEq, Bool.false_or, Bool.or_false, Bool.true_or, Nat.reduceAdd, true_and, and_true, Nat.reduceLT, List.length_cons, List.length_nil, Nat.reduceLeDiff, List.drop_zero, List.take_zero, List.take_succ_cons, List.drop_succ_cons, List.reverse_cons, List.reverse_nil, List.nil_append, List.cons_append, List.append_nil, forall_const, rf_int, rf_bool, sr_sn, sn_0, sn_i, sn_l, sn_r, sn_n, ob_o, ar_o, al_o, aq_o, aln_o, oo_1, ao_1, lo_1, qo_1, lno_1, rv_o, rvv_0, rvv_1, rvv_2, rvv_3, rvv_4, rvv_5, rvv_6, rvv_7, rvv_8, rvv_9, rvv_10, rvv_11, rvv_12, List.length_set, List.set_set, hg_set, hg_ne, lt_00, lt_80, tn_8, lt_40, tn_4, tn_10, lt_100, le_88, Nat.zero_add, or_01, or_11, Nat.reduceMul, not_false_eq_true, Bool.false_eq_true, if_false, if_true, ite_false, ite_true, Bool.or_true, Bool.false_eq_true, if_false, if_true, ite_false, ite_true, Bool.or_true, eq_self, and_self, reduceCtorEq, true_or, or_true, true_imp_iff, not_true_eq_false, false_imp_iff, implies_true, u_zeqT, u_zeqF, u_zneT, u_zneF, u_zltT, u_zltF, u_zgeT, u_zgeF, u_zgtT, u_zgtF, u_zleT, u_zleF, u_ceqT, u_ceqF, u_cneT, u_cneF, u_cltT, u_cltF, u_cgeT, u_cgeF, u_cgtT, u_cgtF, u_cleT, u_cleF, sw_T, sw_F, v_table, v_look, sw_0, Nat.reduceSub, pb9X12_alikePart_c55_a0, bX12_alikePart_0, pb9X12_alikePart_c55_a55, bX12_alikePart_55, pb9X12_alikePart_c55_a86, bX12_alikePart_86, rt_X12_alikePart, mc_X12_alikePart, ms_X12_alikePart, mc_X12_amount, ms_X12_amount, ci_X12_amount, al_X12_amount, mc_X12_blanks, ms_X12_blanks, ci_X12_blanks, al_X12_blanks, mc_X12_fails, ms_X12_fails, ci_X12_fails, al_X12_fails]
      refine fin H4 f4 _ _ z4 (nx_b b4 (fun _ => pz_n) (nw_x n3)) b3' es3 ?_ nf
      rw [hsc, en]
      show faF s3.1 p 1 = 1 + 8 * nI (tS l t1.2.2) + 1
      rw [ts]
      exact if_pos c3
    · have en : nuP l 0 (nI (rN v) - 1) t1.1 t1.2 = t2 := by
        rw [et2]
        refine nu_ne (fun _ g => ce ?_)
        rw [exa, exb, et2]
        exact g.symm
      obtain ⟨a, ha, ea⟩ := nu_rg (t := t) hl hN (by rw [← et1]; exact t10)
      obtain ⟨b, hb, eb⟩ := nu_rg (t := t1.2) hl hN (by rw [← et2]; exact t20)
      rw [← et1] at ea
      rw [← et2] at eb
      have hsc2 : (raS l (t, v)).2 = (rTo v, rKe v, rHa v, rN v, rWk v, rW v, rFr v, rLa v, tiA (rA v) (nI a) (nI b)) := by
        refine raS_2 hN ha hb (by show (nuP l 0 (nI (rN v) - 1) (-1) t).1 = nI a; rw [← et1]; exact ea) ?_ ?_
        · show (nuP l 0 (nI (rN v) - 1) (nuP l 0 (nI (rN v) - 1) (-1) t).1 (nuP l 0 (nI (rN v) - 1) (-1) t).2).1 = nI b
          rw [← et1, en]
          exact eb
        · show (nuP l 0 (nI (rN v) - 1) (nuP l 0 (nI (rN v) - 1) (-1) t).1 (nuP l 0 (nI (rN v) - 1) (-1) t).2).2.1 = 0
          rw [← et1, en]
          exact t20
      have xa' : xa = nI a := exa.trans ea
      have xb' : xb = nI b := exb.trans eb
      subst xa' xb'
      obtain ⟨A, w1, w2⟩ := n3.2.2.1
      have i1 : (nI a).toNatClampNeg = a := nI_clamp (by omega)
      have i2 : vp_in (nI a) 8 := vp_in_nI (by omega) (by omega)
      have j1 : (nI b).toNatClampNeg = b := nI_clamp (by omega)
      have j2 : vp_in (nI b) 8 := vp_in_nI (by omega) (by omega)
      have eT : tiA A (nI a) (nI b) = upd (upd A a (A a ||| (1 <<< (nI b &&& 31)))) b (upd A a (A a ||| (1 <<< (nI b &&& 31))) b ||| (1 <<< (nI a &&& 31))) := by
        show upd (upd A (nI a).toNatClampNeg (A (nI a).toNatClampNeg ||| (1 <<< (nI b &&& 31)))) (nI b).toNatClampNeg (upd A (nI a).toNatClampNeg (A (nI a).toNatClampNeg ||| (1 <<< (nI b &&& 31))) (nI b).toNatClampNeg ||| (1 <<< (nI a &&& 31))) = _
        rw [i1, j1]
      have l1 := hlt w1
      have w1' : (H3.set 167 (cI 8 (upd A a (A a ||| (1 <<< (nI b &&& 31))))))[167]? = some (cI 8 (upd A a (A a ||| (1 <<< (nI b &&& 31))))) := hg_set l1
      have hm3' : (H3.set 167 (cI 8 (upd A a (A a ||| (1 <<< (nI b &&& 31))))))[153]? = some (cM f3) := by rw [hg_ne (by omega)]; exact hm3
      have z4 := zs_set (q := 167) (e := cI 8 (tiA A (nI a) (nI b))) (by omega) z3
      have n4 : nwM (H3.set 167 (cI 8 (tiA A (nI a) (nI b)))) (raS l (t, v)).2 1 := by
        rw [hsc2]
        obtain ⟨⟨X1, g1, g1'⟩, ⟨X2, g2, g2'⟩, -, ⟨X4, g4, g4'⟩, ⟨X5, g5, g5'⟩, ⟨X6, g6, g6'⟩, g7⟩ := n3
        exact ⟨⟨X1, by rw [hg_ne (by omega)]; exact g1, g1'⟩, ⟨X2, by rw [hg_ne (by omega)]; exact g2, g2'⟩, ⟨_, hg_set l1, ti_c (by omega) (by omega) w2⟩, ⟨X4, by rw [hg_ne (by omega)]; exact g4, g4'⟩, ⟨X5, by rw [hg_ne (by omega)]; exact g5, g5'⟩, ⟨X6, by rw [hg_ne (by omega)]; exact g6, g6'⟩, g7⟩
      rw [eT] at z4 n4
      have last : ∀ n0, rm_S mX12_alikePart (i + 1) (alQ H0 f0 So0 Nu0 y ln slot l (raS l (t, v))) n0 55 [some (.ref 153), some (.int (nI a)), some (.int (nI p)), some (.int (nI b))] [] H3 0 0 := by
        intro n0
        refine rm_from 3 [] ok_X12_alikePart atX12_alikePart_55 ?_
        simp (disch := first | assumption | decide | omega | (simp only [List.length_set]; omega)) only [w_nil, w_nop, w_iload, w_lload, w_aload, w_istore, w_lstore, w_astore, w_astoreN, w_iinc, w_iadd, w_isub, w_imul, w_iand, w_ior, w_ixor, w_ishl, w_ishr, w_iushr, w_idiv, w_irem, w_ladd, w_lsub, w_lmul, w_land, w_lor, w_ldiv, w_lrem, w_lshl, w_lshr, w_lcmp, w_i2l, w_l2i, w_i2b, w_i2c, w_dupI, w_popI, w_dupR, w_popR, w_dupN, w_popN, w_dup2, w_ifnull, w_ifnullN, w_ifnon, w_ifnonN, w_goto, w_getf, w_putf, w_alen, w_iaload, w_baload, w_laload, w_aaload, w_iastore, w_bastore, w_lastore, w_aastore, w_new, w_newarray, w_anewarray, w_static, w_virtual, w_special, w_obj, w_copyi, w_copyq, w_min, w_max, w_iret, w_lret, w_aret, w_aretN, w_ret, g_fg, g_I, g_J, g_R, g_N, g_1r, pw_0, pw_I, pw_R, pw_N, pw_n, pv_0, pv_1, pv_2, pv_3, pv_4, pv_5, pv_6, pv_7, pv_8, pv_9, pv_10, pv_11, pv_12, pv_13, pv_14, pv_15, pv_16, pv_17, pv_18, pv_19, cd_eq, cd_ne, cd_lt, cd_ge, cd_gt, cd_le, ft_0, ft_1, ft_2, ft_3, ft_3n, fk_0, fk_1, fk_2, fk_3, ps_n, ps_s, rf_s, rf_n, gl_0, gl_1, gl_2, gl_3, gl_4, gl_5, gl_6, gl_7, gl_8, gl_9, gl_10, gl_11, gl_12, gl_13, sl_0, sl_1, sl_2, sl_3, sl_4, sl_5, sl_6, sl_7, sl_8, sl_9, sl_10, sl_11, sl_12, sl_13, List.contains_nil, List.contains_cons, Nat.reduceBEq, Bool.false_or, Bool.or_false, Bool.true_or, Nat.reduceAdd, true_and, and_true, Nat.reduceLT, List.length_cons, List.length_nil, Nat.reduceLeDiff, List.drop_zero, List.take_zero, List.take_succ_cons, List.drop_succ_cons, List.reverse_cons, List.reverse_nil, List.nil_append, List.cons_append, List.append_nil, forall_const, rf_int, rf_bool, sr_sn, sn_0, sn_i, sn_l, sn_r, sn_n, ob_o, ar_o, al_o, aq_o, aln_o, oo_1, ao_1, lo_1, qo_1, lno_1, rv_o, rvv_0, rvv_1, rvv_2, rvv_3, rvv_4, rvv_5, rvv_6, rvv_7, rvv_8, rvv_9, rvv_10, rvv_11, rvv_12, List.length_set, List.set_set, hg_set, hg_ne, lt_00, lt_80, tn_8, lt_40, tn_4, tn_10, lt_100, le_88, Nat.zero_add, or_01, or_11, Nat.reduceMul, not_false_eq_true, Bool.false_eq_true, if_false, if_true, ite_false, ite_true, Bool.or_true, Bool.false_eq_true, if_false, if_true, ite_false, ite_true, Bool.or_true, eq_self, and_self, reduceCtorEq, true_or, or_true, true_imp_iff, not_true_eq_false, false_imp_iff, implies_true, u_zeqT, u_zeqF, u_zneT, u_zneF, u_zltT, u_zltF, u_zgeT, u_zgeF, u_zgtT, u_zgtF, u_zleT, u_zleF, u_ceqT, u_ceqF, u_cneT, u_cneF, u_cltT, u_cltF, u_cgeT, u_cgeF, u_cgtT, u_cgtF, u_cleT, u_cleF, sw_T, sw_F, v_table, v_look, sw_0, Nat.reduceSub, pb9X12_alikePart_a0, bX12_alikePart_0, pb9X12_alikePart_a55, bX12_alikePart_55, pb9X12_alikePart_a86, bX12_alikePart_86, rt_X12_alikePart, mc_X12_alikePart, ms_X12_alikePart, mc_X12_amount, ms_X12_amount, ci_X12_amount, al_X12_amount, mc_X12_blanks, ms_X12_blanks, ci_X12_blanks, al_X12_blanks, mc_X12_fails, ms_X12_fails, ci_X12_fails, al_X12_fails, mt_0, mg_0, mg_1, mg_2, mg_3, mg_4, mg_5, mg_6, mg_7, mg_8, mg_9, mg_10, mg_11, mg_12, mg_13, mg_14, mg_15, mg_16, mg_17, mt_18, mg_18, mt_19, mg_19, mt_20, mg_20, mt_21, mg_21, mt_22, mg_22, mt_23, mg_23, mt_24, mg_24, mt_25, mg_25, mt_26, mg_26, mt_27, mg_27, mg_28, mg_29, mg_30, mg_31, mg_32, mg_33, mg_34, mg_35, mg_36, mg_37, mg_38, mg_39, mt_40, mg_40, mt_41, mg_41, mt_42, mg_42, mg_43, mg_44, mt_45, mg_45, mt_46, mg_46, mt_47, mg_47, mg_48, mg_49, mg_50, mg_51, mt_52, mg_52, mt_53, mg_53, mL_len, hm3, w1, i1, i2, j1, j2, w1', hm3', List.set_set]
        refine ⟨rfl, f3, s3, z4, ?_, b3', es3, nw_x n4, fun _ => ⟨?_, n4⟩⟩
        · rw [hsc, en]
          exact b1'
        · rw [hsc, en]
          exact r3
      simp (disch := first | assumption | decide | omega | (simp only [List.length_set]; omega)) only [w_nil, w_nop, w_iload, w_lload, w_aload, w_istore, w_lstore, w_astore, w_astoreN, w_iinc, w_iadd, w_isub, w_imul, w_iand, w_ior, w_ixor, w_ishl, w_ishr, w_iushr, w_idiv, w_irem, w_ladd, w_lsub, w_lmul, w_land, w_lor, w_ldiv, w_lrem, w_lshl, w_lshr, w_lcmp, w_i2l, w_l2i, w_i2b, w_i2c, w_dupI, w_popI, w_dupR, w_popR, w_dupN, w_popN, w_dup2, w_ifnull, w_ifnullN, w_ifnon, w_ifnonN, w_goto, w_getf, w_putf, w_alen, w_iaload, w_baload, w_laload, w_aaload, w_iastore, w_bastore, w_lastore, w_aastore, w_new, w_newarray, w_anewarray, w_static, w_virtual, w_special, w_obj, w_copyi, w_copyq, w_min, w_max, w_iret, w_lret, w_aret, w_aretN, w_ret, g_fg, g_I, g_J, g_R, g_N, g_1r, pw_0, pw_I, pw_R, pw_N, pw_n, pv_0, pv_1, pv_2, pv_3, pv_4, pv_5, pv_6, pv_7, pv_8, pv_9, pv_10, pv_11, pv_12, pv_13, pv_14, pv_15, pv_16, pv_17, pv_18, pv_19, cd_eq, cd_ne, cd_lt, cd_ge, cd_gt, cd_le, ft_0, ft_1, ft_2, ft_3, ft_3n, fk_0, fk_1, fk_2, fk_3, ps_n, ps_s, rf_s, rf_n, gl_0, gl_1, gl_2, gl_3, gl_4, gl_5, gl_6, gl_7, gl_8, gl_9, gl_10, gl_11, gl_12, gl_13, sl_0, sl_1, sl_2, sl_3, sl_4, sl_5, sl_6, sl_7, sl_8, sl_9, sl_10, sl_11, sl_12, sl_13, List.contains_nil, List.contains_cons, Nat.reduceBEq, Bool.false_or, Bool.or_false, Bool.true_or, Nat.reduceAdd, true_and, and_true, Nat.reduceLT, List.length_cons, List.length_nil, Nat.reduceLeDiff, List.drop_zero, List.take_zero, List.take_succ_cons, List.drop_succ_cons, List.reverse_cons, List.reverse_nil, List.nil_append, List.cons_append, List.append_nil, forall_const, rf_int, rf_bool, sr_sn, sn_0, sn_i, sn_l, sn_r, sn_n, ob_o, ar_o, al_o, aq_o, aln_o, oo_1, ao_1, lo_1, qo_1, lno_1, rv_o, rvv_0, rvv_1, rvv_2, rvv_3, rvv_4, rvv_5, rvv_6, rvv_7, rvv_8, rvv_9, rvv_10, rvv_11, rvv_12, List.length_set, List.set_set, hg_set, hg_ne, lt_00, lt_80, tn_8, lt_40, tn_4, tn_10, lt_100, le_88, Nat.zero_add, or_01, or_11, Nat.reduceMul, not_false_eq_true, Bool.false_eq_true, if_false, if_true, ite_false, ite_true, Bool.or_true, Bool.false_eq_true, if_false, if_true, ite_false, ite_true, Bool.or_true, eq_self, and_self, reduceCtorEq, true_or, or_true, true_imp_iff, not_true_eq_false, false_imp_iff, implies_true, u_zeqT, u_zeqF, u_zneT, u_zneF, u_zltT, u_zltF, u_zgeT, u_zgeF, u_zgtT, u_zgtF, u_zleT, u_zleF, u_ceqT, u_ceqF, u_cneT, u_cneF, u_cltT, u_cltF, u_cgeT, u_cgeF, u_cgtT, u_cgtF, u_cleT, u_cleF, sw_T, sw_F, v_table, v_look, sw_0, Nat.reduceSub, pb9X12_alikePart_c55_a0, bX12_alikePart_0, pb9X12_alikePart_c55_a55, bX12_alikePart_55, pb9X12_alikePart_c55_a86, bX12_alikePart_86, rt_X12_alikePart, mc_X12_alikePart, ms_X12_alikePart, mc_X12_amount, ms_X12_amount, ci_X12_amount, al_X12_amount, mc_X12_blanks, ms_X12_blanks, ci_X12_blanks, al_X12_blanks, mc_X12_fails, ms_X12_fails, ci_X12_fails, al_X12_fails, mt_0, mg_0, mg_1, mg_2, mg_3, mg_4, mg_5, mg_6, mg_7, mg_8, mg_9, mg_10, mg_11, mg_12, mg_13, mg_14, mg_15, mg_16, mg_17, mt_18, mg_18, mt_19, mg_19, mt_20, mg_20, mt_21, mg_21, mt_22, mg_22, mt_23, mg_23, mt_24, mg_24, mt_25, mg_25, mt_26, mg_26, mt_27, mg_27, mg_28, mg_29, mg_30, mg_31, mg_32, mg_33, mg_34, mg_35, mg_36, mg_37, mg_38, mg_39, mt_40, mg_40, mt_41, mg_41, mt_42, mg_42, mg_43, mg_44, mt_45, mg_45, mt_46, mg_46, mt_47, mg_47, mg_48, mg_49, mg_50, mg_51, mt_52, mg_52, mt_53, mg_53, mL_len, hm3]
      exact last _
  · have e20' : ¬ f3 20 = 0 := fun g => c3 (e20.symm.trans g)
    have en : (nuP l 0 (nI (rN v) - 1) t1.1 t1.2).2.1 = t2.2.1 := by
      rw [et2, nu_ne]
      intro g
      rw [← et2] at g
      exact absurd (b1'.trans g) c3
    simp (disch := first | assumption | decide | omega | (simp only [List.length_set]; omega)) only [w_nil, w_nop, w_iload, w_lload, w_aload, w_istore, w_lstore, w_astore, w_astoreN, w_iinc, w_iadd, w_isub, w_imul, w_iand, w_ior, w_ixor, w_ishl, w_ishr, w_iushr, w_idiv, w_irem, w_ladd, w_lsub, w_lmul, w_land, w_lor, w_ldiv, w_lrem, w_lshl, w_lshr, w_lcmp, w_i2l, w_l2i, w_i2b, w_i2c, w_dupI, w_popI, w_dupR, w_popR, w_dupN, w_popN, w_dup2, w_ifnull, w_ifnullN, w_ifnon, w_ifnonN, w_goto, w_getf, w_putf, w_alen, w_iaload, w_baload, w_laload, w_aaload, w_iastore, w_bastore, w_lastore, w_aastore, w_new, w_newarray, w_anewarray, w_static, w_virtual, w_special, w_obj, w_copyi, w_copyq, w_min, w_max, w_iret, w_lret, w_aret, w_aretN, w_ret, g_fg, g_I, g_J, g_R, g_N, g_1r, pw_0, pw_I, pw_R, pw_N, pw_n, pv_0, pv_1, pv_2, pv_3, pv_4, pv_5, pv_6, pv_7, pv_8, pv_9, pv_10, pv_11, pv_12, pv_13, pv_14, pv_15, pv_16, pv_17, pv_18, pv_19, cd_eq, cd_ne, cd_lt, cd_ge, cd_gt, cd_le, ft_0, ft_1, ft_2, ft_3, ft_3n, fk_0, fk_1, fk_2, fk_3, ps_n, ps_s, rf_s, rf_n, gl_0, gl_1, gl_2, gl_3, gl_4, gl_5, gl_6, gl_7, gl_8, gl_9, gl_10, gl_11, gl_12, gl_13, sl_0, sl_1, sl_2, sl_3, sl_4, sl_5, sl_6, sl_7, sl_8, sl_9, sl_10, sl_11, sl_12, sl_13, List.contains_nil, List.contains_cons, Nat.reduceBEq, Bool.false_or, Bool.or_false, Bool.true_or, Nat.reduceAdd, true_and, and_true, Nat.reduceLT, List.length_cons, List.length_nil, Nat.reduceLeDiff, List.drop_zero, List.take_zero, List.take_succ_cons, List.drop_succ_cons, List.reverse_cons, List.reverse_nil, List.nil_append, List.cons_append, List.append_nil, forall_const, rf_int, rf_bool, sr_sn, sn_0, sn_i, sn_l, sn_r, sn_n, ob_o, ar_o, al_o, aq_o, aln_o, oo_1, ao_1, lo_1, qo_1, lno_1, rv_o, rvv_0, rvv_1, rvv_2, rvv_3, rvv_4, rvv_5, rvv_6, rvv_7, rvv_8, rvv_9, rvv_10, rvv_11, rvv_12, List.length_set, List.set_set, hg_set, hg_ne, lt_00, lt_80, tn_8, lt_40, tn_4, tn_10, lt_100, le_88, Nat.zero_add, or_01, or_11, Nat.reduceMul, not_false_eq_true, Bool.false_eq_true, if_false, if_true, ite_false, ite_true, Bool.or_true, Bool.false_eq_true, if_false, if_true, ite_false, ite_true, Bool.or_true, eq_self, and_self, reduceCtorEq, true_or, or_true, true_imp_iff, not_true_eq_false, false_imp_iff, implies_true, u_zeqT, u_zeqF, u_zneT, u_zneF, u_zltT, u_zltF, u_zgeT, u_zgeF, u_zgtT, u_zgtF, u_zleT, u_zleF, u_ceqT, u_ceqF, u_cneT, u_cneF, u_cltT, u_cltF, u_cgeT, u_cgeF, u_cgtT, u_cgtF, u_cleT, u_cleF, sw_T, sw_F, v_table, v_look, sw_0, Nat.reduceSub, pb9X12_alikePart_c55_a0, bX12_alikePart_0, pb9X12_alikePart_c55_a55, bX12_alikePart_55, pb9X12_alikePart_c55_a86, bX12_alikePart_86, rt_X12_alikePart, mc_X12_alikePart, ms_X12_alikePart, mc_X12_amount, ms_X12_amount, ci_X12_amount, al_X12_amount, mc_X12_blanks, ms_X12_blanks, ci_X12_blanks, al_X12_blanks, mc_X12_fails, ms_X12_fails, ci_X12_fails, al_X12_fails, mt_0, mg_0, mg_1, mg_2, mg_3, mg_4, mg_5, mg_6, mg_7, mg_8, mg_9, mg_10, mg_11, mg_12, mg_13, mg_14, mg_15, mg_16, mg_17, mt_18, mg_18, mt_19, mg_19, mt_20, mg_20, mt_21, mg_21, mt_22, mg_22, mt_23, mg_23, mt_24, mg_24, mt_25, mg_25, mt_26, mg_26, mt_27, mg_27, mg_28, mg_29, mg_30, mg_31, mg_32, mg_33, mg_34, mg_35, mg_36, mg_37, mg_38, mg_39, mt_40, mg_40, mt_41, mg_41, mt_42, mg_42, mg_43, mg_44, mt_45, mg_45, mt_46, mg_46, mt_47, mg_47, mg_48, mg_49, mg_50, mg_51, mt_52, mg_52, mt_53, mg_53, mL_len, hm3]
    refine fin H3 f3 s3 _ z3 (nw_x n3) b3' es3 ?_ c3
    rw [hsc, en]
    exact b1'
end RXT
