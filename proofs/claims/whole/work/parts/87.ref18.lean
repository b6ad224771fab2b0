/-! The reference beside the class's state -/
abbrev cZ (n : Nat) (f : Nat → Int32) : va_E := .inl (3, n, .inl f)
abbrev iNt (u : iV) : Nat := u.2.2.1.1
abbrev iD (u : iV) : Nat → Int32 := u.2.2.1.2.1
abbrev iS (u : iV) : Nat → Int32 := u.2.2.1.2.2
abbrev iFo (u : iV) : Int32 := u.2.2.2.1
abbrev iX (u : iV) : Int32 := u.2.2.2.2
abbrev iPn (u : iV) : Nat := u.2.1.1
abbrev iPl (u : iV) : Nat → stV := u.2.1.2
def mFd (f : Nat → Int32) (w : oV) : Prop := f 18 = nI (oL w) ∧ f 22 = nI (oC w) ∧ f 27 = 13 ∧ f 40 = nI (iPn (oI w))
def mNo (H : rm_H) (u : iV) : Prop := (∃ d, H[161]? = some (cI 10 d) ∧ ∀ j, j < iNt u → d j = iD u j) ∧ (∃ s, H[162]? = some (cI 10 s) ∧ ∀ j, j < iNt u → s j = iS u j) ∧ iNt u ≤ 10
def mTo (H : rm_H) (rv : rV) : Prop := (∃ x, H[163]? = some (cI 8 x) ∧ ∀ i, i < 8 → x i = rW rv i) ∧ (∃ x, H[164]? = some (cI 8 x) ∧ ∀ i, i < 8 → x i = rA rv i)
def mTp (H : rm_H) (B : Nat → Int32) (ln : Nat) : Prop := ∃ b, H[171]? = some (cB 400 b) ∧ ln ≤ 400 ∧ ∀ i, i < ln → b i = B i
def mRu (H : rm_H) (C : Nat) (R : Nat → Nat × (Nat → Int32)) : Prop := C ≤ 6 ∧ (∃ x, H[172]? = some (cI 1800 x)) ∧ (∃ x, H[173]? = some (cI 1800 x)) ∧ (∃ x, H[174]? = some (cI 6 x)) ∧ (∃ x, H[175]? = some (cI 72 x)) ∧ (∃ x, H[176]? = some (cI 72 x)) ∧ (∃ x, H[177]? = some (cI 72 x)) ∧ ∀ s, s < C → ∃ So Nu K u t e, rnH H So Nu s K u t e ∧ ruM So Nu s K u t e (R s).1 (R s).2
def mXn (H : rm_H) : Prop := (∃ x, H[165]? = some (cI 4 x)) ∧ (∃ x, H[166]? = some (cI 8 x)) ∧ (∃ x, H[167]? = some (cI 8 x)) ∧ (∃ x, H[168]? = some (cI 8 x)) ∧ (∃ x, H[169]? = some (cI 8 x)) ∧ (∃ x, H[170]? = some (cI 61 x)) ∧ (∃ x, H[178]? = some (cI 402 x)) ∧ (∃ x, H[182]? = some (cI 1 x))
def mXs (H : rm_H) : Prop := (∃ x, H[179]? = some (cJ 13 x)) ∧ (∃ x, H[180]? = some (cJ 300 x))
def mXr (H : rm_H) : Prop := (∃ x, H[183]? = some (cI 4 x)) ∧ (∃ x, H[184]? = some (cI 4 x)) ∧ (∃ x, H[185]? = some (cI 61 x)) ∧ (∃ x, H[186]? = some (cI 427 x))
def paM (P : Nat → Int32) (o : Nat) (v : stV) : Prop := (∀ i, i < 6 → P (o + i) = scM v 0 0 0 (4 + i)) ∧ (∀ i, i < 8 → P (o + 6 + i) = sW v i) ∧ (∀ i, i < 8 → P (o + 14 + i) = fcV v (nI i)) ∧ (∀ i, i < 8 → P (o + 22 + i) = sA v i)
def mPa (H : rm_H) (n : Nat) (L : Nat → stV) : Prop := ∃ P, H[181]? = some (cI 600 P) ∧ n ≤ 20 ∧ ∀ i, i < n → paM P (30 * i) (L i)
def imM (G : Nat → Int32) (o : Nat) (u : iV) : Prop := (iPn u ≤ 20 ∧ iNt u ≤ 10 ∧ rN (sR u.1) ≤ 8) ∧ kpM G o u.1 (nI (iNt u)) (iX u) (iFo u) ∧ G (o + 98) = nI (iPn u) ∧ (∀ i, i < rN (sR u.1) → G (o + 99 + i) = rFr (sR u.1) i) ∧ (∀ i, i < rN (sR u.1) → G (o + 107 + i) = rLa (sR u.1) i) ∧ (∀ i, i < iNt u → G (o + 115 + i) = iD u i) ∧ (∀ i, i < iNt u → G (o + 125 + i) = iS u i) ∧ (∀ i, i < 8 → G (o + 135 + i) = rW (sR u.1) i) ∧ (∀ i, i < 8 → G (o + 143 + i) = rA (sR u.1) i) ∧ ∀ i, i < iPn u → paM G (o + 151 + 30 * i) (iPl u i)
def mIm (H : rm_H) (g : Nat → Option iV) : Prop := ∃ G Mk, H[187]? = some (cI 4000 G) ∧ H[188]? = some (cZ 4 Mk) ∧ ∀ k, k < 4 → (g k = none ∧ Mk k = 0) ∨ ∃ u, g k = some u ∧ Mk k = 1 ∧ imM G (800 * k) u
def mD (H : rm_H) (w : oV) : Prop := (∃ f, H[153]? = some (cM f) ∧ mFd f w) ∧ mNo H (oI w) ∧ mTo H (sR (oS w)) ∧ mTp H (oB w) (oL w) ∧ mRu H (oC w) (oR w) ∧ mXn H ∧ mXs H ∧ mXr H ∧ mPa H (iPn (oI w)) (iPl (oI w)) ∧ mIm H (oG w)
def isM (H : rm_H) (w : oV) : Prop := mD H w ∧ mS H (oS w) (nI (iNt (oI w))) (iX (oI w)) (iFo (oI w))
theorem mNo_b {P : Nat → Prop} {H H1 : rm_H} {u : iV} (b : sB P H H1) (hn : ∀ i, P i → ¬ (161 ≤ i ∧ i ≤ 162)) (h : mNo H u) : mNo H1 u := by
  obtain ⟨⟨d, h1, h1'⟩, ⟨s, h2, h2'⟩, h3⟩ := h
  exact ⟨⟨d, b.get (fun q => hn _ q (by omega)) h1, h1'⟩, ⟨s, b.get (fun q => hn _ q (by omega)) h2, h2'⟩, h3⟩
theorem mTo_b {P : Nat → Prop} {H H1 : rm_H} {rv : rV} (b : sB P H H1) (hn : ∀ i, P i → ¬ (163 ≤ i ∧ i ≤ 164)) (h : mTo H rv) : mTo H1 rv := by
  obtain ⟨⟨d, h1, h1'⟩, ⟨s, h2, h2'⟩⟩ := h
  exact ⟨⟨d, b.get (fun q => hn _ q (by omega)) h1, h1'⟩, ⟨s, b.get (fun q => hn _ q (by omega)) h2, h2'⟩⟩
theorem mTp_b {P : Nat → Prop} {H H1 : rm_H} {B : Nat → Int32} {ln : Nat} (b : sB P H H1) (hn : ∀ i, P i → ¬ i = 171) (h : mTp H B ln) : mTp H1 B ln := by
  obtain ⟨d, h1, h1'⟩ := h
  exact ⟨d, b.get (fun q => hn _ q rfl) h1, h1'⟩
theorem mRu_b {P : Nat → Prop} {H H1 : rm_H} {C : Nat} {R : Nat → Nat × (Nat → Int32)} (b : sB P H H1) (hn : ∀ i, P i → ¬ (172 ≤ i ∧ i ≤ 177)) (h : mRu H C R) : mRu H1 C R := by
  obtain ⟨h0, ⟨x1, h1⟩, ⟨x2, h2⟩, ⟨x3, h3⟩, ⟨x4, h4⟩, ⟨x5, h5⟩, ⟨x6, h6⟩, h7⟩ := h
  refine ⟨h0, ⟨x1, b.get (fun q => hn _ q (by omega)) h1⟩, ⟨x2, b.get (fun q => hn _ q (by omega)) h2⟩, ⟨x3, b.get (fun q => hn _ q (by omega)) h3⟩, ⟨x4, b.get (fun q => hn _ q (by omega)) h4⟩, ⟨x5, b.get (fun q => hn _ q (by omega)) h5⟩, ⟨x6, b.get (fun q => hn _ q (by omega)) h6⟩, fun s hs => ?_⟩
  obtain ⟨So, Nu, K, u, t, e, q1, q2⟩ := h7 s hs
  exact ⟨So, Nu, K, u, t, e, rnH_b b hn q1, q2⟩
theorem mXn_b {P : Nat → Prop} {H H1 : rm_H} (b : sB P H H1) (hn : ∀ i, P i → ¬ ((165 ≤ i ∧ i ≤ 170) ∨ i = 178 ∨ i = 182)) (h : mXn H) : mXn H1 := by
  obtain ⟨⟨x1, h1⟩, ⟨x2, h2⟩, ⟨x3, h3⟩, ⟨x4, h4⟩, ⟨x5, h5⟩, ⟨x6, h6⟩, ⟨x7, h7⟩, ⟨x8, h8⟩⟩ := h
  exact ⟨⟨x1, b.get (fun q => hn _ q (by omega)) h1⟩, ⟨x2, b.get (fun q => hn _ q (by omega)) h2⟩, ⟨x3, b.get (fun q => hn _ q (by omega)) h3⟩, ⟨x4, b.get (fun q => hn _ q (by omega)) h4⟩, ⟨x5, b.get (fun q => hn _ q (by omega)) h5⟩, ⟨x6, b.get (fun q => hn _ q (by omega)) h6⟩, ⟨x7, b.get (fun q => hn _ q (by omega)) h7⟩, ⟨x8, b.get (fun q => hn _ q (by omega)) h8⟩⟩
theorem mXs_b {P : Nat → Prop} {H H1 : rm_H} (b : sB P H H1) (hn : ∀ i, P i → ¬ (179 ≤ i ∧ i ≤ 180)) (h : mXs H) : mXs H1 := by
  obtain ⟨⟨x1, h1⟩, ⟨x2, h2⟩⟩ := h
  exact ⟨⟨x1, b.get (fun q => hn _ q (by omega)) h1⟩, ⟨x2, b.get (fun q => hn _ q (by omega)) h2⟩⟩
theorem mXr_b {P : Nat → Prop} {H H1 : rm_H} (b : sB P H H1) (hn : ∀ i, P i → ¬ (183 ≤ i ∧ i ≤ 186)) (h : mXr H) : mXr H1 := by
  obtain ⟨⟨x1, h1⟩, ⟨x2, h2⟩, ⟨x3, h3⟩, ⟨x4, h4⟩⟩ := h
  exact ⟨⟨x1, b.get (fun q => hn _ q (by omega)) h1⟩, ⟨x2, b.get (fun q => hn _ q (by omega)) h2⟩, ⟨x3, b.get (fun q => hn _ q (by omega)) h3⟩, ⟨x4, b.get (fun q => hn _ q (by omega)) h4⟩⟩
theorem mPa_b {P : Nat → Prop} {H H1 : rm_H} {n : Nat} {L : Nat → stV} (b : sB P H H1) (hn : ∀ i, P i → ¬ i = 181) (h : mPa H n L) : mPa H1 n L := by
  obtain ⟨d, h1, h1'⟩ := h
  exact ⟨d, b.get (fun q => hn _ q rfl) h1, h1'⟩
theorem mIm_b {P : Nat → Prop} {H H1 : rm_H} {g : Nat → Option iV} (b : sB P H H1) (hn : ∀ i, P i → ¬ (187 ≤ i ∧ i ≤ 188)) (h : mIm H g) : mIm H1 g := by
  obtain ⟨G, Mk, h1, h2, h3⟩ := h
  exact ⟨G, Mk, b.get (fun q => hn _ q (by omega)) h1, b.get (fun q => hn _ q (by omega)) h2, h3⟩
/-- the trial's cells may have changed -/
theorem mD_b {P : Nat → Prop} {H H1 : rm_H} {w : oV} (b : sB P H H1) (hn : ∀ i, P i → i = 153 ∨ (154 ≤ i ∧ i ≤ 160) ∨ (179 ≤ i ∧ i ≤ 180) ∨ (183 ≤ i ∧ i ≤ 187)) (hf : ∃ f, H1[153]? = some (cM f) ∧ mFd f w) (hs : mXs H1) (hr : mXr H1) (hi : mIm H1 (oG w)) (h : mD H w) : mD H1 w := by
  obtain ⟨-, h2, h3, h4, h5, h6, -, -, h9, -⟩ := h
  exact ⟨hf, mNo_b b (fun i q => by have := hn i q; omega) h2, mTo_b b (fun i q => by have := hn i q; omega) h3, mTp_b b (fun i q => by have := hn i q; omega) h4, mRu_b b (fun i q => by have := hn i q; omega) h5, mXn_b b (fun i q => by have := hn i q; omega) h6, hs, hr, mPa_b b (fun i q => by have := hn i q; omega) h9, hi⟩
theorem mD_p {P : Nat → Prop} {H H1 : rm_H} {w : oV} (b : sB P H H1) (hn : ∀ i, P i → (154 ≤ i ∧ i ≤ 160) ∨ (179 ≤ i ∧ i ≤ 180)) (hs : mXs H1) (h : mD H w) : mD H1 w := by
  obtain ⟨f, h1, h1'⟩ := h.1
  exact mD_b b (fun i q => by have := hn i q; omega) ⟨f, b.get (fun q => by have := hn _ q; omega) h1, h1'⟩ hs (mXr_b b (fun i q => by have := hn i q; omega) h.2.2.2.2.2.2.2.1) (mIm_b b (fun i q => by have := hn i q; omega) h.2.2.2.2.2.2.2.2.2) h
theorem kpM_c {G G1 : Nat → Int32} {o : Nat} {v : stV} {nt dr fo : Int32} (he : ∀ x, o ≤ x → x < o + 800 → G1 x = G x) (h : kpM G o v nt dr fo) : kpM G1 o v nt dr fo := by
  obtain ⟨h1, h2, h3, h4, h5⟩ := h
  exact ⟨fun i hi => (he _ (by omega) (by omega)).trans (h1 i hi), fun i hi => (he _ (by omega) (by omega)).trans (h2 i hi), fun i hi => (he _ (by omega) (by omega)).trans (h3 i hi), fun i hi => (he _ (by omega) (by omega)).trans (h4 i hi), fun i hi => (he _ (by omega) (by omega)).trans (h5 i hi)⟩
theorem paM_c {G G1 : Nat → Int32} {o : Nat} {v : stV} (he : ∀ x, o ≤ x → x < o + 30 → G1 x = G x) (h : paM G o v) : paM G1 o v := by
  obtain ⟨h1, h2, h3, h4⟩ := h
  exact ⟨fun i hi => (he _ (by omega) (by omega)).trans (h1 i hi), fun i hi => (he _ (by omega) (by omega)).trans (h2 i hi), fun i hi => (he _ (by omega) (by omega)).trans (h3 i hi), fun i hi => (he _ (by omega) (by omega)).trans (h4 i hi)⟩
theorem imM_c {G G1 : Nat → Int32} {o : Nat} {u : iV} (he : ∀ x, o ≤ x → x < o + 800 → G1 x = G x) (h : imM G o u) : imM G1 o u := by
  obtain ⟨⟨z1, z2, z3⟩, h0, h1, h2, h3, h4, h5, h6, h7, h8⟩ := h
  exact ⟨⟨z1, z2, z3⟩, kpM_c he h0, (he _ (by omega) (by omega)).trans h1, fun i hi => (he _ (by omega) (by omega)).trans (h2 i hi), fun i hi => (he _ (by omega) (by omega)).trans (h3 i hi), fun i hi => (he _ (by omega) (by omega)).trans (h4 i hi), fun i hi => (he _ (by omega) (by omega)).trans (h5 i hi), fun i hi => (he _ (by omega) (by omega)).trans (h6 i hi), fun i hi => (he _ (by omega) (by omega)).trans (h7 i hi), fun i hi => paM_c (fun x x1 x2 => he x (by omega) (by omega)) (h8 i hi)⟩
theorem mIm_G {H H1 : rm_H} {g : Nat → Option iV} {G G1 : Nat → Int32} (h : mIm H g) (hG : H[187]? = some (cI 4000 G)) (h8 : H1[188]? = H[188]?) (hG1 : H1[187]? = some (cI 4000 G1)) (he : ∀ x, x < 3200 → G1 x = G x) : mIm H1 g := by
  obtain ⟨G0, Mk, h1, h2, h3⟩ := h
  have e : G0 = G := by
    rw [h1] at hG
    exact Sum.inl.inj (Prod.mk.inj (Prod.mk.inj (Sum.inl.inj (Option.some.inj hG))).2).2
  subst e
  refine ⟨G1, Mk, hG1, h8.trans h2, fun k hk => ?_⟩
  rcases h3 k hk with q | ⟨u, q1, q2, q3⟩
  · exact Or.inl q
  · exact Or.inr ⟨u, q1, q2, imM_c (fun x x1 x2 => he x (by omega)) q3⟩
theorem mFd_K {f f1 : Nat → Int32} {w : oV} (h : fK f f1) (g : mFd f w) : mFd f1 w := ⟨(h 18 (by omega) (by omega)).trans g.1, (h 22 (by omega) (by omega)).trans g.2.1, (h 27 (by omega) (by omega)).trans g.2.2.1, (h 40 (by omega) (by omega)).trans g.2.2.2⟩
/-- a trial of the reference: it stands at v, what was kept is w's -/
def mT (H : rm_H) (w : oV) (v : stV) (nt dr fo : Int32) : Prop := mD H w ∧ mS H v nt dr fo ∧ (∃ G, H[187]? = some (cI 4000 G) ∧ kpM G 3200 (oS w) (nI (iNt (oI w))) (iX (oI w)) (iFo (oI w))) ∧ sR v = sR (oS w) ∧ nzS v
def foOK (w : oV) (fo : Int32) : Prop := fo = -1 ∨ ∃ s, s < oC w ∧ fo = nI s
abbrev nzW (w : oV) : Prop := nzS (oS w)
theorem mD_R {H : rm_H} {w : oV} {fo : Int32} (h : mD H w) (ho : foOK w fo) : mR H fo (rlV w fo) := by
  obtain ⟨-, -, -, -, h5, -, h7, -⟩ := h
  obtain ⟨h0, -, -, -, -, -, -, h8⟩ := h5
  refine ⟨h7.1, h7.2, ?_⟩
  rcases ho with rfl | ⟨s, hs, rfl⟩
  · refine Or.inl ⟨?_, rfl⟩
    unfold rlV
    rw [if_neg (fun q => absurd q.1 (by decide))]
  · obtain ⟨So, Nu, K, u, t, e, q1, q2⟩ := h8 s hs
    refine Or.inr ⟨s, So, Nu, K, u, t, e, (oR w s).1, (oR w s).2, ?_, rfl, q1, q2⟩
    unfold rlV
    rw [if_pos ⟨nI_pos' (by omega), nI_lt hs (by omega)⟩, nI_clamp (by omega)]
