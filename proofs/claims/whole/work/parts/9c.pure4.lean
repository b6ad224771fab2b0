/-! Cover and rescue: the two searches find the same -/
theorem bt_m1 {i : Nat} (h : i < 32) : bt (-1) i = true := by
  have : ∀ i : Fin 32, bt (-1) i.val = true := by decide +kernel
  exact this ⟨i, h⟩
theorem sub_bt {s o : Int32} : s &&& (o ^^^ (-1)) = 0 ↔ ∀ i, i < 32 → bt s i = true → bt o i = true := by
  constructor
  · intro h i hi hs
    have g : bt (s &&& (o ^^^ (-1))) i = false := by rw [h, b_0]
    rw [b_and, b_xor, bt_m1 hi, hs] at g
    cases c : bt o i
    · rw [c] at g; exact absurd g (by decide)
    · rfl
  · intro h
    apply b_ext
    intro i hi
    rw [b_and, b_xor, bt_m1 hi, b_0]
    cases c : bt s i
    · rfl
    · rw [h i hi c]; rfl
theorem low_nat {x : Int32} (h : ∀ i, 8 ≤ i → i < 32 → bt x i = false) : ∃ c, c < 256 ∧ x = nI c := by
  have hx : x = nI (x.toBitVec.toNat) := by
    apply b_ext
    intro i hi
    show x.toBitVec.getLsbD i = (nI x.toBitVec.toNat).toBitVec.getLsbD i
    congr 1
    show x.toBitVec = (Int32.ofNat x.toBitVec.toNat).toBitVec
    simp
  refine ⟨x.toBitVec.toNat, ?_, hx⟩
  refine Nat.lt_pow_two_of_testBit (n := 8) _ (fun i hi => ?_)
  by_cases h2 : i < 32
  · exact h i hi h2
  · exact Nat.testBit_lt_two_pow (Nat.lt_of_lt_of_le x.toBitVec.isLt (Nat.pow_le_pow_right (by omega) (by omega)))
theorem low_bt {c : Nat} (h : c < 256) : ∀ i, 8 ≤ i → i < 32 → bt (nI c) i = false := by
  intro i h1 h2
  show (Int32.ofNat c).toBitVec.getLsbD i = false
  have e : (Int32.ofNat c).toBitVec.getLsbD i = c.testBit i := by
    show (BitVec.ofNat 32 c).getLsbD i = _
    rw [BitVec.getLsbD_ofNat, decide_eq_true h2, Bool.true_and]
  rw [e]
  exact Nat.testBit_lt_two_pow (Nat.lt_of_lt_of_le h (show 256 ≤ 2 ^ i from Nat.pow_le_pow_right (n := 2) (i := 8) (by omega) h1))
theorem op_low {v : stV} (hN : rN (sR v) ≤ 8) : ∀ i, 8 ≤ i → i < 32 → bt (opV v) i = false := fun i h1 h2 => (bq_0 h2).mp (opV_hi hN (by omega) h2)
theorem op_nat {v : stV} (hN : rN (sR v) ≤ 8) : ∃ c, c < 256 ∧ opV v = nI c ∧ (opV v).toNatClampNeg = c := by
  obtain ⟨c, h1, h2⟩ := low_nat (op_low hN)
  exact ⟨c, h1, h2, by rw [h2]; exact nI_clamp (by omega)⟩
theorem bc_c {x : Int32} (h : ∀ i, 8 ≤ i → i < 32 → bt x i = false) : bcF x = nI (cN x 16) ∧ cN x 16 ≤ 8 := by
  refine ⟨(bc_bt' h).trans (btF_c x 16 (by omega)), ?_⟩
  have hh : ∀ m, m ≤ 8 → cN x (8 + m) ≤ 8 := by
    intro m
    induction m with
    | zero => exact fun _ => cN_le x 8
    | succ m ih =>
      intro hm
      show cN x (8 + m) + (if bt x (8 + m) = true then 1 else 0) ≤ 8
      rw [if_neg (by rw [h (8 + m) (by omega) (by omega)]; decide)]
      exact ih (by omega)
  exact hh 8 (by omega)
theorem bc_lt9 {x : Int32} (h : ∀ i, 8 ≤ i → i < 32 → bt x i = false) : bcF x < 9 := by
  obtain ⟨h1, h2⟩ := bc_c h
  rw [h1]
  exact nI_lt (b := 9) (by omega) (by omega)
/-- a set is covered, as the reference looks -/
def icF (v : stV) (s : Int32) : Nat → Nat → Bool
  | 0, _ => true
  | d + 1, q => if ¬ bq (opV v) (nI q) = 0 ∧ bq s (nI q) = 0 ∧ sA v q &&& s = 0 then false else icF v s d (q + 1)
theorem icF_iff {v : stV} {s : Int32} : ∀ (d q : Nat), icF v s d q = true ↔ ∀ i, q ≤ i → i < q + d → ¬ (¬ bq (opV v) (nI i) = 0 ∧ bq s (nI i) = 0 ∧ sA v i &&& s = 0)
  | 0, q => ⟨fun _ i h1 h2 => by omega, fun _ => rfl⟩
  | d + 1, q => by
    rw [icF]
    by_cases c : ¬ bq (opV v) (nI q) = 0 ∧ bq s (nI q) = 0 ∧ sA v q &&& s = 0
    · rw [if_pos c]
      exact ⟨fun g => absurd g (by decide), fun g => absurd c (g q (Nat.le_refl _) (by omega))⟩
    · rw [if_neg c, icF_iff d (q + 1)]
      constructor
      · intro h i h1 h2
        by_cases e : i = q
        · rw [e]; exact c
        · exact h i (by omega) (by omega)
      · intro h i h1 h2
        exact h i (by omega) (by omega)
theorem cvF_bt {A : Nat → Int32} {x : Int32} : ∀ n, n ≤ 8 → ∀ b, b < 32 → (bt (cvF A x n) b = true ↔ bt x b = true ∨ ∃ i, i < n ∧ bt x i = true ∧ bt (A i) b = true)
  | 0, _, b, _ => ⟨Or.inl, fun h => h.elim id (fun ⟨i, h, _⟩ => absurd h (Nat.not_lt_zero i))⟩
  | n + 1, hn, b, hb => by
    have ih := cvF_bt (A := A) (x := x) n (by omega) b hb
    rw [cvF]
    by_cases c : bq x (nI n) = 0
    · rw [if_pos c, ih]
      constructor
      · rintro (h | ⟨i, h1, h2, h3⟩)
        · exact Or.inl h
        · exact Or.inr ⟨i, by omega, h2, h3⟩
      · rintro (h | ⟨i, h1, h2, h3⟩)
        · exact Or.inl h
        · refine Or.inr ⟨i, ?_, h2, h3⟩
          have : ¬ i = n := fun g => by rw [g, (bq_0 (by omega)).mp c] at h2; exact absurd h2 (by decide)
          omega
    · rw [if_neg c, b_or, Bool.or_eq_true, ih]
      constructor
      · rintro ((h | ⟨i, h1, h2, h3⟩) | h)
        · exact Or.inl h
        · exact Or.inr ⟨i, by omega, h2, h3⟩
        · exact Or.inr ⟨n, by omega, (bq_n0 (by omega)).mp c, h⟩
      · rintro (h | ⟨i, h1, h2, h3⟩)
        · exact Or.inl (Or.inl h)
        · by_cases g : i = n
          · exact Or.inr (g ▸ h3)
          · exact Or.inl (Or.inr ⟨i, by omega, h2, h3⟩)
theorem cov_eq {v : stV} {s : Int32} (hN : rN (sR v) ≤ 8) (hsy : syOK v) (hs : s &&& (opV v ^^^ (-1)) = 0) : icF v s (rN (sR v)) 0 = cvB v s := by
  have hsb := sub_bt.mp hs
  have hlow : ∀ i, i < 32 → bt s i = true → i < rN (sR v) := fun i hi hb => Nat.lt_of_not_le (fun g => (bq_n0 hi).mpr (hsb i hi hb) (opV_hi hN g hi))
  apply Bool.eq_iff_iff.mpr
  unfold cvB
  rw [icF_iff, decide_eq_true_iff, sub_bt]
  constructor
  · intro h i hi ho
    have hiN : i < rN (sR v) := Nat.lt_of_not_le (fun g => (bq_n0 hi).mpr ho (opV_hi hN g hi))
    rw [cvF_bt _ hN i hi]
    have h1 := h i (Nat.zero_le _) (by omega)
    by_cases c1 : bq s (nI i) = 0
    · by_cases c2 : sA v i &&& s = 0
      · exact absurd ⟨(bq_n0 hi).mpr ho, c1, c2⟩ h1
      · refine Or.inr ?_
        apply Classical.byContradiction
        intro g
        apply c2
        apply b_ext
        intro k hk
        rw [b_and, b_0]
        cases e1 : bt (sA v i) k
        · rfl
        · cases e2 : bt s k
          · rfl
          · exfalso
            have hkN := hlow k hk e2
            exact g ⟨k, hkN, e2, by rw [hsy k i (by omega) (by omega)]; exact e1⟩
    · exact Or.inl ((bq_n0 hi).mp c1)
  · rintro h i - hi ⟨g1, g2, g3⟩
    have hi32 : i < 32 := by omega
    rcases (cvF_bt _ hN i hi32).mp (h i hi32 ((bq_n0 hi32).mp g1)) with q | ⟨k, k1, k2, k3⟩
    · rw [(bq_0 hi32).mp g2] at q
      exact absurd q (by decide)
    · have e : bt (sA v i &&& s) k = false := by rw [g3, b_0]
      rw [b_and, k2, hsy i k (by omega) (by omega), k3] at e
      exact absurd e (by decide)
/-- the reference's search for a cover -/
def cvR (v : stV) (o : Int32) : Nat → Nat → Int32 → Int32
  | 0, _, b => b
  | d + 1, s, b => cvR v o d (s + 1) (if nI s &&& (o ^^^ (-1)) = 0 then (if btF (nI s) 16 < btF b 16 then (if icF v (nI s) (rN (sR v)) 0 = true then nI s else b) else b) else b)
theorem cvR_se {v : stV} {c : Nat} (hN : rN (sR v) ≤ 8) (hsy : syOK v) (hc : c < 256) (ho : opV v = nI c) : ∀ (d s : Nat) (zb zf : Int32), s + d = c → zb &&& (opV v ^^^ (-1)) = 0 → ((zb = opV v ∧ zf = 9) ∨ zf = bcF zb) → (seF (cvB v) (opV v) (d + 1) s (zb, zf)).1 = cvR v (opV v) d s zb ∧ (seF (cvB v) (opV v) (d + 1) s (zb, zf)).2 = btF (cvR v (opV v) d s zb) 16 := by
  have lo : ∀ {x : Int32}, x &&& (opV v ^^^ (-1)) = 0 → ∀ i, 8 ≤ i → i < 32 → bt x i = false := fun hx i h1 h2 => by
    apply Bool.eq_false_iff.mpr
    intro g
    have := sub_bt.mp hx i h2 g
    rw [op_low hN i h1 h2] at this
    exact absurd this (by decide)
  have self : opV v &&& (opV v ^^^ (-1)) = 0 := sub_bt.mpr (fun i _ h => h)
  intro d
  induction d with
  | zero =>
    intro s zb zf hs hz hr
    have es : nI s = opV v := by rw [ho]; congr 1
    rw [seF, seF, es, if_pos self]
    have Pt : cvB v (opV v) = true := by
      rw [← cov_eq hN hsy self, icF_iff]
      rintro i - - ⟨g1, g2, -⟩
      exact g1 g2
    rcases hr with ⟨r1, r2⟩ | r2
    · rw [r2, if_pos (bc_lt9 (op_low hN)), if_pos Pt, r1]
      exact ⟨rfl, bc_bt' (op_low hN)⟩
    · have hn : ¬ bcF (opV v) < zf := by
        rw [r2, (bc_c (op_low hN)).1, (bc_c (lo hz)).1]
        have h1 := cN_mono (x := zb) (y := opV v) 16 (fun i hi => sub_bt.mp hz i (by omega))
        exact Int32.not_lt.mpr (nI_le h1 (by have := (bc_c (op_low hN)).2; omega))
      rw [if_neg hn]
      exact ⟨rfl, r2.trans (bc_bt' (lo hz))⟩
  | succ d ih =>
    intro s zb zf hs hz hr
    have hs256 : s < 256 := by omega
    rw [seF, cvR]
    by_cases c1 : nI s &&& (opV v ^^^ (-1)) = 0
    · rw [if_pos c1, if_pos c1]
      have e1 : bcF (nI s) = btF (nI s) 16 := bc_bt' (lo c1)
      have key : bcF (nI s) < zf ↔ btF (nI s) 16 < btF zb 16 := by
        rcases hr with ⟨r1, r2⟩ | r2
        · rw [r2, r1]
          refine ⟨fun _ => ?_, fun _ => bc_lt9 (lo c1)⟩
          rw [← e1, ← bc_bt' (op_low hN), (bc_c (lo c1)).1, (bc_c (op_low hN)).1]
          have hm := cN_mono (x := nI s) (y := opV v) 16 (fun i hi => sub_bt.mp c1 i (by omega))
          have hne : ¬ cN (nI s) 16 = cN (opV v) 16 := by
            intro g
            have hb := cN_eq 16 (fun i hi => sub_bt.mp c1 i (by omega)) g
            have : nI s = opV v := by
              apply b_ext
              intro i hi
              by_cases h16 : i < 16
              · exact hb i h16
              · rw [lo c1 i (by omega) hi, op_low hN i (by omega) hi]
            rw [ho] at this
            have := (nI_eqI (by omega) (by omega)).mp this
            omega
          exact nI_lt (by omega) (by have := (bc_c (op_low hN)).2; omega)
        · rw [r2, e1, bc_bt' (lo hz)]
      by_cases c2 : bcF (nI s) < zf
      · rw [if_pos c2, if_pos (key.mp c2), cov_eq hN hsy c1]
        by_cases c3 : cvB v (nI s) = true
        · rw [if_pos c3, if_pos c3]
          exact ih (s + 1) (nI s) (bcF (nI s)) (by omega) c1 (Or.inr rfl)
        · rw [if_neg c3, if_neg c3]
          exact ih (s + 1) zb zf (by omega) hz hr
      · rw [if_neg c2, if_neg (fun g => c2 (key.mpr g))]
        exact ih (s + 1) zb zf (by omega) hz hr
    · rw [if_neg c1, if_neg c1]
      exact ih (s + 1) zb zf (by omega) hz hr
/-- the reference's search for a rescue -/
def rsR (P : Int32 → Bool) (o : Int32) : Nat → Nat → Int32 → Int32
  | 0, _, b => b
  | d + 1, s, b => rsR P o d (s + 1) (if nI s &&& (o ^^^ (-1)) = 0 then (if b = -2 ∨ btF (nI s) 16 < btF b 16 then (if P (nI s) = true then nI s else b) else b) else b)
theorem rsR_se {P : Int32 → Bool} {o : Int32} : ∀ (d s : Nat) (zb zf : Int32), s + d ≤ 256 → ((zb = -2 ∧ zf = 9) ∨ (zf = bcF zb ∧ ∃ a, a < 256 ∧ zb = nI a)) → (seF P o d s (zb, zf)).1 = rsR P o d s zb ∧ (¬ rsR P o d s zb = -2 → (seF P o d s (zb, zf)).2 = btF (rsR P o d s zb) 16) := by
  have ne2 : ∀ a, a < 256 → ¬ nI a = -2 := fun a ha g => by
    have := Int32.not_lt.mpr (nI_pos' (n := a) (by omega))
    rw [g] at this
    exact this (by decide)
  intro d
  induction d with
  | zero =>
    intro s zb zf _ hr
    refine ⟨rfl, fun h => ?_⟩
    rcases hr with ⟨r1, -⟩ | ⟨r1, a, ha, ea⟩
    · exact absurd r1 h
    · show zf = btF zb 16
      rw [r1, ea]
      exact bc_bt ⟨a, ha⟩
  | succ d ih =>
    intro s zb zf hs hr
    rw [seF, rsR]
    by_cases c1 : nI s &&& (o ^^^ (-1)) = 0
    · rw [if_pos c1, if_pos c1]
      have e1 : bcF (nI s) = btF (nI s) 16 := bc_bt ⟨s, by omega⟩
      have key : bcF (nI s) < zf ↔ (zb = -2 ∨ btF (nI s) 16 < btF zb 16) := by
        rcases hr with ⟨r1, r2⟩ | ⟨r1, a, ha, ea⟩
        · rw [r2]
          exact ⟨fun _ => Or.inl r1, fun _ => bc_lt9 (low_bt (by omega))⟩
        · rw [r1, e1, ea, show bcF (nI a) = btF (nI a) 16 from bc_bt ⟨a, ha⟩]
          exact ⟨Or.inr, fun g => g.elim (fun q => absurd q (ne2 a ha)) id⟩
      by_cases c2 : bcF (nI s) < zf
      · rw [if_pos c2, if_pos (key.mp c2)]
        by_cases c3 : P (nI s) = true
        · rw [if_pos c3, if_pos c3]
          exact ih (s + 1) (nI s) (bcF (nI s)) (by omega) (Or.inr ⟨rfl, s, by omega, rfl⟩)
        · rw [if_neg c3, if_neg c3]
          exact ih (s + 1) zb zf (by omega) hr
      · rw [if_neg c2, if_neg (fun g => c2 (key.mpr g))]
        exact ih (s + 1) zb zf (by omega) hr
    · rw [if_neg c1, if_neg c1]
      exact ih (s + 1) zb zf (by omega) hr
/-- how many are lost -/
def c3F (v : stV) : Nat → Int32
  | 0 => 0
  | n + 1 => c3F v n + (if fcV v (nI n) = 3 then 1 else 0)
theorem c3F_c {v : stV} (h : djOK v) : ∀ n, n ≤ 32 → c3F v n = nI (cN (nLs v) n)
  | 0, _ => rfl
  | n + 1, hn => by
    rw [c3F, c3F_c h n (by omega)]
    show _ = nI (cN (nLs v) n + (if bt (nLs v) n = true then 1 else 0))
    have e : fcV v (nI n) = if bt (nAn v) n = true then 1 else if bt (nBu v) n = true then 2 else if bt (nLs v) n = true then 3 else 0 := fc_bt (by omega)
    by_cases c : bt (nLs v) n = true
    · have g := h n (by omega) c
      have e3 : fcV v (nI n) = 3 := by rw [e, g.1, g.2, c]; decide
      rw [if_pos c, if_pos e3, nI_inc]
    · rw [if_neg c, e, if_neg c]
      rw [if_neg, Int32.add_zero]
      · rfl
      · split
        · decide
        · split <;> decide
theorem raF_hi {s : Int32} : ∀ (d i : Nat) (v : stV), rN (sR v) ≤ i → i + d ≤ 8 → raF s d i v = v
  | 0, _, _, _, _ => rfl
  | d + 1, i, v, h, hd => by
    rw [raF, if_neg (fun g => by
      have := g.2.1.2
      rw [nI_ltI (by omega) (by omega)] at this
      omega)]
    exact raF_hi d (i + 1) v (by omega) (by omega)
theorem ra_ok {s : Int32} : ∀ (d i : Nat) (v : stV), rN (sR v) ≤ 8 → i + d ≤ 8 → djOK v → djOK (raF s d i v) ∧ nLs (raF s d i v) = nLs v ∧ sR (raF s d i v) = sR v
  | 0, _, _, _, _, h => ⟨h, rfl, rfl⟩
  | d + 1, i, v, hN, hd, h => by
    rw [raF]
    by_cases c : ¬ bq s (nI i) = 0 ∧ ((0 ≤ nI i ∧ nI i < nI (rN (sR v))) ∧ ¬ bq (opV v) (nI i) = 0)
    · rw [if_pos c]
      have h1 := dj_dec hN (show i < 8 by omega) c.2.2 h
      obtain ⟨g1, g2, g3⟩ := ra_ok (s := s) d (i + 1) (decV (nI i) v) hN (by omega) h1
      refine ⟨g1, g2.trans ?_, g3⟩
      rw [decV_q (by omega)]
    · rw [if_neg c]
      exact ra_ok (s := s) d (i + 1) v hN (by omega) h
/-- once something more is lost it stays so -/
theorem rl_ds {rl : rlA} : ∀ (n : Nat) {v : stV} {lb : Int32}, rN (sR v) ≤ 8 → laOK (sR v) → djOK v → (∀ i, i < 32 → bt lb i = true → bt (nLs v) i = true) → (nLs (rlF rl lb n v) = lb ↔ nLs (dsV rl n v) = lb)
  | 0, _, _, _, _, _, _ => Iff.rfl
  | n + 1, v, lb, hN, hl, h, hb => by
    rw [rlF]
    obtain ⟨h1, h2⟩ := dj_dy (rl := rl) hN hl h
    by_cases c : nLs v = lb
    · rw [if_pos c]
      exact rl_ds (rl := rl) n (v := (dyV rl v).2) hN hl h1 (fun i hi g => h2.1 i hi (hb i hi g))
    · rw [if_neg c]
      refine ⟨fun g => absurd g c, fun g => ?_⟩
      exfalso
      obtain ⟨-, g2⟩ := dj_ds (rl := rl) (n + 1) hN hl h
      apply c
      apply b_ext
      intro i hi
      apply Bool.eq_iff_iff.mpr
      refine ⟨fun q => ?_, hb i hi⟩
      have := g2.1 i hi q
      rw [g] at this
      exact this
theorem resc_eq {rl : rlA} {n : Nat} {v : stV} {s : Int32} (hN : rN (sR v) ≤ 8) (hl : laOK (sR v)) (h : djOK v) : rsB rl n v s = decide (c3F (dsV rl n (raF s 8 0 v)) (rN (sR v)) = c3F (raF s 8 0 v) (rN (sR v))) := by
  obtain ⟨h1, h2, h3⟩ := ra_ok (s := s) 8 0 v hN (by omega) h
  have hN' : rN (sR (raF s 8 0 v)) ≤ 8 := by rw [h3]; exact hN
  have hl' : laOK (sR (raF s 8 0 v)) := by rw [h3]; exact hl
  obtain ⟨g1, g2⟩ := dj_ds (rl := rl) n hN' hl' h1
  unfold rsB
  apply Bool.eq_iff_iff.mpr
  rw [decide_eq_true_iff, decide_eq_true_iff, c3F_c g1 _ (by omega), c3F_c h1 _ (by omega), rl_ds n hN' hl' h1 (fun i _ q => by rw [h2]; exact q), ← h2]
  constructor
  · intro e
    rw [e]
  · intro e
    have e' : cN (nLs (raF s 8 0 v)) (rN (sR v)) = cN (nLs (dsV rl n (raF s 8 0 v))) (rN (sR v)) := by
      have a1 := cN_le (nLs (raF s 8 0 v)) (rN (sR v))
      have a2 := cN_le (nLs (dsV rl n (raF s 8 0 v))) (rN (sR v))
      exact ((nI_eqI (by omega) (by omega)).mp e).symm
    have hb := cN_eq (rN (sR v)) (fun i hi => g2.1 i (by omega)) e'
    apply b_ext
    intro i hi
    by_cases c : i < rN (sR v)
    · exact (hb i c).symm
    · exact g2.2 i hi (by rw [h3]; omega)
