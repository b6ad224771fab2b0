/-! Wakings: the tree and the 256 sets -/
def bl (x : Int64) (i : Nat) : Bool := x.toBitVec.getLsbD i
theorem s_l64 : ∀ n, n < 64 → (((nI n).toInt64 &&& 63).toBitVec.smod 64).toNat = n := by decide +kernel
theorem l_sshr (n : Nat) (hn : n < 64) (x : Int64) {i : Nat} (hi : i < 64) : bl (x >>> ((nI n).toInt64 &&& 63)) i = if n + i < 64 then bl x (n + i) else bl x 63 := by
  unfold bl
  rw [Int64.toBitVec_shiftRight]
  show (x.toBitVec.sshiftRight (((nI n).toInt64 &&& 63).toBitVec.smod 64).toNat).getLsbD i = _
  rw [s_l64 n hn, BitVec.getLsbD_sshiftRight, BitVec.msb_eq_getLsbD_last]
  simp [hi]
theorem l_ext {x y : Int64} (h : ∀ i, i < 64 → bl x i = bl y i) : x = y := Int64.toBitVec_inj.mp (BitVec.eq_of_getLsbD_eq (fun i hi => h i hi))
theorem l_and (x y : Int64) (i : Nat) : bl (x &&& y) i = (bl x i && bl y i) := by unfold bl; rw [Int64.toBitVec_and, BitVec.getLsbD_and]
theorem l_or (x y : Int64) (i : Nat) : bl (x ||| y) i = (bl x i || bl y i) := by unfold bl; rw [Int64.toBitVec_or, BitVec.getLsbD_or]
theorem l_1 : ∀ i, i < 64 → bl 1 i = decide (i = 0) := by decide +kernel
theorem l_0 : ∀ i, i < 64 → bl 0 i = false := by decide +kernel
theorem lq_0 {x : Int64} {i : Nat} (hi : i < 64) : (x >>> ((nI i).toInt64 &&& 63)) &&& 1 = 0 ↔ bl x i = false := by
  constructor
  · intro h
    have g : bl ((x >>> ((nI i).toInt64 &&& 63)) &&& 1) 0 = false := by rw [h]; exact l_0 0 (by omega)
    rw [l_and, l_sshr i hi x (by omega), if_pos (by omega), Nat.add_zero, l_1 0 (by omega)] at g
    simpa using g
  · intro h
    apply l_ext
    intro j hj
    rw [l_and, l_sshr i hi x hj, l_1 j hj, l_0 j hj]
    by_cases h0 : j = 0
    · subst h0
      rw [if_pos (by omega), Nat.add_zero, h]
      rfl
    · rw [decide_eq_false h0, Bool.and_false]
theorem wkb_bl {x : Int64} {d : Nat} (h : d ≤ 60) : wkb x (nI d) = if bl x d = true then 1 else 0 := by
  unfold wkb
  have h60 : ¬ (60 : Int32) < nI d := Int32.not_lt.mpr (nI_le (b := 60) h (by omega))
  rw [if_neg h60]
  by_cases c : bl x d = true
  · rw [if_pos c, if_neg (fun g => by rw [(lq_0 (by omega)).mp g] at c; exact absurd c (by decide))]
  · rw [if_neg c, if_pos ((lq_0 (by omega)).mpr (Bool.eq_false_iff.mpr c))]
theorem m256 : ∀ i : Fin 64, bl (-256) i.val = decide (8 ≤ i.val) := by decide +kernel
theorem sbit : ∀ s : Fin 256, ∀ d : Fin 64, bl (nI s.val).toInt64 d.val = s.val.testBit d.val := by decide +kernel
/-- the wakings of a set, behind it those told -/
def wkS (K : Int64) (s : Nat) : Int64 := (K &&& -256) ||| (nI s).toInt64
theorem wkS_lo {K : Int64} {s d : Nat} (hs : s < 256) (hd : d < 8) : bl (wkS K s) d = s.testBit d := by
  unfold wkS
  rw [l_or, l_and, m256 ⟨d, by omega⟩, sbit ⟨s, hs⟩ ⟨d, by omega⟩, decide_eq_false (show ¬ 8 ≤ d by omega), Bool.and_false, Bool.false_or]
theorem wkS_hi {K : Int64} {s d : Nat} (hs : s < 256) (hd : 8 ≤ d) (h64 : d < 64) : bl (wkS K s) d = bl K d := by
  unfold wkS
  rw [l_or, l_and, m256 ⟨d, h64⟩, sbit ⟨s, hs⟩ ⟨d, h64⟩, decide_eq_true (show 8 ≤ d from hd), Bool.and_true, Nat.testBit_lt_two_pow (Nat.lt_of_lt_of_le hs (show 256 ≤ 2 ^ d from Nat.pow_le_pow_right (n := 2) (i := 8) (by omega) hd)), Bool.or_false]
/-- only this day's waking counts -/
theorem wkV_id (v : stV) : wkV v (sK v) = v := rfl
theorem wst_K {v : stV} {W : Int64} (h : wkb W (nDy v) = wkb (sK v) (nDy v)) : wstV (wkV v W) = wstV v := by
  unfold wstV wstF
  show (if nEg v = 0 then wkb W (nDy v) else 1) = (if nEg v = 0 then wkb (sK v) (nDy v) else 1)
  rw [h]
theorem dec_K (q : Int32) (v : stV) (W : Int64) : decV q (wkV v W) = wkV (decV q v) W := rfl
theorem end_K (v : stV) (W : Int64) : endV (wkV v W) = wkV (endV v) W := rfl
theorem dy_K {rl : rlA} {v : stV} {W : Int64} (h : wkb W (nDy v) = wkb (sK v) (nDy v)) : (dyV rl (wkV v W)).2 = wkV (dyV rl v).2 W := by
  rw [dyV_q, dyV_q, wst_K h]
  have e1 : pkV rl (wkV v W) = pkV rl v := rfl
  have eg : ∀ q, gwV q (wkV v W) = wkV (gwV q v) W := by
    intro q
    unfold gwV
    rw [wst_K h]
    by_cases c : wstV v = 0
    · rw [if_pos c, if_pos c, dec_K, end_K]
    · rw [if_neg c, if_neg c]
      rfl
  by_cases c : wstV v = 0
  · rw [if_pos c, if_pos c, e1]
    exact eg _
  · rw [if_neg c, if_neg c]
    exact eg _
theorem ds_add {rl : rlA} : ∀ (a b : Nat) (v : stV), dsV rl (a + b) v = dsV rl b (dsV rl a v)
  | 0, b, v => by rw [Nat.zero_add]; rfl
  | a + 1, b, v => by
    rw [show a + 1 + b = (a + b) + 1 by omega]
    exact ds_add a b (dyV rl v).2
theorem ds_1 {rl : rlA} (a : Nat) (v : stV) : dsV rl (a + 1) v = (dyV rl (dsV rl a v)).2 := ds_add a 1 v
theorem stl_K {v : stV} {W : Int64} (h : stl v) : stl (wkV v W) := h
theorem gs_eq {rl : rlA} {g : Int32} : ∀ (n : Nat) {v : stV}, laOK (sR v) → tOK v → (nGa (gsV rl g n v) = g ↔ nGa (dsV rl n v) = g)
  | 0, _, _, _ => Iff.rfl
  | n + 1, v, hl, h => by
    unfold gsV
    by_cases c : nGa v ≤ g ∧ ¬ stl v
    · rw [if_pos c]
      exact gs_eq n (v := (dyV rl v).2) hl (tOK_dy hl h).1
    · rw [if_neg c]
      by_cases cs : stl v
      · rw [(stl_ds (rl := rl) (n + 1) h.1 cs).1]
      · have hg : g < nGa v := Int32.not_le.mp (fun q => c ⟨q, cs⟩)
        obtain ⟨a, b, r1, r2, r3, r4⟩ := (tOK_ds (rl := rl) (n + 1) hl h).2
        refine ⟨fun q => absurd hg (by rw [q]; exact Int32.lt_irrefl), fun q => ?_⟩
        exfalso
        have : nGa v ≤ nGa (dsV rl (n + 1) v) := by rw [r3, r4]; exact nI_le r1 (by omega)
        rw [q] at this
        exact absurd hg (Int32.not_lt.mpr this)
theorem gs_st {rl : rlA} {g : Int32} (n : Nat) {v : stV} (h : stl v) : gsV rl g n v = v := by
  cases n with
  | zero => rfl
  | succ n => unfold gsV; rw [if_neg (fun q => q.2 h)]
/-- counted, least, common -/
def c1S (z : wsZ) (s : Nat) : wsZ := (z.1 + 1, i_min z.2.1 (nI s), z.2.2 &&& nI s)
noncomputable def cF (hit : Nat → Prop) (l : List Nat) (z : wsZ) : wsZ := l.foldl (fun z s => by
  classical
  exact if hit s then c1S z s else z) z
theorem cF_app (hit : Nat → Prop) (l m : List Nat) (z : wsZ) : cF hit (l ++ m) z = cF hit m (cF hit l z) := List.foldl_append
theorem cF_y {hit : Nat → Prop} {s : Nat} {l : List Nat} {z : wsZ} (h : hit s) : cF hit (s :: l) z = cF hit l (c1S z s) := by
  unfold cF
  rw [List.foldl_cons, if_pos h]
theorem cF_n {hit : Nat → Prop} {s : Nat} {l : List Nat} {z : wsZ} (h : ¬ hit s) : cF hit (s :: l) z = cF hit l z := by
  unfold cF
  rw [List.foldl_cons, if_neg h]
theorem cF_none {hit : Nat → Prop} : ∀ (l : List Nat) (z : wsZ), (∀ s, s ∈ l → ¬ hit s) → cF hit l z = z
  | [], _, _ => rfl
  | s :: l, z, h => by
    rw [cF_n (h s (List.mem_cons_self ..))]
    exact cF_none l z (fun t ht => h t (List.mem_cons_of_mem _ ht))
/-- the sets below a place of the tree -/
def sT : Nat → Nat → Nat → List Nat
  | 0, _, x => [x]
  | d + 1, i, x => sT d (i + 1) x ++ sT d (i + 1) (x + 2 ^ i)
theorem sT_mem : ∀ (d i x : Nat), i + d = 8 → x < 2 ^ i → ∀ s, s ∈ sT d i x → s < 256 ∧ s % 2 ^ i = x
  | 0, i, x, hi, hx, s, hs => by
    have e : s = x := by simpa [sT] using hs
    have : i = 8 := by omega
    subst this
    rw [e]
    exact ⟨hx, Nat.mod_eq_of_lt hx⟩
  | d + 1, i, x, hi, hx, s, hs => by
    have hp : 2 ^ (i + 1) = 2 * 2 ^ i := by rw [Nat.pow_succ, Nat.mul_comm]
    rcases List.mem_append.mp hs with h | h
    · obtain ⟨h1, h2⟩ := sT_mem d (i + 1) x (by omega) (by omega) s h
      refine ⟨h1, ?_⟩
      have := Nat.mod_mod_of_dvd s (show 2 ^ i ∣ 2 ^ (i + 1) from ⟨2, by rw [Nat.pow_succ]⟩)
      rw [h2] at this
      rw [← this, Nat.mod_eq_of_lt hx]
    · obtain ⟨h1, h2⟩ := sT_mem d (i + 1) (x + 2 ^ i) (by omega) (by omega) s h
      refine ⟨h1, ?_⟩
      have := Nat.mod_mod_of_dvd s (show 2 ^ i ∣ 2 ^ (i + 1) from ⟨2, by rw [Nat.pow_succ]⟩)
      rw [h2, Nat.add_mod_right] at this
      rw [← this, Nat.mod_eq_of_lt hx]
theorem min_min {x a b : Int32} (h : a ≤ b) : i_min (i_min x a) b = i_min x a := by
  unfold i_min
  by_cases c : a < x
  · rw [if_pos c, if_neg (Int32.not_lt.mpr h)]
  · rw [if_neg c, if_neg (Int32.not_lt.mpr (Int32.le_trans (Int32.not_lt.mp c) h))]
theorem i32_and_assoc (x y z : Int32) : x &&& y &&& z = x &&& (y &&& z) := by
  apply b_ext
  intro i hi
  rw [b_and, b_and, b_and, b_and, Bool.and_assoc]
theorem and_add : ∀ i : Fin 8, ∀ x : Fin 256, x.val < 2 ^ i.val → nI x.val &&& nI (x.val + 2 ^ i.val) = nI x.val := by decide +kernel
/-- all sets below a place are hit -/
theorem cF_all {hit : Nat → Prop} : ∀ (d i x : Nat) (z : wsZ), i + d = 8 → x < 2 ^ i → (∀ s, s ∈ sT d i x → hit s) → cF hit (sT d i x) z = (z.1 + nI (2 ^ d), i_min z.2.1 (nI x), z.2.2 &&& nI x)
  | 0, i, x, z, hi, hx, h => by
    show cF hit [x] z = _
    rw [cF_y (h x (List.mem_singleton.mpr rfl))]
    rfl
  | d + 1, i, x, z, hi, hx, h => by
    have hp : 2 ^ (i + 1) = 2 * 2 ^ i := by rw [Nat.pow_succ, Nat.mul_comm]
    have h256 : 2 ^ i ≤ 128 := Nat.pow_le_pow_right (n := 2) (j := 7) (by omega) (by omega)
    show cF hit (sT d (i + 1) x ++ sT d (i + 1) (x + 2 ^ i)) z = _
    rw [cF_app, cF_all d (i + 1) x z (by omega) (by omega) (fun s hs => h s (List.mem_append.mpr (Or.inl hs))), cF_all d (i + 1) (x + 2 ^ i) _ (by omega) (by omega) (fun s hs => h s (List.mem_append.mpr (Or.inr hs)))]
    refine Prod.ext ?_ (Prod.ext ?_ ?_)
    · show z.1 + nI (2 ^ d) + nI (2 ^ d) = z.1 + nI (2 ^ (d + 1))
      rw [Int32.add_assoc, nI_add, show 2 ^ (d + 1) = 2 ^ d + 2 ^ d by rw [Nat.pow_succ]; omega]
    · exact min_min (nI_le (by omega) (by omega))
    · show z.2.2 &&& nI x &&& nI (x + 2 ^ i) = z.2.2 &&& nI x
      rw [i32_and_assoc, and_add ⟨i, by omega⟩ ⟨x, by omega⟩ hx]
theorem or_w0 : ∀ i : Fin 8, ∀ x : Fin 256, nI x.val ||| (nI 0 <<< (nI i.val &&& 31)) = nI x.val := by decide +kernel
theorem or_w1 : ∀ i : Fin 8, ∀ x : Fin 256, x.val < 2 ^ i.val → nI x.val ||| (nI 1 <<< (nI i.val &&& 31)) = nI (x.val + 2 ^ i.val) := by decide +kernel
theorem sh_8 : ∀ i : Fin 9, (1 : Int32) <<< ((8 - nI i.val) &&& 31) = nI (2 ^ (8 - i.val)) := by decide +kernel
/-- a set is hit: so much is gained with it -/
def hitS (rl : rlA) (n : Nat) (g : Int32) (v0 : stV) (s : Nat) : Prop := nGa (dsV rl n (wkV v0 (wkS (sK v0) s))) = g
theorem wk_main {rl : rlA} {n : Nat} {g : Int32} {v0 : stV} : ∀ (d i x : Nat) (v : stV) (z : wsZ), i + d = 8 → x < 2 ^ i → i ≤ n → laOK (sR v) → tOK v → nDy v = nI i → (∀ s, s < 256 → s % 2 ^ i = x → dsV rl i (wkV v0 (wkS (sK v0) s)) = wkV v (wkS (sK v0) s)) → (1 ≤ i → sK v = wkS (sK v0) x) → (i = 0 → v = v0) → wkF rl (sK v0 &&& -256) n g d i (nI x) v z = cF (hitS rl n g v0) (sT d i x) z := by
  have hitd : ∀ {i x : Nat} {v : stV}, i ≤ n → (∀ s, s < 256 → s % 2 ^ i = x → dsV rl i (wkV v0 (wkS (sK v0) s)) = wkV v (wkS (sK v0) s)) → ∀ s, s < 256 → s % 2 ^ i = x → (hitS rl n g v0 s ↔ nGa (dsV rl (n - i) (wkV v (wkS (sK v0) s))) = g) := by
    intro i x v hi hJ s h1 h2
    unfold hitS
    rw [show n = i + (n - i) by omega, ds_add, hJ s h1 h2, show i + (n - i) - i = n - i by omega]
  have leaf : ∀ (d i x : Nat) (v : stV) (z : wsZ) (P : Prop), i + d = 8 → x < 2 ^ i → (∀ s, s ∈ sT d i x → (hitS rl n g v0 s ↔ P)) → (nGa (gsV rl g (n - i) v) = g ↔ P) → wlF rl n g i (nI x) v z = cF (hitS rl n g v0) (sT d i x) z := by
    intro d i x v z P hd hx h1 h2
    unfold wlF
    by_cases c : P
    · rw [if_pos (show (s9 (gsV rl g (n - i) v)).2.2.1 = g from h2.mpr c), cF_all d i x z hd hx (fun s hs => (h1 s hs).mpr c)]
      unfold kpF
      rw [sh_8 ⟨i, by omega⟩, show 8 - i = d by omega]
    · rw [if_neg (show ¬ (s9 (gsV rl g (n - i) v)).2.2.1 = g from fun q => c (h2.mp q)), cF_none _ _ (fun s hs q => c ((h1 s hs).mp q))]
  intro d
  induction d with
  | zero =>
    intro i x v z hd hx hin hl ht hdy hJ hK h0
    have : i = 8 := by omega
    subst this
    rw [wkF]
    refine leaf 0 8 x v z (nGa (dsV rl (n - 8) v) = g) (by omega) hx (fun s hs => ?_) (gs_eq _ hl ht)
    have e : s = x := by simpa [sT] using hs
    subst e
    rw [hitd hin hJ s hx (Nat.mod_eq_of_lt hx), ← hK (by omega), wkV_id]
  | succ d ih =>
    intro i x v z hd hx hin hl ht hdy hJ hK h0
    have hp : 2 ^ (i + 1) = 2 * 2 ^ i := by rw [Nat.pow_succ, Nat.mul_comm]
    have h128 : 2 ^ i ≤ 128 := Nat.pow_le_pow_right (n := 2) (j := 7) (by omega) (by omega)
    rw [wkF]
    by_cases c : i < n ∧ ¬ stl v
    · rw [if_pos c]
      by_cases cg : nGa v ≤ g
      · rw [if_pos (show (s9 v).2.2.1 ≤ g from cg)]
        have step : ∀ (b : Nat) (z : wsZ), b < 2 → wkF rl (sK v0 &&& -256) n g d (i + 1) (nI (x + b * 2 ^ i)) (dyV rl (wkV v ((sK v0 &&& -256) ||| (nI (x + b * 2 ^ i)).toInt64))).2 z = cF (hitS rl n g v0) (sT d (i + 1) (x + b * 2 ^ i)) z := by
          intro b z hb
          have hbx : x + b * 2 ^ i < 2 ^ (i + 1) := by
            have : b * 2 ^ i ≤ 1 * 2 ^ i := Nat.mul_le_mul_right _ (by omega)
            omega
          have h256 : x + b * 2 ^ i < 256 := by omega
          refine ih (i + 1) (x + b * 2 ^ i) _ z (by omega) hbx (by omega) hl (tOK_dy (v := wkV v ((sK v0 &&& -256) ||| (nI (x + b * 2 ^ i)).toInt64)) hl ht).1 ?_ ?_ (fun _ => rfl) (fun g => by omega)
          · rw [dyV_dy]
            show nDy v + 1 = _
            rw [hdy, nI_inc]
          · intro s h1 h2
            have hsx : s % 2 ^ i = x := by
              have := Nat.mod_mod_of_dvd s (show 2 ^ i ∣ 2 ^ (i + 1) from ⟨2, by rw [Nat.pow_succ]⟩)
              rw [h2, Nat.add_mul_mod_self_right, Nat.mod_eq_of_lt hx] at this
              exact this.symm
            rw [ds_1, hJ s h1 hsx]
            have e : wkV v (wkS (sK v0) s) = wkV (wkV v (wkS (sK v0) (x + b * 2 ^ i))) (wkS (sK v0) s) := rfl
            rw [e]
            refine dy_K ?_
            show wkb (wkS (sK v0) s) (nDy v) = wkb (wkS (sK v0) (x + b * 2 ^ i)) (nDy v)
            rw [hdy, wkb_bl (by omega), wkb_bl (by omega), wkS_lo h1 (by omega), wkS_lo h256 (by omega)]
            have t1 : (s % 2 ^ (i + 1)).testBit i = s.testBit i := by rw [Nat.testBit_mod_two_pow]; simp
            rw [← t1, h2]
        have e0 : nI x ||| (nI 0 <<< (nI i &&& 31)) = nI (x + 0 * 2 ^ i) := by rw [Nat.zero_mul, Nat.add_zero]; exact or_w0 ⟨i, by omega⟩ ⟨x, by omega⟩
        have e1 : nI x ||| (nI 1 <<< (nI i &&& 31)) = nI (x + 1 * 2 ^ i) := by rw [Nat.one_mul]; exact or_w1 ⟨i, by omega⟩ ⟨x, by omega⟩ hx
        show wkF rl (sK v0 &&& -256) n g d (i + 1) (nI x ||| (nI 1 <<< (nI i &&& 31))) (dyV rl (wkV v ((sK v0 &&& -256) ||| (nI x ||| (nI 1 <<< (nI i &&& 31))).toInt64))).2 (wkF rl (sK v0 &&& -256) n g d (i + 1) (nI x ||| (nI 0 <<< (nI i &&& 31))) (dyV rl (wkV v ((sK v0 &&& -256) ||| (nI x ||| (nI 0 <<< (nI i &&& 31))).toInt64))).2 z) = _
        rw [e0, e1, step 0 z (by omega), step 1 _ (by omega)]
        show _ = cF (hitS rl n g v0) (sT d (i + 1) x ++ sT d (i + 1) (x + 2 ^ i)) z
        rw [cF_app]
        simp only [Nat.zero_mul, Nat.one_mul, Nat.add_zero]
      · rw [if_neg (show ¬ (s9 v).2.2.1 ≤ g from cg)]
        refine (cF_none _ _ (fun s hs q => ?_)).symm
        obtain ⟨h1, h2⟩ := sT_mem (d + 1) i x hd hx s hs
        have q' := (hitd hin hJ s h1 h2).mp q
        obtain ⟨a, b, r1, r2, r3, r4⟩ := (tOK_ds (rl := rl) (n - i) (v := wkV v (wkS (sK v0) s)) hl ht).2
        have : nGa v ≤ g := by
          rw [← q', r4]
          have r3' : nGa v = nI a := r3
          rw [r3']
          exact nI_le r1 (by omega)
        exact cg this
    · rw [if_neg c]
      refine leaf (d + 1) i x v z (nGa v = g) hd hx (fun s hs => ?_) ?_
      · obtain ⟨h1, h2⟩ := sT_mem (d + 1) i x hd hx s hs
        rw [hitd hin hJ s h1 h2]
        by_cases cs : stl v
        · rw [(stl_ds (rl := rl) (n - i) (v := wkV v (wkS (sK v0) s)) ht.1 (stl_K cs)).1]
          exact Iff.rfl
        · have : n - i = 0 := by
            have : ¬ i < n := fun q => c ⟨q, cs⟩
            omega
          rw [this]
          exact Iff.rfl
      · by_cases cs : stl v
        · rw [gs_st _ cs]
        · have : n - i = 0 := by
            have : ¬ i < n := fun q => c ⟨q, cs⟩
            omega
          rw [this]
          exact Iff.rfl
theorem sT_perm : (sT 8 0 0).Perm (List.range 256) := by decide +kernel
theorem c1_comm (z : wsZ) (s t : Nat) : c1S (c1S z s) t = c1S (c1S z t) s := by
  unfold c1S
  refine Prod.ext rfl (Prod.ext ?_ ?_)
  · show i_min (i_min z.2.1 (nI s)) (nI t) = i_min (i_min z.2.1 (nI t)) (nI s)
    generalize nI s = a
    generalize nI t = b
    generalize z.2.1 = c
    unfold i_min
    by_cases h1 : a < c
    · rw [if_pos h1]
      by_cases h2 : b < c
      · rw [if_pos h2]
        by_cases h3 : b < a
        · rw [if_pos h3, if_neg (fun q => absurd (Int32.lt_trans q h3) Int32.lt_irrefl)]
        · rw [if_neg h3]
          by_cases h4 : a < b
          · rw [if_pos h4]
          · rw [if_neg h4]
            exact Int32.le_antisymm (Int32.not_lt.mp h3) (Int32.not_lt.mp h4)
      · rw [if_neg h2, if_pos h1, if_neg (fun q => h2 (Int32.lt_trans q h1))]
    · rw [if_neg h1]
      by_cases h2 : b < c
      · rw [if_pos h2, if_neg (fun q => h1 (Int32.lt_trans q h2))]
      · rw [if_neg h2, if_neg h1]
  · show z.2.2 &&& nI s &&& nI t = z.2.2 &&& nI t &&& nI s
    apply b_ext
    intro i hi
    rw [b_and, b_and, b_and, b_and, Bool.and_assoc, Bool.and_assoc, Bool.and_comm (bt (nI s) i)]
theorem cF_perm {hit : Nat → Prop} {l m : List Nat} (h : l.Perm m) (z : wsZ) : cF hit l z = cF hit m z := by
  unfold cF
  refine h.foldl_eq' (fun a _ b _ z => ?_) z
  by_cases ha : hit a
  · by_cases hb : hit b
    · rw [if_pos ha, if_pos hb, if_pos ha, if_pos hb, c1_comm]
    · rw [if_pos ha, if_neg hb, if_neg hb, if_pos ha]
  · by_cases hb : hit b
    · rw [if_neg ha, if_pos hb, if_neg ha]
    · rw [if_neg ha, if_neg hb, if_neg ha]
/-- the reference's counting -/
noncomputable def k1S (hit : Nat → Prop) (z : wsZ) (s : Nat) : wsZ := by
  classical
  exact if hit s then (z.1 + 1, (if z.1 = 0 then nI s else z.2.1), (if z.1 = 0 then nI s else z.2.2 &&& nI s)) else z
theorem and_255 : ∀ s : Fin 256, (255 : Int32) &&& nI s.val = nI s.val := by decide +kernel
theorem k1_c {hit : Nat → Prop} : ∀ n, n ≤ 256 → ∃ m, m ≤ n ∧ (cF hit (List.range n) (0, 255, 255)).1 = nI m ∧ (flN (fun s z => k1S hit z s) n (0, -2, 0)).1 = nI m ∧ (m = 0 → cF hit (List.range n) (0, 255, 255) = (0, 255, 255) ∧ flN (fun s z => k1S hit z s) n (0, -2, 0) = (0, -2, 0)) ∧ (¬ m = 0 → cF hit (List.range n) (0, 255, 255) = flN (fun s z => k1S hit z s) n (0, -2, 0) ∧ (∃ a, a < n ∧ (cF hit (List.range n) (0, 255, 255)).2.1 = nI a))
  | 0, _ => ⟨0, Nat.le_refl _, rfl, rfl, fun _ => ⟨rfl, rfl⟩, fun h => absurd rfl h⟩
  | n + 1, hn => by
    obtain ⟨m, h0, h1, h2, h3, h4⟩ := k1_c (hit := hit) n (by omega)
    have ec : cF hit (List.range (n + 1)) (0, 255, 255) = cF hit [n] (cF hit (List.range n) (0, 255, 255)) := by rw [List.range_succ, cF_app]
    have ek : flN (fun s z => k1S hit z s) (n + 1) (0, -2, 0) = k1S hit (flN (fun s z => k1S hit z s) n (0, -2, 0)) n := rfl
    rw [ec, ek]
    generalize cF hit (List.range n) (0, 255, 255) = C at *
    generalize flN (fun s z => k1S hit z s) n (0, -2, 0) = K at *
    unfold k1S
    by_cases c : hit n
    · rw [cF_y c, if_pos c]
      show ∃ m, m ≤ n + 1 ∧ (c1S C n).1 = nI m ∧ _ ∧ (_ → c1S C n = _ ∧ _) ∧ (_ → c1S C n = _ ∧ ∃ a, a < n + 1 ∧ (c1S C n).2.1 = nI a)
      have e1 : (c1S C n).1 = nI (m + 1) := by show C.1 + 1 = _; rw [h1, nI_inc]
      refine ⟨m + 1, by omega, e1, by show K.1 + 1 = _; rw [h2, nI_inc], fun g => by omega, fun _ => ?_⟩
      by_cases hm : m = 0
      · obtain ⟨q1, q2⟩ := h3 hm
        rw [q1, q2, if_pos rfl, if_pos rfl]
        have em : i_min 255 (nI n) = nI n := by
          unfold i_min
          by_cases h255 : nI n < 255
          · rw [if_pos h255]
          · rw [if_neg h255]
            exact Int32.le_antisymm (Int32.not_lt.mp h255) (nI_le (b := 255) (by omega) (by omega))
        have ec2 : c1S (0, 255, 255) n = (0 + 1, nI n, nI n) := by
          unfold c1S
          refine Prod.ext rfl (Prod.ext em (and_255 ⟨n, by omega⟩))
        rw [ec2]
        exact ⟨rfl, n, by omega, rfl⟩
      · obtain ⟨q1, a, q2, q3⟩ := h4 hm
        have hk0 : ¬ K.1 = 0 := by rw [h2]; exact fun g => hm ((nI_eqI (b := 0) (by omega) (by omega)).mp g)
        rw [if_neg hk0, if_neg hk0, ← q1]
        have em : i_min C.2.1 (nI n) = C.2.1 := by
          unfold i_min
          rw [q3, if_neg (Int32.not_lt.mpr (nI_le (by omega) (by omega)))]
        refine ⟨?_, a, by omega, ?_⟩
        · unfold c1S
          rw [em]
        · show i_min C.2.1 (nI n) = nI a
          rw [em, q3]
    · rw [cF_n c, if_neg c]
      exact ⟨m, by omega, h1, h2, h3, fun g => by
        obtain ⟨q1, a, q2, q3⟩ := h4 g
        exact ⟨q1, a, by omega, q3⟩⟩
theorem woke_eq {rl : rlA} {n : Nat} {g : Int32} {v0 : stV} (hl : laOK (sR v0)) (ht : tOK v0) (hd : nDy v0 = 0) : ∃ m, m ≤ 256 ∧ (wokV rl n g v0).1 = nI m ∧ (flN (fun s z => k1S (hitS rl n g v0) z s) 256 (0, -2, 0)).1 = nI m ∧ (m = 0 → flN (fun s z => k1S (hitS rl n g v0) z s) 256 (0, -2, 0) = (0, -2, 0)) ∧ (¬ m = 0 → wokV rl n g v0 = flN (fun s z => k1S (hitS rl n g v0) z s) 256 (0, -2, 0)) := by
  have e := wk_main (rl := rl) (n := n) (g := g) (v0 := v0) 8 0 0 v0 (0, 255, 255) (by omega) (by omega) (by omega) hl ht hd (fun s _ _ => rfl) (fun h => by omega) (fun _ => rfl)
  have e2 : wokV rl n g v0 = cF (hitS rl n g v0) (List.range 256) (0, 255, 255) := e.trans (cF_perm sT_perm _)
  obtain ⟨m, h0, h1, h2, h3, h4⟩ := k1_c (hit := hitS rl n g v0) 256 (Nat.le_refl _)
  exact ⟨m, h0, by rw [e2]; exact h1, h2, fun q => (h3 q).2, fun q => by rw [e2]; exact (h4 q).1⟩
