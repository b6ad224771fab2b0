/-! Rows: the tree and the codes -/
def flN {S : Type} (f : Nat → S → S) : Nat → S → S
  | 0, s => s
  | n + 1, s => f n (flN f n s)
theorem flN_add {S : Type} (f : Nat → S → S) (a : Nat) : ∀ (b : Nat) (s : S), flN f (a + b) s = flN (fun j => f (a + j)) b (flN f a s)
  | 0, _ => rfl
  | b + 1, s => by
    show f (a + b) (flN f (a + b) s) = f (a + b) (flN (fun j => f (a + j)) b (flN f a s))
    rw [flN_add f a b s]
theorem flN_c {S : Type} {f g : Nat → S → S} : ∀ (n : Nat) (s : S), (∀ i s, i < n → f i s = g i s) → flN f n s = flN g n s
  | 0, _, _ => rfl
  | n + 1, s, h => by
    show f n (flN f n s) = g n (flN g n s)
    rw [flN_c n s (fun i s hi => h i s (by omega)), h n _ (by omega)]
theorem flN_id {S : Type} {f : Nat → S → S} : ∀ (n : Nat) (s : S), (∀ i s, i < n → f i s = s) → flN f n s = s
  | 0, _, _ => rfl
  | n + 1, s, h => by
    show f n (flN f n s) = s
    rw [flN_id n s (fun i s hi => h i s (by omega)), h n _ (by omega)]
theorem flN_mul {S : Type} (f : Nat → S → S) (K : Nat) : ∀ (M : Nat) (s : S), flN f (M * K) s = flN (fun p s => flN (fun j => f (p * K + j)) K s) M s
  | 0, s => by rw [Nat.zero_mul]; rfl
  | M + 1, s => by
    rw [Nat.succ_mul, flN_add, flN_mul f K M s]
    rfl
theorem fl_range {S : Type} (g : S → Nat → S) : ∀ (n : Nat) (s : S), (List.range n).foldl g s = flN (fun p s => g s p) n s
  | 0, _ => rfl
  | n + 1, s => by
    rw [List.range_succ, List.foldl_append, fl_range g n s]
    rfl
def setWa (x : Int32) (v : stV) : stV := (sR v, sK v, (nDy v, nKp v, nGa v, nLo v, x, nEg v, nAn v, nBu v, nLs v), sW v, sA v)
theorem wa_end (x : Int32) (v : stV) : endV (setWa x v) = setWa x (endV v) := rfl
theorem wa_decn (x : Int32) (v : stV) : decV (-1) (setWa x v) = setWa x (decV (-1) v) := by rw [decV_n, decV_n]; rfl
theorem wa_decq (x : Int32) (v : stV) {q : Nat} (hq : q < 8) : decV (nI q) (setWa x v) = setWa x (decV (nI q) v) := by rw [decV_q hq, decV_q hq]; rfl
/-- the p-th can be put -/
def fea (v : stV) (p : Nat) : Prop := p = 0 ∨ (wstV v = 0 ∧ ¬ bq (opV v) (nI p - 1) = 0)
theorem fea_rs {v : stV} {p : Nat} (hp : p ≤ 9) : rsC v p ↔ fea v p := by
  unfold rsC fea
  by_cases h0 : p = 0
  · exact ⟨fun _ => Or.inl h0, fun _ => Or.inl h0⟩
  · obtain ⟨q, rfl⟩ : ∃ q, p = q + 1 := ⟨p - 1, by omega⟩
    rw [nI_dec]
    by_cases hw : wstV v = 0
    · rw [if_pos hw]
      exact ⟨fun g => g.elim Or.inl (fun q => Or.inr ⟨hw, q⟩), fun g => g.elim Or.inl (fun q => Or.inr q.2)⟩
    · rw [if_neg hw]
      exact ⟨fun g => g.elim Or.inl (fun q => absurd (bq_z (by omega)) q), fun g => g.elim Or.inl (fun q => absurd q.1 hw)⟩
theorem fea_N {v : stV} {p : Nat} (hN : rN (sR v) ≤ 8) (hp : rN (sR v) + 1 ≤ p) (h9 : p ≤ 9) : ¬ fea v p := by
  rintro (h | ⟨h1, h2⟩)
  · omega
  · obtain ⟨q, rfl⟩ : ∃ q, p = q + 1 := ⟨p - 1, by omega⟩
    rw [nI_dec] at h2
    exact h2 (opV_hi hN (by omega) (by omega))
theorem nx_gw {v : stV} {p : Nat} (x : Int32) (hN : rN (sR v) ≤ 8) (hf : fea v p) (hp : p ≤ 9) : ∃ y, gwV (nI p - 1) (setWa x v) = setWa y (nxV p v) := by
  unfold gwV nxV
  have ew : wstV (setWa x v) = wstV v := rfl
  rw [ew]
  by_cases hw : wstV v = 0
  · rw [if_pos hw, if_pos hw]
    refine ⟨x, ?_⟩
    by_cases h0 : p = 0
    · subst h0
      rw [show nI 0 - 1 = -1 by decide, wa_decn, wa_end]
    · obtain ⟨q, rfl⟩ : ∃ q, p = q + 1 := ⟨p - 1, by omega⟩
      rw [nI_dec]
      have hq : q < 8 := by
        rcases hf with g | ⟨-, g⟩
        · omega
        · rw [nI_dec] at g
          have := Nat.lt_of_not_le (fun z => g (opV_hi hN z (by omega)))
          omega
      rw [wa_decq x v hq, wa_end]
  · rw [if_neg hw, if_neg hw]
    refine ⟨x + 1, ?_⟩
    show endV (setWa (x + 1) v) = setWa (x + 1) (endV v)
    rfl
/-- a code of d places from v on, M a place -/
noncomputable def grF (M : Nat) : Nat → Nat → stV → Option stV
  | 0, _, v => some v
  | d + 1, c, v => by
    classical
    exact if fea v (c / M ^ d % M) then grF M d c (gwV (nI (c / M ^ d % M) - 1) v) else none
abbrev rwPr : Type := Int32 × (Nat → Int32)
noncomputable def stL (M n : Nat) (now : Int32) (d i c : Nat) (u : stV) (tr : Nat → Int32) (s : rwPr) : rwPr := match grF M d c u with
  | some u1 => if s.1 < balV u1 - now then (balV u1 - now, fun k => if k < i then tr k else nI (c / M ^ (n - 1 - k) % M) - 1) else s
  | none => s
def rwR (n : Nat) (now : Int32) (s : rwPr) (z : rsZ) : Prop := (z.1 = 0 ∧ s.1 = -100000) ∨ (¬ z.1 = 0 ∧ s.1 = z.2.1 - now ∧ (-99999 ≤ z.2.1.toInt ∧ z.2.1.toInt ≤ 99999) ∧ ∀ k, k < n → s.2 k = z.2.2.1 k)
theorem rw_main {M n : Nat} {v0 : stV} (hM : M = rN (sR v0) + 1) (hN : rN (sR v0) ≤ 8) (h0 : tOK v0) : ∀ (d i a : Nat) (u v : stV) (z : rsZ) (s : rwPr) (tr : Nat → Int32), i + d = n → sR v = sR v0 → (∃ x, u = setWa x v) → tOK u → gGe u v0 → rwR n (balV v0) s z → (∀ k, k < i → tr k = z.2.2.2 k) → rwR n (balV v0) (flN (fun j s => stL M n (balV v0) d i (a * M ^ d + j) u tr s) (M ^ d) s) (rsF d i v z) ∧ ∀ k, k < i → (rsF d i v z).2.2.2 k = z.2.2.2 k := by
  have hnow := bal_int h0
  intro d
  induction d with
  | zero =>
    intro i a u v z s tr hi hR hu tu gu hr ht
    obtain ⟨x, rfl⟩ := hu
    have eb : balV (setWa x v) = balV v := rfl
    have hb := bal_int tu
    rw [eb] at hb
    refine ⟨?_, fun k hk => ?_⟩
    · rw [Nat.pow_zero]
      show rwR n (balV v0) (stL M n (balV v0) 0 i (a * 1 + 0) (setWa x v) tr s) (kbF (balV v) z)
      unfold stL grF
      simp only [eb]
      unfold kbF
      rcases hr with ⟨r1, r2⟩ | ⟨r1, r2, r3, r4⟩
      · have hf := bal_fall h0 tu gu
        rw [eb] at hf
        rw [if_pos r1, r2, if_pos hf]
        refine Or.inr ⟨(by decide : ¬ (1 : Int32) = 0), rfl, hb, fun k hk => ?_⟩
        show (if k < i then tr k else _) = _
        rw [if_pos (by omega)]
        exact ht k (by omega)
      · rw [if_neg r1, r2]
        by_cases c : balV v ≤ z.2.1
        · rw [if_pos c, if_neg (fun g => absurd ((sub_lt r3 hb hnow).mp g) (Int32.not_lt.mpr c))]
          exact Or.inr ⟨r1, r2, r3, r4⟩
        · rw [if_neg c, if_pos ((sub_lt r3 hb hnow).mpr (Int32.not_le.mp c))]
          refine Or.inr ⟨(by decide : ¬ (1 : Int32) = 0), rfl, hb, fun k hk => ?_⟩
          show (if k < i then tr k else _) = _
          rw [if_pos (by omega)]
          exact ht k (by omega)
    · show (kbF (balV v) z).2.2.2 k = z.2.2.2 k
      unfold kbF
      split
      · rfl
      · split <;> rfl
  | succ d ih =>
    intro i a u v z s tr hi hR hu tu gu hr ht
    have hNv : rN (sR v) ≤ 8 := by rw [hR]; exact hN
    have hMv : M = rN (sR v) + 1 := by rw [hR]; exact hM
    have hMd : 0 < M ^ d := Nat.pow_pos (by omega)
    rw [show M ^ (d + 1) = M * M ^ d by rw [Nat.pow_succ, Nat.mul_comm], flN_mul]
    have er : rsF (d + 1) i v z = flN (fun p z => by
        classical
        exact if rsC v p then rsF d (i + 1) (nxV p v) (z.1, z.2.1, z.2.2.1, upd z.2.2.2 i (nI p - 1)) else z) 9 z := by
      rw [rsF, fl_range]
    have e9 : (9 : Nat) = M + (9 - M) := by omega
    rw [er, e9, flN_add]
    have rest : ∀ z, flN (fun j z => by
        classical
        exact if rsC v (M + j) then rsF d (i + 1) (nxV (M + j) v) (z.1, z.2.1, z.2.2.1, upd z.2.2.2 i (nI (M + j) - 1)) else z) (9 - M) z = z := fun z => flN_id _ z (fun j z hj => if_neg (fun g => fea_N hNv (by omega) (by omega) ((fea_rs (by omega)).mp g)))
    rw [rest]
    have dig : ∀ p j, p < M → j < M ^ d → (a * (M * M ^ d) + (p * M ^ d + j)) / M ^ d % M = p := by
      intro p j hp hj
      rw [show a * (M * M ^ d) + (p * M ^ d + j) = j + (a * M + p) * M ^ d by rw [Nat.add_mul, Nat.mul_assoc]; omega, Nat.add_mul_div_right _ _ hMd, Nat.div_eq_of_lt hj, Nat.zero_add, Nat.add_comm, Nat.add_mul_mod_self_right]
      exact Nat.mod_eq_of_lt hp
    have key : ∀ P, P ≤ M → rwR n (balV v0) (flN (fun p s => flN (fun j => stL M n (balV v0) (d + 1) i (a * (M * M ^ d) + (p * M ^ d + j)) u tr) (M ^ d) s) P s) (flN (fun p z => by
        classical
        exact if rsC v p then rsF d (i + 1) (nxV p v) (z.1, z.2.1, z.2.2.1, upd z.2.2.2 i (nI p - 1)) else z) P z) ∧ ∀ k, k < i → (flN (fun p z => by
        classical
        exact if rsC v p then rsF d (i + 1) (nxV p v) (z.1, z.2.1, z.2.2.1, upd z.2.2.2 i (nI p - 1)) else z) P z).2.2.2 k = z.2.2.2 k := by
      intro P
      induction P with
      | zero => exact fun _ => ⟨hr, fun _ _ => rfl⟩
      | succ P ihP =>
        intro hP
        obtain ⟨g1, g2⟩ := ihP (by omega)
        rw [flN, flN]
        generalize flN (fun p s => flN (fun j => stL M n (balV v0) (d + 1) i (a * (M * M ^ d) + (p * M ^ d + j)) u tr) (M ^ d) s) P s = s1 at g1 ⊢
        generalize flN (fun p z => by
          classical
          exact if rsC v p then rsF d (i + 1) (nxV p v) (z.1, z.2.1, z.2.2.1, upd z.2.2.2 i (nI p - 1)) else z) P z = z1 at g1 g2 ⊢
        obtain ⟨x, rfl⟩ := hu
        by_cases hf : fea v P
        · rw [if_pos ((fea_rs (by omega)).mpr hf)]
          obtain ⟨y, ey⟩ := nx_gw x hNv hf (by omega)
          have hq : nI P - 1 = -1 ∨ ∃ q', q' < rN (sR (setWa x v)) ∧ nI P - 1 = nI q' := by
            by_cases hP0 : P = 0
            · exact Or.inl (by rw [hP0]; decide)
            · exact Or.inr ⟨P - 1, by show P - 1 < rN (sR v); omega, by rw [show P = P - 1 + 1 by omega, nI_dec]; rfl⟩
          obtain ⟨t1, t2⟩ := tOK_gw hq tu
          have e1 : ∀ j s, j < M ^ d → stL M n (balV v0) (d + 1) i (a * (M * M ^ d) + (P * M ^ d + j)) (setWa x v) tr s = stL M n (balV v0) d (i + 1) ((a * M + P) * M ^ d + j) (gwV (nI P - 1) (setWa x v)) (upd tr i (nI P - 1)) s := by
            intro j s hj
            have ec : a * (M * M ^ d) + (P * M ^ d + j) = (a * M + P) * M ^ d + j := by rw [Nat.add_mul, Nat.mul_assoc]; omega
            have hd := dig P j (by omega) hj
            rw [ec] at hd ⊢
            unfold stL
            have eg : grF M (d + 1) ((a * M + P) * M ^ d + j) (setWa x v) = grF M d ((a * M + P) * M ^ d + j) (gwV (nI P - 1) (setWa x v)) := by
              rw [grF, hd, if_pos (show fea (setWa x v) P from hf)]
            rw [eg]
            cases grF M d ((a * M + P) * M ^ d + j) (gwV (nI P - 1) (setWa x v)) with
            | none => rfl
            | some u1 =>
              show (if s.1 < balV u1 - balV v0 then (_, _) else s) = (if s.1 < balV u1 - balV v0 then (_, _) else s)
              have e2 : (fun k => if k < i then tr k else nI (((a * M + P) * M ^ d + j) / M ^ (n - 1 - k) % M) - 1) = (fun k => if k < i + 1 then upd tr i (nI P - 1) k else nI (((a * M + P) * M ^ d + j) / M ^ (n - 1 - k) % M) - 1) := by
                funext k
                by_cases hk : k < i
                · rw [if_pos hk, if_pos (by omega), upd_n (by omega)]
                · rw [if_neg hk]
                  by_cases hk2 : k = i
                  · rw [if_pos (by omega), hk2, upd_s, show n - 1 - i = d by omega, hd]
                  · rw [if_neg (by omega)]
              rw [e2]
          have ef : flN (fun j => stL M n (balV v0) (d + 1) i (a * (M * M ^ d) + (P * M ^ d + j)) (setWa x v) tr) (M ^ d) s1 = flN (fun j s => stL M n (balV v0) d (i + 1) ((a * M + P) * M ^ d + j) (gwV (nI P - 1) (setWa x v)) (upd tr i (nI P - 1)) s) (M ^ d) s1 := flN_c _ _ (fun j s hj => e1 j s hj)
          rw [ef]
          have hr1 : rwR n (balV v0) s1 (z1.1, z1.2.1, z1.2.2.1, upd z1.2.2.2 i (nI P - 1)) := g1
          have eR : sR (nxV P v) = sR v0 := by
            have : sR (gwV (nI P - 1) (setWa x v)) = sR (nxV P v) := by rw [ey]; rfl
            rw [← this]
            unfold gwV
            split
            · exact hR
            · exact hR
          obtain ⟨q1, q2⟩ := ih (i + 1) (a * M + P) (gwV (nI P - 1) (setWa x v)) (nxV P v) (z1.1, z1.2.1, z1.2.2.1, upd z1.2.2.2 i (nI P - 1)) s1 (upd tr i (nI P - 1)) (by omega) eR ⟨y, ey⟩ t1 (gGe_t gu t2) hr1 (fun k hk => by
            show upd tr i (nI P - 1) k = upd z1.2.2.2 i (nI P - 1) k
            by_cases hk2 : k = i
            · rw [hk2, upd_s, upd_s]
            · rw [upd_n hk2, upd_n hk2, g2 k (by omega)]
              exact ht k (by omega))
          refine ⟨q1, fun k hk => ?_⟩
          rw [q2 k (by omega)]
          show upd z1.2.2.2 i (nI P - 1) k = _
          rw [upd_n (by omega), g2 k hk]
        · rw [if_neg (fun g => hf ((fea_rs (by omega)).mp g))]
          refine ⟨?_, g2⟩
          have ef : flN (fun j => stL M n (balV v0) (d + 1) i (a * (M * M ^ d) + (P * M ^ d + j)) (setWa x v) tr) (M ^ d) s1 = s1 := by
            refine flN_id _ _ (fun j s hj => ?_)
            have hd := dig P j (by omega) hj
            unfold stL
            have eg : grF M (d + 1) (a * (M * M ^ d) + (P * M ^ d + j)) (setWa x v) = none := by
              rw [grF, hd, if_neg (show ¬ fea (setWa x v) P from hf)]
            rw [eg]
          rw [ef]
          exact g1
    exact key M (Nat.le_refl _)
