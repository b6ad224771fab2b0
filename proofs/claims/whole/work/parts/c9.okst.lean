/-! What holds between calls: of a state -/
theorem lo_le {ls : Int32} {W : Nat → Int32} (hW : ∀ i, i < 8 → ∃ x, x ≤ 999 ∧ W i = nI x) : ∀ n, n ≤ 8 → loS ls W n ≤ 999 * n
  | 0, _ => Nat.le_refl _
  | n + 1, hn => by
    have ih := lo_le (ls := ls) hW n (by omega)
    obtain ⟨x, hx, ex⟩ := hW n (by omega)
    rw [loS]
    have e : (W n).toNatClampNeg ≤ 999 := by
      rw [ex, nI_clamp (by omega)]
      exact hx
    split <;> omega
theorem lo_or {ls : Int32} {W : Nat → Int32} {i : Nat} (hi : i < 32) (hb : bt ls i = false) : ∀ n, n ≤ 32 → loS (ls ||| (1 <<< (nI i &&& 31))) W n = loS ls W n + (if i < n then (W i).toNatClampNeg else 0)
  | 0, _ => by
    rw [if_neg (Nat.not_lt_zero _)]
    rfl
  | n + 1, hn => by
    have ih := lo_or (W := W) hi hb n (by omega)
    rw [loS, loS, ih, b_or, bt_sh1 hi (by omega)]
    by_cases e : n = i
    · subst e
      rw [hb, decide_eq_true rfl, if_neg (show ¬ n < n from Nat.lt_irrefl _), if_pos (show n < n + 1 from Nat.lt_succ_self _)]
      simp
    · rw [decide_eq_false e, Bool.or_false]
      by_cases c : i < n
      · rw [if_pos c, if_pos (show i < n + 1 by omega)]
        omega
      · rw [if_neg c, if_neg (show ¬ i < n + 1 by omega)]
        omega
theorem lo_ext {ls ls' : Int32} {W W' : Nat → Int32} : ∀ n, (∀ i, i < n → bt ls i = bt ls' i) → (∀ i, i < n → bt ls i = true → W i = W' i) → loS ls W n = loS ls' W' n
  | 0, _, _ => rfl
  | n + 1, h1, h2 => by
    rw [loS, loS, lo_ext n (fun i hi => h1 i (by omega)) (fun i hi => h2 i (by omega)), ← h1 n (by omega)]
    by_cases c : bt ls n = true
    · rw [if_pos c, if_pos c, h2 n (by omega) c]
    · rw [if_neg c, if_neg c]
theorem edr_lo {o dy : Int32} {La W : Nat → Int32} {N : Nat} (hN : N ≤ 8) (hW : ∀ i, i < 8 → ∃ x, x ≤ 999 ∧ W i = nI x) : ∀ (d i : Nat) (ls lo : Int32), i + d ≤ N → (∀ b, i ≤ b → b < N → ¬ bq o (nI b) = 0 → bt ls b = false) → lo = nI (loS ls W N) → (edr o dy La W i d ls lo).2 = nI (loS (edr o dy La W i d ls lo).1 W N)
  | 0, i, ls, lo, _, _, h => h
  | d + 1, i, ls, lo, hi, hb, h => by
    rw [edr]
    by_cases c : bq o (nI i) = 0
    · rw [if_pos c]
      exact edr_lo hN hW d (i + 1) ls lo (by omega) (fun b h1 h2 => hb b (by omega) h2) h
    · rw [if_neg c]
      by_cases c2 : dy < La i
      · rw [if_pos c2]
        exact edr_lo hN hW d (i + 1) ls lo (by omega) (fun b h1 h2 => hb b (by omega) h2) h
      · rw [if_neg c2]
        have hbi := hb i (Nat.le_refl _) (by omega) c
        obtain ⟨x, hx, ex⟩ := hW i (by omega)
        have hle := lo_le (ls := ls) hW N hN
        refine edr_lo hN hW d (i + 1) _ _ (by omega) (fun b h1 h2 h3 => ?_) ?_
        · rw [b_or, bt_sh1 (by omega) (by omega), hb b (by omega) h2 h3, decide_eq_false (by omega)]
          rfl
        · rw [lo_or (by omega) hbi N (by omega), if_pos (by omega), h, ex, nI_add, nI_clamp (by omega)]
          have e := min_nat (a := 99999) (b := loS ls W N + x) (by omega) (by omega)
          have e2 : min 99999 (loS ls W N + x) = loS ls W N + x := by omega
          rw [e2] at e
          exact e
theorem lo_end {v : stV} (hN : rN (sR v) ≤ 8) (hW : wOK v) (h : loOK v) : loOK (endV v) := by
  rw [endV_q]
  show (edr (opV v) (nDy v) (rLa (sR v)) (sW v) 0 (rN (sR v)) (nLs v) (nLo v)).2 = nI (loS (edr (opV v) (nDy v) (rLa (sR v)) (sW v) 0 (rN (sR v)) (nLs v) (nLo v)).1 (sW v) (rN (sR v)))
  exact edr_lo hN hW _ 0 _ _ (by omega) (fun b _ h2 h3 => (op_clear hN (by omega) ((bq_n0 (by omega)).mp h3)).2.2) h
theorem ok_tOK {v : stV} (h : okS v) : tOK v := by
  have hle := lo_le (ls := nLs v) ((okS_w h :)) (rN (sR v)) ((okS_N h :))
  have hN := (okS_N h :)
  exact ⟨hN, (okS_w h :), ((okS_r h :)).2.2.2.1, (okS_ga h :), ⟨_, by omega, (okS_lo h :)⟩⟩
theorem kp_end {v : stV} (h : kpOK v) : kpOK (endV v) := h
theorem kp_n {v : stV} (hr : reOK (sR v)) (h : kpOK v) : kpOK (decV (-1) v) := by
  obtain ⟨k, hk, ek⟩ := h
  obtain ⟨e, he, ee⟩ := hr.2.2.1
  rw [decV_n]
  refine ⟨min e (k + 1), by omega, ?_⟩
  show i_min (rKe (sR v)) (nKp v + 1) = nI (min e (k + 1))
  rw [ek, ee, nI_inc]
  exact min_nat (by omega) (by omega)
theorem kp_q {v : stV} {q : Nat} (hq : q < 8) (h : kpOK v) : kpOK (decV (nI q) v) := by
  rw [decV_q hq]
  exact h
/-- a day keeps it -/
theorem ok_dy {rl : rlA} {v : stV} (h : okS v) (hd : nDy v < 999) : okS (dyV rl v).2 := by
  have hN := (okS_N h :)
  have hl := (okS_la h :)
  have ht := (tOK_dy (rl := rl) hl (ok_tOK h)).1
  have hdd : dOK 998 v := by
    obtain ⟨d, h1, h2⟩ := (okS_d h :)
    refine ⟨d, ?_, h2⟩
    rw [h2] at hd
    apply Nat.le_of_not_lt
    intro g
    have : d = 999 := by omega
    rw [this] at hd
    exact absurd hd (by decide)
  have hgw : (dyV rl v).2 = gwV (dyV rl v).1 v := dyV_gw rl v
  have hr1 := dy1_r (rl := rl) hN hl
  have kl : kpOK (dyV rl v).2 ∧ loOK (dyV rl v).2 := by
    rw [hgw]
    generalize (dyV rl v).1 = q at *
    unfold gwV
    split
    · rcases hr1 with rfl | ⟨q', h1, rfl⟩
      · refine ⟨kp_end (kp_n ((okS_r h :)) ((okS_kp h :))), lo_end ?_ ?_ ?_⟩
        · rw [decV_n]; exact hN
        · rw [decV_n]; exact (okS_w h :)
        · rw [decV_n]; exact (okS_lo h :)
      · have h8 : q' < 8 := by omega
        refine ⟨kp_end (kp_q h8 ((okS_kp h :))), lo_end ?_ ?_ ?_⟩
        · rw [decV_q h8]; exact hN
        · rw [decV_q h8]; exact (okS_w h :)
        · rw [decV_q h8]; exact (okS_lo h :)
    · exact ⟨kp_end (v := waV v) ((okS_kp h :)), lo_end (v := waV v) hN ((okS_w h :)) ((okS_lo h :))⟩
  exact ⟨(okS_b h :), (okS_r h :), nzS_dy ((okS_z h :)), Or.inl (dyV_eg rl v), dOK_s hdd (dyV_dy rl v), kl.1, ht.2.2.2.1, (okS_w h :), kl.2, (dj_dy hN hl ((okS_dj h :))).1, (okS_sy h :), (okS_k h :)⟩
theorem ok_eg {v : stV} (h : okS v) : okS (setEg 1 v) := ⟨(okS_b h :), (okS_r h :), (okS_z h :), Or.inr rfl, (okS_d h :), (okS_kp h :), (okS_ga h :), (okS_w h :), (okS_lo h :), (okS_dj h :), (okS_sy h :), (okS_k h :)⟩
theorem ok_kp {v : stV} {k : Nat} (hk : k ≤ 9) (h : okS v) : okS (setKp (nI k) v) := ⟨(okS_b h :), (okS_r h :), (okS_z h :), (okS_e h :), (okS_d h :), ⟨k, hk, rfl⟩, (okS_ga h :), (okS_w h :), (okS_lo h :), (okS_dj h :), (okS_sy h :), (okS_k h :)⟩
theorem ok_dec {v : stV} {q : Nat} (hq : q < 8) (ho : ¬ bq (opV v) (nI q) = 0) (h : okS v) : okS (decV (nI q) v) := by
  have hN := (okS_N h :)
  have ht := (tOK_dec hq (ok_tOK h)).1
  have hj := dj_dec hN hq ho ((okS_dj h :))
  rw [decV_q hq] at ht hj ⊢
  exact ⟨(okS_b h :), (okS_r h :), (okS_z h :), (okS_e h :), (okS_d h :), (okS_kp h :), ht.2.2.2.1, (okS_w h :), (okS_lo h :), hj, (okS_sy h :), (okS_k h :)⟩
theorem tie_bt {A : Nat → Int32} {x y i j : Nat} (hx : x < 8) (hy : y < 8) (hxy : ¬ x = y) (hj : j < 8) : bt (tieA A x y i) j = (bt (A i) j ^^ ((decide (i = x) && decide (j = y)) || (decide (i = y) && decide (j = x)))) := by
  have bx : ∀ (a b : Int32) (i : Nat), bt (a ^^^ b) i = (bt a i ^^ bt b i) := fun a b i => by
    unfold bt
    rw [Int32.toBitVec_xor, BitVec.getLsbD_xor]
  unfold tieA
  by_cases e1 : i = y
  · have e2 : ¬ y = x := fun g => hxy g.symm
    rw [e1, upd_s, upd_n e2, bx, bt_sh1 (by omega) (by omega), decide_eq_false e2, decide_eq_true (show y = y from rfl)]
    simp
  · rw [upd_n e1, decide_eq_false e1]
    by_cases e2 : i = x
    · rw [e2, upd_s, bx, bt_sh1 (by omega) (by omega), decide_eq_true (show x = x from rfl)]
      simp
    · rw [upd_n e2, decide_eq_false e2]
      simp
theorem ok_tie {v : stV} {x y : Nat} (hx : x < 8) (hy : y < 8) (hxy : ¬ x = y) (h : okS v) : okS (tieV x y v) := by
  refine ⟨(okS_b h :), (okS_r h :), nzS_tie hx hy ((okS_z h :)), (okS_e h :), (okS_d h :), (okS_kp h :), (okS_ga h :), (okS_w h :), (okS_lo h :), (okS_dj h :), fun i j hi hj => ?_, (okS_k h :)⟩
  show bt (tieA (sA v) x y i) j = bt (tieA (sA v) x y j) i
  rw [tie_bt hx hy hxy hj, tie_bt hx hy hxy hi, okS_sy h i j hi hj]
  congr 1
  cases decide (i = x) <;> cases decide (j = y) <;> cases decide (i = y) <;> cases decide (j = x) <;> rfl
theorem ok_gr {v : stV} {q m : Nat} (hq : q < 8) (hm : m ≤ 99) (hf : bt (nLs v) q = false) (h : okS v) : okS (grV q (nI m) v) := by
  obtain ⟨x, hx, ex⟩ := okS_w h q hq
  have e : i_min 999 (sW v q + nI m) = nI (min 999 (x + m)) := by
    rw [ex, nI_add]
    exact min_nat (a := 999) (by omega) (by omega)
  refine ⟨(okS_b h :), (okS_r h :), ⟨nz_upd hq ((okS_z h :)).1, ((okS_z h :)).2⟩, (okS_e h :), (okS_d h :), (okS_kp h :), (okS_ga h :), fun i hi => ?_, ?_, (okS_dj h :), (okS_sy h :), (okS_k h :)⟩
  · show ∃ x, x ≤ 999 ∧ upd (sW v) q (i_min 999 (sW v q + nI m)) i = nI x
    by_cases c : i = q
    · exact ⟨min 999 (x + m), by omega, by rw [c, upd_s, e]⟩
    · rw [upd_n c]
      exact okS_w h i hi
  · show nLo v = nI (loS (nLs v) (upd (sW v) q (i_min 999 (sW v q + nI m))) (rN (sR v)))
    rw [← lo_ext (ls := nLs v) (ls' := nLs v) (W := sW v) (rN (sR v)) (fun _ _ => rfl) (fun i _ hb => ?_)]
    · exact (okS_lo h :)
    · have : ¬ i = q := fun g => by
        rw [g, hf] at hb
        exact absurd hb (by decide)
      rw [upd_n this]
theorem lo_0 {W : Nat → Int32} : ∀ n, loS 0 W n = 0
  | 0 => rfl
  | n + 1 => by
    rw [loS, lo_0 n, b_0]
    rfl
theorem ok_beg {rv : rV} (hb : rTo rv = 0 ∨ rTo rv = 1) (h : reOK rv) : okS (begV rv) := by
  refine ⟨hb, h, ⟨h.2.2.2.2.1, h.2.2.2.2.2.1⟩, Or.inl rfl, ⟨0, by omega, rfl⟩, ⟨0, by omega, rfl⟩, ⟨0, by omega, rfl⟩, h.2.2.2.2.2.2.1, ?_, fun i _ hb => ?_, h.2.2.2.2.2.2.2, rfl⟩
  · show (0 : Int32) = nI (loS 0 (rW rv) (rN rv))
    rw [lo_0]
    rfl
  · have hb' : bt 0 i = true := hb
    rw [b_0] at hb'
    exact absurd hb' (by decide)
theorem ok_stZ : okS stZ := ok_beg (rv := rvZ) (Or.inl rfl) re_Z
