/-! The law: its loop -/
theorem dl_18 : decode code 18 = .ok (.iload_n 3, 1) := by decide +kernel
theorem dl_19 : decode code 19 = .ok (.aload_n 0, 1) := by decide +kernel
theorem dl_20 : decode code 20 = .ok (.arraylength, 1) := by decide +kernel
theorem dl_21 : decode code 21 = .ok (.bipush 6, 2) := by decide +kernel
theorem dl_23 : decode code 23 = .ok (.isub, 1) := by decide +kernel
theorem dl_24 : decode code 24 = .ok (.if_icmp .gt 1010, 3) := by decide +kernel
theorem dl_27 : decode code 27 = .ok (.aload_n 0, 1) := by decide +kernel
theorem dl_28 : decode code 28 = .ok (.iload_n 3, 1) := by decide +kernel
theorem dl_29 : decode code 29 = .ok (.iaload, 1) := by decide +kernel
theorem dl_30 : decode code 30 = .ok (.bipush 31, 2) := by decide +kernel
theorem dl_32 : decode code 32 = .ok (.iand, 1) := by decide +kernel
theorem dl_33 : decode code 33 = .ok (.tableswitch 995 0 29 #[135, 198, 221, 234, 247, 270, 303, 316, 339, 352, 385, 418, 431, 474, 507, 540, 573, 606, 629, 652, 685, 718, 771, 804, 827, 850, 873, 926, 949, 972], 135) := by decide +kernel
theorem dl_1028 : decode code 1028 = .ok (.iinc 3 6, 3) := by decide +kernel
theorem dl_1031 : decode code 1031 = .ok (.goto (-1013), 3) := by decide +kernel
theorem dl_1034 : decode code 1034 = .ok (.iconst 1, 1) := by decide +kernel
theorem dl_1035 : decode code 1035 = .ok (.ireturn, 1) := by decide +kernel
theorem dl_0 : decode code 0 = .ok (.new 7, 3) := by decide +kernel
theorem dl_3 : decode code 3 = .ok (.dup, 1) := by decide +kernel
theorem dl_4 : decode code 4 = .ok (.invokespecial 9, 3) := by decide +kernel
theorem dl_7 : decode code 7 = .ok (.astore_n 1, 1) := by decide +kernel
theorem dl_8 : decode code 8 = .ok (.new 10, 3) := by decide +kernel
theorem dl_11 : decode code 11 = .ok (.dup, 1) := by decide +kernel
theorem dl_12 : decode code 12 = .ok (.invokespecial 12, 3) := by decide +kernel
theorem dl_15 : decode code 15 = .ok (.astore_n 2, 1) := by decide +kernel
theorem dl_16 : decode code 16 = .ok (.iconst 0, 1) := by decide +kernel
theorem dl_17 : decode code 17 = .ok (.istore_n 3, 1) := by decide +kernel
theorem a31 (x : Int32) : ∃ v, v < 32 ∧ x &&& 31 = nI v := by
  have hle : (x.toBitVec &&& (31 : Int32).toBitVec).toNat ≤ 31 := by
    rw [BitVec.toNat_and]
    exact Nat.le_trans Nat.and_le_right (by decide)
  refine ⟨(x.toBitVec &&& (31 : Int32).toBitVec).toNat, by omega, ?_⟩
  apply Int32.toBitVec_inj.mp
  show (x &&& 31).toBitVec = (Int32.ofNat _).toBitVec
  rw [Int32.toBitVec_ofNat', Int32.toBitVec_and]
  apply BitVec.eq_of_toNat_eq
  rw [BitVec.toNat_ofNat, Nat.mod_eq_of_lt (BitVec.isLt _)]
theorem lg_6 {L i : Nat} (hL : L ≤ 3072) (hi : i ≤ 3072) : Int32.ofNat L - 6 < nI i ↔ L < i + 6 := by
  by_cases h6 : 6 ≤ L
  · have e : Int32.ofNat L - 6 = nI (L - 6) := nI_sb (a := L) (b := 6) h6
    rw [e]
    constructor
    · intro g
      apply Nat.lt_of_not_le
      intro g2
      exact absurd (nI_le (a := i) (b := L - 6) (by omega) (by omega)) (Int32.not_le.mpr g)
    · intro g
      exact nI_lt (by omega) (by omega)
  · have h0 : Int32.ofNat L - 6 < 0 := by
      have : L = 0 ∨ L = 1 ∨ L = 2 ∨ L = 3 ∨ L = 4 ∨ L = 5 := by omega
      rcases this with rfl | rfl | rfl | rfl | rfl | rfl <;> decide
    have h1 : (0 : Int32) ≤ nI i := nI_pos' (by omega)
    exact ⟨fun _ => by omega, fun _ => Int32.lt_of_lt_of_le h0 h1⟩
section LWL
variable {p : Program} {l : Launch} {e : Env} {s : State} {m : MethodId} {below : List Frame} {meth : Method} {c : Code} {D : va_G} {ad : Nat → Nat} {ct : Nat → ClassId} {b L : Nat} {xs : Nat → Int32}
set_option maxRecDepth 100000 in
theorem law_loop (hL : L ≤ 3072) (C0 : lw_At p s m meth c b L xs) : ∀ (n t : Nat) (HA : rm_H) (Hp : Heap) (locs : List Loc) (im : Nat → Prop) (w : oV) (ks : Nat) (ls : Array Slot), L ≤ 6 * t + 6 * n + 5 → 6 * t ≤ L → lwC D ad ct s HA Hp locs → lv_has ls 4 (lwL b ad (6 * t)) → isO im HA w → isM HA w → okW w → bOK (oB w) → HA.length ≤ 189 + 74 * t → ks ≤ 20000 + 1000 * t → W p l e room_1 s m #[Value.ref b] below meth c Hp locs HA.length ks (lw_Z below #[Value.ref b] s) (F0 m 18 ls []) := by
  obtain ⟨hx, hb, hr, hml, hown, hts, hX, hbl, hlocks, hgv⟩ := C0
  intro n
  induction n with
  | zero =>
    intro t HA Hp locs im w ks ls h1 h2 hC hl hO hM ho hB h3 h4
    refine lv_iload_n hx hb dl_18 rfl (lv_at hl 3 rfl) ?_
    refine lv_aload_n hx hb dl_19 rfl (lv_at hl 0 rfl) ?_
    refine va_slen hx hb hX hbl (Nat.not_le.mpr hbl) hC.2.2.2.2.1 dl_20 ?_
    refine lv_bipush (v := 6) hx hb dl_21 (by decide) ?_
    refine lv_isub hx hb dl_23 ?_
    refine lv_icmp_gt (tgt := 1034) hx hb dl_24 (by decide) (fun g => ?_) (fun g => absurd ((lg_6 hL (by omega)).mpr (by omega)) g)
    refine lv_iconst (v := 1) hx hb dl_1034 (by decide) ?_
    refine va_forget (fun q hq => hC.2.2.2.2.1.2.2 q hq) ?_
    refine W.widen (k := 600000) (n := 7302250) (by omega) (by omega) ?_
    exact lw_ret hx hb hr hlocks dl_1035
  | succ n ih =>
    intro t HA Hp locs im w ks ls h1 h2 hC hl hO hM ho hB h3 h4
    refine lv_iload_n hx hb dl_18 rfl (lv_at hl 3 rfl) ?_
    refine lv_aload_n hx hb dl_19 rfl (lv_at hl 0 rfl) ?_
    refine va_slen hx hb hX hbl (Nat.not_le.mpr hbl) hC.2.2.2.2.1 dl_20 ?_
    refine lv_bipush (v := 6) hx hb dl_21 (by decide) ?_
    refine lv_isub hx hb dl_23 ?_
    refine lv_icmp_gt (tgt := 1034) hx hb dl_24 (by decide) (fun g => ?_) (fun g => ?_)
    · refine lv_iconst (v := 1) hx hb dl_1034 (by decide) ?_
      refine va_forget (fun q hq => hC.2.2.2.2.1.2.2 q hq) ?_
      refine W.widen (k := 600000) (n := 7302250) (by omega) (by omega) ?_
      exact lw_ret hx hb hr hlocks dl_1035
    · have hlt : 6 * t + 6 ≤ L := by
        apply Nat.le_of_not_lt
        intro g2
        exact g ((lg_6 hL (by omega)).mpr g2)
      have K : lwK p l e s m #[Value.ref b] below meth c D ad ct (lw_Z below #[Value.ref b] s) ls HA.length ks := by
        intro im1 w1 G H1 locs1 ks1 k1 k2 k3 k4 k5 k6 k7
        refine lv_iinc (v := nI (6 * (t + 1))) (lv' := [(3, .int (nI (6 * (t + 1)))), (0, .ref b), (1, .ref (ad 0)), (2, .ref (ad 153))]) hx hb dl_1028 hl (k := 3) rfl (nI_add (6 * t) 6) (by decide) rfl (fun ls hl => ?_)
        refine lv_goto (tgt := 18) hx hb dl_1031 (by decide) ?_
        exact ih (t + 1) G H1 locs1 im1 w1 ks1 ls (by omega) (by omega) k5 (lv_sub hl [1, 2, 3, 0] rfl) k1 k2 k3 k4 (by omega) (by omega)
      have hH : lwH p s m #[Value.ref b] c D ad ct b L (6 * t) xs ls HA Hp locs im w ks := ⟨hx, hb, hml, hown, hts, hX, hbl, hL, hC, hl, by omega, hO, hM, ho, hB, by omega, by omega⟩
      refine lv_aload_n hx hb dl_27 rfl (lv_at hl 0 rfl) ?_
      refine lv_iload_n hx hb dl_28 rfl (lv_at hl 3 rfl) ?_
      refine va_sld hx hb hX hbl (Nat.not_le.mpr hbl) hC.2.2.2.2.1 (vp_in_nI (by omega) (by omega)) dl_29 ?_
      refine lv_bipush (v := 31) hx hb dl_30 (by decide) ?_
      refine lv_iand hx hb dl_32 ?_
      obtain ⟨v, hv, ev⟩ := a31 (xs (nI (6 * t)).toNatClampNeg)
      rw [ev]
      match v, hv with
      | 0, _ => exact lv_tableIn (off := 135) (tgt := 168) hx hb dl_33 (by decide) (by decide) (by decide) (by decide) (law_0 hH K)
      | 1, _ => exact lv_tableIn (off := 198) (tgt := 231) hx hb dl_33 (by decide) (by decide) (by decide) (by decide) (law_1 hH K)
      | 2, _ => exact lv_tableIn (off := 221) (tgt := 254) hx hb dl_33 (by decide) (by decide) (by decide) (by decide) (law_2 hH K)
      | 3, _ => exact lv_tableIn (off := 234) (tgt := 267) hx hb dl_33 (by decide) (by decide) (by decide) (by decide) (law_3 hH K)
      | 4, _ => exact lv_tableIn (off := 247) (tgt := 280) hx hb dl_33 (by decide) (by decide) (by decide) (by decide) (law_4 hH K)
      | 5, _ => exact lv_tableIn (off := 270) (tgt := 303) hx hb dl_33 (by decide) (by decide) (by decide) (by decide) (law_5 hH K)
      | 6, _ => exact lv_tableIn (off := 303) (tgt := 336) hx hb dl_33 (by decide) (by decide) (by decide) (by decide) (law_6 hH K)
      | 7, _ => exact lv_tableIn (off := 316) (tgt := 349) hx hb dl_33 (by decide) (by decide) (by decide) (by decide) (law_7 hH K)
      | 8, _ => exact lv_tableIn (off := 339) (tgt := 372) hx hb dl_33 (by decide) (by decide) (by decide) (by decide) (law_8 hH K)
      | 9, _ => exact lv_tableIn (off := 352) (tgt := 385) hx hb dl_33 (by decide) (by decide) (by decide) (by decide) (law_9 hH K)
      | 10, _ => exact lv_tableIn (off := 385) (tgt := 418) hx hb dl_33 (by decide) (by decide) (by decide) (by decide) (law_10 hH K)
      | 11, _ => exact lv_tableIn (off := 418) (tgt := 451) hx hb dl_33 (by decide) (by decide) (by decide) (by decide) (law_11 hH K)
      | 12, _ => exact lv_tableIn (off := 431) (tgt := 464) hx hb dl_33 (by decide) (by decide) (by decide) (by decide) (law_12 hH K)
      | 13, _ => exact lv_tableIn (off := 474) (tgt := 507) hx hb dl_33 (by decide) (by decide) (by decide) (by decide) (law_13 hH K)
      | 14, _ => exact lv_tableIn (off := 507) (tgt := 540) hx hb dl_33 (by decide) (by decide) (by decide) (by decide) (law_14 hH K)
      | 15, _ => exact lv_tableIn (off := 540) (tgt := 573) hx hb dl_33 (by decide) (by decide) (by decide) (by decide) (law_15 hH K)
      | 16, _ => exact lv_tableIn (off := 573) (tgt := 606) hx hb dl_33 (by decide) (by decide) (by decide) (by decide) (law_16 hH K)
      | 17, _ => exact lv_tableIn (off := 606) (tgt := 639) hx hb dl_33 (by decide) (by decide) (by decide) (by decide) (law_17 hH K)
      | 18, _ => exact lv_tableIn (off := 629) (tgt := 662) hx hb dl_33 (by decide) (by decide) (by decide) (by decide) (law_18 hH K)
      | 19, _ => exact lv_tableIn (off := 652) (tgt := 685) hx hb dl_33 (by decide) (by decide) (by decide) (by decide) (law_19 hH K)
      | 20, _ => exact lv_tableIn (off := 685) (tgt := 718) hx hb dl_33 (by decide) (by decide) (by decide) (by decide) (law_20 hH K)
      | 21, _ => exact lv_tableIn (off := 718) (tgt := 751) hx hb dl_33 (by decide) (by decide) (by decide) (by decide) (law_21 hH K)
      | 22, _ => exact lv_tableIn (off := 771) (tgt := 804) hx hb dl_33 (by decide) (by decide) (by decide) (by decide) (law_22 hH K)
      | 23, _ => exact lv_tableIn (off := 804) (tgt := 837) hx hb dl_33 (by decide) (by decide) (by decide) (by decide) (law_23 hH K)
      | 24, _ => exact lv_tableIn (off := 827) (tgt := 860) hx hb dl_33 (by decide) (by decide) (by decide) (by decide) (law_24 hH K)
      | 25, _ => exact lv_tableIn (off := 850) (tgt := 883) hx hb dl_33 (by decide) (by decide) (by decide) (by decide) (law_25 hH K)
      | 26, _ => exact lv_tableIn (off := 873) (tgt := 906) hx hb dl_33 (by decide) (by decide) (by decide) (by decide) (law_26 hH K)
      | 27, _ => exact lv_tableIn (off := 926) (tgt := 959) hx hb dl_33 (by decide) (by decide) (by decide) (by decide) (law_27 hH K)
      | 28, _ => exact lv_tableIn (off := 949) (tgt := 982) hx hb dl_33 (by decide) (by decide) (by decide) (by decide) (law_28 hH K)
      | 29, _ => exact lv_tableIn (off := 972) (tgt := 1005) hx hb dl_33 (by decide) (by decide) (by decide) (by decide) (law_29 hH K)
      | 30, _ => exact lv_tableOut (tgt := 1028) hx hb dl_33 (by decide) (by decide) (K im w HA Hp locs ks hO hM ho hB hC (by omega) (by omega))
      | 31, _ => exact lv_tableOut (tgt := 1028) hx hb dl_33 (by decide) (by decide) (K im w HA Hp locs ks hO hM ho hB hC (by omega) (by omega))
      | v + 32, hv => exact absurd hv (by omega)
end LWL
theorem t_law : Cond.classLink R_law 7 RX11 ∈ lw_tbl ∧ Cond.instantiable RX11 10 ∈ lw_tbl ∧ Cond.initialized RX11 ∈ lw_tbl ∧ Cond.methodLink R_law 9 (rm_y mX11_init) ∈ lw_tbl ∧ Cond.instanceMethod (rm_y mX11_init) ∈ lw_tbl := by decide +kernel
theorem t_law2 : Cond.classLink R_law 10 RX12 ∈ lw_tbl ∧ Cond.instantiable RX12 54 ∈ lw_tbl ∧ Cond.initialized RX12 ∈ lw_tbl ∧ Cond.methodLink R_law 12 (rm_y mX12_init) ∈ lw_tbl ∧ Cond.instanceMethod (rm_y mX12_init) ∈ lw_tbl := by decide +kernel
set_option maxRecDepth 100000 in
theorem whole_start {p : Program} {e : Env} {s : State} {m : MethodId} {below : List Frame} {meth : Method} {c : Code} (l : Launch) {b L : Nat} {xs : Nat → Int32} (hL : L ≤ 3072) (C0 : lw_At p s m meth c b L xs) : W p l e room_1 s m #[Value.ref b] below meth c s.heap [] 0 0 (lw_Z below #[Value.ref b] s) (entryFrame m ([Value.ref b] : List Value).toArray 4) := by
  obtain ⟨hx, hb, hr, hml, hown, hts, hX, hbl, hlocks, hgv⟩ := id C0
  obtain ⟨D, ct, hK⟩ := lw_K hts
  obtain ⟨ad, had, hE⟩ := lw_E hts hgv
  have hC : lwC D ad ct s [] s.heap [] := ⟨hK, hE, fun k q h => by simp [rm_cw] at h, ⟨fun i j p q h => by simp [rm_cw] at h, fun k q h => by simp [rm_cw] at h⟩, va_S.rf, had⟩
  have hl := lv_entry ([.ref b]) (n := 4) (Nat.le_of_ble_eq_true rfl)
  rw [lg_entry_eq]
  generalize (lg_sl ([.ref b]) ++ List.replicate (4 - (lg_sl ([.ref b])).length) Slot.unset).toArray = ls at hl ⊢
  have hl : lv_has ls 4 [(0, .ref b)] := hl
  refine lw_new (HA := []) (a := 11) (C := RX11) (T := TX11) (F := 10) hx hb hown hts hC rfl t_law.1 t_law.2.1 t_law.2.2.1 dl_0 (by decide) (by omega) (fun H1 hC1 => ?_)
  rw [dfl_11] at hC1 ⊢
  refine lv_dup hx hb dl_3 rfl ?_
  refine lw_init (X := mX11_init) (q := 0) (rest := [.ref (ad 0)]) hx hb hml hown hts hC1 hl.1 (c_X11i (k := 40) (by omega)) rfl rfl cw_X11_init (by show (1 + 0 : Nat) ≤ 8; omega) t_law.2.2.2.1 t_law.2.2.2.2 dl_4 (by decide) (by decide) (fun G H2 locs2 q1 q2 q3 hC2 => ?_)
  obtain ⟨-, g, g2, g3, rfl, hg, hg2, hg3⟩ := q1
  have hlen : (oN g g2 g3).length = 153 := oN_len
  refine lv_astore_n (lv' := [(1, .ref (ad 0)), (0, .ref b)]) hx hb dl_7 rfl hl (by decide) rfl (fun ls hl => ?_)
  refine W.cs (cells' := (oN g g2 g3).length) (by rw [hlen]; rfl) rfl ?_
  refine lw_new (HA := oN g g2 g3) (a := 12) (C := RX12) (T := TX12) (F := 54) hx hb hown hts hC2 rfl t_law2.1 t_law2.2.1 t_law2.2.2.1 dl_8 (by rw [hlen]; decide) (by decide) (fun H3 hC3 => ?_)
  rw [hlen]
  refine lv_dup hx hb dl_11 rfl ?_
  refine lw_init (X := mX12_init) (q := 153) (rest := [.ref (ad 153)]) hx hb hml hown hts hC3 hl.1 (n_X12i (k := 40) (by omega) hlen) rfl rfl cw_X12_init (by show (1 + 0 : Nat) ≤ 8; omega) t_law2.2.2.2.1 t_law2.2.2.2.2 dl_12 (by rw [List.length_append, hlen]; decide) (by decide) (fun G H4 locs4 q1 q2 q3 hC4 => ?_)
  obtain ⟨-, rfl⟩ := q1
  refine lv_astore_n (lv' := [(2, .ref (ad 153)), (1, .ref (ad 0)), (0, .ref b)]) hx hb dl_15 rfl hl (by decide) rfl (fun ls hl => ?_)
  refine lv_iconst (v := 0) hx hb dl_16 (by decide) ?_
  refine lv_istore_n (lv' := [(3, .int 0), (2, .ref (ad 153)), (1, .ref (ad 0)), (0, .ref b)]) hx hb dl_17 rfl hl (by decide) rfl (fun ls hl => ?_)
  have hlz : (hZ (oN g g2 g3) 35 13).length = 189 := hZ_len hlen (by omega)
  have hO : isO imS (hZ (oN g g2 g3) 35 13) wZ := by
    unfold hZ
    exact isO_Z (by rw [List.length_cons, List.length_take, arT_len]; omega) hg hg2 hg3
  refine W.cs (cells' := (hZ (oN g g2 g3) 35 13).length) (by rw [hlz, List.length_append, hlen]; rfl) rfl ?_
  exact law_loop hL C0 L 0 _ _ _ imS wZ _ ls (by omega) (by omega) hC4 (lv_sub hl [3, 2, 1, 0] rfl) hO (isM_Z hlen) kW_Z bOK_Z (by rw [hlz]; omega) (by decide)
