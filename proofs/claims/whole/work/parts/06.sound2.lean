/-! Soundness of the steps: fields, arrays, new cells -/
section RMS2
variable {M : rm_M} {k : Nat} {Q : Option Value → rm_H → Prop} {n0 pc : Nat} {N : rm_K} {J : Nat → rm_K} {L : rm_L} {st : List Value} {H : rm_H} {c s : Nat}
theorem rm_clT0 : ∀ w ∈ u_ws RX0 TX0 5, w ∈ rm_T := by decide +kernel
theorem rm_clT1 : ∀ w ∈ u_ws RX1 TX1 3, w ∈ rm_T := by decide +kernel
theorem rm_clT2 : ∀ w ∈ u_ws RX2 TX2 3, w ∈ rm_T := by decide +kernel
theorem rm_clT3 : ∀ w ∈ u_ws RX3 TX3 9, w ∈ rm_T := by decide +kernel
theorem rm_clT4 : ∀ w ∈ u_ws RX4 TX4 5, w ∈ rm_T := by decide +kernel
theorem rm_clT5 : ∀ w ∈ u_ws RX5 TX5 1, w ∈ rm_T := by decide +kernel
theorem rm_clT6 : ∀ w ∈ u_ws RX6 TX6 3, w ∈ rm_T := by decide +kernel
theorem rm_clT7 : ∀ w ∈ u_ws RX7 TX7 13, w ∈ rm_T := by decide +kernel
theorem rm_clT8 : ∀ w ∈ u_ws RX8 TX8 8, w ∈ rm_T := by decide +kernel
theorem rm_clT9 : ∀ w ∈ u_ws RX9 TX9 4, w ∈ rm_T := by decide +kernel
theorem rm_clT10 : ∀ w ∈ u_ws RX10 TX10 5, w ∈ rm_T := by decide +kernel
theorem rm_clT11 : ∀ w ∈ u_ws RX11 TX11 10, w ∈ rm_T := by decide +kernel
theorem rm_clT12 : ∀ w ∈ u_ws RX12 TX12 54, w ∈ rm_T := by decide +kernel
/-- what every kind of object has: its words, its fields' types, its fields' names apart -/
def rm_okc (q : vw_C) : Prop := (∀ w ∈ u_ws q.1 q.2.1 q.2.2, w ∈ rm_T) ∧ (∀ k, k < q.2.2 → parseFieldDescriptor (q.2.1 k).2.2.1 = some ((parseFieldDescriptor (q.2.1 k).2.2.1).getD .int)) ∧ (∀ a, a < q.2.2 → ∀ b, b < q.2.2 → a ≠ b → (q.2.1 a).2.1 ≠ (q.2.1 b).2.1)
theorem rm_clok : ∀ (ci : Nat) (q : vw_C), rm_cl[ci]? = some q → rm_okc q := by
  intro ci q h
  have h1 := List.mem_of_getElem? h
  have e : ∀ {T : u_T} {N : Nat} {ty : Nat → FieldType}, (∀ k, k < N → parseFieldDescriptor (T k).2.2.1 = some (ty k)) → ∀ k, k < N → parseFieldDescriptor (T k).2.2.1 = some ((parseFieldDescriptor (T k).2.2.1).getD .int) := fun hh k hk => by rw [hh k hk]; rfl
  simp only [rm_cl, List.mem_cons, List.not_mem_nil, or_false] at h1
  rcases h1 with rfl | rfl | rfl | rfl | rfl | rfl | rfl | rfl | rfl | rfl | rfl | rfl | rfl
  · exact ⟨rm_clT0, e tyX0_ok, nmX0⟩
  · exact ⟨rm_clT1, e tyX1_ok, nmX1⟩
  · exact ⟨rm_clT2, e tyX2_ok, nmX2⟩
  · exact ⟨rm_clT3, e tyX3_ok, nmX3⟩
  · exact ⟨rm_clT4, e tyX4_ok, nmX4⟩
  · exact ⟨rm_clT5, e tyX5_ok, nmX5⟩
  · exact ⟨rm_clT6, e tyX6_ok, nmX6⟩
  · exact ⟨rm_clT7, e tyX7_ok, nmX7⟩
  · exact ⟨rm_clT8, e tyX8_ok, nmX8⟩
  · exact ⟨rm_clT9, e tyX9_ok, nmX9⟩
  · exact ⟨rm_clT10, e tyX10_ok, nmX10⟩
  · exact ⟨rm_clT11, e tyX11_ok, nmX11⟩
  · exact ⟨rm_clT12, e tyX12_ok, nmX12⟩
theorem rm_C.hts {p : Program} {S : State} {m : MethodId} {args : Array Value} {meth : Method} {cd : Code} {D : va_G} {ad : Nat → Nat} {ct : Nat → ClassId} {A : Nat → Prop} {sz : Nat} {Hp : Heap} {locs : List Loc} (h : rm_C M n0 p S m args meth cd D ad ct A sz H c s Hp locs) : ∀ w ∈ rm_ws M, w.before args S = true := h.1.2.2.2.2.2.1
theorem rm_C.wd {p : Program} {S : State} {m : MethodId} {args : Array Value} {meth : Method} {cd : Code} {D : va_G} {ad : Nat → Nat} {ct : Nat → ClassId} {A : Nat → Prop} {sz : Nat} {Hp : Heap} {locs : List Loc} (h : rm_C M n0 p S m args meth cd D ad ct A sz H c s Hp locs) {w : Cond} (hw : w ∈ rm_T) : w.before args S = true := h.hts _ (List.mem_cons_of_mem _ hw)
theorem rm_C.own {p : Program} {S : State} {m : MethodId} {args : Array Value} {meth : Method} {cd : Code} {D : va_G} {ad : Nat → Nat} {ct : Nat → ClassId} {A : Nat → Prop} {sz : Nat} {Hp : Heap} {locs : List Loc} (h : rm_C M n0 p S m args meth cd D ad ct A sz H c s Hp locs) : S.vm.findClass (rm_y M).cls = some m.cls := h.1.2.2.2.2.1
/-- a cell was written -/
theorem rm_C.upd {p : Program} {S : State} {m : MethodId} {args : Array Value} {meth : Method} {cd : Code} {D : va_G} {ad : Nat → Nat} {ct : Nat → ClassId} {A : Nat → Prop} {sz : Nat} {Hp H1 : Heap} {locs locs1 : List Loc} {q : Nat} {e : va_E} {w : Nat × va_E} (h : rm_C M n0 p S m args meth cd D ad ct A sz H c s Hp locs) (hw : w = (ad q, rm_ce ad ct e))
    (hP : va_P D rm_cl ((rm_cw ad ct H).set q w) H1) (hD : va_D A ((rm_cw ad ct H).set q w)) (hS : va_S A S.heap H1 locs1) : rm_C M n0 p S m args meth cd D ad ct A sz (H.set q e) c s H1 locs1 := by
  subst hw
  obtain ⟨h1, h2, h3, h4, h5, h6, -, -, -, h7, h8, h9, h10⟩ := h
  refine ⟨h1, h2, h3, h4, h5, h6, ?_, ?_, hS, ?_, h8, h9, h10⟩
  · rw [rm_cw_set]; exact hP
  · rw [rm_cw_set]; exact hD
  · rw [List.length_set]; exact h7

theorem rm_s_getfield {index a b : Nat} {C : String} {T : u_T} {F : Nat} (hd : decode (rm_cc M) pc = .ok (.getfield index, 3)) (hc : rm_cl[a]? = some (C, T, F)) (hb : b < F) (hw : Cond.fieldLink (rm_y M).cls index (T b).1 (T b).2.1 (T b).2.2.1 ∈ rm_T) (hN : ∀ L st H c s, N L st H c s → rm_S M k Q n0 (pc + 3) L st H c s)
    (h : rm_1r st fun q r => rm_ob H q fun ci fs => ci = a ∧ match fs[b]? with | some x => N L (x :: r) H c s | none => False) : rm_S M k Q n0 pc L st H c s := by
  have h_ := rm_1r_e h
  clear h
  obtain ⟨q, r, rfl, h⟩ := h_
  have h_ := rm_ob_e h
  clear h
  obtain ⟨ci, fs, hq, rfl, h⟩ := h_
  split at h
  · rename_i x heq
    intro p l e S m args below meth cd D ad ct A sz Hp locs ls hC hL
    have hok := rm_clok _ _ hc
    refine va_get (D := D) (cl := rm_cl) (ws := rm_cw ad ct H) (tys := rm_tys ct) (ref := (T b).1) (fs := fs.map (rm_cv ad)) (v := rm_cv ad x) hC.1.1 hC.1.2.1 hC.hts (fun w hw => List.mem_cons_of_mem _ (hok.1 w hw)) hC.own hC.2.1 hC.2.2.2.2.2.2.1 q (rm_cw_at hq) hc b hb (hC.wd hw) (fun _ h => h) ?_ hd (hN _ _ _ _ _ h p l e S m args below meth cd D ad ct A sz Hp locs ls hC hL)
    rw [List.getElem?_map, heq]; rfl
  · exact h.elim
theorem rm_fit_ok {ad : Nat → Nat} {ty : FieldType} {v : Value} (h : rm_fit (rm_tyk ty) v) : narrow ty (rm_cv ad v) = rm_cv ad v ∧ fits ty (rm_cv ad v) = true := by
  cases ty <;> cases v <;> simp only [rm_tyk, rm_fit] at h <;> first
    | exact ⟨rfl, rfl⟩
    | (rcases h with rfl | rfl; exact ⟨congrArg Value.int (by decide : (0 : Int32) &&& 1 = 0), (by decide : ((0 : Int32) == 0 || (0 : Int32) == 1) = true)⟩; exact ⟨congrArg Value.int (by decide : (1 : Int32) &&& 1 = 1), (by decide : ((1 : Int32) == 0 || (1 : Int32) == 1) = true)⟩)
    | exact h.elim
theorem rm_s_putfield {index a b : Nat} {C : String} {T : u_T} {F : Nat} {z : Int32} {ty : FieldType} (hd : decode (rm_cc M) pc = .ok (.putfield index, 3)) (hc : rm_cl[a]? = some (C, T, F)) (hb : b < F) (hw : Cond.fieldLink (rm_y M).cls index (T b).1 (T b).2.1 (T b).2.2.1 ∈ rm_T)
    (hty : parseFieldDescriptor (T b).2.2.1 = some ty) (hz : z.toNatClampNeg = rm_tyk ty) (hfin : (T b).2.2.2 = false ∨ ((T b).2.2.2 = true ∧ (rm_y M).name = "<init>" ∧ (T b).1 = (rm_y M).cls)) (hN : ∀ L st H c s, N L st H c s → rm_S M k Q n0 (pc + 3) L st H c s)
    (h : rm_xr st fun x q r => rm_ob H q fun ci fs => ci = a ∧ b < fs.length ∧ rm_fit (match Value.int z with | .int z => z.toNatClampNeg | _ => 9) x ∧ N L r (H.set q (.inr (a, fs.set b x))) c s) : rm_S M k Q n0 pc L st H c s := by
  obtain ⟨x, q, r, rfl, hh⟩ := rm_xr_e h
  clear h
  have h := hh
  clear hh
  · skip
    have h_ := rm_ob_e h
    clear h
    obtain ⟨ci, fs, hq, rfl, hl, hft, h⟩ := h_
    dsimp only at hft
    rw [hz] at hft
    intro p l e S m args below meth cd D ad ct A sz Hp locs ls hC hL
    have hok := rm_clok _ _ hc
    have hf := rm_fit_ok (ad := ad) hft
    rcases hfin with hfin | ⟨hfin, hnm, hdc⟩
    · refine va_put (D := D) (cl := rm_cl) (ws := rm_cw ad ct H) (tys := rm_tys ct) (ref := (T b).1) (fs := fs.map (rm_cv ad)) (v := rm_cv ad x) (ty := ty) hC.1.1 hC.1.2.1 hC.hts (fun w hw => List.mem_cons_of_mem _ (hok.1 w hw)) _ hok.2.1 hok.2.2 hC.own hC.2.1 hC.2.2.2.2.2.2.1 hC.2.2.2.2.2.2.2.1 hC.2.2.2.2.2.2.2.2.1 q (rm_cw_at hq) hc b hb (hC.wd hw) (fun _ h => h) hfin hty hf.1 hf.2 (by rw [List.length_map]; exact hl) hd (fun H1 locs1 hP1 hD1 hS1 => ?_)
      exact hN _ _ _ _ _ h p l e S m args below meth cd D ad ct A sz H1 locs1 ls (hC.upd (by simp [rm_ce, List.map_set]) hP1 hD1 hS1) hL
    · refine va_putF (D := D) (cl := rm_cl) (ws := rm_cw ad ct H) (tys := rm_tys ct) (ref := (T b).1) (fs := fs.map (rm_cv ad)) (v := rm_cv ad x) (ty := ty) hC.1.1 hC.1.2.1 hC.hts (fun w hw => List.mem_cons_of_mem _ (hok.1 w hw)) _ hok.2.1 hok.2.2 hC.own hC.2.1 hC.2.2.2.2.2.2.1 hC.2.2.2.2.2.2.2.1 hC.2.2.2.2.2.2.2.2.1 q (rm_cw_at hq) hc b hb (hC.wd hw) (fun _ h => h) hfin (hC.1.2.2.2.2.2.2.2.trans hnm) hdc hty hf.1 hf.2 (by rw [List.length_map]; exact hl) hd (fun H1 locs1 hP1 hD1 hS1 => ?_)
      exact hN _ _ _ _ _ h p l e S m args below meth cd D ad ct A sz H1 locs1 ls (hC.upd (by simp [rm_ce, List.map_set]) hP1 hD1 hS1) hL
theorem rm_s_alen (hd : decode (rm_cc M) pc = .ok (.arraylength, 1)) (hN : ∀ L st H c s, N L st H c s → rm_S M k Q n0 (pc + 1) L st H c s)
    (h : rm_1r st fun q r => match H[q]? with | some (.inl (t, n, _)) => t < 7 ∧ N L (.int (Int32.ofNat n) :: r) H c s | _ => False) : rm_S M k Q n0 pc L st H c s := by
  have h_ := rm_1r_e h
  clear h
  obtain ⟨q, r, rfl, h⟩ := h_
  split at h
  · rename_i t n x heq
    obtain ⟨ht, h⟩ := h
    intro p l e S m args below meth cd D ad ct A sz Hp locs ls hC hL
    have hy : ∃ ty, rm_tyc[t]? = some ty := ⟨_, List.getElem?_eq_getElem (show t < rm_tyc.length from ht)⟩
    obtain ⟨ty, hy⟩ := hy
    have hx : ∃ y : vp_A, y.1 = n ∧ rm_ce ad ct (.inl (t, n, x)) = .inl (ct t, y) := by
      rcases x with f | f | f | f | f <;> exact ⟨(n, _), rfl, rfl⟩
    obtain ⟨y, hy1, hy2⟩ := hx
    have h1 := rm_cw_at (ad := ad) (ct := ct) heq
    rw [hy2] at h1
    exact va_alen hC.1.1 hC.1.2.1 hC.2.1 hC.2.2.2.2.2.2.1 q t h1 (rm_tys_at hy) (by rw [hy1]) hd (hN _ _ _ _ _ h p l e S m args below meth cd D ad ct A sz Hp locs ls hC hL)
  · exact h.elim

theorem rm_s_iaload (hd : decode (rm_cc M) pc = .ok (.iaload, 1)) (hN : ∀ L st H c s, N L st H c s → rm_S M k Q n0 (pc + 1) L st H c s) (h : rm_ri st fun q i r => rm_ar H q fun t n g => t = 0 ∧ vp_in i n ∧ N L (.int (g i.toNatClampNeg) :: r) H c s) : rm_S M k Q n0 pc L st H c s := by
  have h_ := rm_ri_e h
  clear h
  obtain ⟨q, i, r, rfl, h⟩ := h_
  have h_ := rm_ar_e h
  clear h
  obtain ⟨t, n, g, hq, rfl, hi, h⟩ := h_
  intro p l e S m args below meth cd D ad ct A sz Hp locs ls hC hL
  exact va_iald hC.1.1 hC.1.2.1 hC.2.1 hC.2.2.2.2.2.2.1 q 0 (rm_cw_at hq) (rm_tys_at rfl) hi hd (hN _ _ _ _ _ h p l e S m args below meth cd D ad ct A sz Hp locs ls hC hL)
theorem rm_s_laload (hd : decode (rm_cc M) pc = .ok (.laload, 1)) (hN : ∀ L st H c s, N L st H c s → rm_S M k Q n0 (pc + 1) L st H c s) (h : rm_ri st fun q i r => rm_al' H q fun t n g => t = 2 ∧ vp_in i n ∧ N L (.long (g i.toNatClampNeg) :: r) H c s) : rm_S M k Q n0 pc L st H c s := by
  have h_ := rm_ri_e h
  clear h
  obtain ⟨q, i, r, rfl, h⟩ := h_
  have h_ := rm_al_e h
  clear h
  obtain ⟨t, n, g, hq, rfl, hi, h⟩ := h_
  intro p l e S m args below meth cd D ad ct A sz Hp locs ls hC hL
  exact va_lald hC.1.1 hC.1.2.1 hC.2.1 hC.2.2.2.2.2.2.1 q 2 (rm_cw_at hq) (rm_tys_at rfl) hi hd (hN _ _ _ _ _ h p l e S m args below meth cd D ad ct A sz Hp locs ls hC hL)
theorem rm_s_baload (hd : decode (rm_cc M) pc = .ok (.baload, 1)) (hN : ∀ L st H c s, N L st H c s → rm_S M k Q n0 (pc + 1) L st H c s) (h : rm_ri st fun q i r => rm_ar H q fun t n g => (t = 1 ∨ t = 3) ∧ vp_in i n ∧ N L (.int (g i.toNatClampNeg) :: r) H c s) : rm_S M k Q n0 pc L st H c s := by
  have h_ := rm_ri_e h
  clear h
  obtain ⟨q, i, r, rfl, h⟩ := h_
  have h_ := rm_ar_e h
  clear h
  obtain ⟨t, n, g, hq, ht, hi, h⟩ := h_
  intro p l e S m args below meth cd D ad ct A sz Hp locs ls hC hL
  rcases ht with rfl | rfl
  · exact va_bald hC.1.1 hC.1.2.1 hC.2.1 hC.2.2.2.2.2.2.1 q 1 (rm_cw_at hq) (rm_tys_at rfl) hi hd (hN _ _ _ _ _ h p l e S m args below meth cd D ad ct A sz Hp locs ls hC hL)
  · exact va_zald hC.1.1 hC.1.2.1 hC.2.1 hC.2.2.2.2.2.2.1 q 3 (rm_cw_at hq) (rm_tys_at rfl) hi hd (hN _ _ _ _ _ h p l e S m args below meth cd D ad ct A sz Hp locs ls hC hL)
theorem rm_tyq {t : Nat} (h : 4 ≤ t ∧ t < 7) : ∃ C, rm_tyc[t]? = some (.object C) := by
  rcases (show t = 4 ∨ t = 5 ∨ t = 6 by omega) with rfl | rfl | rfl <;> exact ⟨_, rfl⟩
theorem rm_rf_map (ad : Nat → Nat) (o : Option Nat) : va_rf (o.map ad) = rm_cv ad (va_rf o) := by cases o <;> rfl
theorem rm_s_aaload (hd : decode (rm_cc M) pc = .ok (.aaload, 1)) (hN : ∀ L st H c s, N L st H c s → rm_S M k Q n0 (pc + 1) L st H c s) (h : rm_ri st fun q i r => rm_aq H q fun t n g => (4 ≤ t ∧ t < 7) ∧ vp_in i n ∧ N L (va_rf (g i.toNatClampNeg) :: r) H c s) : rm_S M k Q n0 pc L st H c s := by
  have h_ := rm_ri_e h
  clear h
  obtain ⟨q, i, r, rfl, h⟩ := h_
  have h_ := rm_aq_e h
  clear h
  obtain ⟨t, n, g, hq, ht, hi, h⟩ := h_
  obtain ⟨C, hC0⟩ := rm_tyq ht
  intro p l e S m args below meth cd D ad ct A sz Hp locs ls hC hL
  refine va_aldq (f := fun j => (g j).map ad) hC.1.1 hC.1.2.1 hC.2.1 hC.2.2.2.2.2.2.1 q t (rm_cw_at hq) (rm_tys_at hC0) hi hd ?_
  rw [rm_rf_map]
  exact hN _ _ _ _ _ h p l e S m args below meth cd D ad ct A sz Hp locs ls hC hL
theorem rm_s_iastore (hd : decode (rm_cc M) pc = .ok (.iastore, 1)) (hN : ∀ L st H c s, N L st H c s → rm_S M k Q n0 (pc + 1) L st H c s) (h : rm_rii st fun q i x r => rm_ar H q fun t n g => t = 0 ∧ vp_in i n ∧ N L r (H.set q (.inl (0, n, .inl (upd g i.toNatClampNeg x)))) c s) : rm_S M k Q n0 pc L st H c s := by
  have h_ := rm_rii_e h
  clear h
  obtain ⟨q, i, x, r, rfl, h⟩ := h_
  have h_ := rm_ar_e h
  clear h
  obtain ⟨t, n, g, hq, rfl, hi, h⟩ := h_
  intro p l e S m args below meth cd D ad ct A sz Hp locs ls hC hL
  refine va_iast hC.1.1 hC.1.2.1 hC.2.1 hC.2.2.2.2.2.2.1 hC.2.2.2.2.2.2.2.1 hC.2.2.2.2.2.2.2.2.1 q 0 (rm_cw_at hq) (rm_tys_at rfl) hi hd (fun H1 locs1 hP1 hD1 hS1 => ?_)
  exact hN _ _ _ _ _ h p l e S m args below meth cd D ad ct A sz H1 locs1 ls (hC.upd rfl hP1 hD1 hS1) hL
theorem rm_s_lastore (hd : decode (rm_cc M) pc = .ok (.lastore, 1)) (hN : ∀ L st H c s, N L st H c s → rm_S M k Q n0 (pc + 1) L st H c s) (h : rm_ril st fun q i x r => rm_al' H q fun t n g => t = 2 ∧ vp_in i n ∧ N L r (H.set q (.inl (2, n, .inr (.inl (vp_updL g i.toNatClampNeg x))))) c s) : rm_S M k Q n0 pc L st H c s := by
  have h_ := rm_ril_e h
  clear h
  obtain ⟨q, i, x, r, rfl, h⟩ := h_
  have h_ := rm_al_e h
  clear h
  obtain ⟨t, n, g, hq, rfl, hi, h⟩ := h_
  intro p l e S m args below meth cd D ad ct A sz Hp locs ls hC hL
  refine va_last hC.1.1 hC.1.2.1 hC.2.1 hC.2.2.2.2.2.2.1 hC.2.2.2.2.2.2.2.1 hC.2.2.2.2.2.2.2.2.1 q 2 (rm_cw_at hq) (rm_tys_at rfl) hi hd (fun H1 locs1 hP1 hD1 hS1 => ?_)
  exact hN _ _ _ _ _ h p l e S m args below meth cd D ad ct A sz H1 locs1 ls (hC.upd rfl hP1 hD1 hS1) hL
theorem rm_s_bastore (hd : decode (rm_cc M) pc = .ok (.bastore, 1)) (hN : ∀ L st H c s, N L st H c s → rm_S M k Q n0 (pc + 1) L st H c s) (h : rm_rii st fun q i x r => rm_ar H q fun t n g => vp_in i n ∧ ((t = 1 ∧ N L r (H.set q (.inl (1, n, .inl (upd g i.toNatClampNeg (vp_nar .byte x))))) c s) ∨ (t = 3 ∧ N L r (H.set q (.inl (3, n, .inl (upd g i.toNatClampNeg (vp_nar .boolean x))))) c s))) : rm_S M k Q n0 pc L st H c s := by
  have h_ := rm_rii_e h
  clear h
  obtain ⟨q, i, x, r, rfl, h⟩ := h_
  have h_ := rm_ar_e h
  clear h
  obtain ⟨t, n, g, hq, hi, h⟩ := h_
  intro p l e S m args below meth cd D ad ct A sz Hp locs ls hC hL
  rcases h with ⟨rfl, h⟩ | ⟨rfl, h⟩
  · refine va_bast hC.1.1 hC.1.2.1 hC.2.1 hC.2.2.2.2.2.2.1 hC.2.2.2.2.2.2.2.1 hC.2.2.2.2.2.2.2.2.1 q 1 (rm_cw_at hq) (rm_tys_at rfl) hi hd (fun H1 locs1 hP1 hD1 hS1 => ?_)
    exact hN _ _ _ _ _ h p l e S m args below meth cd D ad ct A sz H1 locs1 ls (hC.upd rfl hP1 hD1 hS1) hL
  · refine va_zast hC.1.1 hC.1.2.1 hC.2.1 hC.2.2.2.2.2.2.1 hC.2.2.2.2.2.2.2.1 hC.2.2.2.2.2.2.2.2.1 q 3 (rm_cw_at hq) (rm_tys_at rfl) hi hd (fun H1 locs1 hP1 hD1 hS1 => ?_)
    exact hN _ _ _ _ _ h p l e S m args below meth cd D ad ct A sz H1 locs1 ls (hC.upd rfl hP1 hD1 hS1) hL
theorem rm_up_map (ad : Nat → Nat) (g : Nat → Option Nat) (i x : Nat) : (fun j => (va_up g i (some x) j).map ad) = va_up (fun j => (g j).map ad) i (some (ad x)) := by
  funext j
  by_cases h : j = i <;> simp [va_up, h]
theorem rm_s_aastore (hd : decode (rm_cc M) pc = .ok (.aastore, 1)) (hN : ∀ L st H c s, N L st H c s → rm_S M k Q n0 (pc + 1) L st H c s) (h : rm_rir st fun q i x r => rm_aq H q fun t n g => vp_in i n ∧ rm_ob H x fun ci _ => (match rm_cl[ci]? with | some z => rm_tyc[t]? = some (.object z.1) | none => False) ∧ N L r (H.set q (.inl (t, n, .inr (.inr (.inr (.inr (va_up g i.toNatClampNeg (some x)))))))) c s) : rm_S M k Q n0 pc L st H c s := by
  have h_ := rm_rir_e h
  clear h
  obtain ⟨q, i, x, r, rfl, h⟩ := h_
  have h_ := rm_aq_e h
  clear h
  obtain ⟨t, n, g, hq, hi, h⟩ := h_
  have h_ := rm_ob_e h
  clear h
  obtain ⟨ci, fs, hx, hz, h⟩ := h_
  split at hz
  · rename_i z heq
    intro p l e S m args below meth cd D ad ct A sz Hp locs ls hC hL
    refine va_astq (f := fun j => (g j).map ad) (r := z) hC.1.1 hC.1.2.1 hC.2.1 hC.2.2.2.2.2.2.1 hC.2.2.2.2.2.2.2.1 hC.2.2.2.2.2.2.2.2.1 q t x ci (rm_cw_at hq) (rm_tys_at hz) (rm_cw_at hx) heq hi hd (fun H1 locs1 hP1 hD1 hS1 => ?_)
    exact hN _ _ _ _ _ h p l e S m args below meth cd D ad ct A sz H1 locs1 ls (hC.upd (by rw [← rm_up_map]; rfl) hP1 hD1 hS1) hL
  · exact hz.elim
/-- no more cells than counted -/
theorem rm_sz {p : Program} {l : Launch} {e : Env} {R : Room} {S : State} {m : MethodId} {args : Array Value} {below : List Frame} {meth : Method} {cd : Code} {Hp : Heap} {locs : List Loc} {cells slots : Nat} {Z : State → Prop} {g : JFrame} (h : Hp.size ≤ S.heap.size + cells → W p l e R S m args below meth cd Hp locs cells slots Z g) : W p l e R S m args below meth cd Hp locs cells slots Z g := by
  intro T hT X
  have h1 := X.same.2.2.1
  have h2 : (T.setVm S.vm).heap = T.heap := rfl
  rw [h2, hT] at h1
  exact h h1 T hT X
/-- the cell that comes is the next one -/
theorem rm_next {ad : Nat → Nat} {ct : Nat → ClassId} {A : Nat → Prop} {sz q mc : Nat} {e : va_E} (hA : ∀ q, A q → sz ≤ q ∨ ∃ i, i < n0 ∧ q = ad i) (hn : n0 ≤ H.length) (had : ∀ j, j < mc → ad (n0 + j) = sz + j) (hD : va_D A (rm_cw ad ct H ++ [(q, e)])) (hx : H.length + c = n0 + mc) (hc : 1 ≤ c) (hq : q < sz + (mc - c + 1)) : q = ad H.length := by
  have hl : (rm_cw ad ct H ++ [(q, e)])[H.length]? = some (q, e) := by
    rw [List.getElem?_append_right (by rw [rm_cw_len]; exact Nat.le_refl _), rm_cw_len, Nat.sub_self]; rfl
  have hg : ∀ i, i < H.length → ∃ e', (rm_cw ad ct H ++ [(q, e)])[i]? = some (ad i, e') := fun i hi => by
    rw [List.getElem?_append_left (by rw [rm_cw_len]; exact hi)]
    exact ⟨_, rm_cw_at (List.getElem?_eq_getElem hi)⟩
  have hne : ∀ i, i < H.length → q ≠ ad i := fun i hi hqi => by
    obtain ⟨e', he'⟩ := hg i hi
    have := hD.1 i H.length _ _ he' hl hqi.symm
    omega
  rcases hA q (hD.2 _ _ hl) with h | ⟨i, hi, hqi⟩
  · by_cases hj : q - sz < H.length - n0
    · have h1 := had (q - sz) (by omega)
      exact absurd (by rw [h1]; omega) (hne (n0 + (q - sz)) (by omega))
    · have h1 := had (H.length - n0) (by omega)
      rw [show n0 + (H.length - n0) = H.length by omega] at h1
      rw [h1]; omega
  · exact absurd hqi (hne i (by omega))

theorem rm_C.push {p : Program} {S : State} {m : MethodId} {args : Array Value} {meth : Method} {cd : Code} {D : va_G} {ad : Nat → Nat} {ct : Nat → ClassId} {A : Nat → Prop} {sz : Nat} {Hp H1 : Heap} {locs locs1 : List Loc} {e : va_E} {c1 s1 : Nat} (h : rm_C M n0 p S m args meth cd D ad ct A sz H c s Hp locs) (h1 : c1 ≤ c) (h2 : s1 ≤ s)
    (hP : va_P D rm_cl (rm_cw ad ct H ++ [(ad H.length, rm_ce ad ct e)]) H1) (hD : va_D A (rm_cw ad ct H ++ [(ad H.length, rm_ce ad ct e)])) (hS : va_S A S.heap H1 locs1) : rm_C M n0 p S m args meth cd D ad ct A sz (H ++ [e]) c1 s1 H1 locs1 := by
  obtain ⟨g1, g2, g3, g4, g5, g6, -, -, -, g7, g8, g9, g10⟩ := h
  refine ⟨g1, g2, g3, g4, g5, g6, ?_, ?_, hS, ?_, g8, Nat.le_trans h1 g9, Nat.le_trans h2 g10⟩
  · rw [rm_cw_push]; exact hP
  · rw [rm_cw_push]; exact hD
  · rw [List.length_append]; omega
theorem rm_dfl_cv (ad : Nat → Nat) (ci : Nat) : (rm_dfl ci).map (rm_cv ad) = rm_dfl ci := by
  unfold rm_dfl
  split
  · rw [List.map_map]
    congr 1
    funext x
    show rm_cv ad (defaultValue _) = defaultValue _
    generalize (parseFieldDescriptor _).getD FieldType.int = ty
    cases ty <;> rfl
  · rfl
theorem rm_s_new {index a : Nat} {C : String} {T : u_T} {F : Nat} (hd : decode (rm_cc M) pc = .ok (.new index, 3)) (hc : rm_cl[a]? = some (C, T, F)) (hw : Cond.classLink (rm_y M).cls index C ∈ rm_T) (hw2 : Cond.instantiable C F ∈ rm_T) (hw3 : Cond.initialized C ∈ rm_T) (hN : ∀ L st H c s, N L st H c s → rm_S M k Q n0 (pc + 3) L st H c s)
    (h : H.length + c = n0 + rm_mc M ∧ 1 ≤ c ∧ (rm_dfl a).length ≤ s ∧ N L (.ref H.length :: st) (H ++ [.inr (a, rm_dfl a)]) (c - 1) (s - (rm_dfl a).length)) : rm_S M k Q n0 pc L st H c s := by
  obtain ⟨hx, h1, h2, h⟩ := h
  intro p l e S m args below meth cd D ad ct A sz Hp locs ls hC hL
  have hok := rm_clok _ _ hc
  have hF : (rm_dfl a).length = F := by simp [rm_dfl, hc]
  have hcm := hC.2.2.2.2.2.2.2.2.2.2.2.1
  have hsm := hC.2.2.2.2.2.2.2.2.2.2.2.2
  refine va_new (ws := rm_cw ad ct H) (ci := a) (fs := rm_dfl a) (C := C) (T := T) (N := F) hC.1.1 hC.1.2.1 hC.hts (fun w hw => List.mem_cons_of_mem _ (hok.1 w hw)) _ hok.2.1 hC.own (hC.wd hw) (hC.wd hw2) (hC.wd hw3) hC.2.1 hC.2.2.2.2.2.2.1 hC.2.2.2.2.2.2.2.1 hC.2.2.2.2.2.2.2.2.1 hC.2.2.2.1 hc (fun j hj => ?_) (by show rm_mc M - c + 1 ≤ rm_mc M; omega) (by show rm_ms M - s + F ≤ rm_ms M; omega) hd (fun q H1 hP1 hD1 hS1 => ?_)
  · simp [vp_V, rm_dfl, hc, hj]
  · refine rm_sz (fun hz => ?_)
    have hlt : q < H1.size := (hP1 H.length (q, .inr (a, rm_dfl a)) (by rw [List.getElem?_append_right (by rw [rm_cw_len]; exact Nat.le_refl _), rm_cw_len, Nat.sub_self]; rfl)).lt
    have hsz := hC.2.2.2.2.2.1
    have hq := rm_next hC.2.2.2.2.1 hC.2.2.2.2.2.2.2.2.2.1 hC.2.2.2.2.2.2.2.2.2.2.1 hD1 hx h1 (by omega)
    subst hq
    have he : rm_ce ad ct (.inr (a, rm_dfl a)) = .inr (a, rm_dfl a) := by simp [rm_ce, rm_dfl_cv]
    refine W.cs (by omega) (by omega) (hN _ _ _ _ _ h p l e S m args below meth cd D ad ct A sz H1 locs ls (hC.push (by omega) (by omega) (by rw [he]; exact hP1) (by rw [he]; exact hD1) hS1) hL)

theorem rm_ct {D : va_G} {ct : Nat → ClassId} {S : State} {t : Nat} {ty : FieldType} {cA : ClassId} (hK : va_K D rm_cl (rm_tys ct) S) (ht : rm_tyc[t]? = some ty) (hR : va_RA S cA ty) : cA = ct t := by
  have h1 := (hK.2 t _ (rm_tys_at (ct := ct) ht)).2
  have key : ∀ c : ClassId, va_RA S c ty → S.vm.findClass ("[" ++ ty.toString) = some c := by
    intro c hc
    cases ty with
    | object C =>
      obtain ⟨_, _, _, _, _, h⟩ := hc
      exact h
    | _ => exact hc
  exact Option.some.inj ((key _ hR).symm.trans (key _ h1))
theorem rm_s_newarray {at_ : ArrayType} {a : Nat} {ty : FieldType} (hd : decode (rm_cc M) pc = .ok (.newarray at_, 2)) (hty : newarray.typeOf at_ = ty) (ht : rm_tyc[a]? = some ty) (hw : Cond.arrayClass ty ∈ rm_T) (hb : componentBytes ty ≤ 8) (ha : ∀ (cA : ClassId) (n : Nat), vp_cell cA (n, (if a = 2 then .inr (.inl (fun _ => 0)) else .inl (fun _ => 0))) = arrV cA n (fun _ => defaultValue ty)) (hN : ∀ L st H c s, N L st H c s → rm_S M k Q n0 (pc + 2) L st H c s)
    (h : rm_1i st fun x r => H.length + c = n0 + rm_mc M ∧ 1 ≤ c ∧ ¬ x < 0 ∧ x.toNatClampNeg ≤ 100000 ∧ x.toNatClampNeg ≤ s ∧ N L (.ref H.length :: r) (H ++ [.inl (a, x.toNatClampNeg, (if a = 2 then .inr (.inl (fun _ => 0)) else .inl (fun _ => 0)))]) (c - 1) (s - x.toNatClampNeg)) : rm_S M k Q n0 pc L st H c s := by
  have h_ := rm_1i_e h
  clear h
  obtain ⟨x, r, rfl, hx, h1, h2, h3, h4, h⟩ := h_
  intro p l e S m args below meth cd D ad ct A sz Hp locs ls hC hL
  have hcm := hC.2.2.2.2.2.2.2.2.2.2.2.1
  have hsm := hC.2.2.2.2.2.2.2.2.2.2.2.2
  have hby : x.toNatClampNeg * componentBytes ty ≤ 536870912 := Nat.le_trans (Nat.mul_le_mul h3 hb) (by decide)
  refine va_newa (ws := rm_cw ad ct H) (ty := ty) (N' := x.toNatClampNeg) (a0 := (x.toNatClampNeg, (if a = 2 then .inr (.inl (fun _ => 0)) else .inl (fun _ => 0)))) hC.1.1 hC.1.2.1 (by rw [hty]; exact hC.wd hw) hty hC.2.1 hC.2.2.2.2.2.2.1 hC.2.2.2.2.2.2.2.1 hC.2.2.2.2.2.2.2.2.1 hC.2.2.2.1 (fun cA => ha cA _) h2 rfl hby (by show rm_mc M - c + 1 ≤ rm_mc M; omega) (by show rm_ms M - s + _ ≤ rm_ms M; omega) hd (fun q cA H1 hK1 hP1 hD1 hS1 => ?_)
  refine rm_sz (fun hz => ?_)
  have hlt : q < H1.size := (hP1 H.length (q, _) (by rw [List.getElem?_append_right (by rw [rm_cw_len]; exact Nat.le_refl _), rm_cw_len, Nat.sub_self]; rfl)).lt
  have hsz := hC.2.2.2.2.2.1
  have hq := rm_next hC.2.2.2.2.1 hC.2.2.2.2.2.2.2.2.2.1 hC.2.2.2.2.2.2.2.2.2.2.1 hD1 hx h1 (by omega)
  subst hq
  have hcA : cA = ct a := rm_ct hC.2.1 ht ((hK1.2 (rm_tys ct).length (cA, ty) (by rw [List.getElem?_append_right (Nat.le_refl _), Nat.sub_self]; rfl)).2)
  subst hcA
  have he : rm_ce ad ct (.inl (a, x.toNatClampNeg, (if a = 2 then .inr (.inl (fun _ => 0)) else .inl (fun _ => 0)))) = .inl (ct a, x.toNatClampNeg, (if a = 2 then .inr (.inl (fun _ => 0)) else .inl (fun _ => 0))) := by
    by_cases h5 : a = 2 <;> simp [h5, rm_ce]
  refine W.cs (by omega) (by omega) (hN _ _ _ _ _ h p l e S m args below meth cd D ad ct A sz H1 locs ls (hC.push (by omega) (by omega) (by rw [he]; exact hP1) (by rw [he]; exact hD1) hS1) hL)
theorem rm_s_anewarray {index a : Nat} {C : String} (hd : decode (rm_cc M) pc = .ok (.anewarray index, 3)) (ht : rm_tyc[a]? = some (.object C)) (hw : Cond.classLink (rm_y M).cls index C ∈ rm_T) (hN : ∀ L st H c s, N L st H c s → rm_S M k Q n0 (pc + 3) L st H c s)
    (h : rm_1i st fun x r => H.length + c = n0 + rm_mc M ∧ 1 ≤ c ∧ ¬ x < 0 ∧ x.toNatClampNeg ≤ 100000 ∧ x.toNatClampNeg ≤ s ∧ N L (.ref H.length :: r) (H ++ [.inl (a, x.toNatClampNeg, .inr (.inr (.inr (.inr (fun _ => none)))))]) (c - 1) (s - x.toNatClampNeg)) : rm_S M k Q n0 pc L st H c s := by
  have h_ := rm_1i_e h
  clear h
  obtain ⟨x, r, rfl, hx, h1, h2, h3, h4, h⟩ := h_
  intro p l e S m args below meth cd D ad ct A sz Hp locs ls hC hL
  have hcm := hC.2.2.2.2.2.2.2.2.2.2.2.1
  have hsm := hC.2.2.2.2.2.2.2.2.2.2.2.2
  refine va_newq (ws := rm_cw ad ct H) (C := C) (N' := x.toNatClampNeg) hC.1.1 hC.1.2.1 hC.own (hC.wd hw) (hC.2.2.1.2.1 a C ht) hC.2.1 hC.2.2.2.2.2.2.1 hC.2.2.2.2.2.2.2.1 hC.2.2.2.2.2.2.2.2.1 hC.2.2.2.1 h2 rfl (by omega) (by show rm_mc M - c + 1 ≤ rm_mc M; omega) (by show rm_ms M - s + _ ≤ rm_ms M; omega) hd (fun q cA H1 hK1 hP1 hD1 hS1 => ?_)
  refine rm_sz (fun hz => ?_)
  have hlt : q < H1.size := (hP1 H.length (q, _) (by rw [List.getElem?_append_right (by rw [rm_cw_len]; exact Nat.le_refl _), rm_cw_len, Nat.sub_self]; rfl)).lt
  have hsz := hC.2.2.2.2.2.1
  have hq := rm_next hC.2.2.2.2.1 hC.2.2.2.2.2.2.2.2.2.1 hC.2.2.2.2.2.2.2.2.2.2.1 hD1 hx h1 (by omega)
  subst hq
  have hcA : cA = ct a := rm_ct hC.2.1 ht ((hK1.2 (rm_tys ct).length (cA, .object C) (by rw [List.getElem?_append_right (Nat.le_refl _), Nat.sub_self]; rfl)).2)
  subst hcA
  refine W.cs (by omega) (by omega) (hN _ _ _ _ _ h p l e S m args below meth cd D ad ct A sz H1 locs ls (hC.push (by omega) (by omega) hP1 hD1 hS1) hL)
end RMS2
