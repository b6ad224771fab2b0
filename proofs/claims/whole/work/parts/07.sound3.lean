/-! Soundness of the steps: switches, calls, ends; a method's begin -/
section RMS3
variable {M X : rm_M} {k j : Nat} {Q : Option Value → rm_H → Prop} {n0 pc : Nat} {N : rm_K} {J : Nat → rm_K} {L : rm_L} {st : List Value} {H : rm_H} {c s : Nat}
theorem rm_s_table {d lo hi : Int} {offs : Array Int} {len a : Nat} {ts : List (Int32 × Nat)} (hd : decode (rm_cc M) pc = .ok (.tableswitch d lo hi offs, len)) (ht : (pc : Int) + d = (a : Int))
    (h1 : ∀ q ∈ ts, ¬ q.1.toInt < lo ∧ ¬ hi < q.1.toInt ∧ ∃ off, offs[(q.1.toInt - lo).toNat]? = some off ∧ (pc : Int) + off = (q.2 : Int)) (h2 : ∀ x : Int32, ¬ x.toInt < lo → ¬ hi < x.toInt → ∃ q ∈ ts, x = q.1) (hJ : ∀ pc L st H c s, J pc L st H c s → rm_S M k Q n0 pc L st H c s)
    (h : rm_1i st fun x r => (∀ q ∈ ts, x = q.1 → J q.2 L r H c s) ∧ ((∀ q ∈ ts, ¬ x = q.1) → J a L r H c s)) : rm_S M k Q n0 pc L st H c s := by
  have h_ := rm_1i_e h
  clear h
  obtain ⟨x, r, rfl, h3, h4⟩ := h_
  intro p l e S m args below meth cd D ad ct A sz Hp locs ls hC hL
  by_cases hx : ∃ q ∈ ts, x = q.1
  · obtain ⟨q, hq, rfl⟩ := hx
    obtain ⟨g1, g2, off, g3, g4⟩ := h1 q hq
    exact lv_tableIn hC.1.1 hC.1.2.1 hd g1 g2 g3 g4 (hJ _ _ _ _ _ _ (h3 q hq rfl) p l e S m args below meth cd D ad ct A sz Hp locs ls hC hL)
  · have hout : x.toInt < lo ∨ hi < x.toInt := by
      by_cases g1 : x.toInt < lo
      · exact Or.inl g1
      · by_cases g2 : hi < x.toInt
        · exact Or.inr g2
        · exact absurd (h2 x g1 g2) hx
    exact lv_tableOut hC.1.1 hC.1.2.1 hd hout ht (hJ _ _ _ _ _ _ (h4 (fun q hq e => hx ⟨q, hq, e⟩)) p l e S m args below meth cd D ad ct A sz Hp locs ls hC hL)
theorem rm_look_no {x : Int32} {d : Int} : ∀ (ps : List (Int × Int)) (ts : List (Int32 × Nat)), ps.map (·.1) = ts.map (fun q => q.1.toInt) → (∀ q ∈ ts, ¬ x = q.1) → Op.lookupswitch.offset ps d x.toInt = d
  | [], _, _, _ => rfl
  | (a, o) :: ps, ts, h, hx => by
    cases ts with
    | nil => cases h
    | cons q ts =>
      simp only [List.map_cons, List.cons.injEq] at h
      rw [lv_osw (hx q List.mem_cons_self) h.1.symm]
      exact rm_look_no ps ts h.2 (fun q hq => hx q (List.mem_cons_of_mem _ hq))
theorem rm_s_lookup {d : Int} {ps : Array (Int × Int)} {len a : Nat} {ts : List (Int32 × Nat)} (hd : decode (rm_cc M) pc = .ok (.lookupswitch d ps, len)) (hp : (ps.toList.zip (ps.toList.drop 1)).all (fun (a, next) => a.1 < next.1) = true) (ht : (pc : Int) + d = (a : Int))
    (h1 : ∀ q ∈ ts, (pc : Int) + Op.lookupswitch.offset ps.toList d q.1.toInt = (q.2 : Int)) (h2 : ps.toList.map (·.1) = ts.map (fun q => q.1.toInt)) (hJ : ∀ pc L st H c s, J pc L st H c s → rm_S M k Q n0 pc L st H c s)
    (h : rm_1i st fun x r => (∀ q ∈ ts, x = q.1 → J q.2 L r H c s) ∧ ((∀ q ∈ ts, ¬ x = q.1) → J a L r H c s)) : rm_S M k Q n0 pc L st H c s := by
  have h_ := rm_1i_e h
  clear h
  obtain ⟨x, r, rfl, h3, h4⟩ := h_
  intro p l e S m args below meth cd D ad ct A sz Hp locs ls hC hL
  by_cases hx : ∃ q ∈ ts, x = q.1
  · obtain ⟨q, hq, rfl⟩ := hx
    exact lv_lookup hC.1.1 hC.1.2.1 hd hp rfl (h1 q hq) (hJ _ _ _ _ _ _ (h3 q hq rfl) p l e S m args below meth cd D ad ct A sz Hp locs ls hC hL)
  · have hn : ∀ q ∈ ts, ¬ x = q.1 := fun q hq e => hx ⟨q, hq, e⟩
    exact lv_lookup hC.1.1 hC.1.2.1 hd hp rfl (by rw [rm_look_no ps.toList ts h2 hn]; exact ht) (hJ _ _ _ _ _ _ (h4 hn) p l e S m args below meth cd D ad ct A sz Hp locs ls hC hL)
/-- ends -/
theorem rm_s_ireturn (hd : decode (rm_cc M) pc = .ok (.ireturn, 1)) (h : match st with | [.int x] => rm_rfit (rm_rt M) x ∧ Q (some (.int x)) H | _ => False) : rm_S M k Q n0 pc L st H c s := by
  split at h
  · rename_i x
    obtain ⟨hf, hq⟩ := h
    intro p l e S m args below meth cd D ad ct A sz Hp locs ls hC hL
    refine W.widen (k := rm_mc M) (n := rm_ms M) (Nat.sub_le _ _) (Nat.sub_le _ _) ?_
    have hlk : meth.locks = false := hC.1.2.2.2.2.2.2.1
    have hr := hC.1.2.2.2.1
    have hend : ∀ t : State, t.heap = Hp → S.WarmedH t.vm → va_Qi (fun r H1 => Q (some (.int r)) H1) (rm_B D ad ct A n0) A args S (.returned (some (.int x))) t := fun t ht hW => ⟨⟨x, H, rfl, hq, by rw [ht]; exact hC.2.2.2.2.2.2.1, hC.2.2.2.2.2.2.2.1, va_K.moved hW.alike hC.2.1, hC.2.2.2.2.2.2.2.2.2.1⟩, hC.2.2.2.2.2.2.2.2.1.F ht⟩
    unfold rm_rfit at hf
    unfold rm_Qc
    split at hf
    · rename_i e1
      rw [e1] at hr ⊢
      exact W.iret (v := x) hC.1.1 hC.1.2.1 hr hend hC.2.2.2.2.2.2.2.2.1.2.2 hd
    · rename_i e1
      rw [e1] at hr ⊢
      exact W.zret (v := x) hC.1.1 hC.1.2.1 hr (by rcases hf with rfl | rfl <;> decide) hend hC.2.2.2.2.2.2.2.2.1.2.2 hd
    · rename_i e1
      rw [e1] at hr ⊢
      exact W.zret (v := x) hC.1.1 hC.1.2.1 hr hf hend hC.2.2.2.2.2.2.2.2.1.2.2 hd
    · exact hf.elim
  · exact h.elim
theorem rm_s_lreturn (hd : decode (rm_cc M) pc = .ok (.lreturn, 1)) (h : match st with | [.long x] => rm_rt M = some .long ∧ Q (some (.long x)) H | _ => False) : rm_S M k Q n0 pc L st H c s := by
  split at h
  · rename_i x
    obtain ⟨hf, hq⟩ := h
    intro p l e S m args below meth cd D ad ct A sz Hp locs ls hC hL
    refine W.widen (k := rm_mc M) (n := rm_ms M) (Nat.sub_le _ _) (Nat.sub_le _ _) ?_
    have hlk : meth.locks = false := hC.1.2.2.2.2.2.2.1
    have hr := hC.1.2.2.2.1
    unfold rm_Qc
    rw [hf] at hr ⊢
    exact W.lret (v := x) hC.1.1 hC.1.2.1 hr (fun t ht hW => ⟨⟨x, H, rfl, hq, by rw [ht]; exact hC.2.2.2.2.2.2.1, hC.2.2.2.2.2.2.2.1, va_K.moved hW.alike hC.2.1, hC.2.2.2.2.2.2.2.2.2.1⟩, hC.2.2.2.2.2.2.2.2.1.F ht⟩) hC.2.2.2.2.2.2.2.2.1.2.2 hd
  · exact h.elim
theorem rm_s_return (hd : decode (rm_cc M) pc = .ok (.return_, 1)) (h : match st with | [] => rm_rt M = none ∧ Q none H | _ => False) : rm_S M k Q n0 pc L st H c s := by
  split at h
  · obtain ⟨hf, hq⟩ := h
    intro p l e S m args below meth cd D ad ct A sz Hp locs ls hC hL
    refine W.widen (k := rm_mc M) (n := rm_ms M) (Nat.sub_le _ _) (Nat.sub_le _ _) ?_
    have hlk : meth.locks = false := hC.1.2.2.2.2.2.2.1
    have hr := hC.1.2.2.2.1
    unfold rm_Qc
    rw [hf] at hr ⊢
    exact W.vret hC.1.1 hC.1.2.1 hr (fun t ht hW => ⟨⟨H, rfl, hq, by rw [ht]; exact hC.2.2.2.2.2.2.1, hC.2.2.2.2.2.2.2.1, va_K.moved hW.alike hC.2.1, hC.2.2.2.2.2.2.2.2.2.1⟩, hC.2.2.2.2.2.2.2.2.1.F ht⟩) hC.2.2.2.2.2.2.2.2.1.2.2 hd
  · exact h.elim
theorem rm_s_aret_in {v : Value} {o : Option Nat} (hd : decode (rm_cc M) pc = .ok (.areturn, 1)) (hv : va_rf o = v) (hf : match rm_rt M with | some (.object _) => True | some (.array _) => True | _ => False) (hq : Q (some v) H) : rm_S M k Q n0 pc L [v] H c s := by
  intro p l e S m args below meth cd D ad ct A sz Hp locs ls hC hL
  refine W.widen (k := rm_mc M) (n := rm_ms M) (Nat.sub_le _ _) (Nat.sub_le _ _) ?_
  have hlk : meth.locks = false := hC.1.2.2.2.2.2.2.1
  have hr := hC.1.2.2.2.1
  have hend : ∀ t : State, t.heap = Hp → S.WarmedH t.vm → va_Qq (fun r H1 => ∃ v, va_rf r = rm_cv ad v ∧ Q (some v) H1) (rm_B D ad ct A n0) A args S (.returned (some (rm_cv ad v))) t := fun t ht hW => ⟨⟨o.map ad, H, by rw [rm_rf_map, hv], ⟨v, by rw [rm_rf_map, hv], hq⟩, by rw [ht]; exact hC.2.2.2.2.2.2.1, hC.2.2.2.2.2.2.2.1, va_K.moved hW.alike hC.2.1, hC.2.2.2.2.2.2.2.2.2.1⟩, hC.2.2.2.2.2.2.2.2.1.F ht⟩
  have hvv : rm_cv ad v = .null ∨ ∃ a, rm_cv ad v = .ref a := by
    subst hv
    cases o with
    | none => exact Or.inl rfl
    | some a => exact Or.inr ⟨_, rfl⟩
  unfold rm_Qc
  split at hf
  · rename_i C e1
    rw [e1] at hr ⊢
    exact W.aret (rt := .object C) hC.1.1 hC.1.2.1 hr (Or.inl ⟨_, rfl⟩) hvv hend hC.2.2.2.2.2.2.2.2.1.2.2 hd
  · rename_i C e1
    rw [e1] at hr ⊢
    exact W.aret (rt := .array C) hC.1.1 hC.1.2.1 hr (Or.inr ⟨_, rfl⟩) hvv hend hC.2.2.2.2.2.2.2.2.1.2.2 hd
  · exact hf.elim
theorem rm_s_areturn (hd : decode (rm_cc M) pc = .ok (.areturn, 1)) (h : match st with | [.ref x] => (match rm_rt M with | some (.object _) => True | some (.array _) => True | _ => False) ∧ Q (some (.ref x)) H | [.null] => (match rm_rt M with | some (.object _) => True | some (.array _) => True | _ => False) ∧ Q (some .null) H | _ => False) : rm_S M k Q n0 pc L st H c s := by
  split at h
  · rename_i x
    exact rm_s_aret_in (o := some x) hd rfl h.1 h.2
  · exact rm_s_aret_in (o := none) hd rfl h.1 h.2
  · exact h.elim
/-- Object's own begin -/
theorem rm_s_obj {index : Nat} (hd : decode (rm_cc M) pc = .ok (.invokespecial index, 3)) (hw1 : Cond.methodLink (rm_y M).cls index objectInit ∈ rm_T) (hw2 : Cond.instanceMethod objectInit ∈ rm_T) (hw3 : Cond.code objectInit ⟨#[0xb1]⟩ 1 none ∈ rm_T) (hN : ∀ L st H c s, N L st H c s → rm_S M k Q n0 (pc + 3) L st H c s) (h : 1 ≤ k ∧ rm_1r st fun _ r => rm_sr r ∧ N L r H c s) : rm_S M k Q n0 pc L st H c s := by
  obtain ⟨hk, h⟩ := h
  have h_ := rm_1r_e h
  clear h
  obtain ⟨q, r, rfl, hr, h⟩ := h_
  intro p l e S m args below meth cd D ad ct A sz Hp locs ls hC hL
  have hcat : ((r.map (rm_cv ad)).map fun v => v.category).sum ≤ 8 := by
    have e : (r.map (rm_cv ad)).map (fun v => v.category) = r.map (fun v => v.category) := by
      rw [List.map_map]; congr 1; funext v; exact rm_cv_cat ad v
    rw [e]; exact hr
  refine W.objInit hC.1.1 hC.1.2.1 hC.own (hC.wd hw1) (hC.wd hw2) (hC.wd hw3) rfl (by rw [hC.1.2.2.1]; exact hL.1) rfl hd hk (by show 2 * 0 + _ + 12 ≤ 64 * k; omega) ?_
  exact W.eq (g2 := F0 m (pc + 3) ls (r.map (rm_cv ad))) rfl (hN _ _ _ _ _ h p l e S m args below meth cd D ad ct A sz Hp locs ls hC hL)
theorem rm_good (hX : Cond.code (rm_y X) (rm_cc X) (rm_ml X) (rm_rt X) ∈ rm_T) : GoodIn (rm_ws M) (rm_ws X) := by
  intro w hw
  have h1 : w ∈ rm_T := by
    rcases List.mem_cons.mp hw with rfl | h
    · exact hX
    · exact h
  exact ⟨List.mem_cons_of_mem _ h1, good_of_word (List.mem_filter.mp h1).2⟩
theorem rm_E.same {ad : Nat → Nat} {A : Nat → Prop} {U V : State} (hv : V.vm = U.vm) (hh : V.heap = U.heap) (h : rm_E ad A U U.heap) : rm_E ad A V V.heap := by
  obtain ⟨h1, h2, h3, h4, h5, h6⟩ := h
  have ha : U.vm.Alike V.vm := by rw [hv]; exact Vm.Alike.refl _
  rw [hh]
  refine ⟨fun w hw hn => ?_, fun t C ht => (h2 t C ht).moved ha, fun j q hj => vk_R.same hv (h3 j q hj), h4.moved ha, h5.moved ha, h6.imp (fun h => h.moved ha) (fun h => h.moved ha)⟩
  have h7 := h1 w hw hn
  cases w with
  | methodLinkNest a i x g => exact va_Nw.same rfl hv.symm h7
  | _ => simp [rm_isN] at hn
/-- a contract's start doesn't see frames -/
theorem rm_blind {D : va_G} {ad : Nat → Nat} {ct : Nat → ClassId} {sz : Nat} {av : List Value} {A : Nat → Prop} : FrameBlind (va_Pc av (fun U => U.heap.size = sz ∧ va_P D rm_cl (rm_cw ad ct H) U.heap ∧ va_K D rm_cl (rm_tys ct) U ∧ va_D (fun _ => True) (rm_cw ad ct H) ∧ rm_E ad A U U.heap)) := by
  intro a U g mk hq
  obtain ⟨h1, h2, h3, h4, h5, h6⟩ := hq
  exact ⟨h1, h2, h3, va_K.moved (u := U) (U := U.calling g mk a) (Vm.Alike.refl U.vm) h4, h5, rm_E.same (U := U) (V := U.calling g mk a) rfl rfl h6⟩
theorem rm_free {p : Program} {S : State} {m : MethodId} {args : Array Value} {meth : Method} {cd : Code} {D : va_G} {ad : Nat → Nat} {ct : Nat → ClassId} {A : Nat → Prop} {sz : Nat} {Hp : Heap} {locs : List Loc} (h : rm_C M n0 p S m args meth cd D ad ct A sz H c s Hp locs) : ∀ q, va_A (rm_cw ad ct H) Hp.size q → A q := by
  intro q hq
  rcases hq with ⟨k, e, h1⟩ | h1
  · exact h.2.2.2.2.2.2.2.1.2 k (q, e) h1
  · exact h.2.2.2.1 q (Nat.le_trans h.2.2.2.2.2.2.2.2.1.1 h1)
/-- the callee's cells come next -/
theorem rm_ahead {p : Program} {S : State} {m : MethodId} {args : Array Value} {meth : Method} {cd : Code} {D : va_G} {ad : Nat → Nat} {ct : Nat → ClassId} {A : Nat → Prop} {sz : Nat} {Hp : Heap} {locs : List Loc} (h : rm_C M n0 p S m args meth cd D ad ct A sz H c s Hp locs) (hz : Hp.size ≤ S.heap.size + (rm_mc M - c)) (ha : rm_al M X n0 H c s) : ∀ i, i < rm_mc X → ad (H.length + i) = Hp.size + i := by
  intro i hi
  obtain ⟨a1, a2, a3⟩ := ha
  obtain ⟨-, -, -, -, -, h6, hP, -, hS, hn, had, hcm, -⟩ := h
  rcases a3 with a3 | a3
  · omega
  · have hsz : Hp.size = sz + (H.length - n0) := by
      have h1 := hS.1
      by_cases hl : H.length = n0
      · omega
      · have h2 := had (H.length - 1 - n0) (by omega)
        rw [show n0 + (H.length - 1 - n0) = H.length - 1 by omega] at h2
        have h3 := (hP (H.length - 1) _ (rm_cw_at (List.getElem?_eq_getElem (show H.length - 1 < H.length by omega)))).lt
        rw [h2] at h3
        omega
    have h4 := had (H.length - n0 + i) (by omega)
    rw [show n0 + (H.length - n0 + i) = H.length + i by omega] at h4
    rw [h4]; omega
/-- behind a call -/
theorem rm_C.call {p : Program} {S : State} {m : MethodId} {args : Array Value} {meth : Method} {cd : Code} {D : va_G} {ad : Nat → Nat} {ct : Nat → ClassId} {A : Nat → Prop} {sz : Nat} {Hp H1 : Heap} {locs locs1 : List Loc} {G : rm_H} {t : State} {c1 s1 : Nat} (h : rm_C M n0 p S m args meth cd D ad ct A sz H c s Hp locs) (h1 : c1 ≤ c) (h2 : s1 ≤ s) (hB : rm_B D ad ct (va_A (rm_cw ad ct H) Hp.size) H.length G t) (ht : t.heap = H1) (hS : va_S A S.heap H1 locs1) : rm_C M n0 p S m args meth cd D ad ct A sz G c1 s1 H1 locs1 := by
  have hF := rm_free h
  obtain ⟨g1, g2, g3, g4, g5, g6, -, -, -, g7, g8, g9, g10⟩ := h
  obtain ⟨b1, b2, b3, b4⟩ := hB
  exact ⟨g1, g2, g3, g4, g5, g6, by rw [← ht]; exact b1, b2.weaken (fun _ q _ hq => hF q.1 hq), hS, Nat.le_trans g7 b4, g8, Nat.le_trans h1 g9, Nat.le_trans h2 g10⟩
/-- a call's run goes on -/
theorem rm_go {p : Program} {l : Launch} {e : Env} {S : State} {m : MethodId} {args : Array Value} {below : List Frame} {meth : Method} {cd : Code} {D : va_G} {ad : Nat → Nat} {ct : Nat → ClassId} {A : Nat → Prop} {sz : Nat} {Hp : Heap} {locs : List Loc} {ls : Array Slot} {st0 : List Value} {rest : List Value} {a : Array Value} {Q0 : Option Value → rm_H → Prop} (hC : rm_C M n0 p S m args meth cd D ad ct A sz H c s Hp locs) (hL : rm_LR ad L ls (rm_ml M)) (ha : rm_al M X n0 H c s)
    (hN : ∀ r G, Q0 r G → H.length ≤ G.length → rm_S M k Q n0 (pc + 3) L (rm_psh r rest) G (c - rm_mc X) (s - rm_ms X))
    (hr : va_Run p l e (rm_room M k) S m args below meth cd Hp locs (rm_mc M - c) (rm_ms M - s) (rm_mc X) (rm_ms X) (F0 m pc ls st0) (rest.map (rm_cv ad)) (rm_Qc X ad Q0 (rm_B D ad ct (va_A (rm_cw ad ct H) Hp.size) H.length) (va_A (rm_cw ad ct H) Hp.size) a) (va_A (rm_cw ad ct H) Hp.size)) :
    W p l e (rm_room M k) S m args below meth cd Hp locs (rm_mc M - c) (rm_ms M - s) (MQ below (rm_Qc M ad Q (rm_B D ad ct A n0) A) args S (rm_mc M) (rm_ms M) A) (F0 m pc ls st0) := by
  have hF := rm_free hC
  have hcm := hC.2.2.2.2.2.2.2.2.2.2.2.1
  have hsm := hC.2.2.2.2.2.2.2.2.2.2.2.2
  have ha1 := ha.1
  have ha2 := ha.2.1
  have hS := hC.2.2.2.2.2.2.2.2.1
  obtain ⟨z, hz⟩ : ∃ z, rm_rt X = z := ⟨_, rfl⟩
  unfold rm_Qc at hr
  rw [hz] at hr
  have caseI : va_Run p l e (rm_room M k) S m args below meth cd Hp locs (rm_mc M - c) (rm_ms M - s) (rm_mc X) (rm_ms X) (F0 m pc ls st0) (rest.map (rm_cv ad)) (va_Qi (fun r G => Q0 (some (.int r)) G) (rm_B D ad ct (va_A (rm_cw ad ct H) Hp.size) H.length) (va_A (rm_cw ad ct H) Hp.size) a) (va_A (rm_cw ad ct H) Hp.size) → W p l e (rm_room M k) S m args below meth cd Hp locs (rm_mc M - c) (rm_ms M - s) (MQ below (rm_Qc M ad Q (rm_B D ad ct A n0) A) args S (rm_mc M) (rm_ms M) A) (F0 m pc ls st0) := fun hr => by
    refine va_calli hr hS (fun q _ h => hF q h) hF (fun r u t H1 locs1 ht hvm hq hB hz1 hk1 hS1 => ?_)
    exact W.cs (by omega) (by omega) (hN (some (.int r)) u hq hB.2.2.2 p l e S m args below meth cd D ad ct A sz H1 locs1 ls (hC.call (Nat.sub_le _ _) (Nat.sub_le _ _) hB ht hS1) hL)
  have caseQ : va_Run p l e (rm_room M k) S m args below meth cd Hp locs (rm_mc M - c) (rm_ms M - s) (rm_mc X) (rm_ms X) (F0 m pc ls st0) (rest.map (rm_cv ad)) (va_Qq (fun r G => ∃ v, va_rf r = rm_cv ad v ∧ Q0 (some v) G) (rm_B D ad ct (va_A (rm_cw ad ct H) Hp.size) H.length) (va_A (rm_cw ad ct H) Hp.size) a) (va_A (rm_cw ad ct H) Hp.size) → W p l e (rm_room M k) S m args below meth cd Hp locs (rm_mc M - c) (rm_ms M - s) (MQ below (rm_Qc M ad Q (rm_B D ad ct A n0) A) args S (rm_mc M) (rm_ms M) A) (F0 m pc ls st0) := fun hr => by
    refine va_callq hr hS (fun q _ h => hF q h) hF (fun r u t H1 locs1 ht hvm hq hB hz1 hk1 hS1 => ?_)
    obtain ⟨v, hv, hq⟩ := hq
    rw [hv]
    exact W.cs (by omega) (by omega) (hN (some v) u hq hB.2.2.2 p l e S m args below meth cd D ad ct A sz H1 locs1 ls (hC.call (Nat.sub_le _ _) (Nat.sub_le _ _) hB ht hS1) hL)
  cases z with
  | none =>
    refine va_callv hr hS (fun q _ h => hF q h) hF (fun u t H1 locs1 ht hvm hq hB hz1 hk1 hS1 => ?_)
    exact W.cs (by omega) (by omega) (hN none u hq hB.2.2.2 p l e S m args below meth cd D ad ct A sz H1 locs1 ls (hC.call (Nat.sub_le _ _) (Nat.sub_le _ _) hB ht hS1) hL)
  | some ty =>
    cases ty with
    | long =>
      refine va_calll hr hS (fun q _ h => hF q h) hF (fun r u t H1 locs1 ht hvm hq hB hz1 hk1 hS1 => ?_)
      exact W.cs (by omega) (by omega) (hN (some (.long r)) u hq hB.2.2.2 p l e S m args below meth cd D ad ct A sz H1 locs1 ls (hC.call (Nat.sub_le _ _) (Nat.sub_le _ _) hB ht hS1) hL)
    | object C => exact caseQ hr
    | array t => exact caseQ hr
    | _ => exact caseI hr
theorem rm_sr_cv {r : List Value} (ad : Nat → Nat) (h : rm_sr r) : ((r.map (rm_cv ad)).map fun v => v.category).sum ≤ 8 := by
  have e : (r.map (rm_cv ad)).map (fun v => v.category) = r.map (fun v => v.category) := by
    rw [List.map_map]; congr 1; funext v; exact rm_cv_cat ad v
  rw [e]; exact h
/-- what a call must find in the tables -/
def rm_cwd (X : rm_M) (b : Nat) : Prop := Cond.code (rm_y X) (rm_cc X) (rm_ml X) (rm_rt X) ∈ rm_T ∧ Cond.initialized (rm_y X).cls ∈ rm_T ∧ ((rm_y X).cls ≠ "java/lang/invoke/MethodHandle" ∧ (rm_y X).cls ≠ "java/lang/invoke/VarHandle" ∧ (parseMethodDescriptor (rm_y X).desc).map (fun d => d.parameters.length) = some b) ∧ rm_ml X ≤ 45
theorem rm_pre {p : Program} {S : State} {m : MethodId} {args : Array Value} {meth : Method} {cd : Code} {D : va_G} {ad : Nat → Nat} {ct : Nat → ClassId} {A : Nat → Prop} {sz : Nat} {Hp : Heap} {locs : List Loc} {av : List Value} (hC : rm_C M n0 p S m args meth cd D ad ct A sz H c s Hp locs) : ∀ U : State, U.heap = Hp → S.WarmedH U.vm → va_Pc av (fun U => U.heap.size = Hp.size ∧ va_P D rm_cl (rm_cw ad ct H) U.heap ∧ va_K D rm_cl (rm_tys ct) U ∧ va_D (fun _ => True) (rm_cw ad ct H) ∧ rm_E ad (va_A (rm_cw ad ct H) Hp.size) U U.heap) av.toArray U := by
  intro U hU hW
  refine ⟨rfl, by rw [hU], by rw [hU]; exact hC.2.2.2.2.2.2.1, va_K.moved hW.alike hC.2.1, hC.2.2.2.2.2.2.2.1.weaken (fun _ _ _ _ => trivial), ?_⟩
  exact rm_E.step hC.2.2.1 hC.2.2.2.2.2.2.2.2.1.2.1 hU hW (rm_free hC)
theorem rm_s_static {index b : Nat} (hd : decode (rm_cc M) pc = .ok (.invokestatic index, 3)) (hX : rm_cwd X b) (hw1 : Cond.methodLink (rm_y M).cls index (rm_y X) ∈ rm_T) (hw2 : Cond.static (rm_y X) ∈ rm_T) (hN : ∀ L st H c s, N L st H c s → rm_S M (j + 1) Q n0 (pc + 3) L st H c s)
    (h : b ≤ st.length ∧ rm_sr (st.drop b) ∧ rm_al M X n0 H c s ∧ rm_Do X j (st.take b).reverse H (fun r G => H.length ≤ G.length → N L (rm_psh r (st.drop b)) G (c - rm_mc X) (s - rm_ms X))) : rm_S M (j + 1) Q n0 pc L st H c s := by
  obtain ⟨hb, hr, ha, Q0, hD0, hQ⟩ := h
  intro p l e S m args below meth cd D ad ct A sz Hp locs ls hC hL
  refine rm_sz (fun hz => ?_)
  obtain ⟨x1, x2, x3, x4⟩ := hX
  have hM := hD0 l D ad ct Hp.size (rm_ahead hC hz ha)
  have cb : CallB (rm_room M (j + 1)) S args (rm_y M).cls index (rm_y X) (rm_cc X) (rm_ml X) (rm_rt X) (rm_ws X) (rm_room X j) (rm_mc X) (rm_ms X) b := callB_of b hC.hts (rm_good x1) rfl rfl rfl (hC.wd x2) (hC.wd hw1) x3 ⟨Nat.le_refl _, by show 8 + (rm_ml X + 11) + 64 * j ≤ 64 * (j + 1); omega⟩
  refine rm_go hC hL ha (fun r G h1 h2 => hN _ _ _ _ _ (hQ r G h1 h2)) (va_runS (As := (st.take b).reverse.map (rm_cv ad)) (rest := (st.drop b).map (rm_cv ad)) ⟨hC.1.1, hC.1.2.1, hC.1.2.2.1, hC.own, hC.hts⟩ hM ⟨cb, hC.wd hw2⟩ ⟨rm_blind, rm_pre hC⟩ rfl ?_ hL.1 ?_ (lv_room (rm_sr_cv ad hr)) hd ⟨?_, ?_⟩)
  · simp [Nat.min_eq_left hb]
  · show st.map (rm_cv ad) = _
    rw [← List.map_reverse, List.reverse_reverse, ← List.map_append, List.take_append_drop]
  · show rm_mc M - c + rm_mc X ≤ rm_mc M
    have := ha.1
    have := hC.2.2.2.2.2.2.2.2.2.2.2.1
    omega
  · show rm_ms M - s + rm_ms X ≤ rm_ms M
    have := ha.2.1
    have := hC.2.2.2.2.2.2.2.2.2.2.2.2
    omega
theorem rm_recv {p : Program} {S : State} {m : MethodId} {args : Array Value} {meth : Method} {cd : Code} {D : va_G} {ad : Nat → Nat} {ct : Nat → ClassId} {A : Nat → Prop} {sz : Nat} {Hp : Heap} {locs : List Loc} {q : Nat} (hC : rm_C M n0 p S m args meth cd D ad ct A sz H c s Hp locs) (hv : rm_rv X H q) (hk : if rm_ci X = 99 then (rm_y X).cls = "java/lang/String" else ∃ z, rm_cl[rm_ci X]? = some z ∧ z.1 = (rm_y X).cls) : ∃ cellB : Cell, Hp[ad q]? = some cellB ∧ cellB.vm.isStatics = false ∧ S.vm.findClass (rm_y X).cls = some cellB.cls := by
  unfold rm_rv at hv
  split at hv
  · rename_i h9
    rw [if_pos h9] at hk
    obtain ⟨i, hi, rfl⟩ := hv
    have hE := hC.2.2.1.2.2.2.1
    rw [hk]
    exact vk_recv (adK := fun j => ad (rm_SB + j)) hE hi hC.2.2.2.2.2.2.2.2.1
  · rename_i h9
    rw [if_neg h9] at hk
    obtain ⟨z, hz, hzn⟩ := hk
    split at hv
    · rename_i ci fs heq
      subst hv
      rw [← hzn]
      exact va_recv hC.2.1 hC.2.2.2.2.2.2.1 hz (rm_cw_at heq)
    · exact hv.elim
theorem rm_s_virtual {index b : Nat} (hd : decode (rm_cc M) pc = .ok (.invokevirtual index, 3)) (hX : rm_cwd X b) (hk : if rm_ci X = 99 then (rm_y X).cls = "java/lang/String" else ∃ z, rm_cl[rm_ci X]? = some z ∧ z.1 = (rm_y X).cls) (hw1 : Cond.methodLink (rm_y M).cls index (rm_y X) ∈ rm_T) (hw2 : Cond.instanceMethod (rm_y X) ∈ rm_T) (hw3 : Cond.selects (rm_y X).cls (rm_y X) (rm_y X) ∈ rm_T) (hN : ∀ L st H c s, N L st H c s → rm_S M (j + 1) Q n0 (pc + 3) L st H c s)
    (h : b ≤ st.length ∧ rm_1r (st.drop b) fun q r => rm_rv X H q ∧ rm_sr r ∧ rm_al M X n0 H c s ∧ rm_Do X j (.ref q :: (st.take b).reverse) H (fun w G => H.length ≤ G.length → N L (rm_psh w r) G (c - rm_mc X) (s - rm_ms X))) : rm_S M (j + 1) Q n0 pc L st H c s := by
  obtain ⟨hb, h⟩ := h
  obtain ⟨q, r, hst, hv, hr, ha, Q0, hD0, hQ⟩ := rm_1r_e h
  intro p l e S m args below meth cd D ad ct A sz Hp locs ls hC hL
  refine rm_sz (fun hz => ?_)
  obtain ⟨x1, x2, x3, x4⟩ := hX
  have hM := hD0 l D ad ct Hp.size (rm_ahead hC hz ha)
  have cb : CallB (rm_room M (j + 1)) S args (rm_y M).cls index (rm_y X) (rm_cc X) (rm_ml X) (rm_rt X) (rm_ws X) (rm_room X j) (rm_mc X) (rm_ms X) b := callB_of b hC.hts (rm_good x1) rfl rfl rfl (hC.wd x2) (hC.wd hw1) x3 ⟨Nat.le_refl _, by show 8 + (rm_ml X + 11) + 64 * j ≤ 64 * (j + 1); omega⟩
  refine rm_go hC hL ha (fun r G h1 h2 => hN _ _ _ _ _ (hQ r G h1 h2)) (va_runV (C := (rm_y X).cls) (b := ad q) (As := (st.take b).reverse.map (rm_cv ad)) (rest := r.map (rm_cv ad)) ⟨hC.1.1, hC.1.2.1, hC.1.2.2.1, hC.own, hC.hts⟩ hM ⟨cb, hC.wd hw2, hC.wd hw3⟩ ⟨rm_blind, rm_recv hC hv hk, rm_pre hC⟩ rfl ?_ hL.1 ?_ (lv_room (rm_sr_cv ad hr)) hd ⟨?_, ?_⟩)
  · simp [Nat.min_eq_left hb]
  · show st.map (rm_cv ad) = _
    rw [← List.map_reverse, List.reverse_reverse]
    have e : st = st.take b ++ (.ref q :: r) := by rw [← hst, List.take_append_drop]
    conv => lhs; rw [e]
    rw [List.map_append]; rfl
  · show rm_mc M - c + rm_mc X ≤ rm_mc M
    have := ha.1
    have := hC.2.2.2.2.2.2.2.2.2.2.2.1
    omega
  · show rm_ms M - s + rm_ms X ≤ rm_ms M
    have := ha.2.1
    have := hC.2.2.2.2.2.2.2.2.2.2.2.2
    omega
theorem rm_s_special {index b : Nat} (hd : decode (rm_cc M) pc = .ok (.invokespecial index, 3)) (hX : rm_cwd X b) (hrt : rm_rt X = none) (hnm : (rm_y X).name = "<init>") (hw1 : Cond.methodLink (rm_y M).cls index (rm_y X) ∈ rm_T ∨ ∃ host, Cond.methodLinkNest (rm_y M).cls index (rm_y X) host ∈ lw_tbl) (hw2 : Cond.instanceMethod (rm_y X) ∈ rm_T) (hN : ∀ L st H c s, N L st H c s → rm_S M (j + 1) Q n0 (pc + 3) L st H c s)
    (h : b ≤ st.length ∧ rm_1r (st.drop b) fun q r => rm_sr r ∧ rm_al M X n0 H c s ∧ rm_Do X j (.ref q :: (st.take b).reverse) H (fun w G => H.length ≤ G.length → N L (rm_psh w r) G (c - rm_mc X) (s - rm_ms X))) : rm_S M (j + 1) Q n0 pc L st H c s := by
  obtain ⟨hb, h⟩ := h
  obtain ⟨q, r, hst, hr, ha, Q0, hD0, hQ⟩ := rm_1r_e h
  intro p l e S m args below meth cd D ad ct A sz Hp locs ls hC hL
  refine rm_sz (fun hz => ?_)
  obtain ⟨x1, x2, x3, x4⟩ := hX
  have hM := hD0 l D ad ct Hp.size (rm_ahead hC hz ha)
  have hstk : (F0 m pc ls (st.map (rm_cv ad))).stack = ((st.take b).reverse.map (rm_cv ad)).reverse ++ .ref (ad q) :: r.map (rm_cv ad) := by
    show st.map (rm_cv ad) = _
    rw [← List.map_reverse, List.reverse_reverse]
    have e : st = st.take b ++ (.ref q :: r) := by rw [← hst, List.take_append_drop]
    conv => lhs; rw [e]
    rw [List.map_append]; rfl
  have hlen : ((st.take b).reverse.map (rm_cv ad)).length = b := by simp [Nat.min_eq_left hb]
  have hf : rm_mc M - c + rm_mc X ≤ (rm_room M (j + 1)).cells ∧ rm_ms M - s + rm_ms X ≤ (rm_room M (j + 1)).slots := by
    have h1 := ha.1
    have h2 := ha.2.1
    have h3 := hC.2.2.2.2.2.2.2.2.2.2.2.1
    have h4 := hC.2.2.2.2.2.2.2.2.2.2.2.2
    exact ⟨by show _ ≤ rm_mc M; omega, by show _ ≤ rm_ms M; omega⟩
  have hR : (rm_room X j).frames + 1 ≤ (rm_room M (j + 1)).frames ∧ 8 + (rm_ml X + 11) + (rm_room X j).locals ≤ (rm_room M (j + 1)).locals := ⟨Nat.le_refl _, by show 8 + (rm_ml X + 11) + 64 * j ≤ 64 * (j + 1); omega⟩
  have hw : rm_ws X = Cond.code (rm_y X) (rm_cc X) (rm_ml X) none :: rm_T := by rw [← hrt]; rfl
  rcases hw1 with hw1 | ⟨host, hw1⟩
  · have cb : CallB (rm_room M (j + 1)) S args (rm_y M).cls index (rm_y X) (rm_cc X) (rm_ml X) none (rm_ws X) (rm_room X j) (rm_mc X) (rm_ms X) b := callB_of b hC.hts (rm_good x1) hw rfl rfl (hC.wd x2) (hC.wd hw1) x3 hR
    exact rm_go hC hL ha (fun r G h1 h2 => hN _ _ _ _ _ (hQ r G h1 h2)) (va_runI (b := ad q) (As := (st.take b).reverse.map (rm_cv ad)) (rest := r.map (rm_cv ad)) ⟨hC.1.1, hC.1.2.1, hC.1.2.2.1, hC.own, hC.hts⟩ hM ⟨cb, hnm, hC.wd hw2⟩ ⟨rm_blind, rm_pre hC⟩ rfl hlen hL.1 hstk (lv_room (rm_sr_cv ad hr)) hd hf)
  · have cn := va_cnB b hC.hts (rm_good (M := M) x1) hw rfl rfl (hC.2.2.1.1 _ hw1 rfl) (hC.wd x2) x3 hR
    exact rm_go hC hL ha (fun r G h1 h2 => hN _ _ _ _ _ (hQ r G h1 h2)) (va_runIN (b := ad q) (As := (st.take b).reverse.map (rm_cv ad)) (rest := r.map (rm_cv ad)) ⟨hC.1.1, hC.1.2.1, hC.1.2.2.1, hC.own, hC.hts⟩ hM ⟨cn, hnm, hC.wd hw2⟩ ⟨rm_blind, rm_pre hC⟩ rfl hlen hL.1 hstk (lv_room (rm_sr_cv ad hr)) hd hf)
end RMS3
