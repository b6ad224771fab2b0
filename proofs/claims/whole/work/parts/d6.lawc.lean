/-! The law: a call -/
/-- the world at the law's own steps -/
def lwC (D : va_G) (ad : Nat → Nat) (ct : Nat → ClassId) (s : State) (HA : rm_H) (Hp : Heap) (locs : List Loc) : Prop := va_K D rm_cl (rm_tys ct) s ∧ rm_E ad (fun q => s.heap.size ≤ q) s s.heap ∧ va_P D rm_cl (rm_cw ad ct HA) Hp ∧ va_D (fun q => s.heap.size ≤ q) (rm_cw ad ct HA) ∧ va_S (fun q => s.heap.size ≤ q) s.heap Hp locs ∧ ∀ j, j < 600000 → ad j = s.heap.size + j
section LWC
variable {D : va_G} {ad : Nat → Nat} {ct : Nat → ClassId} {s : State} {HA : rm_H} {Hp : Heap} {locs : List Loc}
theorem lwC_free (h : lwC D ad ct s HA Hp locs) : ∀ q, va_A (rm_cw ad ct HA) Hp.size q → s.heap.size ≤ q := by
  intro q hq
  rcases hq with ⟨k, e, h1⟩ | h1
  · exact h.2.2.2.1.2 k (q, e) h1
  · exact Nat.le_trans h.2.2.2.2.1.1 h1
theorem lwC_pre {av : List Value} (h : lwC D ad ct s HA Hp locs) : ∀ U : State, U.heap = Hp → s.WarmedH U.vm → va_Pc av (fun U => U.heap.size = Hp.size ∧ va_P D rm_cl (rm_cw ad ct HA) U.heap ∧ va_K D rm_cl (rm_tys ct) U ∧ va_D (fun _ => True) (rm_cw ad ct HA) ∧ rm_E ad (va_A (rm_cw ad ct HA) Hp.size) U U.heap) av.toArray U := by
  intro U hU hW
  refine ⟨rfl, by rw [hU], by rw [hU]; exact h.2.2.1, va_K.moved hW.alike h.1, h.2.2.2.1.weaken (fun _ _ _ _ => trivial), ?_⟩
  exact rm_E.step h.2.1 h.2.2.2.2.1.2.1 hU hW (lwC_free h)
/-- the heap is at least so large -/
theorem lwC_ge (h : lwC D ad ct s HA Hp locs) (hl : HA.length ≤ 600000) : s.heap.size + HA.length ≤ Hp.size := by
  by_cases h0 : HA.length = 0
  · have := h.2.2.2.2.1.1
    omega
  · have h1 := h.2.2.2.2.2 (HA.length - 1) (by omega)
    have h3 := (h.2.2.1 (HA.length - 1) _ (rm_cw_at (List.getElem?_eq_getElem (show HA.length - 1 < HA.length by omega)))).lt
    rw [h1] at h3
    omega
theorem lw_good {X : rm_M} (hX : Cond.code (rm_y X) (rm_cc X) (rm_ml X) (rm_rt X) ∈ rm_T) : GoodIn rm_T (rm_ws X) := by
  intro w hw
  have h1 : w ∈ rm_T := by
    rcases List.mem_cons.mp hw with rfl | h
    · exact hX
    · exact h
  exact ⟨h1, good_of_word (List.mem_filter.mp h1).2⟩
theorem lw_T {args : Array Value} (hts : ∀ w ∈ lw_tbl, w.before args s = true) : ∀ w ∈ rm_T, w.before args s = true := fun w hw => hts w (List.mem_filter.mp hw).1
end LWC
section LWD
variable {p : Program} {l : Launch} {e : Env} {s : State} {m : MethodId} {args : Array Value} {below : List Frame} {meth : Method} {c : Code} {D : va_G} {ad : Nat → Nat} {ct : Nat → ClassId} {HA : rm_H} {Hp : Heap} {locs : List Loc} {Z : State → Prop}
/-- a call of a public method -/
theorem lw_call {X : rm_M} {index b pc q ks : Nat} {av rest : List Value} {ls : Array Slot} {Q : Option Value → rm_H → Prop} {fs : List Value} (hx : p.tables.exec = Jvm.exec) (hb : c.code = code) (hml : c.maxLocals = 4) (hown : s.vm.findClass R_law = some m.cls) (hts : ∀ w ∈ lw_tbl, w.before args s = true) (hC : lwC D ad ct s HA Hp locs) (hls : ls.size = 4) (hDo : rm_Do X 40 (.ref q :: av) HA Q) (hrt : rm_rt X = some .int) (hcw : rm_cwd X b) (hk : ∃ z, rm_cl[rm_ci X]? = some z ∧ z.1 = (rm_y X).cls) (hq : HA[q]? = some (.inr (rm_ci X, fs))) (hav : av.map (rm_cv ad) = av) (hbl : av.length = b) (hrest : (rest.map fun v => v.category).sum ≤ 8) (hw1 : Cond.methodLink R_law index (rm_y X) ∈ lw_tbl) (hw2 : Cond.instanceMethod (rm_y X) ∈ lw_tbl) (hw3 : Cond.selects (rm_y X).cls (rm_y X) (rm_y X) ∈ lw_tbl) (hd : decode code pc = .ok (.invokevirtual index, 3)) (hmc : HA.length + rm_mc X < 600000) (hms : ks + rm_ms X ≤ 7302250)
    (hN : ∀ (r : Int32) (G : rm_H) (H1 : Heap) (locs1 : List Loc), Q (some (.int r)) G → HA.length ≤ G.length → G.length ≤ HA.length + rm_mc X → lwC D ad ct s G H1 locs1 → W p l e room_1 s m args below meth c H1 locs1 (HA.length + rm_mc X) (ks + rm_ms X) Z (F0 m (pc + 3) ls (.int r :: rest))) : W p l e room_1 s m args below meth c Hp locs HA.length ks Z (F0 m pc ls (av.reverse ++ .ref (ad q) :: rest)) := by
  refine rm_sz (fun hz => ?_)
  have hge := lwC_ge hC (by omega)
  have hsz : Hp.size = s.heap.size + HA.length := by omega
  obtain ⟨Q0, hD0, hQ⟩ := hDo
  obtain ⟨x1, x2, x3, x4⟩ := hcw
  have hM := hD0 l D ad ct Hp.size (fun i hi => by rw [hC.2.2.2.2.2 _ (by omega)]; omega)
  have htT := lw_T (args := args) hts
  have cb : CallB room_1 s args R_law index (rm_y X) (rm_cc X) (rm_ml X) (rm_rt X) (rm_ws X) (rm_room X 40) (rm_mc X) (rm_ms X) b := callB_of b htT (lw_good x1) rfl rfl rfl (htT _ x2) (hts _ hw1) x3 ⟨by show 40 + 1 ≤ 2048; omega, by show 8 + (rm_ml X + 11) + 64 * 40 ≤ 84000; omega⟩
  have hrecv : ∃ cell : Cell, Hp[ad q]? = some cell ∧ cell.vm.isStatics = false ∧ s.vm.findClass (rm_y X).cls = some cell.cls := by
    obtain ⟨z, hz1, hz2⟩ := hk
    rw [← hz2]
    exact va_recv hC.1 hC.2.2.1 hz1 (rm_cw_at hq)
  have hF := lwC_free hC
  have hrun := va_runV (l := l) (e := e) (below := below) (meth := meth) (locs := locs) (cells := HA.length) (slots := ks) (g := F0 m pc ls (av.reverse ++ .ref (ad q) :: rest)) (C := (rm_y X).cls) (b := ad q) (As := av.map (rm_cv ad)) (rest := rest) ⟨hx, hb, hml, hown, htT⟩ hM ⟨cb, hts _ hw2, hts _ hw3⟩ ⟨rm_blind, hrecv, lwC_pre hC⟩ rfl (by rw [List.length_map]; exact hbl) hls (by rw [hav]) (lv_room hrest) hd ⟨by show HA.length + rm_mc X ≤ 600000; omega, by show ks + rm_ms X ≤ 7302250; exact hms⟩
  unfold rm_Qc at hrun
  rw [hrt] at hrun
  refine va_calli hrun hC.2.2.2.2.1 (fun q _ h => hF q h) hF (fun r u t H1 locs1 ht hvm hq1 hB hz1 hk1 hS1 => ?_)
  obtain ⟨b1, b2, b3, b4⟩ := hB
  have hC1 : lwC D ad ct s u H1 locs1 := ⟨hC.1, hC.2.1, by rw [← ht]; exact b1, b2.weaken (fun _ q _ hq => hF q.1 hq), hS1, hC.2.2.2.2.2⟩
  refine rm_sz (fun hz2 => ?_)
  have hle : u.length ≤ HA.length + rm_mc X := by
    apply Nat.le_of_not_lt
    intro g
    have h1 := hC1.2.2.2.2.2 (HA.length + rm_mc X)
    have h3 := (hC1.2.2.1 (HA.length + rm_mc X) _ (rm_cw_at (List.getElem?_eq_getElem g))).lt
    rw [h1 hmc] at h3
    omega
  exact hN r u H1 locs1 (hQ _ _ hq1) b4 hle hC1
end LWD
