/-! The law: its two objects are made -/
section LWE
variable {p : Program} {l : Launch} {e : Env} {s : State} {m : MethodId} {args : Array Value} {below : List Frame} {meth : Method} {c : Code} {D : va_G} {ad : Nat → Nat} {ct : Nat → ClassId} {HA : rm_H} {Hp : Heap} {locs : List Loc} {Z : State → Prop}
theorem lw_new {index a pc ks F : Nat} {C : String} {T : u_T} {rest : List Value} {ls : Array Slot} (hx : p.tables.exec = Jvm.exec) (hb : c.code = code) (hown : s.vm.findClass R_law = some m.cls) (hts : ∀ w ∈ lw_tbl, w.before args s = true) (hC : lwC D ad ct s HA Hp locs) (hc : rm_cl[a]? = some (C, T, F)) (hw : Cond.classLink R_law index C ∈ lw_tbl) (hw2 : Cond.instantiable C F ∈ lw_tbl) (hw3 : Cond.initialized C ∈ lw_tbl) (hd : decode code pc = .ok (.new index, 3)) (hmc : HA.length + 1 < 600000) (hms : ks + F ≤ 7302250)
    (hN : ∀ (H1 : Heap), lwC D ad ct s (HA ++ [.inr (a, rm_dfl a)]) H1 locs → W p l e room_1 s m args below meth c H1 locs (HA ++ [(.inr (a, rm_dfl a) : va_E)]).length (ks + F) Z (F0 m (pc + 3) ls (.ref (ad HA.length) :: rest))) : W p l e room_1 s m args below meth c Hp locs HA.length ks Z (F0 m pc ls rest) := by
  have hok := rm_clok _ _ hc
  have hF : (rm_dfl a).length = F := by simp [rm_dfl, hc]
  refine rm_sz (fun hz0 => ?_)
  have hge := lwC_ge hC (by omega)
  refine va_new (ws := rm_cw ad ct HA) (ci := a) (fs := rm_dfl a) (C := C) (T := T) (N := F) hx hb (lw_T (args := args) hts) hok.1 _ hok.2.1 hown (hts _ hw) (hts _ hw2) (hts _ hw3) hC.1 hC.2.2.1 hC.2.2.2.1 hC.2.2.2.2.1 (fun _ h => h) hc (fun j hj => ?_) (by show HA.length + 1 ≤ 600000; omega) (by show ks + F ≤ 7302250; omega) hd (fun q H1 hP1 hD1 hS1 => ?_)
  · simp [vp_V, rm_dfl, hc, hj]
  · refine rm_sz (fun hz => ?_)
    have hlt : q < H1.size := (hP1 HA.length (q, .inr (a, rm_dfl a)) (by rw [List.getElem?_append_right (by rw [rm_cw_len]; exact Nat.le_refl _), rm_cw_len, Nat.sub_self]; rfl)).lt
    have hq := rm_next (n0 := 0) (H := HA) (c := 600000 - HA.length) (mc := 600000) (sz := s.heap.size) (fun q h => Or.inl h) (Nat.zero_le _) (fun j hj => by rw [Nat.zero_add]; exact hC.2.2.2.2.2 j hj) hD1 (by omega) (by omega) (by omega)
    subst hq
    have he : rm_ce ad ct (.inr (a, rm_dfl a)) = .inr (a, rm_dfl a) := by simp [rm_ce, rm_dfl_cv]
    have hC1 : lwC D ad ct s (HA ++ [.inr (a, rm_dfl a)]) H1 locs := ⟨hC.1, hC.2.1, by rw [rm_cw_push, he]; exact hP1, by rw [rm_cw_push, he]; exact hD1, hS1, hC.2.2.2.2.2⟩
    exact W.cs (by rw [List.length_append]; rfl) rfl (hN H1 hC1)
theorem lw_init {X : rm_M} {index pc q ks : Nat} {rest : List Value} {ls : Array Slot} {Q : Option Value → rm_H → Prop} (hx : p.tables.exec = Jvm.exec) (hb : c.code = code) (hml : c.maxLocals = 4) (hown : s.vm.findClass R_law = some m.cls) (hts : ∀ w ∈ lw_tbl, w.before args s = true) (hC : lwC D ad ct s HA Hp locs) (hls : ls.size = 4) (hDo : rm_Do X 40 [.ref q] HA Q) (hrt : rm_rt X = none) (hnm : (rm_y X).name = "<init>") (hcw : rm_cwd X 0) (hrest : (rest.map fun v => v.category).sum ≤ 8) (hw1 : Cond.methodLink R_law index (rm_y X) ∈ lw_tbl) (hw2 : Cond.instanceMethod (rm_y X) ∈ lw_tbl) (hd : decode code pc = .ok (.invokespecial index, 3)) (hmc : HA.length + rm_mc X < 600000) (hms : ks + rm_ms X ≤ 7302250)
    (hN : ∀ (G : rm_H) (H1 : Heap) (locs1 : List Loc), Q none G → HA.length ≤ G.length → G.length ≤ HA.length + rm_mc X → lwC D ad ct s G H1 locs1 → W p l e room_1 s m args below meth c H1 locs1 (HA.length + rm_mc X) (ks + rm_ms X) Z (F0 m (pc + 3) ls rest)) : W p l e room_1 s m args below meth c Hp locs HA.length ks Z (F0 m pc ls (.ref (ad q) :: rest)) := by
  refine rm_sz (fun hz => ?_)
  have hge := lwC_ge hC (by omega)
  have hsz : Hp.size = s.heap.size + HA.length := by omega
  obtain ⟨Q0, hD0, hQ⟩ := hDo
  obtain ⟨x1, x2, x3, x4⟩ := hcw
  have hM := hD0 l D ad ct Hp.size (fun i hi => by rw [hC.2.2.2.2.2 _ (by omega)]; omega)
  have htT := lw_T (args := args) hts
  have cb : CallB room_1 s args R_law index (rm_y X) (rm_cc X) (rm_ml X) (rm_rt X) (rm_ws X) (rm_room X 40) (rm_mc X) (rm_ms X) 0 := callB_of 0 htT (lw_good x1) rfl rfl rfl (htT _ x2) (hts _ hw1) x3 ⟨by show 40 + 1 ≤ 2048; omega, by show 8 + (rm_ml X + 11) + 64 * 40 ≤ 84000; omega⟩
  rw [hrt] at cb
  have hF := lwC_free hC
  have hrun := va_runI (l := l) (e := e) (below := below) (meth := meth) (locs := locs) (cells := HA.length) (slots := ks) (g := F0 m pc ls (.ref (ad q) :: rest)) (b := ad q) (As := []) (rest := rest) ⟨hx, hb, hml, hown, htT⟩ hM ⟨cb, hnm, hts _ hw2⟩ ⟨rm_blind, lwC_pre hC⟩ rfl rfl hls rfl (lv_room hrest) hd ⟨by show HA.length + rm_mc X ≤ 600000; omega, by show ks + rm_ms X ≤ 7302250; exact hms⟩
  unfold rm_Qc at hrun
  rw [hrt] at hrun
  refine va_callv hrun hC.2.2.2.2.1 (fun q _ h => hF q h) hF (fun u t H1 locs1 ht hvm hq1 hB hz1 hk1 hS1 => ?_)
  obtain ⟨b1, b2, b3, b4⟩ := hB
  have hC1 : lwC D ad ct s u H1 locs1 := ⟨hC.1, hC.2.1, by rw [← ht]; exact b1, b2.weaken (fun _ q _ hq => hF q.1 hq), hS1, hC.2.2.2.2.2⟩
  refine rm_sz (fun hz2 => ?_)
  have hle : u.length ≤ HA.length + rm_mc X := by
    apply Nat.le_of_not_lt
    intro g
    have h1 := hC1.2.2.2.2.2 (HA.length + rm_mc X)
    have h3 := (hC1.2.2.1 (HA.length + rm_mc X) _ (rm_cw_at (List.getElem?_eq_getElem g))).lt
    rw [h1 hmc] at h3
    omega
  exact hN u H1 locs1 (hQ _ _ hq1) b4 hle hC1
end LWE
