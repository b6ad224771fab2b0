/-! The law: one call of each -/
theorem isM_c {H H1 : rm_H} {w : oV} (h : isM H w) (hf : frM H H1) : isM H1 w := by
  have e : ∀ {i : Nat} {c : va_E}, H[i]? = some c → 153 ≤ i ∧ i ≤ 188 → H1[i]? = some c := fun hc hi => (hf.2 _ hi).trans hc
  obtain ⟨⟨⟨f, m1, m2⟩, ⟨⟨d1, n1, n1'⟩, ⟨d2, n2, n2'⟩, n3⟩, ⟨⟨t1, o1, o1'⟩, ⟨t2, o2, o2'⟩⟩, ⟨tb, p1, p2⟩, ⟨r0, ⟨x1, r1⟩, ⟨x2, r2⟩, ⟨x3, r3⟩, ⟨x4, r4⟩, ⟨x5, r5⟩, ⟨x6, r6⟩, r7⟩, ⟨⟨y1, a1⟩, ⟨y2, a2⟩, ⟨y3, a3⟩, ⟨y4, a4⟩, ⟨y5, a5⟩, ⟨y6, a6⟩, ⟨y7, a7⟩, ⟨y8, a8⟩⟩, ⟨⟨z1, b1⟩, ⟨z2, b2⟩⟩, ⟨⟨u1, c1⟩, ⟨u2, c2⟩, ⟨u3, c3⟩, ⟨u4, c4⟩⟩, ⟨P, q1, q2⟩, ⟨G, Mk, g1, g2, g3⟩⟩, ⟨s1, s2, s3, ⟨ft, s4, s4'⟩, ⟨Fr, s5, s5'⟩, ⟨La, s6, s6'⟩, ⟨wk, s7, s7'⟩, s8⟩⟩ := h
  refine ⟨⟨⟨f, e m1 (by omega), m2⟩, ⟨⟨d1, e n1 (by omega), n1'⟩, ⟨d2, e n2 (by omega), n2'⟩, n3⟩, ⟨⟨t1, e o1 (by omega), o1'⟩, ⟨t2, e o2 (by omega), o2'⟩⟩, ⟨tb, e p1 (by omega), p2⟩, ⟨r0, ⟨x1, e r1 (by omega)⟩, ⟨x2, e r2 (by omega)⟩, ⟨x3, e r3 (by omega)⟩, ⟨x4, e r4 (by omega)⟩, ⟨x5, e r5 (by omega)⟩, ⟨x6, e r6 (by omega)⟩, fun s hs => ?_⟩, ⟨⟨y1, e a1 (by omega)⟩, ⟨y2, e a2 (by omega)⟩, ⟨y3, e a3 (by omega)⟩, ⟨y4, e a4 (by omega)⟩, ⟨y5, e a5 (by omega)⟩, ⟨y6, e a6 (by omega)⟩, ⟨y7, e a7 (by omega)⟩, ⟨y8, e a8 (by omega)⟩⟩, ⟨⟨z1, e b1 (by omega)⟩, ⟨z2, e b2 (by omega)⟩⟩, ⟨⟨u1, e c1 (by omega)⟩, ⟨u2, e c2 (by omega)⟩, ⟨u3, e c3 (by omega)⟩, ⟨u4, e c4 (by omega)⟩⟩, ⟨P, e q1 (by omega), q2⟩, ⟨G, Mk, e g1 (by omega), e g2 (by omega), g3⟩⟩, ⟨e s1 (by omega), e s2 (by omega), e s3 (by omega), ⟨ft, e s4 (by omega), s4'⟩, ⟨Fr, e s5 (by omega), s5'⟩, ⟨La, e s6 (by omega), s6'⟩, ⟨wk, e s7 (by omega), s7'⟩, s8⟩⟩
  obtain ⟨So, Nu, K, u, t, en, ⟨v1, v2, v3, v4, ⟨Cl, v5, v5'⟩, ⟨Su, v6, v6'⟩, ⟨Te, v7, v7'⟩, ⟨En, v8, v8'⟩, v9⟩, v10⟩ := r7 s hs
  exact ⟨So, Nu, K, u, t, en, ⟨v1, v2, e v3 (by omega), e v4 (by omega), ⟨Cl, e v5 (by omega), v5'⟩, ⟨Su, e v6 (by omega), v6'⟩, ⟨Te, e v7 (by omega), v7'⟩, ⟨En, e v8 (by omega), v8'⟩, v9⟩, v10⟩
abbrev argD (pc : Nat) (j : Int) : Prop := decode code pc = .ok (.aload_n 0, 1) ∧ decode code (pc + 1) = .ok (.iload_n 3, 1) ∧ decode code (pc + 2) = .ok (.iconst j, 1) ∧ decode code (pc + 3) = .ok (.iadd, 1) ∧ decode code (pc + 4) = .ok (.iaload, 1)
abbrev opD (P k i1 i2 : Nat) : Prop := decode code P = .ok (.aload_n 1, 1) ∧ (∀ j, j < k → argD (P + 1 + 5 * j) (j + 1 : Nat)) ∧ decode code (P + 1 + 5 * k) = .ok (.invokevirtual i1, 3) ∧ decode code (P + 4 + 5 * k) = .ok (.aload_n 2, 1) ∧ (∀ j, j < k → argD (P + 5 + 5 * k + 5 * j) (j + 1 : Nat)) ∧ decode code (P + 5 + 10 * k) = .ok (.invokevirtual i2, 3) ∧ decode code (P + 8 + 10 * k) = .ok (.if_icmp .eq (1028 - ((P + 8 + 10 * k : Nat) : Int)), 3)
abbrev clD (X : rm_M) (idx b : Nat) : Prop := Cond.methodLink R_law idx (rm_y X) ∈ lw_tbl ∧ Cond.instanceMethod (rm_y X) ∈ lw_tbl ∧ Cond.selects (rm_y X).cls (rm_y X) (rm_y X) ∈ lw_tbl ∧ rm_rt X = some .int ∧ rm_cwd X b
def avs (xs : Nat → Int32) (i : Nat) : Nat → List Value
  | 0 => []
  | k + 1 => avs xs i k ++ [.int (xs (i + (k + 1)))]
theorem avs_len (xs : Nat → Int32) (i : Nat) : ∀ k, (avs xs i k).length = k
  | 0 => rfl
  | k + 1 => by rw [avs, List.length_append, avs_len xs i k]; rfl
theorem avs_cv (xs : Nat → Int32) (i : Nat) (ad : Nat → Nat) : ∀ k, (avs xs i k).map (rm_cv ad) = avs xs i k
  | 0 => rfl
  | k + 1 => by rw [avs, List.map_append, avs_cv xs i ad k]; rfl
abbrev lwL (b : Nat) (ad : Nat → Nat) (i : Nat) : List (Nat × Value) := [(0, .ref b), (1, .ref (ad 0)), (2, .ref (ad 153)), (3, .int (nI i))]
section LWF
variable {p : Program} {l : Launch} {e : Env} {s : State} {m : MethodId} {below : List Frame} {meth : Method} {c : Code} {D : va_G} {ad : Nat → Nat} {ct : Nat → ClassId} {HA : rm_H} {Hp : Heap} {locs : List Loc} {Z : State → Prop} {b L i : Nat} {xs : Nat → Int32} {ls : Array Slot} {args : Array Value} {cells slots : Nat}
/-- a number of the script -/
theorem sc_arg {pc j : Nat} {rest : List Value} (hx : p.tables.exec = Jvm.exec) (hb : c.code = code) (hX : va_X b L xs s s.heap) (hbl : b < s.heap.size) (hS : va_S (fun q => s.heap.size ≤ q) s.heap Hp locs) (hl : lv_has ls 4 (lwL b ad i)) (hd : argD pc (j : Nat)) (hi : i + j < L) (hL : L ≤ 3072) (hN : W p l e room_1 s m args below meth c Hp locs cells slots Z (F0 m (pc + 5) ls (.int (xs (i + j)) :: rest))) : W p l e room_1 s m args below meth c Hp locs cells slots Z (F0 m pc ls rest) := by
  obtain ⟨d0, d1, d2, d3, d4⟩ := hd
  refine lv_aload_n hx hb d0 rfl (lv_at hl 0 rfl) ?_
  refine lv_iload_n hx hb d1 rfl (lv_at hl 3 rfl) ?_
  refine lv_iconst (v := nI j) hx hb d2 (by rfl) ?_
  refine lv_iadd hx hb d3 ?_
  have e1 : nI i + nI j = nI (i + j) := nI_add i j
  rw [e1]
  refine va_sld hx hb hX hbl (Nat.not_le.mpr hbl) hS (vp_in_nI hi (by omega)) d4 ?_
  rw [nI_clamp (by omega)]
  exact hN
theorem sc_args {pc : Nat} {rest : List Value} (hx : p.tables.exec = Jvm.exec) (hb : c.code = code) (hX : va_X b L xs s s.heap) (hbl : b < s.heap.size) (hS : va_S (fun q => s.heap.size ≤ q) s.heap Hp locs) (hl : lv_has ls 4 (lwL b ad i)) (hL : L ≤ 3072) : ∀ k, (∀ j, j < k → argD (pc + 5 * j) (j + 1 : Nat)) → i + k < L → W p l e room_1 s m args below meth c Hp locs cells slots Z (F0 m (pc + 5 * k) ls ((avs xs i k).reverse ++ rest)) → W p l e room_1 s m args below meth c Hp locs cells slots Z (F0 m pc ls rest)
  | 0, _, _, h => h
  | k + 1, hd, hi, h => by
    refine sc_args hx hb hX hbl hS hl hL k (fun j hj => hd j (by omega)) (by omega) ?_
    refine sc_arg (j := k + 1) hx hb hX hbl hS hl (hd k (by omega)) hi hL ?_
    have e1 : (avs xs i (k + 1)).reverse ++ rest = .int (xs (i + (k + 1))) :: ((avs xs i k).reverse ++ rest) := by
      rw [avs, List.reverse_append]
      rfl
    rw [e1] at h
    exact h
/-- one call of each -/
theorem law_op {P k i1 i2 ks : Nat} {X Y : rm_M} {w : oV} {im : Nat → Prop} {f : oV → Int32 × oV} (hx : p.tables.exec = Jvm.exec) (hb : c.code = code) (hml : c.maxLocals = 4) (hown : s.vm.findClass R_law = some m.cls) (hts : ∀ w ∈ lw_tbl, w.before args s = true) (hX : va_X b L xs s s.heap) (hbl : b < s.heap.size) (hL : L ≤ 3072) (hC : lwC D ad ct s HA Hp locs) (hl : lv_has ls 4 (lwL b ad i)) (hi : i + k < L) (hO : isO im HA w) (hM : isM HA w) (hd : opD P k i1 i2) (t1 : clD X i1 k) (t2 : clD Y i2 k) (hX11 : (rm_ci X = 11 ∧ (rm_y X).cls = RX11) ∧ rm_mc X ≤ 74 ∧ rm_ms X ≤ 1000) (hY12 : (rm_ci Y = 12 ∧ (rm_y Y).cls = RX12) ∧ rm_mc Y = 0 ∧ rm_ms Y = 0) (hlen : HA.length ≤ 500000) (hks : ks ≤ 7000000)
    (h1 : rm_Do X 40 (.ref 0 :: avs xs i k) HA (fun v G => v = some (.int (f w).1) ∧ (∃ im1, isO im1 G (f w).2) ∧ frM HA G ∧ (rm_mc X = 0 ∨ G.length = HA.length + rm_mc X))) (h2 : ∀ G, isM G w → rm_Do Y 40 (.ref 153 :: avs xs i k) G (fun v G1 => v = some (.int (f w).1) ∧ isM G1 (f w).2 ∧ sB mP G G1))
    (hN : ∀ (im1 : Nat → Prop) (G : rm_H) (H1 : Heap) (locs1 : List Loc), isO im1 G (f w).2 → isM G (f w).2 → lwC D ad ct s G H1 locs1 → G.length = HA.length + rm_mc X → W p l e room_1 s m args below meth c H1 locs1 G.length (ks + rm_ms X) Z (F0 m 1028 ls [])) : W p l e room_1 s m args below meth c Hp locs HA.length ks Z (F0 m P ls []) := by
  obtain ⟨d1, d2, d3, d4, d5, d6, d7⟩ := hd
  obtain ⟨a1, a2, a3, a4, a5⟩ := t1
  obtain ⟨b1, b2, b3, b4, b5⟩ := t2
  refine lv_aload_n hx hb d1 rfl (lv_at hl 1 rfl) ?_
  refine sc_args (pc := P + 1) hx hb hX hbl hC.2.2.2.2.1 hl hL k d2 hi ?_
  refine lw_call (q := 0) (av := avs xs i k) (rest := []) hx hb hml hown hts hC hl.1 h1 a4 a5 ⟨(RX11, TX11, 10), by rw [hX11.1.1]; rfl, hX11.1.2.symm⟩ (by rw [hX11.1.1]; exact hO.o) (avs_cv xs i ad k) (avs_len xs i k) (by decide) a1 a2 a3 d3 (by omega) (by omega) (fun r G H1 locs1 q1 q2 q3 hC1 => ?_)
  obtain ⟨er, ⟨im1, hO1⟩, fr1, ln1⟩ := q1
  have er' : r = (f w).1 := by
    have := Option.some.inj er
    cases this
    rfl
  subst er'
  have hln : G.length = HA.length + rm_mc X := by
    rcases ln1 with g | g
    · omega
    · exact g
  have hM1 := isM_c hM fr1
  rw [← hln]
  have e4 : P + 1 + 5 * k + 3 = P + 4 + 5 * k := by omega
  rw [e4]
  refine lv_aload_n hx hb d4 rfl (lv_at hl 2 rfl) ?_
  refine sc_args (pc := P + 4 + 5 * k + 1) hx hb hX hbl hC1.2.2.2.2.1 hl hL k (fun j hj => by rw [show P + 4 + 5 * k + 1 + 5 * j = P + 5 + 5 * k + 5 * j by omega]; exact d5 j hj) hi ?_
  rw [show P + 4 + 5 * k + 1 + 5 * k = P + 5 + 10 * k by omega]
  obtain ⟨fM, hmM, -⟩ := hM1.1.1
  refine lw_call (q := 153) (av := avs xs i k) (rest := [.int (f w).1]) hx hb hml hown hts hC1 hl.1 (h2 G hM1) b4 b5 ⟨(RX12, TX12, 54), by rw [hY12.1.1]; rfl, hY12.1.2.symm⟩ (by rw [hY12.1.1]; exact hmM) (avs_cv xs i ad k) (avs_len xs i k) (show (1 + 0 : Nat) ≤ 8 by omega) b1 b2 b3 d6 (by omega) (by omega) (fun r G1 H2 locs2 q1 q2' q3' hC2 => ?_)
  obtain ⟨er, hM2, bs⟩ := q1
  have er' : r = (f w).1 := by
    have := Option.some.inj er
    cases this
    rfl
  subst er'
  have hO2 := hO1.m bs
  have hl2 : G1.length = G.length := bs.1
  rw [hY12.2.1, hY12.2.2, Nat.add_zero, Nat.add_zero]
  rw [show P + 5 + 10 * k + 3 = P + 8 + 10 * k by omega]
  refine lv_icmp_eq (tgt := 1028) hx hb d7 (by omega) (fun _ => ?_) (fun g => absurd rfl g)
  rw [← hl2]
  exact hN im1 G1 H2 locs2 hO2 hM2 hC2 (by omega)
end LWF
