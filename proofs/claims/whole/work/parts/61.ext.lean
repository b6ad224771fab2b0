/-! What lies is still so when cells are added behind -/
def ext (im im1 : Nat → Prop) (H H1 : rm_H) : Prop := H.length ≤ H1.length ∧ ∀ i, i < H.length → H1[i]? = H[i]? ∧ (im1 i ↔ im i)
section EXT
variable {im im1 : Nat → Prop} {H H1 : rm_H}
theorem ext.g (x : ext im im1 H H1) {i : Nat} {e : va_E} (h : H[i]? = some e) : H1[i]? = some e := by rw [(x.2 i (hlt h)).1]; exact h
theorem ext.m (x : ext im im1 H H1) {i : Nat} {e : va_E} (h : H[i]? = some e) (q : im i) : im1 i := (x.2 i (hlt h)).2.mpr q
theorem ext.n (x : ext im im1 H H1) {i : Nat} {e : va_E} (h : H[i]? = some e) (q : ¬ im i) : ¬ im1 i := fun g => q ((x.2 i (hlt h)).2.mp g)
theorem ext.l (x : ext im im1 H H1) {i : Nat} (h : i < H.length) (q : ¬ im i) : ¬ im1 i := fun g => q ((x.2 i h).2.mp g)
theorem isX.e {B : Nat → Int32} {ln at_ : Nat} {fa : Int32} {l : List tok} (x : ext im im1 H H1) (h : isX H B ln fa l at_) : isX H1 B ln fa l at_ := by
  obtain ⟨T, S, V, h1, h2, h3, h4, h5, h6⟩ := h
  exact ⟨T, S, V, x.g h1, x.g h2, x.g h3, x.g h4, x.g h5, h6⟩
theorem isR.e {r : Nat} {v : rV} (x : ext im im1 H H1) (h : isR im H r v) : isR im1 H1 r v := by
  obtain ⟨⟨m0, m1, m2, m3, m4⟩, h1, h2, h3, h4, h5, h6⟩ := h
  exact ⟨⟨x.m h1 m0, x.m h2 m1, x.m h3 m2, x.m h4 m3, x.m h5 m4⟩, x.g h1, x.g h2, x.g h3, x.g h4, x.g h5, h6⟩
theorem isS.e {a pw pa r : Nat} {v : stV} (x : ext im im1 H H1) (h : isS im H a pw pa r v) : isS im1 H1 a pw pa r v := by
  obtain ⟨⟨m1, m2, m3⟩, h1, h2, h3, h4, h5⟩ := h
  exact ⟨⟨x.n h1 m1, x.n h2 m2, x.n h3 m3⟩, x.g h1, x.g h2, x.g h3, h4.e x, h5⟩
theorem isRu2.e {ru : Value} {rl : rlA} (x : ext im im1 H H1) (h : isRu2 im H ru rl) : isRu2 im1 H1 ru rl := by
  obtain ⟨h1, h2⟩ := h
  cases rl with
  | none =>
    have : ru = .null := h1
    subst this
    exact ⟨h1, h2⟩
  | some z =>
    obtain ⟨rr, ss, rfl, g2, g3, g4⟩ := h1
    obtain ⟨m1, m2⟩ := h2
    refine ⟨⟨rr, ss, rfl, x.g g2, x.g g3, g4⟩, x.m g2 m1, fun s2 hs => ?_⟩
    rw [x.g g2] at hs
    simp only [Option.some.injEq, Sum.inr.injEq, Prod.mk.injEq, List.cons.injEq, Value.ref.injEq, true_and, and_true] at hs
    rw [← hs]
    exact x.m g3 (m2 ss g2)
theorem isT.e {rl : rlA} {r : Nat} {v : stV} (x : ext im im1 H H1) (h : isT im H rl r v) : isT im1 H1 rl r v := by
  obtain ⟨⟨m1, m2⟩, ru, op, g, h1, h2, h3, h4⟩ := h
  exact ⟨⟨x.n h1 m1, x.n h2 m2⟩, ru, op, g, x.g h1, x.g h2, h3.e x, h4.e x⟩
theorem isN.e {b n : Nat} {D S : Nat → Int32} (x : ext im im1 H H1) (h : isN im H b n D S) : isN im1 H1 b n D S := by
  obtain ⟨⟨m1, m2, m3⟩, h1, h2, h3, h4⟩ := h
  exact ⟨⟨x.n h1 m1, x.n h2 m2, x.n h3 m3⟩, x.g h1, x.g h2, x.g h3, h4⟩
theorem isP.e {b n r : Nat} {L : Nat → stV} (x : ext im im1 H H1) (hb : b + 74 ≤ H.length) (h : isP im H b n r L) : isP im1 H1 b n r L := by
  obtain ⟨p, f, h1, h2, h3, h4, h5, h6, h7, h8⟩ := h
  exact ⟨p, f, fun i hi => x.l (by unfold pP at hi; omega) (h1 i hi), x.g h2, x.g h3, h4, h5, h6, fun i hi => (h7 i hi).imp (fun r => Exists.imp (fun v hs => hs.e x)), fun i hi => (h8 i hi).e x⟩
theorem isI.e {b r : Nat} {v : iV} (x : ext im im1 H H1) (hb : b + 74 ≤ H.length) (h : isI im H b r v) : isI im1 H1 b r v := by
  obtain ⟨h1, h2, h3, h4, h5⟩ := h
  exact ⟨x.n h2 h1, x.g h2, h3.e x, h4.e x hb, h5.e x⟩
theorem isRS.e {z : rsZ} (x : ext im im1 H H1) (hb : 189 ≤ H.length) (h : isRS im H z) : isRS im1 H1 z := by
  obtain ⟨m, h1, h2, h3, ⟨f, h4, h5⟩, h6, h7⟩ := h
  exact ⟨fun a ha => x.l (by omega) (m a ha), x.g h1, x.g h2, x.g h3, ⟨f, x.g h4, h5⟩, fun i hi => (h6 i hi).imp (fun r => Exists.imp (fun v hs => hs.e x)), h7⟩
theorem isWS.e {wb : Int64} {z : wsZ} (x : ext im im1 H H1) (hb : 189 ≤ H.length) (h : isWS im H wb z) : isWS im1 H1 wb z := by
  obtain ⟨m, h1, ⟨f, h4, h5⟩, h6⟩ := h
  exact ⟨fun a ha => x.l (by unfold wsC at ha; omega) (m a ha), x.g h1, ⟨f, x.g h4, h5⟩, fun i hi => (h6 i hi).imp (fun r => Exists.imp (fun v hs => hs.e x))⟩
theorem isO.e {w : oV} (x : ext im im1 H H1) (hm : okIm im1 H1) (h : isO im H w) : isO im1 H1 w := by
  obtain ⟨⟨h0, hl⟩, h2, ⟨fa, l, a, h3⟩, ⟨K, ci, St, h4, h4', h4''⟩, ⟨h5, g5, h5', h5''⟩, ⟨r, h6⟩, ⟨gi, h7, h7', h7''⟩, ⟨⟨rl, r0, v0, h8⟩, ⟨z, h9⟩, ⟨wb, y, h10⟩, F, h11⟩, h12⟩ := h
  refine ⟨hm, x.g h2, ⟨fa, l, a, h3.e x⟩, ⟨K, ci, St, x.g h4, x.g h4', h4''⟩, ⟨h5, g5, x.g h5', fun i hi => (h5'' i hi).imp (fun rr q => ⟨q.1, q.2.e x⟩)⟩, ⟨r, h6.e x (by omega)⟩, ⟨gi, x.g h7, fun k hk => ?_, h7''⟩, ⟨⟨rl, r0, v0, h8.e x⟩, ⟨z, h9.e x hl⟩, ⟨wb, y, h10.e x hl⟩, F, x.g h11⟩, h12⟩
  rcases h7' k hk with q | ⟨u, b, r, q1, q2, q3, q5, q4⟩
  · exact Or.inl q
  · exact Or.inr ⟨u, b, r, q1, q2, q3, Nat.le_trans q5 x.1, q4.e x q5⟩
end EXT
/-- nothing at all, as it is at first -/
def stZ : stV := (rvZ, 0, (0, 0, 0, 0, 0, 0, 0, 0, 0), fun _ => 0, fun _ => 0)
def imZ : iV := (stZ, (0, fun _ => stZ), (0, fun _ => 0, fun _ => 0), -1, 0)
theorem stN_at (b r : Nat) : ∀ n q, q < n → (stN b r n)[3 * q]? = some (cS0 (b + 3 * q) r) ∧ (stN b r n)[3 * q + 1]? = some (zI 8) ∧ (stN b r n)[3 * q + 2]? = some (zI 8)
  | 0, q, h => absurd h (by omega)
  | n + 1, q, h => by
    rw [stN]
    by_cases hq : q < n
    · obtain ⟨h1, h2, h3⟩ := stN_at b r n q hq
      have hl := stN_len b r n
      rw [List.getElem?_append_left (by omega), List.getElem?_append_left (by omega), List.getElem?_append_left (by omega)]
      exact ⟨h1, h2, h3⟩
    · have : q = n := by omega
      subst this
      have hl := stN_len b r q
      rw [List.getElem?_append_right (by omega), List.getElem?_append_right (by omega), List.getElem?_append_right (by omega), hl, Nat.sub_self, Nat.add_sub_cancel_left, Nat.add_sub_cancel_left]
      exact ⟨rfl, rfl, rfl⟩
theorem imN_len (b : Nat) (g : Nat → Option Nat) : (imN b g).length = 74 := by
  unfold imN
  rw [List.length_append, stN_len]
  rfl
theorem imN_st {b : Nat} {g : Nat → Option Nat} {q : Nat} (hq : q < 20) : (imN b g)[14 + 3 * q]? = some (cS0 (b + 14 + 3 * q) (b + 4)) ∧ (imN b g)[14 + 3 * q + 1]? = some (zI 8) ∧ (imN b g)[14 + 3 * q + 2]? = some (zI 8) := by
  obtain ⟨h1, h2, h3⟩ := stN_at (b + 14) (b + 4) 20 q hq
  unfold imN
  rw [List.getElem?_append_right (by simp <;> omega), List.getElem?_append_right (by simp <;> omega), List.getElem?_append_right (by simp <;> omega)]
  simp only [List.length_cons, List.length_nil, Nat.reduceAdd]
  rw [show 14 + 3 * q - 14 = 3 * q by omega, show 14 + 3 * q + 1 - 14 = 3 * q + 1 by omega, show 14 + 3 * q + 2 - 14 = 3 * q + 2 by omega]
  exact ⟨h1, h2, h3⟩
theorem isS_Z {im : Nat → Prop} {H : rm_H} {a pw pa r : Nat} (m : ¬ im a ∧ ¬ im pw ∧ ¬ im pa) (h1 : H[a]? = some (cSt pw pa r 0 0 0 0 0 0 0 0 0 0)) (h2 : H[pw]? = some (zI 8)) (h3 : H[pa]? = some (zI 8)) (hr : isR im H r rvZ) : isS im H a pw pa r stZ := ⟨m, h1, h2, h3, hr, fun _ _ => rfl, fun _ _ => rfl, Or.inl rfl⟩
theorem isR_Z {im : Nat → Prop} {H : rm_H} {r : Nat} (m : ∀ i, r ≤ i → i ≤ r + 4 → im i) (h : ∀ i, i < 5 → H[r + i]? = (reN r)[i]?) : isR im H r rvZ := ⟨⟨m _ (by omega) (by omega), m _ (by omega) (by omega), m _ (by omega) (by omega), m _ (by omega) (by omega), m _ (by omega) (by omega)⟩, h 0 (by omega), h 1 (by omega), h 2 (by omega), h 3 (by omega), h 4 (by omega), by show 0 ≤ 8; omega, fun _ _ => rfl, fun _ _ => rfl⟩
theorem isI_Z {im : Nat → Prop} {H : rm_H} {b : Nat} {g : Nat → Option Nat} (h : ∀ i, i < 74 → H[b + i]? = (imN b g)[i]?) (hg : ∀ q, q < 20 → g q = some (b + 14 + 3 * q)) (m1 : ∀ i, b + 4 ≤ i → i ≤ b + 8 → im i) (m2 : ∀ i, b ≤ i → i < b + 74 → ¬ (b + 4 ≤ i ∧ i ≤ b + 8) → ¬ im i) : isI im H b (b + 4) imZ := by
  have hr : isR im H (b + 4) rvZ := isR_Z (fun i h1 h2 => m1 i h1 (by omega)) (fun i hi => by
    rw [show b + 4 + i = b + (4 + i) by omega, h (4 + i) (by omega)]
    unfold imN
    rw [List.getElem?_append_left (by simp <;> omega)]
    have : i = 0 ∨ i = 1 ∨ i = 2 ∨ i = 3 ∨ i = 4 := by omega
    rcases this with rfl | rfl | rfl | rfl | rfl <;> rfl)
  have hs : isS3 im H (b + 9) (b + 4) stZ := isS_Z ⟨m2 _ (by omega) (by omega) (by omega), m2 _ (by omega) (by omega) (by omega), m2 _ (by omega) (by omega) (by omega)⟩ (h 9 (by omega)) (h 10 (by omega)) (h 11 (by omega)) hr
  have hq : ∀ q, q < 20 → isS3 im H (b + 14 + 3 * q) (b + 4) stZ := fun q hq => by
    obtain ⟨g1, g2, g3⟩ := imN_st (b := b) (g := g) hq
    refine isS_Z ⟨m2 _ (by omega) (by omega) (by omega), m2 _ (by omega) (by omega) (by omega), m2 _ (by omega) (by omega) (by omega)⟩ ?_ ?_ ?_ hr
    · rw [show b + 14 + 3 * q = b + (14 + 3 * q) by omega, h _ (by omega), g1]
      rw [show b + (14 + 3 * q) = b + 14 + 3 * q by omega]
    · rw [show b + 14 + 3 * q + 1 = b + (14 + 3 * q + 1) by omega, h _ (by omega), g2]
    · rw [show b + 14 + 3 * q + 2 = b + (14 + 3 * q + 2) by omega, h _ (by omega), g3]
  refine ⟨m2 _ (by omega) (by omega) (by omega), h 0 (by omega), hs, ⟨0, g, fun i hi => m2 _ (by unfold pP at hi; omega) (by unfold pP at hi; omega) (by unfold pP at hi; omega), h 12 (by omega), h 13 (by omega), by show 0 ≤ 20; omega, by omega, fun i hi => hg i hi, fun i hi => ⟨_, _, hq i hi⟩, fun i hi => absurd hi (by show ¬ i < 0; omega)⟩, ⟨m2 _ (by omega) (by omega) (by omega), m2 _ (by omega) (by omega) (by omega), m2 _ (by omega) (by omega) (by omega)⟩, h 1 (by omega), h 2 (by omega), h 3 (by omega), by show 0 ≤ 10; omega, fun _ _ => rfl, fun _ _ => rfl⟩
