/-! Soundness of the steps: numbers, locals, branches -/
section RMS
variable {M : rm_M} {k : Nat} {Q : Option Value → rm_H → Prop} {n0 pc : Nat} {N : rm_K} {J : Nat → rm_K} {L : rm_L} {st : List Value} {H : rm_H} {c s : Nat}
theorem rm_1i_e {f : Int32 → List Value → Prop} (h : rm_1i st f) : ∃ x r, st = .int x :: r ∧ f x r := by
  unfold rm_1i at h
  split at h
  · exact ⟨_, _, rfl, h⟩
  · exact h.elim
theorem rm_2i_e {f : Int32 → Int32 → List Value → Prop} (h : rm_2i st f) : ∃ x y r, st = .int y :: .int x :: r ∧ f x y r := by
  unfold rm_2i at h
  split at h
  · exact ⟨_, _, _, rfl, h⟩
  · exact h.elim
theorem rm_1l_e {f : Int64 → List Value → Prop} (h : rm_1l st f) : ∃ x r, st = .long x :: r ∧ f x r := by
  unfold rm_1l at h
  split at h
  · exact ⟨_, _, rfl, h⟩
  · exact h.elim
theorem rm_2l_e {f : Int64 → Int64 → List Value → Prop} (h : rm_2l st f) : ∃ x y r, st = .long y :: .long x :: r ∧ f x y r := by
  unfold rm_2l at h
  split at h
  · exact ⟨_, _, _, rfl, h⟩
  · exact h.elim
theorem rm_li_e {f : Int64 → Int32 → List Value → Prop} (h : rm_li st f) : ∃ x y r, st = .int y :: .long x :: r ∧ f x y r := by
  unfold rm_li at h
  split at h
  · exact ⟨_, _, _, rfl, h⟩
  · exact h.elim
theorem rm_1r_e {f : Nat → List Value → Prop} (h : rm_1r st f) : ∃ x r, st = .ref x :: r ∧ f x r := by
  unfold rm_1r at h
  split at h
  · exact ⟨_, _, rfl, h⟩
  · exact h.elim
theorem rm_ri_e {f : Nat → Int32 → List Value → Prop} (h : rm_ri st f) : ∃ a i r, st = .int i :: .ref a :: r ∧ f a i r := by
  unfold rm_ri at h
  split at h
  · exact ⟨_, _, _, rfl, h⟩
  · exact h.elim
theorem rm_rii_e {f : Nat → Int32 → Int32 → List Value → Prop} (h : rm_rii st f) : ∃ a i x r, st = .int x :: .int i :: .ref a :: r ∧ f a i x r := by
  unfold rm_rii at h
  split at h
  · exact ⟨_, _, _, _, rfl, h⟩
  · exact h.elim
theorem rm_ril_e {f : Nat → Int32 → Int64 → List Value → Prop} (h : rm_ril st f) : ∃ a i x r, st = .long x :: .int i :: .ref a :: r ∧ f a i x r := by
  unfold rm_ril at h
  split at h
  · exact ⟨_, _, _, _, rfl, h⟩
  · exact h.elim
theorem rm_rir_e {f : Nat → Int32 → Nat → List Value → Prop} (h : rm_rir st f) : ∃ a i x r, st = .ref x :: .int i :: .ref a :: r ∧ f a i x r := by
  unfold rm_rir at h
  split at h
  · exact ⟨_, _, _, _, rfl, h⟩
  · exact h.elim
theorem rm_x1_e {f : Value → List Value → Prop} (h : rm_x1 st f) : ∃ x r, st = x :: r ∧ f x r := by
  unfold rm_x1 at h
  split at h
  · exact ⟨_, _, rfl, h⟩
  · exact h.elim
theorem rm_x2_e {f : Value → Value → List Value → Prop} (h : rm_x2 st f) : ∃ x y r, st = x :: y :: r ∧ f x y r := by
  unfold rm_x2 at h
  split at h
  · exact ⟨_, _, _, rfl, h⟩
  · exact h.elim
theorem rm_rn_e {f : Nat → List Value → Prop} {g : List Value → Prop} (h : rm_rn st f g) : (∃ x r, st = .ref x :: r ∧ f x r) ∨ ∃ r, st = .null :: r ∧ g r := by
  unfold rm_rn at h
  split at h
  · exact Or.inl ⟨_, _, rfl, h⟩
  · exact Or.inr ⟨_, rfl, h⟩
  · exact h.elim
theorem rm_xr_e {f : Value → Nat → List Value → Prop} (h : rm_xr st f) : ∃ x q r, st = x :: .ref q :: r ∧ f x q r := by
  unfold rm_xr at h
  split at h
  · exact ⟨_, _, _, rfl, h⟩
  · exact h.elim
theorem rm_c5_e {f : Int32 → Int32 → Nat → Int32 → Nat → List Value → Prop} (h : rm_c5 st f) : ∃ n dp d sp q r, st = .int n :: .int dp :: .ref d :: .int sp :: .ref q :: r ∧ f n dp d sp q r := by
  unfold rm_c5 at h
  split at h
  · exact ⟨_, _, _, _, _, _, rfl, h⟩
  · exact h.elim
theorem rm_ob_e {a : Nat} {f : Nat → List Value → Prop} (h : rm_ob H a f) : ∃ ci fs, H[a]? = some (.inr (ci, fs)) ∧ f ci fs := by
  unfold rm_ob at h
  split at h
  · rename_i heq
    exact ⟨_, _, heq, h⟩
  · exact h.elim
theorem rm_ar_e {a : Nat} {f : Nat → Nat → (Nat → Int32) → Prop} (h : rm_ar H a f) : ∃ t n g, H[a]? = some (.inl (t, n, .inl g)) ∧ f t n g := by
  unfold rm_ar at h
  split at h
  · rename_i heq
    exact ⟨_, _, _, heq, h⟩
  · exact h.elim
theorem rm_al_e {a : Nat} {f : Nat → Nat → (Nat → Int64) → Prop} (h : rm_al' H a f) : ∃ t n g, H[a]? = some (.inl (t, n, .inr (.inl g))) ∧ f t n g := by
  unfold rm_al' at h
  split at h
  · rename_i heq
    exact ⟨_, _, _, heq, h⟩
  · exact h.elim
theorem rm_aq_e {a : Nat} {f : Nat → Nat → (Nat → Option Nat) → Prop} (h : rm_aq H a f) : ∃ t n g, H[a]? = some (.inl (t, n, .inr (.inr (.inr (.inr g))))) ∧ f t n g := by
  unfold rm_aq at h
  split at h
  · rename_i heq
    exact ⟨_, _, _, heq, h⟩
  · exact h.elim

theorem rm_s_iadd (hd : decode (rm_cc M) pc = .ok (.iadd, 1)) (hN : ∀ L st H c s, N L st H c s → rm_S M k Q n0 (pc + 1) L st H c s) (h : rm_2i st fun x y r => N L (.int (x + y) :: r) H c s) : rm_S M k Q n0 pc L st H c s := by
  obtain ⟨x, y, r, rfl, h⟩ := rm_2i_e h
  intro p l e S m args below meth cd D ad ct A sz Hp locs ls hC hL
  exact lv_iadd hC.1.1 hC.1.2.1 hd (hN _ _ _ _ _ h p l e S m args below meth cd D ad ct A sz Hp locs ls hC hL)
theorem rm_s_isub (hd : decode (rm_cc M) pc = .ok (.isub, 1)) (hN : ∀ L st H c s, N L st H c s → rm_S M k Q n0 (pc + 1) L st H c s) (h : rm_2i st fun x y r => N L (.int (x - y) :: r) H c s) : rm_S M k Q n0 pc L st H c s := by
  obtain ⟨x, y, r, rfl, h⟩ := rm_2i_e h
  intro p l e S m args below meth cd D ad ct A sz Hp locs ls hC hL
  exact lv_isub hC.1.1 hC.1.2.1 hd (hN _ _ _ _ _ h p l e S m args below meth cd D ad ct A sz Hp locs ls hC hL)
theorem rm_s_imul (hd : decode (rm_cc M) pc = .ok (.imul, 1)) (hN : ∀ L st H c s, N L st H c s → rm_S M k Q n0 (pc + 1) L st H c s) (h : rm_2i st fun x y r => N L (.int (x * y) :: r) H c s) : rm_S M k Q n0 pc L st H c s := by
  obtain ⟨x, y, r, rfl, h⟩ := rm_2i_e h
  intro p l e S m args below meth cd D ad ct A sz Hp locs ls hC hL
  exact lv_imul hC.1.1 hC.1.2.1 hd (hN _ _ _ _ _ h p l e S m args below meth cd D ad ct A sz Hp locs ls hC hL)
theorem rm_s_iand (hd : decode (rm_cc M) pc = .ok (.iand, 1)) (hN : ∀ L st H c s, N L st H c s → rm_S M k Q n0 (pc + 1) L st H c s) (h : rm_2i st fun x y r => N L (.int (x &&& y) :: r) H c s) : rm_S M k Q n0 pc L st H c s := by
  obtain ⟨x, y, r, rfl, h⟩ := rm_2i_e h
  intro p l e S m args below meth cd D ad ct A sz Hp locs ls hC hL
  exact lv_iand hC.1.1 hC.1.2.1 hd (hN _ _ _ _ _ h p l e S m args below meth cd D ad ct A sz Hp locs ls hC hL)
theorem rm_s_ior (hd : decode (rm_cc M) pc = .ok (.ior, 1)) (hN : ∀ L st H c s, N L st H c s → rm_S M k Q n0 (pc + 1) L st H c s) (h : rm_2i st fun x y r => N L (.int (x ||| y) :: r) H c s) : rm_S M k Q n0 pc L st H c s := by
  obtain ⟨x, y, r, rfl, h⟩ := rm_2i_e h
  intro p l e S m args below meth cd D ad ct A sz Hp locs ls hC hL
  exact lv_ior hC.1.1 hC.1.2.1 hd (hN _ _ _ _ _ h p l e S m args below meth cd D ad ct A sz Hp locs ls hC hL)
theorem rm_s_ixor (hd : decode (rm_cc M) pc = .ok (.ixor, 1)) (hN : ∀ L st H c s, N L st H c s → rm_S M k Q n0 (pc + 1) L st H c s) (h : rm_2i st fun x y r => N L (.int (x ^^^ y) :: r) H c s) : rm_S M k Q n0 pc L st H c s := by
  obtain ⟨x, y, r, rfl, h⟩ := rm_2i_e h
  intro p l e S m args below meth cd D ad ct A sz Hp locs ls hC hL
  exact lv_ixor hC.1.1 hC.1.2.1 hd (hN _ _ _ _ _ h p l e S m args below meth cd D ad ct A sz Hp locs ls hC hL)
theorem rm_s_ishl (hd : decode (rm_cc M) pc = .ok (.ishl, 1)) (hN : ∀ L st H c s, N L st H c s → rm_S M k Q n0 (pc + 1) L st H c s) (h : rm_2i st fun x y r => N L (.int (x <<< (y &&& 31)) :: r) H c s) : rm_S M k Q n0 pc L st H c s := by
  obtain ⟨x, y, r, rfl, h⟩ := rm_2i_e h
  intro p l e S m args below meth cd D ad ct A sz Hp locs ls hC hL
  exact lv_ishl hC.1.1 hC.1.2.1 hd (hN _ _ _ _ _ h p l e S m args below meth cd D ad ct A sz Hp locs ls hC hL)
theorem rm_s_ishr (hd : decode (rm_cc M) pc = .ok (.ishr, 1)) (hN : ∀ L st H c s, N L st H c s → rm_S M k Q n0 (pc + 1) L st H c s) (h : rm_2i st fun x y r => N L (.int (x >>> (y &&& 31)) :: r) H c s) : rm_S M k Q n0 pc L st H c s := by
  obtain ⟨x, y, r, rfl, h⟩ := rm_2i_e h
  intro p l e S m args below meth cd D ad ct A sz Hp locs ls hC hL
  exact lv_ishr hC.1.1 hC.1.2.1 hd (hN _ _ _ _ _ h p l e S m args below meth cd D ad ct A sz Hp locs ls hC hL)
theorem rm_s_iushr (hd : decode (rm_cc M) pc = .ok (.iushr, 1)) (hN : ∀ L st H c s, N L st H c s → rm_S M k Q n0 (pc + 1) L st H c s) (h : rm_2i st fun x y r => N L (.int ((x.toUInt32 >>> (y.toUInt32 &&& Int32.toUInt32 31)).toInt32) :: r) H c s) : rm_S M k Q n0 pc L st H c s := by
  obtain ⟨x, y, r, rfl, h⟩ := rm_2i_e h
  intro p l e S m args below meth cd D ad ct A sz Hp locs ls hC hL
  exact lv_iushr hC.1.1 hC.1.2.1 hd rfl (hN _ _ _ _ _ h p l e S m args below meth cd D ad ct A sz Hp locs ls hC hL)
theorem rm_s_idiv (hd : decode (rm_cc M) pc = .ok (.idiv, 1)) (hN : ∀ L st H c s, N L st H c s → rm_S M k Q n0 (pc + 1) L st H c s) (h : rm_2i st fun x y r => ¬ y = 0 ∧ N L (.int (x / y) :: r) H c s) : rm_S M k Q n0 pc L st H c s := by
  obtain ⟨x, y, r, rfl, h0, h⟩ := rm_2i_e h
  intro p l e S m args below meth cd D ad ct A sz Hp locs ls hC hL
  exact lv_idiv hC.1.1 hC.1.2.1 hd h0 (hN _ _ _ _ _ h p l e S m args below meth cd D ad ct A sz Hp locs ls hC hL)
theorem rm_s_irem (hd : decode (rm_cc M) pc = .ok (.irem, 1)) (hN : ∀ L st H c s, N L st H c s → rm_S M k Q n0 (pc + 1) L st H c s) (h : rm_2i st fun x y r => ¬ y = 0 ∧ N L (.int (x - x / y * y) :: r) H c s) : rm_S M k Q n0 pc L st H c s := by
  obtain ⟨x, y, r, rfl, h0, h⟩ := rm_2i_e h
  intro p l e S m args below meth cd D ad ct A sz Hp locs ls hC hL
  exact lv_irem hC.1.1 hC.1.2.1 hd h0 (hN _ _ _ _ _ h p l e S m args below meth cd D ad ct A sz Hp locs ls hC hL)
theorem rm_s_ladd (hd : decode (rm_cc M) pc = .ok (.ladd, 1)) (hN : ∀ L st H c s, N L st H c s → rm_S M k Q n0 (pc + 1) L st H c s) (h : rm_2l st fun x y r => N L (.long (x + y) :: r) H c s) : rm_S M k Q n0 pc L st H c s := by
  obtain ⟨x, y, r, rfl, h⟩ := rm_2l_e h
  intro p l e S m args below meth cd D ad ct A sz Hp locs ls hC hL
  exact lv_ladd hC.1.1 hC.1.2.1 hd (hN _ _ _ _ _ h p l e S m args below meth cd D ad ct A sz Hp locs ls hC hL)
theorem rm_s_lsub (hd : decode (rm_cc M) pc = .ok (.lsub, 1)) (hN : ∀ L st H c s, N L st H c s → rm_S M k Q n0 (pc + 1) L st H c s) (h : rm_2l st fun x y r => N L (.long (x - y) :: r) H c s) : rm_S M k Q n0 pc L st H c s := by
  obtain ⟨x, y, r, rfl, h⟩ := rm_2l_e h
  intro p l e S m args below meth cd D ad ct A sz Hp locs ls hC hL
  exact lv_lsub hC.1.1 hC.1.2.1 hd (hN _ _ _ _ _ h p l e S m args below meth cd D ad ct A sz Hp locs ls hC hL)
theorem rm_s_lmul (hd : decode (rm_cc M) pc = .ok (.lmul, 1)) (hN : ∀ L st H c s, N L st H c s → rm_S M k Q n0 (pc + 1) L st H c s) (h : rm_2l st fun x y r => N L (.long (x * y) :: r) H c s) : rm_S M k Q n0 pc L st H c s := by
  obtain ⟨x, y, r, rfl, h⟩ := rm_2l_e h
  intro p l e S m args below meth cd D ad ct A sz Hp locs ls hC hL
  exact lv_lmul hC.1.1 hC.1.2.1 hd (hN _ _ _ _ _ h p l e S m args below meth cd D ad ct A sz Hp locs ls hC hL)
theorem rm_s_land (hd : decode (rm_cc M) pc = .ok (.land, 1)) (hN : ∀ L st H c s, N L st H c s → rm_S M k Q n0 (pc + 1) L st H c s) (h : rm_2l st fun x y r => N L (.long (x &&& y) :: r) H c s) : rm_S M k Q n0 pc L st H c s := by
  obtain ⟨x, y, r, rfl, h⟩ := rm_2l_e h
  intro p l e S m args below meth cd D ad ct A sz Hp locs ls hC hL
  exact lv_land hC.1.1 hC.1.2.1 hd (hN _ _ _ _ _ h p l e S m args below meth cd D ad ct A sz Hp locs ls hC hL)
theorem rm_s_lor (hd : decode (rm_cc M) pc = .ok (.lor, 1)) (hN : ∀ L st H c s, N L st H c s → rm_S M k Q n0 (pc + 1) L st H c s) (h : rm_2l st fun x y r => N L (.long (x ||| y) :: r) H c s) : rm_S M k Q n0 pc L st H c s := by
  obtain ⟨x, y, r, rfl, h⟩ := rm_2l_e h
  intro p l e S m args below meth cd D ad ct A sz Hp locs ls hC hL
  exact lv_lor hC.1.1 hC.1.2.1 hd (hN _ _ _ _ _ h p l e S m args below meth cd D ad ct A sz Hp locs ls hC hL)
theorem rm_s_ldiv (hd : decode (rm_cc M) pc = .ok (.ldiv, 1)) (hN : ∀ L st H c s, N L st H c s → rm_S M k Q n0 (pc + 1) L st H c s) (h : rm_2l st fun x y r => ¬ y = 0 ∧ N L (.long (x / y) :: r) H c s) : rm_S M k Q n0 pc L st H c s := by
  obtain ⟨x, y, r, rfl, h0, h⟩ := rm_2l_e h
  intro p l e S m args below meth cd D ad ct A sz Hp locs ls hC hL
  exact lv_ldiv hC.1.1 hC.1.2.1 hd h0 (hN _ _ _ _ _ h p l e S m args below meth cd D ad ct A sz Hp locs ls hC hL)
theorem rm_s_lrem (hd : decode (rm_cc M) pc = .ok (.lrem, 1)) (hN : ∀ L st H c s, N L st H c s → rm_S M k Q n0 (pc + 1) L st H c s) (h : rm_2l st fun x y r => ¬ y = 0 ∧ N L (.long (x - x / y * y) :: r) H c s) : rm_S M k Q n0 pc L st H c s := by
  obtain ⟨x, y, r, rfl, h0, h⟩ := rm_2l_e h
  intro p l e S m args below meth cd D ad ct A sz Hp locs ls hC hL
  exact lv_lrem hC.1.1 hC.1.2.1 hd h0 (hN _ _ _ _ _ h p l e S m args below meth cd D ad ct A sz Hp locs ls hC hL)
theorem rm_s_lshl (hd : decode (rm_cc M) pc = .ok (.lshl, 1)) (hN : ∀ L st H c s, N L st H c s → rm_S M k Q n0 (pc + 1) L st H c s) (h : rm_li st fun x y r => N L (.long (x <<< (y.toInt64 &&& 63)) :: r) H c s) : rm_S M k Q n0 pc L st H c s := by
  obtain ⟨x, y, r, rfl, h⟩ := rm_li_e h
  intro p l e S m args below meth cd D ad ct A sz Hp locs ls hC hL
  exact lv_lshl hC.1.1 hC.1.2.1 hd rfl (hN _ _ _ _ _ h p l e S m args below meth cd D ad ct A sz Hp locs ls hC hL)
theorem rm_s_lshr (hd : decode (rm_cc M) pc = .ok (.lshr, 1)) (hN : ∀ L st H c s, N L st H c s → rm_S M k Q n0 (pc + 1) L st H c s) (h : rm_li st fun x y r => N L (.long (x >>> (y.toInt64 &&& 63)) :: r) H c s) : rm_S M k Q n0 pc L st H c s := by
  obtain ⟨x, y, r, rfl, h⟩ := rm_li_e h
  intro p l e S m args below meth cd D ad ct A sz Hp locs ls hC hL
  exact lv_lshr hC.1.1 hC.1.2.1 hd rfl (hN _ _ _ _ _ h p l e S m args below meth cd D ad ct A sz Hp locs ls hC hL)
theorem rm_s_lcmp (hd : decode (rm_cc M) pc = .ok (.lcmp, 1)) (hN : ∀ L st H c s, N L st H c s → rm_S M k Q n0 (pc + 1) L st H c s) (h : rm_2l st fun x y r => N L (.int (lg_cmp x y) :: r) H c s) : rm_S M k Q n0 pc L st H c s := by
  obtain ⟨x, y, r, rfl, h⟩ := rm_2l_e h
  intro p l e S m args below meth cd D ad ct A sz Hp locs ls hC hL
  exact W.lcmp hC.1.1 hC.1.2.1 hd (hN _ _ _ _ _ h p l e S m args below meth cd D ad ct A sz Hp locs ls hC hL)
theorem rm_s_i2l (hd : decode (rm_cc M) pc = .ok (.i2l, 1)) (hN : ∀ L st H c s, N L st H c s → rm_S M k Q n0 (pc + 1) L st H c s) (h : rm_1i st fun x r => N L (.long x.toInt64 :: r) H c s) : rm_S M k Q n0 pc L st H c s := by
  obtain ⟨x, r, rfl, h⟩ := rm_1i_e h
  intro p l e S m args below meth cd D ad ct A sz Hp locs ls hC hL
  exact lv_i2l hC.1.1 hC.1.2.1 hd rfl (hN _ _ _ _ _ h p l e S m args below meth cd D ad ct A sz Hp locs ls hC hL)
theorem rm_s_l2i (hd : decode (rm_cc M) pc = .ok (.l2i, 1)) (hN : ∀ L st H c s, N L st H c s → rm_S M k Q n0 (pc + 1) L st H c s) (h : rm_1l st fun x r => N L (.int x.toInt32 :: r) H c s) : rm_S M k Q n0 pc L st H c s := by
  obtain ⟨x, r, rfl, h⟩ := rm_1l_e h
  intro p l e S m args below meth cd D ad ct A sz Hp locs ls hC hL
  exact lv_l2i hC.1.1 hC.1.2.1 hd rfl (hN _ _ _ _ _ h p l e S m args below meth cd D ad ct A sz Hp locs ls hC hL)
theorem rm_s_i2b (hd : decode (rm_cc M) pc = .ok (.i2b, 1)) (hN : ∀ L st H c s, N L st H c s → rm_S M k Q n0 (pc + 1) L st H c s) (h : rm_1i st fun x r => N L (.int x.toInt8.toInt32 :: r) H c s) : rm_S M k Q n0 pc L st H c s := by
  obtain ⟨x, r, rfl, h⟩ := rm_1i_e h
  intro p l e S m args below meth cd D ad ct A sz Hp locs ls hC hL
  exact lv_i2b hC.1.1 hC.1.2.1 hd rfl (hN _ _ _ _ _ h p l e S m args below meth cd D ad ct A sz Hp locs ls hC hL)
theorem rm_s_i2c (hd : decode (rm_cc M) pc = .ok (.i2c, 1)) (hN : ∀ L st H c s, N L st H c s → rm_S M k Q n0 (pc + 1) L st H c s) (h : rm_1i st fun x r => N L (.int (x.toUInt32 % 65536).toInt32 :: r) H c s) : rm_S M k Q n0 pc L st H c s := by
  obtain ⟨x, r, rfl, h⟩ := rm_1i_e h
  intro p l e S m args below meth cd D ad ct A sz Hp locs ls hC hL
  exact lv_i2c hC.1.1 hC.1.2.1 hd rfl (hN _ _ _ _ _ h p l e S m args below meth cd D ad ct A sz Hp locs ls hC hL)
theorem rm_s_iconst {n : Int} {v : Int32} (hd : decode (rm_cc M) pc = .ok (.iconst n, 1)) (hv : Int32.ofInt n = v) (hN : ∀ L st H c s, N L st H c s → rm_S M k Q n0 (pc + 1) L st H c s) (h : N L (.int v :: st) H c s) : rm_S M k Q n0 pc L st H c s := by
  intro p l e S m args below meth cd D ad ct A sz Hp locs ls hC hL
  exact lv_iconst hC.1.1 hC.1.2.1 hd hv (hN _ _ _ _ _ h p l e S m args below meth cd D ad ct A sz Hp locs ls hC hL)
theorem rm_s_bipush {n : Int} {v : Int32} (hd : decode (rm_cc M) pc = .ok (.bipush n, 2)) (hv : (Int8.ofInt n).toInt32 = v) (hN : ∀ L st H c s, N L st H c s → rm_S M k Q n0 (pc + 2) L st H c s) (h : N L (.int v :: st) H c s) : rm_S M k Q n0 pc L st H c s := by
  intro p l e S m args below meth cd D ad ct A sz Hp locs ls hC hL
  exact lv_bipush hC.1.1 hC.1.2.1 hd hv (hN _ _ _ _ _ h p l e S m args below meth cd D ad ct A sz Hp locs ls hC hL)
theorem rm_s_sipush {n : Int} {v : Int32} (hd : decode (rm_cc M) pc = .ok (.sipush n, 3)) (hv : (Int16.ofInt n).toInt32 = v) (hN : ∀ L st H c s, N L st H c s → rm_S M k Q n0 (pc + 3) L st H c s) (h : N L (.int v :: st) H c s) : rm_S M k Q n0 pc L st H c s := by
  intro p l e S m args below meth cd D ad ct A sz Hp locs ls hC hL
  exact lv_sipush hC.1.1 hC.1.2.1 hd hv (hN _ _ _ _ _ h p l e S m args below meth cd D ad ct A sz Hp locs ls hC hL)
theorem rm_s_lconst {n : Fin 2} {v : Int64} (hd : decode (rm_cc M) pc = .ok (.lconst n, 1)) (hv : Int64.ofNat (n : Nat) = v) (hN : ∀ L st H c s, N L st H c s → rm_S M k Q n0 (pc + 1) L st H c s) (h : N L (.long v :: st) H c s) : rm_S M k Q n0 pc L st H c s := by
  intro p l e S m args below meth cd D ad ct A sz Hp locs ls hC hL
  exact lv_lconst hC.1.1 hC.1.2.1 hd hv (hN _ _ _ _ _ h p l e S m args below meth cd D ad ct A sz Hp locs ls hC hL)
theorem rm_s_null (hd : decode (rm_cc M) pc = .ok (.aconst_null, 1)) (hN : ∀ L st H c s, N L st H c s → rm_S M k Q n0 (pc + 1) L st H c s) (h : N L (.null :: st) H c s) : rm_S M k Q n0 pc L st H c s := by
  intro p l e S m args below meth cd D ad ct A sz Hp locs ls hC hL
  exact lv_null hC.1.1 hC.1.2.1 hd (hN _ _ _ _ _ h p l e S m args below meth cd D ad ct A sz Hp locs ls hC hL)
theorem rm_s_ldc {index : Nat} {v : Int32} (hd : decode (rm_cc M) pc = .ok (.ldc index, 2)) (hw : Cond.constant (rm_y M).cls index v ∈ rm_T) (hN : ∀ L st H c s, N L st H c s → rm_S M k Q n0 (pc + 2) L st H c s) (h : N L (.int v :: st) H c s) : rm_S M k Q n0 pc L st H c s := by
  intro p l e S m args below meth cd D ad ct A sz Hp locs ls hC hL
  exact lv_ldc hC.1.1 hC.1.2.1 hC.1.2.2.2.2.1 (hC.1.2.2.2.2.2.1 _ (List.mem_cons_of_mem _ hw)) hd (hN _ _ _ _ _ h p l e S m args below meth cd D ad ct A sz Hp locs ls hC hL)
theorem rm_s_ldcw {index : Nat} {v : Int32} (hd : decode (rm_cc M) pc = .ok (.ldc_w index, 3)) (hw : Cond.constant (rm_y M).cls index v ∈ rm_T) (hN : ∀ L st H c s, N L st H c s → rm_S M k Q n0 (pc + 3) L st H c s) (h : N L (.int v :: st) H c s) : rm_S M k Q n0 pc L st H c s := by
  intro p l e S m args below meth cd D ad ct A sz Hp locs ls hC hL
  exact lv_ldcw hC.1.1 hC.1.2.1 hC.1.2.2.2.2.1 (hC.1.2.2.2.2.2.1 _ (List.mem_cons_of_mem _ hw)) hd (hN _ _ _ _ _ h p l e S m args below meth cd D ad ct A sz Hp locs ls hC hL)
theorem rm_s_ldc2 {index : Nat} {v : Int64} (hd : decode (rm_cc M) pc = .ok (.ldc2_w index, 3)) (hw : Cond.constantLong (rm_y M).cls index v ∈ rm_T) (hN : ∀ L st H c s, N L st H c s → rm_S M k Q n0 (pc + 3) L st H c s) (h : N L (.long v :: st) H c s) : rm_S M k Q n0 pc L st H c s := by
  intro p l e S m args below meth cd D ad ct A sz Hp locs ls hC hL
  exact lv_ldc2 hC.1.1 hC.1.2.1 hC.1.2.2.2.2.1 (hC.1.2.2.2.2.2.1 _ (List.mem_cons_of_mem _ hw)) hd (hN _ _ _ _ _ h p l e S m args below meth cd D ad ct A sz Hp locs ls hC hL)
theorem rm_s_ldcS {index j : Nat} {tx : String} (hd : decode (rm_cc M) pc = .ok (.ldc index, 2)) (hj : rm_str[j]? = some ((rm_y M).cls, index, tx)) (hN : ∀ L st H c s, N L st H c s → rm_S M k Q n0 (pc + 2) L st H c s) (h : N L (.ref (rm_SB + j) :: st) H c s) : rm_S M k Q n0 pc L st H c s := by
  intro p l e S m args below meth cd D ad ct A sz Hp locs ls hC hL
  exact va_ldcS hC.1.1 hC.1.2.1 hC.1.2.2.2.2.1 (hC.2.2.1.2.2.1 j _ hj) hd (hN _ _ _ _ _ h p l e S m args below meth cd D ad ct A sz Hp locs ls hC hL)
theorem rm_s_iload_n {q : Fin 4} {i : Nat} (hd : decode (rm_cc M) pc = .ok (.iload_n q, 1)) (hi : (q : Nat) = i) (hN : ∀ L st H c s, N L st H c s → rm_S M k Q n0 (pc + 1) L st H c s) (h : match L[i]? with | some (some (.int x)) => N L (.int x :: st) H c s | _ => False) : rm_S M k Q n0 pc L st H c s := by
  split at h
  · rename_i x heq
    intro p l e S m args below meth cd D ad ct A sz Hp locs ls hC hL
    exact lv_iload_n hC.1.1 hC.1.2.1 hd hi (hL.2.2 _ _ heq) (hN _ _ _ _ _ h p l e S m args below meth cd D ad ct A sz Hp locs ls hC hL)
  · exact h.elim
theorem rm_s_iload {i : Nat} (hd : decode (rm_cc M) pc = .ok (.iload i, 2)) (hN : ∀ L st H c s, N L st H c s → rm_S M k Q n0 (pc + 2) L st H c s) (h : match L[i]? with | some (some (.int x)) => N L (.int x :: st) H c s | _ => False) : rm_S M k Q n0 pc L st H c s := by
  split at h
  · rename_i x heq
    intro p l e S m args below meth cd D ad ct A sz Hp locs ls hC hL
    exact lv_iload hC.1.1 hC.1.2.1 hd (hL.2.2 _ _ heq) (hN _ _ _ _ _ h p l e S m args below meth cd D ad ct A sz Hp locs ls hC hL)
  · exact h.elim
theorem rm_s_lload_n {q : Fin 4} {i : Nat} (hd : decode (rm_cc M) pc = .ok (.lload_n q, 1)) (hi : (q : Nat) = i) (hN : ∀ L st H c s, N L st H c s → rm_S M k Q n0 (pc + 1) L st H c s) (h : match L[i]? with | some (some (.long x)) => N L (.long x :: st) H c s | _ => False) : rm_S M k Q n0 pc L st H c s := by
  split at h
  · rename_i x heq
    intro p l e S m args below meth cd D ad ct A sz Hp locs ls hC hL
    exact lv_lload_n hC.1.1 hC.1.2.1 hd hi (hL.2.2 _ _ heq) (hN _ _ _ _ _ h p l e S m args below meth cd D ad ct A sz Hp locs ls hC hL)
  · exact h.elim
theorem rm_s_lload {i : Nat} (hd : decode (rm_cc M) pc = .ok (.lload i, 2)) (hN : ∀ L st H c s, N L st H c s → rm_S M k Q n0 (pc + 2) L st H c s) (h : match L[i]? with | some (some (.long x)) => N L (.long x :: st) H c s | _ => False) : rm_S M k Q n0 pc L st H c s := by
  split at h
  · rename_i x heq
    intro p l e S m args below meth cd D ad ct A sz Hp locs ls hC hL
    exact lv_lload hC.1.1 hC.1.2.1 hd (hL.2.2 _ _ heq) (hN _ _ _ _ _ h p l e S m args below meth cd D ad ct A sz Hp locs ls hC hL)
  · exact h.elim
theorem rm_s_aload_n {q : Fin 4} {i : Nat} (hd : decode (rm_cc M) pc = .ok (.aload_n q, 1)) (hi : (q : Nat) = i) (hN : ∀ L st H c s, N L st H c s → rm_S M k Q n0 (pc + 1) L st H c s) (h : match L[i]? with | some (some (.ref x)) => N L (.ref x :: st) H c s | some (some .null) => N L (.null :: st) H c s | _ => False) : rm_S M k Q n0 pc L st H c s := by
  split at h
  · rename_i x heq
    intro p l e S m args below meth cd D ad ct A sz Hp locs ls hC hL
    exact lv_aload_n hC.1.1 hC.1.2.1 hd hi (hL.2.2 _ _ heq) (hN _ _ _ _ _ h p l e S m args below meth cd D ad ct A sz Hp locs ls hC hL)
  · rename_i heq
    intro p l e S m args below meth cd D ad ct A sz Hp locs ls hC hL
    exact lv_aload_nN hC.1.1 hC.1.2.1 hd hi (hL.2.2 _ _ heq) (hN _ _ _ _ _ h p l e S m args below meth cd D ad ct A sz Hp locs ls hC hL)
  · exact h.elim
theorem rm_s_aload {i : Nat} (hd : decode (rm_cc M) pc = .ok (.aload i, 2)) (hN : ∀ L st H c s, N L st H c s → rm_S M k Q n0 (pc + 2) L st H c s) (h : match L[i]? with | some (some (.ref x)) => N L (.ref x :: st) H c s | some (some .null) => N L (.null :: st) H c s | _ => False) : rm_S M k Q n0 pc L st H c s := by
  split at h
  · rename_i x heq
    intro p l e S m args below meth cd D ad ct A sz Hp locs ls hC hL
    exact lv_aload hC.1.1 hC.1.2.1 hd (hL.2.2 _ _ heq) (hN _ _ _ _ _ h p l e S m args below meth cd D ad ct A sz Hp locs ls hC hL)
  · rename_i heq
    intro p l e S m args below meth cd D ad ct A sz Hp locs ls hC hL
    exact lv_aloadN hC.1.1 hC.1.2.1 hd (hL.2.2 _ _ heq) (hN _ _ _ _ _ h p l e S m args below meth cd D ad ct A sz Hp locs ls hC hL)
  · exact h.elim
/-- the locals as the kit has them -/
def rm_lv (ad : Nat → Nat) (L : rm_L) : List (Nat × Value) := (L.zipIdx.filterMap (fun q => q.1.map (fun v => (q.2, rm_cv ad v))))
theorem rm_lv_mem {ad : Nat → Nat} {i : Nat} {v : Value} (h : L[i]? = some (some v)) : (i, rm_cv ad v) ∈ rm_lv ad L := by
  refine List.mem_filterMap.mpr ⟨(some v, i), ?_, rfl⟩
  exact List.mem_zipIdx_iff_getElem?.mpr h
theorem rm_lv_has {ad : Nat → Nat} {ls : Array Slot} {n : Nat} (h : rm_LR ad L ls n) : lv_has ls n (rm_lv ad L) := by
  refine ⟨h.1, h.2.1, fun q hq => ?_⟩
  obtain ⟨x, hx, hy⟩ := List.mem_filterMap.mp hq
  have h1 := List.mem_zipIdx_iff_getElem?.mp hx
  cases h2 : x.1 with
  | none => rw [h2] at hy; cases hy
  | some v =>
    rw [h2] at hy
    cases hy
    rw [h2] at h1
    exact h.2.2 _ _ h1
theorem rm_pv_no {i j : Nat} {w : Value} (h : rm_pv L i) (hj : L[j]? = some (some w)) (hi : j + 1 = i) : ¬ w.category = 2 := by
  subst hi
  unfold rm_pv at h
  dsimp only at h
  rw [hj] at h
  intro hc
  cases w <;> simp_all [Value.category]
theorem rm_put1 {ad : Nat → Nat} {ls : Array Slot} {n i : Nat} {v : Value} (hp : rm_pv L i) (h : lv_has ls n ((i, rm_cv ad v) :: (rm_lv ad L).filter (fun q => !(q.1 == i) && !(q.1 + 1 == i && q.2.category == 2)))) : rm_LR ad (L.set i (some v)) ls n := by
  refine ⟨h.1, h.2.1, fun j w hj => ?_⟩
  rw [List.getElem?_set] at hj
  by_cases hij : i = j
  · subst hij
    rw [if_pos rfl] at hj
    split at hj
    · cases hj
      exact h.2.2 (i, rm_cv ad v) List.mem_cons_self
    · cases hj
  · rw [if_neg hij] at hj
    refine h.2.2 (j, rm_cv ad w) (List.mem_cons_of_mem _ (List.mem_filter.mpr ⟨rm_lv_mem hj, ?_⟩))
    have h1 : ¬ j = i := fun q => hij q.symm
    by_cases h2 : j + 1 = i
    · have h3 := rm_pv_no hp hj h2
      simp [h1, h2, rm_cv_cat, h3]
    · simp [h1, h2]
theorem rm_put2 {ad : Nat → Nat} {ls : Array Slot} {n i : Nat} {v : Value} (hp : rm_pv L i) (h : lv_has ls n ((i, rm_cv ad v) :: (rm_lv ad L).filter (fun q => !(q.1 == i) && (!(q.1 == i + 1) && !(q.1 + 1 == i && q.2.category == 2))))) : rm_LR ad ((L.set i (some v)).set (i + 1) none) ls n := by
  refine ⟨h.1, h.2.1, fun j w hj => ?_⟩
  rw [List.getElem?_set, List.getElem?_set] at hj
  by_cases hi1 : i + 1 = j
  · rw [if_pos hi1] at hj
    split at hj <;> cases hj
  · rw [if_neg hi1] at hj
    by_cases hij : i = j
    · subst hij
      rw [if_pos rfl] at hj
      split at hj
      · cases hj
        exact h.2.2 (i, rm_cv ad v) List.mem_cons_self
      · cases hj
    · rw [if_neg hij] at hj
      refine h.2.2 (j, rm_cv ad w) (List.mem_cons_of_mem _ (List.mem_filter.mpr ⟨rm_lv_mem hj, ?_⟩))
      have h1 : ¬ j = i := fun q => hij q.symm
      have h4 : ¬ j = i + 1 := fun q => hi1 q.symm
      by_cases h2 : j + 1 = i
      · have h3 := rm_pv_no hp hj h2
        simp [h1, h2, h4, rm_cv_cat, h3]
      · simp [h1, h2, h4]
theorem rm_s_istore_n {q : Fin 4} {i : Nat} (hd : decode (rm_cc M) pc = .ok (.istore_n q, 1)) (hi : (q : Nat) = i) (hn : i < rm_ml M) (hN : ∀ L st H c s, N L st H c s → rm_S M k Q n0 (pc + 1) L st H c s) (h : rm_1i st fun x r => rm_pv L i ∧ N (L.set i (some (.int x))) r H c s) : rm_S M k Q n0 pc L st H c s := by
  obtain ⟨x, r, rfl, hp, h⟩ := rm_1i_e h
  intro p l e S m args below meth cd D ad ct A sz Hp locs ls hC hL
  exact lv_istore_n (lv := rm_lv ad L) hC.1.1 hC.1.2.1 hd hi (rm_lv_has hL) hn rfl (fun ls' hl' => hN _ _ _ _ _ h p l e S m args below meth cd D ad ct A sz Hp locs ls' hC (rm_put1 (v := .int x) hp hl'))
theorem rm_s_istore {i : Nat} (hd : decode (rm_cc M) pc = .ok (.istore i, 2)) (hn : i < rm_ml M) (hN : ∀ L st H c s, N L st H c s → rm_S M k Q n0 (pc + 2) L st H c s) (h : rm_1i st fun x r => rm_pv L i ∧ N (L.set i (some (.int x))) r H c s) : rm_S M k Q n0 pc L st H c s := by
  obtain ⟨x, r, rfl, hp, h⟩ := rm_1i_e h
  intro p l e S m args below meth cd D ad ct A sz Hp locs ls hC hL
  exact lv_istore (lv := rm_lv ad L) hC.1.1 hC.1.2.1 hd (rm_lv_has hL) hn rfl (fun ls' hl' => hN _ _ _ _ _ h p l e S m args below meth cd D ad ct A sz Hp locs ls' hC (rm_put1 (v := .int x) hp hl'))
theorem rm_s_lstore_n {q : Fin 4} {i : Nat} (hd : decode (rm_cc M) pc = .ok (.lstore_n q, 1)) (hi : (q : Nat) = i) (hn : i + 1 < rm_ml M) (hN : ∀ L st H c s, N L st H c s → rm_S M k Q n0 (pc + 1) L st H c s) (h : rm_1l st fun x r => rm_pv L i ∧ N ((L.set i (some (.long x))).set (i + 1) none) r H c s) : rm_S M k Q n0 pc L st H c s := by
  obtain ⟨x, r, rfl, hp, h⟩ := rm_1l_e h
  intro p l e S m args below meth cd D ad ct A sz Hp locs ls hC hL
  exact lv_lstore_n (lv := rm_lv ad L) hC.1.1 hC.1.2.1 hd hi (rm_lv_has hL) hn rfl (fun ls' hl' => hN _ _ _ _ _ h p l e S m args below meth cd D ad ct A sz Hp locs ls' hC (rm_put2 (v := .long x) hp hl'))
theorem rm_s_lstore {i : Nat} (hd : decode (rm_cc M) pc = .ok (.lstore i, 2)) (hn : i + 1 < rm_ml M) (hN : ∀ L st H c s, N L st H c s → rm_S M k Q n0 (pc + 2) L st H c s) (h : rm_1l st fun x r => rm_pv L i ∧ N ((L.set i (some (.long x))).set (i + 1) none) r H c s) : rm_S M k Q n0 pc L st H c s := by
  obtain ⟨x, r, rfl, hp, h⟩ := rm_1l_e h
  intro p l e S m args below meth cd D ad ct A sz Hp locs ls hC hL
  exact lv_lstore (lv := rm_lv ad L) hC.1.1 hC.1.2.1 hd (rm_lv_has hL) hn rfl (fun ls' hl' => hN _ _ _ _ _ h p l e S m args below meth cd D ad ct A sz Hp locs ls' hC (rm_put2 (v := .long x) hp hl'))
theorem rm_s_astore_n {q : Fin 4} {i : Nat} (hd : decode (rm_cc M) pc = .ok (.astore_n q, 1)) (hi : (q : Nat) = i) (hn : i < rm_ml M) (hN : ∀ L st H c s, N L st H c s → rm_S M k Q n0 (pc + 1) L st H c s) (h : rm_rn st (fun x r => rm_pv L i ∧ N (L.set i (some (.ref x))) r H c s) (fun r => rm_pv L i ∧ N (L.set i (some .null)) r H c s)) : rm_S M k Q n0 pc L st H c s := by
  rcases rm_rn_e h with ⟨x, r, rfl, h1⟩ | ⟨r, rfl, h1⟩
  · intro p l e S m args below meth cd D ad ct A sz Hp locs ls hC hL
    exact lv_astore_n (lv := rm_lv ad L) hC.1.1 hC.1.2.1 hd hi (rm_lv_has hL) hn rfl (fun ls' hl' => hN _ _ _ _ _ h1.2 p l e S m args below meth cd D ad ct A sz Hp locs ls' hC (rm_put1 (v := .ref x) h1.1 hl'))
  · intro p l e S m args below meth cd D ad ct A sz Hp locs ls hC hL
    exact lv_astore_nN (lv := rm_lv ad L) hC.1.1 hC.1.2.1 hd hi (rm_lv_has hL) hn rfl (fun ls' hl' => hN _ _ _ _ _ h1.2 p l e S m args below meth cd D ad ct A sz Hp locs ls' hC (rm_put1 (v := .null) h1.1 hl'))
theorem rm_s_astore {i : Nat} (hd : decode (rm_cc M) pc = .ok (.astore i, 2)) (hn : i < rm_ml M) (hN : ∀ L st H c s, N L st H c s → rm_S M k Q n0 (pc + 2) L st H c s) (h : rm_rn st (fun x r => rm_pv L i ∧ N (L.set i (some (.ref x))) r H c s) (fun r => rm_pv L i ∧ N (L.set i (some .null)) r H c s)) : rm_S M k Q n0 pc L st H c s := by
  rcases rm_rn_e h with ⟨x, r, rfl, h1⟩ | ⟨r, rfl, h1⟩
  · intro p l e S m args below meth cd D ad ct A sz Hp locs ls hC hL
    exact lv_astore (lv := rm_lv ad L) hC.1.1 hC.1.2.1 hd (rm_lv_has hL) hn rfl (fun ls' hl' => hN _ _ _ _ _ h1.2 p l e S m args below meth cd D ad ct A sz Hp locs ls' hC (rm_put1 (v := .ref x) h1.1 hl'))
  · intro p l e S m args below meth cd D ad ct A sz Hp locs ls hC hL
    exact lv_astoreN (lv := rm_lv ad L) hC.1.1 hC.1.2.1 hd (rm_lv_has hL) hn rfl (fun ls' hl' => hN _ _ _ _ _ h1.2 p l e S m args below meth cd D ad ct A sz Hp locs ls' hC (rm_put1 (v := .null) h1.1 hl'))
theorem rm_s_iinc {i : Nat} {n : Int} {d : Int32} (hd : decode (rm_cc M) pc = .ok (.iinc i n, 3)) (hv : Int32.ofInt n = d) (hn : i < rm_ml M) (hN : ∀ L st H c s, N L st H c s → rm_S M k Q n0 (pc + 3) L st H c s) (h : match L[i]?, Value.int d with | some (some (.int x)), .int d => rm_pv L i ∧ N (L.set i (some (.int (x + d)))) st H c s | _, _ => False) : rm_S M k Q n0 pc L st H c s := by
  split at h
  · rename_i x d' heq hdd
    cases hdd
    intro p l e S m args below meth cd D ad ct A sz Hp locs ls hC hL
    obtain ⟨j, hj⟩ := List.getElem?_of_mem (rm_lv_mem (ad := ad) heq)
    subst hv
    exact lv_iinc (lv := rm_lv ad L) (k := j) hC.1.1 hC.1.2.1 hd (rm_lv_has hL) hj rfl hn rfl (fun ls' hl' => hN _ _ _ _ _ h.2 p l e S m args below meth cd D ad ct A sz Hp locs ls' hC (rm_put1 (v := .int (x + Int32.ofInt n)) h.1 hl'))
  · exact h.elim
theorem rm_s_dup (hd : decode (rm_cc M) pc = .ok (.dup, 1)) (hN : ∀ L st H c s, N L st H c s → rm_S M k Q n0 (pc + 1) L st H c s) (h : rm_x1 st fun x r => x.category = 1 ∧ N L (x :: x :: r) H c s) : rm_S M k Q n0 pc L st H c s := by
  obtain ⟨x, r, rfl, h1, h2⟩ := rm_x1_e h
  intro p l e S m args below meth cd D ad ct A sz Hp locs ls hC hL
  exact lv_dup hC.1.1 hC.1.2.1 hd (by rw [rm_cv_cat]; exact h1) (hN _ _ _ _ _ h2 p l e S m args below meth cd D ad ct A sz Hp locs ls hC hL)
theorem rm_s_pop (hd : decode (rm_cc M) pc = .ok (.pop, 1)) (hN : ∀ L st H c s, N L st H c s → rm_S M k Q n0 (pc + 1) L st H c s) (h : rm_x1 st fun x r => x.category = 1 ∧ N L r H c s) : rm_S M k Q n0 pc L st H c s := by
  obtain ⟨x, r, rfl, h1, h2⟩ := rm_x1_e h
  intro p l e S m args below meth cd D ad ct A sz Hp locs ls hC hL
  exact lv_pop (va := rm_cv ad x) hC.1.1 hC.1.2.1 hd (by rw [rm_cv_cat]; exact h1) (hN _ _ _ _ _ h2 p l e S m args below meth cd D ad ct A sz Hp locs ls hC hL)
theorem rm_s_dup2 (hd : decode (rm_cc M) pc = .ok (.dup2, 1)) (hN : ∀ L st H c s, N L st H c s → rm_S M k Q n0 (pc + 1) L st H c s) (h : rm_x2 st fun x y r => x.category = 1 ∧ y.category = 1 ∧ N L (x :: y :: x :: y :: r) H c s) : rm_S M k Q n0 pc L st H c s := by
  obtain ⟨x, y, r, rfl, h1, h2, h3⟩ := rm_x2_e h
  intro p l e S m args below meth cd D ad ct A sz Hp locs ls hC hL
  exact lv_dup2_11 hC.1.1 hC.1.2.1 hd (by rw [rm_cv_cat]; exact h1) (by rw [rm_cv_cat]; exact h2) (hN _ _ _ _ _ h3 p l e S m args below meth cd D ad ct A sz Hp locs ls hC hL)
theorem rm_s_dup_x1 (hd : decode (rm_cc M) pc = .ok (.dup_x1, 1)) (hN : ∀ L st H c s, N L st H c s → rm_S M k Q n0 (pc + 1) L st H c s) (h : rm_x2 st fun x y r => x.category = 1 ∧ y.category = 1 ∧ N L (x :: y :: x :: r) H c s) : rm_S M k Q n0 pc L st H c s := by
  obtain ⟨x, y, r, rfl, h1, h2, h3⟩ := rm_x2_e h
  intro p l e S m args below meth cd D ad ct A sz Hp locs ls hC hL
  exact lv_dup_x1 hC.1.1 hC.1.2.1 hd (by rw [rm_cv_cat]; exact h1) (by rw [rm_cv_cat]; exact h2) (hN _ _ _ _ _ h3 p l e S m args below meth cd D ad ct A sz Hp locs ls hC hL)
theorem rm_s_if {o : ClassFile.Cond} {off : Int} {a : Nat} (hd : decode (rm_cc M) pc = .ok (.ifCond o off, 3)) (ht : (pc : Int) + off = (a : Int)) (hN : ∀ L st H c s, N L st H c s → rm_S M k Q n0 (pc + 3) L st H c s) (hJ : ∀ pc L st H c s, J pc L st H c s → rm_S M k Q n0 pc L st H c s) (h : rm_1i st fun x r => (rm_cond o x 0 → J a L r H c s) ∧ (¬ rm_cond o x 0 → N L r H c s)) : rm_S M k Q n0 pc L st H c s := by
  obtain ⟨x, r, rfl, h1, h2⟩ := rm_1i_e h
  intro p l e S m args below meth cd D ad ct A sz Hp locs ls hC hL
  cases o with
  | eq => exact lv_if_eq hC.1.1 hC.1.2.1 hd ht (fun q => hJ _ _ _ _ _ _ (h1 q) p l e S m args below meth cd D ad ct A sz Hp locs ls hC hL) (fun q => hN _ _ _ _ _ (h2 q) p l e S m args below meth cd D ad ct A sz Hp locs ls hC hL)
  | ne => exact lv_if_ne hC.1.1 hC.1.2.1 hd ht (fun q => hJ _ _ _ _ _ _ (h1 q) p l e S m args below meth cd D ad ct A sz Hp locs ls hC hL) (fun q => hN _ _ _ _ _ (h2 (fun z => z q)) p l e S m args below meth cd D ad ct A sz Hp locs ls hC hL)
  | lt => exact lv_if_lt hC.1.1 hC.1.2.1 hd ht (fun q => hJ _ _ _ _ _ _ (h1 q) p l e S m args below meth cd D ad ct A sz Hp locs ls hC hL) (fun q => hN _ _ _ _ _ (h2 q) p l e S m args below meth cd D ad ct A sz Hp locs ls hC hL)
  | ge => exact lv_if_ge hC.1.1 hC.1.2.1 hd ht (fun q => hJ _ _ _ _ _ _ (h1 q) p l e S m args below meth cd D ad ct A sz Hp locs ls hC hL) (fun q => hN _ _ _ _ _ (h2 q) p l e S m args below meth cd D ad ct A sz Hp locs ls hC hL)
  | gt => exact lv_if_gt hC.1.1 hC.1.2.1 hd ht (fun q => hJ _ _ _ _ _ _ (h1 q) p l e S m args below meth cd D ad ct A sz Hp locs ls hC hL) (fun q => hN _ _ _ _ _ (h2 q) p l e S m args below meth cd D ad ct A sz Hp locs ls hC hL)
  | le => exact lv_if_le hC.1.1 hC.1.2.1 hd ht (fun q => hJ _ _ _ _ _ _ (h1 q) p l e S m args below meth cd D ad ct A sz Hp locs ls hC hL) (fun q => hN _ _ _ _ _ (h2 q) p l e S m args below meth cd D ad ct A sz Hp locs ls hC hL)
theorem rm_s_icmp {o : ClassFile.Cond} {off : Int} {a : Nat} (hd : decode (rm_cc M) pc = .ok (.if_icmp o off, 3)) (ht : (pc : Int) + off = (a : Int)) (hN : ∀ L st H c s, N L st H c s → rm_S M k Q n0 (pc + 3) L st H c s) (hJ : ∀ pc L st H c s, J pc L st H c s → rm_S M k Q n0 pc L st H c s) (h : rm_2i st fun x y r => (rm_cond o x y → J a L r H c s) ∧ (¬ rm_cond o x y → N L r H c s)) : rm_S M k Q n0 pc L st H c s := by
  obtain ⟨x, y, r, rfl, h1, h2⟩ := rm_2i_e h
  intro p l e S m args below meth cd D ad ct A sz Hp locs ls hC hL
  cases o with
  | eq => exact lv_icmp_eq hC.1.1 hC.1.2.1 hd ht (fun q => hJ _ _ _ _ _ _ (h1 q) p l e S m args below meth cd D ad ct A sz Hp locs ls hC hL) (fun q => hN _ _ _ _ _ (h2 q) p l e S m args below meth cd D ad ct A sz Hp locs ls hC hL)
  | ne => exact lv_icmp_ne hC.1.1 hC.1.2.1 hd ht (fun q => hJ _ _ _ _ _ _ (h1 q) p l e S m args below meth cd D ad ct A sz Hp locs ls hC hL) (fun q => hN _ _ _ _ _ (h2 (fun z => z q)) p l e S m args below meth cd D ad ct A sz Hp locs ls hC hL)
  | lt => exact lv_icmp_lt hC.1.1 hC.1.2.1 hd ht (fun q => hJ _ _ _ _ _ _ (h1 q) p l e S m args below meth cd D ad ct A sz Hp locs ls hC hL) (fun q => hN _ _ _ _ _ (h2 q) p l e S m args below meth cd D ad ct A sz Hp locs ls hC hL)
  | ge => exact lv_icmp_ge hC.1.1 hC.1.2.1 hd ht (fun q => hJ _ _ _ _ _ _ (h1 q) p l e S m args below meth cd D ad ct A sz Hp locs ls hC hL) (fun q => hN _ _ _ _ _ (h2 q) p l e S m args below meth cd D ad ct A sz Hp locs ls hC hL)
  | gt => exact lv_icmp_gt hC.1.1 hC.1.2.1 hd ht (fun q => hJ _ _ _ _ _ _ (h1 q) p l e S m args below meth cd D ad ct A sz Hp locs ls hC hL) (fun q => hN _ _ _ _ _ (h2 q) p l e S m args below meth cd D ad ct A sz Hp locs ls hC hL)
  | le => exact lv_icmp_le hC.1.1 hC.1.2.1 hd ht (fun q => hJ _ _ _ _ _ _ (h1 q) p l e S m args below meth cd D ad ct A sz Hp locs ls hC hL) (fun q => hN _ _ _ _ _ (h2 q) p l e S m args below meth cd D ad ct A sz Hp locs ls hC hL)
theorem rm_s_goto {off : Int} {a : Nat} (hd : decode (rm_cc M) pc = .ok (.goto off, 3)) (ht : (pc : Int) + off = (a : Int)) (hJ : ∀ pc L st H c s, J pc L st H c s → rm_S M k Q n0 pc L st H c s) (h : J a L st H c s) : rm_S M k Q n0 pc L st H c s := by
  intro p l e S m args below meth cd D ad ct A sz Hp locs ls hC hL
  exact lv_goto hC.1.1 hC.1.2.1 hd ht (hJ _ _ _ _ _ _ h p l e S m args below meth cd D ad ct A sz Hp locs ls hC hL)
theorem rm_s_ifnull {off : Int} {a : Nat} (hd : decode (rm_cc M) pc = .ok (.ifnull off, 3)) (ht : (pc : Int) + off = (a : Int)) (hN : ∀ L st H c s, N L st H c s → rm_S M k Q n0 (pc + 3) L st H c s) (hJ : ∀ pc L st H c s, J pc L st H c s → rm_S M k Q n0 pc L st H c s) (h : rm_rn st (fun _ r => N L r H c s) (fun r => J a L r H c s)) : rm_S M k Q n0 pc L st H c s := by
  rcases rm_rn_e h with ⟨x, r, rfl, h1⟩ | ⟨r, rfl, h1⟩
  · intro p l e S m args below meth cd D ad ct A sz Hp locs ls hC hL
    exact lv_ifnull hC.1.1 hC.1.2.1 hd (hN _ _ _ _ _ h1 p l e S m args below meth cd D ad ct A sz Hp locs ls hC hL)
  · intro p l e S m args below meth cd D ad ct A sz Hp locs ls hC hL
    exact lv_ifnullN hC.1.1 hC.1.2.1 hd ht (hJ _ _ _ _ _ _ h1 p l e S m args below meth cd D ad ct A sz Hp locs ls hC hL)
theorem rm_s_ifnonnull {off : Int} {a : Nat} (hd : decode (rm_cc M) pc = .ok (.ifnonnull off, 3)) (ht : (pc : Int) + off = (a : Int)) (hN : ∀ L st H c s, N L st H c s → rm_S M k Q n0 (pc + 3) L st H c s) (hJ : ∀ pc L st H c s, J pc L st H c s → rm_S M k Q n0 pc L st H c s) (h : rm_rn st (fun _ r => J a L r H c s) (fun r => N L r H c s)) : rm_S M k Q n0 pc L st H c s := by
  rcases rm_rn_e h with ⟨x, r, rfl, h1⟩ | ⟨r, rfl, h1⟩
  · intro p l e S m args below meth cd D ad ct A sz Hp locs ls hC hL
    exact lv_ifnonnull hC.1.1 hC.1.2.1 hd ht (hJ _ _ _ _ _ _ h1 p l e S m args below meth cd D ad ct A sz Hp locs ls hC hL)
  · intro p l e S m args below meth cd D ad ct A sz Hp locs ls hC hL
    exact lv_ifnonnullN hC.1.1 hC.1.2.1 hd (hN _ _ _ _ _ h1 p l e S m args below meth cd D ad ct A sz Hp locs ls hC hL)
end RMS
