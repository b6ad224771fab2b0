/-! Each step that is looked at is sound; so is each row of them -/
section RMS5
variable {M X : rm_M} {k : Nat} {Q : Option Value → rm_H → Prop} {n0 pc : Nat} {N : rm_K} {J : Nat → rm_K} {L : rm_L} {st : List Value} {H : rm_H} {c s : Nat} {len a b w : Nat} {v : Value} {ts : List (Int32 × Nat)}
theorem rm_st_push {r : Instr} (hd : decode (rm_cc M) pc = .ok (r, len)) (ho : rm_okp M r len w v = true) (hN : ∀ L st H c s, N L st H c s → rm_S M k Q n0 (pc + len) L st H c s) (h : N L (v :: st) H c s) : rm_S M k Q n0 pc L st H c s := by
  cases r with
  | iconst n =>
    simp only [rm_okp, Bool.and_eq_true, decide_eq_true_eq] at ho
    obtain ⟨rfl, rfl⟩ := ho
    exact rm_s_iconst hd rfl hN h
  | bipush n =>
    simp only [rm_okp, Bool.and_eq_true, decide_eq_true_eq] at ho
    obtain ⟨rfl, rfl⟩ := ho
    exact rm_s_bipush hd rfl hN h
  | sipush n =>
    simp only [rm_okp, Bool.and_eq_true, decide_eq_true_eq] at ho
    obtain ⟨rfl, rfl⟩ := ho
    exact rm_s_sipush hd rfl hN h
  | lconst n =>
    simp only [rm_okp, Bool.and_eq_true, decide_eq_true_eq] at ho
    obtain ⟨rfl, rfl⟩ := ho
    exact rm_s_lconst hd rfl hN h
  | aconst_null =>
    simp only [rm_okp, Bool.and_eq_true, decide_eq_true_eq] at ho
    obtain ⟨rfl, rfl⟩ := ho
    exact rm_s_null hd hN h
  | ldc i =>
    simp only [rm_okp, Bool.and_eq_true, decide_eq_true_eq] at ho
    obtain ⟨rfl, ho⟩ := ho
    cases v with
    | int x => exact rm_s_ldc hd (rm_wd_in ho) hN h
    | ref q =>
      simp only [Bool.and_eq_true, decide_eq_true_eq] at ho
      obtain ⟨h1, h2⟩ := ho
      split at h2
      · rename_i z hz
        simp only [Bool.and_eq_true, decide_eq_true_eq] at h2
        obtain ⟨z1, z2, z3⟩ := z
        obtain ⟨e1, e2⟩ := h2
        dsimp only at e1 e2
        subst e1; subst e2
        exact rm_s_ldcS (j := q - rm_SB) hd hz hN (by rw [Nat.add_sub_cancel' h1]; exact h)
      · cases h2
    | _ => cases ho
  | ldc_w i =>
    simp only [rm_okp, Bool.and_eq_true, decide_eq_true_eq] at ho
    obtain ⟨rfl, ho⟩ := ho
    cases v with
    | int x => exact rm_s_ldcw hd (rm_wd_in ho) hN h
    | ref q =>
      simp only [Bool.and_eq_true, decide_eq_true_eq] at ho
      obtain ⟨h1, h2⟩ := ho
      split at h2
      · rename_i z hz
        simp only [Bool.and_eq_true, decide_eq_true_eq] at h2
        obtain ⟨z1, z2, z3⟩ := z
        obtain ⟨e1, e2⟩ := h2
        dsimp only at e1 e2
        subst e1; subst e2
        exact rm_s_ldcwS (i := q - rm_SB) hd hz hN (by rw [Nat.add_sub_cancel' h1]; exact h)
      · cases h2
    | _ => cases ho
  | ldc2_w i =>
    simp only [rm_okp, Bool.and_eq_true, decide_eq_true_eq] at ho
    obtain ⟨rfl, ho⟩ := ho
    cases v with
    | long x => exact rm_s_ldc2 hd (rm_wd_in ho) hN h
    | _ => cases ho
  | _ => cases ho
theorem rm_okf_e {i : Nat} (h : rm_okf M i a b w = true) : ∃ C T F, rm_cl[a]? = some (C, T, F) ∧ b < F ∧ Cond.fieldLink (rm_y M).cls i (T b).1 (T b).2.1 (T b).2.2.1 ∈ rm_T := by
  unfold rm_okf at h
  split at h
  · rename_i q hq
    simp only [Bool.and_eq_true, decide_eq_true_eq] at h
    exact ⟨q.1, q.2.1, q.2.2, hq, h.1, rm_wd_in h.2⟩
  · cases h
theorem rm_okt_e {C : String} {T : u_T} {F : Nat} (hc : rm_cl[a]? = some (C, T, F)) (h : rm_okt M a b v = true) : ∃ z ty, v = .int z ∧ parseFieldDescriptor (T b).2.2.1 = some ty ∧ z.toNatClampNeg = rm_tyk ty ∧ ((T b).2.2.2 = false ∨ ((T b).2.2.2 = true ∧ (rm_y M).name = "<init>" ∧ (T b).1 = (rm_y M).cls)) := by
  unfold rm_okt at h
  rw [hc] at h
  cases v with
  | int z =>
    simp only [Bool.and_eq_true, Bool.or_eq_true, decide_eq_true_eq] at h
    obtain ⟨h1, h2⟩ := h
    split at h1
    · rename_i ty hty
      simp only [decide_eq_true_eq] at h1
      refine ⟨z, ty, rfl, hty, h1, ?_⟩
      cases hf : (T b).2.2.2 with
      | false => exact Or.inl rfl
      | true =>
        rw [hf] at h2
        exact Or.inr ⟨rfl, by simpa using h2⟩
    · cases h1
  | _ => cases h
theorem rm_tab_cover {lo hi : Int} (h0 : -1000 ≤ lo ∧ hi ≤ 1000) (h : (List.range (hi - lo + 1).toNat).all (fun i => (ts.map (·.1)).contains (Int32.ofInt (lo + i))) = true) : ∀ x : Int32, ¬ x.toInt < lo → ¬ hi < x.toInt → ∃ q ∈ ts, x = q.1 := by
  intro x h1 h2
  have h3 := List.all_eq_true.mp h (x.toInt - lo).toNat (List.mem_range.mpr (by omega))
  have h4 : lo + ((x.toInt - lo).toNat : Int) = x.toInt := by omega
  rw [h4, Int32.ofInt_toInt, List.contains_iff_mem] at h3
  obtain ⟨q, hq, e⟩ := List.mem_map.mp h3
  exact ⟨q, hq, e.symm⟩
theorem rm_newa_ok {t : ArrayType} (h : rm_tyc[a]? = some (newarray.typeOf t)) (ha : a < 4) : componentBytes (newarray.typeOf t) ≤ 8 ∧ ∀ (cA : ClassId) (n : Nat), vp_cell cA (n, (if a = 2 then .inr (.inl (fun _ => 0)) else .inl (fun _ => 0))) = arrV cA n (fun _ => defaultValue (newarray.typeOf t)) := by
  rcases (show a = 0 ∨ a = 1 ∨ a = 2 ∨ a = 3 by omega) with rfl | rfl | rfl | rfl <;> (have h1 := Option.some.inj h; rw [← h1]; exact ⟨by decide, fun _ _ => rfl⟩)
set_option maxHeartbeats 1000000 in
theorem rm_step (o r : Instr) (hd : decode (rm_cc M) pc = .ok (r, len)) (ho : rm_okr M pc o r len a b w v X ts = true) (hX : rm_isC o = true → rm_cwd X b) (hN : ∀ L st H c s, N L st H c s → rm_S M k Q n0 (pc + len) L st H c s) (hJ : ∀ pc L st H c s, J pc L st H c s → rm_S M k Q n0 pc L st H c s) (h : rm_i M k Q n0 J o a b v X ts N L st H c s) : rm_S M k Q n0 pc L st H c s := by
  cases o with
  | nop => exact rm_st_push hd ho hN h
  | iload i =>
    cases r with
    | iload_n q =>
      simp only [rm_okr, Bool.and_eq_true, decide_eq_true_eq] at ho
      obtain ⟨rfl, e⟩ := ho
      exact rm_s_iload_n hd e hN h
    | iload q =>
      simp only [rm_okr, Bool.and_eq_true, decide_eq_true_eq] at ho
      obtain ⟨rfl, rfl⟩ := ho
      exact rm_s_iload hd hN h
    | _ => cases ho
  | lload i =>
    cases r with
    | lload_n q =>
      simp only [rm_okr, Bool.and_eq_true, decide_eq_true_eq] at ho
      obtain ⟨rfl, e⟩ := ho
      exact rm_s_lload_n hd e hN h
    | lload q =>
      simp only [rm_okr, Bool.and_eq_true, decide_eq_true_eq] at ho
      obtain ⟨rfl, rfl⟩ := ho
      exact rm_s_lload hd hN h
    | _ => cases ho
  | aload i =>
    cases r with
    | aload_n q =>
      simp only [rm_okr, Bool.and_eq_true, decide_eq_true_eq] at ho
      obtain ⟨rfl, e⟩ := ho
      exact rm_s_aload_n hd e hN h
    | aload q =>
      simp only [rm_okr, Bool.and_eq_true, decide_eq_true_eq] at ho
      obtain ⟨rfl, rfl⟩ := ho
      exact rm_s_aload hd hN h
    | _ => cases ho
  | istore i =>
    simp only [rm_okr, Bool.and_eq_true, decide_eq_true_eq] at ho
    obtain ⟨hn, ho⟩ := ho
    cases r with
    | istore_n q =>
      simp only [Bool.and_eq_true, decide_eq_true_eq] at ho
      obtain ⟨rfl, e⟩ := ho
      exact rm_s_istore_n hd e hn hN h
    | istore q =>
      simp only [Bool.and_eq_true, decide_eq_true_eq] at ho
      obtain ⟨rfl, rfl⟩ := ho
      exact rm_s_istore hd hn hN h
    | _ => cases ho
  | lstore i =>
    simp only [rm_okr, Bool.and_eq_true, decide_eq_true_eq] at ho
    obtain ⟨hn, ho⟩ := ho
    cases r with
    | lstore_n q =>
      simp only [Bool.and_eq_true, decide_eq_true_eq] at ho
      obtain ⟨rfl, e⟩ := ho
      exact rm_s_lstore_n hd e hn hN h
    | lstore q =>
      simp only [Bool.and_eq_true, decide_eq_true_eq] at ho
      obtain ⟨rfl, rfl⟩ := ho
      exact rm_s_lstore hd hn hN h
    | _ => cases ho
  | astore i =>
    simp only [rm_okr, Bool.and_eq_true, decide_eq_true_eq] at ho
    obtain ⟨hn, ho⟩ := ho
    cases r with
    | astore_n q =>
      simp only [Bool.and_eq_true, decide_eq_true_eq] at ho
      obtain ⟨rfl, e⟩ := ho
      exact rm_s_astore_n hd e hn hN h
    | astore q =>
      simp only [Bool.and_eq_true, decide_eq_true_eq] at ho
      obtain ⟨rfl, rfl⟩ := ho
      exact rm_s_astore hd hn hN h
    | _ => cases ho
  | iinc i n =>
    simp only [rm_okr, Bool.and_eq_true, decide_eq_true_eq] at ho
    obtain ⟨⟨⟨rfl, rfl⟩, hn⟩, rfl⟩ := ho
    exact rm_s_iinc hd rfl hn hN h
  | iadd =>
    simp only [rm_okr, Bool.and_eq_true, decide_eq_true_eq] at ho
    obtain ⟨rfl, rfl⟩ := ho
    exact rm_s_iadd hd hN h
  | isub =>
    simp only [rm_okr, Bool.and_eq_true, decide_eq_true_eq] at ho
    obtain ⟨rfl, rfl⟩ := ho
    exact rm_s_isub hd hN h
  | imul =>
    simp only [rm_okr, Bool.and_eq_true, decide_eq_true_eq] at ho
    obtain ⟨rfl, rfl⟩ := ho
    exact rm_s_imul hd hN h
  | iand =>
    simp only [rm_okr, Bool.and_eq_true, decide_eq_true_eq] at ho
    obtain ⟨rfl, rfl⟩ := ho
    exact rm_s_iand hd hN h
  | ior =>
    simp only [rm_okr, Bool.and_eq_true, decide_eq_true_eq] at ho
    obtain ⟨rfl, rfl⟩ := ho
    exact rm_s_ior hd hN h
  | ixor =>
    simp only [rm_okr, Bool.and_eq_true, decide_eq_true_eq] at ho
    obtain ⟨rfl, rfl⟩ := ho
    exact rm_s_ixor hd hN h
  | ishl =>
    simp only [rm_okr, Bool.and_eq_true, decide_eq_true_eq] at ho
    obtain ⟨rfl, rfl⟩ := ho
    exact rm_s_ishl hd hN h
  | ishr =>
    simp only [rm_okr, Bool.and_eq_true, decide_eq_true_eq] at ho
    obtain ⟨rfl, rfl⟩ := ho
    exact rm_s_ishr hd hN h
  | iushr =>
    simp only [rm_okr, Bool.and_eq_true, decide_eq_true_eq] at ho
    obtain ⟨rfl, rfl⟩ := ho
    exact rm_s_iushr hd hN h
  | idiv =>
    simp only [rm_okr, Bool.and_eq_true, decide_eq_true_eq] at ho
    obtain ⟨rfl, rfl⟩ := ho
    exact rm_s_idiv hd hN h
  | irem =>
    simp only [rm_okr, Bool.and_eq_true, decide_eq_true_eq] at ho
    obtain ⟨rfl, rfl⟩ := ho
    exact rm_s_irem hd hN h
  | ladd =>
    simp only [rm_okr, Bool.and_eq_true, decide_eq_true_eq] at ho
    obtain ⟨rfl, rfl⟩ := ho
    exact rm_s_ladd hd hN h
  | lsub =>
    simp only [rm_okr, Bool.and_eq_true, decide_eq_true_eq] at ho
    obtain ⟨rfl, rfl⟩ := ho
    exact rm_s_lsub hd hN h
  | lmul =>
    simp only [rm_okr, Bool.and_eq_true, decide_eq_true_eq] at ho
    obtain ⟨rfl, rfl⟩ := ho
    exact rm_s_lmul hd hN h
  | land =>
    simp only [rm_okr, Bool.and_eq_true, decide_eq_true_eq] at ho
    obtain ⟨rfl, rfl⟩ := ho
    exact rm_s_land hd hN h
  | lor =>
    simp only [rm_okr, Bool.and_eq_true, decide_eq_true_eq] at ho
    obtain ⟨rfl, rfl⟩ := ho
    exact rm_s_lor hd hN h
  | ldiv =>
    simp only [rm_okr, Bool.and_eq_true, decide_eq_true_eq] at ho
    obtain ⟨rfl, rfl⟩ := ho
    exact rm_s_ldiv hd hN h
  | lrem =>
    simp only [rm_okr, Bool.and_eq_true, decide_eq_true_eq] at ho
    obtain ⟨rfl, rfl⟩ := ho
    exact rm_s_lrem hd hN h
  | lshl =>
    simp only [rm_okr, Bool.and_eq_true, decide_eq_true_eq] at ho
    obtain ⟨rfl, rfl⟩ := ho
    exact rm_s_lshl hd hN h
  | lshr =>
    simp only [rm_okr, Bool.and_eq_true, decide_eq_true_eq] at ho
    obtain ⟨rfl, rfl⟩ := ho
    exact rm_s_lshr hd hN h
  | lcmp =>
    simp only [rm_okr, Bool.and_eq_true, decide_eq_true_eq] at ho
    obtain ⟨rfl, rfl⟩ := ho
    exact rm_s_lcmp hd hN h
  | i2l =>
    simp only [rm_okr, Bool.and_eq_true, decide_eq_true_eq] at ho
    obtain ⟨rfl, rfl⟩ := ho
    exact rm_s_i2l hd hN h
  | l2i =>
    simp only [rm_okr, Bool.and_eq_true, decide_eq_true_eq] at ho
    obtain ⟨rfl, rfl⟩ := ho
    exact rm_s_l2i hd hN h
  | i2b =>
    simp only [rm_okr, Bool.and_eq_true, decide_eq_true_eq] at ho
    obtain ⟨rfl, rfl⟩ := ho
    exact rm_s_i2b hd hN h
  | i2c =>
    simp only [rm_okr, Bool.and_eq_true, decide_eq_true_eq] at ho
    obtain ⟨rfl, rfl⟩ := ho
    exact rm_s_i2c hd hN h
  | dup =>
    simp only [rm_okr, Bool.and_eq_true, decide_eq_true_eq] at ho
    obtain ⟨rfl, rfl⟩ := ho
    exact rm_s_dup hd hN h
  | dup2 =>
    simp only [rm_okr, Bool.and_eq_true, decide_eq_true_eq] at ho
    obtain ⟨rfl, rfl⟩ := ho
    exact rm_s_dup2 hd hN h
  | dup_x1 =>
    simp only [rm_okr, Bool.and_eq_true, decide_eq_true_eq] at ho
    obtain ⟨rfl, rfl⟩ := ho
    exact rm_s_dup_x1 hd hN h
  | pop =>
    simp only [rm_okr, Bool.and_eq_true, decide_eq_true_eq] at ho
    obtain ⟨rfl, rfl⟩ := ho
    exact rm_s_pop hd hN h
  | iaload =>
    simp only [rm_okr, Bool.and_eq_true, decide_eq_true_eq] at ho
    obtain ⟨rfl, rfl⟩ := ho
    exact rm_s_iaload hd hN h
  | baload =>
    simp only [rm_okr, Bool.and_eq_true, decide_eq_true_eq] at ho
    obtain ⟨rfl, rfl⟩ := ho
    exact rm_s_baload hd hN h
  | laload =>
    simp only [rm_okr, Bool.and_eq_true, decide_eq_true_eq] at ho
    obtain ⟨rfl, rfl⟩ := ho
    exact rm_s_laload hd hN h
  | aaload =>
    simp only [rm_okr, Bool.and_eq_true, decide_eq_true_eq] at ho
    obtain ⟨rfl, rfl⟩ := ho
    exact rm_s_aaload hd hN h
  | iastore =>
    simp only [rm_okr, Bool.and_eq_true, decide_eq_true_eq] at ho
    obtain ⟨rfl, rfl⟩ := ho
    exact rm_s_iastore hd hN h
  | bastore =>
    simp only [rm_okr, Bool.and_eq_true, decide_eq_true_eq] at ho
    obtain ⟨rfl, rfl⟩ := ho
    exact rm_s_bastore hd hN h
  | lastore =>
    simp only [rm_okr, Bool.and_eq_true, decide_eq_true_eq] at ho
    obtain ⟨rfl, rfl⟩ := ho
    exact rm_s_lastore hd hN h
  | aastore =>
    simp only [rm_okr, Bool.and_eq_true, decide_eq_true_eq] at ho
    obtain ⟨rfl, rfl⟩ := ho
    exact rm_s_aastore hd hN h
  | ifCond x off =>
    simp only [rm_okr, Bool.and_eq_true, decide_eq_true_eq] at ho
    obtain ⟨⟨rfl, rfl⟩, e⟩ := ho
    exact rm_s_if hd e hN hJ h
  | if_icmp x off =>
    simp only [rm_okr, Bool.and_eq_true, decide_eq_true_eq] at ho
    obtain ⟨⟨rfl, rfl⟩, e⟩ := ho
    exact rm_s_icmp hd e hN hJ h
  | ifnull off =>
    simp only [rm_okr, Bool.and_eq_true, decide_eq_true_eq] at ho
    obtain ⟨⟨rfl, rfl⟩, e⟩ := ho
    exact rm_s_ifnull hd e hN hJ h
  | ifnonnull off =>
    simp only [rm_okr, Bool.and_eq_true, decide_eq_true_eq] at ho
    obtain ⟨⟨rfl, rfl⟩, e⟩ := ho
    exact rm_s_ifnonnull hd e hN hJ h
  | goto off =>
    simp only [rm_okr, Bool.and_eq_true, decide_eq_true_eq] at ho
    obtain ⟨⟨rfl, rfl⟩, e⟩ := ho
    exact rm_s_goto hd e hJ h
  | tableswitch d lo hi offs =>
    simp only [rm_okr, Bool.and_eq_true, decide_eq_true_eq] at ho
    obtain ⟨⟨⟨⟨rfl, e⟩, e0⟩, e1⟩, e2⟩ := ho
    refine rm_s_table hd e (fun q hq => ?_) (rm_tab_cover e0 e2) hJ h
    have h1 := List.all_eq_true.mp e1 q hq
    simp only [Bool.and_eq_true, decide_eq_true_eq] at h1
    obtain ⟨⟨g1, g2⟩, g3⟩ := h1
    split at g3
    · rename_i off hoff
      exact ⟨g1, g2, off, hoff, by simpa using g3⟩
    · cases g3
  | lookupswitch d ps =>
    simp only [rm_okr, Bool.and_eq_true, decide_eq_true_eq] at ho
    obtain ⟨⟨⟨⟨rfl, e⟩, e0⟩, e1⟩, e2⟩ := ho
    exact rm_s_lookup hd e0 e (fun q hq => by simpa using List.all_eq_true.mp e1 q hq) e2 hJ h
  | getfield i =>
    simp only [rm_okr, Bool.and_eq_true, decide_eq_true_eq] at ho
    obtain ⟨⟨rfl, rfl⟩, e⟩ := ho
    obtain ⟨C, T, F, g1, g2, g3⟩ := rm_okf_e e
    exact rm_s_getfield hd g1 g2 g3 hN h
  | putfield i =>
    simp only [rm_okr, Bool.and_eq_true, decide_eq_true_eq] at ho
    obtain ⟨⟨⟨rfl, rfl⟩, e⟩, e2⟩ := ho
    obtain ⟨C, T, F, g1, g2, g3⟩ := rm_okf_e e
    obtain ⟨z, ty, rfl, g4, g5, g6⟩ := rm_okt_e g1 e2
    exact rm_s_putfield hd g1 g2 g3 g4 g5 g6 hN h
  | arraylength =>
    simp only [rm_okr, Bool.and_eq_true, decide_eq_true_eq] at ho
    obtain ⟨rfl, rfl⟩ := ho
    exact rm_s_alen hd hN h
  | new i =>
    simp only [rm_okr, Bool.and_eq_true, decide_eq_true_eq] at ho
    obtain ⟨⟨rfl, rfl⟩, e⟩ := ho
    split at e
    · rename_i q hq
      have e1 := rm_okw_e e
      exact rm_s_new (C := q.1) (T := q.2.1) (F := q.2.2) hd hq (e1 _ (by simp)) (e1 _ (by simp)) (e1 _ (by simp)) hN h
    · cases e
  | newarray t =>
    simp only [rm_okr, Bool.and_eq_true, decide_eq_true_eq] at ho
    obtain ⟨⟨⟨⟨rfl, rfl⟩, e1⟩, e2⟩, e3⟩ := ho
    have e4 := rm_newa_ok e1 e2
    exact rm_s_newarray hd rfl e1 (rm_okw_e e3 _ (by simp)) e4.1 e4.2 hN h
  | anewarray i =>
    simp only [rm_okr, Bool.and_eq_true, decide_eq_true_eq] at ho
    obtain ⟨⟨rfl, rfl⟩, e⟩ := ho
    split at e
    · rename_i C hq
      exact rm_s_anewarray hd hq (rm_okw_e e _ (by simp)) hN h
    · cases e
  | invokestatic i =>
    simp only [rm_okr, Bool.and_eq_true, decide_eq_true_eq] at ho
    obtain ⟨⟨rfl, rfl⟩, e⟩ := ho
    have e1 := rm_okw_e e
    cases k with
    | zero => exact (h : False).elim
    | succ j => exact rm_s_static hd (hX rfl) (e1 _ (by simp)) (e1 _ (by simp)) hN h
  | invokevirtual i =>
    simp only [rm_okr, Bool.and_eq_true, decide_eq_true_eq] at ho
    obtain ⟨⟨⟨rfl, rfl⟩, e⟩, e2⟩ := ho
    have e1 := rm_okw_e e
    cases k with
    | zero => exact (h : False).elim
    | succ j =>
      refine rm_s_virtual hd (hX rfl) ?_ (e1 _ (by simp)) (e1 _ (by simp)) (e1 _ (by simp)) hN h
      split at e2
      · rename_i h9
        rw [if_pos h9]
        simpa using e2
      · rename_i h9
        rw [if_neg h9]
        split at e2
        · rename_i z hz
          exact ⟨z, hz, by simpa using e2⟩
        · cases e2
  | invokespecial i =>
    simp only [rm_okr, Bool.and_eq_true, Bool.or_eq_true, decide_eq_true_eq] at ho
    obtain ⟨⟨⟨⟨⟨rfl, rfl⟩, e⟩, e1⟩, e2⟩, e3⟩ := ho
    cases k with
    | zero => exact (h : False).elim
    | succ j =>
      refine rm_s_special hd (hX rfl) e2 e3 ?_ (rm_okw_e e1 _ (by simp)) hN h
      rcases e with e | e
      · exact Or.inl (rm_wd_in e)
      · exact Or.inr ⟨_, List.mem_of_getElem? e⟩
  | jsr i =>
    simp only [rm_okr, Bool.and_eq_true, decide_eq_true_eq] at ho
    obtain ⟨⟨⟨rfl, rfl⟩, rfl⟩, e⟩ := ho
    have e1 := rm_okw_e e
    exact rm_s_obj hd (e1 _ (by simp)) (e1 _ (by simp)) (e1 _ (by simp)) hN h
  | jsr_w i =>
    simp only [rm_okr, Bool.and_eq_true, decide_eq_true_eq] at ho
    obtain ⟨⟨⟨rfl, rfl⟩, rfl⟩, e⟩ := ho
    have e1 := rm_okw_e e
    exact rm_s_copyi hd (e1 _ (by simp)) (e1 _ (by simp)) (e1 _ (by simp)) (e1 _ (by simp)) hN h
  | ret i =>
    simp only [rm_okr, Bool.and_eq_true, decide_eq_true_eq] at ho
    obtain ⟨⟨⟨rfl, rfl⟩, rfl⟩, e⟩ := ho
    have e1 := rm_okw_e e
    exact rm_s_copyq hd (e1 _ (by simp)) (e1 _ (by simp)) (e1 _ (by simp)) (e1 _ (by simp)) hN h
  | monitorenter =>
    simp only [rm_okr, Bool.and_eq_true, decide_eq_true_eq] at ho
    obtain ⟨⟨rfl, rfl⟩, e⟩ := ho
    have e1 := rm_okw_e e
    exact rm_s_min hd (e1 _ (by simp)) (e1 _ (by simp)) (e1 _ (by simp)) (e1 _ (by simp)) hN h
  | monitorexit =>
    simp only [rm_okr, Bool.and_eq_true, decide_eq_true_eq] at ho
    obtain ⟨⟨rfl, rfl⟩, e⟩ := ho
    have e1 := rm_okw_e e
    exact rm_s_max hd (e1 _ (by simp)) (e1 _ (by simp)) (e1 _ (by simp)) (e1 _ (by simp)) hN h
  | ireturn =>
    simp only [rm_okr, Bool.and_eq_true, decide_eq_true_eq] at ho
    obtain ⟨rfl, rfl⟩ := ho
    exact rm_s_ireturn hd h
  | lreturn =>
    simp only [rm_okr, Bool.and_eq_true, decide_eq_true_eq] at ho
    obtain ⟨rfl, rfl⟩ := ho
    exact rm_s_lreturn hd h
  | areturn =>
    simp only [rm_okr, Bool.and_eq_true, decide_eq_true_eq] at ho
    obtain ⟨rfl, rfl⟩ := ho
    exact rm_s_areturn hd h
  | return_ =>
    simp only [rm_okr, Bool.and_eq_true, decide_eq_true_eq] at ho
    obtain ⟨rfl, rfl⟩ := ho
    exact rm_s_return hd h
  | _ => exact (h : False).elim
/-- a row of instructions, looked at from pc on -/
def rm_okB (M : rm_M) : List rm_J → Nat → Bool
  | [], _ => true
  | i :: B, pc => rm_ok1 M pc i && rm_okB M B (pc + i.2.2.1)
theorem rm_row (hJ : ∀ pc L st H c s, J pc L st H c s → rm_S M k Q n0 pc L st H c s) : ∀ (B : List rm_J) (pc : Nat) (L : rm_L) (st : List Value) (H : rm_H) (c s : Nat), rm_okB M B pc = true → (∀ q ∈ rm_calls B, rm_cwd q.1 q.2) → rm_w M k Q n0 J B pc L st H c s → rm_S M k Q n0 pc L st H c s
  | [], pc, L, st, H, c, s, _, _, h => hJ _ _ _ _ _ _ h
  | (o, r, len, a, b, w, v, X, ts) :: B, pc, L, st, H, c, s, ho, hX, h => by
    simp only [rm_okB, rm_ok1, Bool.and_eq_true, decide_eq_true_eq] at ho
    obtain ⟨⟨hd, ho⟩, ho2⟩ := ho
    have hX2 : ∀ q ∈ rm_calls B, rm_cwd q.1 q.2 := fun q hq => hX q (by
      unfold rm_calls at hq ⊢
      rw [List.filterMap_cons]
      split
      · exact hq
      · exact List.mem_cons_of_mem _ hq)
    refine rm_step o r hd ho (fun hc => hX (X, b) ?_) (fun L st H c s h => rm_row hJ B (pc + len) L st H c s ho2 hX2 h) hJ h
    unfold rm_calls
    rw [List.filterMap_cons]
    dsimp only
    rw [hc, if_pos rfl]
    exact List.mem_cons_self
/-- a method's rows: each with the pc at which it begins -/
abbrev rm_P : Type := List (Nat × List rm_J)
def rm_okP (M : rm_M) (T : rm_P) : Bool := T.all (fun q => rm_okB M q.2 q.1)
def rm_at (T : rm_P) (pc : Nat) : Option (List rm_J) := (T.find? (fun q => q.1 == pc)).map (·.2)
def rm_pc (T : rm_P) : List (rm_M × Nat) := T.flatMap (fun q => rm_calls q.2)
/-- from pc on, by at most n rows, down to the pcs of 'cut' -/
def rm_p (M : rm_M) (T : rm_P) (cut : List Nat) (k : Nat) (Q : Option Value → rm_H → Prop) (n0 : Nat) : Nat → Nat → rm_K
  | 0, pc => rm_S M k Q n0 pc
  | n + 1, pc => if cut.contains pc then rm_S M k Q n0 pc else match rm_at T pc with
    | some B => rm_w M k Q n0 (rm_p M T cut k Q n0 n) B pc
    | none => fun _ _ _ _ _ => False
def rm_okM (M : rm_M) (T : rm_P) : Prop := rm_okP M T = true ∧ ∀ q ∈ rm_pc T, rm_cwd q.1 q.2
theorem rm_at_in {T : rm_P} {B : List rm_J} (h : rm_at T pc = some B) : (pc, B) ∈ T := by
  unfold rm_at at h
  cases hf : T.find? (fun q => q.1 == pc) with
  | none => rw [hf] at h; cases h
  | some q =>
    rw [hf] at h
    cases h
    have h1 := List.find?_some hf
    have h2 := List.mem_of_find?_eq_some hf
    simp only [beq_iff_eq] at h1
    subst h1
    exact h2
theorem rm_blk {T : rm_P} {B : List rm_J} (hok : rm_okM M T) (hJ : ∀ pc L st H c s, J pc L st H c s → rm_S M k Q n0 pc L st H c s) (hB : rm_at T pc = some B) (h : rm_w M k Q n0 J B pc L st H c s) : rm_S M k Q n0 pc L st H c s := by
  have h1 := rm_at_in hB
  exact rm_row hJ B pc L st H c s (List.all_eq_true.mp hok.1 _ h1) (fun q hq => hok.2 q (List.mem_flatMap.mpr ⟨_, h1, hq⟩)) h
theorem rm_run {T : rm_P} {cut : List Nat} (hok : rm_okM M T) : ∀ (n pc : Nat) (L : rm_L) (st : List Value) (H : rm_H) (c s : Nat), rm_p M T cut k Q n0 n pc L st H c s → rm_S M k Q n0 pc L st H c s
  | 0, _, _, _, _, _, _, h => h
  | n + 1, pc, L, st, H, c, s, h => by
    unfold rm_p at h
    split at h
    · exact h
    · cases hB : rm_at T pc with
      | none => rw [hB] at h; exact h.elim
      | some B =>
        rw [hB] at h
        exact rm_blk hok (fun pc L st H c s h => rm_run hok n pc L st H c s h) hB h
/-- from a cut pc on -/
theorem rm_from {T : rm_P} (n : Nat) (cut : List Nat) {B : List rm_J} (hok : rm_okM M T) (hB : rm_at T pc = some B) (h : rm_w M k Q n0 (rm_p M T cut k Q n0 n) B pc L st H c s) : rm_S M k Q n0 pc L st H c s :=
  rm_blk hok (fun pc L st H c s h => rm_run hok n pc L st H c s h) hB h
/-- the locals with which a method begins -/
def rm_ent : List Value → rm_L
  | [] => []
  | v :: r => if v.category = 2 then some v :: none :: rm_ent r else some v :: rm_ent r
def rm_ini (M : rm_M) (av : List Value) : rm_L := rm_ent av ++ List.replicate (rm_ml M - (rm_ent av).length) none
theorem rm_ent_len (ad : Nat → Nat) : ∀ av : List Value, (lg_sl (av.map (rm_cv ad))).length = (rm_ent av).length
  | [] => rfl
  | v :: r => by
    have ih := rm_ent_len ad r
    unfold lg_sl at ih ⊢
    simp only [List.map_cons, List.flatMap_cons, List.length_append, rm_ent, rm_cv_cat, ih]
    by_cases h : v.category = 2 <;> simp [h] <;> omega
theorem rm_ent_at (ad : Nat → Nat) : ∀ (av : List Value) (n i : Nat) (v : Value), (rm_ent av)[i]? = some (some v) → (n + i, rm_cv ad v) ∈ lv_args n (av.map (rm_cv ad))
  | [], _, i, v, h => by simp [rm_ent] at h
  | u :: r, n, i, v, h => by
    simp only [List.map_cons, lv_args, rm_cv_cat]
    unfold rm_ent at h
    by_cases hc : u.category = 2
    · rw [if_pos hc] at h ⊢
      match i, h with
      | 0, h =>
        simp at h
        rw [h]; exact List.mem_cons_self
      | 1, h => simp at h
      | i + 2, h =>
        simp at h
        have := rm_ent_at ad r (n + 2) i v h
        rw [show n + (i + 2) = n + 2 + i by omega]
        exact List.mem_cons_of_mem _ this
    · rw [if_neg hc] at h ⊢
      match i, h with
      | 0, h =>
        simp at h
        rw [h]; exact List.mem_cons_self
      | i + 1, h =>
        simp at h
        have := rm_ent_at ad r (n + 1) i v h
        rw [show n + (i + 1) = n + 1 + i by omega]
        exact List.mem_cons_of_mem _ this
theorem rm_begin {av : List Value} (hy : Jvm.plainName (rm_y M).cls = true) (hl : (rm_ent av).length ≤ rm_ml M) (h : rm_S M k Q H.length 0 (rm_ini M av) [] H (rm_mc M) (rm_ms M)) : rm_Do M k av H Q := by
  refine ⟨Q, ?_, fun _ _ h => h⟩
  intro l D ad ct sz had
  refine Met.ofW (cc := rm_cc M) (maxL := rm_ml M) (ret := rm_rt M) hy rfl ?_
  intro p e S m args below meth cd s₁ B hml hv
  obtain ⟨rfl, hsz, hP, hK, hD0, hE⟩ := hv
  have hts := atoms_spec (ws := rm_ws M) B.pre
  have hown : S.vm.findClass (rm_y M).cls = some m.cls := findClass_of_methodNamed B.named
  have hnm : meth.name = (rm_y M).name := (name_of_methodNamed B.named B.method).1
  subst hsz
  have hD := hD0.self (sz := S.heap.size)
  have hA : ∀ q : Nat, S.heap.size ≤ q → va_A (rm_cw ad ct H) S.heap.size q := fun q h => Or.inr h
  have hA2 : ∀ q, va_A (rm_cw ad ct H) S.heap.size q → S.heap.size ≤ q ∨ ∃ i, i < H.length ∧ q = ad i := by
    intro q hq
    rcases hq with ⟨i, e', h1⟩ | h1
    · rw [rm_cw_get] at h1
      cases hi : H[i]? with
      | none => rw [hi] at h1; cases h1
      | some x =>
        rw [hi] at h1
        cases h1
        exact Or.inr ⟨i, (List.getElem?_eq_some_iff.mp hi).1, rfl⟩
    · exact Or.inl h1
  have hl2 : (lg_sl (av.map (rm_cv ad))).length ≤ rm_ml M := by rw [rm_ent_len]; exact hl
  have hlv := lv_entry (av.map (rm_cv ad)) (n := rm_ml M) hl2
  rw [lg_entry_eq]
  generalize (lg_sl (av.map (rm_cv ad)) ++ List.replicate (rm_ml M - (lg_sl (av.map (rm_cv ad))).length) Slot.unset).toArray = ls at hlv ⊢
  have hLR : rm_LR ad (rm_ini M av) ls (rm_ml M) := by
    refine ⟨hlv.1, hlv.2.1, fun i v hi => ?_⟩
    unfold rm_ini at hi
    by_cases h1 : i < (rm_ent av).length
    · rw [List.getElem?_append_left h1] at hi
      have h2 := rm_ent_at ad av 0 i v hi
      rw [Nat.zero_add] at h2
      exact hlv.2.2 _ h2
    · rw [List.getElem?_append_right (by omega), List.getElem?_replicate] at hi
      split at hi <;> cases hi
  have h1 := h p l e S m _ below meth cd D ad ct (va_A (rm_cw ad ct H) S.heap.size) S.heap.size S.heap [] ls ⟨⟨B.exec, B.bytes, hml, B.returns, hown, hts, B.notSynchronized, hnm⟩, hK, hE, hA, hA2, rfl, hP, hD, va_S.rf, Nat.le_refl _, had, Nat.le_refl _, Nat.le_refl _⟩ hLR
  rw [Nat.sub_self, Nat.sub_self] at h1
  exact h1
/-- a method's contract out of its rows -/
theorem rm_meth {T : rm_P} {av : List Value} (n : Nat) (cut : List Nat) (hok : rm_okM M T) (hy : Jvm.plainName (rm_y M).cls = true) (hl : (rm_ent av).length ≤ rm_ml M) (h : rm_p M T cut k Q H.length n 0 (rm_ini M av) [] H (rm_mc M) (rm_ms M)) : rm_Do M k av H Q :=
  rm_begin hy hl (rm_run hok n 0 _ _ _ _ _ h)
end RMS5
