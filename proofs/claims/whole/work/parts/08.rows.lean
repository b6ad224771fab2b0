/-! Copies, texts; which instruction may stand where; rows of instructions; a method's begin -/
section RMS4
variable {M X : rm_M} {k : Nat} {Q : Option Value → rm_H → Prop} {n0 pc : Nat} {N : rm_K} {J : Nat → rm_K} {L : rm_L} {st : List Value} {H : rm_H} {c s : Nat}
theorem rm_s_ldcwS {index i : Nat} {tx : String} (hd : decode (rm_cc M) pc = .ok (.ldc_w index, 3)) (hj : rm_str[i]? = some ((rm_y M).cls, index, tx)) (hN : ∀ L st H c s, N L st H c s → rm_S M k Q n0 (pc + 3) L st H c s) (h : N L (.ref (rm_SB + i) :: st) H c s) : rm_S M k Q n0 pc L st H c s := by
  intro p l e S m args below meth cd D ad ct A sz Hp locs ls hC hL
  have hZ := hC.2.2.1.2.2.1 i _ hj
  have h1 := hN _ _ _ _ _ h p l e S m args below meth cd D ad ct A sz Hp locs ls hC hL
  intro T hT Y
  obtain ⟨t, a1, b1⟩ := h1 T hT Y
  exact ⟨t, Y.ldcStringW hC.1.1 hC.own (text := tx) (a := ad (rm_SB + i)) hZ.1 (by have := hZ.2; exact this) (g := F0 m pc ls (st.map (rm_cv ad))) rfl (by rw [hC.1.2.1]; exact hd) t a1, b1⟩
theorem rm_nat : nativeFrameWords "java/lang/System" "arraycopy" 5 + 11 ≤ 20 := by decide
theorem rm_s_copyi {index : Nat} (hd : decode (rm_cc M) pc = .ok (.invokestatic index, 3)) (hw1 : Cond.methodLink (rm_y M).cls index arraycopyName ∈ rm_T) (hw2 : Cond.native arraycopyName ∈ rm_T) (hw3 : Cond.static arraycopyName ∈ rm_T) (hw4 : Cond.initialized "java/lang/System" ∈ rm_T) (hN : ∀ L st H c s, N L st H c s → rm_S M k Q n0 (pc + 3) L st H c s)
    (h : 1 ≤ k ∧ rm_c5 st fun n dp d sp q r => rm_sr r ∧ rm_ar H q fun t n1 f => rm_ar H d fun t2 n2 g => t = 0 ∧ t2 = 0 ∧ ¬ sp < 0 ∧ ¬ dp < 0 ∧ ¬ n < 0 ∧ sp.toNatClampNeg + n.toNatClampNeg ≤ n1 ∧ dp.toNatClampNeg + n.toNatClampNeg ≤ n2 ∧ N L r (H.set d (.inl (0, n2, .inl (va_cpy f g sp.toNatClampNeg dp.toNatClampNeg n.toNatClampNeg)))) c s) : rm_S M k Q n0 pc L st H c s := by
  obtain ⟨hk, h⟩ := h
  obtain ⟨n, dp, d, sp, q, r, rfl, hr, hh⟩ := rm_c5_e h
  clear h
  have h := hh
  clear hh
  · skip
    have h_ := rm_ar_e h
    clear h
    obtain ⟨t, n1, f, hq, h⟩ := h_
    have h_ := rm_ar_e h
    clear h
    obtain ⟨t2, n2, g, hdd, rfl, rfl, g1, g2, g3, g4, g5, h⟩ := h_
    intro p l e S m args below meth cd D ad ct A sz Hp locs ls hC hL
    refine va_copyi (ws := rm_cw ad ct H) (tys := rm_tys ct) (f := f) (g := g) (ty := .int) hC.1.1 hC.1.2.1 (by rw [hC.1.2.2.1]; exact hL.1.symm) hC.own (hC.wd hw1) (hC.wd hw2) (hC.wd hw3) (hC.wd hw4) hC.2.1 hC.2.2.2.2.2.2.1 hC.2.2.2.2.2.2.2.1 hC.2.2.2.2.2.2.2.2.1 q d 0 0 (rm_cw_at hq) (rm_cw_at hdd) (rm_tys_at rfl) (rm_tys_at rfl) rfl g1 g2 g3 g4 g5 (fun _ _ => rfl) hk ?_ hd (fun H1 locs1 hP1 hD1 hS1 => ?_)
    · have h1 := rm_sr_cv ad hr
      have h2 := rm_nat
      show _ ≤ 64 * k
      omega
    · exact hN _ _ _ _ _ h p l e S m args below meth cd D ad ct A sz H1 locs1 ls (hC.upd rfl hP1 hD1 hS1) hL
theorem rm_cpy_map (ad : Nat → Nat) (f g : Nat → Option Nat) (sp dp n : Nat) : (fun j => (va_cpy f g sp dp n j).map ad) = va_cpy (fun j => (f j).map ad) (fun j => (g j).map ad) sp dp n := by
  funext j
  unfold va_cpy
  split <;> rfl
theorem rm_s_copyq {index : Nat} (hd : decode (rm_cc M) pc = .ok (.invokestatic index, 3)) (hw1 : Cond.methodLink (rm_y M).cls index arraycopyName ∈ rm_T) (hw2 : Cond.native arraycopyName ∈ rm_T) (hw3 : Cond.static arraycopyName ∈ rm_T) (hw4 : Cond.initialized "java/lang/System" ∈ rm_T) (hN : ∀ L st H c s, N L st H c s → rm_S M k Q n0 (pc + 3) L st H c s)
    (h : 1 ≤ k ∧ rm_c5 st fun n dp d sp q r => rm_sr r ∧ rm_aq H q fun t n1 f => rm_aq H d fun t2 n2 g => t = 6 ∧ t2 = 6 ∧ ¬ sp < 0 ∧ ¬ dp < 0 ∧ ¬ n < 0 ∧ sp.toNatClampNeg + n.toNatClampNeg ≤ n1 ∧ dp.toNatClampNeg + n.toNatClampNeg ≤ n2 ∧ (∀ i, i < n.toNatClampNeg → ∀ y, f (sp.toNatClampNeg + i) = some y → rm_ob H y fun ci _ => ci = 7) ∧ N L r (H.set d (.inl (6, n2, .inr (.inr (.inr (.inr (va_cpy f g sp.toNatClampNeg dp.toNatClampNeg n.toNatClampNeg))))))) c s) : rm_S M k Q n0 pc L st H c s := by
  obtain ⟨hk, h⟩ := h
  obtain ⟨n, dp, d, sp, q, r, rfl, hr, hh⟩ := rm_c5_e h
  clear h
  have h := hh
  clear hh
  · skip
    have h_ := rm_aq_e h
    clear h
    obtain ⟨t, n1, f, hq, h⟩ := h_
    have h_ := rm_aq_e h
    clear h
    obtain ⟨t2, n2, g, hdd, rfl, rfl, g1, g2, g3, g4, g5, g6, h⟩ := h_
    intro p l e S m args below meth cd D ad ct A sz Hp locs ls hC hL
    refine va_copyq (ws := rm_cw ad ct H) (tys := rm_tys ct) (f := fun j => (f j).map ad) (g := fun j => (g j).map ad) (E0 := "OneDecision$State") (E1 := "OneDecision$State") (C := "OneDecision$State") hC.1.1 hC.1.2.1 (by rw [hC.1.2.2.1]; exact hL.1.symm) hC.own (hC.wd hw1) (hC.wd hw2) (hC.wd hw3) (hC.wd hw4) hC.2.1 hC.2.2.2.2.2.2.1 hC.2.2.2.2.2.2.2.1 hC.2.2.2.2.2.2.2.2.1 q d 6 6 (rm_cw_at hq) (rm_cw_at hdd) (rm_tys_at rfl) (rm_tys_at rfl) g1 g2 g3 g4 g5 (fun i hi y hy => ?_) (fun comp c0 e1 e2 => ?_) hk ?_ hd (fun H1 locs1 hP1 hD1 hS1 => ?_)
    · cases hf : f (sp.toNatClampNeg + i) with
      | none => rw [hf] at hy; cases hy
      | some z =>
        rw [hf] at hy
        cases hy
        obtain ⟨ci, fs, hz, rfl⟩ := rm_ob_e (g6 i hi z hf)
        exact va_recv (q := (RX7, TX7, 13)) hC.2.1 hC.2.2.2.2.2.2.1 rfl (rm_cw_at hz)
    · cases e1.symm.trans e2
      exact va_asg _ _
    · have h1 := rm_sr_cv ad hr
      have h2 := rm_nat
      show _ ≤ 64 * k
      omega
    · exact hN _ _ _ _ _ h p l e S m args below meth cd D ad ct A sz H1 locs1 ls (hC.upd (by rw [← rm_cpy_map]; rfl) hP1 hD1 hS1) hL
theorem rm_s_min {index : Nat} (hd : decode (rm_cc M) pc = .ok (.invokestatic index, 3)) (hw1 : Cond.methodLink (rm_y M).cls index Lib.Math.min.name ∈ rm_T) (hw2 : Cond.static Lib.Math.min.name ∈ rm_T) (hw3 : Cond.initialized "java/lang/Math" ∈ rm_T) (hw4 : Cond.code Lib.Math.min.name Lib.Math.min.code 2 (some .int) ∈ rm_T) (hN : ∀ L st H c s, N L st H c s → rm_S M k Q n0 (pc + 3) L st H c s)
    (h : 1 ≤ k ∧ rm_2i st fun x y r => rm_sr r ∧ N L (.int (if y < x then y else x) :: r) H c s) : rm_S M k Q n0 pc L st H c s := by
  obtain ⟨hk, h⟩ := h
  have h_ := rm_2i_e h
  clear h
  obtain ⟨x, y, r, rfl, hr, h⟩ := h_
  intro p l e S m args below meth cd D ad ct A sz Hp locs ls hC hL
  refine va_mmin hC.1.1 hC.1.2.1 (by rw [hC.1.2.2.1]; exact hL.1.symm) hC.own (hC.wd hw1) (hC.wd hw2) (hC.wd hw3) (hC.wd hw4) hk ?_ (Nat.sub_le _ _) (Nat.sub_le _ _) hd (hN _ _ _ _ _ h p l e S m args below meth cd D ad ct A sz Hp locs ls hC hL)
  have h1 := rm_sr_cv ad hr
  show _ ≤ 64 * k
  omega
theorem rm_s_max {index : Nat} (hd : decode (rm_cc M) pc = .ok (.invokestatic index, 3)) (hw1 : Cond.methodLink (rm_y M).cls index Lib.Math.max.name ∈ rm_T) (hw2 : Cond.static Lib.Math.max.name ∈ rm_T) (hw3 : Cond.initialized "java/lang/Math" ∈ rm_T) (hw4 : Cond.code Lib.Math.max.name Lib.Math.max.code 2 (some .int) ∈ rm_T) (hN : ∀ L st H c s, N L st H c s → rm_S M k Q n0 (pc + 3) L st H c s)
    (h : 1 ≤ k ∧ rm_2i st fun x y r => rm_sr r ∧ N L (.int (if x < y then y else x) :: r) H c s) : rm_S M k Q n0 pc L st H c s := by
  obtain ⟨hk, h⟩ := h
  have h_ := rm_2i_e h
  clear h
  obtain ⟨x, y, r, rfl, hr, h⟩ := h_
  intro p l e S m args below meth cd D ad ct A sz Hp locs ls hC hL
  refine va_mmax hC.1.1 hC.1.2.1 (by rw [hC.1.2.2.1]; exact hL.1.symm) hC.own (hC.wd hw1) (hC.wd hw2) (hC.wd hw3) (hC.wd hw4) hk ?_ (Nat.sub_le _ _) (Nat.sub_le _ _) hd (hN _ _ _ _ _ h p l e S m args below meth cd D ad ct A sz Hp locs ls hC hL)
  have h1 := rm_sr_cv ad hr
  show _ ≤ 64 * k
  omega
end RMS4
/-- does the value v come of the push r? -/
def rm_okp (M : rm_M) (r : Instr) (len w : Nat) (v : Value) : Bool := match r with
  | .iconst n => decide (len = 1) && decide (v = .int (Int32.ofInt n))
  | .bipush n => decide (len = 2) && decide (v = .int (Int8.ofInt n).toInt32)
  | .sipush n => decide (len = 3) && decide (v = .int (Int16.ofInt n).toInt32)
  | .lconst n => decide (len = 1) && decide (v = .long (Int64.ofNat (n : Nat)))
  | .aconst_null => decide (len = 1) && decide (v = .null)
  | .ldc i => decide (len = 2) && (match v with
    | .int x => rm_wd w (.constant (rm_y M).cls i x)
    | .ref q => decide (rm_SB ≤ q) && (match rm_str[q - rm_SB]? with
      | some z => decide (z.1 = (rm_y M).cls) && decide (z.2.1 = i)
      | none => false)
    | _ => false)
  | .ldc_w i => decide (len = 3) && (match v with
    | .int x => rm_wd w (.constant (rm_y M).cls i x)
    | .ref q => decide (rm_SB ≤ q) && (match rm_str[q - rm_SB]? with
      | some z => decide (z.1 = (rm_y M).cls) && decide (z.2.1 = i)
      | none => false)
    | _ => false)
  | .ldc2_w i => decide (len = 3) && (match v with
    | .long x => rm_wd w (.constantLong (rm_y M).cls i x)
    | _ => false)
  | _ => false
def rm_okf (M : rm_M) (idx a b w : Nat) : Bool := match rm_cl[a]? with
  | some q => decide (b < q.2.2) && rm_wd w (.fieldLink (rm_y M).cls idx (q.2.1 b).1 (q.2.1 b).2.1 (q.2.1 b).2.2.1)
  | none => false
def rm_okt (M : rm_M) (a b : Nat) (v : Value) : Bool := match rm_cl[a]?, v with
  | some q, .int z => (match parseFieldDescriptor (q.2.1 b).2.2.1 with
    | some ty => decide (z.toNatClampNeg = rm_tyk ty)
    | none => false) && (!(q.2.1 b).2.2.2 || (decide ((rm_y M).name = "<init>") && decide ((q.2.1 b).1 = (rm_y M).cls)))
  | _, _ => false
def rm_okw (M : rm_M) (ts : List (Int32 × Nat)) (ws : List Cond) : Bool := decide (ts.length = ws.length) && (ts.zip ws).all (fun q => rm_wd q.1.2 q.2)
def rm_okr (M : rm_M) (pc : Nat) (o r : Instr) (len a b w : Nat) (v : Value) (X : rm_M) (ts : List (Int32 × Nat)) : Bool := match o with
  | .nop => rm_okp M r len w v
  | .iload i => (match r with
    | .iload_n q => decide (len = 1) && decide ((q : Nat) = i)
    | .iload q => decide (len = 2) && decide (q = i)
    | _ => false)
  | .lload i => (match r with
    | .lload_n q => decide (len = 1) && decide ((q : Nat) = i)
    | .lload q => decide (len = 2) && decide (q = i)
    | _ => false)
  | .aload i => (match r with
    | .aload_n q => decide (len = 1) && decide ((q : Nat) = i)
    | .aload q => decide (len = 2) && decide (q = i)
    | _ => false)
  | .istore i => decide (i < rm_ml M) && (match r with
    | .istore_n q => decide (len = 1) && decide ((q : Nat) = i)
    | .istore q => decide (len = 2) && decide (q = i)
    | _ => false)
  | .lstore i => decide (i + 1 < rm_ml M) && (match r with
    | .lstore_n q => decide (len = 1) && decide ((q : Nat) = i)
    | .lstore q => decide (len = 2) && decide (q = i)
    | _ => false)
  | .astore i => decide (i < rm_ml M) && (match r with
    | .astore_n q => decide (len = 1) && decide ((q : Nat) = i)
    | .astore q => decide (len = 2) && decide (q = i)
    | _ => false)
  | .iinc i n => decide (r = .iinc i n) && decide (len = 3) && decide (i < rm_ml M) && decide (v = .int (Int32.ofInt n))
  | .ifCond x off => decide (r = .ifCond x off) && decide (len = 3) && decide ((pc : Int) + off = (a : Int))
  | .if_icmp x off => decide (r = .if_icmp x off) && decide (len = 3) && decide ((pc : Int) + off = (a : Int))
  | .ifnull off => decide (r = .ifnull off) && decide (len = 3) && decide ((pc : Int) + off = (a : Int))
  | .ifnonnull off => decide (r = .ifnonnull off) && decide (len = 3) && decide ((pc : Int) + off = (a : Int))
  | .goto off => decide (r = .goto off) && decide (len = 3) && decide ((pc : Int) + off = (a : Int))
  | .tableswitch d lo hi offs => decide (r = .tableswitch d lo hi offs) && decide ((pc : Int) + d = (a : Int)) && (decide (-1000 ≤ lo) && decide (hi ≤ 1000)) && ts.all (fun q => decide (¬ q.1.toInt < lo) && decide (¬ hi < q.1.toInt) && (match offs[(q.1.toInt - lo).toNat]? with
      | some off => decide ((pc : Int) + off = (q.2 : Int))
      | none => false)) && (List.range (hi - lo + 1).toNat).all (fun i => (ts.map (·.1)).contains (Int32.ofInt (lo + i)))
  | .lookupswitch d ps => decide (r = .lookupswitch d ps) && decide ((pc : Int) + d = (a : Int)) && (ps.toList.zip (ps.toList.drop 1)).all (fun (a, next) => a.1 < next.1) && ts.all (fun q => decide ((pc : Int) + Op.lookupswitch.offset ps.toList d q.1.toInt = (q.2 : Int))) && decide (ps.toList.map (·.1) = ts.map (fun q => q.1.toInt))
  | .getfield i => decide (r = .getfield i) && decide (len = 3) && rm_okf M i a b w
  | .putfield i => decide (r = .putfield i) && decide (len = 3) && rm_okf M i a b w && rm_okt M a b v
  | .new i => decide (r = .new i) && decide (len = 3) && (match rm_cl[a]? with
    | some q => rm_okw M ts [.classLink (rm_y M).cls i q.1, .instantiable q.1 q.2.2, .initialized q.1]
    | none => false)
  | .newarray t => decide (r = .newarray t) && decide (len = 2) && decide (rm_tyc[a]? = some (newarray.typeOf t)) && decide (a < 4) && rm_okw M ts [.arrayClass (newarray.typeOf t)]
  | .anewarray i => decide (r = .anewarray i) && decide (len = 3) && (match rm_tyc[a]? with
    | some (.object C) => rm_okw M ts [.classLink (rm_y M).cls i C]
    | _ => false)
  | .invokestatic i => decide (r = .invokestatic i) && decide (len = 3) && rm_okw M ts [.methodLink (rm_y M).cls i (rm_y X), .static (rm_y X)]
  | .invokevirtual i => decide (r = .invokevirtual i) && decide (len = 3) && rm_okw M ts [.methodLink (rm_y M).cls i (rm_y X), .instanceMethod (rm_y X), .selects (rm_y X).cls (rm_y X) (rm_y X)] && (if rm_ci X = 99 then decide ((rm_y X).cls = "java/lang/String") else match rm_cl[rm_ci X]? with
    | some z => decide (z.1 = (rm_y X).cls)
    | none => false)
  | .invokespecial i => decide (r = .invokespecial i) && decide (len = 3) && (rm_wd w (.methodLink (rm_y M).cls i (rm_y X)) || decide (lw_tbl[w]? = some (.methodLinkNest (rm_y M).cls i (rm_y X) "OneDecision"))) && rm_okw M ts [.instanceMethod (rm_y X)] && decide (rm_rt X = none) && decide ((rm_y X).name = "<init>")
  | .jsr i => decide (r = .invokespecial w) && decide (len = 3) && decide (i = 0) && rm_okw M ts [.methodLink (rm_y M).cls w objectInit, .instanceMethod objectInit, .code objectInit ⟨#[0xb1]⟩ 1 none]
  | .jsr_w i => decide (r = .invokestatic w) && decide (len = 3) && decide (i = 0) && rm_okw M ts [.methodLink (rm_y M).cls w arraycopyName, .native arraycopyName, .static arraycopyName, .initialized "java/lang/System"]
  | .ret i => decide (r = .invokestatic w) && decide (len = 3) && decide (i = 0) && rm_okw M ts [.methodLink (rm_y M).cls w arraycopyName, .native arraycopyName, .static arraycopyName, .initialized "java/lang/System"]
  | .monitorenter => decide (r = .invokestatic w) && decide (len = 3) && rm_okw M ts [.methodLink (rm_y M).cls w Lib.Math.min.name, .static Lib.Math.min.name, .initialized "java/lang/Math", .code Lib.Math.min.name Lib.Math.min.code 2 (some .int)]
  | .monitorexit => decide (r = .invokestatic w) && decide (len = 3) && rm_okw M ts [.methodLink (rm_y M).cls w Lib.Math.max.name, .static Lib.Math.max.name, .initialized "java/lang/Math", .code Lib.Math.max.name Lib.Math.max.code 2 (some .int)]
  | x => decide (r = x) && decide (len = 1)
def rm_ok1 (M : rm_M) (pc : Nat) (i : rm_J) : Bool := match i with
  | (o, r, len, a, b, w, v, X, ts) => decide (decode (rm_cc M) pc = .ok (r, len)) && rm_okr M pc o r len a b w v X ts
/-- the calls of a row -/
def rm_isC (o : Instr) : Bool := match o with
  | .invokestatic _ => true
  | .invokevirtual _ => true
  | .invokespecial _ => true
  | _ => false
def rm_calls (B : List rm_J) : List (rm_M × Nat) := B.filterMap (fun i => if rm_isC i.1 then some (i.2.2.2.2.2.2.2.1, i.2.2.2.2.1) else none)
theorem rm_okw_e {M : rm_M} : ∀ {ws : List Cond} {ts : List (Int32 × Nat)}, rm_okw M ts ws = true → ∀ w ∈ ws, w ∈ rm_T := by
  intro ws
  induction ws with
  | nil => intro _ _ w hw; cases hw
  | cons x ws ih =>
    intro ts h w hw
    cases ts with
    | nil => simp [rm_okw] at h
    | cons t ts =>
      simp only [rm_okw, List.length_cons, Nat.add_right_cancel_iff, List.zip_cons_cons, List.all_cons, Bool.and_eq_true, decide_eq_true_eq] at h
      rcases List.mem_cons.mp hw with rfl | hw
      · exact rm_wd_in h.2.1
      · exact ih (ts := ts) (by simp only [rm_okw, Bool.and_eq_true, decide_eq_true_eq]; exact ⟨h.1, h.2.2⟩) w hw
