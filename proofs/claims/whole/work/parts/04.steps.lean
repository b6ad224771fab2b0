/-! The instructions of the small machine -/
def rm_al (M X : rm_M) (n0 : Nat) (H : rm_H) (c s : Nat) : Prop := rm_mc X ≤ c ∧ rm_ms X ≤ s ∧ (rm_mc X = 0 ∨ H.length + c = n0 + rm_mc M)
/-- room on the stack below a call -/
def rm_sr (rest : List Value) : Prop := (rest.map fun v => v.category).sum ≤ 8
/-- the receiver is of the method's kind -/
def rm_rv (X : rm_M) (H : rm_H) (a : Nat) : Prop := if rm_ci X = 99 then ∃ j, j < 23 ∧ a = rm_SB + j else match H[a]? with
  | some (.inr (ci, _)) => ci = rm_ci X
  | _ => False
def rm_rfit (t : Option FieldType) (x : Int32) : Prop := match t with
  | some .int => True
  | some .boolean => x = 0 ∨ x = 1
  | some .char => narrow .char (.int x) = .int x
  | _ => False
def rm_1i (st : List Value) (f : Int32 → List Value → Prop) : Prop := match st with
  | .int x :: r => f x r
  | _ => False
def rm_2i (st : List Value) (f : Int32 → Int32 → List Value → Prop) : Prop := match st with
  | .int y :: .int x :: r => f x y r
  | _ => False
def rm_1l (st : List Value) (f : Int64 → List Value → Prop) : Prop := match st with
  | .long x :: r => f x r
  | _ => False
def rm_2l (st : List Value) (f : Int64 → Int64 → List Value → Prop) : Prop := match st with
  | .long y :: .long x :: r => f x y r
  | _ => False
def rm_li (st : List Value) (f : Int64 → Int32 → List Value → Prop) : Prop := match st with
  | .int y :: .long x :: r => f x y r
  | _ => False
def rm_1r (st : List Value) (f : Nat → List Value → Prop) : Prop := match st with
  | .ref a :: r => f a r
  | _ => False
def rm_ri (st : List Value) (f : Nat → Int32 → List Value → Prop) : Prop := match st with
  | .int i :: .ref a :: r => f a i r
  | _ => False
def rm_rii (st : List Value) (f : Nat → Int32 → Int32 → List Value → Prop) : Prop := match st with
  | .int x :: .int i :: .ref a :: r => f a i x r
  | _ => False
def rm_ril (st : List Value) (f : Nat → Int32 → Int64 → List Value → Prop) : Prop := match st with
  | .long x :: .int i :: .ref a :: r => f a i x r
  | _ => False
def rm_rir (st : List Value) (f : Nat → Int32 → Nat → List Value → Prop) : Prop := match st with
  | .ref x :: .int i :: .ref a :: r => f a i x r
  | _ => False
def rm_x1 (st : List Value) (f : Value → List Value → Prop) : Prop := match st with
  | x :: r => f x r
  | _ => False
def rm_x2 (st : List Value) (f : Value → Value → List Value → Prop) : Prop := match st with
  | x :: y :: r => f x y r
  | _ => False
/-- a reference, or null -/
def rm_rn (st : List Value) (f : Nat → List Value → Prop) (g : List Value → Prop) : Prop := match st with
  | .ref x :: r => f x r
  | .null :: r => g r
  | _ => False
def rm_xr (st : List Value) (f : Value → Nat → List Value → Prop) : Prop := match st with
  | x :: .ref q :: r => f x q r
  | _ => False
def rm_c5 (st : List Value) (f : Int32 → Int32 → Nat → Int32 → Nat → List Value → Prop) : Prop := match st with
  | .int n :: .int dp :: .ref d :: .int sp :: .ref q :: r => f n dp d sp q r
  | _ => False
def rm_ob (H : rm_H) (a : Nat) (f : Nat → List Value → Prop) : Prop := match H[a]? with
  | some (.inr (ci, fs)) => f ci fs
  | _ => False
/-- an array of ints, bytes or booleans: its kind, length, contents -/
def rm_ar (H : rm_H) (a : Nat) (f : Nat → Nat → (Nat → Int32) → Prop) : Prop := match H[a]? with
  | some (.inl (t, n, .inl g)) => f t n g
  | _ => False
def rm_al' (H : rm_H) (a : Nat) (f : Nat → Nat → (Nat → Int64) → Prop) : Prop := match H[a]? with
  | some (.inl (t, n, .inr (.inl g))) => f t n g
  | _ => False
def rm_aq (H : rm_H) (a : Nat) (f : Nat → Nat → (Nat → Option Nat) → Prop) : Prop := match H[a]? with
  | some (.inl (t, n, .inr (.inr (.inr (.inr g))))) => f t n g
  | _ => False
def rm_i (M : rm_M) (k : Nat) (Q : Option Value → rm_H → Prop) (n0 : Nat) (J : Nat → rm_K) (o : Instr) (a b : Nat) (v : Value) (X : rm_M) (ts : List (Int32 × Nat)) (N : rm_K) (L : rm_L) (st : List Value) (H : rm_H) (c s : Nat) : Prop := match o with
  | .nop => N L (v :: st) H c s
  | .iload i => match L[i]? with
    | some (some (.int x)) => N L (.int x :: st) H c s
    | _ => False
  | .lload i => match L[i]? with
    | some (some (.long x)) => N L (.long x :: st) H c s
    | _ => False
  | .aload i => match L[i]? with
    | some (some (.ref x)) => N L (.ref x :: st) H c s
    | some (some .null) => N L (.null :: st) H c s
    | _ => False
  | .istore i => rm_1i st fun x r => rm_pv L i ∧ N (L.set i (some (.int x))) r H c s
  | .lstore i => rm_1l st fun x r => rm_pv L i ∧ N ((L.set i (some (.long x))).set (i + 1) none) r H c s
  | .astore i => rm_rn st (fun x r => rm_pv L i ∧ N (L.set i (some (.ref x))) r H c s) (fun r => rm_pv L i ∧ N (L.set i (some .null)) r H c s)
  | .iinc i _ => match L[i]?, v with
    | some (some (.int x)), .int d => rm_pv L i ∧ N (L.set i (some (.int (x + d)))) st H c s
    | _, _ => False
  | .iadd => rm_2i st fun x y r => N L (.int (x + y) :: r) H c s
  | .isub => rm_2i st fun x y r => N L (.int (x - y) :: r) H c s
  | .imul => rm_2i st fun x y r => N L (.int (x * y) :: r) H c s
  | .iand => rm_2i st fun x y r => N L (.int (x &&& y) :: r) H c s
  | .ior => rm_2i st fun x y r => N L (.int (x ||| y) :: r) H c s
  | .ixor => rm_2i st fun x y r => N L (.int (x ^^^ y) :: r) H c s
  | .ishl => rm_2i st fun x y r => N L (.int (x <<< (y &&& 31)) :: r) H c s
  | .ishr => rm_2i st fun x y r => N L (.int (x >>> (y &&& 31)) :: r) H c s
  | .iushr => rm_2i st fun x y r => N L (.int ((x.toUInt32 >>> (y.toUInt32 &&& Int32.toUInt32 31)).toInt32) :: r) H c s
  | .idiv => rm_2i st fun x y r => ¬ y = 0 ∧ N L (.int (x / y) :: r) H c s
  | .irem => rm_2i st fun x y r => ¬ y = 0 ∧ N L (.int (x - x / y * y) :: r) H c s
  | .ladd => rm_2l st fun x y r => N L (.long (x + y) :: r) H c s
  | .lsub => rm_2l st fun x y r => N L (.long (x - y) :: r) H c s
  | .lmul => rm_2l st fun x y r => N L (.long (x * y) :: r) H c s
  | .land => rm_2l st fun x y r => N L (.long (x &&& y) :: r) H c s
  | .lor => rm_2l st fun x y r => N L (.long (x ||| y) :: r) H c s
  | .ldiv => rm_2l st fun x y r => ¬ y = 0 ∧ N L (.long (x / y) :: r) H c s
  | .lrem => rm_2l st fun x y r => ¬ y = 0 ∧ N L (.long (x - x / y * y) :: r) H c s
  | .lshl => rm_li st fun x y r => N L (.long (x <<< (y.toInt64 &&& 63)) :: r) H c s
  | .lshr => rm_li st fun x y r => N L (.long (x >>> (y.toInt64 &&& 63)) :: r) H c s
  | .lcmp => rm_2l st fun x y r => N L (.int (lg_cmp x y) :: r) H c s
  | .i2l => rm_1i st fun x r => N L (.long x.toInt64 :: r) H c s
  | .l2i => rm_1l st fun x r => N L (.int x.toInt32 :: r) H c s
  | .i2b => rm_1i st fun x r => N L (.int x.toInt8.toInt32 :: r) H c s
  | .i2c => rm_1i st fun x r => N L (.int (x.toUInt32 % 65536).toInt32 :: r) H c s
  | .dup => rm_x1 st fun x r => x.category = 1 ∧ N L (x :: x :: r) H c s
  | .dup2 => rm_x2 st fun x y r => x.category = 1 ∧ y.category = 1 ∧ N L (x :: y :: x :: y :: r) H c s
  | .dup_x1 => rm_x2 st fun x y r => x.category = 1 ∧ y.category = 1 ∧ N L (x :: y :: x :: r) H c s
  | .pop => rm_x1 st fun x r => x.category = 1 ∧ N L r H c s
  | .ifCond o _ => rm_1i st fun x r => (rm_cond o x 0 → J a L r H c s) ∧ (¬ rm_cond o x 0 → N L r H c s)
  | .if_icmp o _ => rm_2i st fun x y r => (rm_cond o x y → J a L r H c s) ∧ (¬ rm_cond o x y → N L r H c s)
  | .ifnull _ => rm_rn st (fun _ r => N L r H c s) (fun r => J a L r H c s)
  | .ifnonnull _ => rm_rn st (fun _ r => J a L r H c s) (fun r => N L r H c s)
  | .goto _ => J a L st H c s
  | .tableswitch _ _ _ _ => rm_1i st fun x r => (∀ q ∈ ts, x = q.1 → J q.2 L r H c s) ∧ ((∀ q ∈ ts, ¬ x = q.1) → J a L r H c s)
  | .lookupswitch _ _ => rm_1i st fun x r => (∀ q ∈ ts, x = q.1 → J q.2 L r H c s) ∧ ((∀ q ∈ ts, ¬ x = q.1) → J a L r H c s)
  | .getfield _ => rm_1r st fun q r => rm_ob H q fun ci fs => ci = a ∧ match fs[b]? with
    | some x => N L (x :: r) H c s
    | none => False
  | .putfield _ => rm_xr st fun x q r => rm_ob H q fun ci fs => ci = a ∧ b < fs.length ∧ rm_fit (match v with | .int z => z.toNatClampNeg | _ => 9) x ∧ N L r (H.set q (.inr (a, fs.set b x))) c s
  | .arraylength => rm_1r st fun q r => match H[q]? with
    | some (.inl (t, n, _)) => t < 7 ∧ N L (.int (Int32.ofNat n) :: r) H c s
    | _ => False
  | .iaload => rm_ri st fun q i r => rm_ar H q fun t n g => t = 0 ∧ vp_in i n ∧ N L (.int (g i.toNatClampNeg) :: r) H c s
  | .baload => rm_ri st fun q i r => rm_ar H q fun t n g => (t = 1 ∨ t = 3) ∧ vp_in i n ∧ N L (.int (g i.toNatClampNeg) :: r) H c s
  | .laload => rm_ri st fun q i r => rm_al' H q fun t n g => t = 2 ∧ vp_in i n ∧ N L (.long (g i.toNatClampNeg) :: r) H c s
  | .aaload => rm_ri st fun q i r => rm_aq H q fun t n g => (4 ≤ t ∧ t < 7) ∧ vp_in i n ∧ N L (va_rf (g i.toNatClampNeg) :: r) H c s
  | .iastore => rm_rii st fun q i x r => rm_ar H q fun t n g => t = 0 ∧ vp_in i n ∧ N L r (H.set q (.inl (0, n, .inl (upd g i.toNatClampNeg x)))) c s
  | .bastore => rm_rii st fun q i x r => rm_ar H q fun t n g => vp_in i n ∧ ((t = 1 ∧ N L r (H.set q (.inl (1, n, .inl (upd g i.toNatClampNeg (vp_nar .byte x))))) c s) ∨ (t = 3 ∧ N L r (H.set q (.inl (3, n, .inl (upd g i.toNatClampNeg (vp_nar .boolean x))))) c s))
  | .lastore => rm_ril st fun q i x r => rm_al' H q fun t n g => t = 2 ∧ vp_in i n ∧ N L r (H.set q (.inl (2, n, .inr (.inl (vp_updL g i.toNatClampNeg x))))) c s
  | .aastore => rm_rir st fun q i x r => rm_aq H q fun t n g => vp_in i n ∧ rm_ob H x fun ci _ => (match rm_cl[ci]? with | some z => rm_tyc[t]? = some (.object z.1) | none => False) ∧ N L r (H.set q (.inl (t, n, .inr (.inr (.inr (.inr (va_up g i.toNatClampNeg (some x)))))))) c s
  | .new _ => H.length + c = n0 + rm_mc M ∧ 1 ≤ c ∧ (rm_dfl a).length ≤ s ∧ N L (.ref H.length :: st) (H ++ [.inr (a, rm_dfl a)]) (c - 1) (s - (rm_dfl a).length)
  | .newarray _ => rm_1i st fun x r => H.length + c = n0 + rm_mc M ∧ 1 ≤ c ∧ ¬ x < 0 ∧ x.toNatClampNeg ≤ 100000 ∧ x.toNatClampNeg ≤ s ∧ N L (.ref H.length :: r) (H ++ [.inl (a, x.toNatClampNeg, (if a = 2 then .inr (.inl (fun _ => 0)) else .inl (fun _ => 0)))]) (c - 1) (s - x.toNatClampNeg)
  | .anewarray _ => rm_1i st fun x r => H.length + c = n0 + rm_mc M ∧ 1 ≤ c ∧ ¬ x < 0 ∧ x.toNatClampNeg ≤ 100000 ∧ x.toNatClampNeg ≤ s ∧ N L (.ref H.length :: r) (H ++ [.inl (a, x.toNatClampNeg, .inr (.inr (.inr (.inr (fun _ => none)))))]) (c - 1) (s - x.toNatClampNeg)
  | .invokestatic _ => match k with
    | 0 => False
    | j + 1 => b ≤ st.length ∧ rm_sr (st.drop b) ∧ rm_al M X n0 H c s ∧ rm_Do X j (st.take b).reverse H (fun r H1 => H.length ≤ H1.length → N L (rm_psh r (st.drop b)) H1 (c - rm_mc X) (s - rm_ms X))
  | .invokevirtual _ => match k with
    | 0 => False
    | j + 1 => b ≤ st.length ∧ rm_1r (st.drop b) fun q r => rm_rv X H q ∧ rm_sr r ∧ rm_al M X n0 H c s ∧ rm_Do X j (.ref q :: (st.take b).reverse) H (fun w H1 => H.length ≤ H1.length → N L (rm_psh w r) H1 (c - rm_mc X) (s - rm_ms X))
  | .invokespecial _ => match k with
    | 0 => False
    | j + 1 => b ≤ st.length ∧ rm_1r (st.drop b) fun q r => rm_sr r ∧ rm_al M X n0 H c s ∧ rm_Do X j (.ref q :: (st.take b).reverse) H (fun w H1 => H.length ≤ H1.length → N L (rm_psh w r) H1 (c - rm_mc X) (s - rm_ms X))
  | .jsr _ => 1 ≤ k ∧ rm_1r st fun _ r => rm_sr r ∧ N L r H c s
  | .jsr_w _ => 1 ≤ k ∧ rm_c5 st fun n dp d sp q r => rm_sr r ∧ rm_ar H q fun t n1 f => rm_ar H d fun t2 n2 g => t = 0 ∧ t2 = 0 ∧ ¬ sp < 0 ∧ ¬ dp < 0 ∧ ¬ n < 0 ∧ sp.toNatClampNeg + n.toNatClampNeg ≤ n1 ∧ dp.toNatClampNeg + n.toNatClampNeg ≤ n2 ∧ N L r (H.set d (.inl (0, n2, .inl (va_cpy f g sp.toNatClampNeg dp.toNatClampNeg n.toNatClampNeg)))) c s
  | .ret _ => 1 ≤ k ∧ rm_c5 st fun n dp d sp q r => rm_sr r ∧ rm_aq H q fun t n1 f => rm_aq H d fun t2 n2 g => t = 6 ∧ t2 = 6 ∧ ¬ sp < 0 ∧ ¬ dp < 0 ∧ ¬ n < 0 ∧ sp.toNatClampNeg + n.toNatClampNeg ≤ n1 ∧ dp.toNatClampNeg + n.toNatClampNeg ≤ n2 ∧ (∀ i, i < n.toNatClampNeg → ∀ y, f (sp.toNatClampNeg + i) = some y → rm_ob H y fun ci _ => ci = 7) ∧ N L r (H.set d (.inl (6, n2, .inr (.inr (.inr (.inr (va_cpy f g sp.toNatClampNeg dp.toNatClampNeg n.toNatClampNeg))))))) c s
  | .monitorenter => 1 ≤ k ∧ rm_2i st fun x y r => rm_sr r ∧ N L (.int (if y < x then y else x) :: r) H c s
  | .monitorexit => 1 ≤ k ∧ rm_2i st fun x y r => rm_sr r ∧ N L (.int (if x < y then y else x) :: r) H c s
  | .ireturn => match st with
    | [.int x] => rm_rfit (rm_rt M) x ∧ Q (some (.int x)) H
    | _ => False
  | .lreturn => match st with
    | [.long x] => rm_rt M = some .long ∧ Q (some (.long x)) H
    | _ => False
  | .areturn => match st with
    | [.ref x] => (match rm_rt M with | some (.object _) => True | some (.array _) => True | _ => False) ∧ Q (some (.ref x)) H
    | [.null] => (match rm_rt M with | some (.object _) => True | some (.array _) => True | _ => False) ∧ Q (some .null) H
    | _ => False
  | .return_ => match st with
    | [] => rm_rt M = none ∧ Q none H
    | _ => False
  | _ => False
abbrev rm_J : Type := Instr × Instr × Nat × Nat × Nat × Nat × Value × rm_M × List (Int32 × Nat)
def rm_w (M : rm_M) (k : Nat) (Q : Option Value → rm_H → Prop) (n0 : Nat) (J : Nat → rm_K) : List rm_J → Nat → rm_K
  | [], pc => J pc
  | (o, _, len, a, b, _, v, X, ts) :: rest, pc => rm_i M k Q n0 J o a b v X ts (rm_w M k Q n0 J rest (pc + len))
/-- a word of the tables, by its place -/
def rm_wd (i : Nat) (w : Cond) : Bool := decide (lw_tbl[i]? = some w) && goodWord w
theorem rm_wd_in {i : Nat} {w : Cond} (h : rm_wd i w = true) : w ∈ rm_T := by
  simp only [rm_wd, Bool.and_eq_true, decide_eq_true_eq] at h
  exact List.mem_filter.mpr ⟨List.mem_of_getElem? h.1, h.2⟩
