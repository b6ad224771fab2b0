/-! A small machine over the kit's worlds: abstract cells are named by the order in which they were made, abstract values are the
machine's own with such names for addresses. rm_w: the weakest start of a straight row of instructions; rm_S: what it means of the real
machine; rm_Do: a method's contract. All methods are proved over rm_w, which is sound (part 04 and on). -/
abbrev rm_H : Type := List va_E
abbrev rm_L : Type := List (Option Value)
/-- a method: its name, its bytes, how many locals, what it answers, how many cells and slots it may make, the kind of its receiver -/
abbrev rm_M : Type := MethodName × ByteArray × Nat × Option FieldType × Nat × Nat × Nat
def rm_y (M : rm_M) : MethodName := M.1
def rm_cc (M : rm_M) : ByteArray := M.2.1
def rm_ml (M : rm_M) : Nat := M.2.2.1
def rm_rt (M : rm_M) : Option FieldType := M.2.2.2.1
def rm_mc (M : rm_M) : Nat := M.2.2.2.2.1
def rm_ms (M : rm_M) : Nat := M.2.2.2.2.2.1
def rm_ci (M : rm_M) : Nat := M.2.2.2.2.2.2
def rm_T : List Cond := lw_tbl.filter goodWord
def rm_ws (M : rm_M) : List Cond := .code (rm_y M) (rm_cc M) (rm_ml M) (rm_rt M) :: rm_T
def rm_room (M : rm_M) (k : Nat) : Room := { frames := k, cells := rm_mc M, slots := rm_ms M, locals := 64 * k }
def rm_cl : List vw_C := [(RX0, TX0, 5), (RX1, TX1, 3), (RX2, TX2, 3), (RX3, TX3, 9), (RX4, TX4, 5), (RX5, TX5, 1), (RX6, TX6, 3), (RX7, TX7, 13), (RX8, TX8, 8), (RX9, TX9, 4), (RX10, TX10, 5), (RX11, TX11, 10), (RX12, TX12, 54)]
/-- names of String constants lie from here on -/
def rm_SB : Nat := 1000000000
def rm_str : List (String × Nat × String) := [("OneDecision$Text", 81, "question worth from last left bundle brings open kept gained lost wasted day realm alike wakes ask if and or not"), ("OneDecision$Text", 74, "+-*/%<=>[];"), ("OneDecisionModel", 257, "realm"), ("OneDecisionModel", 136, "question"), ("OneDecisionModel", 259, "alike"), ("OneDecisionModel", 260, "wakes"), ("OneDecisionModel", 300, "ask"), ("OneDecisionModel", 138, "worth"), ("OneDecisionModel", 139, "from"), ("OneDecisionModel", 140, "last"), ("OneDecisionModel", 142, "left"), ("OneDecisionModel", 144, "bundle"), ("OneDecisionModel", 146, "brings"), ("OneDecisionModel", 148, "open"), ("OneDecisionModel", 149, "kept"), ("OneDecisionModel", 151, "gained"), ("OneDecisionModel", 153, "lost"), ("OneDecisionModel", 155, "wasted"), ("OneDecisionModel", 157, "day"), ("OneDecisionModel", 302, "if"), ("OneDecisionModel", 239, "not"), ("OneDecisionModel", 253, "and"), ("OneDecisionModel", 255, "or")]
def rm_slen : List Nat := rm_str.map (fun q => q.2.2.length)
def rm_sbyt : List (List Int32) := rm_str.map (fun q => q.2.2.toList.map (fun c => Int32.ofNat c.toNat))
def rm_cv (ad : Nat → Nat) (v : Value) : Value := match v with
  | .ref a => .ref (ad a)
  | w => w
def rm_ce (ad : Nat → Nat) (ct : Nat → ClassId) (e : va_E) : va_E := match e with
  | .inl (t, n, .inl f) => .inl (ct t, n, .inl f)
  | .inl (t, n, .inr (.inl f)) => .inl (ct t, n, .inr (.inl f))
  | .inl (t, n, .inr (.inr (.inl f))) => .inl (ct t, n, .inr (.inr (.inl f)))
  | .inl (t, n, .inr (.inr (.inr (.inl f)))) => .inl (ct t, n, .inr (.inr (.inr (.inl f))))
  | .inl (t, n, .inr (.inr (.inr (.inr f)))) => .inl (ct t, n, .inr (.inr (.inr (.inr (fun j => (f j).map ad)))))
  | .inr (c, fs) => .inr (c, fs.map (rm_cv ad))
def rm_cw (ad : Nat → Nat) (ct : Nat → ClassId) (H : rm_H) : va_W := H.mapIdx (fun i e => (ad i, rm_ce ad ct e))
theorem rm_cw_get (ad : Nat → Nat) (ct : Nat → ClassId) (H : rm_H) (k : Nat) : (rm_cw ad ct H)[k]? = (H[k]?).map (fun e => (ad k, rm_ce ad ct e)) := by
  simp [rm_cw]
theorem rm_cw_at {ad : Nat → Nat} {ct : Nat → ClassId} {H : rm_H} {k : Nat} {e : va_E} (h : H[k]? = some e) : (rm_cw ad ct H)[k]? = some (ad k, rm_ce ad ct e) := by
  rw [rm_cw_get, h]; rfl
theorem rm_cw_set (ad : Nat → Nat) (ct : Nat → ClassId) (H : rm_H) (k : Nat) (e : va_E) : rm_cw ad ct (H.set k e) = (rm_cw ad ct H).set k (ad k, rm_ce ad ct e) := by
  apply List.ext_getElem?
  intro i
  rw [rm_cw_get, List.getElem?_set, List.getElem?_set, rm_cw_get]
  have hl : (rm_cw ad ct H).length = H.length := by simp [rm_cw]
  rw [hl]
  by_cases h : k = i
  · subst h
    by_cases h2 : k < H.length <;> simp [h2]
  · simp [h]
theorem rm_cw_len (ad : Nat → Nat) (ct : Nat → ClassId) (H : rm_H) : (rm_cw ad ct H).length = H.length := by simp [rm_cw]
theorem rm_cw_push (ad : Nat → Nat) (ct : Nat → ClassId) (H : rm_H) (e : va_E) : rm_cw ad ct (H ++ [e]) = rm_cw ad ct H ++ [(ad H.length, rm_ce ad ct e)] := by
  simp [rm_cw, List.mapIdx_append]
theorem rm_cv_cat (ad : Nat → Nat) (v : Value) : (rm_cv ad v).category = v.category := by cases v <;> rfl
def rm_tyc : List FieldType := [.int, .byte, .long, .boolean, .object "OneDecision$Rule", .object "OneDecision$Image", .object "OneDecision$State"]
def rm_tys (ct : Nat → ClassId) : List (ClassId × FieldType) := rm_tyc.mapIdx (fun i t => (ct i, t))
theorem rm_tys_at {ct : Nat → ClassId} {t : Nat} {ty : FieldType} (h : rm_tyc[t]? = some ty) : (rm_tys ct)[t]? = some (ct t, ty) := by
  simp [rm_tys, h]
def rm_isN (w : Cond) : Bool := match w with
  | .methodLinkNest _ _ _ _ => true
  | _ => false
/-- what stays so of the start, beside the words and the world: nest links, arrays of objects, String constants, two statics -/
def rm_E (ad : Nat → Nat) (A : Nat → Prop) (U : State) (Hp : Heap) : Prop :=
  (∀ w ∈ lw_tbl, rm_isN w = true → va_Nw w U) ∧ (∀ (t : Nat) (C : String), rm_tyc[t]? = some (.object C) → va_AO C U) ∧
  (∀ (j : Nat) (q : String × Nat × String), rm_str[j]? = some q → vk_R q.1 q.2.1 q.2.2 (ad (rm_SB + j)) U) ∧
  vk_S 23 rm_slen rm_sbyt (fun j => ad (rm_SB + j)) (fun j => ad (rm_SB + 23 + j)) A U Hp ∧
  va_Z "java/lang/String" "COMPACT_STRINGS" "Z" (.int 1) A U Hp ∧ (va_Z "jdk/internal/util/Preconditions" "SIOOBE_FORMATTER" "Ljava/util/function/BiFunction;" .null A U Hp ∨ va_Z "jdk/internal/util/Preconditions" "SIOOBE_FORMATTER" "Ljava/util/function/BiFunction;" (.ref (ad (rm_SB + 46))) A U Hp)
theorem rm_E.step {ad : Nat → Nat} {A B : Nat → Prop} {s U : State} {Hp : Heap} (h : rm_E ad A s s.heap) (hq : ∀ a : Nat, a < s.heap.size → ¬ A a → Hp[a]? = s.heap[a]?) (hU : U.heap = Hp) (hW : s.WarmedH U.vm) (hB : ∀ q, B q → A q) : rm_E ad B U U.heap := by
  obtain ⟨h1, h2, h3, h4, h5, h6⟩ := h
  subst hU
  refine ⟨fun w hw hn => ?_, fun t C ht => (h2 t C ht).moved hW.alike, fun j q hj => (h3 j q hj).warm hW, ((h4.kept hq).moved hW.alike).narrow hB, ((h5.kept hq).moved hW.alike).narrow hB, h6.imp (fun h => ((h.kept hq).moved hW.alike).narrow hB) (fun h => ((h.kept hq).moved hW.alike).narrow hB)⟩
  have h7 := h1 w hw hn
  cases w with
  | methodLinkNest a i x hh => exact va_Nw.warmM hW h7
  | _ => simp [rm_isN] at hn
/-- the machine stands in the method M -/
def rm_At (M : rm_M) (p : Program) (s : State) (m : MethodId) (args : Array Value) (meth : Method) (c : Code) : Prop :=
  p.tables.exec = Jvm.exec ∧ c.code = rm_cc M ∧ c.maxLocals = rm_ml M ∧ meth.sig.returnType = rm_rt M ∧ s.vm.findClass (rm_y M).cls = some m.cls ∧ (∀ w ∈ rm_ws M, w.before args s = true) ∧ meth.locks = false ∧ meth.name = (rm_y M).name
def rm_LR (ad : Nat → Nat) (L : rm_L) (ls : Array Slot) (n : Nat) : Prop := ls.size = n ∧ lv_wf ls ∧ ∀ (i : Nat) (v : Value), L[i]? = some (some v) → ls[i]? = some (.val (rm_cv ad v))
def rm_C (M : rm_M) (n0 : Nat) (p : Program) (S : State) (m : MethodId) (args : Array Value) (meth : Method) (cd : Code) (D : va_G) (ad : Nat → Nat) (ct : Nat → ClassId) (A : Nat → Prop) (sz : Nat) (H : rm_H) (c s : Nat) (Hp : Heap) (locs : List Loc) : Prop :=
  rm_At M p S m args meth cd ∧ va_K D rm_cl (rm_tys ct) S ∧ rm_E ad A S S.heap ∧ (∀ q, S.heap.size ≤ q → A q) ∧ (∀ q, A q → sz ≤ q ∨ ∃ i, i < n0 ∧ q = ad i) ∧ S.heap.size = sz ∧
  va_P D rm_cl (rm_cw ad ct H) Hp ∧ va_D A (rm_cw ad ct H) ∧ va_S A S.heap Hp locs ∧ n0 ≤ H.length ∧ (∀ j, j < rm_mc M → ad (n0 + j) = sz + j) ∧ c ≤ rm_mc M ∧ s ≤ rm_ms M
/-- the world behind a method -/
def rm_B (D : va_G) (ad : Nat → Nat) (ct : Nat → ClassId) (A : Nat → Prop) (n0 : Nat) (H1 : rm_H) (t : State) : Prop :=
  va_P D rm_cl (rm_cw ad ct H1) t.heap ∧ va_D A (rm_cw ad ct H1) ∧ va_K D rm_cl (rm_tys ct) t ∧ n0 ≤ H1.length
def rm_Qc (M : rm_M) (ad : Nat → Nat) (Q : Option Value → rm_H → Prop) (B : rm_H → State → Prop) (A : Nat → Prop) : Array Value → State → Outcome → State → Prop := match rm_rt M with
  | none => va_Qv (fun H1 => Q none H1) B A
  | some .long => va_Ql (fun r H1 => Q (some (.long r)) H1) B A
  | some (.object _) => va_Qq (fun r H1 => ∃ v, va_rf r = rm_cv ad v ∧ Q (some v) H1) B A
  | some (.array _) => va_Qq (fun r H1 => ∃ v, va_rf r = rm_cv ad v ∧ Q (some v) H1) B A
  | some _ => va_Qi (fun r H1 => Q (some (.int r)) H1) B A
/-- a method's contract, of the machine -/
def rm_D0 (M : rm_M) (k : Nat) (av : List Value) (H : rm_H) (Q : Option Value → rm_H → Prop) : Prop :=
  ∀ (l : Launch) (D : va_G) (ad : Nat → Nat) (ct : Nat → ClassId) (sz : Nat), (∀ j, j < rm_mc M → ad (H.length + j) = sz + j) →
    Met l (rm_y M) (rm_ws M) (rm_room M k) (va_Pc (av.map (rm_cv ad)) (fun U => U.heap.size = sz ∧ va_P D rm_cl (rm_cw ad ct H) U.heap ∧ va_K D rm_cl (rm_tys ct) U ∧ va_D (fun _ => True) (rm_cw ad ct H) ∧ rm_E ad (va_A (rm_cw ad ct H) sz) U U.heap))
      (rm_Qc M ad Q (rm_B D ad ct (va_A (rm_cw ad ct H) sz) H.length) (va_A (rm_cw ad ct H) sz)) (rm_mc M) (rm_ms M) (va_A (rm_cw ad ct H) sz)
def rm_Do (M : rm_M) (k : Nat) (av : List Value) (H : rm_H) (Q : Option Value → rm_H → Prop) : Prop := ∃ Q0, rm_D0 M k av H Q0 ∧ ∀ r H1, Q0 r H1 → Q r H1
theorem rm_Do.mono {M : rm_M} {k : Nat} {av : List Value} {H : rm_H} {Q Q1 : Option Value → rm_H → Prop} (h : rm_Do M k av H Q) (hq : ∀ r H1, Q r H1 → Q1 r H1) : rm_Do M k av H Q1 := by
  obtain ⟨Q0, h1, h2⟩ := h
  exact ⟨Q0, h1, fun r H1 h => hq r H1 (h2 r H1 h)⟩
/-- what it means to stand at pc -/
def rm_S (M : rm_M) (k : Nat) (Q : Option Value → rm_H → Prop) (n0 : Nat) (pc : Nat) (L : rm_L) (st : List Value) (H : rm_H) (c s : Nat) : Prop :=
  ∀ (p : Program) (l : Launch) (e : Env) (S : State) (m : MethodId) (args : Array Value) (below : List Frame) (meth : Method) (cd : Code) (D : va_G) (ad : Nat → Nat) (ct : Nat → ClassId) (A : Nat → Prop) (sz : Nat) (Hp : Heap) (locs : List Loc) (ls : Array Slot),
    rm_C M n0 p S m args meth cd D ad ct A sz H c s Hp locs → rm_LR ad L ls (rm_ml M) →
    W p l e (rm_room M k) S m args below meth cd Hp locs (rm_mc M - c) (rm_ms M - s) (MQ below (rm_Qc M ad Q (rm_B D ad ct A n0) A) args S (rm_mc M) (rm_ms M) A) (F0 m pc ls (st.map (rm_cv ad)))
abbrev rm_K : Type := rm_L → List Value → rm_H → Nat → Nat → Prop
/-- an instruction: what it does, what stands there, its length, three numbers, a value -/
abbrev rm_I : Type := Instr × Instr × Nat × Nat × Nat × Nat × Value
/-- the local ahead of i holds no long -/
def rm_pv (L : rm_L) (i : Nat) : Prop := match i with
  | 0 => True
  | j + 1 => match L[j]? with
    | some (some (.long _)) => False
    | some (some (.double _)) => False
    | _ => True
/-- the kinds of field: 0 int, 1 long, 2 boolean, 3 reference -/
def rm_fit (t : Nat) (v : Value) : Prop := match t, v with
  | 0, .int _ => True
  | 1, .long _ => True
  | 2, .int x => x = 0 ∨ x = 1
  | 3, .ref _ => True
  | 3, .null => True
  | _, _ => False
def rm_tyk (ty : FieldType) : Nat := match ty with
  | .int => 0
  | .long => 1
  | .boolean => 2
  | .object _ => 3
  | .array _ => 3
  | _ => 9
def rm_psh (r : Option Value) (st : List Value) : List Value := match r with
  | none => st
  | some v => v :: st
def rm_cond (o : ClassFile.Cond) (x y : Int32) : Prop := match o with
  | .eq => x = y
  | .ne => ¬ x = y
  | .lt => x < y
  | .ge => y ≤ x
  | .gt => y < x
  | .le => x ≤ y
/-- fields of a new object of kind ci -/
def rm_dfl (ci : Nat) : List Value := match rm_cl[ci]? with
  | some (_, T, N) => (List.range N).map (fun k => defaultValue ((parseFieldDescriptor (T k).2.2.1).getD .int))
  | none => []
