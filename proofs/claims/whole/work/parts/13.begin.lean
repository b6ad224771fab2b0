/-! A method's begin, with its locals spelled out; small rewritings -/
theorem rm_m {M : rm_M} {k : Nat} {Q : Option Value → rm_H → Prop} {H : rm_H} {T : rm_P} {av : List Value} {L : rm_L} {c s : Nat} (n : Nat) (cut : List Nat) (hok : rm_okM M T) (hy : Jvm.plainName (rm_y M).cls = true) (hl : Nat.ble (rm_ent av).length (rm_ml M) = true) (hL : rm_ini M av = L) (hc : rm_mc M = c) (hs : rm_ms M = s) (h : rm_p M T cut k Q H.length n 0 L [] H c s) : rm_Do M k av H Q := by
  subst hL; subst hc; subst hs
  exact rm_meth n cut hok hy (Nat.le_of_ble_eq_true hl) h
theorem rf_int (x : Int32) : rm_rfit (some .int) x = True := propext Iff.rfl
theorem rf_bool (x : Int32) : rm_rfit (some .boolean) x = (x = 0 ∨ x = 1) := propext Iff.rfl
def rm_sn : List Value → Nat
  | [] => 0
  | v :: r => v.category + rm_sn r
theorem sr_sn (r : List Value) : rm_sr r = (rm_sn r ≤ 8) := by
  have h : ∀ r : List Value, (r.map fun v => v.category).sum = rm_sn r := by
    intro r
    induction r with
    | nil => rfl
    | cons v r ih => simp [rm_sn, ih]
  unfold rm_sr
  rw [h]
theorem sn_0 : rm_sn [] = 0 := rfl
theorem sn_i (x : Int32) (r : List Value) : rm_sn (.int x :: r) = 1 + rm_sn r := rfl
theorem sn_l (x : Int64) (r : List Value) : rm_sn (.long x :: r) = 2 + rm_sn r := rfl
theorem sn_r (x : Nat) (r : List Value) : rm_sn (.ref x :: r) = 1 + rm_sn r := rfl
theorem sn_n (r : List Value) : rm_sn (.null :: r) = 1 + rm_sn r := rfl
def rm_oo (o : Option va_E) (f : Nat → List Value → Prop) : Prop := match o with
  | some (.inr (ci, fs)) => f ci fs
  | _ => False
def rm_ao (o : Option va_E) (f : Nat → Nat → (Nat → Int32) → Prop) : Prop := match o with
  | some (.inl (t, n, .inl g)) => f t n g
  | _ => False
def rm_lo (o : Option va_E) (f : Nat → Nat → (Nat → Int64) → Prop) : Prop := match o with
  | some (.inl (t, n, .inr (.inl g))) => f t n g
  | _ => False
def rm_qo (o : Option va_E) (f : Nat → Nat → (Nat → Option Nat) → Prop) : Prop := match o with
  | some (.inl (t, n, .inr (.inr (.inr (.inr g))))) => f t n g
  | _ => False
def rm_rvv (n : Nat) (o : Option va_E) (q : Nat) : Prop := if n = 99 then ∃ j, j < 23 ∧ q = rm_SB + j else match o with
  | some (.inr (ci, _)) => ci = n
  | _ => False
section RMO
variable {X : rm_M} {H : rm_H} {q a b ci t n : Nat} {fs : List Value} {f : Nat → List Value → Prop} {fi : Nat → Nat → (Nat → Int32) → Prop} {fl : Nat → Nat → (Nat → Int64) → Prop} {fq : Nat → Nat → (Nat → Option Nat) → Prop} {fn : Nat → Nat → Prop} {gi : Nat → Int32} {gl : Nat → Int64} {gq : Nat → Option Nat} {e : va_E}
theorem ob_o : rm_ob H q f = rm_oo H[q]? f := propext Iff.rfl
theorem ar_o : rm_ar H q fi = rm_ao H[q]? fi := propext Iff.rfl
theorem al_o : rm_al' H q fl = rm_lo H[q]? fl := propext Iff.rfl
theorem aq_o : rm_aq H q fq = rm_qo H[q]? fq := propext Iff.rfl
theorem oo_1 : rm_oo (some (.inr (ci, fs))) f = f ci fs := propext Iff.rfl
theorem ao_1 : rm_ao (some (.inl (t, n, .inl gi))) fi = fi t n gi := propext Iff.rfl
theorem lo_1 : rm_lo (some (.inl (t, n, .inr (.inl gl)))) fl = fl t n gl := propext Iff.rfl
theorem qo_1 : rm_qo (some (.inl (t, n, .inr (.inr (.inr (.inr gq)))))) fq = fq t n gq := propext Iff.rfl
theorem lno_1 : rm_aln (some (.inl (t, n, .inl gi))) fn = fn t n := propext Iff.rfl
theorem aln_o : rm_aln (some (.inl (t, n, .inr (.inl gl)))) fn = fn t n := propext Iff.rfl
theorem rv_o : rm_rv X H q = rm_rvv (rm_ci X) H[q]? q := propext Iff.rfl
theorem rvv_0 : rm_rvv 0 (some (.inr (ci, fs))) q = (ci = 0) := propext Iff.rfl
theorem rvv_1 : rm_rvv 1 (some (.inr (ci, fs))) q = (ci = 1) := propext Iff.rfl
theorem rvv_2 : rm_rvv 2 (some (.inr (ci, fs))) q = (ci = 2) := propext Iff.rfl
theorem rvv_3 : rm_rvv 3 (some (.inr (ci, fs))) q = (ci = 3) := propext Iff.rfl
theorem rvv_4 : rm_rvv 4 (some (.inr (ci, fs))) q = (ci = 4) := propext Iff.rfl
theorem rvv_5 : rm_rvv 5 (some (.inr (ci, fs))) q = (ci = 5) := propext Iff.rfl
theorem rvv_6 : rm_rvv 6 (some (.inr (ci, fs))) q = (ci = 6) := propext Iff.rfl
theorem rvv_7 : rm_rvv 7 (some (.inr (ci, fs))) q = (ci = 7) := propext Iff.rfl
theorem rvv_8 : rm_rvv 8 (some (.inr (ci, fs))) q = (ci = 8) := propext Iff.rfl
theorem rvv_9 : rm_rvv 9 (some (.inr (ci, fs))) q = (ci = 9) := propext Iff.rfl
theorem rvv_10 : rm_rvv 10 (some (.inr (ci, fs))) q = (ci = 10) := propext Iff.rfl
theorem rvv_11 : rm_rvv 11 (some (.inr (ci, fs))) q = (ci = 11) := propext Iff.rfl
theorem rvv_12 : rm_rvv 12 (some (.inr (ci, fs))) q = (ci = 12) := propext Iff.rfl
theorem hg_set (h : a < H.length) : (H.set a e)[a]? = some e := by simp [h]
theorem hg_ne (h : ¬ a = b) : (H.set a e)[b]? = H[b]? := by simp [h]
end RMO
theorem or_01 : ((0 : Int32) = 0 ∨ (0 : Int32) = 1) = True := by simp
theorem or_11 : ((1 : Int32) = 0 ∨ (1 : Int32) = 1) = True := by simp
theorem nI_inc (i : Nat) : nI i + 1 = nI (i + 1) := nI_1 i
theorem lt_00 : ((0 : Int32) < 0) = False := eq_false (by decide)
theorem lt_80 : ((8 : Int32) < 0) = False := eq_false (by decide)
theorem lt_40 : ((4 : Int32) < 0) = False := eq_false (by decide)
theorem lt_100 : ((10 : Int32) < 0) = False := eq_false (by decide)
theorem tn_8 : (8 : Int32).toNatClampNeg = 8 := by decide
theorem tn_4 : (4 : Int32).toNatClampNeg = 4 := by decide
theorem tn_10 : (10 : Int32).toNatClampNeg = 10 := by decide
theorem le_88 : (8 ≤ 8) = True := eq_true (by decide)
