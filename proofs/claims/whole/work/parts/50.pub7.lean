/-! Public methods: bind, cover, rescue -/
/-- the best pair: how much, which -/
def bdI (f : Nat → Nat → Int32) (A : Nat → Int32) (x : Nat) : Nat → Nat → Int32 × Int32 × Int32 → Int32 × Int32 × Int32
  | 0, _, z => z
  | d + 1, y, z => bdI f A x d (y + 1) (if bq (A x) (nI y) = 0 then (if z.1 < f x y then (f x y, nI x, nI y) else z) else z)
def bdO (f : Nat → Nat → Int32) (A : Nat → Int32) (N : Nat) : Nat → Nat → Int32 × Int32 × Int32 → Int32 × Int32 × Int32
  | 0, _, z => z
  | d + 1, x, z => bdO f A N d (x + 1) (bdI f A x (N - (x + 1)) (x + 1) z)
noncomputable def bdV (rl : rlA) (n : Nat) (v : stV) : Int32 × Int32 × Int32 := bdO (fun x y => balV (bsV rl n (tieV x y v))) (sA v) (rN (sR v)) (rN (sR v)) 0 (balV (bsV rl n v), -1, -1)
noncomputable def aBind (n x : Int32) (w : oV) : Int32 × oV := if tld w ∧ wn 1 n 60 ∧ wn 0 x 2 then ((if x = 0 then (bdV (rfV w) n.toNatClampNeg (oS w)).1 - balV (oS w) else if x = 1 then (bdV (rfV w) n.toNatClampNeg (oS w)).2.1 else (bdV (rfV w) n.toNatClampNeg (oS w)).2.2), w) else (-100000, w)
/-- the smallest set of o with P, the first of them -/
def seF (P : Int32 → Bool) (o : Int32) : Nat → Nat → Int32 × Int32 → Int32 × Int32
  | 0, _, z => z
  | d + 1, s, z => seF P o d (s + 1) (if nI s &&& (o ^^^ (-1)) = 0 then (if bcF (nI s) < z.2 then (if P (nI s) = true then (nI s, bcF (nI s)) else z) else z) else z)
def cvB (v : stV) (s : Int32) : Bool := decide (opV v &&& (cvF (sA v) s (rN (sR v)) ^^^ (-1)) = 0)
def aCover (x : Int32) (w : oV) : Int32 × oV := if tld w ∧ wn 0 x 1 then ((if x = 0 then (seF (cvB (oS w)) (opV (oS w)) ((opV (oS w)).toNatClampNeg + 1) 0 (opV (oS w), 9)).2 else (seF (cvB (oS w)) (opV (oS w)) ((opV (oS w)).toNatClampNeg + 1) 0 (opV (oS w), 9)).1), w) else (-1, w)
/-- the questions of a set are answered, those that are there -/
def raF (s : Int32) : Nat → Nat → stV → stV
  | 0, _, v => v
  | d + 1, i, v => raF s d (i + 1) (if ¬ bq s (nI i) = 0 ∧ ((0 ≤ nI i ∧ nI i < nI (rN (sR v))) ∧ ¬ bq (opV v) (nI i) = 0) then decV (nI i) v else v)
/-- days, as long as nothing more is lost -/
def rlF (rl : rlA) (lb : Int32) : Nat → stV → stV
  | 0, v => v
  | d + 1, v => if nLs v = lb then rlF rl lb d (dyV rl v).2 else v
def rsB (rl : rlA) (n : Nat) (v : stV) (s : Int32) : Bool := decide (nLs (rlF rl (nLs v) n (raF s 8 0 v)) = nLs v)
def aRescue (n x : Int32) (w : oV) : Int32 × oV := if tld w ∧ wn 1 n 60 ∧ wn 0 x 1 then ((if x = 1 ∨ (seF (rsB (rfV w) n.toNatClampNeg (oS w)) (opV (oS w)) ((opV (oS w)).toNatClampNeg + 1) 0 (-2, 9)).1 = -2 then (seF (rsB (rfV w) n.toNatClampNeg (oS w)) (opV (oS w)) ((opV (oS w)).toNatClampNeg + 1) 0 (-2, 9)).1 else (seF (rsB (rfV w) n.toNatClampNeg (oS w)) (opV (oS w)) ((opV (oS w)).toNatClampNeg + 1) 0 (-2, 9)).2), w) else (-1, w)
/-- eight bits are a small number -/
theorem bt8 {x : Int32} (h : ∀ i, 8 ≤ i → i < 32 → bt x i = false) : ∃ o, o < 256 ∧ x = nI o := by
  have e : x = x &&& 255 := by
    apply b_ext
    intro i hi
    rw [b_and, b_255]
    by_cases h8 : i < 8
    · simp [h8]
    · rw [h i (by omega) hi]; simp
  obtain ⟨n, hn, e2⟩ := yF_n (fun _ => x) 1 0
  refine ⟨n, hn, ?_⟩
  rw [← e2]
  exact e
theorem opV_n {v : stV} (hN : rN (sR v) ≤ 8) : ∃ o, o < 256 ∧ opV v = nI o := by
  refine bt8 (fun i h8 hi => ?_)
  by_cases hb : bt (opV v) i = true
  · have := (oset_bt _ hN i hi).mp hb
    omega
  · exact Bool.not_eq_true _ ▸ hb
