/-! SM: a small machine over a flat heap. Its rows are the class files' instructions, linked ahead: numbers of fields, calls and targets are its own. -/
abbrev SH : Type := (Nat → Nat → Int32) × (Nat → Nat → Value) × (Nat → Nat → Int64) × (Nat → Nat) × (Nat → Nat) × Nat × Nat
abbrev SL : Type := List (Option Value)
abbrev SR : Type := Option ((Option Value ⊕ Nat) × SH)
/-- ints of a cell -/
def sI (σ : SH) (a k : Nat) : Int32 := σ.1 a k
/-- references of a cell -/
def sV (σ : SH) (a k : Nat) : Value := σ.2.1 a k
/-- longs of a cell -/
def sJ (σ : SH) (a k : Nat) : Int64 := σ.2.2.1 a k
/-- what a cell is: 1, 2, 3 rows of int, byte, long; 4, 5, 6 the script, a constant's bytes, the enum's constants; 10 + c a row of references to class c; 100 + c an object of class c -/
def sT (σ : SH) (a : Nat) : Nat := σ.2.2.2.1 a
/-- the length of a row -/
def sN (σ : SH) (a : Nat) : Nat := σ.2.2.2.2.1 a
/-- the next address -/
def sZ (σ : SH) : Nat := σ.2.2.2.2.2.1
/-- slots made so far -/
def sS (σ : SH) : Nat := σ.2.2.2.2.2.2
def wI (σ : SH) (a k : Nat) (x : Int32) : SH := (fun a' k' => if a' = a ∧ k' = k then x else σ.1 a' k', σ.2)
def wV (σ : SH) (a k : Nat) (x : Value) : SH := (σ.1, fun a' k' => if a' = a ∧ k' = k then x else σ.2.1 a' k', σ.2.2)
def wJ (σ : SH) (a k : Nat) (x : Int64) : SH := (σ.1, σ.2.1, fun a' k' => if a' = a ∧ k' = k then x else σ.2.2.1 a' k', σ.2.2.2)
/-- a new cell: its kind, its length, its slots -/
def mkC (σ : SH) (t n s : Nat) : SH :=
  (fun a k => if a = sZ σ then 0 else sI σ a k, fun a k => if a = sZ σ then .null else sV σ a k, fun a k => if a = sZ σ then 0 else sJ σ a k,
    fun a => if a = sZ σ then t else sT σ a, fun a => if a = sZ σ then n else sN σ a, sZ σ + 1, sS σ + s)
/-- n ints copied from place p of row a to place q of row b -/
def cpI (σ : SH) (a p b q n : Nat) : SH := (fun a' k' => if a' = b ∧ q ≤ k' ∧ k' < q + n then σ.1 a (p + (k' - q)) else σ.1 a' k', σ.2)
def irm (x y : Int32) : Int32 := x - x / y * y
def shl (x y : Int32) : Int32 := x <<< (y &&& 31)
def shr (x y : Int32) : Int32 := x >>> (y &&& 31)
def ush (x y : Int32) : Int32 := (x.toUInt32 >>> (y.toUInt32 &&& Int32.toUInt32 31)).toInt32
def i2b (x : Int32) : Int32 := x.toInt8.toInt32
def i2c (x : Int32) : Int32 := (x.toUInt32 % 65536).toInt32
def lcm (x y : Int64) : Int32 := lg_cmp x y
def bIn (i : Int32) (n : Nat) : Bool := !(decide (i < 0) || decide (n ≤ i.toNatClampNeg))
def aRef (v : Value) (k : Nat → SR) : SR := match v with
  | .ref a => k a
  | _ => none
def rd2 (v : Value) (kn : SR) (kr : Nat → SR) : SR := match v with
  | .null => kn
  | .ref a => kr a
  | _ => none
/-- what comes of a call: a value, nothing, a throw -/
def onI (r : SR) (k : Int32 → SH → SR) (kx : Nat → SH → SR) : SR := match r with
  | some (.inl (some (.int x)), σ) => k x σ
  | some (.inr e, σ) => kx e σ
  | _ => none
def onV (r : SR) (k : SH → SR) (kx : Nat → SH → SR) : SR := match r with
  | some (.inl none, σ) => k σ
  | some (.inr e, σ) => kx e σ
  | _ => none
def onR (r : SR) (k : Nat → SH → SR) (kx : Nat → SH → SR) : SR := match r with
  | some (.inl (some (.ref a)), σ) => k a σ
  | some (.inr e, σ) => kx e σ
  | _ => none
def onQ (r : SR) (kn : SH → SR) (k : Nat → SH → SR) (kx : Nat → SH → SR) : SR := match r with
  | some (.inl (some .null), σ) => kn σ
  | some (.inl (some (.ref a)), σ) => k a σ
  | some (.inr e, σ) => kx e σ
  | _ => none
def gI (σ : SH) (t f : Nat) (v : Value) (k : Int32 → SR) : SR := aRef v fun a => if sT σ a = t then k (sI σ a f) else none
def gR (σ : SH) (t f : Nat) (v : Value) (k : Nat → SR) : SR := aRef v fun a => if sT σ a = t then aRef (sV σ a f) k else none
def gQ (σ : SH) (t f : Nat) (v : Value) (kn : SR) (k : Nat → SR) : SR := aRef v fun a => if sT σ a = t then rd2 (sV σ a f) kn k else none
def pI (σ : SH) (t f : Nat) (v : Value) (x : Int32) (k : SH → SR) : SR := aRef v fun a => if sT σ a = t then k (wI σ a f x) else none
def pB (σ : SH) (t f : Nat) (v : Value) (x : Int32) (k : SH → SR) : SR := aRef v fun a => if sT σ a = t ∧ (x = 0 ∨ x = 1) then k (wI σ a f x) else none
def pV (σ : SH) (t f : Nat) (v w : Value) (k : SH → SR) : SR := aRef v fun a => if sT σ a = t then rd2 w (k (wV σ a f .null)) (fun b => k (wV σ a f (.ref b))) else none
def aI (σ : SH) (t : Nat) (v : Value) (i : Int32) (k : Int32 → SR) : SR := aRef v fun a => if sT σ a = t ∧ bIn i (sN σ a) = true then k (sI σ a i.toNatClampNeg) else none
def aJ (σ : SH) (v : Value) (i : Int32) (k : Int64 → SR) : SR := aRef v fun a => if sT σ a = 3 ∧ bIn i (sN σ a) = true then k (sJ σ a i.toNatClampNeg) else none
def aR (σ : SH) (v : Value) (i : Int32) (k : Nat → SR) : SR := aRef v fun a => if (10 ≤ sT σ a ∧ sT σ a < 100) ∧ bIn i (sN σ a) = true then aRef (sV σ a i.toNatClampNeg) k else none
/-- the row of the enum's constants -/
def aS (σ : SH) (v : Value) (i : Int32) (k : Nat → SR) : SR := aRef v fun a => if sT σ a = 6 ∧ bIn i (sN σ a) = true then aRef (sV σ a i.toNatClampNeg) k else none
def uI (σ : SH) (v : Value) (i x : Int32) (k : SH → SR) : SR := aRef v fun a => if sT σ a = 1 ∧ bIn i (sN σ a) = true then k (wI σ a i.toNatClampNeg x) else none
def uB (σ : SH) (v : Value) (i x : Int32) (k : SH → SR) : SR := aRef v fun a => if sT σ a = 2 ∧ bIn i (sN σ a) = true then k (wI σ a i.toNatClampNeg (i2b x)) else none
def uJ (σ : SH) (v : Value) (i : Int32) (x : Int64) (k : SH → SR) : SR := aRef v fun a => if sT σ a = 3 ∧ bIn i (sN σ a) = true then k (wJ σ a i.toNatClampNeg x) else none
def uR (σ : SH) (v : Value) (i : Int32) (w : Value) (k : SH → SR) : SR := aRef v fun a => aRef w fun b => if (10 ≤ sT σ a ∧ sT σ a < 23) ∧ sT σ b = sT σ a + 90 ∧ bIn i (sN σ a) = true then k (wV σ a i.toNatClampNeg (.ref b)) else none
def aN (σ : SH) (v : Value) (k : Int32 → SR) : SR := aRef v fun a => if (1 ≤ sT σ a ∧ sT σ a ≤ 6) ∨ (10 ≤ sT σ a ∧ sT σ a < 100) then k (Int32.ofNat (sN σ a)) else none
def nwA (σ : SH) (t : Nat) (n : Int32) (k : Nat → SH → SR) : SR := if n < 0 ∨ 60000 < n.toNatClampNeg then none else k (sZ σ) (mkC σ t n.toNatClampNeg n.toNatClampNeg)
def acp (σ : SH) (v : Value) (p : Int32) (w : Value) (q n : Int32) (k : SH → SR) : SR := aRef v fun a => aRef w fun b =>
  if sT σ a = 1 ∧ sT σ b = 1 ∧ a ≠ b ∧ ¬ p < 0 ∧ ¬ q < 0 ∧ ¬ n < 0 ∧ p.toNatClampNeg + n.toNatClampNeg ≤ sN σ a ∧ q.toNatClampNeg + n.toNatClampNeg ≤ sN σ b then k (cpI σ a p.toNatClampNeg b q.toNatClampNeg n.toNatClampNeg) else none
/-- no wide value begins there -/
def ok1 : Option (Option Value) → Bool
  | some (some (.long _)) => false
  | some (some (.double _)) => false
  | _ => true
/-- a store into a local -/
def stL (L : SL) (i : Nat) (v : Value) : Option SL := if i < L.length then (if i = 0 then some (L.set i (some v)) else if ok1 L[i - 1]? = true then some (L.set i (some v)) else none) else none
def stL2 (L : SL) (i : Nat) (v : Value) : Option SL := if i + 1 < L.length then (if i = 0 then some ((L.set i (some v)).set (i + 1) none) else if ok1 L[i - 1]? = true then some ((L.set i (some v)).set (i + 1) none) else none) else none
/-- locals that nobody reads any more are forgotten -/
def kilL : Nat → SL → SL
  | _, [] => []
  | m, v :: r => (if m % 2 = 1 then none else v) :: kilL (m / 2) r
def cat2 : Value → Nat
  | .long _ => 2
  | .double _ => 2
  | _ => 1
/-- how many words lie on a stack -/
def wds (st : List Value) : Nat := (st.map cat2).sum
/-- slots of an object of a class -/
def nsl (c : Nat) : Nat := nthD [3, 14, 7, 4, 6, 3, 8, 6, 7, 0, 8, 12, 24] c 0
/-- a conditional jump -/
def cnd (c : ClassFile.Cond) (x y : Int32) (kt kf : SR) : SR := match c with
  | .eq => if x = y then kt else kf
  | .ne => if x = y then kf else kt
  | .lt => if x < y then kt else kf
  | .ge => if x < y then kf else kt
  | .gt => if y < x then kt else kf
  | .le => if y < x then kf else kt
