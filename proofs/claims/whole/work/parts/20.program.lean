def lkH : List (Nat × Int32) → Nat → Option Int32
  | [], _ => none
  | q :: r, e => if q.1 = e then some q.2 else lkH r e
def hndOf (m _pc e : Nat) : Option Int32 := if m < 329 then none else some ((lkH (nthD hdTab (m - 329) []) e).getD 0)
def isRec (m : Nat) : Bool := m == 88 || m == 89 || m == 90 || m == 208 || m == 209 || m == 210
noncomputable def PP : SP := (fun m => nthD cdTab m [], fun m => nthD mxTab m 0, hndOf, fun m => nthD bdTab m 0, isRec)
/-- a method's run -/
noncomputable def rn (id : Nat) (args : List Value) (σ : SH) : SR := exec PP (nthD bdTab id 0) id 0 (lcl PP id args) [] σ
