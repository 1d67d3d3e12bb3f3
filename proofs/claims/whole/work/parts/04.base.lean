def nthD {α : Type} : List α → Nat → α → α
  | [], _, d => d
  | x :: _, 0, _ => x
  | _ :: r, n + 1, d => nthD r n d
def jmp (o : Int) : Nat := o.toNat
