/-! what a call needs of the tables, and what a handler does: to be decided once for each method -/
def cwOf (id : Nat) : Cond := if hhOf id = [] then .code (yOf id) (bsOf id) (mxOf id) (rtOf id) else .codeWith (yOf id) (bsOf id) (mxOf id) (rtOf id) (hhOf id)
def pzB (id : Nat) : Bool := wAt (pzOf id).1 (cwOf id) && wAt (pzOf id).2.2.2 (.initialized (yOf id).cls) && plainName (yOf id).cls && decide ((yOf id).cls ≠ "java/lang/invoke/MethodHandle") && decide ((yOf id).cls ≠ "java/lang/invoke/VarHandle") &&
  (match kdOf id with
    | 0 => wAt (pzOf id).2.1 (.static (yOf id))
    | 1 => wAt (pzOf id).2.1 (.instanceMethod (yOf id)) && wAt (pzOf id).2.2.1 (.selects (yOf id).cls (yOf id) (yOf id))
    | _ => wAt (pzOf id).2.1 (.instanceMethod (yOf id)) && decide ((yOf id).name = "<init>") && decide (rtOf id = none)) &&
  (match parseMethodDescriptor (yOf id).desc with
    | some q => decide (q.parameters.length + (if kdOf id = 0 then 0 else 1) ≤ mxOf id)
    | none => false) && decide (mxOf id ≤ 100)
def hcC (mi pc : Nat) (c : Int32) : Bool := (match decode (bsOf mi) pc with
  | .ok (.iconst n, 1) => decide (Int32.ofInt n = c)
  | _ => false) && decide (decode (bsOf mi) (pc + 1) = .ok (.ireturn, 1))
def hcB (mi : Nat) (q : Nat × Nat × Nat × Nat) (r : Nat × Int32) : Bool := decide (r.1 < 5) && decide (q.2.2.2 ≠ 0) && lw_tbl.contains (.classLink (yOf mi).cls q.2.2.2 (eN r.1)) &&
  (match decode (bsOf mi) q.2.2.1 with
    | .ok (.astore_n k, 1) => decide (k.val < mxOf mi) && hcC mi (q.2.2.1 + 1) r.2
    | .ok (.astore k, 2) => decide (k < mxOf mi) && hcC mi (q.2.2.1 + 2) r.2
    | _ => false)
def hcL (mi : Nat) : List (Nat × Nat × Nat × Nat) → List (Nat × Int32) → Bool
  | [], [] => true
  | q :: hh, r :: hd => hcB mi q r && hcL mi hh hd
  | _, _ => false
noncomputable def hcA (mi : Nat) : Bool := decide (rtOf mi = some .int) && hcL mi (hhOf mi) (nthD hdTab (mi - 329) []) && (nthD cdTab mi []).all (fun r => match r.2 with
  | .invokevirtual _ => (hhOf mi).all (fun q => decide (q.1 ≤ r.1 % 100000) && decide (r.1 % 100000 < q.2.1))
  | .invokestatic _ => (hhOf mi).all (fun q => decide (q.1 ≤ r.1 % 100000) && decide (r.1 % 100000 < q.2.1))
  | _ => true)
