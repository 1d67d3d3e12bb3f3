/-- a switch over successive numbers -/
def tsw (x : Int32) (i : Int) (ts : List Int) (d : SR) (E : Nat → SR) : SR := match ts with
  | [] => d
  | t :: r => if x = Int32.ofInt i then E (jmp t) else tsw x (i + 1) r d E
/-- what goes on behind a call -/
def doC (r : Nat) (res : SR) (L : SL) (st : List Value) (k : SL → List Value → SH → SR) (kx : Nat → SH → SR) : SR := match r with
  | 0 => onV res (fun σ => k L st σ) kx
  | 1 => onI res (fun x σ => k L (.int x :: st) σ) kx
  | 2 => onR res (fun a σ => k L (.ref a :: st) σ) kx
  | _ => onQ res (fun σ => k L (.null :: st) σ) (fun a σ => k L (.ref a :: st) σ) kx
/-- a throw that came out of a call -/
def kxc (h : Option Int32) (e : Nat) (σ : SH) : SR := match h with
  | some c => if c = 0 then none else some (.inl (some (.int c)), σ)
  | none => some (.inr e, σ)
def step1 (C : Nat → List Value → SH → SR) (X : Nat → Nat → Option Int32) (E : Nat → SL → List Value → SH → SR) (pc : Nat) (i : Instr) (L : SL) (st : List Value) (σ : SH) (k : SL → List Value → SH → SR) : SR :=
  match i with
  | .iconst n => k L (.int (Int32.ofInt n) :: st) σ
  | .lconst n => k L (.long (Int64.ofNat n.val) :: st) σ
  | .ldc2_w n => k L (.long (Int64.ofNat n) :: st) σ
  | .aconst_null => k L (.null :: st) σ
  | .ldc n => k L (.ref n :: st) σ
  | .getstatic n => if n < 1000 then k L (.ref n :: st) σ else k L (.int (Int32.ofNat (n - 1000)) :: st) σ
  | .iload n => (match L[n]? with
    | some (some (.int x)) => k L (.int x :: st) σ
    | _ => none)
  | .lload n => (match L[n]? with
    | some (some (.long x)) => k L (.long x :: st) σ
    | _ => none)
  | .aload n => (match L[n]? with
    | some (some (.ref x)) => k L (.ref x :: st) σ
    | some (some .null) => k L (.null :: st) σ
    | _ => none)
  | .istore n => (match st with
    | .int x :: st => (match stL L n (.int x) with
      | some L' => k L' st σ
      | none => none)
    | _ => none)
  | .lstore n => (match st with
    | .long x :: st => (match stL2 L n (.long x) with
      | some L' => k L' st σ
      | none => none)
    | _ => none)
  | .astore n => (match st with
    | .ref x :: st => (match stL L n (.ref x) with
      | some L' => k L' st σ
      | none => none)
    | .null :: st => (match stL L n .null with
      | some L' => k L' st σ
      | none => none)
    | _ => none)
  | .iinc n c => (match L[n]? with
    | some (some (.int x)) => (match stL L n (.int (x + Int32.ofInt c)) with
      | some L' => k L' st σ
      | none => none)
    | _ => none)
  | .iadd => (match st with
    | .int y :: .int x :: st => k L (.int (x + y) :: st) σ
    | _ => none)
  | .isub => (match st with
    | .int y :: .int x :: st => k L (.int (x - y) :: st) σ
    | _ => none)
  | .imul => (match st with
    | .int y :: .int x :: st => k L (.int (x * y) :: st) σ
    | _ => none)
  | .iand => (match st with
    | .int y :: .int x :: st => k L (.int (x &&& y) :: st) σ
    | _ => none)
  | .ior => (match st with
    | .int y :: .int x :: st => k L (.int (x ||| y) :: st) σ
    | _ => none)
  | .ixor => (match st with
    | .int y :: .int x :: st => k L (.int (x ^^^ y) :: st) σ
    | _ => none)
  | .idiv => (match st with
    | .int y :: .int x :: st => if y = 0 then none else k L (.int (x / y) :: st) σ
    | _ => none)
  | .irem => (match st with
    | .int y :: .int x :: st => if y = 0 then none else k L (.int (irm x y) :: st) σ
    | _ => none)
  | .ishl => (match st with
    | .int y :: .int x :: st => k L (.int (shl x y) :: st) σ
    | _ => none)
  | .ishr => (match st with
    | .int y :: .int x :: st => k L (.int (shr x y) :: st) σ
    | _ => none)
  | .iushr => (match st with
    | .int y :: .int x :: st => k L (.int (ush x y) :: st) σ
    | _ => none)
  | .ineg => (match st with
    | .int x :: st => k L (.int (-x) :: st) σ
    | _ => none)
  | .i2l => (match st with
    | .int x :: st => k L (.long x.toInt64 :: st) σ
    | _ => none)
  | .l2i => (match st with
    | .long x :: st => k L (.int x.toInt32 :: st) σ
    | _ => none)
  | .i2b => (match st with
    | .int x :: st => k L (.int (i2b x) :: st) σ
    | _ => none)
  | .i2c => (match st with
    | .int x :: st => k L (.int (i2c x) :: st) σ
    | _ => none)
  | .lmul => (match st with
    | .long y :: .long x :: st => k L (.long (x * y) :: st) σ
    | _ => none)
  | .lsub => (match st with
    | .long y :: .long x :: st => k L (.long (x - y) :: st) σ
    | _ => none)
  | .ldiv => (match st with
    | .long y :: .long x :: st => if y = 0 then none else k L (.long (x / y) :: st) σ
    | _ => none)
  | .lcmp => (match st with
    | .long y :: .long x :: st => k L (.int (lcm x y) :: st) σ
    | _ => none)
  | .pop => (match st with
    | v :: st => if cat2 v = 1 then k L st σ else none
    | _ => none)
  | .dup => (match st with
    | v :: st => if cat2 v = 1 then k L (v :: v :: st) σ else none
    | _ => none)
  | .dup2 => (match st with
    | v :: w :: st => if cat2 v = 1 ∧ cat2 w = 1 then k L (v :: w :: v :: w :: st) σ else none
    | _ => none)
  | .goto t => E (jmp t) L st σ
  | .goto_w t => E (jmp t) L st σ
  | .jsr m => k (kilL m.toNat L) st σ
  | .if_icmp c t => (match st with
    | .int y :: .int x :: st => cnd c x y (E (jmp t) L st σ) (k L st σ)
    | _ => none)
  | .ifCond c t => (match st with
    | .int x :: st => cnd c x 0 (E (jmp t) L st σ) (k L st σ)
    | _ => none)
  | .if_acmp c t => (match st with
    | .ref y :: .ref x :: st => if x < 38 ∧ y < 38 then (match c with
      | .eq => if x = y then E (jmp t) L st σ else k L st σ
      | .ne => if x = y then k L st σ else E (jmp t) L st σ) else none
    | _ => none)
  | .ifnull t => (match st with
    | .null :: st => E (jmp t) L st σ
    | .ref a :: st => if a = 39 then none else k L st σ
    | _ => none)
  | .ifnonnull t => (match st with
    | .null :: st => k L st σ
    | .ref a :: st => if a = 39 then none else E (jmp t) L st σ
    | _ => none)
  | .tableswitch d lo _ ts => (match st with
    | .int x :: st => tsw x lo ts.toList (E (jmp d) L st σ) (fun t => E t L st σ)
    | _ => none)
  | .getfield n => (match st with
    | v :: st => (match n % 10 with
      | 0 => gI σ (100 + n / 1000) (n / 10 % 100) v (fun x => k L (.int x :: st) σ)
      | 1 => gR σ (100 + n / 1000) (n / 10 % 100) v (fun a => k L (.ref a :: st) σ)
      | _ => gQ σ (100 + n / 1000) (n / 10 % 100) v (k L (.null :: st) σ) (fun a => k L (.ref a :: st) σ))
    | _ => none)
  | .putfield n => (match st with
    | w :: v :: st => (match n % 10, w with
      | 0, .int x => pI σ (100 + n / 1000) (n / 10 % 100) v x (fun σ => k L st σ)
      | 2, .int x => pB σ (100 + n / 1000) (n / 10 % 100) v x (fun σ => k L st σ)
      | 1, w => pV σ (100 + n / 1000) (n / 10 % 100) v w (fun σ => k L st σ)
      | _, _ => none)
    | _ => none)
  | .iaload => (match st with
    | .int i :: v :: st => aI σ 1 v i (fun x => k L (.int x :: st) σ)
    | _ => none)
  | .baload => (match st with
    | .int i :: v :: st => aI σ 2 v i (fun x => k L (.int x :: st) σ)
    | _ => none)
  | .caload => (match st with
    | .int i :: v :: st => aI σ 4 v i (fun x => k L (.int x :: st) σ)
    | _ => none)
  | .saload => (match st with
    | .int i :: v :: st => aI σ 5 v i (fun x => k L (.int x :: st) σ)
    | _ => none)
  | .daload => (match st with
    | .int i :: v :: st => aS σ v i (fun a => k L (.ref a :: st) σ)
    | _ => none)
  | .laload => (match st with
    | .int i :: v :: st => aJ σ v i (fun x => k L (.long x :: st) σ)
    | _ => none)
  | .aaload => (match st with
    | .int i :: v :: st => aR σ v i (fun a => k L (.ref a :: st) σ)
    | _ => none)
  | .iastore => (match st with
    | .int x :: .int i :: v :: st => uI σ v i x (fun σ => k L st σ)
    | _ => none)
  | .bastore => (match st with
    | .int x :: .int i :: v :: st => uB σ v i x (fun σ => k L st σ)
    | _ => none)
  | .lastore => (match st with
    | .long x :: .int i :: v :: st => uJ σ v i x (fun σ => k L st σ)
    | _ => none)
  | .aastore => (match st with
    | w :: .int i :: v :: st => uR σ v i w (fun σ => k L st σ)
    | _ => none)
  | .arraylength => (match st with
    | v :: st => aN σ v (fun x => k L (.int x :: st) σ)
    | _ => none)
  | .new c => if c < 100 then k L (.ref (sZ σ) :: st) (mkC σ (100 + c) 0 (nsl c)) else (match st with
    | [] => some (.inr (c - 100), mkC σ 0 0 6)
    | _ => none)
  | .newarray t => (match st with
    | .int n :: st => (match t with
      | .int => nwA σ 1 n (fun a σ => k L (.ref a :: st) σ)
      | .byte => nwA σ 2 n (fun a σ => k L (.ref a :: st) σ)
      | .long => nwA σ 3 n (fun a σ => k L (.ref a :: st) σ)
      | _ => none)
    | _ => none)
  | .anewarray c => (match st with
    | .int n :: st => nwA σ (10 + c) n (fun a σ => k L (.ref a :: st) σ)
    | _ => none)
  | .monitorexit => (match st with
    | .ref a :: st => if a ≠ 39 ∧ wds st ≤ 8 then k L st σ else none
    | _ => none)
  | .monitorenter => (match st with
    | .int n :: .int q :: w :: .int p :: v :: st => if wds st ≤ 8 then acp σ v p w q n (fun σ => k L st σ) else none
    | _ => none)
  | .invokestatic n => if n / 10 % 10 ≤ st.length ∧ wds (st.drop (n / 10 % 10)) ≤ 8 ∧ wds (st.take (n / 10 % 10)) = n / 10 % 10 then doC (n % 10) (C (n / 10000) (st.take (n / 10 % 10)).reverse σ) L (st.drop (n / 10 % 10)) k (fun e σ => kxc (X pc e) e σ) else none
  | .invokedynamic n => if n / 10 % 10 ≤ st.length ∧ wds (st.drop (n / 10 % 10)) ≤ 8 ∧ wds (st.take (n / 10 % 10)) = n / 10 % 10 then doC (n % 10) (C (n / 10000) (st.take (n / 10 % 10)).reverse σ) L (st.drop (n / 10 % 10)) k (fun _ _ => none) else none
  | .invokespecial n => if n / 10 % 10 ≤ st.length ∧ wds (st.drop (n / 10 % 10)) ≤ 8 ∧ wds (st.take (n / 10 % 10)) = n / 10 % 10 then (match (st.take (n / 10 % 10)).reverse with
    | .ref a :: as => if a = 39 then none else doC (n % 10) (C (n / 10000) (.ref a :: as) σ) L (st.drop (n / 10 % 10)) k (fun _ _ => none)
    | _ => none) else none
  | .invokevirtual n => if n / 10 % 10 ≤ st.length ∧ wds (st.drop (n / 10 % 10)) ≤ 8 ∧ wds (st.take (n / 10 % 10)) = n / 10 % 10 then (match (st.take (n / 10 % 10)).reverse with
    | .ref a :: as => if sT σ a = 100 + n / 100 % 100 then doC (n % 10) (C (n / 10000) (.ref a :: as) σ) L (st.drop (n / 10 % 10)) k (fun e σ => kxc (X pc e) e σ) else none
    | _ => none) else none
  | .ireturn => (match st with
    | [.int x] => some (.inl (some (.int x)), σ)
    | _ => none)
  | .freturn => (match st with
    | [.int x] => if x = 0 ∨ x = 1 then some (.inl (some (.int x)), σ) else none
    | _ => none)
  | .dreturn => (match st with
    | [.int x] => if i2c x = x then some (.inl (some (.int x)), σ) else none
    | _ => none)
  | .lreturn => (match st with
    | [.int x] => if i2b x = x then some (.inl (some (.int x)), σ) else none
    | _ => none)
  | .areturn => (match st with
    | [.ref x] => some (.inl (some (.ref x)), σ)
    | [.null] => some (.inl (some .null), σ)
    | _ => none)
  | .return_ => (match st with
    | [] => some (.inl none, σ)
    | _ => none)
  | _ => none
def runL (C : Nat → List Value → SH → SR) (X : Nat → Nat → Option Int32) (E : Nat → SL → List Value → SH → SR) : List (Nat × Instr) → SL → List Value → SH → SR
  | [], _, _, _ => none
  | r :: is, L, st, σ => step1 C X E r.1 r.2 L st σ (fun L st σ => runL C X E is L st σ)
def seek (pc : Nat) : List (Nat × Instr) → List (Nat × Instr)
  | [] => []
  | r :: is => if r.1 = pc then r :: is else seek pc is
/-- a program: rows, places of locals, handlers, budgets; the recursive ones -/
abbrev SP : Type := (Nat → List (Nat × Instr)) × (Nat → Nat) × (Nat → Nat → Nat → Option Int32) × (Nat → Nat) × (Nat → Bool)
def calD (P : SP) (d id : Nat) : Option Nat := if P.2.2.2.2 id = true then (match d with
  | 0 => none
  | d + 1 => some d) else (if P.2.2.2.1 id < d then some (P.2.2.2.1 id) else none)
def lcl (P : SP) (id : Nat) (args : List Value) : SL := args.map some ++ List.replicate (P.2.1 id - args.length) none
def execN (P : SP) : Nat → Nat → Nat → Nat → SL → List Value → SH → SR
  | 0, _, _, _, _, _, _ => none
  | n + 1, d, m, pc, L, st, σ => runL (fun id args σ => match calD P d id with
    | some d' => execN P n d' id 0 (lcl P id args) [] σ
    | none => none) (P.2.2.1 m) (fun pc L st σ => execN P n d m pc L st σ) (seek pc (P.1 m)) L st σ
