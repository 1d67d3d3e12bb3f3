/-! The check that SM's rows are the class files' instructions -/
def wAt (i : Nat) (w : Cond) : Bool := decide (lw_tbl[i]? = some w) && goodWord w
def wAtN (i : Nat) (w : Cond) : Bool := decide (lw_tbl[i]? = some w)
def nxIs (nx : Option Nat) (pc : Nat) : Bool := decide (nx = some pc)
/-- the words of one 'throw new E(text)' -/
def throwOk (own : String) (y z x : Nat) : Bool := lw_tbl.contains (.methodLink own z (Bundle.initS (eN x))) && lw_tbl.any (fun w => match w with
  | .stringRef o k _ => decide (o = own) && decide (k = y)
  | _ => false)
def okI (mi pc : Nat) (nx : Option Nat) (pos : Nat) (i : Instr) : Bool := match i with
  | .goto_w t => decide (jmp t = pc)
  | .jsr _ => nxIs nx pc
  | .ret _ => true
  | .iconst n => (match decode (bsOf mi) pc with
    | .ok (.iconst k, 1) => decide (Int32.ofInt k = Int32.ofInt n) && nxIs nx (pc + 1)
    | .ok (.bipush k, 2) => decide ((Int8.ofInt k).toInt32 = Int32.ofInt n) && nxIs nx (pc + 2)
    | .ok (.sipush k, 3) => decide ((Int16.ofInt k).toInt32 = Int32.ofInt n) && nxIs nx (pc + 3)
    | .ok (.ldc x, 2) => wAt pos (.constant (yOf mi).cls x (Int32.ofInt n)) && nxIs nx (pc + 2)
    | .ok (.ldc_w x, 3) => wAt pos (.constant (yOf mi).cls x (Int32.ofInt n)) && nxIs nx (pc + 3)
    | _ => false)
  | .ldc2_w n => (match decode (bsOf mi) pc with
    | .ok (.ldc2_w x, 3) => wAt pos (.constantLong (yOf mi).cls x (Int64.ofNat n)) && nxIs nx (pc + 3)
    | _ => false)
  | .ldc n => (match decode (bsOf mi) pc with
    | .ok (.ldc x, 2) => decide ((yOf mi).cls = "ArchEndsModel") && decide (n ≠ 39) && srTab.any (fun q => decide (q.1 = n) && decide (q.2.1 = x)) && nxIs nx (pc + 2)
    | _ => false)
  | .getstatic n => (match decode (bsOf mi) pc with
    | .ok (.getstatic x, 3) => nxIs nx (pc + 3) && (if n < 1000 then decide (n < 40) && (wAt pos (.fieldLink (yOf mi).cls x (nthD stTab n ("", "", "")).1 (nthD stTab n ("", "", "")).2.1 (nthD stTab n ("", "", "")).2.2) || wAtN pos (.fieldLinkNest (yOf mi).cls x (nthD stTab n ("", "", "")).1 (nthD stTab n ("", "", "")).2.1 (nthD stTab n ("", "", "")).2.2 "ArchEnds")) else decide (n = 1001) && wAt pos (.fieldLink (yOf mi).cls x "java/lang/String" "COMPACT_STRINGS" "Z"))
    | _ => false)
  | .iload n => (match decode (bsOf mi) pc with
    | .ok (.iload k, 2) => decide (k = n) && nxIs nx (pc + 2)
    | .ok (.iload_n k, 1) => decide (k.val = n) && nxIs nx (pc + 1)
    | _ => false)
  | .lload n => (match decode (bsOf mi) pc with
    | .ok (.lload k, 2) => decide (k = n) && nxIs nx (pc + 2)
    | .ok (.lload_n k, 1) => decide (k.val = n) && nxIs nx (pc + 1)
    | _ => false)
  | .aload n => (match decode (bsOf mi) pc with
    | .ok (.aload k, 2) => decide (k = n) && nxIs nx (pc + 2)
    | .ok (.aload_n k, 1) => decide (k.val = n) && nxIs nx (pc + 1)
    | _ => false)
  | .istore n => (match decode (bsOf mi) pc with
    | .ok (.istore k, 2) => decide (k = n) && nxIs nx (pc + 2)
    | .ok (.istore_n k, 1) => decide (k.val = n) && nxIs nx (pc + 1)
    | _ => false)
  | .lstore n => (match decode (bsOf mi) pc with
    | .ok (.lstore k, 2) => decide (k = n) && nxIs nx (pc + 2)
    | .ok (.lstore_n k, 1) => decide (k.val = n) && nxIs nx (pc + 1)
    | _ => false)
  | .astore n => (match decode (bsOf mi) pc with
    | .ok (.astore k, 2) => decide (k = n) && nxIs nx (pc + 2)
    | .ok (.astore_n k, 1) => decide (k.val = n) && nxIs nx (pc + 1)
    | _ => false)
  | .iinc n k => decide (decode (bsOf mi) pc = .ok (.iinc n k, 3)) && nxIs nx (pc + 3)
  | .goto t => (match decode (bsOf mi) pc with
    | .ok (.goto o, 3) => decide ((pc : Int) + o = (jmp t : Int)) && decide (jmp t < 100000)
    | _ => false)
  | .if_icmp cd t => (match decode (bsOf mi) pc with
    | .ok (.if_icmp c2 o, 3) => decide (c2 = cd) && decide ((pc : Int) + o = (jmp t : Int)) && decide (jmp t < 100000) && nxIs nx (pc + 3)
    | _ => false)
  | .ifCond cd t => (match decode (bsOf mi) pc with
    | .ok (.ifCond c2 o, 3) => decide (c2 = cd) && decide ((pc : Int) + o = (jmp t : Int)) && decide (jmp t < 100000) && nxIs nx (pc + 3)
    | _ => false)
  | .if_acmp cd t => (match decode (bsOf mi) pc with
    | .ok (.if_acmp c2 o, 3) => decide (c2 = cd) && decide ((pc : Int) + o = (jmp t : Int)) && decide (jmp t < 100000) && nxIs nx (pc + 3)
    | _ => false)
  | .ifnull t => (match decode (bsOf mi) pc with
    | .ok (.ifnull o, 3) => decide ((pc : Int) + o = (jmp t : Int)) && decide (jmp t < 100000) && nxIs nx (pc + 3)
    | _ => false)
  | .ifnonnull t => (match decode (bsOf mi) pc with
    | .ok (.ifnonnull o, 3) => decide ((pc : Int) + o = (jmp t : Int)) && decide (jmp t < 100000) && nxIs nx (pc + 3)
    | _ => false)
  | .tableswitch d lo hi ts => (match decode (bsOf mi) pc with
    | .ok (.tableswitch d2 lo2 hi2 os, _) => decide (lo2 = lo) && decide (hi2 = hi) && decide ((pc : Int) + d2 = (jmp d : Int)) && decide (jmp d < 100000) && ts.toList.all (fun t => decide (jmp t < 100000)) && decide ((os.toList.map fun o => (pc : Int) + o) = ts.toList.map fun t => (jmp t : Int)) && decide (hi + 1 - lo = os.size) && decide (0 ≤ lo) && decide (hi < 100000)
    | _ => false)
  | .getfield n => (match decode (bsOf mi) pc with
    | .ok (.getfield x, 3) => nxIs nx (pc + 3) && decide (n / 1000 < 14) && decide (n / 10 % 100 < nf (n / 1000)) && (if n % 10 = 0 then !isRf (n / 1000) (n / 10 % 100) else isRf (n / 1000) (n / 10 % 100)) && wAt pos (.fieldLink (yOf mi).cls x (fT (n / 1000) (n / 10 % 100)).1 (fT (n / 1000) (n / 10 % 100)).2.1 (fT (n / 1000) (n / 10 % 100)).2.2.1)
    | _ => false)
  | .putfield n => (match decode (bsOf mi) pc with
    | .ok (.putfield x, 3) => nxIs nx (pc + 3) && decide (n / 1000 < 13) && decide (n / 1000 ≠ 9) && decide (n / 10 % 100 < nf (n / 1000)) && (if n % 10 = 0 then decide (fy (n / 1000) (n / 10 % 100) = .int) else if n % 10 = 2 then decide (fy (n / 1000) (n / 10 % 100) = .boolean) else isRf (n / 1000) (n / 10 % 100)) && (!(fT (n / 1000) (n / 10 % 100)).2.2.2 || (decide ((yOf mi).name = "<init>") && decide ((yOf mi).cls = (fT (n / 1000) (n / 10 % 100)).1))) && wAt pos (.fieldLink (yOf mi).cls x (fT (n / 1000) (n / 10 % 100)).1 (fT (n / 1000) (n / 10 % 100)).2.1 (fT (n / 1000) (n / 10 % 100)).2.2.1)
    | _ => false)
  | .caload => decide (decode (bsOf mi) pc = .ok (.iaload, 1)) && nxIs nx (pc + 1)
  | .saload => decide (decode (bsOf mi) pc = .ok (.baload, 1)) && nxIs nx (pc + 1)
  | .daload => decide (decode (bsOf mi) pc = .ok (.aaload, 1)) && nxIs nx (pc + 1)
  | .new k => if k < 100 then (match decode (bsOf mi) pc with
    | .ok (.new x, 3) => nxIs nx (pc + 3) && decide (k < 13) && decide (k ≠ 9) && wAt pos (.classLink (yOf mi).cls x (cN k))
    | _ => false) else (match decode (bsOf mi) pc, decode (bsOf mi) (pc + 3), decode (bsOf mi) (pc + 4) with
    | .ok (.new x, 3), .ok (.dup, 1), .ok (.ldc y, 2) => (match decode (bsOf mi) (pc + 6), decode (bsOf mi) (pc + 9) with
      | .ok (.invokespecial z, 3), .ok (.athrow, 1) => decide (k < 105) && wAt pos (.classLink (yOf mi).cls x (eN (k - 100))) && decide ((hhOf mi) = []) && throwOk (yOf mi).cls y z (k - 100)
      | _, _ => false)
    | .ok (.new x, 3), .ok (.dup, 1), .ok (.ldc_w y, 3) => (match decode (bsOf mi) (pc + 7), decode (bsOf mi) (pc + 10) with
      | .ok (.invokespecial z, 3), .ok (.athrow, 1) => decide (k < 105) && wAt pos (.classLink (yOf mi).cls x (eN (k - 100))) && decide ((hhOf mi) = []) && throwOk (yOf mi).cls y z (k - 100)
      | _, _ => false)
    | _, _, _ => false)
  | .newarray t => decide (decode (bsOf mi) pc = .ok (.newarray t, 2)) && nxIs nx (pc + 2)
  | .anewarray k => (match decode (bsOf mi) pc with
    | .ok (.anewarray x, 3) => nxIs nx (pc + 3) && decide (k < 13) && wAt pos (.classLink (yOf mi).cls x (cN k)) && lw_tbl.contains (.arrayOver (.object (cN k)))
    | _ => false)
  | .monitorexit => (match decode (bsOf mi) pc with
    | .ok (.invokespecial x, 3) => nxIs nx (pc + 3) && wAt pos (.methodLink (yOf mi).cls x Lib.objectInit)
    | _ => false)
  | .monitorenter => (match decode (bsOf mi) pc with
    | .ok (.invokestatic x, 3) => nxIs nx (pc + 3) && wAt pos (.methodLink (yOf mi).cls x arraycopyName)
    | _ => false)
  | .invokestatic n => (match decode (bsOf mi) pc with
    | .ok (.invokestatic x, 3) => nxIs nx (pc + 3) && decide (n / 10000 < 371) && decide (kdOf (n / 10000) = 0) && wAt pos (.methodLink (yOf mi).cls x (yOf (n / 10000))) && decide ((parseMethodDescriptor (yOf (n / 10000)).desc).map (fun q => q.parameters.length) = some (n / 10 % 10)) && (hhOf mi).all (fun q => !(decide (q.1 ≤ pc) && decide (pc < q.2.1)))
    | _ => false)
  | .invokedynamic n => (match decode (bsOf mi) pc with
    | .ok (.invokestatic x, 3) => nxIs nx (pc + 3) && decide (n / 10000 < 371) && decide (kdOf (n / 10000) = 0) && decide (hhOf (n / 10000) = []) && wAtN pos (.methodLinkNest (yOf mi).cls x (yOf (n / 10000)) "ArchEnds") && decide ((parseMethodDescriptor (yOf (n / 10000)).desc).map (fun q => q.parameters.length) = some (n / 10 % 10))
    | _ => false)
  | .invokespecial n => (match decode (bsOf mi) pc with
    | .ok (.invokespecial x, 3) => nxIs nx (pc + 3) && decide (n / 10000 < 371) && decide (kdOf (n / 10000) = 2) && decide (hhOf (n / 10000) = []) && decide (n % 10 = 0) && (wAt pos (.methodLink (yOf mi).cls x (yOf (n / 10000))) || wAtN pos (.methodLinkNest (yOf mi).cls x (yOf (n / 10000)) "ArchEnds")) && decide ((parseMethodDescriptor (yOf (n / 10000)).desc).map (fun q => q.parameters.length + 1) = some (n / 10 % 10))
    | _ => false)
  | .invokevirtual n => (match decode (bsOf mi) pc with
    | .ok (.invokevirtual x, 3) => nxIs nx (pc + 3) && decide (n / 10000 < 371) && decide (kdOf (n / 10000) = 1) && decide (hhOf (n / 10000) = []) && decide (n / 100 % 100 < 14) && decide ((yOf (n / 10000)).cls = cN (n / 100 % 100)) && wAt pos (.methodLink (yOf mi).cls x (yOf (n / 10000))) && decide ((parseMethodDescriptor (yOf (n / 10000)).desc).map (fun q => q.parameters.length + 1) = some (n / 10 % 10))
    | _ => false)
  | .ireturn => decide (decode (bsOf mi) pc = .ok (.ireturn, 1)) && decide (rtOf mi = some .int)
  | .freturn => decide (decode (bsOf mi) pc = .ok (.ireturn, 1)) && decide (rtOf mi = some .boolean)
  | .dreturn => decide (decode (bsOf mi) pc = .ok (.ireturn, 1)) && decide (rtOf mi = some .char)
  | .lreturn => decide (decode (bsOf mi) pc = .ok (.ireturn, 1)) && decide (rtOf mi = some .byte)
  | .areturn => decide (decode (bsOf mi) pc = .ok (.areturn, 1)) && (match rtOf mi with
    | some (.object _) => true
    | _ => false)
  | .return_ => decide (decode (bsOf mi) pc = .ok (.return_, 1)) && decide (rtOf mi = none)
  | i => decide (decode (bsOf mi) pc = .ok (i, 1)) && nxIs nx (pc + 1)
def okRs (mi : Nat) (nx : Option Nat) : List (Nat × Instr) → List Nat → Bool
  | [], _ => true
  | r :: is, ps => okI mi (r.1 % 100000) (match is with
    | [] => nx
    | q :: _ => some (q.1 % 100000)) (ps.headD 0) r.2 && okRs mi nx is ps.tail
noncomputable def okMs (k : Nat) : Bool := okRs k none (nthD cdTab k []) (poOf k)
theorem okRs_app (mi : Nat) (nx : Option Nat) (q : Nat × Instr) (b : List (Nat × Instr)) (pb : List Nat) (hb : okRs mi nx (q :: b) pb = true) : ∀ (a : List (Nat × Instr)) (pa : List Nat), pa.length = a.length → okRs mi (some (q.1 % 100000)) a pa = true → okRs mi nx (a ++ (q :: b)) (pa ++ pb) = true
  | [], [], _, _ => hb
  | [], _ :: _, h, _ => by cases h
  | _ :: _, [], h, _ => by cases h
  | r :: is, x :: ps, h, ha => by
    unfold okRs at ha
    rw [Bool.and_eq_true] at ha
    show okRs mi nx (r :: (is ++ (q :: b))) (x :: (ps ++ pb)) = true
    unfold okRs
    rw [Bool.and_eq_true]
    refine ⟨?_, okRs_app mi nx q b pb hb is ps (by simpa using h) ha.2⟩
    cases is with
    | nil => exact ha.1
    | cons z zs => exact ha.1
