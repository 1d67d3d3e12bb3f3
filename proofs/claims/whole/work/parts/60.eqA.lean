/-! 0: ArchEnds$Broker.<init>()V -/
set_option maxRecDepth 20000 in
theorem r_0 (a0 : Nat) (σ : SH) : rn 0 [.ref a0] σ =
  if (a0 : Nat) ≠ 39 ∧ 0 ≤ 8 then
  some (.inl none, σ)
  else none := (exec_eq PP 1 0 0 _ _ σ).trans rfl

/-! 1: ArchEnds$Broker.copyFrom(LArchEnds$Broker;)V -/
set_option maxRecDepth 20000 in
theorem r_1 (a0 : Nat) (a1 : Nat) (σ : SH) : rn 1 [.ref a0, .ref a1] σ =
  gI σ 100 0 (.ref a1) fun x21 =>
  pI σ 100 0 (.ref a0) x21 fun σ22 =>
  gI σ22 100 1 (.ref a1) fun x23 =>
  pI σ22 100 1 (.ref a0) x23 fun σ24 =>
  gI σ24 100 2 (.ref a1) fun x25 =>
  pI σ24 100 2 (.ref a0) x25 fun σ26 =>
  some (.inl none, σ26) := (exec_eq PP 1 1 0 _ _ σ).trans rfl

/-! 2: ArchEnds$Broker.earn(I)V -/
set_option maxRecDepth 20000 in
theorem r_2 (a0 : Nat) (x1 : Int32) (σ : SH) : rn 2 [.ref a0, .int x1] σ =
  gI σ 100 0 (.ref a0) fun x21 =>
  if (9999 < ((x21 + x1) : Int32) : Prop) then (exec PP 1 2 25 [some (.ref a0), some (.int x1)] [.int 9999, .ref a0] σ)
  else (exec PP 1 2 19 [some (.ref a0), some (.int x1)] [.ref a0] σ) := (exec_eq PP 1 2 0 _ _ σ).trans rfl
set_option maxRecDepth 20000 in
theorem e_2_19 (a0 : Nat) (x1 : Int32) (b0 : Nat) (σ : SH) : exec PP 1 2 19 [some (.ref a0), some (.int x1)] [.ref b0] σ =
  gI σ 100 0 (.ref a0) fun x21 =>
  pI σ 100 0 (.ref b0) (x21 + x1) fun σ22 =>
  some (.inl none, σ22) := (exec_eq PP 1 2 19 _ _ σ).trans rfl
set_option maxRecDepth 20000 in
theorem e_2_25 (o0 : Option Value) (o1 : Option Value) (w0 : Int32) (b1 : Nat) (σ : SH) : exec PP 1 2 25 [o0, o1] [.int w0, .ref b1] σ =
  pI σ 100 0 (.ref b1) w0 fun σ21 =>
  some (.inl none, σ21) := (exec_eq PP 1 2 25 _ _ σ).trans rfl

/-! 3: ArchEnds$Broker.minutesTo(I)I -/
set_option maxRecDepth 20000 in
theorem r_3 (a0 : Nat) (x1 : Int32) (σ : SH) : rn 3 [.ref a0, .int x1] σ =
  gI σ 100 1 (.ref a0) fun x21 =>
  onI (rn 140 [.int x21, .int x1] σ) (fun x24 σ22 =>
  gI σ22 100 2 (.ref a0) fun x25 =>
    if (x25 < 1 : Prop) then (exec PP 2 3 34 [some (.ref a0), some (.int x1), some (.int x24)] [.int x24] σ22)
    else (exec PP 2 3 21 [some (.ref a0), some (.int x1), some (.int x24)] [] σ22)) (fun _ _ => none) := (exec_eq PP 2 3 0 _ _ σ).trans rfl
set_option maxRecDepth 20000 in
theorem e_3_21 (a0 : Nat) (o1 : Option Value) (x2 : Int32) (σ : SH) : exec PP 2 3 21 [some (.ref a0), o1, some (.int x2)] [] σ =
  gI σ 100 2 (.ref a0) fun x21 =>
  gI σ 100 2 (.ref a0) fun x22 =>
  if x22 = 0 then none else
  some (.inl (some (.int (((x2 + x21) - 1) / x22))), σ) := (exec_eq PP 2 3 21 _ _ σ).trans rfl
set_option maxRecDepth 20000 in
theorem e_3_34 (o0 : Option Value) (o1 : Option Value) (o2 : Option Value) (w0 : Int32) (σ : SH) : exec PP 2 3 34 [o0, o1, o2] [.int w0] σ =
  some (.inl (some (.int w0)), σ) := (exec_eq PP 2 3 34 _ _ σ).trans rfl

/-! 4: ArchEnds$County.<init>()V -/
set_option maxRecDepth 20000 in
theorem r_4 (a0 : Nat) (σ : SH) : rn 4 [.ref a0] σ =
  if (a0 : Nat) ≠ 39 ∧ 0 ≤ 8 then
  nwA σ 18 6 fun a21 σ22 =>
  pV σ22 101 0 (.ref a0) (.ref a21) fun σ23 =>
  nwA σ23 10 5 fun a24 σ25 =>
  pV σ25 101 1 (.ref a0) (.ref a24) fun σ26 =>
  nwA σ26 12 8 fun a27 σ28 =>
  pV σ28 101 2 (.ref a0) (.ref a27) fun σ29 =>
  if ((sZ σ29) : Nat) = 39 then none else (onV (rn 50 [.ref (sZ σ29)] (mkC σ29 105 0 3)) (fun σ30 =>
  pV σ30 101 3 (.ref a0) (.ref (sZ σ29)) fun σ32 =>
    pI σ32 101 8 (.ref a0) 8 fun σ33 =>
    pI σ33 101 9 (.ref a0) 5 fun σ34 =>
    pI σ34 101 11 (.ref a0) 1 fun σ35 =>
    nwA σ35 1 8 fun a36 σ37 =>
    pV σ37 101 13 (.ref a0) (.ref a36) fun σ38 =>
    exec PP 2 4 67 [some (.ref a0), some (.int 0)] [] σ38) (fun _ _ => none))
  else none := (exec_eq PP 2 4 0 _ _ σ).trans rfl
set_option maxRecDepth 20000 in
theorem e_4_67 (a0 : Nat) (x1 : Int32) (σ : SH) : exec PP 2 4 67 [some (.ref a0), some (.int x1)] [] σ =
  gR σ 101 0 (.ref a0) fun a21 =>
  aN σ (.ref a21) fun x22 =>
  if (x1 < x22 : Prop) then (gR σ 101 0 (.ref a0) fun a23 =>
    if ((sZ σ) : Nat) = 39 then none else (onV (rn 93 [.ref (sZ σ)] (mkC σ 108 0 7)) (fun σ24 =>
    uR σ24 (.ref a23) x1 (.ref (sZ σ)) fun σ26 =>
      exec PP 2 4 67 [some (.ref a0), some (.int (x1 + 1))] [] σ26) (fun _ _ => none)))
  else (exec PP 2 4 95 [some (.ref a0), some (.int x1)] [] σ) := (exec_eq PP 2 4 67 _ _ σ).trans rfl
set_option maxRecDepth 20000 in
theorem e_4_95 (a0 : Nat) (o1 : Option Value) (σ : SH) : exec PP 2 4 95 [some (.ref a0), o1] [] σ =
  exec PP 2 4 97 [some (.ref a0), some (.int 0)] [] σ := (exec_eq PP 2 4 95 _ _ σ).trans rfl
set_option maxRecDepth 20000 in
theorem e_4_97 (a0 : Nat) (x1 : Int32) (σ : SH) : exec PP 2 4 97 [some (.ref a0), some (.int x1)] [] σ =
  gR σ 101 1 (.ref a0) fun a21 =>
  aN σ (.ref a21) fun x22 =>
  if (x1 < x22 : Prop) then (gR σ 101 1 (.ref a0) fun a23 =>
    if ((sZ σ) : Nat) = 39 then none else (onV (rn 0 [.ref (sZ σ)] (mkC σ 100 0 3)) (fun σ24 =>
    uR σ24 (.ref a23) x1 (.ref (sZ σ)) fun σ26 =>
      exec PP 2 4 97 [some (.ref a0), some (.int (x1 + 1))] [] σ26) (fun _ _ => none)))
  else (exec PP 2 4 125 [some (.ref a0), some (.int x1)] [] σ) := (exec_eq PP 2 4 97 _ _ σ).trans rfl
set_option maxRecDepth 20000 in
theorem e_4_125 (a0 : Nat) (o1 : Option Value) (σ : SH) : exec PP 2 4 125 [some (.ref a0), o1] [] σ =
  exec PP 2 4 127 [some (.ref a0), some (.int 0)] [] σ := (exec_eq PP 2 4 125 _ _ σ).trans rfl
set_option maxRecDepth 20000 in
theorem e_4_127 (a0 : Nat) (x1 : Int32) (σ : SH) : exec PP 2 4 127 [some (.ref a0), some (.int x1)] [] σ =
  gR σ 101 2 (.ref a0) fun a21 =>
  aN σ (.ref a21) fun x22 =>
  if (x1 < x22 : Prop) then (gR σ 101 2 (.ref a0) fun a23 =>
    if ((sZ σ) : Nat) = 39 then none else (onV (rn 21 [.ref (sZ σ)] (mkC σ 102 0 7)) (fun σ24 =>
    uR σ24 (.ref a23) x1 (.ref (sZ σ)) fun σ26 =>
      exec PP 2 4 127 [some (.ref a0), some (.int (x1 + 1))] [] σ26) (fun _ _ => none)))
  else (exec PP 2 4 155 [some (.ref a0), some (.int x1)] [] σ) := (exec_eq PP 2 4 127 _ _ σ).trans rfl
set_option maxRecDepth 20000 in
theorem e_4_155 (o0 : Option Value) (o1 : Option Value) (σ : SH) : exec PP 2 4 155 [o0, o1] [] σ =
  some (.inl none, σ) := (exec_eq PP 2 4 155 _ _ σ).trans rfl

/-! 5: ArchEnds$County.worthOf(I)I -/
set_option maxRecDepth 20000 in
theorem r_5 (a0 : Nat) (x1 : Int32) (σ : SH) : rn 5 [.ref a0, .int x1] σ =
  gR σ 101 1 (.ref a0) fun a21 =>
  aR σ (.ref a21) x1 fun a22 =>
  gI σ 100 0 (.ref a22) fun x23 =>
  exec PP 1 5 12 [some (.ref a0), some (.int x1), some (.int x23), some (.int 0)] [] σ := (exec_eq PP 1 5 0 _ _ σ).trans rfl
set_option maxRecDepth 20000 in
theorem e_5_12 (a0 : Nat) (x1 : Int32) (x2 : Int32) (x3 : Int32) (σ : SH) : exec PP 1 5 12 [some (.ref a0), some (.int x1), some (.int x2), some (.int x3)] [] σ =
  gI σ 101 6 (.ref a0) fun x21 =>
  if (x3 < x21 : Prop) then (gR σ 101 2 (.ref a0) fun a22 =>
    aR σ (.ref a22) x3 fun a23 =>
    gI σ 102 4 (.ref a23) fun x24 =>
    if (x24 = x1 : Prop) then (gR σ 101 2 (.ref a0) fun a25 =>
      aR σ (.ref a25) x3 fun a26 =>
      gI σ 102 3 (.ref a26) fun x27 =>
      exec PP 1 5 12 [some (.ref a0), some (.int x1), some (.int (x2 + x27)), some (.int (x3 + 1))] [] σ)
    else (exec PP 1 5 45 [some (.ref a0), some (.int x1), some (.int x2), some (.int x3)] [] σ))
  else (exec PP 1 5 51 [some (.ref a0), some (.int x1), some (.int x2), some (.int x3)] [] σ) := (exec_eq PP 1 5 12 _ _ σ).trans rfl
set_option maxRecDepth 20000 in
theorem e_5_51 (o0 : Option Value) (o1 : Option Value) (x2 : Int32) (o3 : Option Value) (σ : SH) : exec PP 1 5 51 [o0, o1, some (.int x2), o3] [] σ =
  some (.inl (some (.int x2)), σ) := (exec_eq PP 1 5 51 _ _ σ).trans rfl
set_option maxRecDepth 20000 in
theorem e_5_45 (a0 : Nat) (x1 : Int32) (x2 : Int32) (x3 : Int32) (σ : SH) : exec PP 1 5 45 [some (.ref a0), some (.int x1), some (.int x2), some (.int x3)] [] σ =
  exec PP 1 5 12 [some (.ref a0), some (.int x1), some (.int x2), some (.int (x3 + 1))] [] σ := (exec_eq PP 1 5 45 _ _ σ).trans rfl

/-! 6: ArchEnds$County.copyFrom(LArchEnds$County;)V -/
set_option maxRecDepth 20000 in
theorem r_6 (a0 : Nat) (a1 : Nat) (σ : SH) : rn 6 [.ref a0, .ref a1] σ =
  exec PP 2 6 2 [some (.ref a0), some (.ref a1), some (.int 0)] [] σ := (exec_eq PP 2 6 0 _ _ σ).trans rfl
set_option maxRecDepth 20000 in
theorem e_6_2 (a0 : Nat) (a1 : Nat) (x2 : Int32) (σ : SH) : exec PP 2 6 2 [some (.ref a0), some (.ref a1), some (.int x2)] [] σ =
  gR σ 101 0 (.ref a0) fun a21 =>
  aN σ (.ref a21) fun x22 =>
  if (x2 < x22 : Prop) then (gR σ 101 0 (.ref a0) fun a23 =>
    aR σ (.ref a23) x2 fun a24 =>
    gR σ 101 0 (.ref a1) fun a25 =>
    aR σ (.ref a25) x2 fun a26 =>
    if sT σ a24 = 108 then (onV (rn 94 [.ref a24, .ref a26] σ) (fun σ27 =>
    exec PP 2 6 2 [some (.ref a0), some (.ref a1), some (.int (x2 + 1))] [] σ27) (fun e28 σ27x => some (.inr e28, σ27x))) else none)
  else (exec PP 2 6 32 [some (.ref a0), some (.ref a1), some (.int x2)] [] σ) := (exec_eq PP 2 6 2 _ _ σ).trans rfl
set_option maxRecDepth 20000 in
theorem e_6_32 (a0 : Nat) (a1 : Nat) (o2 : Option Value) (σ : SH) : exec PP 2 6 32 [some (.ref a0), some (.ref a1), o2] [] σ =
  exec PP 2 6 34 [some (.ref a0), some (.ref a1), some (.int 0)] [] σ := (exec_eq PP 2 6 32 _ _ σ).trans rfl
set_option maxRecDepth 20000 in
theorem e_6_34 (a0 : Nat) (a1 : Nat) (x2 : Int32) (σ : SH) : exec PP 2 6 34 [some (.ref a0), some (.ref a1), some (.int x2)] [] σ =
  gR σ 101 1 (.ref a0) fun a21 =>
  aN σ (.ref a21) fun x22 =>
  if (x2 < x22 : Prop) then (gR σ 101 1 (.ref a0) fun a23 =>
    aR σ (.ref a23) x2 fun a24 =>
    gR σ 101 1 (.ref a1) fun a25 =>
    aR σ (.ref a25) x2 fun a26 =>
    if sT σ a24 = 100 then (onV (rn 1 [.ref a24, .ref a26] σ) (fun σ27 =>
    exec PP 2 6 34 [some (.ref a0), some (.ref a1), some (.int (x2 + 1))] [] σ27) (fun e28 σ27x => some (.inr e28, σ27x))) else none)
  else (exec PP 2 6 64 [some (.ref a0), some (.ref a1), some (.int x2)] [] σ) := (exec_eq PP 2 6 34 _ _ σ).trans rfl
set_option maxRecDepth 20000 in
theorem e_6_64 (a0 : Nat) (a1 : Nat) (o2 : Option Value) (σ : SH) : exec PP 2 6 64 [some (.ref a0), some (.ref a1), o2] [] σ =
  exec PP 2 6 66 [some (.ref a0), some (.ref a1), some (.int 0)] [] σ := (exec_eq PP 2 6 64 _ _ σ).trans rfl
set_option maxRecDepth 20000 in
theorem e_6_66 (a0 : Nat) (a1 : Nat) (x2 : Int32) (σ : SH) : exec PP 2 6 66 [some (.ref a0), some (.ref a1), some (.int x2)] [] σ =
  gR σ 101 2 (.ref a0) fun a21 =>
  aN σ (.ref a21) fun x22 =>
  if (x2 < x22 : Prop) then (gR σ 101 2 (.ref a0) fun a23 =>
    aR σ (.ref a23) x2 fun a24 =>
    gR σ 101 2 (.ref a1) fun a25 =>
    aR σ (.ref a25) x2 fun a26 =>
    if sT σ a24 = 102 then (onV (rn 22 [.ref a24, .ref a26] σ) (fun σ27 =>
    exec PP 2 6 66 [some (.ref a0), some (.ref a1), some (.int (x2 + 1))] [] σ27) (fun e28 σ27x => some (.inr e28, σ27x))) else none)
  else (exec PP 2 6 96 [some (.ref a0), some (.ref a1), some (.int x2)] [] σ) := (exec_eq PP 2 6 66 _ _ σ).trans rfl
set_option maxRecDepth 20000 in
theorem e_6_96 (a0 : Nat) (a1 : Nat) (o2 : Option Value) (σ : SH) : exec PP 2 6 96 [some (.ref a0), some (.ref a1), o2] [] σ =
  gR σ 101 3 (.ref a0) fun a21 =>
  gR σ 101 3 (.ref a1) fun a22 =>
  if sT σ a21 = 105 then (onV (rn 51 [.ref a21, .ref a22] σ) (fun σ23 =>
  gI σ23 101 4 (.ref a1) fun x25 =>
    pI σ23 101 4 (.ref a0) x25 fun σ26 =>
    gI σ26 101 5 (.ref a1) fun x27 =>
    pI σ26 101 5 (.ref a0) x27 fun σ28 =>
    gI σ28 101 6 (.ref a1) fun x29 =>
    pI σ28 101 6 (.ref a0) x29 fun σ30 =>
    gI σ30 101 7 (.ref a1) fun x31 =>
    pI σ30 101 7 (.ref a0) x31 fun σ32 =>
    gI σ32 101 8 (.ref a1) fun x33 =>
    pI σ32 101 8 (.ref a0) x33 fun σ34 =>
    gI σ34 101 9 (.ref a1) fun x35 =>
    pI σ34 101 9 (.ref a0) x35 fun σ36 =>
    gI σ36 101 10 (.ref a1) fun x37 =>
    pI σ36 101 10 (.ref a0) x37 fun σ38 =>
    gI σ38 101 11 (.ref a1) fun x39 =>
    pI σ38 101 11 (.ref a0) x39 fun σ40 =>
    gQ σ40 101 12 (.ref a1) (pV σ40 101 12 (.ref a0) (.null) fun σ42 =>
      some (.inl none, σ42))
    (fun a41 => pV σ40 101 12 (.ref a0) (.ref a41) fun σ43 =>
      some (.inl none, σ43))) (fun e24 σ23x => some (.inr e24, σ23x))) else none := (exec_eq PP 2 6 96 _ _ σ).trans rfl

/-! 7: ArchEnds$County.pursesTogether()I -/
set_option maxRecDepth 20000 in
theorem r_7 (a0 : Nat) (σ : SH) : rn 7 [.ref a0] σ =
  exec PP 1 7 4 [some (.ref a0), some (.int 0), some (.int 0)] [] σ := (exec_eq PP 1 7 0 _ _ σ).trans rfl
set_option maxRecDepth 20000 in
theorem e_7_4 (a0 : Nat) (x1 : Int32) (x2 : Int32) (σ : SH) : exec PP 1 7 4 [some (.ref a0), some (.int x1), some (.int x2)] [] σ =
  gI σ 101 5 (.ref a0) fun x21 =>
  if (x2 < x21 : Prop) then (gR σ 101 1 (.ref a0) fun a22 =>
    aR σ (.ref a22) x2 fun a23 =>
    gI σ 100 0 (.ref a23) fun x24 =>
    exec PP 1 7 4 [some (.ref a0), some (.int (x1 + x24)), some (.int (x2 + 1))] [] σ)
  else (exec PP 1 7 30 [some (.ref a0), some (.int x1), some (.int x2)] [] σ) := (exec_eq PP 1 7 4 _ _ σ).trans rfl
set_option maxRecDepth 20000 in
theorem e_7_30 (o0 : Option Value) (x1 : Int32) (o2 : Option Value) (σ : SH) : exec PP 1 7 30 [o0, some (.int x1), o2] [] σ =
  some (.inl (some (.int x1)), σ) := (exec_eq PP 1 7 30 _ _ σ).trans rfl

/-! 8: ArchEnds$County.ownedDeeds()I -/
set_option maxRecDepth 20000 in
theorem r_8 (a0 : Nat) (σ : SH) : rn 8 [.ref a0] σ =
  exec PP 1 8 4 [some (.ref a0), some (.int 0), some (.int 0)] [] σ := (exec_eq PP 1 8 0 _ _ σ).trans rfl
set_option maxRecDepth 20000 in
theorem e_8_4 (a0 : Nat) (x1 : Int32) (x2 : Int32) (σ : SH) : exec PP 1 8 4 [some (.ref a0), some (.int x1), some (.int x2)] [] σ =
  gI σ 101 6 (.ref a0) fun x21 =>
  if (x2 < x21 : Prop) then (gR σ 101 2 (.ref a0) fun a22 =>
    aR σ (.ref a22) x2 fun a23 =>
    gI σ 102 4 (.ref a23) fun x24 =>
    if (x24 = (-1) : Prop) then (exec PP 1 8 31 [some (.ref a0), some (.int x1), some (.int x2)] [] σ)
    else (exec PP 1 8 4 [some (.ref a0), some (.int (x1 ||| (shl 1 x2))), some (.int (x2 + 1))] [] σ))
  else (exec PP 1 8 37 [some (.ref a0), some (.int x1), some (.int x2)] [] σ) := (exec_eq PP 1 8 4 _ _ σ).trans rfl
set_option maxRecDepth 20000 in
theorem e_8_37 (o0 : Option Value) (x1 : Int32) (o2 : Option Value) (σ : SH) : exec PP 1 8 37 [o0, some (.int x1), o2] [] σ =
  some (.inl (some (.int x1)), σ) := (exec_eq PP 1 8 37 _ _ σ).trans rfl
set_option maxRecDepth 20000 in
theorem e_8_31 (a0 : Nat) (x1 : Int32) (x2 : Int32) (σ : SH) : exec PP 1 8 31 [some (.ref a0), some (.int x1), some (.int x2)] [] σ =
  exec PP 1 8 4 [some (.ref a0), some (.int x1), some (.int (x2 + 1))] [] σ := (exec_eq PP 1 8 31 _ _ σ).trans rfl

/-! 9: ArchEnds$County.walkOf(I)I -/
set_option maxRecDepth 20000 in
theorem r_9 (a0 : Nat) (x1 : Int32) (σ : SH) : rn 9 [.ref a0, .int x1] σ =
  gR σ 101 1 (.ref a0) fun a21 =>
  aR σ (.ref a21) x1 fun a22 =>
  gI σ 100 2 (.ref a22) fun x23 =>
  gR σ 101 1 (.ref a0) fun a24 =>
  aR σ (.ref a24) x1 fun a25 =>
  gI σ 100 1 (.ref a25) fun x26 =>
  gI σ 101 10 (.ref a0) fun x27 =>
  if sT σ a0 = 101 then (onI (rn 10 [.ref a0, .ref 16, .int x26, .int x27, .int x1] σ) (fun x30 σ28 =>
  if (((x23 - x30) : Int32) < 0 : Prop) then (exec PP 4 9 41 [some (.ref a0), some (.int x1), some (.int (x23 - x30))] [.int 0] σ28)
    else (exec PP 4 9 40 [some (.ref a0), some (.int x1), some (.int (x23 - x30))] [] σ28)) (fun e29 σ28x => some (.inr e29, σ28x))) else none := (exec_eq PP 4 9 0 _ _ σ).trans rfl
set_option maxRecDepth 20000 in
theorem e_9_40 (o0 : Option Value) (o1 : Option Value) (x2 : Int32) (σ : SH) : exec PP 4 9 40 [o0, o1, some (.int x2)] [] σ =
  some (.inl (some (.int x2)), σ) := (exec_eq PP 4 9 40 _ _ σ).trans rfl
set_option maxRecDepth 20000 in
theorem e_9_41 (o0 : Option Value) (o1 : Option Value) (o2 : Option Value) (w0 : Int32) (σ : SH) : exec PP 4 9 41 [o0, o1, o2] [.int w0] σ =
  some (.inl (some (.int w0)), σ) := (exec_eq PP 4 9 41 _ _ σ).trans rfl

/-! 10: ArchEnds$County.judge(LArchEnds$Sign;III)I -/
set_option maxRecDepth 20000 in
theorem r_10 (a0 : Nat) (a1 : Nat) (x2 : Int32) (x3 : Int32) (x4 : Int32) (σ : SH) : rn 10 [.ref a0, .ref a1, .int x2, .int x3, .int x4] σ =
  gQ σ 101 12 (.ref a0) (some (.inl (some (.int 0)), σ))
  (fun a21 => if (a21 : Nat) = 39 then none else
    exec PP 3 10 9 [some (.ref a0), some (.ref a1), some (.int x2), some (.int x3), some (.int x4), none, none] [] σ) := (exec_eq PP 3 10 0 _ _ σ).trans rfl
set_option maxRecDepth 20000 in
theorem e_10_9 (a0 : Nat) (a1 : Nat) (x2 : Int32) (x3 : Int32) (x4 : Int32) (o5 : Option Value) (o6 : Option Value) (σ : SH) : exec PP 3 10 9 [some (.ref a0), some (.ref a1), some (.int x2), some (.int x3), some (.int x4), o5, o6] [] σ =
  onI (rn 126 [.int x3] σ) (fun x23 σ21 =>
  if sT σ21 a0 = 101 then (onI (rn 11 [.ref a0, .int x2, .int x3] σ21) (fun x26 σ24 =>
    onI (rn 325 [.int x26] σ24) (fun x29 σ27 =>
      gR σ27 101 13 (.ref a0) fun a30 =>
        gI σ27 109 1 (.ref 18) fun x31 =>
        uI σ27 (.ref a30) (x31 - 1000) x2 fun σ32 =>
        gR σ32 101 13 (.ref a0) fun a33 =>
        gI σ32 109 1 (.ref 19) fun x34 =>
        onI (rn 127 [.int x3] σ32) (fun x37 σ35 =>
        uI σ35 (.ref a33) (x34 - 1000) x37 fun σ38 =>
          gR σ38 101 13 (.ref a0) fun a39 =>
          gI σ38 109 1 (.ref 20) fun x40 =>
          if (x23 = (-1) : Prop) then (exec PP 3 10 87 [some (.ref a0), some (.ref a1), some (.int x2), some (.int x3), some (.int x4), some (.int x23), some (.int x29)] [.int 0, .int (x40 - 1000), .ref a39] σ38)
          else (exec PP 3 10 85 [some (.ref a0), some (.ref a1), some (.int x2), some (.int x3), some (.int x4), some (.int x23), some (.int x29)] [.int (x40 - 1000), .ref a39] σ38)) (fun _ _ => none)) (fun e28 σ27x => some (.inr e28, σ27x))) (fun e25 σ24x => some (.inr e25, σ24x))) else none) (fun _ _ => none) := (exec_eq PP 3 10 9 _ _ σ).trans rfl
set_option maxRecDepth 20000 in
theorem e_10_85 (a0 : Nat) (a1 : Nat) (x2 : Int32) (x3 : Int32) (x4 : Int32) (x5 : Int32) (x6 : Int32) (w0 : Int32) (b1 : Nat) (σ : SH) : exec PP 3 10 85 [some (.ref a0), some (.ref a1), some (.int x2), some (.int x3), some (.int x4), some (.int x5), some (.int x6)] [.int w0, .ref b1] σ =
  uI σ (.ref b1) w0 x5 fun σ21 =>
  gR σ21 101 13 (.ref a0) fun a22 =>
  gI σ21 109 1 (.ref 21) fun x23 =>
  uI σ21 (.ref a22) (x23 - 1000) (irm x3 96) fun σ24 =>
  gR σ24 101 13 (.ref a0) fun a25 =>
  gI σ24 109 1 (.ref 22) fun x26 =>
  uI σ24 (.ref a25) (x26 - 1000) x6 fun σ27 =>
  gR σ27 101 13 (.ref a0) fun a28 =>
  gI σ27 109 1 (.ref 23) fun x29 =>
  uI σ27 (.ref a28) (x29 - 1000) x4 fun σ30 =>
  gR σ30 101 13 (.ref a0) fun a31 =>
  gI σ30 109 1 (.ref 24) fun x32 =>
  if (0 < x6 : Prop) then (exec PP 3 10 165 [some (.ref a0), some (.ref a1), some (.int x2), some (.int x3), some (.int x4), none, some (.int x6)] [.int 1, .int (x32 - 1000), .ref a31] σ30)
  else (exec PP 3 10 164 [some (.ref a0), some (.ref a1), some (.int x2), some (.int x3), some (.int x4), none, some (.int x6)] [.int (x32 - 1000), .ref a31] σ30) := (exec_eq PP 3 10 85 _ _ σ).trans rfl
set_option maxRecDepth 20000 in
theorem e_10_87 (a0 : Nat) (a1 : Nat) (x2 : Int32) (x3 : Int32) (x4 : Int32) (o5 : Option Value) (x6 : Int32) (w0 : Int32) (w1 : Int32) (b2 : Nat) (σ : SH) : exec PP 3 10 87 [some (.ref a0), some (.ref a1), some (.int x2), some (.int x3), some (.int x4), o5, some (.int x6)] [.int w0, .int w1, .ref b2] σ =
  uI σ (.ref b2) w1 w0 fun σ21 =>
  gR σ21 101 13 (.ref a0) fun a22 =>
  gI σ21 109 1 (.ref 21) fun x23 =>
  uI σ21 (.ref a22) (x23 - 1000) (irm x3 96) fun σ24 =>
  gR σ24 101 13 (.ref a0) fun a25 =>
  gI σ24 109 1 (.ref 22) fun x26 =>
  uI σ24 (.ref a25) (x26 - 1000) x6 fun σ27 =>
  gR σ27 101 13 (.ref a0) fun a28 =>
  gI σ27 109 1 (.ref 23) fun x29 =>
  uI σ27 (.ref a28) (x29 - 1000) x4 fun σ30 =>
  gR σ30 101 13 (.ref a0) fun a31 =>
  gI σ30 109 1 (.ref 24) fun x32 =>
  if (0 < x6 : Prop) then (exec PP 3 10 165 [some (.ref a0), some (.ref a1), some (.int x2), some (.int x3), some (.int x4), none, some (.int x6)] [.int 1, .int (x32 - 1000), .ref a31] σ30)
  else (exec PP 3 10 164 [some (.ref a0), some (.ref a1), some (.int x2), some (.int x3), some (.int x4), none, some (.int x6)] [.int (x32 - 1000), .ref a31] σ30) := (exec_eq PP 3 10 87 _ _ σ).trans rfl
set_option maxRecDepth 20000 in
theorem e_10_164 (a0 : Nat) (a1 : Nat) (x2 : Int32) (x3 : Int32) (o4 : Option Value) (o5 : Option Value) (o6 : Option Value) (w0 : Int32) (b1 : Nat) (σ : SH) : exec PP 3 10 164 [some (.ref a0), some (.ref a1), some (.int x2), some (.int x3), o4, o5, o6] [.int w0, .ref b1] σ =
  uI σ (.ref b1) w0 0 fun σ21 =>
  gR σ21 101 13 (.ref a0) fun a22 =>
  gI σ21 109 1 (.ref 25) fun x23 =>
  if sT σ21 a0 = 101 then (onI (rn 12 [.ref a0, .int x2, .int x3] σ21) (fun x26 σ24 =>
  if (x26 = 0 : Prop) then (exec PP 3 10 193 [some (.ref a0), some (.ref a1), some (.int x2), some (.int x3), none, none, none] [.int (x23 - 1000), .ref a22] σ24)
    else (exec PP 3 10 194 [some (.ref a0), some (.ref a1), some (.int x2), some (.int x3), none, none, none] [.int 1, .int (x23 - 1000), .ref a22] σ24)) (fun e25 σ24x => some (.inr e25, σ24x))) else none := (exec_eq PP 3 10 164 _ _ σ).trans rfl
set_option maxRecDepth 20000 in
theorem e_10_165 (a0 : Nat) (a1 : Nat) (x2 : Int32) (x3 : Int32) (o4 : Option Value) (o5 : Option Value) (o6 : Option Value) (w0 : Int32) (w1 : Int32) (b2 : Nat) (σ : SH) : exec PP 3 10 165 [some (.ref a0), some (.ref a1), some (.int x2), some (.int x3), o4, o5, o6] [.int w0, .int w1, .ref b2] σ =
  uI σ (.ref b2) w1 w0 fun σ21 =>
  gR σ21 101 13 (.ref a0) fun a22 =>
  gI σ21 109 1 (.ref 25) fun x23 =>
  if sT σ21 a0 = 101 then (onI (rn 12 [.ref a0, .int x2, .int x3] σ21) (fun x26 σ24 =>
  if (x26 = 0 : Prop) then (exec PP 3 10 193 [some (.ref a0), some (.ref a1), some (.int x2), some (.int x3), none, none, none] [.int (x23 - 1000), .ref a22] σ24)
    else (exec PP 3 10 194 [some (.ref a0), some (.ref a1), some (.int x2), some (.int x3), none, none, none] [.int 1, .int (x23 - 1000), .ref a22] σ24)) (fun e25 σ24x => some (.inr e25, σ24x))) else none := (exec_eq PP 3 10 165 _ _ σ).trans rfl
set_option maxRecDepth 20000 in
theorem e_10_193 (a0 : Nat) (a1 : Nat) (o2 : Option Value) (o3 : Option Value) (o4 : Option Value) (o5 : Option Value) (o6 : Option Value) (w0 : Int32) (b1 : Nat) (σ : SH) : exec PP 3 10 193 [some (.ref a0), some (.ref a1), o2, o3, o4, o5, o6] [.int w0, .ref b1] σ =
  uI σ (.ref b1) w0 0 fun σ21 =>
  gQ σ21 101 12 (.ref a0) (gR σ21 101 13 (.ref a0) fun a23 =>
    none)
  (fun a22 => gR σ21 101 13 (.ref a0) fun a26 =>
    if sT σ21 a22 = 104 then (onI (rn 48 [.ref a22, .ref a1, .ref a26] σ21) (fun x29 σ27 =>
    some (.inl (some (.int x29)), σ27)) (fun e28 σ27x => some (.inr e28, σ27x))) else none) := (exec_eq PP 3 10 193 _ _ σ).trans rfl
set_option maxRecDepth 20000 in
theorem e_10_194 (a0 : Nat) (a1 : Nat) (o2 : Option Value) (o3 : Option Value) (o4 : Option Value) (o5 : Option Value) (o6 : Option Value) (w0 : Int32) (w1 : Int32) (b2 : Nat) (σ : SH) : exec PP 3 10 194 [some (.ref a0), some (.ref a1), o2, o3, o4, o5, o6] [.int w0, .int w1, .ref b2] σ =
  uI σ (.ref b2) w1 w0 fun σ21 =>
  gQ σ21 101 12 (.ref a0) (gR σ21 101 13 (.ref a0) fun a23 =>
    none)
  (fun a22 => gR σ21 101 13 (.ref a0) fun a26 =>
    if sT σ21 a22 = 104 then (onI (rn 48 [.ref a22, .ref a1, .ref a26] σ21) (fun x29 σ27 =>
    some (.inl (some (.int x29)), σ27)) (fun e28 σ27x => some (.inr e28, σ27x))) else none) := (exec_eq PP 3 10 194 _ _ σ).trans rfl

/-! 11: ArchEnds$County.wettersOf(II)I -/
set_option maxRecDepth 20000 in
theorem r_11 (a0 : Nat) (x1 : Int32) (x2 : Int32) (σ : SH) : rn 11 [.ref a0, .int x1, .int x2] σ =
  exec PP 2 11 5 [some (.ref a0), some (.int x1), some (.int x2), some (.int 0), some (.int 0)] [] σ := (exec_eq PP 2 11 0 _ _ σ).trans rfl
set_option maxRecDepth 20000 in
theorem e_11_5 (a0 : Nat) (x1 : Int32) (x2 : Int32) (x3 : Int32) (x4 : Int32) (σ : SH) : exec PP 2 11 5 [some (.ref a0), some (.int x1), some (.int x2), some (.int x3), some (.int x4)] [] σ =
  gI σ 101 4 (.ref a0) fun x21 =>
  if (x4 < x21 : Prop) then (gR σ 101 0 (.ref a0) fun a22 =>
    aR σ (.ref a22) x4 fun a23 =>
    gI σ 108 6 (.ref a23) fun x24 =>
    if (x24 = 2 : Prop) then (exec PP 2 11 53 [some (.ref a0), some (.int x1), some (.int x2), some (.int x3), some (.int x4)] [] σ)
    else (gR σ 101 0 (.ref a0) fun a25 =>
      aR σ (.ref a25) x4 fun a26 =>
      if sT σ a26 = 108 then (onI (rn 95 [.ref a26, .int x2] σ) (fun x29 σ27 =>
      onI (rn 128 [.int x29, .int x1] σ27) (fun x32 σ30 =>
        if (x32 = 0 : Prop) then (exec PP 2 11 53 [some (.ref a0), some (.int x1), some (.int x2), some (.int x3), some (.int x4)] [] σ30)
          else (exec PP 2 11 5 [some (.ref a0), some (.int x1), some (.int x2), some (.int (x3 ||| (shl 1 x4))), some (.int (x4 + 1))] [] σ30)) (fun _ _ => none)) (fun e28 σ27x => some (.inr e28, σ27x))) else none))
  else (exec PP 2 11 59 [some (.ref a0), some (.int x1), some (.int x2), some (.int x3), some (.int x4)] [] σ) := (exec_eq PP 2 11 5 _ _ σ).trans rfl
set_option maxRecDepth 20000 in
theorem e_11_59 (o0 : Option Value) (o1 : Option Value) (o2 : Option Value) (x3 : Int32) (o4 : Option Value) (σ : SH) : exec PP 2 11 59 [o0, o1, o2, some (.int x3), o4] [] σ =
  some (.inl (some (.int x3)), σ) := (exec_eq PP 2 11 59 _ _ σ).trans rfl
set_option maxRecDepth 20000 in
theorem e_11_53 (a0 : Nat) (x1 : Int32) (x2 : Int32) (x3 : Int32) (x4 : Int32) (σ : SH) : exec PP 2 11 53 [some (.ref a0), some (.int x1), some (.int x2), some (.int x3), some (.int x4)] [] σ =
  exec PP 2 11 5 [some (.ref a0), some (.int x1), some (.int x2), some (.int x3), some (.int (x4 + 1))] [] σ := (exec_eq PP 2 11 53 _ _ σ).trans rfl

/-! 12: ArchEnds$County.isOwned(II)Z -/
set_option maxRecDepth 20000 in
theorem r_12 (a0 : Nat) (x1 : Int32) (x2 : Int32) (σ : SH) : rn 12 [.ref a0, .int x1, .int x2] σ =
  exec PP 2 12 2 [some (.ref a0), some (.int x1), some (.int x2), some (.int 0)] [] σ := (exec_eq PP 2 12 0 _ _ σ).trans rfl
set_option maxRecDepth 20000 in
theorem e_12_2 (a0 : Nat) (x1 : Int32) (x2 : Int32) (x3 : Int32) (σ : SH) : exec PP 2 12 2 [some (.ref a0), some (.int x1), some (.int x2), some (.int x3)] [] σ =
  gI σ 101 6 (.ref a0) fun x21 =>
  if (x3 < x21 : Prop) then (gR σ 101 2 (.ref a0) fun a22 =>
    aR σ (.ref a22) x3 fun a23 =>
    gI σ 102 4 (.ref a23) fun x24 =>
    if (x24 = (-1) : Prop) then (exec PP 2 12 51 [some (.ref a0), some (.int x1), some (.int x2), some (.int x3)] [] σ)
    else (gR σ 101 2 (.ref a0) fun a25 =>
      aR σ (.ref a25) x3 fun a26 =>
      gI σ 102 0 (.ref a26) fun x27 =>
      if (x27 = x1 : Prop) then (gR σ 101 2 (.ref a0) fun a28 =>
        aR σ (.ref a28) x3 fun a29 =>
        if sT σ a29 = 102 then (onI (rn 23 [.ref a29, .int x2] σ) (fun x32 σ30 =>
        if (x32 = 0 : Prop) then (exec PP 2 12 51 [some (.ref a0), some (.int x1), some (.int x2), some (.int x3)] [] σ30)
          else (some (.inl (some (.int 1)), σ30))) (fun e31 σ30x => some (.inr e31, σ30x))) else none)
      else (exec PP 2 12 51 [some (.ref a0), some (.int x1), some (.int x2), some (.int x3)] [] σ)))
  else (exec PP 2 12 57 [some (.ref a0), some (.int x1), some (.int x2), some (.int x3)] [] σ) := (exec_eq PP 2 12 2 _ _ σ).trans rfl
set_option maxRecDepth 20000 in
theorem e_12_57 (o0 : Option Value) (o1 : Option Value) (o2 : Option Value) (o3 : Option Value) (σ : SH) : exec PP 2 12 57 [o0, o1, o2, o3] [] σ =
  some (.inl (some (.int 0)), σ) := (exec_eq PP 2 12 57 _ _ σ).trans rfl
set_option maxRecDepth 20000 in
theorem e_12_51 (a0 : Nat) (x1 : Int32) (x2 : Int32) (x3 : Int32) (σ : SH) : exec PP 2 12 51 [some (.ref a0), some (.int x1), some (.int x2), some (.int x3)] [] σ =
  exec PP 2 12 2 [some (.ref a0), some (.int x1), some (.int x2), some (.int (x3 + 1))] [] σ := (exec_eq PP 2 12 51 _ _ σ).trans rfl

/-! 13: ArchEnds$County.deedsOf(I)I -/
set_option maxRecDepth 20000 in
theorem r_13 (a0 : Nat) (x1 : Int32) (σ : SH) : rn 13 [.ref a0, .int x1] σ =
  exec PP 1 13 4 [some (.ref a0), some (.int x1), some (.int 0), some (.int 0)] [] σ := (exec_eq PP 1 13 0 _ _ σ).trans rfl
set_option maxRecDepth 20000 in
theorem e_13_4 (a0 : Nat) (x1 : Int32) (x2 : Int32) (x3 : Int32) (σ : SH) : exec PP 1 13 4 [some (.ref a0), some (.int x1), some (.int x2), some (.int x3)] [] σ =
  gI σ 101 6 (.ref a0) fun x21 =>
  if (x3 < x21 : Prop) then (gR σ 101 2 (.ref a0) fun a22 =>
    aR σ (.ref a22) x3 fun a23 =>
    gI σ 102 4 (.ref a23) fun x24 =>
    if (x24 = x1 : Prop) then (exec PP 1 13 4 [some (.ref a0), some (.int x1), some (.int (x2 ||| (shl 1 x3))), some (.int (x3 + 1))] [] σ)
    else (exec PP 1 13 31 [some (.ref a0), some (.int x1), some (.int x2), some (.int x3)] [] σ))
  else (exec PP 1 13 37 [some (.ref a0), some (.int x1), some (.int x2), some (.int x3)] [] σ) := (exec_eq PP 1 13 4 _ _ σ).trans rfl
set_option maxRecDepth 20000 in
theorem e_13_37 (o0 : Option Value) (o1 : Option Value) (x2 : Int32) (o3 : Option Value) (σ : SH) : exec PP 1 13 37 [o0, o1, some (.int x2), o3] [] σ =
  some (.inl (some (.int x2)), σ) := (exec_eq PP 1 13 37 _ _ σ).trans rfl
set_option maxRecDepth 20000 in
theorem e_13_31 (a0 : Nat) (x1 : Int32) (x2 : Int32) (x3 : Int32) (σ : SH) : exec PP 1 13 31 [some (.ref a0), some (.int x1), some (.int x2), some (.int x3)] [] σ =
  exec PP 1 13 4 [some (.ref a0), some (.int x1), some (.int x2), some (.int (x3 + 1))] [] σ := (exec_eq PP 1 13 31 _ _ σ).trans rfl

/-! 14: ArchEnds$County.costFor(II)I -/
set_option maxRecDepth 20000 in
theorem r_14 (a0 : Nat) (x1 : Int32) (x2 : Int32) (σ : SH) : rn 14 [.ref a0, .int x1, .int x2] σ =
  gR σ 101 2 (.ref a0) fun a21 =>
  aR σ (.ref a21) x2 fun a22 =>
  gI σ 102 3 (.ref a22) fun x23 =>
  gR σ 101 2 (.ref a0) fun a24 =>
  aR σ (.ref a24) x2 fun a25 =>
  gI σ 102 0 (.ref a25) fun x26 =>
  gI σ 101 10 (.ref a0) fun x27 =>
  if sT σ a0 = 101 then (onI (rn 10 [.ref a0, .ref 14, .int x26, .int x27, .int x1] σ) (fun x30 σ28 =>
  some (.inl (some (.int (x23 + x30))), σ28)) (fun e29 σ28x => some (.inr e29, σ28x))) else none := (exec_eq PP 4 14 0 _ _ σ).trans rfl

/-! 15: ArchEnds$County.payFor(III)I -/
set_option maxRecDepth 20000 in
theorem r_15 (a0 : Nat) (x1 : Int32) (x2 : Int32) (x3 : Int32) (σ : SH) : rn 15 [.ref a0, .int x1, .int x2, .int x3] σ =
  gI σ 101 9 (.ref a0) fun x21 =>
  gR σ 101 2 (.ref a0) fun a22 =>
  aR σ (.ref a22) x2 fun a23 =>
  gI σ 102 0 (.ref a23) fun x24 =>
  if sT σ a0 = 101 then (onI (rn 10 [.ref a0, .ref 15, .int x24, .int x3, .int x1] σ) (fun x27 σ25 =>
  some (.inl (some (.int (x21 + x27))), σ25)) (fun e26 σ25x => some (.inr e26, σ25x))) else none := (exec_eq PP 4 15 0 _ _ σ).trans rfl

/-! 16: ArchEnds$County.ownerOf(LArchEnds$Deed;)LArchEnds$Broker; -/
set_option maxRecDepth 20000 in
theorem r_16 (a0 : Nat) (a1 : Nat) (σ : SH) : rn 16 [.ref a0, .ref a1] σ =
  gI σ 102 4 (.ref a1) fun x21 =>
  if (x21 < 0 : Prop) then (exec PP 1 16 18 [some (.ref a0), some (.ref a1)] [] σ)
  else (gI σ 102 4 (.ref a1) fun x22 =>
    gI σ 101 5 (.ref a0) fun x23 =>
    if (x22 < x23 : Prop) then (exec PP 1 16 22 [some (.ref a0), some (.ref a1)] [] σ)
    else (exec PP 1 16 31 [none, none] [.null] σ)) := (exec_eq PP 1 16 0 _ _ σ).trans rfl
set_option maxRecDepth 20000 in
theorem e_16_18 (o0 : Option Value) (o1 : Option Value) (σ : SH) : exec PP 1 16 18 [o0, o1] [] σ =
  exec PP 1 16 31 [none, none] [.null] σ := (exec_eq PP 1 16 18 _ _ σ).trans rfl
set_option maxRecDepth 20000 in
theorem e_16_22 (a0 : Nat) (a1 : Nat) (σ : SH) : exec PP 1 16 22 [some (.ref a0), some (.ref a1)] [] σ =
  gR σ 101 1 (.ref a0) fun a21 =>
  gI σ 102 4 (.ref a1) fun x22 =>
  aR σ (.ref a21) x22 fun a23 =>
  some (.inl (some (.ref a23)), σ) := (exec_eq PP 1 16 22 _ _ σ).trans rfl
set_option maxRecDepth 20000 in
theorem e_16_31 (o0 : Option Value) (o1 : Option Value) (σ : SH) : exec PP 1 16 31 [o0, o1] [.null] σ =
  some (.inl (some (.null)), σ) := (exec_eq PP 1 16 31 _ _ σ).trans rfl

/-! 17: ArchEnds$County.passMinutes(IZ)I -/
set_option maxRecDepth 20000 in
theorem r_17 (a0 : Nat) (x1 : Int32) (x2 : Int32) (σ : SH) : rn 17 [.ref a0, .int x1, .int x2] σ =
  exec PP 6 17 5 [some (.ref a0), some (.int x1), some (.int x2), some (.int 0), some (.int 0)] [] σ := (exec_eq PP 6 17 0 _ _ σ).trans rfl
set_option maxRecDepth 20000 in
theorem e_17_5 (a0 : Nat) (x1 : Int32) (x2 : Int32) (x3 : Int32) (x4 : Int32) (σ : SH) : exec PP 6 17 5 [some (.ref a0), some (.int x1), some (.int x2), some (.int x3), some (.int x4)] [] σ =
  if (x4 < x1 : Prop) then (if (x2 = 0 : Prop) then (exec PP 6 17 19 [some (.ref a0), some (.int x1), some (.int x2), some (.int x3), some (.int x4)] [] σ)
    else (if sT σ a0 = 101 then (onV (rn 18 [.ref a0] σ) (fun σ21 =>
      if sT σ21 a0 = 101 then (onI (rn 19 [.ref a0] σ21) (fun x25 σ23 =>
        gI σ23 101 10 (.ref a0) fun x26 =>
          if (x26 < 9999 : Prop) then (gI σ23 101 10 (.ref a0) fun x27 =>
            pI σ23 101 10 (.ref a0) (x27 + 1) fun σ28 =>
            exec PP 6 17 5 [some (.ref a0), some (.int x1), some (.int x2), some (.int (x3 + x25)), some (.int (x4 + 1))] [] σ28)
          else (exec PP 6 17 46 [some (.ref a0), some (.int x1), some (.int x2), some (.int (x3 + x25)), some (.int x4)] [] σ23)) (fun e24 σ23x => some (.inr e24, σ23x))) else none) (fun e22 σ21x => some (.inr e22, σ21x))) else none))
  else (exec PP 6 17 52 [some (.ref a0), some (.int x1), some (.int x2), some (.int x3), some (.int x4)] [] σ) := (exec_eq PP 6 17 5 _ _ σ).trans rfl
set_option maxRecDepth 20000 in
theorem e_17_52 (o0 : Option Value) (o1 : Option Value) (o2 : Option Value) (x3 : Int32) (o4 : Option Value) (σ : SH) : exec PP 6 17 52 [o0, o1, o2, some (.int x3), o4] [] σ =
  some (.inl (some (.int x3)), σ) := (exec_eq PP 6 17 52 _ _ σ).trans rfl
set_option maxRecDepth 20000 in
theorem e_17_19 (a0 : Nat) (x1 : Int32) (x2 : Int32) (x3 : Int32) (x4 : Int32) (σ : SH) : exec PP 6 17 19 [some (.ref a0), some (.int x1), some (.int x2), some (.int x3), some (.int x4)] [] σ =
  if sT σ a0 = 101 then (onI (rn 19 [.ref a0] σ) (fun x23 σ21 =>
  gI σ21 101 10 (.ref a0) fun x24 =>
    if (x24 < 9999 : Prop) then (gI σ21 101 10 (.ref a0) fun x25 =>
      pI σ21 101 10 (.ref a0) (x25 + 1) fun σ26 =>
      exec PP 6 17 5 [some (.ref a0), some (.int x1), some (.int x2), some (.int (x3 + x23)), some (.int (x4 + 1))] [] σ26)
    else (exec PP 6 17 46 [some (.ref a0), some (.int x1), some (.int x2), some (.int (x3 + x23)), some (.int x4)] [] σ21)) (fun e22 σ21x => some (.inr e22, σ21x))) else none := (exec_eq PP 6 17 19 _ _ σ).trans rfl
set_option maxRecDepth 20000 in
theorem e_17_46 (a0 : Nat) (x1 : Int32) (x2 : Int32) (x3 : Int32) (x4 : Int32) (σ : SH) : exec PP 6 17 46 [some (.ref a0), some (.int x1), some (.int x2), some (.int x3), some (.int x4)] [] σ =
  exec PP 6 17 5 [some (.ref a0), some (.int x1), some (.int x2), some (.int x3), some (.int (x4 + 1))] [] σ := (exec_eq PP 6 17 46 _ _ σ).trans rfl

/-! 18: ArchEnds$County.drawShowers()V -/
set_option maxRecDepth 20000 in
theorem r_18 (a0 : Nat) (σ : SH) : rn 18 [.ref a0] σ =
  exec PP 1 18 2 [some (.ref a0), some (.int 0), none] [] σ := (exec_eq PP 1 18 0 _ _ σ).trans rfl
set_option maxRecDepth 20000 in
theorem e_18_2 (a0 : Nat) (x1 : Int32) (o2 : Option Value) (σ : SH) : exec PP 1 18 2 [some (.ref a0), some (.int x1), o2] [] σ =
  gI σ 101 4 (.ref a0) fun x21 =>
  if (x1 < x21 : Prop) then (gR σ 101 0 (.ref a0) fun a22 =>
    aR σ (.ref a22) x1 fun a23 =>
    gI σ 108 6 (.ref a23) fun x24 =>
    if (x24 = 0 : Prop) then (gR σ 101 0 (.ref a0) fun a25 =>
      aR σ (.ref a25) x1 fun a26 =>
      gI σ 108 2 (.ref a26) fun x27 =>
      gI σ 101 10 (.ref a0) fun x28 =>
      if (x27 = x28 : Prop) then (gI σ 101 11 (.ref a0) fun x29 =>
        pI σ 101 11 (.ref a0) ((1103515245 * x29) + 12345) fun σ30 =>
        gI σ30 101 11 (.ref a0) fun x31 =>
        gR σ30 101 0 (.ref a0) fun a32 =>
        aR σ30 (.ref a32) x1 fun a33 =>
        gR σ30 101 0 (.ref a0) fun a34 =>
        aR σ30 (.ref a34) x1 fun a35 =>
        gI σ30 108 5 (.ref a35) fun x36 =>
        if (((irm ((ush x31 16) &&& 32767) 100) : Int32) < x36 : Prop) then (exec PP 1 18 92 [some (.ref a0), some (.int x1), some (.int ((ush x31 16) &&& 32767))] [.int 1, .ref a33] σ30)
        else (exec PP 1 18 91 [some (.ref a0), some (.int x1), some (.int ((ush x31 16) &&& 32767))] [.ref a33] σ30))
      else (exec PP 1 18 95 [some (.ref a0), some (.int x1), none] [] σ))
    else (exec PP 1 18 95 [some (.ref a0), some (.int x1), none] [] σ))
  else (exec PP 1 18 101 [some (.ref a0), some (.int x1), none] [] σ) := (exec_eq PP 1 18 2 _ _ σ).trans rfl
set_option maxRecDepth 20000 in
theorem e_18_101 (o0 : Option Value) (o1 : Option Value) (o2 : Option Value) (σ : SH) : exec PP 1 18 101 [o0, o1, o2] [] σ =
  some (.inl none, σ) := (exec_eq PP 1 18 101 _ _ σ).trans rfl
set_option maxRecDepth 20000 in
theorem e_18_95 (a0 : Nat) (x1 : Int32) (o2 : Option Value) (σ : SH) : exec PP 1 18 95 [some (.ref a0), some (.int x1), o2] [] σ =
  exec PP 1 18 2 [some (.ref a0), some (.int (x1 + 1)), none] [] σ := (exec_eq PP 1 18 95 _ _ σ).trans rfl
set_option maxRecDepth 20000 in
theorem e_18_91 (a0 : Nat) (x1 : Int32) (o2 : Option Value) (b0 : Nat) (σ : SH) : exec PP 1 18 91 [some (.ref a0), some (.int x1), o2] [.ref b0] σ =
  pI σ 108 6 (.ref b0) 2 fun σ21 =>
  exec PP 1 18 2 [some (.ref a0), some (.int (x1 + 1)), none] [] σ21 := (exec_eq PP 1 18 91 _ _ σ).trans rfl
set_option maxRecDepth 20000 in
theorem e_18_92 (a0 : Nat) (x1 : Int32) (o2 : Option Value) (w0 : Int32) (b1 : Nat) (σ : SH) : exec PP 1 18 92 [some (.ref a0), some (.int x1), o2] [.int w0, .ref b1] σ =
  pI σ 108 6 (.ref b1) w0 fun σ21 =>
  exec PP 1 18 2 [some (.ref a0), some (.int (x1 + 1)), none] [] σ21 := (exec_eq PP 1 18 92 _ _ σ).trans rfl

/-! 19: ArchEnds$County.settleDeeds()I -/
set_option maxRecDepth 20000 in
theorem r_19 (a0 : Nat) (σ : SH) : rn 19 [.ref a0] σ =
  gI σ 101 8 (.ref a0) fun x21 =>
  gI σ 101 10 (.ref a0) fun x22 =>
  if sT σ a0 = 101 then (onI (rn 20 [.ref a0, .int x21, .int x22] σ) (fun x25 σ23 =>
  exec PP 5 19 17 [some (.ref a0), some (.int 0), some (.int x25), some (.int 0), none, none, none] [] σ23) (fun e24 σ23x => some (.inr e24, σ23x))) else none := (exec_eq PP 5 19 0 _ _ σ).trans rfl
set_option maxRecDepth 20000 in
theorem e_19_17 (a0 : Nat) (x1 : Int32) (x2 : Int32) (x3 : Int32) (o4 : Option Value) (o5 : Option Value) (o6 : Option Value) (σ : SH) : exec PP 5 19 17 [some (.ref a0), some (.int x1), some (.int x2), some (.int x3), o4, o5, o6] [] σ =
  gI σ 101 6 (.ref a0) fun x21 =>
  if (x3 < x21 : Prop) then (gR σ 101 2 (.ref a0) fun a22 =>
    aR σ (.ref a22) x3 fun a23 =>
    if sT σ a0 = 101 then (onQ (rn 16 [.ref a0, .ref a23] σ) (fun σ24 =>
    exec PP 5 19 160 [some (.ref a0), some (.int x1), some (.int x2), some (.int x3), some (.ref a23), some (.null), none] [] σ24)
    (fun a26 σ27 =>
    if (a26 : Nat) = 39 then none else
      gI σ27 101 10 (.ref a0) fun x28 =>
      if sT σ27 a23 = 102 then (onI (rn 23 [.ref a23, .int x28] σ27) (fun x31 σ29 =>
      if (x31 = 0 : Prop) then (exec PP 5 19 160 [some (.ref a0), some (.int x1), some (.int x2), some (.int x3), some (.ref a23), some (.ref a26), none] [] σ29)
        else (exec PP 5 19 61 [some (.ref a0), some (.int x1), some (.int x2), some (.int x3), some (.ref a23), some (.ref a26), none] [] σ29)) (fun e30 σ29x => some (.inr e30, σ29x))) else none) (fun e25 σ24x => some (.inr e25, σ24x))) else none)
  else (exec PP 5 19 166 [some (.ref a0), some (.int x1), some (.int x2), some (.int x3), none, none, none] [] σ) := (exec_eq PP 5 19 17 _ _ σ).trans rfl
set_option maxRecDepth 20000 in
theorem e_19_166 (o0 : Option Value) (x1 : Int32) (o2 : Option Value) (o3 : Option Value) (o4 : Option Value) (o5 : Option Value) (o6 : Option Value) (σ : SH) : exec PP 5 19 166 [o0, some (.int x1), o2, o3, o4, o5, o6] [] σ =
  some (.inl (some (.int x1)), σ) := (exec_eq PP 5 19 166 _ _ σ).trans rfl
set_option maxRecDepth 20000 in
theorem e_19_160 (a0 : Nat) (x1 : Int32) (x2 : Int32) (x3 : Int32) (o4 : Option Value) (o5 : Option Value) (o6 : Option Value) (σ : SH) : exec PP 5 19 160 [some (.ref a0), some (.int x1), some (.int x2), some (.int x3), o4, o5, o6] [] σ =
  exec PP 5 19 17 [some (.ref a0), some (.int x1), some (.int x2), some (.int (x3 + 1)), none, none, none] [] σ := (exec_eq PP 5 19 160 _ _ σ).trans rfl
set_option maxRecDepth 20000 in
theorem e_19_61 (a0 : Nat) (x1 : Int32) (x2 : Int32) (x3 : Int32) (a4 : Nat) (a5 : Nat) (o6 : Option Value) (σ : SH) : exec PP 5 19 61 [some (.ref a0), some (.int x1), some (.int x2), some (.int x3), some (.ref a4), some (.ref a5), o6] [] σ =
  gI σ 102 0 (.ref a4) fun x21 =>
  if (x21 = x2 : Prop) then (gI σ 102 4 (.ref a4) fun x22 =>
    gI σ 101 10 (.ref a0) fun x23 =>
    if sT σ a0 = 101 then (onI (rn 15 [.ref a0, .int x22, .int x3, .int x23] σ) (fun x26 σ24 =>
    gI σ24 102 5 (.ref a4) fun x27 =>
      pI σ24 102 5 (.ref a4) (x27 + 1) fun σ28 =>
      if sT σ28 a5 = 100 then (onV (rn 2 [.ref a5, .int x26] σ28) (fun σ29 =>
      gR σ29 101 3 (.ref a0) fun a31 =>
        gI σ29 101 10 (.ref a0) fun x32 =>
        if sT σ29 a31 = 105 then (onV (rn 52 [.ref a31, .int x32, .int x3, .int x2, .int x26] σ29) (fun σ33 =>
        gI σ33 102 6 (.ref a4) fun x35 =>
          if (x35 = 0 : Prop) then (exec PP 5 19 160 [some (.ref a0), some (.int (x1 + 1)), some (.int x2), some (.int x3), some (.ref a4), some (.ref a5), none] [] σ33)
          else (gI σ33 102 2 (.ref a4) fun x36 =>
            gI σ33 101 10 (.ref a0) fun x37 =>
            if (x36 = x37 : Prop) then (gI σ33 102 5 (.ref a4) fun x38 =>
              if (x38 = 0 : Prop) then (gI σ33 102 3 (.ref a4) fun x39 =>
                if sT σ33 a5 = 100 then (onV (rn 2 [.ref a5, .int x39] σ33) (fun σ40 =>
                exec PP 5 19 17 [some (.ref a0), some (.int (x1 + 1)), some (.int x2), some (.int (x3 + 1)), none, none, none] [] σ40) (fun e41 σ40x => some (.inr e41, σ40x))) else none)
              else (exec PP 5 19 160 [some (.ref a0), some (.int (x1 + 1)), some (.int x2), some (.int x3), some (.ref a4), some (.ref a5), none] [] σ33))
            else (exec PP 5 19 160 [some (.ref a0), some (.int (x1 + 1)), some (.int x2), some (.int x3), some (.ref a4), some (.ref a5), none] [] σ33))) (fun e34 σ33x => some (.inr e34, σ33x))) else none) (fun e30 σ29x => some (.inr e30, σ29x))) else none) (fun e25 σ24x => some (.inr e25, σ24x))) else none)
  else (exec PP 5 19 122 [some (.ref a0), some (.int x1), some (.int x2), some (.int x3), some (.ref a4), some (.ref a5), none] [] σ) := (exec_eq PP 5 19 61 _ _ σ).trans rfl
set_option maxRecDepth 20000 in
theorem e_19_122 (a0 : Nat) (x1 : Int32) (x2 : Int32) (x3 : Int32) (a4 : Nat) (a5 : Nat) (o6 : Option Value) (σ : SH) : exec PP 5 19 122 [some (.ref a0), some (.int x1), some (.int x2), some (.int x3), some (.ref a4), some (.ref a5), o6] [] σ =
  gI σ 102 6 (.ref a4) fun x21 =>
  if (x21 = 0 : Prop) then (exec PP 5 19 160 [some (.ref a0), some (.int x1), some (.int x2), some (.int x3), some (.ref a4), some (.ref a5), none] [] σ)
  else (gI σ 102 2 (.ref a4) fun x22 =>
    gI σ 101 10 (.ref a0) fun x23 =>
    if (x22 = x23 : Prop) then (gI σ 102 5 (.ref a4) fun x24 =>
      if (x24 = 0 : Prop) then (gI σ 102 3 (.ref a4) fun x25 =>
        if sT σ a5 = 100 then (onV (rn 2 [.ref a5, .int x25] σ) (fun σ26 =>
        exec PP 5 19 17 [some (.ref a0), some (.int x1), some (.int x2), some (.int (x3 + 1)), none, none, none] [] σ26) (fun e27 σ26x => some (.inr e27, σ26x))) else none)
      else (exec PP 5 19 160 [some (.ref a0), some (.int x1), some (.int x2), some (.int x3), some (.ref a4), some (.ref a5), none] [] σ))
    else (exec PP 5 19 160 [some (.ref a0), some (.int x1), some (.int x2), some (.int x3), some (.ref a4), some (.ref a5), none] [] σ)) := (exec_eq PP 5 19 122 _ _ σ).trans rfl

/-! 20: ArchEnds$County.archFrom(II)I -/
set_option maxRecDepth 20000 in
theorem r_20 (a0 : Nat) (x1 : Int32) (x2 : Int32) (σ : SH) : rn 20 [.ref a0, .int x1, .int x2] σ =
  onI (rn 145 [.int x1, .int x2] σ) (fun x23 σ21 =>
  if (x23 = (-1) : Prop) then (exec PP 4 20 20 [some (.ref a0), some (.int x1), some (.int x2), some (.int x23)] [] σ21)
    else (if sT σ21 a0 = 101 then (onI (rn 11 [.ref a0, .int x23, .int x2] σ21) (fun x26 σ24 =>
      if (x26 = 0 : Prop) then (exec PP 4 20 25 [none, none, none, none] [.int (-1)] σ24)
        else (exec PP 4 20 24 [some (.ref a0), some (.int x1), some (.int x2), some (.int x23)] [] σ24)) (fun e25 σ24x => some (.inr e25, σ24x))) else none)) (fun _ _ => none) := (exec_eq PP 4 20 0 _ _ σ).trans rfl
set_option maxRecDepth 20000 in
theorem e_20_20 (o0 : Option Value) (o1 : Option Value) (o2 : Option Value) (o3 : Option Value) (σ : SH) : exec PP 4 20 20 [o0, o1, o2, o3] [] σ =
  exec PP 4 20 25 [none, none, none, none] [.int (-1)] σ := (exec_eq PP 4 20 20 _ _ σ).trans rfl
set_option maxRecDepth 20000 in
theorem e_20_24 (o0 : Option Value) (o1 : Option Value) (o2 : Option Value) (x3 : Int32) (σ : SH) : exec PP 4 20 24 [o0, o1, o2, some (.int x3)] [] σ =
  some (.inl (some (.int x3)), σ) := (exec_eq PP 4 20 24 _ _ σ).trans rfl
set_option maxRecDepth 20000 in
theorem e_20_25 (o0 : Option Value) (o1 : Option Value) (o2 : Option Value) (o3 : Option Value) (w0 : Int32) (σ : SH) : exec PP 4 20 25 [o0, o1, o2, o3] [.int w0] σ =
  some (.inl (some (.int w0)), σ) := (exec_eq PP 4 20 25 _ _ σ).trans rfl

/-! 21: ArchEnds$Deed.<init>()V -/
set_option maxRecDepth 20000 in
theorem r_21 (a0 : Nat) (σ : SH) : rn 21 [.ref a0] σ =
  if (a0 : Nat) ≠ 39 ∧ 0 ≤ 8 then
  pI σ 102 4 (.ref a0) (-1) fun σ21 =>
  some (.inl none, σ21)
  else none := (exec_eq PP 1 21 0 _ _ σ).trans rfl

/-! 22: ArchEnds$Deed.copyFrom(LArchEnds$Deed;)V -/
set_option maxRecDepth 20000 in
theorem r_22 (a0 : Nat) (a1 : Nat) (σ : SH) : rn 22 [.ref a0, .ref a1] σ =
  gI σ 102 0 (.ref a1) fun x21 =>
  pI σ 102 0 (.ref a0) x21 fun σ22 =>
  gI σ22 102 1 (.ref a1) fun x23 =>
  pI σ22 102 1 (.ref a0) x23 fun σ24 =>
  gI σ24 102 2 (.ref a1) fun x25 =>
  pI σ24 102 2 (.ref a0) x25 fun σ26 =>
  gI σ26 102 3 (.ref a1) fun x27 =>
  pI σ26 102 3 (.ref a0) x27 fun σ28 =>
  gI σ28 102 4 (.ref a1) fun x29 =>
  pI σ28 102 4 (.ref a0) x29 fun σ30 =>
  gI σ30 102 5 (.ref a1) fun x31 =>
  pI σ30 102 5 (.ref a0) x31 fun σ32 =>
  gI σ32 102 6 (.ref a1) fun x33 =>
  pB σ32 102 6 (.ref a0) x33 fun σ34 =>
  some (.inl none, σ34) := (exec_eq PP 1 22 0 _ _ σ).trans rfl

/-! 23: ArchEnds$Deed.has(I)Z -/
set_option maxRecDepth 20000 in
theorem r_23 (a0 : Nat) (x1 : Int32) (σ : SH) : rn 23 [.ref a0, .int x1] σ =
  gI σ 102 1 (.ref a0) fun x21 =>
  if (x1 < x21 : Prop) then (exec PP 1 23 20 [some (.ref a0), some (.int x1)] [] σ)
  else (gI σ 102 2 (.ref a0) fun x22 =>
    if (x22 < x1 : Prop) then (exec PP 1 23 20 [some (.ref a0), some (.int x1)] [] σ)
    else (exec PP 1 23 21 [some (.ref a0), some (.int x1)] [.int 1] σ)) := (exec_eq PP 1 23 0 _ _ σ).trans rfl
set_option maxRecDepth 20000 in
theorem e_23_20 (o0 : Option Value) (o1 : Option Value) (σ : SH) : exec PP 1 23 20 [o0, o1] [] σ =
  some (.inl (some (.int 0)), σ) := (exec_eq PP 1 23 20 _ _ σ).trans rfl
set_option maxRecDepth 20000 in
theorem e_23_21 (o0 : Option Value) (o1 : Option Value) (w0 : Int32) (σ : SH) : exec PP 1 23 21 [o0, o1] [.int w0] σ =
  if w0 = 0 ∨ w0 = 1 then some (.inl (some (.int w0)), σ) else none := (exec_eq PP 1 23 21 _ _ σ).trans rfl
