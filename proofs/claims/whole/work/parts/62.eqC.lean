/-! 56: ArchEnds$Market.<init>(LArchEnds$County;LArchEnds$Forecast;)V -/
set_option maxRecDepth 20000 in
theorem r_56 (a0 : Nat) (a1 : Nat) (a2 : Nat) (σ : SH) : rn 56 [.ref a0, .ref a1, .ref a2] σ =
  if (a0 : Nat) ≠ 39 ∧ 0 ≤ 8 then
  nwA σ 1 8 fun a21 σ22 =>
  pV σ22 106 2 (.ref a0) (.ref a21) fun σ23 =>
  nwA σ23 1 8 fun a24 σ25 =>
  pV σ25 106 3 (.ref a0) (.ref a24) fun σ26 =>
  nwA σ26 1 2 fun a27 σ28 =>
  pV σ28 106 4 (.ref a0) (.ref a27) fun σ29 =>
  nwA σ29 1 4 fun a30 σ31 =>
  pV σ31 106 5 (.ref a0) (.ref a30) fun σ32 =>
  nwA σ32 1 5 fun a33 σ34 =>
  pV σ34 106 6 (.ref a0) (.ref a33) fun σ35 =>
  nwA σ35 1 32 fun a36 σ37 =>
  pV σ37 106 7 (.ref a0) (.ref a36) fun σ38 =>
  pV σ38 106 0 (.ref a0) (.ref a1) fun σ39 =>
  pV σ39 106 1 (.ref a0) (.ref a2) fun σ40 =>
  some (.inl none, σ40)
  else none := (exec_eq PP 1 56 0 _ _ σ).trans rfl

/-! 57: ArchEnds$Market.richest()I -/
set_option maxRecDepth 20000 in
theorem r_57 (a0 : Nat) (σ : SH) : rn 57 [.ref a0] σ =
  exec PP 2 57 6 [some (.ref a0), some (.int (-1)), some (.int (-1)), some (.int 0), none] [] σ := (exec_eq PP 2 57 0 _ _ σ).trans rfl
set_option maxRecDepth 20000 in
theorem e_57_6 (a0 : Nat) (x1 : Int32) (x2 : Int32) (x3 : Int32) (o4 : Option Value) (σ : SH) : exec PP 2 57 6 [some (.ref a0), some (.int x1), some (.int x2), some (.int x3), o4] [] σ =
  gR σ 106 0 (.ref a0) fun a21 =>
  gI σ 101 5 (.ref a21) fun x22 =>
  if (x3 < x22 : Prop) then (gR σ 106 0 (.ref a0) fun a23 =>
    if sT σ a23 = 101 then (onI (rn 5 [.ref a23, .int x3] σ) (fun x26 σ24 =>
    if (x2 < x26 : Prop) then (exec PP 2 57 6 [some (.ref a0), some (.int x3), some (.int x26), some (.int (x3 + 1)), none] [] σ24)
      else (exec PP 2 57 38 [some (.ref a0), some (.int x1), some (.int x2), some (.int x3), some (.int x26)] [] σ24)) (fun e25 σ24x => some (.inr e25, σ24x))) else none)
  else (exec PP 2 57 44 [some (.ref a0), some (.int x1), some (.int x2), some (.int x3), none] [] σ) := (exec_eq PP 2 57 6 _ _ σ).trans rfl
set_option maxRecDepth 20000 in
theorem e_57_44 (o0 : Option Value) (x1 : Int32) (o2 : Option Value) (o3 : Option Value) (o4 : Option Value) (σ : SH) : exec PP 2 57 44 [o0, some (.int x1), o2, o3, o4] [] σ =
  some (.inl (some (.int x1)), σ) := (exec_eq PP 2 57 44 _ _ σ).trans rfl
set_option maxRecDepth 20000 in
theorem e_57_38 (a0 : Nat) (x1 : Int32) (x2 : Int32) (x3 : Int32) (o4 : Option Value) (σ : SH) : exec PP 2 57 38 [some (.ref a0), some (.int x1), some (.int x2), some (.int x3), o4] [] σ =
  exec PP 2 57 6 [some (.ref a0), some (.int x1), some (.int x2), some (.int (x3 + 1)), none] [] σ := (exec_eq PP 2 57 38 _ _ σ).trans rfl

/-! 58: ArchEnds$Market.clashes()I -/
set_option maxRecDepth 20000 in
theorem r_58 (a0 : Nat) (σ : SH) : rn 58 [.ref a0] σ =
  exec PP 2 58 4 [some (.ref a0), some (.int 0), some (.int 0), none] [] σ := (exec_eq PP 2 58 0 _ _ σ).trans rfl
set_option maxRecDepth 20000 in
theorem e_58_4 (a0 : Nat) (x1 : Int32) (x2 : Int32) (o3 : Option Value) (σ : SH) : exec PP 2 58 4 [some (.ref a0), some (.int x1), some (.int x2), o3] [] σ =
  gR σ 106 0 (.ref a0) fun a21 =>
  gI σ 101 6 (.ref a21) fun x22 =>
  if (x2 < x22 : Prop) then (exec PP 2 58 17 [some (.ref a0), some (.int x1), some (.int x2), some (.int 0)] [] σ)
  else (exec PP 2 58 61 [some (.ref a0), some (.int x1), some (.int x2), none] [] σ) := (exec_eq PP 2 58 4 _ _ σ).trans rfl
set_option maxRecDepth 20000 in
theorem e_58_61 (o0 : Option Value) (x1 : Int32) (o2 : Option Value) (o3 : Option Value) (σ : SH) : exec PP 2 58 61 [o0, some (.int x1), o2, o3] [] σ =
  some (.inl (some (.int x1)), σ) := (exec_eq PP 2 58 61 _ _ σ).trans rfl
set_option maxRecDepth 20000 in
theorem e_58_17 (a0 : Nat) (x1 : Int32) (x2 : Int32) (x3 : Int32) (σ : SH) : exec PP 2 58 17 [some (.ref a0), some (.int x1), some (.int x2), some (.int x3)] [] σ =
  if (x3 < x2 : Prop) then (gR σ 106 0 (.ref a0) fun a21 =>
    gR σ 101 2 (.ref a21) fun a22 =>
    aR σ (.ref a22) x2 fun a23 =>
    gR σ 106 0 (.ref a0) fun a24 =>
    gR σ 101 2 (.ref a24) fun a25 =>
    aR σ (.ref a25) x3 fun a26 =>
    onI (rn 59 [.ref a23, .ref a26] σ) (fun x29 σ27 =>
    if (x29 = 0 : Prop) then (exec PP 2 58 49 [some (.ref a0), some (.int x1), some (.int x2), some (.int x3)] [] σ27)
      else (exec PP 2 58 17 [some (.ref a0), some (.int (x1 + 1)), some (.int x2), some (.int (x3 + 1))] [] σ27)) (fun e28 σ27x => some (.inr e28, σ27x)))
  else (exec PP 2 58 55 [some (.ref a0), some (.int x1), some (.int x2), some (.int x3)] [] σ) := (exec_eq PP 2 58 17 _ _ σ).trans rfl
set_option maxRecDepth 20000 in
theorem e_58_55 (a0 : Nat) (x1 : Int32) (x2 : Int32) (o3 : Option Value) (σ : SH) : exec PP 2 58 55 [some (.ref a0), some (.int x1), some (.int x2), o3] [] σ =
  exec PP 2 58 4 [some (.ref a0), some (.int x1), some (.int (x2 + 1)), none] [] σ := (exec_eq PP 2 58 55 _ _ σ).trans rfl
set_option maxRecDepth 20000 in
theorem e_58_49 (a0 : Nat) (x1 : Int32) (x2 : Int32) (x3 : Int32) (σ : SH) : exec PP 2 58 49 [some (.ref a0), some (.int x1), some (.int x2), some (.int x3)] [] σ =
  exec PP 2 58 17 [some (.ref a0), some (.int x1), some (.int x2), some (.int (x3 + 1))] [] σ := (exec_eq PP 2 58 49 _ _ σ).trans rfl

/-! 59: ArchEnds$Market.areOfOneAcreAndMinute(LArchEnds$Deed;LArchEnds$Deed;)Z -/
set_option maxRecDepth 20000 in
theorem r_59 (a0 : Nat) (a1 : Nat) (σ : SH) : rn 59 [.ref a0, .ref a1] σ =
  gI σ 102 0 (.ref a0) fun x21 =>
  gI σ 102 0 (.ref a1) fun x22 =>
  if (x21 = x22 : Prop) then (gI σ 102 1 (.ref a0) fun x23 =>
    gI σ 102 2 (.ref a1) fun x24 =>
    if (x24 < x23 : Prop) then (exec PP 1 59 37 [some (.ref a0), some (.ref a1)] [] σ)
    else (gI σ 102 1 (.ref a1) fun x25 =>
      gI σ 102 2 (.ref a0) fun x26 =>
      if (x26 < x25 : Prop) then (exec PP 1 59 37 [some (.ref a0), some (.ref a1)] [] σ)
      else (exec PP 1 59 38 [some (.ref a0), some (.ref a1)] [.int 1] σ)))
  else (exec PP 1 59 37 [some (.ref a0), some (.ref a1)] [] σ) := (exec_eq PP 1 59 0 _ _ σ).trans rfl
set_option maxRecDepth 20000 in
theorem e_59_37 (o0 : Option Value) (o1 : Option Value) (σ : SH) : exec PP 1 59 37 [o0, o1] [] σ =
  some (.inl (some (.int 0)), σ) := (exec_eq PP 1 59 37 _ _ σ).trans rfl
set_option maxRecDepth 20000 in
theorem e_59_38 (o0 : Option Value) (o1 : Option Value) (w0 : Int32) (σ : SH) : exec PP 1 59 38 [o0, o1] [.int w0] σ =
  if w0 = 0 ∨ w0 = 1 then some (.inl (some (.int w0)), σ) else none := (exec_eq PP 1 59 38 _ _ σ).trans rfl

/-! 60: ArchEnds$Market.gainOf(II)I -/
set_option maxRecDepth 20000 in
theorem r_60 (a0 : Nat) (x1 : Int32) (x2 : Int32) (σ : SH) : rn 60 [.ref a0, .int x1, .int x2] σ =
  gR σ 106 0 (.ref a0) fun a21 =>
  gR σ 101 2 (.ref a21) fun a22 =>
  aR σ (.ref a22) x2 fun a23 =>
  gR σ 106 0 (.ref a0) fun a24 =>
  if sT σ a24 = 101 then (onI (rn 14 [.ref a24, .int x1, .int x2] σ) (fun x27 σ25 =>
  gI σ25 102 1 (.ref a23) fun x28 =>
    gR σ25 106 0 (.ref a0) fun a29 =>
    gI σ25 101 10 (.ref a29) fun x30 =>
    if (x30 < x28 : Prop) then (gI σ25 102 1 (.ref a23) fun x31 =>
      exec PP 5 60 50 [some (.ref a0), some (.int x1), some (.int x2), some (.ref a23), some (.int (-x27)), none, none] [.int x31] σ25)
    else (exec PP 5 60 43 [some (.ref a0), some (.int x1), some (.int x2), some (.ref a23), some (.int (-x27)), none, none] [] σ25)) (fun e26 σ25x => some (.inr e26, σ25x))) else none := (exec_eq PP 5 60 0 _ _ σ).trans rfl
set_option maxRecDepth 20000 in
theorem e_60_43 (a0 : Nat) (x1 : Int32) (x2 : Int32) (a3 : Nat) (x4 : Int32) (o5 : Option Value) (o6 : Option Value) (σ : SH) : exec PP 5 60 43 [some (.ref a0), some (.int x1), some (.int x2), some (.ref a3), some (.int x4), o5, o6] [] σ =
  gR σ 106 0 (.ref a0) fun a21 =>
  gI σ 101 10 (.ref a21) fun x22 =>
  exec PP 5 60 56 [some (.ref a0), some (.int x1), some (.int x2), some (.ref a3), some (.int x4), some (.int x22), some (.int x22)] [] σ := (exec_eq PP 5 60 43 _ _ σ).trans rfl
set_option maxRecDepth 20000 in
theorem e_60_50 (a0 : Nat) (x1 : Int32) (x2 : Int32) (a3 : Nat) (x4 : Int32) (o5 : Option Value) (o6 : Option Value) (w0 : Int32) (σ : SH) : exec PP 5 60 50 [some (.ref a0), some (.int x1), some (.int x2), some (.ref a3), some (.int x4), o5, o6] [.int w0] σ =
  exec PP 5 60 56 [some (.ref a0), some (.int x1), some (.int x2), some (.ref a3), some (.int x4), some (.int w0), some (.int w0)] [] σ := (exec_eq PP 5 60 50 _ _ σ).trans rfl
set_option maxRecDepth 20000 in
theorem e_60_56 (a0 : Nat) (x1 : Int32) (x2 : Int32) (a3 : Nat) (x4 : Int32) (o5 : Option Value) (x6 : Int32) (σ : SH) : exec PP 5 60 56 [some (.ref a0), some (.int x1), some (.int x2), some (.ref a3), some (.int x4), o5, some (.int x6)] [] σ =
  gI σ 102 2 (.ref a3) fun x21 =>
  if (x21 < x6 : Prop) then (exec PP 5 60 110 [some (.ref a0), some (.int x1), some (.int x2), some (.ref a3), some (.int x4), none, some (.int x6)] [] σ)
  else (gR σ 106 0 (.ref a0) fun a22 =>
    gR σ 106 0 (.ref a0) fun a23 =>
    gI σ 101 8 (.ref a23) fun x24 =>
    if sT σ a22 = 101 then (onI (rn 20 [.ref a22, .int x24, .int x6] σ) (fun x27 σ25 =>
    gI σ25 102 0 (.ref a3) fun x28 =>
      if (x27 = x28 : Prop) then (gR σ25 106 0 (.ref a0) fun a29 =>
        if sT σ25 a29 = 101 then (onI (rn 15 [.ref a29, .int x1, .int x2, .int x6] σ25) (fun x32 σ30 =>
        exec PP 5 60 56 [some (.ref a0), some (.int x1), some (.int x2), some (.ref a3), some (.int (x4 + x32)), none, some (.int (x6 + 1))] [] σ30) (fun e31 σ30x => some (.inr e31, σ30x))) else none)
      else (exec PP 5 60 104 [some (.ref a0), some (.int x1), some (.int x2), some (.ref a3), some (.int x4), none, some (.int x6)] [] σ25)) (fun e26 σ25x => some (.inr e26, σ25x))) else none) := (exec_eq PP 5 60 56 _ _ σ).trans rfl
set_option maxRecDepth 20000 in
theorem e_60_110 (o0 : Option Value) (o1 : Option Value) (o2 : Option Value) (o3 : Option Value) (x4 : Int32) (o5 : Option Value) (o6 : Option Value) (σ : SH) : exec PP 5 60 110 [o0, o1, o2, o3, some (.int x4), o5, o6] [] σ =
  some (.inl (some (.int x4)), σ) := (exec_eq PP 5 60 110 _ _ σ).trans rfl
set_option maxRecDepth 20000 in
theorem e_60_104 (a0 : Nat) (x1 : Int32) (x2 : Int32) (a3 : Nat) (x4 : Int32) (o5 : Option Value) (x6 : Int32) (σ : SH) : exec PP 5 60 104 [some (.ref a0), some (.int x1), some (.int x2), some (.ref a3), some (.int x4), o5, some (.int x6)] [] σ =
  exec PP 5 60 56 [some (.ref a0), some (.int x1), some (.int x2), some (.ref a3), some (.int x4), none, some (.int (x6 + 1))] [] σ := (exec_eq PP 5 60 104 _ _ σ).trans rfl

/-! 61: ArchEnds$Market.bestDeals(I)I -/
set_option maxRecDepth 20000 in
theorem r_61 (a0 : Nat) (x1 : Int32) (σ : SH) : rn 61 [.ref a0, .int x1] σ =
  gR σ 106 0 (.ref a0) fun a21 =>
  if sT σ a21 = 101 then (onI (rn 8 [.ref a21] σ) (fun x24 σ22 =>
  exec PP 6 61 10 [some (.ref a0), some (.int x1), some (.int x24), some (.int 0), none, none] [] σ22) (fun e23 σ22x => some (.inr e23, σ22x))) else none := (exec_eq PP 6 61 0 _ _ σ).trans rfl
set_option maxRecDepth 20000 in
theorem e_61_10 (a0 : Nat) (x1 : Int32) (x2 : Int32) (x3 : Int32) (o4 : Option Value) (o5 : Option Value) (σ : SH) : exec PP 6 61 10 [some (.ref a0), some (.int x1), some (.int x2), some (.int x3), o4, o5] [] σ =
  gR σ 106 0 (.ref a0) fun a21 =>
  gI σ 101 6 (.ref a21) fun x22 =>
  if (x3 < x22 : Prop) then (gR σ 106 2 (.ref a0) fun a23 =>
    gR σ 106 0 (.ref a0) fun a24 =>
    if sT σ a24 = 101 then (onI (rn 14 [.ref a24, .int x1, .int x3] σ) (fun x27 σ25 =>
    uI σ25 (.ref a23) x3 x27 fun σ28 =>
      gR σ28 106 3 (.ref a0) fun a29 =>
      onI (rn 128 [.int x2, .int x3] σ28) (fun x32 σ30 =>
      if (x32 = 0 : Prop) then (exec PP 6 61 53 [some (.ref a0), some (.int x1), some (.int x2), some (.int x3), none, none] [.int x3, .ref a29] σ30)
        else (exec PP 6 61 59 [some (.ref a0), some (.int x1), some (.int x2), some (.int x3), none, none] [.int 0, .int x3, .ref a29] σ30)) (fun _ _ => none)) (fun e26 σ25x => some (.inr e26, σ25x))) else none)
  else (exec PP 6 61 66 [some (.ref a0), some (.int x1), some (.int x2), some (.int x3), none, none] [] σ) := (exec_eq PP 6 61 10 _ _ σ).trans rfl
set_option maxRecDepth 20000 in
theorem e_61_66 (a0 : Nat) (x1 : Int32) (x2 : Int32) (o3 : Option Value) (o4 : Option Value) (o5 : Option Value) (σ : SH) : exec PP 6 61 66 [some (.ref a0), some (.int x1), some (.int x2), o3, o4, o5] [] σ =
  exec PP 6 61 74 [some (.ref a0), some (.int x1), some (.int x2), some (.int 0), some (.int 0), some (.int 1)] [] σ := (exec_eq PP 6 61 66 _ _ σ).trans rfl
set_option maxRecDepth 20000 in
theorem e_61_53 (a0 : Nat) (x1 : Int32) (x2 : Int32) (x3 : Int32) (o4 : Option Value) (o5 : Option Value) (w0 : Int32) (b1 : Nat) (σ : SH) : exec PP 6 61 53 [some (.ref a0), some (.int x1), some (.int x2), some (.int x3), o4, o5] [.int w0, .ref b1] σ =
  if sT σ a0 = 106 then (onI (rn 60 [.ref a0, .int x1, .int x3] σ) (fun x23 σ21 =>
  uI σ21 (.ref b1) w0 x23 fun σ24 =>
    exec PP 6 61 10 [some (.ref a0), some (.int x1), some (.int x2), some (.int (x3 + 1)), none, none] [] σ24) (fun e22 σ21x => some (.inr e22, σ21x))) else none := (exec_eq PP 6 61 53 _ _ σ).trans rfl
set_option maxRecDepth 20000 in
theorem e_61_59 (a0 : Nat) (x1 : Int32) (x2 : Int32) (x3 : Int32) (o4 : Option Value) (o5 : Option Value) (w0 : Int32) (w1 : Int32) (b2 : Nat) (σ : SH) : exec PP 6 61 59 [some (.ref a0), some (.int x1), some (.int x2), some (.int x3), o4, o5] [.int w0, .int w1, .ref b2] σ =
  uI σ (.ref b2) w1 w0 fun σ21 =>
  exec PP 6 61 10 [some (.ref a0), some (.int x1), some (.int x2), some (.int (x3 + 1)), none, none] [] σ21 := (exec_eq PP 6 61 59 _ _ σ).trans rfl
set_option maxRecDepth 20000 in
theorem e_61_74 (a0 : Nat) (x1 : Int32) (x2 : Int32) (x3 : Int32) (x4 : Int32) (x5 : Int32) (σ : SH) : exec PP 6 61 74 [some (.ref a0), some (.int x1), some (.int x2), some (.int x3), some (.int x4), some (.int x5)] [] σ =
  gR σ 106 0 (.ref a0) fun a21 =>
  gI σ 101 6 (.ref a21) fun x22 =>
  if (x5 < (shl 1 x22) : Prop) then (if (((x5 &&& x2) : Int32) = 0 : Prop) then (if sT σ a0 = 106 then (onI (rn 62 [.ref a0, .int x5] σ) (fun x25 σ23 =>
      gR σ23 106 0 (.ref a0) fun a26 =>
        gR σ23 101 1 (.ref a26) fun a27 =>
        aR σ23 (.ref a27) x1 fun a28 =>
        gI σ23 100 0 (.ref a28) fun x29 =>
        if (x29 < x25 : Prop) then (exec PP 6 61 138 [some (.ref a0), some (.int x1), some (.int x2), some (.int x3), some (.int x4), some (.int x5)] [] σ23)
        else (if sT σ23 a0 = 106 then (onI (rn 63 [.ref a0, .int x5] σ23) (fun x32 σ30 =>
          if (x4 < x32 : Prop) then (if sT σ30 a0 = 106 then (onI (rn 63 [.ref a0, .int x5] σ30) (fun x35 σ33 =>
              exec PP 6 61 74 [some (.ref a0), some (.int x1), some (.int x2), some (.int x5), some (.int x35), some (.int (x5 + 1))] [] σ33) (fun e34 σ33x => some (.inr e34, σ33x))) else none)
            else (exec PP 6 61 138 [some (.ref a0), some (.int x1), some (.int x2), some (.int x3), some (.int x4), some (.int x5)] [] σ30)) (fun e31 σ30x => some (.inr e31, σ30x))) else none)) (fun e24 σ23x => some (.inr e24, σ23x))) else none)
    else (exec PP 6 61 138 [some (.ref a0), some (.int x1), some (.int x2), some (.int x3), some (.int x4), some (.int x5)] [] σ))
  else (exec PP 6 61 144 [some (.ref a0), some (.int x1), some (.int x2), some (.int x3), some (.int x4), some (.int x5)] [] σ) := (exec_eq PP 6 61 74 _ _ σ).trans rfl
set_option maxRecDepth 20000 in
theorem e_61_144 (o0 : Option Value) (o1 : Option Value) (o2 : Option Value) (x3 : Int32) (o4 : Option Value) (o5 : Option Value) (σ : SH) : exec PP 6 61 144 [o0, o1, o2, some (.int x3), o4, o5] [] σ =
  some (.inl (some (.int x3)), σ) := (exec_eq PP 6 61 144 _ _ σ).trans rfl
set_option maxRecDepth 20000 in
theorem e_61_138 (a0 : Nat) (x1 : Int32) (x2 : Int32) (x3 : Int32) (x4 : Int32) (x5 : Int32) (σ : SH) : exec PP 6 61 138 [some (.ref a0), some (.int x1), some (.int x2), some (.int x3), some (.int x4), some (.int x5)] [] σ =
  exec PP 6 61 74 [some (.ref a0), some (.int x1), some (.int x2), some (.int x3), some (.int x4), some (.int (x5 + 1))] [] σ := (exec_eq PP 6 61 138 _ _ σ).trans rfl

/-! 62: ArchEnds$Market.costsTogether(I)I -/
set_option maxRecDepth 20000 in
theorem r_62 (a0 : Nat) (x1 : Int32) (σ : SH) : rn 62 [.ref a0, .int x1] σ =
  exec PP 2 62 4 [some (.ref a0), some (.int x1), some (.int 0), some (.int 0)] [] σ := (exec_eq PP 2 62 0 _ _ σ).trans rfl
set_option maxRecDepth 20000 in
theorem e_62_4 (a0 : Nat) (x1 : Int32) (x2 : Int32) (x3 : Int32) (σ : SH) : exec PP 2 62 4 [some (.ref a0), some (.int x1), some (.int x2), some (.int x3)] [] σ =
  gR σ 106 0 (.ref a0) fun a21 =>
  gI σ 101 6 (.ref a21) fun x22 =>
  if (x3 < x22 : Prop) then (onI (rn 128 [.int x1, .int x3] σ) (fun x25 σ23 =>
    if (x25 = 0 : Prop) then (exec PP 2 62 32 [some (.ref a0), some (.int x1), some (.int x2), some (.int x3)] [] σ23)
      else (gR σ23 106 2 (.ref a0) fun a26 =>
        aI σ23 1 (.ref a26) x3 fun x27 =>
        exec PP 2 62 4 [some (.ref a0), some (.int x1), some (.int (x2 + x27)), some (.int (x3 + 1))] [] σ23)) (fun _ _ => none))
  else (exec PP 2 62 38 [some (.ref a0), some (.int x1), some (.int x2), some (.int x3)] [] σ) := (exec_eq PP 2 62 4 _ _ σ).trans rfl
set_option maxRecDepth 20000 in
theorem e_62_38 (o0 : Option Value) (o1 : Option Value) (x2 : Int32) (o3 : Option Value) (σ : SH) : exec PP 2 62 38 [o0, o1, some (.int x2), o3] [] σ =
  some (.inl (some (.int x2)), σ) := (exec_eq PP 2 62 38 _ _ σ).trans rfl
set_option maxRecDepth 20000 in
theorem e_62_32 (a0 : Nat) (x1 : Int32) (x2 : Int32) (x3 : Int32) (σ : SH) : exec PP 2 62 32 [some (.ref a0), some (.int x1), some (.int x2), some (.int x3)] [] σ =
  exec PP 2 62 4 [some (.ref a0), some (.int x1), some (.int x2), some (.int (x3 + 1))] [] σ := (exec_eq PP 2 62 32 _ _ σ).trans rfl

/-! 63: ArchEnds$Market.gainsTogether(I)I -/
set_option maxRecDepth 20000 in
theorem r_63 (a0 : Nat) (x1 : Int32) (σ : SH) : rn 63 [.ref a0, .int x1] σ =
  exec PP 2 63 4 [some (.ref a0), some (.int x1), some (.int 0), some (.int 0)] [] σ := (exec_eq PP 2 63 0 _ _ σ).trans rfl
set_option maxRecDepth 20000 in
theorem e_63_4 (a0 : Nat) (x1 : Int32) (x2 : Int32) (x3 : Int32) (σ : SH) : exec PP 2 63 4 [some (.ref a0), some (.int x1), some (.int x2), some (.int x3)] [] σ =
  gR σ 106 0 (.ref a0) fun a21 =>
  gI σ 101 6 (.ref a21) fun x22 =>
  if (x3 < x22 : Prop) then (onI (rn 128 [.int x1, .int x3] σ) (fun x25 σ23 =>
    if (x25 = 0 : Prop) then (exec PP 2 63 32 [some (.ref a0), some (.int x1), some (.int x2), some (.int x3)] [] σ23)
      else (gR σ23 106 3 (.ref a0) fun a26 =>
        aI σ23 1 (.ref a26) x3 fun x27 =>
        exec PP 2 63 4 [some (.ref a0), some (.int x1), some (.int (x2 + x27)), some (.int (x3 + 1))] [] σ23)) (fun _ _ => none))
  else (exec PP 2 63 38 [some (.ref a0), some (.int x1), some (.int x2), some (.int x3)] [] σ) := (exec_eq PP 2 63 4 _ _ σ).trans rfl
set_option maxRecDepth 20000 in
theorem e_63_38 (o0 : Option Value) (o1 : Option Value) (x2 : Int32) (o3 : Option Value) (σ : SH) : exec PP 2 63 38 [o0, o1, some (.int x2), o3] [] σ =
  some (.inl (some (.int x2)), σ) := (exec_eq PP 2 63 38 _ _ σ).trans rfl
set_option maxRecDepth 20000 in
theorem e_63_32 (a0 : Nat) (x1 : Int32) (x2 : Int32) (x3 : Int32) (σ : SH) : exec PP 2 63 32 [some (.ref a0), some (.int x1), some (.int x2), some (.int x3)] [] σ =
  exec PP 2 63 4 [some (.ref a0), some (.int x1), some (.int x2), some (.int (x3 + 1))] [] σ := (exec_eq PP 2 63 32 _ _ σ).trans rfl

/-! 64: ArchEnds$Market.meetingAcre(LArchEnds$Broker;LArchEnds$Broker;)I -/
set_option maxRecDepth 20000 in
theorem r_64 (a0 : Nat) (a1 : Nat) (a2 : Nat) (σ : SH) : rn 64 [.ref a0, .ref a1, .ref a2] σ =
  exec PP 3 64 9 [some (.ref a0), some (.ref a1), some (.ref a2), some (.int 0), some (.int 16), some (.int 0), none, none, none] [] σ := (exec_eq PP 3 64 0 _ _ σ).trans rfl
set_option maxRecDepth 20000 in
theorem e_64_9 (o0 : Option Value) (a1 : Nat) (a2 : Nat) (x3 : Int32) (x4 : Int32) (x5 : Int32) (o6 : Option Value) (o7 : Option Value) (o8 : Option Value) (σ : SH) : exec PP 3 64 9 [o0, some (.ref a1), some (.ref a2), some (.int x3), some (.int x4), some (.int x5), o6, o7, o8] [] σ =
  if (x5 < 16 : Prop) then (if sT σ a1 = 100 then (onI (rn 3 [.ref a1, .int x5] σ) (fun x23 σ21 =>
    if sT σ21 a2 = 100 then (onI (rn 3 [.ref a2, .int x5] σ21) (fun x26 σ24 =>
      if (x26 < x23 : Prop) then (exec PP 3 64 46 [none, some (.ref a1), some (.ref a2), some (.int x3), some (.int x4), some (.int x5), some (.int x23), some (.int x26), none] [.int x23] σ24)
        else (exec PP 3 64 44 [none, some (.ref a1), some (.ref a2), some (.int x3), some (.int x4), some (.int x5), some (.int x23), some (.int x26), none] [] σ24)) (fun e25 σ24x => some (.inr e25, σ24x))) else none) (fun e22 σ21x => some (.inr e22, σ21x))) else none)
  else (exec PP 3 64 68 [none, some (.ref a1), some (.ref a2), some (.int x3), some (.int x4), some (.int x5), none, none, none] [] σ) := (exec_eq PP 3 64 9 _ _ σ).trans rfl
set_option maxRecDepth 20000 in
theorem e_64_68 (o0 : Option Value) (o1 : Option Value) (o2 : Option Value) (x3 : Int32) (o4 : Option Value) (o5 : Option Value) (o6 : Option Value) (o7 : Option Value) (o8 : Option Value) (σ : SH) : exec PP 3 64 68 [o0, o1, o2, some (.int x3), o4, o5, o6, o7, o8] [] σ =
  some (.inl (some (.int x3)), σ) := (exec_eq PP 3 64 68 _ _ σ).trans rfl
set_option maxRecDepth 20000 in
theorem e_64_44 (o0 : Option Value) (a1 : Nat) (a2 : Nat) (x3 : Int32) (x4 : Int32) (x5 : Int32) (o6 : Option Value) (x7 : Int32) (o8 : Option Value) (σ : SH) : exec PP 3 64 44 [o0, some (.ref a1), some (.ref a2), some (.int x3), some (.int x4), some (.int x5), o6, some (.int x7), o8] [] σ =
  if (x7 < x4 : Prop) then (exec PP 3 64 9 [none, some (.ref a1), some (.ref a2), some (.int x5), some (.int x7), some (.int (x5 + 1)), none, none, none] [] σ)
  else (exec PP 3 64 62 [none, some (.ref a1), some (.ref a2), some (.int x3), some (.int x4), some (.int x5), none, none, some (.int x7)] [] σ) := (exec_eq PP 3 64 44 _ _ σ).trans rfl
set_option maxRecDepth 20000 in
theorem e_64_46 (o0 : Option Value) (a1 : Nat) (a2 : Nat) (x3 : Int32) (x4 : Int32) (x5 : Int32) (o6 : Option Value) (o7 : Option Value) (o8 : Option Value) (w0 : Int32) (σ : SH) : exec PP 3 64 46 [o0, some (.ref a1), some (.ref a2), some (.int x3), some (.int x4), some (.int x5), o6, o7, o8] [.int w0] σ =
  if (w0 < x4 : Prop) then (exec PP 3 64 9 [none, some (.ref a1), some (.ref a2), some (.int x5), some (.int w0), some (.int (x5 + 1)), none, none, none] [] σ)
  else (exec PP 3 64 62 [none, some (.ref a1), some (.ref a2), some (.int x3), some (.int x4), some (.int x5), none, none, some (.int w0)] [] σ) := (exec_eq PP 3 64 46 _ _ σ).trans rfl
set_option maxRecDepth 20000 in
theorem e_64_62 (o0 : Option Value) (a1 : Nat) (a2 : Nat) (x3 : Int32) (x4 : Int32) (x5 : Int32) (o6 : Option Value) (o7 : Option Value) (o8 : Option Value) (σ : SH) : exec PP 3 64 62 [o0, some (.ref a1), some (.ref a2), some (.int x3), some (.int x4), some (.int x5), o6, o7, o8] [] σ =
  exec PP 3 64 9 [none, some (.ref a1), some (.ref a2), some (.int x3), some (.int x4), some (.int (x5 + 1)), none, none, none] [] σ := (exec_eq PP 3 64 62 _ _ σ).trans rfl

/-! 65: ArchEnds$Market.takePlaces(LArchEnds$Tape;)Z -/
set_option maxRecDepth 20000 in
theorem r_65 (a0 : Nat) (a1 : Nat) (σ : SH) : rn 65 [.ref a0, .ref a1] σ =
  gI σ 110 1 (.ref a1) fun x21 =>
  gR σ 106 0 (.ref a0) fun a22 =>
  gI σ 101 5 (.ref a22) fun x23 =>
  if (x21 = x23 : Prop) then (exec PP 1 65 16 [some (.ref a0), some (.ref a1), none] [] σ)
  else (some (.inl (some (.int 0)), σ)) := (exec_eq PP 1 65 0 _ _ σ).trans rfl
set_option maxRecDepth 20000 in
theorem e_65_16 (a0 : Nat) (a1 : Nat) (o2 : Option Value) (σ : SH) : exec PP 1 65 16 [some (.ref a0), some (.ref a1), o2] [] σ =
  exec PP 1 65 18 [some (.ref a0), some (.ref a1), some (.int 0)] [] σ := (exec_eq PP 1 65 16 _ _ σ).trans rfl
set_option maxRecDepth 20000 in
theorem e_65_18 (a0 : Nat) (a1 : Nat) (x2 : Int32) (σ : SH) : exec PP 1 65 18 [some (.ref a0), some (.ref a1), some (.int x2)] [] σ =
  gR σ 106 0 (.ref a0) fun a21 =>
  gI σ 101 5 (.ref a21) fun x22 =>
  if (x2 < x22 : Prop) then (gR σ 110 0 (.ref a1) fun a23 =>
    aI σ 1 (.ref a23) x2 fun x24 =>
    if (x24 < 16 : Prop) then (exec PP 1 65 42 [some (.ref a0), some (.ref a1), some (.int x2)] [] σ)
    else (some (.inl (some (.int 0)), σ)))
  else (exec PP 1 65 60 [some (.ref a0), some (.ref a1), some (.int x2)] [] σ) := (exec_eq PP 1 65 18 _ _ σ).trans rfl
set_option maxRecDepth 20000 in
theorem e_65_60 (o0 : Option Value) (o1 : Option Value) (o2 : Option Value) (σ : SH) : exec PP 1 65 60 [o0, o1, o2] [] σ =
  some (.inl (some (.int 1)), σ) := (exec_eq PP 1 65 60 _ _ σ).trans rfl
set_option maxRecDepth 20000 in
theorem e_65_42 (a0 : Nat) (a1 : Nat) (x2 : Int32) (σ : SH) : exec PP 1 65 42 [some (.ref a0), some (.ref a1), some (.int x2)] [] σ =
  gR σ 106 6 (.ref a0) fun a21 =>
  gR σ 110 0 (.ref a1) fun a22 =>
  aI σ 1 (.ref a22) x2 fun x23 =>
  uI σ (.ref a21) x2 x23 fun σ24 =>
  exec PP 1 65 18 [some (.ref a0), some (.ref a1), some (.int (x2 + 1))] [] σ24 := (exec_eq PP 1 65 42 _ _ σ).trans rfl

/-! 66: ArchEnds$Market.planWays()V -/
set_option maxRecDepth 20000 in
theorem r_66 (a0 : Nat) (σ : SH) : rn 66 [.ref a0] σ =
  gR σ 106 0 (.ref a0) fun a21 =>
  gI σ 101 5 (.ref a21) fun x22 =>
  gR σ 106 7 (.ref a0) fun a23 =>
  uI σ (.ref a23) ((shl 1 x22) - 1) 0 fun σ24 =>
  exec PP 4 66 23 [some (.ref a0), some (.int ((shl 1 x22) - 1)), some (.int (((shl 1 x22) - 1) - 1)), none, none, none] [] σ24 := (exec_eq PP 4 66 0 _ _ σ).trans rfl
set_option maxRecDepth 20000 in
theorem e_66_23 (a0 : Nat) (o1 : Option Value) (x2 : Int32) (o3 : Option Value) (o4 : Option Value) (o5 : Option Value) (σ : SH) : exec PP 4 66 23 [some (.ref a0), o1, some (.int x2), o3, o4, o5] [] σ =
  if (x2 < 0 : Prop) then (exec PP 4 66 104 [some (.ref a0), none, some (.int x2), none, none, none] [] σ)
  else (onI (rn 325 [.int x2] σ) (fun x23 σ21 =>
    exec PP 4 66 40 [some (.ref a0), none, some (.int x2), some (.int x23), some (.int 1000), some (.int 0)] [] σ21) (fun e22 σ21x => some (.inr e22, σ21x))) := (exec_eq PP 4 66 23 _ _ σ).trans rfl
set_option maxRecDepth 20000 in
theorem e_66_104 (o0 : Option Value) (o1 : Option Value) (o2 : Option Value) (o3 : Option Value) (o4 : Option Value) (o5 : Option Value) (σ : SH) : exec PP 4 66 104 [o0, o1, o2, o3, o4, o5] [] σ =
  some (.inl none, σ) := (exec_eq PP 4 66 104 _ _ σ).trans rfl
set_option maxRecDepth 20000 in
theorem e_66_40 (a0 : Nat) (o1 : Option Value) (x2 : Int32) (x3 : Int32) (x4 : Int32) (x5 : Int32) (σ : SH) : exec PP 4 66 40 [some (.ref a0), o1, some (.int x2), some (.int x3), some (.int x4), some (.int x5)] [] σ =
  gR σ 106 0 (.ref a0) fun a21 =>
  gI σ 101 5 (.ref a21) fun x22 =>
  if (x5 < x22 : Prop) then (onI (rn 128 [.int x2, .int x5] σ) (fun x25 σ23 =>
    if (x25 = 0 : Prop) then (if sT σ23 a0 = 106 then (onI (rn 67 [.ref a0, .int x2, .int x3, .int x5] σ23) (fun x28 σ26 =>
        if (x28 < x4 : Prop) then (if sT σ26 a0 = 106 then (onI (rn 67 [.ref a0, .int x2, .int x3, .int x5] σ26) (fun x31 σ29 =>
            exec PP 4 66 40 [some (.ref a0), none, some (.int x2), some (.int x3), some (.int x31), some (.int (x5 + 1))] [] σ29) (fun e30 σ29x => some (.inr e30, σ29x))) else none)
          else (exec PP 4 66 84 [some (.ref a0), none, some (.int x2), some (.int x3), some (.int x4), some (.int x5)] [] σ26)) (fun e27 σ26x => some (.inr e27, σ26x))) else none)
      else (exec PP 4 66 84 [some (.ref a0), none, some (.int x2), some (.int x3), some (.int x4), some (.int x5)] [] σ23)) (fun _ _ => none))
  else (exec PP 4 66 90 [some (.ref a0), none, some (.int x2), some (.int x3), some (.int x4), some (.int x5)] [] σ) := (exec_eq PP 4 66 40 _ _ σ).trans rfl
set_option maxRecDepth 20000 in
theorem e_66_90 (a0 : Nat) (o1 : Option Value) (x2 : Int32) (o3 : Option Value) (x4 : Int32) (o5 : Option Value) (σ : SH) : exec PP 4 66 90 [some (.ref a0), o1, some (.int x2), o3, some (.int x4), o5] [] σ =
  gR σ 106 7 (.ref a0) fun a21 =>
  uI σ (.ref a21) x2 x4 fun σ22 =>
  exec PP 4 66 23 [some (.ref a0), none, some (.int (x2 + (-1))), none, some (.int x4), none] [] σ22 := (exec_eq PP 4 66 90 _ _ σ).trans rfl
set_option maxRecDepth 20000 in
theorem e_66_84 (a0 : Nat) (o1 : Option Value) (x2 : Int32) (x3 : Int32) (x4 : Int32) (x5 : Int32) (σ : SH) : exec PP 4 66 84 [some (.ref a0), o1, some (.int x2), some (.int x3), some (.int x4), some (.int x5)] [] σ =
  exec PP 4 66 40 [some (.ref a0), none, some (.int x2), some (.int x3), some (.int x4), some (.int (x5 + 1))] [] σ := (exec_eq PP 4 66 84 _ _ σ).trans rfl

/-! 67: ArchEnds$Market.minutesBy(III)I -/
set_option maxRecDepth 20000 in
theorem r_67 (a0 : Nat) (x1 : Int32) (x2 : Int32) (x3 : Int32) (σ : SH) : rn 67 [.ref a0, .int x1, .int x2, .int x3] σ =
  gR σ 106 0 (.ref a0) fun a21 =>
  gR σ 101 1 (.ref a21) fun a22 =>
  aR σ (.ref a22) x2 fun a23 =>
  gR σ 106 6 (.ref a0) fun a24 =>
  aI σ 1 (.ref a24) x3 fun x25 =>
  if sT σ a23 = 100 then (onI (rn 3 [.ref a23, .int x25] σ) (fun x28 σ26 =>
  gR σ26 106 7 (.ref a0) fun a29 =>
    aI σ26 1 (.ref a29) (x1 ||| (shl 1 x3)) fun x30 =>
    some (.inl (some (.int (x28 + x30))), σ26)) (fun e27 σ26x => some (.inr e27, σ26x))) else none := (exec_eq PP 3 67 0 _ _ σ).trans rfl

/-! 68: ArchEnds$Market.fewestMinutes()I -/
set_option maxRecDepth 20000 in
theorem r_68 (a0 : Nat) (σ : SH) : rn 68 [.ref a0] σ =
  gR σ 106 7 (.ref a0) fun a21 =>
  aI σ 1 (.ref a21) 0 fun x22 =>
  some (.inl (some (.int x22)), σ) := (exec_eq PP 1 68 0 _ _ σ).trans rfl

/-! 69: ArchEnds$Market.placeOf(I)I -/
set_option maxRecDepth 20000 in
theorem r_69 (a0 : Nat) (x1 : Int32) (σ : SH) : rn 69 [.ref a0, .int x1] σ =
  exec PP 5 69 7 [some (.ref a0), some (.int x1), some (.int 0), some (.int (-1)), some (.int 0)] [] σ := (exec_eq PP 5 69 0 _ _ σ).trans rfl
set_option maxRecDepth 20000 in
theorem e_69_7 (a0 : Nat) (x1 : Int32) (x2 : Int32) (x3 : Int32) (x4 : Int32) (σ : SH) : exec PP 5 69 7 [some (.ref a0), some (.int x1), some (.int x2), some (.int x3), some (.int x4)] [] σ =
  if (x1 < x4 : Prop) then (exec PP 5 69 40 [some (.ref a0), some (.int x1), some (.int x2), some (.int x3), some (.int x4)] [] σ)
  else (if sT σ a0 = 106 then (onI (rn 70 [.ref a0, .int x2, .int x4] σ) (fun x23 σ21 =>
    if (x23 = (-1) : Prop) then (some (.inl (some (.int (-1))), σ21))
      else (exec PP 5 69 28 [some (.ref a0), some (.int x1), some (.int x2), some (.int x23), some (.int x4)] [] σ21)) (fun e22 σ21x => some (.inr e22, σ21x))) else none) := (exec_eq PP 5 69 7 _ _ σ).trans rfl
set_option maxRecDepth 20000 in
theorem e_69_40 (o0 : Option Value) (o1 : Option Value) (o2 : Option Value) (x3 : Int32) (o4 : Option Value) (σ : SH) : exec PP 5 69 40 [o0, o1, o2, some (.int x3), o4] [] σ =
  some (.inl (some (.int x3)), σ) := (exec_eq PP 5 69 40 _ _ σ).trans rfl
set_option maxRecDepth 20000 in
theorem e_69_28 (a0 : Nat) (x1 : Int32) (x2 : Int32) (x3 : Int32) (x4 : Int32) (σ : SH) : exec PP 5 69 28 [some (.ref a0), some (.int x1), some (.int x2), some (.int x3), some (.int x4)] [] σ =
  exec PP 5 69 7 [some (.ref a0), some (.int x1), some (.int (x2 ||| (shl 1 x3))), some (.int x3), some (.int (x4 + 1))] [] σ := (exec_eq PP 5 69 28 _ _ σ).trans rfl

/-! 70: ArchEnds$Market.firstPlace(II)I -/
set_option maxRecDepth 20000 in
theorem r_70 (a0 : Nat) (x1 : Int32) (x2 : Int32) (σ : SH) : rn 70 [.ref a0, .int x1, .int x2] σ =
  exec PP 4 70 2 [some (.ref a0), some (.int x1), some (.int x2), some (.int 0)] [] σ := (exec_eq PP 4 70 0 _ _ σ).trans rfl
set_option maxRecDepth 20000 in
theorem e_70_2 (a0 : Nat) (x1 : Int32) (x2 : Int32) (x3 : Int32) (σ : SH) : exec PP 4 70 2 [some (.ref a0), some (.int x1), some (.int x2), some (.int x3)] [] σ =
  gR σ 106 0 (.ref a0) fun a21 =>
  gI σ 101 5 (.ref a21) fun x22 =>
  if (x3 < x22 : Prop) then (onI (rn 128 [.int x1, .int x3] σ) (fun x25 σ23 =>
    if (x25 = 0 : Prop) then (if sT σ23 a0 = 106 then (onI (rn 67 [.ref a0, .int x1, .int x2, .int x3] σ23) (fun x28 σ26 =>
        gR σ26 106 7 (.ref a0) fun a29 =>
          aI σ26 1 (.ref a29) x1 fun x30 =>
          if (x28 = x30 : Prop) then (some (.inl (some (.int x3)), σ26))
          else (exec PP 4 70 39 [some (.ref a0), some (.int x1), some (.int x2), some (.int x3)] [] σ26)) (fun e27 σ26x => some (.inr e27, σ26x))) else none)
      else (exec PP 4 70 39 [some (.ref a0), some (.int x1), some (.int x2), some (.int x3)] [] σ23)) (fun _ _ => none))
  else (exec PP 4 70 45 [some (.ref a0), some (.int x1), some (.int x2), some (.int x3)] [] σ) := (exec_eq PP 4 70 2 _ _ σ).trans rfl
set_option maxRecDepth 20000 in
theorem e_70_45 (o0 : Option Value) (o1 : Option Value) (o2 : Option Value) (o3 : Option Value) (σ : SH) : exec PP 4 70 45 [o0, o1, o2, o3] [] σ =
  some (.inl (some (.int (-1))), σ) := (exec_eq PP 4 70 45 _ _ σ).trans rfl
set_option maxRecDepth 20000 in
theorem e_70_39 (a0 : Nat) (x1 : Int32) (x2 : Int32) (x3 : Int32) (σ : SH) : exec PP 4 70 39 [some (.ref a0), some (.int x1), some (.int x2), some (.int x3)] [] σ =
  exec PP 4 70 2 [some (.ref a0), some (.int x1), some (.int x2), some (.int (x3 + 1))] [] σ := (exec_eq PP 4 70 39 _ _ σ).trans rfl

/-! 71: ArchEnds$Market.firstBrokerOn(I)I -/
set_option maxRecDepth 20000 in
theorem r_71 (a0 : Nat) (x1 : Int32) (σ : SH) : rn 71 [.ref a0, .int x1] σ =
  exec PP 3 71 8 [some (.ref a0), some (.int x1), some (.int (-1)), some (.int 16), some (.int 0), none] [] σ := (exec_eq PP 3 71 0 _ _ σ).trans rfl
set_option maxRecDepth 20000 in
theorem e_71_8 (a0 : Nat) (x1 : Int32) (x2 : Int32) (x3 : Int32) (x4 : Int32) (o5 : Option Value) (σ : SH) : exec PP 3 71 8 [some (.ref a0), some (.int x1), some (.int x2), some (.int x3), some (.int x4), o5] [] σ =
  gR σ 106 0 (.ref a0) fun a21 =>
  gI σ 101 5 (.ref a21) fun x22 =>
  if (x4 < x22 : Prop) then (gR σ 106 0 (.ref a0) fun a23 =>
    gR σ 101 1 (.ref a23) fun a24 =>
    aR σ (.ref a24) x4 fun a25 =>
    if sT σ a25 = 100 then (onI (rn 3 [.ref a25, .int x1] σ) (fun x28 σ26 =>
    if (x28 < x3 : Prop) then (exec PP 3 71 8 [some (.ref a0), some (.int x1), some (.int x4), some (.int x28), some (.int (x4 + 1)), none] [] σ26)
      else (exec PP 3 71 48 [some (.ref a0), some (.int x1), some (.int x2), some (.int x3), some (.int x4), some (.int x28)] [] σ26)) (fun e27 σ26x => some (.inr e27, σ26x))) else none)
  else (exec PP 3 71 54 [some (.ref a0), some (.int x1), some (.int x2), some (.int x3), some (.int x4), none] [] σ) := (exec_eq PP 3 71 8 _ _ σ).trans rfl
set_option maxRecDepth 20000 in
theorem e_71_54 (o0 : Option Value) (o1 : Option Value) (x2 : Int32) (o3 : Option Value) (o4 : Option Value) (o5 : Option Value) (σ : SH) : exec PP 3 71 54 [o0, o1, some (.int x2), o3, o4, o5] [] σ =
  some (.inl (some (.int x2)), σ) := (exec_eq PP 3 71 54 _ _ σ).trans rfl
set_option maxRecDepth 20000 in
theorem e_71_48 (a0 : Nat) (x1 : Int32) (x2 : Int32) (x3 : Int32) (x4 : Int32) (o5 : Option Value) (σ : SH) : exec PP 3 71 48 [some (.ref a0), some (.int x1), some (.int x2), some (.int x3), some (.int x4), o5] [] σ =
  exec PP 3 71 8 [some (.ref a0), some (.int x1), some (.int x2), some (.int x3), some (.int (x4 + 1)), none] [] σ := (exec_eq PP 3 71 48 _ _ σ).trans rfl

/-! 72: ArchEnds$Market.restingChoices(IIII)I -/
set_option maxRecDepth 20000 in
theorem r_72 (a0 : Nat) (x1 : Int32) (x2 : Int32) (x3 : Int32) (x4 : Int32) (σ : SH) : rn 72 [.ref a0, .int x1, .int x2, .int x3, .int x4] σ =
  gR σ 106 4 (.ref a0) fun a21 =>
  gR σ 106 1 (.ref a0) fun a22 =>
  gR σ 106 0 (.ref a0) fun a23 =>
  gR σ 101 2 (.ref a23) fun a24 =>
  aR σ (.ref a24) x3 fun a25 =>
  if sT σ a22 = 103 then (onI (rn 35 [.ref a22, .ref a25] σ) (fun x28 σ26 =>
  uI σ26 (.ref a21) 0 x28 fun σ29 =>
    gR σ29 106 4 (.ref a0) fun a30 =>
    gR σ29 106 1 (.ref a0) fun a31 =>
    gR σ29 106 0 (.ref a0) fun a32 =>
    gR σ29 101 2 (.ref a32) fun a33 =>
    aR σ29 (.ref a33) x4 fun a34 =>
    if sT σ29 a31 = 103 then (onI (rn 35 [.ref a31, .ref a34] σ29) (fun x37 σ35 =>
    uI σ35 (.ref a30) 1 x37 fun σ38 =>
      gR σ38 106 5 (.ref a0) fun a39 =>
      gR σ38 106 0 (.ref a0) fun a40 =>
      if sT σ38 a40 = 101 then (onI (rn 14 [.ref a40, .int x1, .int x3] σ38) (fun x43 σ41 =>
      uI σ41 (.ref a39) 0 x43 fun σ44 =>
        gR σ44 106 5 (.ref a0) fun a45 =>
        gR σ44 106 0 (.ref a0) fun a46 =>
        if sT σ44 a46 = 101 then (onI (rn 14 [.ref a46, .int x1, .int x4] σ44) (fun x49 σ47 =>
        uI σ47 (.ref a45) 1 x49 fun σ50 =>
          gR σ50 106 5 (.ref a0) fun a51 =>
          gR σ50 106 0 (.ref a0) fun a52 =>
          if sT σ50 a52 = 101 then (onI (rn 14 [.ref a52, .int x2, .int x3] σ50) (fun x55 σ53 =>
          uI σ53 (.ref a51) 2 x55 fun σ56 =>
            gR σ56 106 5 (.ref a0) fun a57 =>
            gR σ56 106 0 (.ref a0) fun a58 =>
            if sT σ56 a58 = 101 then (onI (rn 14 [.ref a58, .int x2, .int x4] σ56) (fun x61 σ59 =>
            uI σ59 (.ref a57) 3 x61 fun σ62 =>
              exec PP 5 72 113 [some (.ref a0), some (.int x1), some (.int x2), some (.int x3), some (.int x4), some (.int 0), some (.int 0), none, none] [] σ62) (fun e60 σ59x => some (.inr e60, σ59x))) else none) (fun e54 σ53x => some (.inr e54, σ53x))) else none) (fun e48 σ47x => some (.inr e48, σ47x))) else none) (fun e42 σ41x => some (.inr e42, σ41x))) else none) (fun e36 σ35x => some (.inr e36, σ35x))) else none) (fun e27 σ26x => some (.inr e27, σ26x))) else none := (exec_eq PP 5 72 0 _ _ σ).trans rfl
set_option maxRecDepth 20000 in
theorem e_72_113 (a0 : Nat) (o1 : Option Value) (o2 : Option Value) (o3 : Option Value) (o4 : Option Value) (x5 : Int32) (x6 : Int32) (o7 : Option Value) (o8 : Option Value) (σ : SH) : exec PP 5 72 113 [some (.ref a0), o1, o2, o3, o4, some (.int x5), some (.int x6), o7, o8] [] σ =
  if (x6 < 4 : Prop) then (if sT σ a0 = 106 then (onI (rn 73 [.ref a0, .int 0, .int (x6 / 2), .int (irm x6 2)] σ) (fun x23 σ21 =>
    if (x23 = 0 : Prop) then (exec PP 5 72 164 [some (.ref a0), none, none, none, none, some (.int x5), some (.int x6), some (.int (x6 / 2)), some (.int (irm x6 2))] [] σ21)
      else (if sT σ21 a0 = 106 then (onI (rn 73 [.ref a0, .int 1, .int (irm x6 2), .int (x6 / 2)] σ21) (fun x26 σ24 =>
        if (x26 = 0 : Prop) then (exec PP 5 72 164 [some (.ref a0), none, none, none, none, some (.int x5), some (.int x6), some (.int (x6 / 2)), some (.int (irm x6 2))] [] σ24)
          else (exec PP 5 72 113 [some (.ref a0), none, none, none, none, some (.int (x5 ||| (shl 1 x6))), some (.int (x6 + 1)), none, none] [] σ24)) (fun e25 σ24x => some (.inr e25, σ24x))) else none)) (fun e22 σ21x => some (.inr e22, σ21x))) else none)
  else (exec PP 5 72 170 [some (.ref a0), none, none, none, none, some (.int x5), some (.int x6), none, none] [] σ) := (exec_eq PP 5 72 113 _ _ σ).trans rfl
set_option maxRecDepth 20000 in
theorem e_72_170 (o0 : Option Value) (o1 : Option Value) (o2 : Option Value) (o3 : Option Value) (o4 : Option Value) (x5 : Int32) (o6 : Option Value) (o7 : Option Value) (o8 : Option Value) (σ : SH) : exec PP 5 72 170 [o0, o1, o2, o3, o4, some (.int x5), o6, o7, o8] [] σ =
  some (.inl (some (.int x5)), σ) := (exec_eq PP 5 72 170 _ _ σ).trans rfl
set_option maxRecDepth 20000 in
theorem e_72_164 (a0 : Nat) (o1 : Option Value) (o2 : Option Value) (o3 : Option Value) (o4 : Option Value) (x5 : Int32) (x6 : Int32) (o7 : Option Value) (o8 : Option Value) (σ : SH) : exec PP 5 72 164 [some (.ref a0), o1, o2, o3, o4, some (.int x5), some (.int x6), o7, o8] [] σ =
  exec PP 5 72 113 [some (.ref a0), none, none, none, none, some (.int x5), some (.int (x6 + 1)), none, none] [] σ := (exec_eq PP 5 72 164 _ _ σ).trans rfl

/-! 73: ArchEnds$Market.isContent(III)Z -/
set_option maxRecDepth 20000 in
theorem r_73 (a0 : Nat) (x1 : Int32) (x2 : Int32) (x3 : Int32) (σ : SH) : rn 73 [.ref a0, .int x1, .int x2, .int x3] σ =
  if sT σ a0 = 106 then (onI (rn 74 [.ref a0, .int x1, .int x2, .int x3] σ) (fun x23 σ21 =>
  if sT σ21 a0 = 106 then (onI (rn 74 [.ref a0, .int x1, .int (1 - x2), .int x3] σ21) (fun x26 σ24 =>
    if (x23 < x26 : Prop) then (exec PP 2 73 23 [some (.ref a0), some (.int x1), some (.int x2), some (.int x3)] [] σ24)
      else (exec PP 2 73 24 [some (.ref a0), some (.int x1), some (.int x2), some (.int x3)] [.int 1] σ24)) (fun e25 σ24x => some (.inr e25, σ24x))) else none) (fun e22 σ21x => some (.inr e22, σ21x))) else none := (exec_eq PP 2 73 0 _ _ σ).trans rfl
set_option maxRecDepth 20000 in
theorem e_73_23 (o0 : Option Value) (o1 : Option Value) (o2 : Option Value) (o3 : Option Value) (σ : SH) : exec PP 2 73 23 [o0, o1, o2, o3] [] σ =
  some (.inl (some (.int 0)), σ) := (exec_eq PP 2 73 23 _ _ σ).trans rfl
set_option maxRecDepth 20000 in
theorem e_73_24 (o0 : Option Value) (o1 : Option Value) (o2 : Option Value) (o3 : Option Value) (w0 : Int32) (σ : SH) : exec PP 2 73 24 [o0, o1, o2, o3] [.int w0] σ =
  if w0 = 0 ∨ w0 = 1 then some (.inl (some (.int w0)), σ) else none := (exec_eq PP 2 73 24 _ _ σ).trans rfl

/-! 74: ArchEnds$Market.shareOf(III)I -/
set_option maxRecDepth 20000 in
theorem r_74 (a0 : Nat) (x1 : Int32) (x2 : Int32) (x3 : Int32) (σ : SH) : rn 74 [.ref a0, .int x1, .int x2, .int x3] σ =
  if (x2 = x3 : Prop) then (gR σ 106 4 (.ref a0) fun a21 =>
    aI σ 1 (.ref a21) x2 fun x22 =>
    exec PP 1 74 22 [some (.ref a0), some (.int x1), some (.int x2), some (.int x3), none] [.int (x22 / 2)] σ)
  else (exec PP 1 74 16 [some (.ref a0), some (.int x1), some (.int x2), some (.int x3), none] [] σ) := (exec_eq PP 1 74 0 _ _ σ).trans rfl
set_option maxRecDepth 20000 in
theorem e_74_16 (a0 : Nat) (x1 : Int32) (x2 : Int32) (o3 : Option Value) (o4 : Option Value) (σ : SH) : exec PP 1 74 16 [some (.ref a0), some (.int x1), some (.int x2), o3, o4] [] σ =
  gR σ 106 4 (.ref a0) fun a21 =>
  aI σ 1 (.ref a21) x2 fun x22 =>
  gR σ 106 5 (.ref a0) fun a23 =>
  aI σ 1 (.ref a23) ((2 * x1) + x2) fun x24 =>
  some (.inl (some (.int (x22 - x24))), σ) := (exec_eq PP 1 74 16 _ _ σ).trans rfl
set_option maxRecDepth 20000 in
theorem e_74_22 (a0 : Nat) (x1 : Int32) (x2 : Int32) (o3 : Option Value) (o4 : Option Value) (w0 : Int32) (σ : SH) : exec PP 1 74 22 [some (.ref a0), some (.int x1), some (.int x2), o3, o4] [.int w0] σ =
  gR σ 106 5 (.ref a0) fun a21 =>
  aI σ 1 (.ref a21) ((2 * x1) + x2) fun x22 =>
  some (.inl (some (.int (w0 - x22))), σ) := (exec_eq PP 1 74 22 _ _ σ).trans rfl

/-! 75: ArchEnds$Reader.<init>(LArchEnds$Tape;)V -/
set_option maxRecDepth 20000 in
theorem r_75 (a0 : Nat) (a1 : Nat) (σ : SH) : rn 75 [.ref a0, .ref a1] σ =
  if (a0 : Nat) ≠ 39 ∧ 0 ≤ 8 then
  nwA σ 19 12 fun a21 σ22 =>
  pV σ22 107 1 (.ref a0) (.ref a21) fun σ23 =>
  nwA σ23 1 12 fun a24 σ25 =>
  pV σ25 107 2 (.ref a0) (.ref a24) fun σ26 =>
  nwA σ26 1 12 fun a27 σ28 =>
  pV σ28 107 3 (.ref a0) (.ref a27) fun σ29 =>
  nwA σ29 1 400 fun a30 σ31 =>
  pV σ31 107 4 (.ref a0) (.ref a30) fun σ32 =>
  pV σ32 107 0 (.ref a0) (.ref a1) fun σ33 =>
  some (.inl none, σ33)
  else none := (exec_eq PP 1 75 0 _ _ σ).trans rfl

/-! 76: ArchEnds$Reader.readCounty(LArchEnds$County;)Z -/
set_option maxRecDepth 20000 in
theorem r_76 (a0 : Nat) (a1 : Nat) (σ : SH) : rn 76 [.ref a0, .ref a1] σ =
  gR σ 107 0 (.ref a0) fun a21 =>
  if sT σ a21 = 110 then (onR (rn 102 [.ref a21] σ) (fun a24 σ22 =>
  if (a24 : Nat) < 38 ∧ (37 : Nat) < 38 then (if (a24 : Nat) = 37 then (some (.inl (some (.int 1)), σ22))
    else (exec PP 5 76 15 [some (.ref a0), some (.ref a1), none] [] σ22)) else none) (fun e23 σ22x => some (.inr e23, σ22x))) else none := (exec_eq PP 5 76 0 _ _ σ).trans rfl
set_option maxRecDepth 20000 in
theorem e_76_15 (a0 : Nat) (a1 : Nat) (o2 : Option Value) (σ : SH) : exec PP 5 76 15 [some (.ref a0), some (.ref a1), o2] [] σ =
  exec PP 5 76 17 [some (.ref a0), some (.ref a1), some (.int 0)] [] σ := (exec_eq PP 5 76 15 _ _ σ).trans rfl
set_option maxRecDepth 20000 in
theorem e_76_17 (a0 : Nat) (a1 : Nat) (x2 : Int32) (σ : SH) : exec PP 5 76 17 [some (.ref a0), some (.ref a1), some (.int x2)] [] σ =
  if (x2 < 14 : Prop) then (if sT σ a0 = 107 then (onI (rn 77 [.ref a0, .ref a1] σ) (fun x23 σ21 =>
    if (x23 = 0 : Prop) then (some (.inl (some (.int 0)), σ21))
      else (exec PP 5 76 33 [some (.ref a0), some (.ref a1), some (.int x2)] [] σ21)) (fun e22 σ21x => some (.inr e22, σ21x))) else none)
  else (exec PP 5 76 69 [some (.ref a0), some (.ref a1), some (.int x2)] [] σ) := (exec_eq PP 5 76 17 _ _ σ).trans rfl
set_option maxRecDepth 20000 in
theorem e_76_69 (o0 : Option Value) (o1 : Option Value) (o2 : Option Value) (σ : SH) : exec PP 5 76 69 [o0, o1, o2] [] σ =
  some (.inl (some (.int 0)), σ) := (exec_eq PP 5 76 69 _ _ σ).trans rfl
set_option maxRecDepth 20000 in
theorem e_76_33 (a0 : Nat) (a1 : Nat) (x2 : Int32) (σ : SH) : exec PP 5 76 33 [some (.ref a0), some (.ref a1), some (.int x2)] [] σ =
  gR σ 107 0 (.ref a0) fun a21 =>
  if sT σ a21 = 110 then (onR (rn 102 [.ref a21] σ) (fun a24 σ22 =>
  if (a24 : Nat) < 38 ∧ (37 : Nat) < 38 then (if (a24 : Nat) = 37 then (some (.inl (some (.int 1)), σ22))
    else (exec PP 5 76 48 [some (.ref a0), some (.ref a1), some (.int x2)] [] σ22)) else none) (fun e23 σ22x => some (.inr e23, σ22x))) else none := (exec_eq PP 5 76 33 _ _ σ).trans rfl
set_option maxRecDepth 20000 in
theorem e_76_48 (a0 : Nat) (a1 : Nat) (x2 : Int32) (σ : SH) : exec PP 5 76 48 [some (.ref a0), some (.ref a1), some (.int x2)] [] σ =
  gR σ 107 0 (.ref a0) fun a21 =>
  if sT σ a21 = 110 then (onI (rn 103 [.ref a21, .ref 34] σ) (fun x24 σ22 =>
  if (x24 = 0 : Prop) then (some (.inl (some (.int 0)), σ22))
    else (exec PP 5 76 63 [some (.ref a0), some (.ref a1), some (.int x2)] [] σ22)) (fun e23 σ22x => some (.inr e23, σ22x))) else none := (exec_eq PP 5 76 48 _ _ σ).trans rfl
set_option maxRecDepth 20000 in
theorem e_76_63 (a0 : Nat) (a1 : Nat) (x2 : Int32) (σ : SH) : exec PP 5 76 63 [some (.ref a0), some (.ref a1), some (.int x2)] [] σ =
  exec PP 5 76 17 [some (.ref a0), some (.ref a1), some (.int (x2 + 1))] [] σ := (exec_eq PP 5 76 63 _ _ σ).trans rfl

/-! 77: ArchEnds$Reader.readCountyLine(LArchEnds$County;)Z -/
set_option maxRecDepth 20000 in
theorem r_77 (a0 : Nat) (a1 : Nat) (σ : SH) : rn 77 [.ref a0, .ref a1] σ =
  gR σ 107 0 (.ref a0) fun a21 =>
  if sT σ a21 = 110 then (onR (rn 102 [.ref a21] σ) (fun a24 σ22 =>
  if (a24 : Nat) < 38 ∧ (0 : Nat) < 38 then (if (a24 : Nat) = 0 then (gI σ22 101 4 (.ref a1) fun x25 =>
      if (x25 < 6 : Prop) then (if sT σ22 a0 = 107 then (onI (rn 78 [.ref a0, .ref a1] σ22) (fun x28 σ26 =>
        if (x28 = 0 : Prop) then (exec PP 4 77 36 [some (.ref a0), some (.ref a1), some (.ref a24)] [] σ26)
          else (exec PP 4 77 37 [some (.ref a0), some (.ref a1), some (.ref a24)] [.int 1] σ26)) (fun e27 σ26x => some (.inr e27, σ26x))) else none)
      else (exec PP 4 77 36 [some (.ref a0), some (.ref a1), some (.ref a24)] [] σ22))
    else (exec PP 4 77 38 [some (.ref a0), some (.ref a1), some (.ref a24)] [] σ22)) else none) (fun e23 σ22x => some (.inr e23, σ22x))) else none := (exec_eq PP 4 77 0 _ _ σ).trans rfl
set_option maxRecDepth 20000 in
theorem e_77_38 (a0 : Nat) (a1 : Nat) (a2 : Nat) (σ : SH) : exec PP 4 77 38 [some (.ref a0), some (.ref a1), some (.ref a2)] [] σ =
  if (a2 : Nat) < 38 ∧ (1 : Nat) < 38 then (if (a2 : Nat) = 1 then (gI σ 101 5 (.ref a1) fun x21 =>
    if (x21 < 5 : Prop) then (if sT σ a0 = 107 then (onI (rn 81 [.ref a0, .ref a1] σ) (fun x24 σ22 =>
      if (x24 = 0 : Prop) then (exec PP 4 77 65 [some (.ref a0), some (.ref a1), some (.ref a2)] [] σ22)
        else (exec PP 4 77 66 [some (.ref a0), some (.ref a1), some (.ref a2)] [.int 1] σ22)) (fun e23 σ22x => some (.inr e23, σ22x))) else none)
    else (exec PP 4 77 65 [some (.ref a0), some (.ref a1), some (.ref a2)] [] σ))
  else (exec PP 4 77 67 [some (.ref a0), some (.ref a1), some (.ref a2)] [] σ)) else none := (exec_eq PP 4 77 38 _ _ σ).trans rfl
set_option maxRecDepth 20000 in
theorem e_77_36 (o0 : Option Value) (o1 : Option Value) (o2 : Option Value) (σ : SH) : exec PP 4 77 36 [o0, o1, o2] [] σ =
  some (.inl (some (.int 0)), σ) := (exec_eq PP 4 77 36 _ _ σ).trans rfl
set_option maxRecDepth 20000 in
theorem e_77_37 (o0 : Option Value) (o1 : Option Value) (o2 : Option Value) (w0 : Int32) (σ : SH) : exec PP 4 77 37 [o0, o1, o2] [.int w0] σ =
  if w0 = 0 ∨ w0 = 1 then some (.inl (some (.int w0)), σ) else none := (exec_eq PP 4 77 37 _ _ σ).trans rfl
set_option maxRecDepth 20000 in
theorem e_77_67 (a0 : Nat) (a1 : Nat) (a2 : Nat) (σ : SH) : exec PP 4 77 67 [some (.ref a0), some (.ref a1), some (.ref a2)] [] σ =
  if (a2 : Nat) < 38 ∧ (2 : Nat) < 38 then (if (a2 : Nat) = 2 then (gI σ 101 6 (.ref a1) fun x21 =>
    if (x21 < 8 : Prop) then (if sT σ a0 = 107 then (onI (rn 82 [.ref a0, .ref a1] σ) (fun x24 σ22 =>
      if (x24 = 0 : Prop) then (exec PP 4 77 95 [some (.ref a0), some (.ref a1), some (.ref a2)] [] σ22)
        else (exec PP 4 77 96 [some (.ref a0), some (.ref a1), some (.ref a2)] [.int 1] σ22)) (fun e23 σ22x => some (.inr e23, σ22x))) else none)
    else (exec PP 4 77 95 [some (.ref a0), some (.ref a1), some (.ref a2)] [] σ))
  else (exec PP 4 77 97 [some (.ref a0), some (.ref a1), some (.ref a2)] [] σ)) else none := (exec_eq PP 4 77 67 _ _ σ).trans rfl
set_option maxRecDepth 20000 in
theorem e_77_65 (o0 : Option Value) (o1 : Option Value) (o2 : Option Value) (σ : SH) : exec PP 4 77 65 [o0, o1, o2] [] σ =
  some (.inl (some (.int 0)), σ) := (exec_eq PP 4 77 65 _ _ σ).trans rfl
set_option maxRecDepth 20000 in
theorem e_77_66 (o0 : Option Value) (o1 : Option Value) (o2 : Option Value) (w0 : Int32) (σ : SH) : exec PP 4 77 66 [o0, o1, o2] [.int w0] σ =
  if w0 = 0 ∨ w0 = 1 then some (.inl (some (.int w0)), σ) else none := (exec_eq PP 4 77 66 _ _ σ).trans rfl
set_option maxRecDepth 20000 in
theorem e_77_97 (a0 : Nat) (a1 : Nat) (o2 : Option Value) (σ : SH) : exec PP 4 77 97 [some (.ref a0), some (.ref a1), o2] [] σ =
  gR σ 107 0 (.ref a0) fun a21 =>
  if sT σ a21 = 110 then (onI (rn 103 [.ref a21, .ref 3] σ) (fun x24 σ22 =>
  if (x24 = 0 : Prop) then (exec PP 4 77 116 [some (.ref a0), some (.ref a1), none] [] σ22)
    else (if sT σ22 a0 = 107 then (onI (rn 83 [.ref a0, .ref a1] σ22) (fun x27 σ25 =>
      if x27 = 0 ∨ x27 = 1 then some (.inl (some (.int x27)), σ25) else none) (fun e26 σ25x => some (.inr e26, σ25x))) else none)) (fun e23 σ22x => some (.inr e23, σ22x))) else none := (exec_eq PP 4 77 97 _ _ σ).trans rfl
set_option maxRecDepth 20000 in
theorem e_77_95 (o0 : Option Value) (o1 : Option Value) (o2 : Option Value) (σ : SH) : exec PP 4 77 95 [o0, o1, o2] [] σ =
  some (.inl (some (.int 0)), σ) := (exec_eq PP 4 77 95 _ _ σ).trans rfl
set_option maxRecDepth 20000 in
theorem e_77_96 (o0 : Option Value) (o1 : Option Value) (o2 : Option Value) (w0 : Int32) (σ : SH) : exec PP 4 77 96 [o0, o1, o2] [.int w0] σ =
  if w0 = 0 ∨ w0 = 1 then some (.inl (some (.int w0)), σ) else none := (exec_eq PP 4 77 96 _ _ σ).trans rfl
set_option maxRecDepth 20000 in
theorem e_77_116 (a0 : Nat) (a1 : Nat) (o2 : Option Value) (σ : SH) : exec PP 4 77 116 [some (.ref a0), some (.ref a1), o2] [] σ =
  gR σ 107 0 (.ref a0) fun a21 =>
  if sT σ a21 = 110 then (onI (rn 103 [.ref a21, .ref 4] σ) (fun x24 σ22 =>
  if (x24 = 0 : Prop) then (exec PP 4 77 135 [some (.ref a0), some (.ref a1), none] [] σ22)
    else (if sT σ22 a0 = 107 then (onI (rn 84 [.ref a0, .ref a1] σ22) (fun x27 σ25 =>
      if x27 = 0 ∨ x27 = 1 then some (.inl (some (.int x27)), σ25) else none) (fun e26 σ25x => some (.inr e26, σ25x))) else none)) (fun e23 σ22x => some (.inr e23, σ22x))) else none := (exec_eq PP 4 77 116 _ _ σ).trans rfl
set_option maxRecDepth 20000 in
theorem e_77_135 (a0 : Nat) (a1 : Nat) (o2 : Option Value) (σ : SH) : exec PP 4 77 135 [some (.ref a0), some (.ref a1), o2] [] σ =
  gR σ 107 0 (.ref a0) fun a21 =>
  if sT σ a21 = 110 then (onI (rn 103 [.ref a21, .ref 5] σ) (fun x24 σ22 =>
  if (x24 = 0 : Prop) then (exec PP 4 77 160 [some (.ref a0), some (.ref a1), none] [] σ22)
    else (if sT σ22 a0 = 107 then (onI (rn 85 [.ref a0, .ref a1] σ22) (fun x27 σ25 =>
      if (x27 = 0 : Prop) then (exec PP 4 77 160 [some (.ref a0), some (.ref a1), none] [] σ25)
        else (exec PP 4 77 161 [some (.ref a0), some (.ref a1), none] [.int 1] σ25)) (fun e26 σ25x => some (.inr e26, σ25x))) else none)) (fun e23 σ22x => some (.inr e23, σ22x))) else none := (exec_eq PP 4 77 135 _ _ σ).trans rfl
set_option maxRecDepth 20000 in
theorem e_77_160 (o0 : Option Value) (o1 : Option Value) (o2 : Option Value) (σ : SH) : exec PP 4 77 160 [o0, o1, o2] [] σ =
  some (.inl (some (.int 0)), σ) := (exec_eq PP 4 77 160 _ _ σ).trans rfl
set_option maxRecDepth 20000 in
theorem e_77_161 (o0 : Option Value) (o1 : Option Value) (o2 : Option Value) (w0 : Int32) (σ : SH) : exec PP 4 77 161 [o0, o1, o2] [.int w0] σ =
  if w0 = 0 ∨ w0 = 1 then some (.inl (some (.int w0)), σ) else none := (exec_eq PP 4 77 161 _ _ σ).trans rfl

/-! 78: ArchEnds$Reader.readShower(LArchEnds$County;)Z -/
set_option maxRecDepth 20000 in
theorem r_78 (a0 : Nat) (a1 : Nat) (σ : SH) : rn 78 [.ref a0, .ref a1] σ =
  gR σ 101 0 (.ref a1) fun a21 =>
  gI σ 101 4 (.ref a1) fun x22 =>
  aR σ (.ref a21) x22 fun a23 =>
  gR σ 107 0 (.ref a0) fun a24 =>
  if sT σ a24 = 110 then (onI (rn 103 [.ref a24, .ref 0] σ) (fun x27 σ25 =>
  if (x27 = 0 : Prop) then (exec PP 3 78 36 [some (.ref a0), some (.ref a1), some (.ref a23)] [] σ25)
    else (gR σ25 107 0 (.ref a0) fun a28 =>
      if sT σ25 a28 = 110 then (onI (rn 104 [.ref a28, .int 0, .int 15] σ25) (fun x31 σ29 =>
      if (x31 = 0 : Prop) then (some (.inl (some (.int 0)), σ29))
        else (exec PP 3 78 38 [some (.ref a0), some (.ref a1), some (.ref a23)] [] σ29)) (fun e30 σ29x => some (.inr e30, σ29x))) else none)) (fun e26 σ25x => some (.inr e26, σ25x))) else none := (exec_eq PP 3 78 0 _ _ σ).trans rfl
set_option maxRecDepth 20000 in
theorem e_78_36 (o0 : Option Value) (o1 : Option Value) (o2 : Option Value) (σ : SH) : exec PP 3 78 36 [o0, o1, o2] [] σ =
  some (.inl (some (.int 0)), σ) := (exec_eq PP 3 78 36 _ _ σ).trans rfl
set_option maxRecDepth 20000 in
theorem e_78_38 (a0 : Nat) (a1 : Nat) (a2 : Nat) (σ : SH) : exec PP 3 78 38 [some (.ref a0), some (.ref a1), some (.ref a2)] [] σ =
  gR σ 107 0 (.ref a0) fun a21 =>
  gI σ 110 7 (.ref a21) fun x22 =>
  pI σ 108 0 (.ref a2) x22 fun σ23 =>
  gR σ23 107 0 (.ref a0) fun a24 =>
  if sT σ23 a24 = 110 then (onI (rn 103 [.ref a24, .ref 6] σ23) (fun x27 σ25 =>
  if (x27 = 0 : Prop) then (exec PP 3 78 78 [some (.ref a0), some (.ref a1), some (.ref a2)] [] σ25)
    else (gR σ25 107 0 (.ref a0) fun a28 =>
      gI σ25 108 0 (.ref a2) fun x29 =>
      if sT σ25 a28 = 110 then (onI (rn 104 [.ref a28, .int x29, .int 15] σ25) (fun x32 σ30 =>
      if (x32 = 0 : Prop) then (some (.inl (some (.int 0)), σ30))
        else (exec PP 3 78 80 [some (.ref a0), some (.ref a1), some (.ref a2)] [] σ30)) (fun e31 σ30x => some (.inr e31, σ30x))) else none)) (fun e26 σ25x => some (.inr e26, σ25x))) else none := (exec_eq PP 3 78 38 _ _ σ).trans rfl
set_option maxRecDepth 20000 in
theorem e_78_78 (o0 : Option Value) (o1 : Option Value) (o2 : Option Value) (σ : SH) : exec PP 3 78 78 [o0, o1, o2] [] σ =
  some (.inl (some (.int 0)), σ) := (exec_eq PP 3 78 78 _ _ σ).trans rfl
set_option maxRecDepth 20000 in
theorem e_78_80 (a0 : Nat) (a1 : Nat) (a2 : Nat) (σ : SH) : exec PP 3 78 80 [some (.ref a0), some (.ref a1), some (.ref a2)] [] σ =
  gR σ 107 0 (.ref a0) fun a21 =>
  gI σ 110 7 (.ref a21) fun x22 =>
  pI σ 108 1 (.ref a2) x22 fun σ23 =>
  gR σ23 107 0 (.ref a0) fun a24 =>
  if sT σ23 a24 = 110 then (onI (rn 103 [.ref a24, .ref 7] σ23) (fun x27 σ25 =>
  if (x27 = 0 : Prop) then (exec PP 3 78 118 [some (.ref a0), some (.ref a1), some (.ref a2)] [] σ25)
    else (gR σ25 107 0 (.ref a0) fun a28 =>
      if sT σ25 a28 = 110 then (onI (rn 104 [.ref a28, .int 0, .int 999] σ25) (fun x31 σ29 =>
      if (x31 = 0 : Prop) then (some (.inl (some (.int 0)), σ29))
        else (exec PP 3 78 120 [some (.ref a0), some (.ref a1), some (.ref a2)] [] σ29)) (fun e30 σ29x => some (.inr e30, σ29x))) else none)) (fun e26 σ25x => some (.inr e26, σ25x))) else none := (exec_eq PP 3 78 80 _ _ σ).trans rfl
set_option maxRecDepth 20000 in
theorem e_78_118 (o0 : Option Value) (o1 : Option Value) (o2 : Option Value) (σ : SH) : exec PP 3 78 118 [o0, o1, o2] [] σ =
  some (.inl (some (.int 0)), σ) := (exec_eq PP 3 78 118 _ _ σ).trans rfl
set_option maxRecDepth 20000 in
theorem e_78_120 (a0 : Nat) (a1 : Nat) (a2 : Nat) (σ : SH) : exec PP 3 78 120 [some (.ref a0), some (.ref a1), some (.ref a2)] [] σ =
  gR σ 107 0 (.ref a0) fun a21 =>
  gI σ 110 7 (.ref a21) fun x22 =>
  pI σ 108 2 (.ref a2) x22 fun σ23 =>
  gR σ23 107 0 (.ref a0) fun a24 =>
  if sT σ23 a24 = 110 then (onI (rn 103 [.ref a24, .ref 6] σ23) (fun x27 σ25 =>
  if (x27 = 0 : Prop) then (exec PP 3 78 161 [some (.ref a0), some (.ref a1), some (.ref a2)] [] σ25)
    else (gR σ25 107 0 (.ref a0) fun a28 =>
      gI σ25 108 2 (.ref a2) fun x29 =>
      if sT σ25 a28 = 110 then (onI (rn 104 [.ref a28, .int x29, .int 999] σ25) (fun x32 σ30 =>
      if (x32 = 0 : Prop) then (some (.inl (some (.int 0)), σ30))
        else (exec PP 3 78 163 [some (.ref a0), some (.ref a1), some (.ref a2)] [] σ30)) (fun e31 σ30x => some (.inr e31, σ30x))) else none)) (fun e26 σ25x => some (.inr e26, σ25x))) else none := (exec_eq PP 3 78 120 _ _ σ).trans rfl
set_option maxRecDepth 20000 in
theorem e_78_161 (o0 : Option Value) (o1 : Option Value) (o2 : Option Value) (σ : SH) : exec PP 3 78 161 [o0, o1, o2] [] σ =
  some (.inl (some (.int 0)), σ) := (exec_eq PP 3 78 161 _ _ σ).trans rfl
set_option maxRecDepth 20000 in
theorem e_78_163 (a0 : Nat) (a1 : Nat) (a2 : Nat) (σ : SH) : exec PP 3 78 163 [some (.ref a0), some (.ref a1), some (.ref a2)] [] σ =
  gR σ 107 0 (.ref a0) fun a21 =>
  gI σ 110 7 (.ref a21) fun x22 =>
  pI σ 108 3 (.ref a2) x22 fun σ23 =>
  pI σ23 108 6 (.ref a2) 0 fun σ24 =>
  if sT σ24 a0 = 107 then (onI (rn 79 [.ref a0, .ref a2] σ24) (fun x27 σ25 =>
  if (x27 = 0 : Prop) then (exec PP 3 78 195 [some (.ref a0), some (.ref a1), some (.ref a2)] [] σ25)
    else (if sT σ25 a0 = 107 then (onI (rn 80 [.ref a0, .ref a2] σ25) (fun x30 σ28 =>
      if (x30 = 0 : Prop) then (some (.inl (some (.int 0)), σ28))
        else (exec PP 3 78 197 [some (.ref a0), some (.ref a1), some (.ref a2)] [] σ28)) (fun e29 σ28x => some (.inr e29, σ28x))) else none)) (fun e26 σ25x => some (.inr e26, σ25x))) else none := (exec_eq PP 3 78 163 _ _ σ).trans rfl
set_option maxRecDepth 20000 in
theorem e_78_195 (o0 : Option Value) (o1 : Option Value) (o2 : Option Value) (σ : SH) : exec PP 3 78 195 [o0, o1, o2] [] σ =
  some (.inl (some (.int 0)), σ) := (exec_eq PP 3 78 195 _ _ σ).trans rfl
set_option maxRecDepth 20000 in
theorem e_78_197 (o0 : Option Value) (a1 : Nat) (o2 : Option Value) (σ : SH) : exec PP 3 78 197 [o0, some (.ref a1), o2] [] σ =
  gI σ 101 4 (.ref a1) fun x21 =>
  pI σ 101 4 (.ref a1) (x21 + 1) fun σ22 =>
  some (.inl (some (.int 1)), σ22) := (exec_eq PP 3 78 197 _ _ σ).trans rfl

/-! 79: ArchEnds$Reader.readDrift(LArchEnds$Shower;)Z -/
set_option maxRecDepth 20000 in
theorem r_79 (a0 : Nat) (a1 : Nat) (σ : SH) : rn 79 [.ref a0, .ref a1] σ =
  pI σ 108 4 (.ref a1) 0 fun σ21 =>
  gR σ21 107 0 (.ref a0) fun a22 =>
  if sT σ21 a22 = 110 then (onI (rn 103 [.ref a22, .ref 8] σ21) (fun x25 σ23 =>
  if (x25 = 0 : Prop) then (gR σ23 107 0 (.ref a0) fun a26 =>
      if sT σ23 a26 = 110 then (onI (rn 103 [.ref a26, .ref 9] σ23) (fun x29 σ27 =>
      if (x29 = 0 : Prop) then (some (.inl (some (.int 1)), σ27))
        else (exec PP 2 79 35 [some (.ref a0), some (.ref a1), some (.int x25)] [] σ27)) (fun e28 σ27x => some (.inr e28, σ27x))) else none)
    else (exec PP 2 79 35 [some (.ref a0), some (.ref a1), some (.int x25)] [] σ23)) (fun e24 σ23x => some (.inr e24, σ23x))) else none := (exec_eq PP 2 79 0 _ _ σ).trans rfl
set_option maxRecDepth 20000 in
theorem e_79_35 (a0 : Nat) (a1 : Nat) (x2 : Int32) (σ : SH) : exec PP 2 79 35 [some (.ref a0), some (.ref a1), some (.int x2)] [] σ =
  gR σ 107 0 (.ref a0) fun a21 =>
  if sT σ a21 = 110 then (onI (rn 104 [.ref a21, .int 0, .int 2] σ) (fun x24 σ22 =>
  if (x24 = 0 : Prop) then (some (.inl (some (.int 0)), σ22))
    else (exec PP 2 79 49 [some (.ref a0), some (.ref a1), some (.int x2)] [] σ22)) (fun e23 σ22x => some (.inr e23, σ22x))) else none := (exec_eq PP 2 79 35 _ _ σ).trans rfl
set_option maxRecDepth 20000 in
theorem e_79_49 (a0 : Nat) (a1 : Nat) (x2 : Int32) (σ : SH) : exec PP 2 79 49 [some (.ref a0), some (.ref a1), some (.int x2)] [] σ =
  if (x2 = 0 : Prop) then (exec PP 2 79 64 [some (.ref a0), some (.ref a1), some (.int x2)] [.ref a1] σ)
  else (gR σ 107 0 (.ref a0) fun a21 =>
    gI σ 110 7 (.ref a21) fun x22 =>
    exec PP 2 79 72 [some (.ref a0), some (.ref a1), some (.int x2)] [.int x22, .ref a1] σ) := (exec_eq PP 2 79 49 _ _ σ).trans rfl
set_option maxRecDepth 20000 in
theorem e_79_64 (a0 : Nat) (o1 : Option Value) (o2 : Option Value) (b0 : Nat) (σ : SH) : exec PP 2 79 64 [some (.ref a0), o1, o2] [.ref b0] σ =
  gR σ 107 0 (.ref a0) fun a21 =>
  gI σ 110 7 (.ref a21) fun x22 =>
  pI σ 108 4 (.ref b0) (-x22) fun σ23 =>
  some (.inl (some (.int 1)), σ23) := (exec_eq PP 2 79 64 _ _ σ).trans rfl
set_option maxRecDepth 20000 in
theorem e_79_72 (o0 : Option Value) (o1 : Option Value) (o2 : Option Value) (w0 : Int32) (b1 : Nat) (σ : SH) : exec PP 2 79 72 [o0, o1, o2] [.int w0, .ref b1] σ =
  pI σ 108 4 (.ref b1) w0 fun σ21 =>
  some (.inl (some (.int 1)), σ21) := (exec_eq PP 2 79 72 _ _ σ).trans rfl

/-! 80: ArchEnds$Reader.readChance(LArchEnds$Shower;)Z -/
set_option maxRecDepth 20000 in
theorem r_80 (a0 : Nat) (a1 : Nat) (σ : SH) : rn 80 [.ref a0, .ref a1] σ =
  pI σ 108 5 (.ref a1) 100 fun σ21 =>
  gR σ21 107 0 (.ref a0) fun a22 =>
  if sT σ21 a22 = 110 then (onI (rn 103 [.ref a22, .ref 10] σ21) (fun x25 σ23 =>
  if (x25 = 0 : Prop) then (some (.inl (some (.int 1)), σ23))
    else (exec PP 2 80 21 [some (.ref a0), some (.ref a1)] [] σ23)) (fun e24 σ23x => some (.inr e24, σ23x))) else none := (exec_eq PP 2 80 0 _ _ σ).trans rfl
set_option maxRecDepth 20000 in
theorem e_80_21 (a0 : Nat) (a1 : Nat) (σ : SH) : exec PP 2 80 21 [some (.ref a0), some (.ref a1)] [] σ =
  gR σ 107 0 (.ref a0) fun a21 =>
  if sT σ a21 = 110 then (onI (rn 104 [.ref a21, .int 0, .int 100] σ) (fun x24 σ22 =>
  if (x24 = 0 : Prop) then (some (.inl (some (.int 0)), σ22))
    else (exec PP 2 80 36 [some (.ref a0), some (.ref a1)] [] σ22)) (fun e23 σ22x => some (.inr e23, σ22x))) else none := (exec_eq PP 2 80 21 _ _ σ).trans rfl
set_option maxRecDepth 20000 in
theorem e_80_36 (a0 : Nat) (a1 : Nat) (σ : SH) : exec PP 2 80 36 [some (.ref a0), some (.ref a1)] [] σ =
  gR σ 107 0 (.ref a0) fun a21 =>
  gI σ 110 7 (.ref a21) fun x22 =>
  pI σ 108 5 (.ref a1) x22 fun σ23 =>
  some (.inl (some (.int 1)), σ23) := (exec_eq PP 2 80 36 _ _ σ).trans rfl

/-! 81: ArchEnds$Reader.readBroker(LArchEnds$County;)Z -/
set_option maxRecDepth 20000 in
theorem r_81 (a0 : Nat) (a1 : Nat) (σ : SH) : rn 81 [.ref a0, .ref a1] σ =
  gR σ 101 1 (.ref a1) fun a21 =>
  gI σ 101 5 (.ref a1) fun x22 =>
  aR σ (.ref a21) x22 fun a23 =>
  gR σ 107 0 (.ref a0) fun a24 =>
  if sT σ a24 = 110 then (onI (rn 103 [.ref a24, .ref 1] σ) (fun x27 σ25 =>
  if (x27 = 0 : Prop) then (exec PP 2 81 37 [some (.ref a0), some (.ref a1), some (.ref a23)] [] σ25)
    else (gR σ25 107 0 (.ref a0) fun a28 =>
      if sT σ25 a28 = 110 then (onI (rn 104 [.ref a28, .int 0, .int 999] σ25) (fun x31 σ29 =>
      if (x31 = 0 : Prop) then (some (.inl (some (.int 0)), σ29))
        else (exec PP 2 81 39 [some (.ref a0), some (.ref a1), some (.ref a23)] [] σ29)) (fun e30 σ29x => some (.inr e30, σ29x))) else none)) (fun e26 σ25x => some (.inr e26, σ25x))) else none := (exec_eq PP 2 81 0 _ _ σ).trans rfl
set_option maxRecDepth 20000 in
theorem e_81_37 (o0 : Option Value) (o1 : Option Value) (o2 : Option Value) (σ : SH) : exec PP 2 81 37 [o0, o1, o2] [] σ =
  some (.inl (some (.int 0)), σ) := (exec_eq PP 2 81 37 _ _ σ).trans rfl
set_option maxRecDepth 20000 in
theorem e_81_39 (a0 : Nat) (a1 : Nat) (a2 : Nat) (σ : SH) : exec PP 2 81 39 [some (.ref a0), some (.ref a1), some (.ref a2)] [] σ =
  gR σ 107 0 (.ref a0) fun a21 =>
  gI σ 110 7 (.ref a21) fun x22 =>
  pI σ 100 0 (.ref a2) x22 fun σ23 =>
  gR σ23 107 0 (.ref a0) fun a24 =>
  if sT σ23 a24 = 110 then (onI (rn 103 [.ref a24, .ref 11] σ23) (fun x27 σ25 =>
  if (x27 = 0 : Prop) then (exec PP 2 81 76 [some (.ref a0), some (.ref a1), some (.ref a2)] [] σ25)
    else (gR σ25 107 0 (.ref a0) fun a28 =>
      if sT σ25 a28 = 110 then (onI (rn 104 [.ref a28, .int 0, .int 15] σ25) (fun x31 σ29 =>
      if (x31 = 0 : Prop) then (some (.inl (some (.int 0)), σ29))
        else (exec PP 2 81 78 [some (.ref a0), some (.ref a1), some (.ref a2)] [] σ29)) (fun e30 σ29x => some (.inr e30, σ29x))) else none)) (fun e26 σ25x => some (.inr e26, σ25x))) else none := (exec_eq PP 2 81 39 _ _ σ).trans rfl
set_option maxRecDepth 20000 in
theorem e_81_76 (o0 : Option Value) (o1 : Option Value) (o2 : Option Value) (σ : SH) : exec PP 2 81 76 [o0, o1, o2] [] σ =
  some (.inl (some (.int 0)), σ) := (exec_eq PP 2 81 76 _ _ σ).trans rfl
set_option maxRecDepth 20000 in
theorem e_81_78 (a0 : Nat) (a1 : Nat) (a2 : Nat) (σ : SH) : exec PP 2 81 78 [some (.ref a0), some (.ref a1), some (.ref a2)] [] σ =
  gR σ 107 0 (.ref a0) fun a21 =>
  gI σ 110 7 (.ref a21) fun x22 =>
  pI σ 100 1 (.ref a2) x22 fun σ23 =>
  gR σ23 107 0 (.ref a0) fun a24 =>
  if sT σ23 a24 = 110 then (onI (rn 103 [.ref a24, .ref 12] σ23) (fun x27 σ25 =>
  if (x27 = 0 : Prop) then (exec PP 2 81 114 [some (.ref a0), some (.ref a1), some (.ref a2)] [] σ25)
    else (gR σ25 107 0 (.ref a0) fun a28 =>
      if sT σ25 a28 = 110 then (onI (rn 104 [.ref a28, .int 1, .int 4] σ25) (fun x31 σ29 =>
      if (x31 = 0 : Prop) then (some (.inl (some (.int 0)), σ29))
        else (exec PP 2 81 116 [some (.ref a0), some (.ref a1), some (.ref a2)] [] σ29)) (fun e30 σ29x => some (.inr e30, σ29x))) else none)) (fun e26 σ25x => some (.inr e26, σ25x))) else none := (exec_eq PP 2 81 78 _ _ σ).trans rfl
set_option maxRecDepth 20000 in
theorem e_81_114 (o0 : Option Value) (o1 : Option Value) (o2 : Option Value) (σ : SH) : exec PP 2 81 114 [o0, o1, o2] [] σ =
  some (.inl (some (.int 0)), σ) := (exec_eq PP 2 81 114 _ _ σ).trans rfl
set_option maxRecDepth 20000 in
theorem e_81_116 (a0 : Nat) (a1 : Nat) (a2 : Nat) (σ : SH) : exec PP 2 81 116 [some (.ref a0), some (.ref a1), some (.ref a2)] [] σ =
  gR σ 107 0 (.ref a0) fun a21 =>
  gI σ 110 7 (.ref a21) fun x22 =>
  pI σ 100 2 (.ref a2) x22 fun σ23 =>
  gI σ23 101 5 (.ref a1) fun x24 =>
  pI σ23 101 5 (.ref a1) (x24 + 1) fun σ25 =>
  some (.inl (some (.int 1)), σ25) := (exec_eq PP 2 81 116 _ _ σ).trans rfl

/-! 82: ArchEnds$Reader.readDeed(LArchEnds$County;)Z -/
set_option maxRecDepth 20000 in
theorem r_82 (a0 : Nat) (a1 : Nat) (σ : SH) : rn 82 [.ref a0, .ref a1] σ =
  gR σ 101 2 (.ref a1) fun a21 =>
  gI σ 101 6 (.ref a1) fun x22 =>
  aR σ (.ref a21) x22 fun a23 =>
  gR σ 107 0 (.ref a0) fun a24 =>
  if sT σ a24 = 110 then (onI (rn 103 [.ref a24, .ref 2] σ) (fun x27 σ25 =>
  if (x27 = 0 : Prop) then (exec PP 2 82 36 [some (.ref a0), some (.ref a1), some (.ref a23)] [] σ25)
    else (gR σ25 107 0 (.ref a0) fun a28 =>
      if sT σ25 a28 = 110 then (onI (rn 104 [.ref a28, .int 0, .int 15] σ25) (fun x31 σ29 =>
      if (x31 = 0 : Prop) then (some (.inl (some (.int 0)), σ29))
        else (exec PP 2 82 38 [some (.ref a0), some (.ref a1), some (.ref a23)] [] σ29)) (fun e30 σ29x => some (.inr e30, σ29x))) else none)) (fun e26 σ25x => some (.inr e26, σ25x))) else none := (exec_eq PP 2 82 0 _ _ σ).trans rfl
set_option maxRecDepth 20000 in
theorem e_82_36 (o0 : Option Value) (o1 : Option Value) (o2 : Option Value) (σ : SH) : exec PP 2 82 36 [o0, o1, o2] [] σ =
  some (.inl (some (.int 0)), σ) := (exec_eq PP 2 82 36 _ _ σ).trans rfl
set_option maxRecDepth 20000 in
theorem e_82_38 (a0 : Nat) (a1 : Nat) (a2 : Nat) (σ : SH) : exec PP 2 82 38 [some (.ref a0), some (.ref a1), some (.ref a2)] [] σ =
  gR σ 107 0 (.ref a0) fun a21 =>
  gI σ 110 7 (.ref a21) fun x22 =>
  pI σ 102 0 (.ref a2) x22 fun σ23 =>
  gR σ23 107 0 (.ref a0) fun a24 =>
  if sT σ23 a24 = 110 then (onI (rn 103 [.ref a24, .ref 7] σ23) (fun x27 σ25 =>
  if (x27 = 0 : Prop) then (exec PP 2 82 76 [some (.ref a0), some (.ref a1), some (.ref a2)] [] σ25)
    else (gR σ25 107 0 (.ref a0) fun a28 =>
      if sT σ25 a28 = 110 then (onI (rn 104 [.ref a28, .int 0, .int 999] σ25) (fun x31 σ29 =>
      if (x31 = 0 : Prop) then (some (.inl (some (.int 0)), σ29))
        else (exec PP 2 82 78 [some (.ref a0), some (.ref a1), some (.ref a2)] [] σ29)) (fun e30 σ29x => some (.inr e30, σ29x))) else none)) (fun e26 σ25x => some (.inr e26, σ25x))) else none := (exec_eq PP 2 82 38 _ _ σ).trans rfl
set_option maxRecDepth 20000 in
theorem e_82_76 (o0 : Option Value) (o1 : Option Value) (o2 : Option Value) (σ : SH) : exec PP 2 82 76 [o0, o1, o2] [] σ =
  some (.inl (some (.int 0)), σ) := (exec_eq PP 2 82 76 _ _ σ).trans rfl
set_option maxRecDepth 20000 in
theorem e_82_78 (a0 : Nat) (a1 : Nat) (a2 : Nat) (σ : SH) : exec PP 2 82 78 [some (.ref a0), some (.ref a1), some (.ref a2)] [] σ =
  gR σ 107 0 (.ref a0) fun a21 =>
  gI σ 110 7 (.ref a21) fun x22 =>
  pI σ 102 1 (.ref a2) x22 fun σ23 =>
  gR σ23 107 0 (.ref a0) fun a24 =>
  if sT σ23 a24 = 110 then (onI (rn 103 [.ref a24, .ref 6] σ23) (fun x27 σ25 =>
  if (x27 = 0 : Prop) then (exec PP 2 82 119 [some (.ref a0), some (.ref a1), some (.ref a2)] [] σ25)
    else (gR σ25 107 0 (.ref a0) fun a28 =>
      gI σ25 102 1 (.ref a2) fun x29 =>
      if sT σ25 a28 = 110 then (onI (rn 104 [.ref a28, .int x29, .int 999] σ25) (fun x32 σ30 =>
      if (x32 = 0 : Prop) then (some (.inl (some (.int 0)), σ30))
        else (exec PP 2 82 121 [some (.ref a0), some (.ref a1), some (.ref a2)] [] σ30)) (fun e31 σ30x => some (.inr e31, σ30x))) else none)) (fun e26 σ25x => some (.inr e26, σ25x))) else none := (exec_eq PP 2 82 78 _ _ σ).trans rfl
set_option maxRecDepth 20000 in
theorem e_82_119 (o0 : Option Value) (o1 : Option Value) (o2 : Option Value) (σ : SH) : exec PP 2 82 119 [o0, o1, o2] [] σ =
  some (.inl (some (.int 0)), σ) := (exec_eq PP 2 82 119 _ _ σ).trans rfl
set_option maxRecDepth 20000 in
theorem e_82_121 (a0 : Nat) (a1 : Nat) (a2 : Nat) (σ : SH) : exec PP 2 82 121 [some (.ref a0), some (.ref a1), some (.ref a2)] [] σ =
  gR σ 107 0 (.ref a0) fun a21 =>
  gI σ 110 7 (.ref a21) fun x22 =>
  pI σ 102 2 (.ref a2) x22 fun σ23 =>
  gR σ23 107 0 (.ref a0) fun a24 =>
  if sT σ23 a24 = 110 then (onI (rn 103 [.ref a24, .ref 13] σ23) (fun x27 σ25 =>
  if (x27 = 0 : Prop) then (exec PP 2 82 159 [some (.ref a0), some (.ref a1), some (.ref a2)] [] σ25)
    else (gR σ25 107 0 (.ref a0) fun a28 =>
      if sT σ25 a28 = 110 then (onI (rn 104 [.ref a28, .int 0, .int 999] σ25) (fun x31 σ29 =>
      if (x31 = 0 : Prop) then (some (.inl (some (.int 0)), σ29))
        else (exec PP 2 82 161 [some (.ref a0), some (.ref a1), some (.ref a2)] [] σ29)) (fun e30 σ29x => some (.inr e30, σ29x))) else none)) (fun e26 σ25x => some (.inr e26, σ25x))) else none := (exec_eq PP 2 82 121 _ _ σ).trans rfl
set_option maxRecDepth 20000 in
theorem e_82_159 (o0 : Option Value) (o1 : Option Value) (o2 : Option Value) (σ : SH) : exec PP 2 82 159 [o0, o1, o2] [] σ =
  some (.inl (some (.int 0)), σ) := (exec_eq PP 2 82 159 _ _ σ).trans rfl
set_option maxRecDepth 20000 in
theorem e_82_161 (a0 : Nat) (a1 : Nat) (a2 : Nat) (σ : SH) : exec PP 2 82 161 [some (.ref a0), some (.ref a1), some (.ref a2)] [] σ =
  gR σ 107 0 (.ref a0) fun a21 =>
  gI σ 110 7 (.ref a21) fun x22 =>
  pI σ 102 3 (.ref a2) x22 fun σ23 =>
  pI σ23 102 4 (.ref a2) (-1) fun σ24 =>
  pI σ24 102 5 (.ref a2) 0 fun σ25 =>
  pB σ25 102 6 (.ref a2) 0 fun σ26 =>
  gI σ26 101 6 (.ref a1) fun x27 =>
  pI σ26 101 6 (.ref a1) (x27 + 1) fun σ28 =>
  some (.inl (some (.int 1)), σ28) := (exec_eq PP 2 82 161 _ _ σ).trans rfl

/-! 83: ArchEnds$Reader.readRoad(LArchEnds$County;)Z -/
set_option maxRecDepth 20000 in
theorem r_83 (a0 : Nat) (a1 : Nat) (σ : SH) : rn 83 [.ref a0, .ref a1] σ =
  gR σ 107 0 (.ref a0) fun a21 =>
  if sT σ a21 = 110 then (onI (rn 104 [.ref a21, .int 0, .int 15] σ) (fun x24 σ22 =>
  if (x24 = 0 : Prop) then (some (.inl (some (.int 0)), σ22))
    else (exec PP 2 83 15 [some (.ref a0), some (.ref a1)] [] σ22)) (fun e23 σ22x => some (.inr e23, σ22x))) else none := (exec_eq PP 2 83 0 _ _ σ).trans rfl
set_option maxRecDepth 20000 in
theorem e_83_15 (a0 : Nat) (a1 : Nat) (σ : SH) : exec PP 2 83 15 [some (.ref a0), some (.ref a1)] [] σ =
  gR σ 107 0 (.ref a0) fun a21 =>
  gI σ 110 7 (.ref a21) fun x22 =>
  pI σ 101 8 (.ref a1) x22 fun σ23 =>
  some (.inl (some (.int 1)), σ23) := (exec_eq PP 2 83 15 _ _ σ).trans rfl

/-! 84: ArchEnds$Reader.readWage(LArchEnds$County;)Z -/
set_option maxRecDepth 20000 in
theorem r_84 (a0 : Nat) (a1 : Nat) (σ : SH) : rn 84 [.ref a0, .ref a1] σ =
  gR σ 107 0 (.ref a0) fun a21 =>
  if sT σ a21 = 110 then (onI (rn 104 [.ref a21, .int 0, .int 99] σ) (fun x24 σ22 =>
  if (x24 = 0 : Prop) then (some (.inl (some (.int 0)), σ22))
    else (exec PP 2 84 15 [some (.ref a0), some (.ref a1)] [] σ22)) (fun e23 σ22x => some (.inr e23, σ22x))) else none := (exec_eq PP 2 84 0 _ _ σ).trans rfl
set_option maxRecDepth 20000 in
theorem e_84_15 (a0 : Nat) (a1 : Nat) (σ : SH) : exec PP 2 84 15 [some (.ref a0), some (.ref a1)] [] σ =
  gR σ 107 0 (.ref a0) fun a21 =>
  gI σ 110 7 (.ref a21) fun x22 =>
  pI σ 101 9 (.ref a1) x22 fun σ23 =>
  some (.inl (some (.int 1)), σ23) := (exec_eq PP 2 84 15 _ _ σ).trans rfl

/-! 85: ArchEnds$Reader.readMinute(LArchEnds$County;)Z -/
set_option maxRecDepth 20000 in
theorem r_85 (a0 : Nat) (a1 : Nat) (σ : SH) : rn 85 [.ref a0, .ref a1] σ =
  gR σ 107 0 (.ref a0) fun a21 =>
  if sT σ a21 = 110 then (onI (rn 104 [.ref a21, .int 0, .int 999] σ) (fun x24 σ22 =>
  if (x24 = 0 : Prop) then (some (.inl (some (.int 0)), σ22))
    else (exec PP 2 85 16 [some (.ref a0), some (.ref a1)] [] σ22)) (fun e23 σ22x => some (.inr e23, σ22x))) else none := (exec_eq PP 2 85 0 _ _ σ).trans rfl
set_option maxRecDepth 20000 in
theorem e_85_16 (a0 : Nat) (a1 : Nat) (σ : SH) : exec PP 2 85 16 [some (.ref a0), some (.ref a1)] [] σ =
  gR σ 107 0 (.ref a0) fun a21 =>
  gI σ 110 7 (.ref a21) fun x22 =>
  pI σ 101 10 (.ref a1) x22 fun σ23 =>
  some (.inl (some (.int 1)), σ23) := (exec_eq PP 2 85 16 _ _ σ).trans rfl

/-! 86: ArchEnds$Reader.readLaw()LArchEnds$Law; -/
set_option maxRecDepth 20000 in
theorem r_86 (a0 : Nat) (σ : SH) : rn 86 [.ref a0] σ =
  pI σ 107 5 (.ref a0) 0 fun σ21 =>
  gR σ21 107 0 (.ref a0) fun a22 =>
  if sT σ21 a22 = 110 then (onR (rn 102 [.ref a22] σ21) (fun a25 σ23 =>
  if (a25 : Nat) < 38 ∧ (37 : Nat) < 38 then (if (a25 : Nat) = 37 then (gR (mkC σ23 104 0 6) 107 1 (.ref a0) fun a26 =>
      gR (mkC σ23 104 0 6) 107 2 (.ref a0) fun a27 =>
      gR (mkC σ23 104 0 6) 107 3 (.ref a0) fun a28 =>
      gR (mkC σ23 104 0 6) 107 4 (.ref a0) fun a29 =>
      if ((sZ σ23) : Nat) = 39 then none else (onV (rn 47 [.ref (sZ σ23), .int 0, .ref a26, .ref a27, .ref a28, .ref a29] (mkC σ23 104 0 6)) (fun σ30 =>
      some (.inl (some (.ref (sZ σ23))), σ30)) (fun _ _ => none)))
    else (exec PP 62 86 43 [some (.ref a0), none] [] σ23)) else none) (fun e24 σ23x => some (.inr e24, σ23x))) else none := (exec_eq PP 62 86 0 _ _ σ).trans rfl
set_option maxRecDepth 20000 in
theorem e_86_43 (a0 : Nat) (o1 : Option Value) (σ : SH) : exec PP 62 86 43 [some (.ref a0), o1] [] σ =
  exec PP 62 86 45 [some (.ref a0), some (.int 0)] [] σ := (exec_eq PP 62 86 43 _ _ σ).trans rfl
set_option maxRecDepth 20000 in
theorem e_86_45 (a0 : Nat) (x1 : Int32) (σ : SH) : exec PP 62 86 45 [some (.ref a0), some (.int x1)] [] σ =
  if (x1 < 12 : Prop) then (if sT σ a0 = 107 then (onI (rn 87 [.ref a0, .int x1] σ) (fun x23 σ21 =>
    if (x23 = 0 : Prop) then (some (.inl (some (.null)), σ21))
      else (exec PP 62 86 61 [some (.ref a0), some (.int x1)] [] σ21)) (fun e22 σ21x => some (.inr e22, σ21x))) else none)
  else (exec PP 62 86 122 [some (.ref a0), some (.int x1)] [] σ) := (exec_eq PP 62 86 45 _ _ σ).trans rfl
set_option maxRecDepth 20000 in
theorem e_86_122 (o0 : Option Value) (o1 : Option Value) (σ : SH) : exec PP 62 86 122 [o0, o1] [] σ =
  some (.inl (some (.null)), σ) := (exec_eq PP 62 86 122 _ _ σ).trans rfl
set_option maxRecDepth 20000 in
theorem e_86_61 (a0 : Nat) (x1 : Int32) (σ : SH) : exec PP 62 86 61 [some (.ref a0), some (.int x1)] [] σ =
  gR σ 107 0 (.ref a0) fun a21 =>
  if sT σ a21 = 110 then (onR (rn 102 [.ref a21] σ) (fun a24 σ22 =>
  if (a24 : Nat) < 38 ∧ (37 : Nat) < 38 then (if (a24 : Nat) = 37 then (gR (mkC σ22 104 0 6) 107 1 (.ref a0) fun a25 =>
      gR (mkC σ22 104 0 6) 107 2 (.ref a0) fun a26 =>
      gR (mkC σ22 104 0 6) 107 3 (.ref a0) fun a27 =>
      gR (mkC σ22 104 0 6) 107 4 (.ref a0) fun a28 =>
      if ((sZ σ22) : Nat) = 39 then none else (onV (rn 47 [.ref (sZ σ22), .int (x1 + 1), .ref a25, .ref a26, .ref a27, .ref a28] (mkC σ22 104 0 6)) (fun σ29 =>
      some (.inl (some (.ref (sZ σ22))), σ29)) (fun _ _ => none)))
    else (exec PP 62 86 101 [some (.ref a0), some (.int x1)] [] σ22)) else none) (fun e23 σ22x => some (.inr e23, σ22x))) else none := (exec_eq PP 62 86 61 _ _ σ).trans rfl
set_option maxRecDepth 20000 in
theorem e_86_101 (a0 : Nat) (x1 : Int32) (σ : SH) : exec PP 62 86 101 [some (.ref a0), some (.int x1)] [] σ =
  gR σ 107 0 (.ref a0) fun a21 =>
  if sT σ a21 = 110 then (onI (rn 103 [.ref a21, .ref 34] σ) (fun x24 σ22 =>
  if (x24 = 0 : Prop) then (some (.inl (some (.null)), σ22))
    else (exec PP 62 86 116 [some (.ref a0), some (.int x1)] [] σ22)) (fun e23 σ22x => some (.inr e23, σ22x))) else none := (exec_eq PP 62 86 101 _ _ σ).trans rfl
set_option maxRecDepth 20000 in
theorem e_86_116 (a0 : Nat) (x1 : Int32) (σ : SH) : exec PP 62 86 116 [some (.ref a0), some (.int x1)] [] σ =
  exec PP 62 86 45 [some (.ref a0), some (.int (x1 + 1))] [] σ := (exec_eq PP 62 86 116 _ _ σ).trans rfl

/-! 87: ArchEnds$Reader.readLawLine(I)Z -/
set_option maxRecDepth 20000 in
theorem r_87 (a0 : Nat) (x1 : Int32) (σ : SH) : rn 87 [.ref a0, .int x1] σ =
  gR σ 107 0 (.ref a0) fun a21 =>
  if sT σ a21 = 110 then (onR (rn 102 [.ref a21] σ) (fun a24 σ22 =>
  if (a24 : Nat) < 38 ∧ (14 : Nat) < 38 then (if (a24 : Nat) = 14 then (exec PP 61 87 31 [some (.ref a0), some (.int x1), some (.ref a24)] [] σ22)
    else (if (a24 : Nat) < 38 ∧ (15 : Nat) < 38 then (if (a24 : Nat) = 15 then (exec PP 61 87 31 [some (.ref a0), some (.int x1), some (.ref a24)] [] σ22)
      else (if (a24 : Nat) < 38 ∧ (16 : Nat) < 38 then (if (a24 : Nat) = 16 then (exec PP 61 87 31 [some (.ref a0), some (.int x1), some (.ref a24)] [] σ22)
        else (some (.inl (some (.int 0)), σ22))) else none)) else none)) else none) (fun e23 σ22x => some (.inr e23, σ22x))) else none := (exec_eq PP 61 87 0 _ _ σ).trans rfl
set_option maxRecDepth 20000 in
theorem e_87_31 (a0 : Nat) (x1 : Int32) (a2 : Nat) (σ : SH) : exec PP 61 87 31 [some (.ref a0), some (.int x1), some (.ref a2)] [] σ =
  gR σ 107 0 (.ref a0) fun a21 =>
  if sT σ a21 = 110 then (onI (rn 103 [.ref a21, .ref a2] σ) (fun x24 σ22 =>
  if (x24 = 0 : Prop) then (exec PP 61 87 55 [some (.ref a0), some (.int x1), some (.ref a2)] [] σ22)
    else (gR σ22 107 0 (.ref a0) fun a25 =>
      if sT σ22 a25 = 110 then (onI (rn 104 [.ref a25, .int 0, .int 99] σ22) (fun x28 σ26 =>
      if (x28 = 0 : Prop) then (some (.inl (some (.int 0)), σ26))
        else (exec PP 61 87 57 [some (.ref a0), some (.int x1), some (.ref a2)] [] σ26)) (fun e27 σ26x => some (.inr e27, σ26x))) else none)) (fun e23 σ22x => some (.inr e23, σ22x))) else none := (exec_eq PP 61 87 31 _ _ σ).trans rfl
set_option maxRecDepth 20000 in
theorem e_87_55 (o0 : Option Value) (o1 : Option Value) (o2 : Option Value) (σ : SH) : exec PP 61 87 55 [o0, o1, o2] [] σ =
  some (.inl (some (.int 0)), σ) := (exec_eq PP 61 87 55 _ _ σ).trans rfl
set_option maxRecDepth 20000 in
theorem e_87_57 (a0 : Nat) (x1 : Int32) (a2 : Nat) (σ : SH) : exec PP 61 87 57 [some (.ref a0), some (.int x1), some (.ref a2)] [] σ =
  gR σ 107 1 (.ref a0) fun a21 =>
  uR σ (.ref a21) x1 (.ref a2) fun σ22 =>
  gR σ22 107 2 (.ref a0) fun a23 =>
  gR σ22 107 0 (.ref a0) fun a24 =>
  gI σ22 110 7 (.ref a24) fun x25 =>
  uI σ22 (.ref a23) x1 x25 fun σ26 =>
  gR σ26 107 0 (.ref a0) fun a27 =>
  if sT σ26 a27 = 110 then (onI (rn 103 [.ref a27, .ref 17] σ26) (fun x30 σ28 =>
  if (x30 = 0 : Prop) then (exec PP 61 87 100 [some (.ref a0), some (.int x1), some (.ref a2)] [] σ28)
    else (if sT σ28 a0 = 107 then (onI (exec PP 60 88 0 (lcl PP 88 [.ref a0, .int 0]) [] σ28) (fun x33 σ31 =>
      if (x33 = 0 : Prop) then (some (.inl (some (.int 0)), σ31))
        else (exec PP 61 87 100 [some (.ref a0), some (.int x1), some (.ref a2)] [] σ31)) (fun e32 σ31x => some (.inr e32, σ31x))) else none)) (fun e29 σ28x => some (.inr e29, σ28x))) else none := (exec_eq PP 61 87 57 _ _ σ).trans rfl
set_option maxRecDepth 20000 in
theorem e_87_100 (a0 : Nat) (x1 : Int32) (o2 : Option Value) (σ : SH) : exec PP 61 87 100 [some (.ref a0), some (.int x1), o2] [] σ =
  gR σ 107 3 (.ref a0) fun a21 =>
  gI σ 107 5 (.ref a0) fun x22 =>
  uI σ (.ref a21) x1 x22 fun σ23 =>
  some (.inl (some (.int 1)), σ23) := (exec_eq PP 61 87 100 _ _ σ).trans rfl

/-! 88: ArchEnds$Reader.readAny(I)Z -/
set_option maxRecDepth 20000 in
theorem r_88 (d : Nat) (a0 : Nat) (x1 : Int32) (σ : SH) : exec PP (d + 8) 88 0 (lcl PP 88 [.ref a0, .int x1]) [] σ =
  exec PP (d + 8) 88 2 [some (.ref a0), some (.int x1), some (.int 0)] [] σ := (exec_eq PP (d + 8) 88 0 _ _ σ).trans rfl
set_option maxRecDepth 20000 in
theorem e_88_2 (d : Nat) (a0 : Nat) (x1 : Int32) (x2 : Int32) (σ : SH) : exec PP (d + 8) 88 2 [some (.ref a0), some (.int x1), some (.int x2)] [] σ =
  if (x2 < 400 : Prop) then (if sT σ a0 = 107 then (onI (exec PP (d + 7) 89 0 (lcl PP 89 [.ref a0, .int x1]) [] σ) (fun x23 σ21 =>
    if (x23 = 0 : Prop) then (some (.inl (some (.int 0)), σ21))
      else (exec PP (d + 8) 88 19 [some (.ref a0), some (.int x1), some (.int x2)] [] σ21)) (fun e22 σ21x => some (.inr e22, σ21x))) else none)
  else (exec PP (d + 8) 88 54 [some (.ref a0), some (.int x1), some (.int x2)] [] σ) := (exec_eq PP (d + 8) 88 2 _ _ σ).trans rfl
set_option maxRecDepth 20000 in
theorem e_88_54 (d : Nat) (o0 : Option Value) (o1 : Option Value) (o2 : Option Value) (σ : SH) : exec PP (d + 8) 88 54 [o0, o1, o2] [] σ =
  some (.inl (some (.int 0)), σ) := (exec_eq PP (d + 8) 88 54 _ _ σ).trans rfl
set_option maxRecDepth 20000 in
theorem e_88_19 (d : Nat) (a0 : Nat) (x1 : Int32) (x2 : Int32) (σ : SH) : exec PP (d + 8) 88 19 [some (.ref a0), some (.int x1), some (.int x2)] [] σ =
  if (0 < x2 : Prop) then (gI σ 109 1 (.ref 31) fun x21 =>
    if sT σ a0 = 107 then (onV (rn 91 [.ref a0, .int x21] σ) (fun σ22 =>
    gR σ22 107 0 (.ref a0) fun a24 =>
      if sT σ22 a24 = 110 then (onI (rn 103 [.ref a24, .ref 31] σ22) (fun x27 σ25 =>
      if (x27 = 0 : Prop) then (some (.inl (some (.int 1)), σ25))
        else (exec PP (d + 8) 88 48 [some (.ref a0), some (.int x1), some (.int x2)] [] σ25)) (fun e26 σ25x => some (.inr e26, σ25x))) else none) (fun e23 σ22x => some (.inr e23, σ22x))) else none)
  else (exec PP (d + 8) 88 33 [some (.ref a0), some (.int x1), some (.int x2)] [] σ) := (exec_eq PP (d + 8) 88 19 _ _ σ).trans rfl
set_option maxRecDepth 20000 in
theorem e_88_33 (d : Nat) (a0 : Nat) (x1 : Int32) (x2 : Int32) (σ : SH) : exec PP (d + 8) 88 33 [some (.ref a0), some (.int x1), some (.int x2)] [] σ =
  gR σ 107 0 (.ref a0) fun a21 =>
  if sT σ a21 = 110 then (onI (rn 103 [.ref a21, .ref 31] σ) (fun x24 σ22 =>
  if (x24 = 0 : Prop) then (some (.inl (some (.int 1)), σ22))
    else (exec PP (d + 8) 88 48 [some (.ref a0), some (.int x1), some (.int x2)] [] σ22)) (fun e23 σ22x => some (.inr e23, σ22x))) else none := (exec_eq PP (d + 8) 88 33 _ _ σ).trans rfl
set_option maxRecDepth 20000 in
theorem e_88_48 (d : Nat) (a0 : Nat) (x1 : Int32) (x2 : Int32) (σ : SH) : exec PP (d + 8) 88 48 [some (.ref a0), some (.int x1), some (.int x2)] [] σ =
  exec PP (d + 8) 88 2 [some (.ref a0), some (.int x1), some (.int (x2 + 1))] [] σ := (exec_eq PP (d + 8) 88 48 _ _ σ).trans rfl

/-! 89: ArchEnds$Reader.readAll(I)Z -/
set_option maxRecDepth 20000 in
theorem r_89 (d : Nat) (a0 : Nat) (x1 : Int32) (σ : SH) : exec PP (d + 8) 89 0 (lcl PP 89 [.ref a0, .int x1]) [] σ =
  exec PP (d + 8) 89 2 [some (.ref a0), some (.int x1), some (.int 0)] [] σ := (exec_eq PP (d + 8) 89 0 _ _ σ).trans rfl
set_option maxRecDepth 20000 in
theorem e_89_2 (d : Nat) (a0 : Nat) (x1 : Int32) (x2 : Int32) (σ : SH) : exec PP (d + 8) 89 2 [some (.ref a0), some (.int x1), some (.int x2)] [] σ =
  if (x2 < 400 : Prop) then (if sT σ a0 = 107 then (onI (exec PP (d + 7) 90 0 (lcl PP 90 [.ref a0, .int x1]) [] σ) (fun x23 σ21 =>
    if (x23 = 0 : Prop) then (some (.inl (some (.int 0)), σ21))
      else (exec PP (d + 8) 89 19 [some (.ref a0), some (.int x1), some (.int x2)] [] σ21)) (fun e22 σ21x => some (.inr e22, σ21x))) else none)
  else (exec PP (d + 8) 89 54 [some (.ref a0), some (.int x1), some (.int x2)] [] σ) := (exec_eq PP (d + 8) 89 2 _ _ σ).trans rfl
set_option maxRecDepth 20000 in
theorem e_89_54 (d : Nat) (o0 : Option Value) (o1 : Option Value) (o2 : Option Value) (σ : SH) : exec PP (d + 8) 89 54 [o0, o1, o2] [] σ =
  some (.inl (some (.int 0)), σ) := (exec_eq PP (d + 8) 89 54 _ _ σ).trans rfl
set_option maxRecDepth 20000 in
theorem e_89_19 (d : Nat) (a0 : Nat) (x1 : Int32) (x2 : Int32) (σ : SH) : exec PP (d + 8) 89 19 [some (.ref a0), some (.int x1), some (.int x2)] [] σ =
  if (0 < x2 : Prop) then (gI σ 109 1 (.ref 30) fun x21 =>
    if sT σ a0 = 107 then (onV (rn 91 [.ref a0, .int x21] σ) (fun σ22 =>
    gR σ22 107 0 (.ref a0) fun a24 =>
      if sT σ22 a24 = 110 then (onI (rn 103 [.ref a24, .ref 30] σ22) (fun x27 σ25 =>
      if (x27 = 0 : Prop) then (some (.inl (some (.int 1)), σ25))
        else (exec PP (d + 8) 89 48 [some (.ref a0), some (.int x1), some (.int x2)] [] σ25)) (fun e26 σ25x => some (.inr e26, σ25x))) else none) (fun e23 σ22x => some (.inr e23, σ22x))) else none)
  else (exec PP (d + 8) 89 33 [some (.ref a0), some (.int x1), some (.int x2)] [] σ) := (exec_eq PP (d + 8) 89 19 _ _ σ).trans rfl
set_option maxRecDepth 20000 in
theorem e_89_33 (d : Nat) (a0 : Nat) (x1 : Int32) (x2 : Int32) (σ : SH) : exec PP (d + 8) 89 33 [some (.ref a0), some (.int x1), some (.int x2)] [] σ =
  gR σ 107 0 (.ref a0) fun a21 =>
  if sT σ a21 = 110 then (onI (rn 103 [.ref a21, .ref 30] σ) (fun x24 σ22 =>
  if (x24 = 0 : Prop) then (some (.inl (some (.int 1)), σ22))
    else (exec PP (d + 8) 89 48 [some (.ref a0), some (.int x1), some (.int x2)] [] σ22)) (fun e23 σ22x => some (.inr e23, σ22x))) else none := (exec_eq PP (d + 8) 89 33 _ _ σ).trans rfl
set_option maxRecDepth 20000 in
theorem e_89_48 (d : Nat) (a0 : Nat) (x1 : Int32) (x2 : Int32) (σ : SH) : exec PP (d + 8) 89 48 [some (.ref a0), some (.int x1), some (.int x2)] [] σ =
  exec PP (d + 8) 89 2 [some (.ref a0), some (.int x1), some (.int (x2 + 1))] [] σ := (exec_eq PP (d + 8) 89 48 _ _ σ).trans rfl

/-! 90: ArchEnds$Reader.readAtom(I)Z -/
set_option maxRecDepth 20000 in
theorem r_90 (d : Nat) (a0 : Nat) (x1 : Int32) (σ : SH) : exec PP (d + 8) 90 0 (lcl PP 90 [.ref a0, .int x1]) [] σ =
  gR σ 107 0 (.ref a0) fun a21 =>
  if sT σ a21 = 110 then (onR (rn 102 [.ref a21] σ) (fun a24 σ22 =>
  if (a24 : Nat) < 38 ∧ (26 : Nat) < 38 then (if (a24 : Nat) = 26 then (exec PP (d + 8) 90 22 [some (.ref a0), some (.int x1), some (.ref a24), none] [] σ22)
    else (if (a24 : Nat) < 38 ∧ (32 : Nat) < 38 then (if (a24 : Nat) = 32 then (if (x1 < 6 : Prop) then (gR σ22 107 0 (.ref a0) fun a25 =>
          if sT σ22 a25 = 110 then (onI (rn 103 [.ref a25, .ref a24] σ22) (fun x28 σ26 =>
          if (x28 = 0 : Prop) then (some (.inl (some (.int 0)), σ26))
            else (exec PP (d + 8) 90 41 [some (.ref a0), some (.int x1), some (.ref a24), none] [] σ26)) (fun e27 σ26x => some (.inr e27, σ26x))) else none)
        else (exec PP (d + 8) 90 39 [some (.ref a0), some (.int x1), some (.ref a24), none] [] σ22))
      else (exec PP (d + 8) 90 101 [some (.ref a0), some (.int x1), some (.ref a24), none] [] σ22)) else none)) else none) (fun e23 σ22x => some (.inr e23, σ22x))) else none := (exec_eq PP (d + 8) 90 0 _ _ σ).trans rfl
set_option maxRecDepth 20000 in
theorem e_90_22 (d : Nat) (a0 : Nat) (x1 : Int32) (a2 : Nat) (o3 : Option Value) (σ : SH) : exec PP (d + 8) 90 22 [some (.ref a0), some (.int x1), some (.ref a2), o3] [] σ =
  if (x1 < 6 : Prop) then (gR σ 107 0 (.ref a0) fun a21 =>
    if sT σ a21 = 110 then (onI (rn 103 [.ref a21, .ref a2] σ) (fun x24 σ22 =>
    if (x24 = 0 : Prop) then (some (.inl (some (.int 0)), σ22))
      else (exec PP (d + 8) 90 41 [some (.ref a0), some (.int x1), some (.ref a2), none] [] σ22)) (fun e23 σ22x => some (.inr e23, σ22x))) else none)
  else (exec PP (d + 8) 90 39 [some (.ref a0), some (.int x1), some (.ref a2), none] [] σ) := (exec_eq PP (d + 8) 90 22 _ _ σ).trans rfl
set_option maxRecDepth 20000 in
theorem e_90_101 (d : Nat) (a0 : Nat) (o1 : Option Value) (a2 : Nat) (o3 : Option Value) (σ : SH) : exec PP (d + 8) 90 101 [some (.ref a0), o1, some (.ref a2), o3] [] σ =
  if (a2 : Nat) < 38 ∧ (24 : Nat) < 38 then (if (a2 : Nat) = 24 then (exec PP (d + 8) 90 115 [some (.ref a0), none, some (.ref a2), none] [] σ)
  else (if (a2 : Nat) < 38 ∧ (25 : Nat) < 38 then (if (a2 : Nat) = 25 then (gI σ 109 1 (.ref a2) fun x21 =>
      if sT σ a0 = 107 then (onV (rn 91 [.ref a0, .int x21] σ) (fun σ22 =>
      gR σ22 107 0 (.ref a0) fun a24 =>
        if sT σ22 a24 = 110 then (onI (rn 103 [.ref a24, .ref a2] σ22) (fun x27 σ25 =>
        if x27 = 0 ∨ x27 = 1 then some (.inl (some (.int x27)), σ25) else none) (fun e26 σ25x => some (.inr e26, σ25x))) else none) (fun e23 σ22x => some (.inr e23, σ22x))) else none)
    else (exec PP (d + 8) 90 132 [some (.ref a0), none, some (.ref a2), none] [] σ)) else none)) else none := (exec_eq PP (d + 8) 90 101 _ _ σ).trans rfl
set_option maxRecDepth 20000 in
theorem e_90_39 (d : Nat) (o0 : Option Value) (o1 : Option Value) (o2 : Option Value) (o3 : Option Value) (σ : SH) : exec PP (d + 8) 90 39 [o0, o1, o2, o3] [] σ =
  some (.inl (some (.int 0)), σ) := (exec_eq PP (d + 8) 90 39 _ _ σ).trans rfl
set_option maxRecDepth 20000 in
theorem e_90_41 (d : Nat) (a0 : Nat) (x1 : Int32) (a2 : Nat) (o3 : Option Value) (σ : SH) : exec PP (d + 8) 90 41 [some (.ref a0), some (.int x1), some (.ref a2), o3] [] σ =
  if (a2 : Nat) < 38 ∧ (32 : Nat) < 38 then (if (a2 : Nat) = 32 then (if sT σ a0 = 107 then (onI (exec PP (d + 7) 88 0 (lcl PP 88 [.ref a0, .int (x1 + 1)]) [] σ) (fun x23 σ21 =>
    if (x23 = 0 : Prop) then (exec PP (d + 8) 90 75 [some (.ref a0), some (.int x1), some (.ref a2), none] [] σ21)
      else (gR σ21 107 0 (.ref a0) fun a24 =>
        if sT σ21 a24 = 110 then (onI (rn 103 [.ref a24, .ref 33] σ21) (fun x27 σ25 =>
        if (x27 = 0 : Prop) then (exec PP (d + 8) 90 75 [some (.ref a0), some (.int x1), some (.ref a2), none] [] σ25)
          else (exec PP (d + 8) 90 76 [some (.ref a0), some (.int x1), some (.ref a2), none] [.int 1] σ25)) (fun e26 σ25x => some (.inr e26, σ25x))) else none)) (fun e22 σ21x => some (.inr e22, σ21x))) else none)
  else (exec PP (d + 8) 90 77 [some (.ref a0), some (.int x1), some (.ref a2), none] [] σ)) else none := (exec_eq PP (d + 8) 90 41 _ _ σ).trans rfl
set_option maxRecDepth 20000 in
theorem e_90_115 (d : Nat) (a0 : Nat) (o1 : Option Value) (a2 : Nat) (o3 : Option Value) (σ : SH) : exec PP (d + 8) 90 115 [some (.ref a0), o1, some (.ref a2), o3] [] σ =
  gI σ 109 1 (.ref a2) fun x21 =>
  if sT σ a0 = 107 then (onV (rn 91 [.ref a0, .int x21] σ) (fun σ22 =>
  gR σ22 107 0 (.ref a0) fun a24 =>
    if sT σ22 a24 = 110 then (onI (rn 103 [.ref a24, .ref a2] σ22) (fun x27 σ25 =>
    if x27 = 0 ∨ x27 = 1 then some (.inl (some (.int x27)), σ25) else none) (fun e26 σ25x => some (.inr e26, σ25x))) else none) (fun e23 σ22x => some (.inr e23, σ22x))) else none := (exec_eq PP (d + 8) 90 115 _ _ σ).trans rfl
set_option maxRecDepth 20000 in
theorem e_90_132 (d : Nat) (a0 : Nat) (o1 : Option Value) (o2 : Option Value) (o3 : Option Value) (σ : SH) : exec PP (d + 8) 90 132 [some (.ref a0), o1, o2, o3] [] σ =
  if sT σ a0 = 107 then (onI (rn 92 [.ref a0] σ) (fun x23 σ21 =>
  if (x23 = 0 : Prop) then (some (.inl (some (.int 0)), σ21))
    else (exec PP (d + 8) 90 141 [some (.ref a0), none, none, none] [] σ21)) (fun e22 σ21x => some (.inr e22, σ21x))) else none := (exec_eq PP (d + 8) 90 132 _ _ σ).trans rfl
set_option maxRecDepth 20000 in
theorem e_90_77 (d : Nat) (a0 : Nat) (x1 : Int32) (o2 : Option Value) (o3 : Option Value) (σ : SH) : exec PP (d + 8) 90 77 [some (.ref a0), some (.int x1), o2, o3] [] σ =
  if sT σ a0 = 107 then (onI (exec PP (d + 7) 90 0 (lcl PP 90 [.ref a0, .int (x1 + 1)]) [] σ) (fun x23 σ21 =>
  if (x23 = 0 : Prop) then (some (.inl (some (.int 0)), σ21))
    else (exec PP (d + 8) 90 89 [some (.ref a0), some (.int x1), none, none] [] σ21)) (fun e22 σ21x => some (.inr e22, σ21x))) else none := (exec_eq PP (d + 8) 90 77 _ _ σ).trans rfl
set_option maxRecDepth 20000 in
theorem e_90_75 (d : Nat) (o0 : Option Value) (o1 : Option Value) (o2 : Option Value) (o3 : Option Value) (σ : SH) : exec PP (d + 8) 90 75 [o0, o1, o2, o3] [] σ =
  some (.inl (some (.int 0)), σ) := (exec_eq PP (d + 8) 90 75 _ _ σ).trans rfl
set_option maxRecDepth 20000 in
theorem e_90_76 (d : Nat) (o0 : Option Value) (o1 : Option Value) (o2 : Option Value) (o3 : Option Value) (w0 : Int32) (σ : SH) : exec PP (d + 8) 90 76 [o0, o1, o2, o3] [.int w0] σ =
  if w0 = 0 ∨ w0 = 1 then some (.inl (some (.int w0)), σ) else none := (exec_eq PP (d + 8) 90 76 _ _ σ).trans rfl
set_option maxRecDepth 20000 in
theorem e_90_141 (d : Nat) (a0 : Nat) (o1 : Option Value) (o2 : Option Value) (o3 : Option Value) (σ : SH) : exec PP (d + 8) 90 141 [some (.ref a0), o1, o2, o3] [] σ =
  gR σ 107 0 (.ref a0) fun a21 =>
  if sT σ a21 = 110 then (onR (rn 102 [.ref a21] σ) (fun a24 σ22 =>
  if (a24 : Nat) < 38 ∧ (28 : Nat) < 38 then (if (a24 : Nat) = 28 then (exec PP (d + 8) 90 165 [some (.ref a0), none, none, some (.ref a24)] [] σ22)
    else (if (a24 : Nat) < 38 ∧ (29 : Nat) < 38 then (if (a24 : Nat) = 29 then (exec PP (d + 8) 90 165 [some (.ref a0), none, none, some (.ref a24)] [] σ22)
      else (some (.inl (some (.int 0)), σ22))) else none)) else none) (fun e23 σ22x => some (.inr e23, σ22x))) else none := (exec_eq PP (d + 8) 90 141 _ _ σ).trans rfl
set_option maxRecDepth 20000 in
theorem e_90_89 (d : Nat) (a0 : Nat) (o1 : Option Value) (o2 : Option Value) (o3 : Option Value) (σ : SH) : exec PP (d + 8) 90 89 [some (.ref a0), o1, o2, o3] [] σ =
  gI σ 109 1 (.ref 26) fun x21 =>
  if sT σ a0 = 107 then (onV (rn 91 [.ref a0, .int x21] σ) (fun σ22 =>
  some (.inl (some (.int 1)), σ22)) (fun e23 σ22x => some (.inr e23, σ22x))) else none := (exec_eq PP (d + 8) 90 89 _ _ σ).trans rfl
set_option maxRecDepth 20000 in
theorem e_90_165 (d : Nat) (a0 : Nat) (o1 : Option Value) (o2 : Option Value) (a3 : Nat) (σ : SH) : exec PP (d + 8) 90 165 [some (.ref a0), o1, o2, some (.ref a3)] [] σ =
  gR σ 107 0 (.ref a0) fun a21 =>
  if sT σ a21 = 110 then (onI (rn 103 [.ref a21, .ref a3] σ) (fun x24 σ22 =>
  if (x24 = 0 : Prop) then (exec PP (d + 8) 90 183 [some (.ref a0), none, none, some (.ref a3)] [] σ22)
    else (if sT σ22 a0 = 107 then (onI (rn 92 [.ref a0] σ22) (fun x27 σ25 =>
      if (x27 = 0 : Prop) then (some (.inl (some (.int 0)), σ25))
        else (exec PP (d + 8) 90 185 [some (.ref a0), none, none, some (.ref a3)] [] σ25)) (fun e26 σ25x => some (.inr e26, σ25x))) else none)) (fun e23 σ22x => some (.inr e23, σ22x))) else none := (exec_eq PP (d + 8) 90 165 _ _ σ).trans rfl
set_option maxRecDepth 20000 in
theorem e_90_183 (d : Nat) (o0 : Option Value) (o1 : Option Value) (o2 : Option Value) (o3 : Option Value) (σ : SH) : exec PP (d + 8) 90 183 [o0, o1, o2, o3] [] σ =
  some (.inl (some (.int 0)), σ) := (exec_eq PP (d + 8) 90 183 _ _ σ).trans rfl
set_option maxRecDepth 20000 in
theorem e_90_185 (d : Nat) (a0 : Nat) (o1 : Option Value) (o2 : Option Value) (a3 : Nat) (σ : SH) : exec PP (d + 8) 90 185 [some (.ref a0), o1, o2, some (.ref a3)] [] σ =
  gI σ 109 1 (.ref a3) fun x21 =>
  if sT σ a0 = 107 then (onV (rn 91 [.ref a0, .int x21] σ) (fun σ22 =>
  some (.inl (some (.int 1)), σ22)) (fun e23 σ22x => some (.inr e23, σ22x))) else none := (exec_eq PP (d + 8) 90 185 _ _ σ).trans rfl

/-! 91: ArchEnds$Reader.addStep(I)V -/
set_option maxRecDepth 20000 in
theorem r_91 (a0 : Nat) (x1 : Int32) (σ : SH) : rn 91 [.ref a0, .int x1] σ =
  gI σ 107 5 (.ref a0) fun x21 =>
  gR σ 107 4 (.ref a0) fun a22 =>
  aN σ (.ref a22) fun x23 =>
  if (x21 < x23 : Prop) then (gR σ 107 4 (.ref a0) fun a24 =>
    gI σ 107 5 (.ref a0) fun x25 =>
    uI σ (.ref a24) x25 x1 fun σ26 =>
    gI σ26 107 5 (.ref a0) fun x27 =>
    pI σ26 107 5 (.ref a0) (x27 + 1) fun σ28 =>
    some (.inl none, σ28))
  else (exec PP 1 91 32 [some (.ref a0), some (.int x1)] [] σ) := (exec_eq PP 1 91 0 _ _ σ).trans rfl
set_option maxRecDepth 20000 in
theorem e_91_32 (o0 : Option Value) (o1 : Option Value) (σ : SH) : exec PP 1 91 32 [o0, o1] [] σ =
  some (.inl none, σ) := (exec_eq PP 1 91 32 _ _ σ).trans rfl

/-! 92: ArchEnds$Reader.readSum()Z -/
set_option maxRecDepth 20000 in
theorem r_92 (a0 : Nat) (σ : SH) : rn 92 [.ref a0] σ =
  exec PP 2 92 2 [some (.ref a0), some (.int 0), none] [] σ := (exec_eq PP 2 92 0 _ _ σ).trans rfl
set_option maxRecDepth 20000 in
theorem e_92_2 (a0 : Nat) (x1 : Int32) (o2 : Option Value) (σ : SH) : exec PP 2 92 2 [some (.ref a0), some (.int x1), o2] [] σ =
  if (x1 < 400 : Prop) then (gR σ 107 0 (.ref a0) fun a21 =>
    if sT σ a21 = 110 then (onR (rn 102 [.ref a21] σ) (fun a24 σ22 =>
    gR σ22 107 0 (.ref a0) fun a25 =>
      if sT σ22 a25 = 110 then (onI (rn 104 [.ref a25, .int 0, .int 999] σ22) (fun x28 σ26 =>
      if (x28 = 0 : Prop) then (exec PP 2 92 45 [some (.ref a0), some (.int x1), some (.ref a24)] [] σ26)
        else (gR σ26 107 0 (.ref a0) fun a29 =>
          gI σ26 110 7 (.ref a29) fun x30 =>
          if sT σ26 a0 = 107 then (onV (rn 91 [.ref a0, .int x30] σ26) (fun σ31 =>
          exec PP 2 92 92 [some (.ref a0), some (.int x1), some (.ref a24)] [] σ31) (fun e32 σ31x => some (.inr e32, σ31x))) else none)) (fun e27 σ26x => some (.inr e27, σ26x))) else none) (fun e23 σ22x => some (.inr e23, σ22x))) else none)
  else (exec PP 2 92 127 [some (.ref a0), some (.int x1), none] [] σ) := (exec_eq PP 2 92 2 _ _ σ).trans rfl
set_option maxRecDepth 20000 in
theorem e_92_127 (o0 : Option Value) (o1 : Option Value) (o2 : Option Value) (σ : SH) : exec PP 2 92 127 [o0, o1, o2] [] σ =
  some (.inl (some (.int 0)), σ) := (exec_eq PP 2 92 127 _ _ σ).trans rfl
set_option maxRecDepth 20000 in
theorem e_92_45 (a0 : Nat) (x1 : Int32) (a2 : Nat) (σ : SH) : exec PP 2 92 45 [some (.ref a0), some (.int x1), some (.ref a2)] [] σ =
  gI σ 109 1 (.ref a2) fun x21 =>
  if (x21 < 1000 : Prop) then (exec PP 2 92 90 [some (.ref a0), some (.int x1), some (.ref a2)] [] σ)
  else (gI σ 109 1 (.ref a2) fun x22 =>
    gI σ 109 1 (.ref 24) fun x23 =>
    if (x22 < x23 : Prop) then (gR σ 107 0 (.ref a0) fun a24 =>
      if sT σ a24 = 110 then (onI (rn 103 [.ref a24, .ref a2] σ) (fun x27 σ25 =>
      if (x27 = 0 : Prop) then (exec PP 2 92 90 [some (.ref a0), some (.int x1), some (.ref a2)] [] σ25)
        else (gI σ25 109 1 (.ref a2) fun x28 =>
          if sT σ25 a0 = 107 then (onV (rn 91 [.ref a0, .int x28] σ25) (fun σ29 =>
          exec PP 2 92 92 [some (.ref a0), some (.int x1), some (.ref a2)] [] σ29) (fun e30 σ29x => some (.inr e30, σ29x))) else none)) (fun e26 σ25x => some (.inr e26, σ25x))) else none)
    else (exec PP 2 92 90 [some (.ref a0), some (.int x1), some (.ref a2)] [] σ)) := (exec_eq PP 2 92 45 _ _ σ).trans rfl
set_option maxRecDepth 20000 in
theorem e_92_92 (a0 : Nat) (x1 : Int32) (o2 : Option Value) (σ : SH) : exec PP 2 92 92 [some (.ref a0), some (.int x1), o2] [] σ =
  if (0 < x1 : Prop) then (gI σ 109 1 (.ref 27) fun x21 =>
    if sT σ a0 = 107 then (onV (rn 91 [.ref a0, .int x21] σ) (fun σ22 =>
    gR σ22 107 0 (.ref a0) fun a24 =>
      if sT σ22 a24 = 110 then (onI (rn 103 [.ref a24, .ref 27] σ22) (fun x27 σ25 =>
      if (x27 = 0 : Prop) then (some (.inl (some (.int 1)), σ25))
        else (exec PP 2 92 121 [some (.ref a0), some (.int x1), none] [] σ25)) (fun e26 σ25x => some (.inr e26, σ25x))) else none) (fun e23 σ22x => some (.inr e23, σ22x))) else none)
  else (exec PP 2 92 106 [some (.ref a0), some (.int x1), none] [] σ) := (exec_eq PP 2 92 92 _ _ σ).trans rfl
set_option maxRecDepth 20000 in
theorem e_92_90 (o0 : Option Value) (o1 : Option Value) (o2 : Option Value) (σ : SH) : exec PP 2 92 90 [o0, o1, o2] [] σ =
  some (.inl (some (.int 0)), σ) := (exec_eq PP 2 92 90 _ _ σ).trans rfl
set_option maxRecDepth 20000 in
theorem e_92_106 (a0 : Nat) (x1 : Int32) (o2 : Option Value) (σ : SH) : exec PP 2 92 106 [some (.ref a0), some (.int x1), o2] [] σ =
  gR σ 107 0 (.ref a0) fun a21 =>
  if sT σ a21 = 110 then (onI (rn 103 [.ref a21, .ref 27] σ) (fun x24 σ22 =>
  if (x24 = 0 : Prop) then (some (.inl (some (.int 1)), σ22))
    else (exec PP 2 92 121 [some (.ref a0), some (.int x1), none] [] σ22)) (fun e23 σ22x => some (.inr e23, σ22x))) else none := (exec_eq PP 2 92 106 _ _ σ).trans rfl
set_option maxRecDepth 20000 in
theorem e_92_121 (a0 : Nat) (x1 : Int32) (o2 : Option Value) (σ : SH) : exec PP 2 92 121 [some (.ref a0), some (.int x1), o2] [] σ =
  exec PP 2 92 2 [some (.ref a0), some (.int (x1 + 1)), none] [] σ := (exec_eq PP 2 92 121 _ _ σ).trans rfl

/-! 93: ArchEnds$Shower.<init>()V -/
set_option maxRecDepth 20000 in
theorem r_93 (a0 : Nat) (σ : SH) : rn 93 [.ref a0] σ =
  if (a0 : Nat) ≠ 39 ∧ 0 ≤ 8 then
  some (.inl none, σ)
  else none := (exec_eq PP 1 93 0 _ _ σ).trans rfl

/-! 94: ArchEnds$Shower.copyFrom(LArchEnds$Shower;)V -/
set_option maxRecDepth 20000 in
theorem r_94 (a0 : Nat) (a1 : Nat) (σ : SH) : rn 94 [.ref a0, .ref a1] σ =
  gI σ 108 0 (.ref a1) fun x21 =>
  pI σ 108 0 (.ref a0) x21 fun σ22 =>
  gI σ22 108 1 (.ref a1) fun x23 =>
  pI σ22 108 1 (.ref a0) x23 fun σ24 =>
  gI σ24 108 2 (.ref a1) fun x25 =>
  pI σ24 108 2 (.ref a0) x25 fun σ26 =>
  gI σ26 108 3 (.ref a1) fun x27 =>
  pI σ26 108 3 (.ref a0) x27 fun σ28 =>
  gI σ28 108 4 (.ref a1) fun x29 =>
  pI σ28 108 4 (.ref a0) x29 fun σ30 =>
  gI σ30 108 5 (.ref a1) fun x31 =>
  pI σ30 108 5 (.ref a0) x31 fun σ32 =>
  gI σ32 108 6 (.ref a1) fun x33 =>
  pI σ32 108 6 (.ref a0) x33 fun σ34 =>
  some (.inl none, σ34) := (exec_eq PP 1 94 0 _ _ σ).trans rfl

/-! 95: ArchEnds$Shower.acresAt(I)I -/
set_option maxRecDepth 20000 in
theorem r_95 (a0 : Nat) (x1 : Int32) (σ : SH) : rn 95 [.ref a0, .int x1] σ =
  gI σ 108 2 (.ref a0) fun x21 =>
  if (x1 < x21 : Prop) then (exec PP 1 95 16 [some (.ref a0), some (.int x1), none, none, none] [] σ)
  else (gI σ 108 3 (.ref a0) fun x22 =>
    if (x22 < x1 : Prop) then (some (.inl (some (.int 0)), σ))
    else (exec PP 1 95 18 [some (.ref a0), some (.int x1), none, none, none] [] σ)) := (exec_eq PP 1 95 0 _ _ σ).trans rfl
set_option maxRecDepth 20000 in
theorem e_95_16 (o0 : Option Value) (o1 : Option Value) (o2 : Option Value) (o3 : Option Value) (o4 : Option Value) (σ : SH) : exec PP 1 95 16 [o0, o1, o2, o3, o4] [] σ =
  some (.inl (some (.int 0)), σ) := (exec_eq PP 1 95 16 _ _ σ).trans rfl
set_option maxRecDepth 20000 in
theorem e_95_18 (a0 : Nat) (x1 : Int32) (o2 : Option Value) (o3 : Option Value) (o4 : Option Value) (σ : SH) : exec PP 1 95 18 [some (.ref a0), some (.int x1), o2, o3, o4] [] σ =
  gI σ 108 4 (.ref a0) fun x21 =>
  gI σ 108 2 (.ref a0) fun x22 =>
  gI σ 108 0 (.ref a0) fun x23 =>
  if (((x23 + (x21 * ((x1 - x22) / 4))) : Int32) < 0 : Prop) then (exec PP 1 95 51 [some (.ref a0), some (.int x1), some (.int (x21 * ((x1 - x22) / 4))), none, none] [.int 0] σ)
  else (exec PP 1 95 45 [some (.ref a0), some (.int x1), some (.int (x21 * ((x1 - x22) / 4))), none, none] [] σ) := (exec_eq PP 1 95 18 _ _ σ).trans rfl
set_option maxRecDepth 20000 in
theorem e_95_45 (a0 : Nat) (o1 : Option Value) (x2 : Int32) (o3 : Option Value) (o4 : Option Value) (σ : SH) : exec PP 1 95 45 [some (.ref a0), o1, some (.int x2), o3, o4] [] σ =
  gI σ 108 0 (.ref a0) fun x21 =>
  gI σ 108 1 (.ref a0) fun x22 =>
  if (((x22 + x2) : Int32) < 16 : Prop) then (exec PP 1 95 68 [some (.ref a0), none, some (.int x2), some (.int (x21 + x2)), none] [] σ)
  else (exec PP 1 95 74 [some (.ref a0), none, some (.int x2), some (.int (x21 + x2)), none] [.int 15] σ) := (exec_eq PP 1 95 45 _ _ σ).trans rfl
set_option maxRecDepth 20000 in
theorem e_95_51 (a0 : Nat) (o1 : Option Value) (x2 : Int32) (o3 : Option Value) (o4 : Option Value) (w0 : Int32) (σ : SH) : exec PP 1 95 51 [some (.ref a0), o1, some (.int x2), o3, o4] [.int w0] σ =
  gI σ 108 1 (.ref a0) fun x21 =>
  if (((x21 + x2) : Int32) < 16 : Prop) then (exec PP 1 95 68 [some (.ref a0), none, some (.int x2), some (.int w0), none] [] σ)
  else (exec PP 1 95 74 [some (.ref a0), none, some (.int x2), some (.int w0), none] [.int 15] σ) := (exec_eq PP 1 95 51 _ _ σ).trans rfl
set_option maxRecDepth 20000 in
theorem e_95_68 (a0 : Nat) (o1 : Option Value) (x2 : Int32) (x3 : Int32) (o4 : Option Value) (σ : SH) : exec PP 1 95 68 [some (.ref a0), o1, some (.int x2), some (.int x3), o4] [] σ =
  gI σ 108 1 (.ref a0) fun x21 =>
  if ((x21 + x2) < x3 : Prop) then (some (.inl (some (.int 0)), σ))
  else (exec PP 1 95 84 [none, none, none, some (.int x3), some (.int (x21 + x2))] [] σ) := (exec_eq PP 1 95 68 _ _ σ).trans rfl
set_option maxRecDepth 20000 in
theorem e_95_74 (o0 : Option Value) (o1 : Option Value) (o2 : Option Value) (x3 : Int32) (o4 : Option Value) (w0 : Int32) (σ : SH) : exec PP 1 95 74 [o0, o1, o2, some (.int x3), o4] [.int w0] σ =
  if (w0 < x3 : Prop) then (some (.inl (some (.int 0)), σ))
  else (exec PP 1 95 84 [none, none, none, some (.int x3), some (.int w0)] [] σ) := (exec_eq PP 1 95 74 _ _ σ).trans rfl
set_option maxRecDepth 20000 in
theorem e_95_84 (o0 : Option Value) (o1 : Option Value) (o2 : Option Value) (x3 : Int32) (x4 : Int32) (σ : SH) : exec PP 1 95 84 [o0, o1, o2, some (.int x3), some (.int x4)] [] σ =
  some (.inl (some (.int ((shl 2 x4) - (shl 1 x3)))), σ) := (exec_eq PP 1 95 84 _ _ σ).trans rfl

/-! 96: ArchEnds$Tape.<init>()V -/
set_option maxRecDepth 20000 in
theorem r_96 (a0 : Nat) (σ : SH) : rn 96 [.ref a0] σ =
  if (a0 : Nat) ≠ 39 ∧ 0 ≤ 8 then
  nwA σ 1 400 fun a21 σ22 =>
  pV σ22 110 0 (.ref a0) (.ref a21) fun σ23 =>
  nwA σ23 19 401 fun a24 σ25 =>
  pV σ25 110 2 (.ref a0) (.ref a24) fun σ26 =>
  nwA σ26 1 401 fun a27 σ28 =>
  pV σ28 110 3 (.ref a0) (.ref a27) fun σ29 =>
  nwA σ29 1 401 fun a30 σ31 =>
  pV σ31 110 4 (.ref a0) (.ref a30) fun σ32 =>
  some (.inl none, σ32)
  else none := (exec_eq PP 1 96 0 _ _ σ).trans rfl

/-! 97: ArchEnds$Tape.append(I)V -/
set_option maxRecDepth 20000 in
theorem r_97 (a0 : Nat) (x1 : Int32) (σ : SH) : rn 97 [.ref a0, .int x1] σ =
  exec PP 1 97 3 [some (.ref a0), some (.int x1), some (.int 24)] [] σ := (exec_eq PP 1 97 0 _ _ σ).trans rfl
set_option maxRecDepth 20000 in
theorem e_97_3 (a0 : Nat) (x1 : Int32) (x2 : Int32) (σ : SH) : exec PP 1 97 3 [some (.ref a0), some (.int x1), some (.int x2)] [] σ =
  if (x2 < 0 : Prop) then (exec PP 1 97 51 [some (.ref a0), some (.int x1), some (.int x2)] [] σ)
  else (gI σ 110 1 (.ref a0) fun x21 =>
    gR σ 110 0 (.ref a0) fun a22 =>
    aN σ (.ref a22) fun x23 =>
    if (x21 < x23 : Prop) then (gR σ 110 0 (.ref a0) fun a24 =>
      gI σ 110 1 (.ref a0) fun x25 =>
      uI σ (.ref a24) x25 ((ush x1 x2) &&& 255) fun σ26 =>
      gI σ26 110 1 (.ref a0) fun x27 =>
      pI σ26 110 1 (.ref a0) (x27 + 1) fun σ28 =>
      exec PP 1 97 3 [some (.ref a0), some (.int x1), some (.int (x2 + (-8)))] [] σ28)
    else (exec PP 1 97 51 [some (.ref a0), some (.int x1), some (.int x2)] [] σ)) := (exec_eq PP 1 97 3 _ _ σ).trans rfl
set_option maxRecDepth 20000 in
theorem e_97_51 (o0 : Option Value) (o1 : Option Value) (o2 : Option Value) (σ : SH) : exec PP 1 97 51 [o0, o1, o2] [] σ =
  some (.inl none, σ) := (exec_eq PP 1 97 51 _ _ σ).trans rfl

/-! 98: ArchEnds$Tape.split()V -/
set_option maxRecDepth 20000 in
theorem r_98 (a0 : Nat) (σ : SH) : rn 98 [.ref a0] σ =
  pI σ 110 5 (.ref a0) 0 fun σ21 =>
  pI σ21 110 6 (.ref a0) 0 fun σ22 =>
  exec PP 7 98 14 [some (.ref a0), some (.int 3), some (.int 0), none] [] σ22 := (exec_eq PP 7 98 0 _ _ σ).trans rfl
set_option maxRecDepth 20000 in
theorem e_98_14 (a0 : Nat) (x1 : Int32) (x2 : Int32) (o3 : Option Value) (σ : SH) : exec PP 7 98 14 [some (.ref a0), some (.int x1), some (.int x2), o3] [] σ =
  gI σ 110 1 (.ref a0) fun x21 =>
  if (x2 < x21 : Prop) then (gR σ 110 0 (.ref a0) fun a22 =>
    aI σ 1 (.ref a22) x2 fun x23 =>
    onI (rn 99 [.int x23] σ) (fun x26 σ24 =>
    if (x26 = 3 : Prop) then (exec PP 7 98 66 [some (.ref a0), some (.int x1), some (.int x2), some (.int x26)] [] σ24)
      else (if (x26 = 32 : Prop) then (exec PP 7 98 66 [some (.ref a0), some (.int x1), some (.int x2), some (.int x26)] [] σ24)
        else (if (x26 = x1 : Prop) then (gR σ24 110 4 (.ref a0) fun a27 =>
            gI σ24 110 5 (.ref a0) fun x28 =>
            aI σ24 1 (.ref a27) (x28 - 1) fun x29 =>
            uI σ24 (.ref a27) (x28 - 1) (x29 + 1) fun σ30 =>
            exec PP 7 98 102 [some (.ref a0), some (.int x1), some (.int x2), some (.int x26)] [] σ30)
          else (exec PP 7 98 66 [some (.ref a0), some (.int x1), some (.int x2), some (.int x26)] [] σ24)))) (fun e25 σ24x => some (.inr e25, σ24x)))
  else (exec PP 7 98 110 [some (.ref a0), some (.int x1), some (.int x2), none] [] σ) := (exec_eq PP 7 98 14 _ _ σ).trans rfl
set_option maxRecDepth 20000 in
theorem e_98_110 (a0 : Nat) (o1 : Option Value) (o2 : Option Value) (o3 : Option Value) (σ : SH) : exec PP 7 98 110 [some (.ref a0), o1, o2, o3] [] σ =
  exec PP 7 98 112 [some (.ref a0), none, some (.int 0), none] [] σ := (exec_eq PP 7 98 110 _ _ σ).trans rfl
set_option maxRecDepth 20000 in
theorem e_98_66 (a0 : Nat) (o1 : Option Value) (x2 : Int32) (x3 : Int32) (σ : SH) : exec PP 7 98 66 [some (.ref a0), o1, some (.int x2), some (.int x3)] [] σ =
  if (x3 = 32 : Prop) then (exec PP 7 98 102 [some (.ref a0), none, some (.int x2), some (.int x3)] [] σ)
  else (gR σ 110 3 (.ref a0) fun a21 =>
    gI σ 110 5 (.ref a0) fun x22 =>
    uI σ (.ref a21) x22 x2 fun σ23 =>
    gR σ23 110 4 (.ref a0) fun a24 =>
    gI σ23 110 5 (.ref a0) fun x25 =>
    uI σ23 (.ref a24) x25 1 fun σ26 =>
    gI σ26 110 5 (.ref a0) fun x27 =>
    pI σ26 110 5 (.ref a0) (x27 + 1) fun σ28 =>
    exec PP 7 98 14 [some (.ref a0), some (.int x3), some (.int (x2 + 1)), some (.int x3)] [] σ28) := (exec_eq PP 7 98 66 _ _ σ).trans rfl
set_option maxRecDepth 20000 in
theorem e_98_102 (a0 : Nat) (o1 : Option Value) (x2 : Int32) (x3 : Int32) (σ : SH) : exec PP 7 98 102 [some (.ref a0), o1, some (.int x2), some (.int x3)] [] σ =
  exec PP 7 98 14 [some (.ref a0), some (.int x3), some (.int (x2 + 1)), some (.int x3)] [] σ := (exec_eq PP 7 98 102 _ _ σ).trans rfl
set_option maxRecDepth 20000 in
theorem e_98_112 (a0 : Nat) (o1 : Option Value) (x2 : Int32) (o3 : Option Value) (σ : SH) : exec PP 7 98 112 [some (.ref a0), o1, some (.int x2), o3] [] σ =
  gI σ 110 5 (.ref a0) fun x21 =>
  if (x2 < x21 : Prop) then (gR σ 110 2 (.ref a0) fun a22 =>
    gR σ 110 3 (.ref a0) fun a23 =>
    aI σ 1 (.ref a23) x2 fun x24 =>
    gR σ 110 4 (.ref a0) fun a25 =>
    aI σ 1 (.ref a25) x2 fun x26 =>
    if sT σ a0 = 110 then (onR (rn 100 [.ref a0, .int x24, .int x26] σ) (fun a29 σ27 =>
    uR σ27 (.ref a22) x2 (.ref a29) fun σ30 =>
      exec PP 7 98 112 [some (.ref a0), none, some (.int (x2 + 1)), none] [] σ30) (fun e28 σ27x => some (.inr e28, σ27x))) else none)
  else (exec PP 7 98 148 [some (.ref a0), none, some (.int x2), none] [] σ) := (exec_eq PP 7 98 112 _ _ σ).trans rfl
set_option maxRecDepth 20000 in
theorem e_98_148 (a0 : Nat) (o1 : Option Value) (o2 : Option Value) (o3 : Option Value) (σ : SH) : exec PP 7 98 148 [some (.ref a0), o1, o2, o3] [] σ =
  gR σ 110 2 (.ref a0) fun a21 =>
  gI σ 110 5 (.ref a0) fun x22 =>
  uR σ (.ref a21) x22 (.ref 37) fun σ23 =>
  gR σ23 110 3 (.ref a0) fun a24 =>
  gI σ23 110 5 (.ref a0) fun x25 =>
  gI σ23 110 1 (.ref a0) fun x26 =>
  uI σ23 (.ref a24) x25 x26 fun σ27 =>
  some (.inl none, σ27) := (exec_eq PP 7 98 148 _ _ σ).trans rfl

/-! 99: ArchEnds$Tape.kindOf(I)I -/
set_option maxRecDepth 20000 in
theorem r_99 (x0 : Int32) (σ : SH) : rn 99 [.int x0] σ =
  if (x0 = 32 : Prop) then (some (.inl (some (.int 32)), σ))
  else (exec PP 1 99 9 [some (.int x0)] [] σ) := (exec_eq PP 1 99 0 _ _ σ).trans rfl
set_option maxRecDepth 20000 in
theorem e_99_9 (x0 : Int32) (σ : SH) : exec PP 1 99 9 [some (.int x0)] [] σ =
  if (x0 < 97 : Prop) then (exec PP 1 99 23 [some (.int x0)] [] σ)
  else (if (122 < x0 : Prop) then (exec PP 1 99 23 [some (.int x0)] [] σ)
    else (some (.inl (some (.int 1)), σ))) := (exec_eq PP 1 99 9 _ _ σ).trans rfl
set_option maxRecDepth 20000 in
theorem e_99_23 (x0 : Int32) (σ : SH) : exec PP 1 99 23 [some (.int x0)] [] σ =
  if (x0 < 48 : Prop) then (exec PP 1 99 39 [some (.int x0)] [] σ)
  else (if (57 < x0 : Prop) then (exec PP 1 99 39 [some (.int x0)] [] σ)
    else (exec PP 1 99 40 [some (.int x0)] [.int 2] σ)) := (exec_eq PP 1 99 23 _ _ σ).trans rfl
set_option maxRecDepth 20000 in
theorem e_99_39 (o0 : Option Value) (σ : SH) : exec PP 1 99 39 [o0] [] σ =
  some (.inl (some (.int 3)), σ) := (exec_eq PP 1 99 39 _ _ σ).trans rfl
set_option maxRecDepth 20000 in
theorem e_99_40 (o0 : Option Value) (w0 : Int32) (σ : SH) : exec PP 1 99 40 [o0] [.int w0] σ =
  some (.inl (some (.int w0)), σ) := (exec_eq PP 1 99 40 _ _ σ).trans rfl

/-! 100: ArchEnds$Tape.signOf(II)LArchEnds$Sign; -/
set_option maxRecDepth 20000 in
theorem r_100 (a0 : Nat) (x1 : Int32) (x2 : Int32) (σ : SH) : rn 100 [.ref a0, .int x1, .int x2] σ =
  gR σ 110 0 (.ref a0) fun a21 =>
  aI σ 1 (.ref a21) x1 fun x22 =>
  onI (rn 99 [.int x22] σ) (fun x25 σ23 =>
  if (x25 = 2 : Prop) then (if (3 < x2 : Prop) then (exec PP 6 100 24 [some (.ref a0), some (.int x1), some (.int x2), none] [] σ23)
      else (exec PP 6 100 27 [some (.ref a0), some (.int x1), some (.int x2), none] [.ref 35] σ23))
    else (exec PP 6 100 28 [some (.ref a0), some (.int x1), some (.int x2), none] [] σ23)) (fun e24 σ23x => some (.inr e24, σ23x)) := (exec_eq PP 6 100 0 _ _ σ).trans rfl
set_option maxRecDepth 20000 in
theorem e_100_28 (a0 : Nat) (x1 : Int32) (x2 : Int32) (o3 : Option Value) (σ : SH) : exec PP 6 100 28 [some (.ref a0), some (.int x1), some (.int x2), o3] [] σ =
  exec PP 6 100 30 [some (.ref a0), some (.int x1), some (.int x2), some (.int 0)] [] σ := (exec_eq PP 6 100 28 _ _ σ).trans rfl
set_option maxRecDepth 20000 in
theorem e_100_24 (o0 : Option Value) (o1 : Option Value) (o2 : Option Value) (o3 : Option Value) (σ : SH) : exec PP 6 100 24 [o0, o1, o2, o3] [] σ =
  some (.inl (some (.ref 36)), σ) := (exec_eq PP 6 100 24 _ _ σ).trans rfl
set_option maxRecDepth 20000 in
theorem e_100_27 (o0 : Option Value) (o1 : Option Value) (o2 : Option Value) (o3 : Option Value) (b0 : Nat) (σ : SH) : exec PP 6 100 27 [o0, o1, o2, o3] [.ref b0] σ =
  some (.inl (some (.ref b0)), σ) := (exec_eq PP 6 100 27 _ _ σ).trans rfl
set_option maxRecDepth 20000 in
theorem e_100_30 (a0 : Nat) (x1 : Int32) (x2 : Int32) (x3 : Int32) (σ : SH) : exec PP 6 100 30 [some (.ref a0), some (.int x1), some (.int x2), some (.int x3)] [] σ =
  aN σ (.ref 38) fun x21 =>
  if (x3 < x21 : Prop) then (aS σ (.ref 38) x3 fun a22 =>
    gR σ 109 0 (.ref a22) fun a23 =>
    if sT σ a0 = 110 then (onI (rn 101 [.ref a0, .ref a23, .int x1, .int x2] σ) (fun x26 σ24 =>
    if (x26 = 0 : Prop) then (exec PP 6 100 61 [some (.ref a0), some (.int x1), some (.int x2), some (.int x3)] [] σ24)
      else (aS σ24 (.ref 38) x3 fun a27 =>
        some (.inl (some (.ref a27)), σ24))) (fun e25 σ24x => some (.inr e25, σ24x))) else none)
  else (exec PP 6 100 67 [some (.ref a0), some (.int x1), some (.int x2), some (.int x3)] [] σ) := (exec_eq PP 6 100 30 _ _ σ).trans rfl
set_option maxRecDepth 20000 in
theorem e_100_67 (o0 : Option Value) (o1 : Option Value) (o2 : Option Value) (o3 : Option Value) (σ : SH) : exec PP 6 100 67 [o0, o1, o2, o3] [] σ =
  some (.inl (some (.ref 36)), σ) := (exec_eq PP 6 100 67 _ _ σ).trans rfl
set_option maxRecDepth 20000 in
theorem e_100_61 (a0 : Nat) (x1 : Int32) (x2 : Int32) (x3 : Int32) (σ : SH) : exec PP 6 100 61 [some (.ref a0), some (.int x1), some (.int x2), some (.int x3)] [] σ =
  exec PP 6 100 30 [some (.ref a0), some (.int x1), some (.int x2), some (.int (x3 + 1))] [] σ := (exec_eq PP 6 100 61 _ _ σ).trans rfl

/-! 101: ArchEnds$Tape.matches(Ljava/lang/String;II)Z -/
set_option maxRecDepth 20000 in
theorem r_101 (a0 : Nat) (a1 : Nat) (x2 : Int32) (x3 : Int32) (σ : SH) : rn 101 [.ref a0, .ref a1, .int x2, .int x3] σ =
  if sT σ a1 = 113 then (onI (rn 318 [.ref a1] σ) (fun x23 σ21 =>
  if (x23 = x3 : Prop) then (exec PP 5 101 10 [some (.ref a0), some (.ref a1), some (.int x2), some (.int x3), none] [] σ21)
    else (some (.inl (some (.int 0)), σ21))) (fun e22 σ21x => some (.inr e22, σ21x))) else none := (exec_eq PP 5 101 0 _ _ σ).trans rfl
set_option maxRecDepth 20000 in
theorem e_101_10 (a0 : Nat) (a1 : Nat) (x2 : Int32) (x3 : Int32) (o4 : Option Value) (σ : SH) : exec PP 5 101 10 [some (.ref a0), some (.ref a1), some (.int x2), some (.int x3), o4] [] σ =
  exec PP 5 101 13 [some (.ref a0), some (.ref a1), some (.int x2), some (.int x3), some (.int 0)] [] σ := (exec_eq PP 5 101 10 _ _ σ).trans rfl
set_option maxRecDepth 20000 in
theorem e_101_13 (a0 : Nat) (a1 : Nat) (x2 : Int32) (x3 : Int32) (x4 : Int32) (σ : SH) : exec PP 5 101 13 [some (.ref a0), some (.ref a1), some (.int x2), some (.int x3), some (.int x4)] [] σ =
  if (x4 < x3 : Prop) then (if sT σ a1 = 113 then (onI (rn 320 [.ref a1, .int x4] σ) (fun x23 σ21 =>
    gR σ21 110 0 (.ref a0) fun a24 =>
      aI σ21 1 (.ref a24) (x2 + x4) fun x25 =>
      if (x23 = x25 : Prop) then (exec PP 5 101 39 [some (.ref a0), some (.ref a1), some (.int x2), some (.int x3), some (.int x4)] [] σ21)
      else (some (.inl (some (.int 0)), σ21))) (fun e22 σ21x => some (.inr e22, σ21x))) else none)
  else (exec PP 5 101 45 [some (.ref a0), some (.ref a1), some (.int x2), some (.int x3), some (.int x4)] [] σ) := (exec_eq PP 5 101 13 _ _ σ).trans rfl
set_option maxRecDepth 20000 in
theorem e_101_45 (o0 : Option Value) (o1 : Option Value) (o2 : Option Value) (o3 : Option Value) (o4 : Option Value) (σ : SH) : exec PP 5 101 45 [o0, o1, o2, o3, o4] [] σ =
  some (.inl (some (.int 1)), σ) := (exec_eq PP 5 101 45 _ _ σ).trans rfl
set_option maxRecDepth 20000 in
theorem e_101_39 (a0 : Nat) (a1 : Nat) (x2 : Int32) (x3 : Int32) (x4 : Int32) (σ : SH) : exec PP 5 101 39 [some (.ref a0), some (.ref a1), some (.int x2), some (.int x3), some (.int x4)] [] σ =
  exec PP 5 101 13 [some (.ref a0), some (.ref a1), some (.int x2), some (.int x3), some (.int (x4 + 1))] [] σ := (exec_eq PP 5 101 39 _ _ σ).trans rfl

/-! 102: ArchEnds$Tape.next()LArchEnds$Sign; -/
set_option maxRecDepth 20000 in
theorem r_102 (a0 : Nat) (σ : SH) : rn 102 [.ref a0] σ =
  gR σ 110 2 (.ref a0) fun a21 =>
  gI σ 110 6 (.ref a0) fun x22 =>
  aR σ (.ref a21) x22 fun a23 =>
  some (.inl (some (.ref a23)), σ) := (exec_eq PP 1 102 0 _ _ σ).trans rfl

/-! 103: ArchEnds$Tape.pass(LArchEnds$Sign;)Z -/
set_option maxRecDepth 20000 in
theorem r_103 (a0 : Nat) (a1 : Nat) (σ : SH) : rn 103 [.ref a0, .ref a1] σ =
  gR σ 110 2 (.ref a0) fun a21 =>
  gI σ 110 6 (.ref a0) fun x22 =>
  aR σ (.ref a21) x22 fun a23 =>
  if (a23 : Nat) < 38 ∧ (a1 : Nat) < 38 then (if (a23 : Nat) = a1 then (gI σ 110 6 (.ref a0) fun x24 =>
    gI σ 110 5 (.ref a0) fun x25 =>
    if (x24 < x25 : Prop) then (exec PP 1 103 26 [some (.ref a0), some (.ref a1)] [] σ)
    else (some (.inl (some (.int 0)), σ)))
  else (exec PP 1 103 24 [some (.ref a0), some (.ref a1)] [] σ)) else none := (exec_eq PP 1 103 0 _ _ σ).trans rfl
set_option maxRecDepth 20000 in
theorem e_103_24 (o0 : Option Value) (o1 : Option Value) (σ : SH) : exec PP 1 103 24 [o0, o1] [] σ =
  some (.inl (some (.int 0)), σ) := (exec_eq PP 1 103 24 _ _ σ).trans rfl
set_option maxRecDepth 20000 in
theorem e_103_26 (a0 : Nat) (o1 : Option Value) (σ : SH) : exec PP 1 103 26 [some (.ref a0), o1] [] σ =
  gI σ 110 6 (.ref a0) fun x21 =>
  pI σ 110 6 (.ref a0) (x21 + 1) fun σ22 =>
  some (.inl (some (.int 1)), σ22) := (exec_eq PP 1 103 26 _ _ σ).trans rfl

/-! 104: ArchEnds$Tape.passNumber(II)Z -/
set_option maxRecDepth 20000 in
theorem r_104 (a0 : Nat) (x1 : Int32) (x2 : Int32) (σ : SH) : rn 104 [.ref a0, .int x1, .int x2] σ =
  gR σ 110 2 (.ref a0) fun a21 =>
  gI σ 110 6 (.ref a0) fun x22 =>
  aR σ (.ref a21) x22 fun a23 =>
  if (a23 : Nat) < 38 ∧ (35 : Nat) < 38 then (if (a23 : Nat) = 35 then (exec PP 1 104 17 [some (.ref a0), some (.int x1), some (.int x2), none, none] [] σ)
  else (some (.inl (some (.int 0)), σ))) else none := (exec_eq PP 1 104 0 _ _ σ).trans rfl
set_option maxRecDepth 20000 in
theorem e_104_17 (a0 : Nat) (x1 : Int32) (x2 : Int32) (o3 : Option Value) (o4 : Option Value) (σ : SH) : exec PP 1 104 17 [some (.ref a0), some (.int x1), some (.int x2), o3, o4] [] σ =
  exec PP 1 104 22 [some (.ref a0), some (.int x1), some (.int x2), some (.int 0), some (.int 0)] [] σ := (exec_eq PP 1 104 17 _ _ σ).trans rfl
set_option maxRecDepth 20000 in
theorem e_104_22 (a0 : Nat) (x1 : Int32) (x2 : Int32) (x3 : Int32) (x4 : Int32) (σ : SH) : exec PP 1 104 22 [some (.ref a0), some (.int x1), some (.int x2), some (.int x3), some (.int x4)] [] σ =
  gR σ 110 4 (.ref a0) fun a21 =>
  gI σ 110 6 (.ref a0) fun x22 =>
  aI σ 1 (.ref a21) x22 fun x23 =>
  if (x4 < x23 : Prop) then (gR σ 110 0 (.ref a0) fun a24 =>
    gR σ 110 3 (.ref a0) fun a25 =>
    gI σ 110 6 (.ref a0) fun x26 =>
    aI σ 1 (.ref a25) x26 fun x27 =>
    aI σ 1 (.ref a24) (x27 + x4) fun x28 =>
    exec PP 1 104 22 [some (.ref a0), some (.int x1), some (.int x2), some (.int (((10 * x3) + x28) - 48)), some (.int (x4 + 1))] [] σ)
  else (exec PP 1 104 68 [some (.ref a0), some (.int x1), some (.int x2), some (.int x3), some (.int x4)] [] σ) := (exec_eq PP 1 104 22 _ _ σ).trans rfl
set_option maxRecDepth 20000 in
theorem e_104_68 (a0 : Nat) (x1 : Int32) (x2 : Int32) (x3 : Int32) (o4 : Option Value) (σ : SH) : exec PP 1 104 68 [some (.ref a0), some (.int x1), some (.int x2), some (.int x3), o4] [] σ =
  if (x3 < x1 : Prop) then (exec PP 1 104 78 [some (.ref a0), some (.int x1), some (.int x2), some (.int x3), none] [] σ)
  else (if (x2 < x3 : Prop) then (some (.inl (some (.int 0)), σ))
    else (exec PP 1 104 80 [some (.ref a0), some (.int x1), some (.int x2), some (.int x3), none] [] σ)) := (exec_eq PP 1 104 68 _ _ σ).trans rfl
set_option maxRecDepth 20000 in
theorem e_104_78 (o0 : Option Value) (o1 : Option Value) (o2 : Option Value) (o3 : Option Value) (o4 : Option Value) (σ : SH) : exec PP 1 104 78 [o0, o1, o2, o3, o4] [] σ =
  some (.inl (some (.int 0)), σ) := (exec_eq PP 1 104 78 _ _ σ).trans rfl
set_option maxRecDepth 20000 in
theorem e_104_80 (a0 : Nat) (o1 : Option Value) (o2 : Option Value) (x3 : Int32) (o4 : Option Value) (σ : SH) : exec PP 1 104 80 [some (.ref a0), o1, o2, some (.int x3), o4] [] σ =
  pI σ 110 7 (.ref a0) x3 fun σ21 =>
  gI σ21 110 6 (.ref a0) fun x22 =>
  pI σ21 110 6 (.ref a0) (x22 + 1) fun σ23 =>
  some (.inl (some (.int 1)), σ23) := (exec_eq PP 1 104 80 _ _ σ).trans rfl

/-! 105: ArchEnds$Tape.nextBegin()I -/
set_option maxRecDepth 20000 in
theorem r_105 (a0 : Nat) (σ : SH) : rn 105 [.ref a0] σ =
  gR σ 110 3 (.ref a0) fun a21 =>
  gI σ 110 6 (.ref a0) fun x22 =>
  aI σ 1 (.ref a21) x22 fun x23 =>
  some (.inl (some (.int x23)), σ) := (exec_eq PP 1 105 0 _ _ σ).trans rfl
