/-! 24: ArchEnds$Forecast.<init>(LArchEnds$County;)V -/
set_option maxRecDepth 20000 in
theorem r_24 (a0 : Nat) (a1 : Nat) (σ : SH) : rn 24 [.ref a0, .ref a1] σ =
  if (a0 : Nat) ≠ 39 ∧ 0 ≤ 8 then
  nwA σ 1 16 fun a21 σ22 =>
  pV σ22 103 1 (.ref a0) (.ref a21) fun σ23 =>
  pV σ23 103 0 (.ref a0) (.ref a1) fun σ24 =>
  some (.inl none, σ24)
  else none := (exec_eq PP 1 24 0 _ _ σ).trans rfl

/-! 25: ArchEnds$Forecast.minutesToDry()I -/
set_option maxRecDepth 20000 in
theorem r_25 (a0 : Nat) (σ : SH) : rn 25 [.ref a0] σ =
  exec PP 1 25 4 [some (.ref a0), some (.int 0), some (.int 0), none, none] [] σ := (exec_eq PP 1 25 0 _ _ σ).trans rfl
set_option maxRecDepth 20000 in
theorem e_25_4 (a0 : Nat) (x1 : Int32) (x2 : Int32) (o3 : Option Value) (o4 : Option Value) (σ : SH) : exec PP 1 25 4 [some (.ref a0), some (.int x1), some (.int x2), o3, o4] [] σ =
  gR σ 103 0 (.ref a0) fun a21 =>
  gI σ 101 4 (.ref a21) fun x22 =>
  if (x2 < x22 : Prop) then (gR σ 103 0 (.ref a0) fun a23 =>
    gR σ 101 0 (.ref a23) fun a24 =>
    aR σ (.ref a24) x2 fun a25 =>
    gI σ 108 3 (.ref a25) fun x26 =>
    gR σ 103 0 (.ref a0) fun a27 =>
    gI σ 101 10 (.ref a27) fun x28 =>
    gI σ 108 6 (.ref a25) fun x29 =>
    if (x29 = 2 : Prop) then (exec PP 1 25 58 [some (.ref a0), some (.int x1), some (.int x2), some (.ref a25), some (.int ((x26 + 1) - x28))] [] σ)
    else (if (x1 < (((x26 + 1) - x28) : Int32) : Prop) then (exec PP 1 25 4 [some (.ref a0), some (.int ((x26 + 1) - x28)), some (.int (x2 + 1)), none, none] [] σ)
      else (exec PP 1 25 58 [some (.ref a0), some (.int x1), some (.int x2), some (.ref a25), some (.int ((x26 + 1) - x28))] [] σ)))
  else (exec PP 1 25 64 [some (.ref a0), some (.int x1), some (.int x2), none, none] [] σ) := (exec_eq PP 1 25 4 _ _ σ).trans rfl
set_option maxRecDepth 20000 in
theorem e_25_64 (o0 : Option Value) (x1 : Int32) (o2 : Option Value) (o3 : Option Value) (o4 : Option Value) (σ : SH) : exec PP 1 25 64 [o0, some (.int x1), o2, o3, o4] [] σ =
  if (200 < x1 : Prop) then (exec PP 1 25 76 [none, some (.int x1), none, none, none] [.int (-1)] σ)
  else (exec PP 1 25 75 [none, some (.int x1), none, none, none] [] σ) := (exec_eq PP 1 25 64 _ _ σ).trans rfl
set_option maxRecDepth 20000 in
theorem e_25_58 (a0 : Nat) (x1 : Int32) (x2 : Int32) (o3 : Option Value) (o4 : Option Value) (σ : SH) : exec PP 1 25 58 [some (.ref a0), some (.int x1), some (.int x2), o3, o4] [] σ =
  exec PP 1 25 4 [some (.ref a0), some (.int x1), some (.int (x2 + 1)), none, none] [] σ := (exec_eq PP 1 25 58 _ _ σ).trans rfl
set_option maxRecDepth 20000 in
theorem e_25_75 (o0 : Option Value) (x1 : Int32) (o2 : Option Value) (o3 : Option Value) (o4 : Option Value) (σ : SH) : exec PP 1 25 75 [o0, some (.int x1), o2, o3, o4] [] σ =
  some (.inl (some (.int x1)), σ) := (exec_eq PP 1 25 75 _ _ σ).trans rfl
set_option maxRecDepth 20000 in
theorem e_25_76 (o0 : Option Value) (o1 : Option Value) (o2 : Option Value) (o3 : Option Value) (o4 : Option Value) (w0 : Int32) (σ : SH) : exec PP 1 25 76 [o0, o1, o2, o3, o4] [.int w0] σ =
  some (.inl (some (.int w0)), σ) := (exec_eq PP 1 25 76 _ _ σ).trans rfl

/-! 26: ArchEnds$Forecast.looksAt(II)I -/
set_option maxRecDepth 20000 in
theorem r_26 (a0 : Nat) (x1 : Int32) (x2 : Int32) (σ : SH) : rn 26 [.ref a0, .int x1, .int x2] σ =
  exec PP 5 26 5 [some (.ref a0), some (.int x1), some (.int x2), some (.int 0), some (.int 0)] [] σ := (exec_eq PP 5 26 0 _ _ σ).trans rfl
set_option maxRecDepth 20000 in
theorem e_26_5 (a0 : Nat) (x1 : Int32) (x2 : Int32) (x3 : Int32) (x4 : Int32) (σ : SH) : exec PP 5 26 5 [some (.ref a0), some (.int x1), some (.int x2), some (.int x3), some (.int x4)] [] σ =
  if (x4 < 16 : Prop) then (gR σ 103 0 (.ref a0) fun a21 =>
    if sT σ a21 = 101 then (onI (rn 20 [.ref a21, .int x4, .int x2] σ) (fun x24 σ22 =>
    if (x24 = x1 : Prop) then (exec PP 5 26 5 [some (.ref a0), some (.int x1), some (.int x2), some (.int (x3 ||| (shl 1 x4))), some (.int (x4 + 1))] [] σ22)
      else (exec PP 5 26 33 [some (.ref a0), some (.int x1), some (.int x2), some (.int x3), some (.int x4)] [] σ22)) (fun e23 σ22x => some (.inr e23, σ22x))) else none)
  else (exec PP 5 26 39 [some (.ref a0), some (.int x1), some (.int x2), some (.int x3), some (.int x4)] [] σ) := (exec_eq PP 5 26 5 _ _ σ).trans rfl
set_option maxRecDepth 20000 in
theorem e_26_39 (o0 : Option Value) (o1 : Option Value) (o2 : Option Value) (x3 : Int32) (o4 : Option Value) (σ : SH) : exec PP 5 26 39 [o0, o1, o2, some (.int x3), o4] [] σ =
  some (.inl (some (.int x3)), σ) := (exec_eq PP 5 26 39 _ _ σ).trans rfl
set_option maxRecDepth 20000 in
theorem e_26_33 (a0 : Nat) (x1 : Int32) (x2 : Int32) (x3 : Int32) (x4 : Int32) (σ : SH) : exec PP 5 26 33 [some (.ref a0), some (.int x1), some (.int x2), some (.int x3), some (.int x4)] [] σ =
  exec PP 5 26 5 [some (.ref a0), some (.int x1), some (.int x2), some (.int x3), some (.int (x4 + 1))] [] σ := (exec_eq PP 5 26 33 _ _ σ).trans rfl

/-! 27: ArchEnds$Forecast.standsOn(III)I -/
set_option maxRecDepth 20000 in
theorem r_27 (a0 : Nat) (x1 : Int32) (x2 : Int32) (x3 : Int32) (σ : SH) : rn 27 [.ref a0, .int x1, .int x2, .int x3] σ =
  exec PP 5 27 6 [some (.ref a0), some (.int x1), some (.int x2), some (.int x3), some (.int 0), some (.int x2)] [] σ := (exec_eq PP 5 27 0 _ _ σ).trans rfl
set_option maxRecDepth 20000 in
theorem e_27_6 (a0 : Nat) (x1 : Int32) (x2 : Int32) (x3 : Int32) (x4 : Int32) (x5 : Int32) (σ : SH) : exec PP 5 27 6 [some (.ref a0), some (.int x1), some (.int x2), some (.int x3), some (.int x4), some (.int x5)] [] σ =
  if (x5 < (x2 + x3) : Prop) then (gR σ 103 0 (.ref a0) fun a21 =>
    gR σ 103 0 (.ref a0) fun a22 =>
    gI σ 101 8 (.ref a22) fun x23 =>
    if sT σ a21 = 101 then (onI (rn 20 [.ref a21, .int x23, .int x5] σ) (fun x26 σ24 =>
    if (x26 = x1 : Prop) then (exec PP 5 27 6 [some (.ref a0), some (.int x1), some (.int x2), some (.int x3), some (.int (x4 + 1)), some (.int (x5 + 1))] [] σ24)
      else (exec PP 5 27 37 [some (.ref a0), some (.int x1), some (.int x2), some (.int x3), some (.int x4), some (.int x5)] [] σ24)) (fun e25 σ24x => some (.inr e25, σ24x))) else none)
  else (exec PP 5 27 43 [some (.ref a0), some (.int x1), some (.int x2), some (.int x3), some (.int x4), some (.int x5)] [] σ) := (exec_eq PP 5 27 6 _ _ σ).trans rfl
set_option maxRecDepth 20000 in
theorem e_27_43 (o0 : Option Value) (o1 : Option Value) (o2 : Option Value) (o3 : Option Value) (x4 : Int32) (o5 : Option Value) (σ : SH) : exec PP 5 27 43 [o0, o1, o2, o3, some (.int x4), o5] [] σ =
  some (.inl (some (.int x4)), σ) := (exec_eq PP 5 27 43 _ _ σ).trans rfl
set_option maxRecDepth 20000 in
theorem e_27_37 (a0 : Nat) (x1 : Int32) (x2 : Int32) (x3 : Int32) (x4 : Int32) (x5 : Int32) (σ : SH) : exec PP 5 27 37 [some (.ref a0), some (.int x1), some (.int x2), some (.int x3), some (.int x4), some (.int x5)] [] σ =
  exec PP 5 27 6 [some (.ref a0), some (.int x1), some (.int x2), some (.int x3), some (.int x4), some (.int (x5 + 1))] [] σ := (exec_eq PP 5 27 37 _ _ σ).trans rfl

/-! 28: ArchEnds$Forecast.bestAcre(II)I -/
set_option maxRecDepth 20000 in
theorem r_28 (a0 : Nat) (x1 : Int32) (x2 : Int32) (σ : SH) : rn 28 [.ref a0, .int x1, .int x2] σ =
  if sT σ a0 = 103 then (onV (rn 29 [.ref a0] σ) (fun σ21 =>
  exec PP 5 28 6 [some (.ref a0), some (.int x1), some (.int x2), some (.int x1), none] [] σ21) (fun e22 σ21x => some (.inr e22, σ21x))) else none := (exec_eq PP 5 28 0 _ _ σ).trans rfl
set_option maxRecDepth 20000 in
theorem e_28_6 (a0 : Nat) (x1 : Int32) (x2 : Int32) (x3 : Int32) (o4 : Option Value) (σ : SH) : exec PP 5 28 6 [some (.ref a0), some (.int x1), some (.int x2), some (.int x3), o4] [] σ =
  if (x3 < (x1 + x2) : Prop) then (gR σ 103 0 (.ref a0) fun a21 =>
    gR σ 103 0 (.ref a0) fun a22 =>
    gI σ 101 8 (.ref a22) fun x23 =>
    if sT σ a21 = 101 then (onI (rn 20 [.ref a21, .int x23, .int x3] σ) (fun x26 σ24 =>
    if (x26 = (-1) : Prop) then (exec PP 5 28 47 [some (.ref a0), some (.int x1), some (.int x2), some (.int x3), some (.int x26)] [] σ24)
      else (gR σ24 103 1 (.ref a0) fun a27 =>
        aI σ24 1 (.ref a27) x26 fun x28 =>
        uI σ24 (.ref a27) x26 (x28 + 1) fun σ29 =>
        exec PP 5 28 6 [some (.ref a0), some (.int x1), some (.int x2), some (.int (x3 + 1)), none] [] σ29)) (fun e25 σ24x => some (.inr e25, σ24x))) else none)
  else (exec PP 5 28 53 [some (.ref a0), some (.int x1), some (.int x2), some (.int x3), none] [] σ) := (exec_eq PP 5 28 6 _ _ σ).trans rfl
set_option maxRecDepth 20000 in
theorem e_28_53 (a0 : Nat) (o1 : Option Value) (o2 : Option Value) (o3 : Option Value) (o4 : Option Value) (σ : SH) : exec PP 5 28 53 [some (.ref a0), o1, o2, o3, o4] [] σ =
  if sT σ a0 = 103 then (onI (rn 30 [.ref a0] σ) (fun x23 σ21 =>
  some (.inl (some (.int x23)), σ21)) (fun e22 σ21x => some (.inr e22, σ21x))) else none := (exec_eq PP 5 28 53 _ _ σ).trans rfl
set_option maxRecDepth 20000 in
theorem e_28_47 (a0 : Nat) (x1 : Int32) (x2 : Int32) (x3 : Int32) (o4 : Option Value) (σ : SH) : exec PP 5 28 47 [some (.ref a0), some (.int x1), some (.int x2), some (.int x3), o4] [] σ =
  exec PP 5 28 6 [some (.ref a0), some (.int x1), some (.int x2), some (.int (x3 + 1)), none] [] σ := (exec_eq PP 5 28 47 _ _ σ).trans rfl

/-! 29: ArchEnds$Forecast.clearStood()V -/
set_option maxRecDepth 20000 in
theorem r_29 (a0 : Nat) (σ : SH) : rn 29 [.ref a0] σ =
  exec PP 1 29 2 [some (.ref a0), some (.int 0)] [] σ := (exec_eq PP 1 29 0 _ _ σ).trans rfl
set_option maxRecDepth 20000 in
theorem e_29_2 (a0 : Nat) (x1 : Int32) (σ : SH) : exec PP 1 29 2 [some (.ref a0), some (.int x1)] [] σ =
  if (x1 < 16 : Prop) then (gR σ 103 1 (.ref a0) fun a21 =>
    uI σ (.ref a21) x1 0 fun σ22 =>
    exec PP 1 29 2 [some (.ref a0), some (.int (x1 + 1))] [] σ22)
  else (exec PP 1 29 21 [some (.ref a0), some (.int x1)] [] σ) := (exec_eq PP 1 29 2 _ _ σ).trans rfl
set_option maxRecDepth 20000 in
theorem e_29_21 (o0 : Option Value) (o1 : Option Value) (σ : SH) : exec PP 1 29 21 [o0, o1] [] σ =
  some (.inl none, σ) := (exec_eq PP 1 29 21 _ _ σ).trans rfl

/-! 30: ArchEnds$Forecast.firstOfMost()I -/
set_option maxRecDepth 20000 in
theorem r_30 (a0 : Nat) (σ : SH) : rn 30 [.ref a0] σ =
  exec PP 1 30 4 [some (.ref a0), some (.int 0), some (.int 1)] [] σ := (exec_eq PP 1 30 0 _ _ σ).trans rfl
set_option maxRecDepth 20000 in
theorem e_30_4 (a0 : Nat) (x1 : Int32) (x2 : Int32) (σ : SH) : exec PP 1 30 4 [some (.ref a0), some (.int x1), some (.int x2)] [] σ =
  if (x2 < 16 : Prop) then (gR σ 103 1 (.ref a0) fun a21 =>
    aI σ 1 (.ref a21) x2 fun x22 =>
    gR σ 103 1 (.ref a0) fun a23 =>
    aI σ 1 (.ref a23) x1 fun x24 =>
    if (x24 < x22 : Prop) then (exec PP 1 30 4 [some (.ref a0), some (.int x2), some (.int (x2 + 1))] [] σ)
    else (exec PP 1 30 27 [some (.ref a0), some (.int x1), some (.int x2)] [] σ))
  else (exec PP 1 30 33 [some (.ref a0), some (.int x1), some (.int x2)] [] σ) := (exec_eq PP 1 30 4 _ _ σ).trans rfl
set_option maxRecDepth 20000 in
theorem e_30_33 (o0 : Option Value) (x1 : Int32) (o2 : Option Value) (σ : SH) : exec PP 1 30 33 [o0, some (.int x1), o2] [] σ =
  some (.inl (some (.int x1)), σ) := (exec_eq PP 1 30 33 _ _ σ).trans rfl
set_option maxRecDepth 20000 in
theorem e_30_27 (a0 : Nat) (x1 : Int32) (x2 : Int32) (σ : SH) : exec PP 1 30 27 [some (.ref a0), some (.int x1), some (.int x2)] [] σ =
  exec PP 1 30 4 [some (.ref a0), some (.int x1), some (.int (x2 + 1))] [] σ := (exec_eq PP 1 30 27 _ _ σ).trans rfl

/-! 31: ArchEnds$Forecast.firstOn(II)I -/
set_option maxRecDepth 20000 in
theorem r_31 (a0 : Nat) (x1 : Int32) (x2 : Int32) (σ : SH) : rn 31 [.ref a0, .int x1, .int x2] σ =
  exec PP 5 31 2 [some (.ref a0), some (.int x1), some (.int x2), some (.int x2)] [] σ := (exec_eq PP 5 31 0 _ _ σ).trans rfl
set_option maxRecDepth 20000 in
theorem e_31_2 (a0 : Nat) (x1 : Int32) (x2 : Int32) (x3 : Int32) (σ : SH) : exec PP 5 31 2 [some (.ref a0), some (.int x1), some (.int x2), some (.int x3)] [] σ =
  if (x3 < (x2 + 200) : Prop) then (gR σ 103 0 (.ref a0) fun a21 =>
    gR σ 103 0 (.ref a0) fun a22 =>
    gI σ 101 8 (.ref a22) fun x23 =>
    if sT σ a21 = 101 then (onI (rn 20 [.ref a21, .int x23, .int x3] σ) (fun x26 σ24 =>
    if (x26 = x1 : Prop) then (some (.inl (some (.int x3)), σ24))
      else (exec PP 5 31 32 [some (.ref a0), some (.int x1), some (.int x2), some (.int x3)] [] σ24)) (fun e25 σ24x => some (.inr e25, σ24x))) else none)
  else (exec PP 5 31 38 [some (.ref a0), some (.int x1), some (.int x2), some (.int x3)] [] σ) := (exec_eq PP 5 31 2 _ _ σ).trans rfl
set_option maxRecDepth 20000 in
theorem e_31_38 (o0 : Option Value) (o1 : Option Value) (o2 : Option Value) (o3 : Option Value) (σ : SH) : exec PP 5 31 38 [o0, o1, o2, o3] [] σ =
  some (.inl (some (.int (-1))), σ) := (exec_eq PP 5 31 38 _ _ σ).trans rfl
set_option maxRecDepth 20000 in
theorem e_31_32 (a0 : Nat) (x1 : Int32) (x2 : Int32) (x3 : Int32) (σ : SH) : exec PP 5 31 32 [some (.ref a0), some (.int x1), some (.int x2), some (.int x3)] [] σ =
  exec PP 5 31 2 [some (.ref a0), some (.int x1), some (.int x2), some (.int (x3 + 1))] [] σ := (exec_eq PP 5 31 32 _ _ σ).trans rfl

/-! 32: ArchEnds$Forecast.siteOf(III)I -/
set_option maxRecDepth 20000 in
theorem r_32 (a0 : Nat) (x1 : Int32) (x2 : Int32) (x3 : Int32) (σ : SH) : rn 32 [.ref a0, .int x1, .int x2, .int x3] σ =
  if sT σ a0 = 103 then (onV (rn 29 [.ref a0] σ) (fun σ21 =>
  exec PP 5 32 7 [some (.ref a0), some (.int x1), some (.int x2), some (.int x3), some (.int x2)] [] σ21) (fun e22 σ21x => some (.inr e22, σ21x))) else none := (exec_eq PP 5 32 0 _ _ σ).trans rfl
set_option maxRecDepth 20000 in
theorem e_32_7 (a0 : Nat) (x1 : Int32) (x2 : Int32) (x3 : Int32) (x4 : Int32) (σ : SH) : exec PP 5 32 7 [some (.ref a0), some (.int x1), some (.int x2), some (.int x3), some (.int x4)] [] σ =
  if (x4 < (x2 + x3) : Prop) then (gR σ 103 0 (.ref a0) fun a21 =>
    if sT σ a21 = 101 then (onI (rn 11 [.ref a21, .int x1, .int x4] σ) (fun x24 σ22 =>
    if (x24 = 0 : Prop) then (exec PP 5 32 35 [some (.ref a0), some (.int x1), some (.int x2), some (.int x3), some (.int x4)] [] σ22)
      else (if sT σ22 a0 = 103 then (onV (rn 33 [.ref a0, .int x1, .int x4] σ22) (fun σ25 =>
        exec PP 5 32 7 [some (.ref a0), some (.int x1), some (.int x2), some (.int x3), some (.int (x4 + 1))] [] σ25) (fun e26 σ25x => some (.inr e26, σ25x))) else none)) (fun e23 σ22x => some (.inr e23, σ22x))) else none)
  else (exec PP 5 32 41 [some (.ref a0), some (.int x1), some (.int x2), some (.int x3), some (.int x4)] [] σ) := (exec_eq PP 5 32 7 _ _ σ).trans rfl
set_option maxRecDepth 20000 in
theorem e_32_41 (a0 : Nat) (o1 : Option Value) (o2 : Option Value) (o3 : Option Value) (o4 : Option Value) (σ : SH) : exec PP 5 32 41 [some (.ref a0), o1, o2, o3, o4] [] σ =
  if sT σ a0 = 103 then (onI (rn 30 [.ref a0] σ) (fun x23 σ21 =>
  some (.inl (some (.int x23)), σ21)) (fun e22 σ21x => some (.inr e22, σ21x))) else none := (exec_eq PP 5 32 41 _ _ σ).trans rfl
set_option maxRecDepth 20000 in
theorem e_32_35 (a0 : Nat) (x1 : Int32) (x2 : Int32) (x3 : Int32) (x4 : Int32) (σ : SH) : exec PP 5 32 35 [some (.ref a0), some (.int x1), some (.int x2), some (.int x3), some (.int x4)] [] σ =
  exec PP 5 32 7 [some (.ref a0), some (.int x1), some (.int x2), some (.int x3), some (.int (x4 + 1))] [] σ := (exec_eq PP 5 32 35 _ _ σ).trans rfl

/-! 33: ArchEnds$Forecast.countRoadsTo(II)V -/
set_option maxRecDepth 20000 in
theorem r_33 (a0 : Nat) (x1 : Int32) (x2 : Int32) (σ : SH) : rn 33 [.ref a0, .int x1, .int x2] σ =
  exec PP 4 33 2 [some (.ref a0), some (.int x1), some (.int x2), some (.int 0)] [] σ := (exec_eq PP 4 33 0 _ _ σ).trans rfl
set_option maxRecDepth 20000 in
theorem e_33_2 (a0 : Nat) (x1 : Int32) (x2 : Int32) (x3 : Int32) (σ : SH) : exec PP 4 33 2 [some (.ref a0), some (.int x1), some (.int x2), some (.int x3)] [] σ =
  if (x3 < 16 : Prop) then (onI (rn 145 [.int x3, .int x2] σ) (fun x23 σ21 =>
    if (x23 = x1 : Prop) then (gR σ21 103 1 (.ref a0) fun a24 =>
        aI σ21 1 (.ref a24) x3 fun x25 =>
        uI σ21 (.ref a24) x3 (x25 + 1) fun σ26 =>
        exec PP 4 33 2 [some (.ref a0), some (.int x1), some (.int x2), some (.int (x3 + 1))] [] σ26)
      else (exec PP 4 33 27 [some (.ref a0), some (.int x1), some (.int x2), some (.int x3)] [] σ21)) (fun _ _ => none))
  else (exec PP 4 33 33 [some (.ref a0), some (.int x1), some (.int x2), some (.int x3)] [] σ) := (exec_eq PP 4 33 2 _ _ σ).trans rfl
set_option maxRecDepth 20000 in
theorem e_33_33 (o0 : Option Value) (o1 : Option Value) (o2 : Option Value) (o3 : Option Value) (σ : SH) : exec PP 4 33 33 [o0, o1, o2, o3] [] σ =
  some (.inl none, σ) := (exec_eq PP 4 33 33 _ _ σ).trans rfl
set_option maxRecDepth 20000 in
theorem e_33_27 (a0 : Nat) (x1 : Int32) (x2 : Int32) (x3 : Int32) (σ : SH) : exec PP 4 33 27 [some (.ref a0), some (.int x1), some (.int x2), some (.int x3)] [] σ =
  exec PP 4 33 2 [some (.ref a0), some (.int x1), some (.int x2), some (.int (x3 + 1))] [] σ := (exec_eq PP 4 33 27 _ _ σ).trans rfl

/-! 34: ArchEnds$Forecast.oddsOf(II)I -/
set_option maxRecDepth 20000 in
theorem r_34 (a0 : Nat) (x1 : Int32) (x2 : Int32) (σ : SH) : rn 34 [.ref a0, .int x1, .int x2] σ =
  exec PP 2 34 8 [some (.ref a0), some (.int x1), some (.int x2), some (.long 1), none, some (.long 1), none, some (.int 0), none] [] σ := (exec_eq PP 2 34 0 _ _ σ).trans rfl
set_option maxRecDepth 20000 in
theorem e_34_8 (a0 : Nat) (x1 : Int32) (x2 : Int32) (y3 : Int64) (y5 : Int64) (x7 : Int32) (o8 : Option Value) (σ : SH) : exec PP 2 34 8 [some (.ref a0), some (.int x1), some (.int x2), some (.long y3), none, some (.long y5), none, some (.int x7), o8] [] σ =
  gR σ 103 0 (.ref a0) fun a21 =>
  gI σ 101 4 (.ref a21) fun x22 =>
  if (x7 < x22 : Prop) then (gR σ 103 0 (.ref a0) fun a23 =>
    gR σ 101 0 (.ref a23) fun a24 =>
    aR σ (.ref a24) x7 fun a25 =>
    gI σ 108 6 (.ref a25) fun x26 =>
    if (x26 = 2 : Prop) then (exec PP 2 34 87 [some (.ref a0), some (.int x1), some (.int x2), some (.long y3), none, some (.long y5), none, some (.int x7), some (.ref a25)] [] σ)
    else (if sT σ a25 = 108 then (onI (rn 95 [.ref a25, .int x2] σ) (fun x29 σ27 =>
      onI (rn 128 [.int x29, .int x1] σ27) (fun x32 σ30 =>
        if (x32 = 0 : Prop) then (exec PP 2 34 87 [some (.ref a0), some (.int x1), some (.int x2), some (.long y3), none, some (.long y5), none, some (.int x7), some (.ref a25)] [] σ30)
          else (gI σ30 108 6 (.ref a25) fun x33 =>
            if (x33 = 1 : Prop) then (some (.inl (some (.int 10000)), σ30))
            else (exec PP 2 34 67 [some (.ref a0), some (.int x1), some (.int x2), some (.long y3), none, some (.long y5), none, some (.int x7), some (.ref a25)] [] σ30))) (fun _ _ => none)) (fun e28 σ27x => some (.inr e28, σ27x))) else none))
  else (exec PP 2 34 93 [some (.ref a0), some (.int x1), some (.int x2), some (.long y3), none, some (.long y5), none, some (.int x7), none] [] σ) := (exec_eq PP 2 34 8 _ _ σ).trans rfl
set_option maxRecDepth 20000 in
theorem e_34_93 (o0 : Option Value) (o1 : Option Value) (o2 : Option Value) (y3 : Int64) (y5 : Int64) (o7 : Option Value) (o8 : Option Value) (σ : SH) : exec PP 2 34 93 [o0, o1, o2, some (.long y3), none, some (.long y5), none, o7, o8] [] σ =
  if (((lcm y3 1) : Int32) < 0 : Prop) then (exec PP 2 34 114 [none, none, none, some (.long y3), none, some (.long y5), none, none, none] [.int 0] σ)
  else (exec PP 2 34 103 [none, none, none, some (.long y3), none, some (.long y5), none, none, none] [] σ) := (exec_eq PP 2 34 93 _ _ σ).trans rfl
set_option maxRecDepth 20000 in
theorem e_34_87 (a0 : Nat) (x1 : Int32) (x2 : Int32) (y3 : Int64) (y5 : Int64) (x7 : Int32) (o8 : Option Value) (σ : SH) : exec PP 2 34 87 [some (.ref a0), some (.int x1), some (.int x2), some (.long y3), none, some (.long y5), none, some (.int x7), o8] [] σ =
  exec PP 2 34 8 [some (.ref a0), some (.int x1), some (.int x2), some (.long y3), none, some (.long y5), none, some (.int (x7 + 1)), none] [] σ := (exec_eq PP 2 34 87 _ _ σ).trans rfl
set_option maxRecDepth 20000 in
theorem e_34_67 (a0 : Nat) (x1 : Int32) (x2 : Int32) (y3 : Int64) (y5 : Int64) (x7 : Int32) (a8 : Nat) (σ : SH) : exec PP 2 34 67 [some (.ref a0), some (.int x1), some (.int x2), some (.long y3), none, some (.long y5), none, some (.int x7), some (.ref a8)] [] σ =
  gI σ 108 5 (.ref a8) fun x21 =>
  exec PP 2 34 8 [some (.ref a0), some (.int x1), some (.int x2), some (.long (y3 * 100)), none, some (.long (y5 * ((100 - x21).toInt64))), none, some (.int (x7 + 1)), none] [] σ := (exec_eq PP 2 34 67 _ _ σ).trans rfl
set_option maxRecDepth 20000 in
theorem e_34_103 (o0 : Option Value) (o1 : Option Value) (o2 : Option Value) (y3 : Int64) (y5 : Int64) (o7 : Option Value) (o8 : Option Value) (σ : SH) : exec PP 2 34 103 [o0, o1, o2, some (.long y3), none, some (.long y5), none, o7, o8] [] σ =
  if y3 = 0 then none else
  some (.inl (some (.int (((10000 * (y3 - y5)) / y3).toInt32))), σ) := (exec_eq PP 2 34 103 _ _ σ).trans rfl
set_option maxRecDepth 20000 in
theorem e_34_114 (o0 : Option Value) (o1 : Option Value) (o2 : Option Value) (o3 : Option Value) (o4 : Option Value) (o5 : Option Value) (o6 : Option Value) (o7 : Option Value) (o8 : Option Value) (w0 : Int32) (σ : SH) : exec PP 2 34 114 [o0, o1, o2, o3, o4, o5, o6, o7, o8] [.int w0] σ =
  some (.inl (some (.int w0)), σ) := (exec_eq PP 2 34 114 _ _ σ).trans rfl

/-! 35: ArchEnds$Forecast.hopeOf(LArchEnds$Deed;)I -/
set_option maxRecDepth 20000 in
theorem r_35 (a0 : Nat) (a1 : Nat) (σ : SH) : rn 35 [.ref a0, .ref a1] σ =
  gI σ 102 1 (.ref a1) fun x21 =>
  exec PP 4 35 7 [some (.ref a0), some (.ref a1), some (.int 0), some (.int x21)] [] σ := (exec_eq PP 4 35 0 _ _ σ).trans rfl
set_option maxRecDepth 20000 in
theorem e_35_7 (a0 : Nat) (a1 : Nat) (x2 : Int32) (x3 : Int32) (σ : SH) : exec PP 4 35 7 [some (.ref a0), some (.ref a1), some (.int x2), some (.int x3)] [] σ =
  gI σ 102 2 (.ref a1) fun x21 =>
  if (x21 < x3 : Prop) then (exec PP 4 35 51 [some (.ref a0), some (.ref a1), some (.int x2), some (.int x3)] [] σ)
  else (gR σ 103 0 (.ref a0) fun a22 =>
    gI σ 101 8 (.ref a22) fun x23 =>
    onI (rn 145 [.int x23, .int x3] σ) (fun x26 σ24 =>
    gI σ24 102 0 (.ref a1) fun x27 =>
      if (x26 = x27 : Prop) then (gI σ24 102 0 (.ref a1) fun x28 =>
        if sT σ24 a0 = 103 then (onI (rn 34 [.ref a0, .int x28, .int x3] σ24) (fun x31 σ29 =>
        exec PP 4 35 7 [some (.ref a0), some (.ref a1), some (.int (x2 + x31)), some (.int (x3 + 1))] [] σ29) (fun e30 σ29x => some (.inr e30, σ29x))) else none)
      else (exec PP 4 35 45 [some (.ref a0), some (.ref a1), some (.int x2), some (.int x3)] [] σ24)) (fun _ _ => none)) := (exec_eq PP 4 35 7 _ _ σ).trans rfl
set_option maxRecDepth 20000 in
theorem e_35_51 (o0 : Option Value) (o1 : Option Value) (x2 : Int32) (o3 : Option Value) (σ : SH) : exec PP 4 35 51 [o0, o1, some (.int x2), o3] [] σ =
  some (.inl (some (.int (x2 / 100))), σ) := (exec_eq PP 4 35 51 _ _ σ).trans rfl
set_option maxRecDepth 20000 in
theorem e_35_45 (a0 : Nat) (a1 : Nat) (x2 : Int32) (x3 : Int32) (σ : SH) : exec PP 4 35 45 [some (.ref a0), some (.ref a1), some (.int x2), some (.int x3)] [] σ =
  exec PP 4 35 7 [some (.ref a0), some (.ref a1), some (.int x2), some (.int (x3 + 1))] [] σ := (exec_eq PP 4 35 45 _ _ σ).trans rfl

/-! 36: ArchEnds$Forecast.takeSights(LArchEnds$Tape;)Z -/
set_option maxRecDepth 20000 in
theorem r_36 (a0 : Nat) (a1 : Nat) (σ : SH) : rn 36 [.ref a0, .ref a1] σ =
  pI σ 103 2 (.ref a0) 0 fun σ21 =>
  pI σ21 103 3 (.ref a0) 0 fun σ22 =>
  gI σ22 110 1 (.ref a1) fun x23 =>
  if (40 < x23 : Prop) then (exec PP 1 36 28 [some (.ref a0), some (.ref a1), none] [] σ22)
  else (gI σ22 110 1 (.ref a1) fun x24 =>
    if (((irm x24 2) : Int32) = 0 : Prop) then (exec PP 1 36 30 [some (.ref a0), some (.ref a1), none] [] σ22)
    else (some (.inl (some (.int 0)), σ22))) := (exec_eq PP 1 36 0 _ _ σ).trans rfl
set_option maxRecDepth 20000 in
theorem e_36_28 (o0 : Option Value) (o1 : Option Value) (o2 : Option Value) (σ : SH) : exec PP 1 36 28 [o0, o1, o2] [] σ =
  some (.inl (some (.int 0)), σ) := (exec_eq PP 1 36 28 _ _ σ).trans rfl
set_option maxRecDepth 20000 in
theorem e_36_30 (a0 : Nat) (a1 : Nat) (o2 : Option Value) (σ : SH) : exec PP 1 36 30 [some (.ref a0), some (.ref a1), o2] [] σ =
  exec PP 1 36 32 [some (.ref a0), some (.ref a1), some (.int 0)] [] σ := (exec_eq PP 1 36 30 _ _ σ).trans rfl
set_option maxRecDepth 20000 in
theorem e_36_32 (a0 : Nat) (a1 : Nat) (x2 : Int32) (σ : SH) : exec PP 1 36 32 [some (.ref a0), some (.ref a1), some (.int x2)] [] σ =
  gI σ 110 1 (.ref a1) fun x21 =>
  if (((x2 + 1) : Int32) < x21 : Prop) then (gR σ 110 0 (.ref a1) fun a22 =>
    aI σ 1 (.ref a22) x2 fun x23 =>
    if (x23 < 16 : Prop) then (gR σ 110 0 (.ref a1) fun a24 =>
      aI σ 1 (.ref a24) (x2 + 1) fun x25 =>
      if (1 < x25 : Prop) then (some (.inl (some (.int 0)), σ))
      else (exec PP 1 36 67 [some (.ref a0), some (.ref a1), some (.int x2)] [] σ))
    else (exec PP 1 36 65 [some (.ref a0), some (.ref a1), some (.int x2)] [] σ))
  else (exec PP 1 36 122 [some (.ref a0), some (.ref a1), some (.int x2)] [] σ) := (exec_eq PP 1 36 32 _ _ σ).trans rfl
set_option maxRecDepth 20000 in
theorem e_36_122 (o0 : Option Value) (o1 : Option Value) (o2 : Option Value) (σ : SH) : exec PP 1 36 122 [o0, o1, o2] [] σ =
  some (.inl (some (.int 1)), σ) := (exec_eq PP 1 36 122 _ _ σ).trans rfl
set_option maxRecDepth 20000 in
theorem e_36_65 (o0 : Option Value) (o1 : Option Value) (o2 : Option Value) (σ : SH) : exec PP 1 36 65 [o0, o1, o2] [] σ =
  some (.inl (some (.int 0)), σ) := (exec_eq PP 1 36 65 _ _ σ).trans rfl
set_option maxRecDepth 20000 in
theorem e_36_67 (a0 : Nat) (a1 : Nat) (x2 : Int32) (σ : SH) : exec PP 1 36 67 [some (.ref a0), some (.ref a1), some (.int x2)] [] σ =
  gR σ 110 0 (.ref a1) fun a21 =>
  aI σ 1 (.ref a21) (x2 + 1) fun x22 =>
  if (x22 = 1 : Prop) then (gI σ 103 2 (.ref a0) fun x23 =>
    gR σ 110 0 (.ref a1) fun a24 =>
    aI σ 1 (.ref a24) x2 fun x25 =>
    pI σ 103 2 (.ref a0) (x23 ||| (shl 1 x25)) fun σ26 =>
    exec PP 1 36 116 [some (.ref a0), some (.ref a1), some (.int x2)] [] σ26)
  else (exec PP 1 36 99 [some (.ref a0), some (.ref a1), some (.int x2)] [] σ) := (exec_eq PP 1 36 67 _ _ σ).trans rfl
set_option maxRecDepth 20000 in
theorem e_36_99 (a0 : Nat) (a1 : Nat) (x2 : Int32) (σ : SH) : exec PP 1 36 99 [some (.ref a0), some (.ref a1), some (.int x2)] [] σ =
  gI σ 103 3 (.ref a0) fun x21 =>
  gR σ 110 0 (.ref a1) fun a22 =>
  aI σ 1 (.ref a22) x2 fun x23 =>
  pI σ 103 3 (.ref a0) (x21 ||| (shl 1 x23)) fun σ24 =>
  exec PP 1 36 32 [some (.ref a0), some (.ref a1), some (.int (x2 + 2))] [] σ24 := (exec_eq PP 1 36 99 _ _ σ).trans rfl
set_option maxRecDepth 20000 in
theorem e_36_116 (a0 : Nat) (a1 : Nat) (x2 : Int32) (σ : SH) : exec PP 1 36 116 [some (.ref a0), some (.ref a1), some (.int x2)] [] σ =
  exec PP 1 36 32 [some (.ref a0), some (.ref a1), some (.int (x2 + 2))] [] σ := (exec_eq PP 1 36 116 _ _ σ).trans rfl

/-! 37: ArchEnds$Forecast.sureShowers(I)I -/
set_option maxRecDepth 20000 in
theorem r_37 (a0 : Nat) (x1 : Int32) (σ : SH) : rn 37 [.ref a0, .int x1] σ =
  exec PP 4 37 4 [some (.ref a0), some (.int x1), some (.int (-1)), some (.int 0)] [] σ := (exec_eq PP 4 37 0 _ _ σ).trans rfl
set_option maxRecDepth 20000 in
theorem e_37_4 (a0 : Nat) (x1 : Int32) (x2 : Int32) (x3 : Int32) (σ : SH) : exec PP 4 37 4 [some (.ref a0), some (.int x1), some (.int x2), some (.int x3)] [] σ =
  gR σ 103 0 (.ref a0) fun a21 =>
  gI σ 101 4 (.ref a21) fun x22 =>
  if (x3 < (shl 1 x22) : Prop) then (if sT σ a0 = 103 then (onI (rn 38 [.ref a0, .int x3, .int x1] σ) (fun x25 σ23 =>
    if (x25 = 0 : Prop) then (exec PP 4 37 30 [some (.ref a0), some (.int x1), some (.int x2), some (.int x3)] [] σ23)
      else (exec PP 4 37 4 [some (.ref a0), some (.int x1), some (.int (x2 &&& x3)), some (.int (x3 + 1))] [] σ23)) (fun e24 σ23x => some (.inr e24, σ23x))) else none)
  else (exec PP 4 37 36 [some (.ref a0), some (.int x1), some (.int x2), some (.int x3)] [] σ) := (exec_eq PP 4 37 4 _ _ σ).trans rfl
set_option maxRecDepth 20000 in
theorem e_37_36 (o0 : Option Value) (o1 : Option Value) (x2 : Int32) (o3 : Option Value) (σ : SH) : exec PP 4 37 36 [o0, o1, some (.int x2), o3] [] σ =
  if (x2 = (-1) : Prop) then (exec PP 4 37 46 [none, none, some (.int x2), none] [.int 0] σ)
  else (exec PP 4 37 45 [none, none, some (.int x2), none] [] σ) := (exec_eq PP 4 37 36 _ _ σ).trans rfl
set_option maxRecDepth 20000 in
theorem e_37_30 (a0 : Nat) (x1 : Int32) (x2 : Int32) (x3 : Int32) (σ : SH) : exec PP 4 37 30 [some (.ref a0), some (.int x1), some (.int x2), some (.int x3)] [] σ =
  exec PP 4 37 4 [some (.ref a0), some (.int x1), some (.int x2), some (.int (x3 + 1))] [] σ := (exec_eq PP 4 37 30 _ _ σ).trans rfl
set_option maxRecDepth 20000 in
theorem e_37_45 (o0 : Option Value) (o1 : Option Value) (x2 : Int32) (o3 : Option Value) (σ : SH) : exec PP 4 37 45 [o0, o1, some (.int x2), o3] [] σ =
  some (.inl (some (.int x2)), σ) := (exec_eq PP 4 37 45 _ _ σ).trans rfl
set_option maxRecDepth 20000 in
theorem e_37_46 (o0 : Option Value) (o1 : Option Value) (o2 : Option Value) (o3 : Option Value) (w0 : Int32) (σ : SH) : exec PP 4 37 46 [o0, o1, o2, o3] [.int w0] σ =
  some (.inl (some (.int w0)), σ) := (exec_eq PP 4 37 46 _ _ σ).trans rfl

/-! 38: ArchEnds$Forecast.fits(II)Z -/
set_option maxRecDepth 20000 in
theorem r_38 (a0 : Nat) (x1 : Int32) (x2 : Int32) (σ : SH) : rn 38 [.ref a0, .int x1, .int x2] σ =
  exec PP 3 38 2 [some (.ref a0), some (.int x1), some (.int x2), some (.int 0), none] [] σ := (exec_eq PP 3 38 0 _ _ σ).trans rfl
set_option maxRecDepth 20000 in
theorem e_38_2 (a0 : Nat) (x1 : Int32) (x2 : Int32) (x3 : Int32) (o4 : Option Value) (σ : SH) : exec PP 3 38 2 [some (.ref a0), some (.int x1), some (.int x2), some (.int x3), o4] [] σ =
  gR σ 103 0 (.ref a0) fun a21 =>
  gI σ 101 4 (.ref a21) fun x22 =>
  if (x3 < x22 : Prop) then (gR σ 103 0 (.ref a0) fun a23 =>
    gR σ 101 0 (.ref a23) fun a24 =>
    aR σ (.ref a24) x3 fun a25 =>
    gI σ 108 6 (.ref a25) fun x26 =>
    onI (rn 128 [.int x1, .int x3] σ) (fun x29 σ27 =>
    if (x29 = 0 : Prop) then (exec PP 3 38 44 [some (.ref a0), some (.int x1), some (.int x2), some (.int x3), some (.int x26)] [] σ27)
      else (if (x26 = 2 : Prop) then (exec PP 3 38 50 [some (.ref a0), some (.int x1), some (.int x2), some (.int x3), some (.int x26)] [] σ27)
        else (exec PP 3 38 52 [some (.ref a0), some (.int x1), some (.int x2), some (.int x3), some (.int x26)] [] σ27))) (fun _ _ => none))
  else (exec PP 3 38 58 [some (.ref a0), some (.int x1), some (.int x2), some (.int x3), none] [] σ) := (exec_eq PP 3 38 2 _ _ σ).trans rfl
set_option maxRecDepth 20000 in
theorem e_38_58 (a0 : Nat) (x1 : Int32) (x2 : Int32) (o3 : Option Value) (o4 : Option Value) (σ : SH) : exec PP 3 38 58 [some (.ref a0), some (.int x1), some (.int x2), o3, o4] [] σ =
  if sT σ a0 = 103 then (onI (rn 39 [.ref a0, .int x1, .int x2] σ) (fun x23 σ21 =>
  gI σ21 103 2 (.ref a0) fun x24 =>
    gI σ21 103 2 (.ref a0) fun x25 =>
    if (((x23 &&& x24) : Int32) = x25 : Prop) then (gI σ21 103 3 (.ref a0) fun x26 =>
      if (((x23 &&& x26) : Int32) = 0 : Prop) then (exec PP 3 38 92 [some (.ref a0), some (.int x1), some (.int x2), some (.int x23), none] [.int 1] σ21)
      else (exec PP 3 38 91 [some (.ref a0), some (.int x1), some (.int x2), some (.int x23), none] [] σ21))
    else (exec PP 3 38 91 [some (.ref a0), some (.int x1), some (.int x2), some (.int x23), none] [] σ21)) (fun e22 σ21x => some (.inr e22, σ21x))) else none := (exec_eq PP 3 38 58 _ _ σ).trans rfl
set_option maxRecDepth 20000 in
theorem e_38_44 (a0 : Nat) (x1 : Int32) (x2 : Int32) (x3 : Int32) (x4 : Int32) (σ : SH) : exec PP 3 38 44 [some (.ref a0), some (.int x1), some (.int x2), some (.int x3), some (.int x4)] [] σ =
  if (x4 = 1 : Prop) then (some (.inl (some (.int 0)), σ))
  else (exec PP 3 38 52 [some (.ref a0), some (.int x1), some (.int x2), some (.int x3), some (.int x4)] [] σ) := (exec_eq PP 3 38 44 _ _ σ).trans rfl
set_option maxRecDepth 20000 in
theorem e_38_52 (a0 : Nat) (x1 : Int32) (x2 : Int32) (x3 : Int32) (o4 : Option Value) (σ : SH) : exec PP 3 38 52 [some (.ref a0), some (.int x1), some (.int x2), some (.int x3), o4] [] σ =
  exec PP 3 38 2 [some (.ref a0), some (.int x1), some (.int x2), some (.int (x3 + 1)), none] [] σ := (exec_eq PP 3 38 52 _ _ σ).trans rfl
set_option maxRecDepth 20000 in
theorem e_38_50 (o0 : Option Value) (o1 : Option Value) (o2 : Option Value) (o3 : Option Value) (o4 : Option Value) (σ : SH) : exec PP 3 38 50 [o0, o1, o2, o3, o4] [] σ =
  some (.inl (some (.int 0)), σ) := (exec_eq PP 3 38 50 _ _ σ).trans rfl
set_option maxRecDepth 20000 in
theorem e_38_91 (o0 : Option Value) (o1 : Option Value) (o2 : Option Value) (o3 : Option Value) (o4 : Option Value) (σ : SH) : exec PP 3 38 91 [o0, o1, o2, o3, o4] [] σ =
  some (.inl (some (.int 0)), σ) := (exec_eq PP 3 38 91 _ _ σ).trans rfl
set_option maxRecDepth 20000 in
theorem e_38_92 (o0 : Option Value) (o1 : Option Value) (o2 : Option Value) (o3 : Option Value) (o4 : Option Value) (w0 : Int32) (σ : SH) : exec PP 3 38 92 [o0, o1, o2, o3, o4] [.int w0] σ =
  if w0 = 0 ∨ w0 = 1 then some (.inl (some (.int w0)), σ) else none := (exec_eq PP 3 38 92 _ _ σ).trans rfl

/-! 39: ArchEnds$Forecast.acresUnder(II)I -/
set_option maxRecDepth 20000 in
theorem r_39 (a0 : Nat) (x1 : Int32) (x2 : Int32) (σ : SH) : rn 39 [.ref a0, .int x1, .int x2] σ =
  exec PP 2 39 5 [some (.ref a0), some (.int x1), some (.int x2), some (.int 0), some (.int 0)] [] σ := (exec_eq PP 2 39 0 _ _ σ).trans rfl
set_option maxRecDepth 20000 in
theorem e_39_5 (a0 : Nat) (x1 : Int32) (x2 : Int32) (x3 : Int32) (x4 : Int32) (σ : SH) : exec PP 2 39 5 [some (.ref a0), some (.int x1), some (.int x2), some (.int x3), some (.int x4)] [] σ =
  gR σ 103 0 (.ref a0) fun a21 =>
  gI σ 101 4 (.ref a21) fun x22 =>
  if (x4 < x22 : Prop) then (onI (rn 128 [.int x1, .int x4] σ) (fun x25 σ23 =>
    if (x25 = 0 : Prop) then (exec PP 2 39 43 [some (.ref a0), some (.int x1), some (.int x2), some (.int x3), some (.int x4)] [] σ23)
      else (gR σ23 103 0 (.ref a0) fun a26 =>
        gR σ23 101 0 (.ref a26) fun a27 =>
        aR σ23 (.ref a27) x4 fun a28 =>
        if sT σ23 a28 = 108 then (onI (rn 95 [.ref a28, .int x2] σ23) (fun x31 σ29 =>
        exec PP 2 39 5 [some (.ref a0), some (.int x1), some (.int x2), some (.int (x3 ||| x31)), some (.int (x4 + 1))] [] σ29) (fun e30 σ29x => some (.inr e30, σ29x))) else none)) (fun _ _ => none))
  else (exec PP 2 39 49 [some (.ref a0), some (.int x1), some (.int x2), some (.int x3), some (.int x4)] [] σ) := (exec_eq PP 2 39 5 _ _ σ).trans rfl
set_option maxRecDepth 20000 in
theorem e_39_49 (o0 : Option Value) (o1 : Option Value) (o2 : Option Value) (x3 : Int32) (o4 : Option Value) (σ : SH) : exec PP 2 39 49 [o0, o1, o2, some (.int x3), o4] [] σ =
  some (.inl (some (.int x3)), σ) := (exec_eq PP 2 39 49 _ _ σ).trans rfl
set_option maxRecDepth 20000 in
theorem e_39_43 (a0 : Nat) (x1 : Int32) (x2 : Int32) (x3 : Int32) (x4 : Int32) (σ : SH) : exec PP 2 39 43 [some (.ref a0), some (.int x1), some (.int x2), some (.int x3), some (.int x4)] [] σ =
  exec PP 2 39 5 [some (.ref a0), some (.int x1), some (.int x2), some (.int x3), some (.int (x4 + 1))] [] σ := (exec_eq PP 2 39 43 _ _ σ).trans rfl

/-! 40: ArchEnds$Forecast.fittingSets(I)I -/
set_option maxRecDepth 20000 in
theorem r_40 (a0 : Nat) (x1 : Int32) (σ : SH) : rn 40 [.ref a0, .int x1] σ =
  exec PP 4 40 4 [some (.ref a0), some (.int x1), some (.int 0), some (.int 0)] [] σ := (exec_eq PP 4 40 0 _ _ σ).trans rfl
set_option maxRecDepth 20000 in
theorem e_40_4 (a0 : Nat) (x1 : Int32) (x2 : Int32) (x3 : Int32) (σ : SH) : exec PP 4 40 4 [some (.ref a0), some (.int x1), some (.int x2), some (.int x3)] [] σ =
  gR σ 103 0 (.ref a0) fun a21 =>
  gI σ 101 4 (.ref a21) fun x22 =>
  if (x3 < (shl 1 x22) : Prop) then (if sT σ a0 = 103 then (onI (rn 38 [.ref a0, .int x3, .int x1] σ) (fun x25 σ23 =>
    if (x25 = 0 : Prop) then (exec PP 4 40 29 [some (.ref a0), some (.int x1), some (.int x2), some (.int x3)] [] σ23)
      else (exec PP 4 40 4 [some (.ref a0), some (.int x1), some (.int (x2 + 1)), some (.int (x3 + 1))] [] σ23)) (fun e24 σ23x => some (.inr e24, σ23x))) else none)
  else (exec PP 4 40 35 [some (.ref a0), some (.int x1), some (.int x2), some (.int x3)] [] σ) := (exec_eq PP 4 40 4 _ _ σ).trans rfl
set_option maxRecDepth 20000 in
theorem e_40_35 (o0 : Option Value) (o1 : Option Value) (x2 : Int32) (o3 : Option Value) (σ : SH) : exec PP 4 40 35 [o0, o1, some (.int x2), o3] [] σ =
  some (.inl (some (.int x2)), σ) := (exec_eq PP 4 40 35 _ _ σ).trans rfl
set_option maxRecDepth 20000 in
theorem e_40_29 (a0 : Nat) (x1 : Int32) (x2 : Int32) (x3 : Int32) (σ : SH) : exec PP 4 40 29 [some (.ref a0), some (.int x1), some (.int x2), some (.int x3)] [] σ =
  exec PP 4 40 4 [some (.ref a0), some (.int x1), some (.int x2), some (.int (x3 + 1))] [] σ := (exec_eq PP 4 40 29 _ _ σ).trans rfl

/-! 41: ArchEnds$Forecast.tellingAcre(I)I -/
set_option maxRecDepth 20000 in
theorem r_41 (a0 : Nat) (x1 : Int32) (σ : SH) : rn 41 [.ref a0, .int x1] σ =
  if sT σ a0 = 103 then (onV (rn 29 [.ref a0] σ) (fun σ21 =>
  exec PP 4 41 8 [some (.ref a0), some (.int x1), some (.int 0), some (.int 0)] [] σ21) (fun e22 σ21x => some (.inr e22, σ21x))) else none := (exec_eq PP 4 41 0 _ _ σ).trans rfl
set_option maxRecDepth 20000 in
theorem e_41_8 (a0 : Nat) (x1 : Int32) (x2 : Int32) (x3 : Int32) (σ : SH) : exec PP 4 41 8 [some (.ref a0), some (.int x1), some (.int x2), some (.int x3)] [] σ =
  gR σ 103 0 (.ref a0) fun a21 =>
  gI σ 101 4 (.ref a21) fun x22 =>
  if (x3 < (shl 1 x22) : Prop) then (if sT σ a0 = 103 then (onI (rn 38 [.ref a0, .int x3, .int x1] σ) (fun x25 σ23 =>
    if (x25 = 0 : Prop) then (exec PP 4 41 43 [some (.ref a0), some (.int x1), some (.int x2), some (.int x3)] [] σ23)
      else (if sT σ23 a0 = 103 then (onI (rn 39 [.ref a0, .int x3, .int x1] σ23) (fun x28 σ26 =>
        if sT σ26 a0 = 103 then (onV (rn 42 [.ref a0, .int x28] σ26) (fun σ29 =>
          exec PP 4 41 8 [some (.ref a0), some (.int x1), some (.int (x2 + 1)), some (.int (x3 + 1))] [] σ29) (fun e30 σ29x => some (.inr e30, σ29x))) else none) (fun e27 σ26x => some (.inr e27, σ26x))) else none)) (fun e24 σ23x => some (.inr e24, σ23x))) else none)
  else (exec PP 4 41 49 [some (.ref a0), some (.int x1), some (.int x2), some (.int x3)] [] σ) := (exec_eq PP 4 41 8 _ _ σ).trans rfl
set_option maxRecDepth 20000 in
theorem e_41_49 (a0 : Nat) (o1 : Option Value) (x2 : Int32) (o3 : Option Value) (σ : SH) : exec PP 4 41 49 [some (.ref a0), o1, some (.int x2), o3] [] σ =
  if (x2 < 2 : Prop) then (exec PP 4 41 63 [some (.ref a0), none, some (.int x2), none] [.int (-1)] σ)
  else (exec PP 4 41 58 [some (.ref a0), none, some (.int x2), none] [] σ) := (exec_eq PP 4 41 49 _ _ σ).trans rfl
set_option maxRecDepth 20000 in
theorem e_41_43 (a0 : Nat) (x1 : Int32) (x2 : Int32) (x3 : Int32) (σ : SH) : exec PP 4 41 43 [some (.ref a0), some (.int x1), some (.int x2), some (.int x3)] [] σ =
  exec PP 4 41 8 [some (.ref a0), some (.int x1), some (.int x2), some (.int (x3 + 1))] [] σ := (exec_eq PP 4 41 43 _ _ σ).trans rfl
set_option maxRecDepth 20000 in
theorem e_41_58 (a0 : Nat) (o1 : Option Value) (x2 : Int32) (o3 : Option Value) (σ : SH) : exec PP 4 41 58 [some (.ref a0), o1, some (.int x2), o3] [] σ =
  if sT σ a0 = 103 then (onI (rn 43 [.ref a0, .int x2] σ) (fun x23 σ21 =>
  some (.inl (some (.int x23)), σ21)) (fun e22 σ21x => some (.inr e22, σ21x))) else none := (exec_eq PP 4 41 58 _ _ σ).trans rfl
set_option maxRecDepth 20000 in
theorem e_41_63 (o0 : Option Value) (o1 : Option Value) (o2 : Option Value) (o3 : Option Value) (w0 : Int32) (σ : SH) : exec PP 4 41 63 [o0, o1, o2, o3] [.int w0] σ =
  some (.inl (some (.int w0)), σ) := (exec_eq PP 4 41 63 _ _ σ).trans rfl

/-! 42: ArchEnds$Forecast.countWet(I)V -/
set_option maxRecDepth 20000 in
theorem r_42 (a0 : Nat) (x1 : Int32) (σ : SH) : rn 42 [.ref a0, .int x1] σ =
  exec PP 2 42 2 [some (.ref a0), some (.int x1), some (.int 0)] [] σ := (exec_eq PP 2 42 0 _ _ σ).trans rfl
set_option maxRecDepth 20000 in
theorem e_42_2 (a0 : Nat) (x1 : Int32) (x2 : Int32) (σ : SH) : exec PP 2 42 2 [some (.ref a0), some (.int x1), some (.int x2)] [] σ =
  if (x2 < 16 : Prop) then (onI (rn 128 [.int x1, .int x2] σ) (fun x23 σ21 =>
    if (x23 = 0 : Prop) then (exec PP 2 42 26 [some (.ref a0), some (.int x1), some (.int x2)] [] σ21)
      else (gR σ21 103 1 (.ref a0) fun a24 =>
        aI σ21 1 (.ref a24) x2 fun x25 =>
        uI σ21 (.ref a24) x2 (x25 + 1) fun σ26 =>
        exec PP 2 42 2 [some (.ref a0), some (.int x1), some (.int (x2 + 1))] [] σ26)) (fun _ _ => none))
  else (exec PP 2 42 32 [some (.ref a0), some (.int x1), some (.int x2)] [] σ) := (exec_eq PP 2 42 2 _ _ σ).trans rfl
set_option maxRecDepth 20000 in
theorem e_42_32 (o0 : Option Value) (o1 : Option Value) (o2 : Option Value) (σ : SH) : exec PP 2 42 32 [o0, o1, o2] [] σ =
  some (.inl none, σ) := (exec_eq PP 2 42 32 _ _ σ).trans rfl
set_option maxRecDepth 20000 in
theorem e_42_26 (a0 : Nat) (x1 : Int32) (x2 : Int32) (σ : SH) : exec PP 2 42 26 [some (.ref a0), some (.int x1), some (.int x2)] [] σ =
  exec PP 2 42 2 [some (.ref a0), some (.int x1), some (.int (x2 + 1))] [] σ := (exec_eq PP 2 42 26 _ _ σ).trans rfl

/-! 43: ArchEnds$Forecast.leastGreaterPart(I)I -/
set_option maxRecDepth 20000 in
theorem r_43 (a0 : Nat) (x1 : Int32) (σ : SH) : rn 43 [.ref a0, .int x1] σ =
  exec PP 1 43 7 [some (.ref a0), some (.int x1), some (.int 0), some (.int x1), some (.int 0), none] [] σ := (exec_eq PP 1 43 0 _ _ σ).trans rfl
set_option maxRecDepth 20000 in
theorem e_43_7 (a0 : Nat) (x1 : Int32) (x2 : Int32) (x3 : Int32) (x4 : Int32) (o5 : Option Value) (σ : SH) : exec PP 1 43 7 [some (.ref a0), some (.int x1), some (.int x2), some (.int x3), some (.int x4), o5] [] σ =
  if (x4 < 16 : Prop) then (gR σ 103 1 (.ref a0) fun a21 =>
    aI σ 1 (.ref a21) x4 fun x22 =>
    gR σ 103 1 (.ref a0) fun a23 =>
    aI σ 1 (.ref a23) x4 fun x24 =>
    if ((x1 - x24) < x22 : Prop) then (gR σ 103 1 (.ref a0) fun a25 =>
      aI σ 1 (.ref a25) x4 fun x26 =>
      exec PP 1 43 52 [some (.ref a0), some (.int x1), some (.int x2), some (.int x3), some (.int x4), none] [.int x26] σ)
    else (exec PP 1 43 43 [some (.ref a0), some (.int x1), some (.int x2), some (.int x3), some (.int x4), none] [] σ))
  else (exec PP 1 43 72 [some (.ref a0), some (.int x1), some (.int x2), some (.int x3), some (.int x4), none] [] σ) := (exec_eq PP 1 43 7 _ _ σ).trans rfl
set_option maxRecDepth 20000 in
theorem e_43_72 (o0 : Option Value) (o1 : Option Value) (x2 : Int32) (o3 : Option Value) (o4 : Option Value) (o5 : Option Value) (σ : SH) : exec PP 1 43 72 [o0, o1, some (.int x2), o3, o4, o5] [] σ =
  some (.inl (some (.int x2)), σ) := (exec_eq PP 1 43 72 _ _ σ).trans rfl
set_option maxRecDepth 20000 in
theorem e_43_43 (a0 : Nat) (x1 : Int32) (x2 : Int32) (x3 : Int32) (x4 : Int32) (o5 : Option Value) (σ : SH) : exec PP 1 43 43 [some (.ref a0), some (.int x1), some (.int x2), some (.int x3), some (.int x4), o5] [] σ =
  gR σ 103 1 (.ref a0) fun a21 =>
  aI σ 1 (.ref a21) x4 fun x22 =>
  if (((x1 - x22) : Int32) < x3 : Prop) then (exec PP 1 43 7 [some (.ref a0), some (.int x1), some (.int x4), some (.int (x1 - x22)), some (.int (x4 + 1)), none] [] σ)
  else (exec PP 1 43 66 [some (.ref a0), some (.int x1), some (.int x2), some (.int x3), some (.int x4), some (.int (x1 - x22))] [] σ) := (exec_eq PP 1 43 43 _ _ σ).trans rfl
set_option maxRecDepth 20000 in
theorem e_43_52 (a0 : Nat) (x1 : Int32) (x2 : Int32) (x3 : Int32) (x4 : Int32) (o5 : Option Value) (w0 : Int32) (σ : SH) : exec PP 1 43 52 [some (.ref a0), some (.int x1), some (.int x2), some (.int x3), some (.int x4), o5] [.int w0] σ =
  if (w0 < x3 : Prop) then (exec PP 1 43 7 [some (.ref a0), some (.int x1), some (.int x4), some (.int w0), some (.int (x4 + 1)), none] [] σ)
  else (exec PP 1 43 66 [some (.ref a0), some (.int x1), some (.int x2), some (.int x3), some (.int x4), some (.int w0)] [] σ) := (exec_eq PP 1 43 52 _ _ σ).trans rfl
set_option maxRecDepth 20000 in
theorem e_43_66 (a0 : Nat) (x1 : Int32) (x2 : Int32) (x3 : Int32) (x4 : Int32) (o5 : Option Value) (σ : SH) : exec PP 1 43 66 [some (.ref a0), some (.int x1), some (.int x2), some (.int x3), some (.int x4), o5] [] σ =
  exec PP 1 43 7 [some (.ref a0), some (.int x1), some (.int x2), some (.int x3), some (.int (x4 + 1)), none] [] σ := (exec_eq PP 1 43 66 _ _ σ).trans rfl

/-! 44: ArchEnds$Forecast.sprayAt(I)I -/
set_option maxRecDepth 20000 in
theorem r_44 (a0 : Nat) (x1 : Int32) (σ : SH) : rn 44 [.ref a0, .int x1] σ =
  exec PP 4 44 4 [some (.ref a0), some (.int x1), some (.int 0), some (.int 0), none] [] σ := (exec_eq PP 4 44 0 _ _ σ).trans rfl
set_option maxRecDepth 20000 in
theorem e_44_4 (a0 : Nat) (x1 : Int32) (x2 : Int32) (x3 : Int32) (o4 : Option Value) (σ : SH) : exec PP 4 44 4 [some (.ref a0), some (.int x1), some (.int x2), some (.int x3), o4] [] σ =
  if (x3 < 16 : Prop) then (gR σ 103 0 (.ref a0) fun a21 =>
    if sT σ a21 = 101 then (onI (rn 11 [.ref a21, .int x3, .int x1] σ) (fun x24 σ22 =>
    if (x24 = 0 : Prop) then (exec PP 4 44 28 [some (.ref a0), some (.int x1), some (.int x2), some (.int x3), none] [] σ22)
      else (exec PP 4 44 4 [some (.ref a0), some (.int x1), some (.int (x2 ||| (shl 1 x3))), some (.int (x3 + 1)), none] [] σ22)) (fun e23 σ22x => some (.inr e23, σ22x))) else none)
  else (exec PP 4 44 34 [some (.ref a0), some (.int x1), some (.int x2), some (.int x3), none] [] σ) := (exec_eq PP 4 44 4 _ _ σ).trans rfl
set_option maxRecDepth 20000 in
theorem e_44_34 (o0 : Option Value) (x1 : Int32) (x2 : Int32) (o3 : Option Value) (o4 : Option Value) (σ : SH) : exec PP 4 44 34 [o0, some (.int x1), some (.int x2), o3, o4] [] σ =
  exec PP 4 44 36 [none, some (.int x1), some (.int x2), some (.int 0), none] [] σ := (exec_eq PP 4 44 34 _ _ σ).trans rfl
set_option maxRecDepth 20000 in
theorem e_44_28 (a0 : Nat) (x1 : Int32) (x2 : Int32) (x3 : Int32) (o4 : Option Value) (σ : SH) : exec PP 4 44 28 [some (.ref a0), some (.int x1), some (.int x2), some (.int x3), o4] [] σ =
  exec PP 4 44 4 [some (.ref a0), some (.int x1), some (.int x2), some (.int (x3 + 1)), none] [] σ := (exec_eq PP 4 44 28 _ _ σ).trans rfl
set_option maxRecDepth 20000 in
theorem e_44_36 (o0 : Option Value) (x1 : Int32) (x2 : Int32) (x3 : Int32) (o4 : Option Value) (σ : SH) : exec PP 4 44 36 [o0, some (.int x1), some (.int x2), some (.int x3), o4] [] σ =
  if (x3 < 16 : Prop) then (onI (rn 145 [.int x3, .int x1] σ) (fun x23 σ21 =>
    if (x23 = (-1) : Prop) then (exec PP 4 44 64 [none, some (.int x1), some (.int x2), some (.int x3), some (.int x23)] [] σ21)
      else (exec PP 4 44 36 [none, some (.int x1), some (.int (x2 &&& ((shl 1 x23) ^^^ (-1)))), some (.int (x3 + 1)), none] [] σ21)) (fun _ _ => none))
  else (exec PP 4 44 70 [none, some (.int x1), some (.int x2), some (.int x3), none] [] σ) := (exec_eq PP 4 44 36 _ _ σ).trans rfl
set_option maxRecDepth 20000 in
theorem e_44_70 (o0 : Option Value) (o1 : Option Value) (x2 : Int32) (o3 : Option Value) (o4 : Option Value) (σ : SH) : exec PP 4 44 70 [o0, o1, some (.int x2), o3, o4] [] σ =
  some (.inl (some (.int x2)), σ) := (exec_eq PP 4 44 70 _ _ σ).trans rfl
set_option maxRecDepth 20000 in
theorem e_44_64 (o0 : Option Value) (x1 : Int32) (x2 : Int32) (x3 : Int32) (o4 : Option Value) (σ : SH) : exec PP 4 44 64 [o0, some (.int x1), some (.int x2), some (.int x3), o4] [] σ =
  exec PP 4 44 36 [none, some (.int x1), some (.int x2), some (.int (x3 + 1)), none] [] σ := (exec_eq PP 4 44 64 _ _ σ).trans rfl

/-! 45: ArchEnds$Forecast.bothFrom(IIII)I -/
set_option maxRecDepth 20000 in
theorem r_45 (a0 : Nat) (x1 : Int32) (x2 : Int32) (x3 : Int32) (x4 : Int32) (σ : SH) : rn 45 [.ref a0, .int x1, .int x2, .int x3, .int x4] σ =
  exec PP 5 45 6 [some (.ref a0), some (.int x1), some (.int x2), some (.int x3), some (.int x4), some (.int 0), some (.int x3)] [] σ := (exec_eq PP 5 45 0 _ _ σ).trans rfl
set_option maxRecDepth 20000 in
theorem e_45_6 (a0 : Nat) (x1 : Int32) (x2 : Int32) (x3 : Int32) (x4 : Int32) (x5 : Int32) (x6 : Int32) (σ : SH) : exec PP 5 45 6 [some (.ref a0), some (.int x1), some (.int x2), some (.int x3), some (.int x4), some (.int x5), some (.int x6)] [] σ =
  if (x6 < (x3 + x4) : Prop) then (gR σ 103 0 (.ref a0) fun a21 =>
    if sT σ a21 = 101 then (onI (rn 20 [.ref a21, .int x1, .int x6] σ) (fun x24 σ22 =>
    if (x24 = (-1) : Prop) then (exec PP 5 45 46 [some (.ref a0), some (.int x1), some (.int x2), some (.int x3), some (.int x4), some (.int x5), some (.int x6)] [] σ22)
      else (gR σ22 103 0 (.ref a0) fun a25 =>
        if sT σ22 a25 = 101 then (onI (rn 20 [.ref a25, .int x2, .int x6] σ22) (fun x28 σ26 =>
        if (x28 = (-1) : Prop) then (exec PP 5 45 46 [some (.ref a0), some (.int x1), some (.int x2), some (.int x3), some (.int x4), some (.int x5), some (.int x6)] [] σ26)
          else (exec PP 5 45 6 [some (.ref a0), some (.int x1), some (.int x2), some (.int x3), some (.int x4), some (.int (x5 + 1)), some (.int (x6 + 1))] [] σ26)) (fun e27 σ26x => some (.inr e27, σ26x))) else none)) (fun e23 σ22x => some (.inr e23, σ22x))) else none)
  else (exec PP 5 45 52 [some (.ref a0), some (.int x1), some (.int x2), some (.int x3), some (.int x4), some (.int x5), some (.int x6)] [] σ) := (exec_eq PP 5 45 6 _ _ σ).trans rfl
set_option maxRecDepth 20000 in
theorem e_45_52 (o0 : Option Value) (o1 : Option Value) (o2 : Option Value) (o3 : Option Value) (o4 : Option Value) (x5 : Int32) (o6 : Option Value) (σ : SH) : exec PP 5 45 52 [o0, o1, o2, o3, o4, some (.int x5), o6] [] σ =
  some (.inl (some (.int x5)), σ) := (exec_eq PP 5 45 52 _ _ σ).trans rfl
set_option maxRecDepth 20000 in
theorem e_45_46 (a0 : Nat) (x1 : Int32) (x2 : Int32) (x3 : Int32) (x4 : Int32) (x5 : Int32) (x6 : Int32) (σ : SH) : exec PP 5 45 46 [some (.ref a0), some (.int x1), some (.int x2), some (.int x3), some (.int x4), some (.int x5), some (.int x6)] [] σ =
  exec PP 5 45 6 [some (.ref a0), some (.int x1), some (.int x2), some (.int x3), some (.int x4), some (.int x5), some (.int (x6 + 1))] [] σ := (exec_eq PP 5 45 46 _ _ σ).trans rfl

/-! 46: ArchEnds$Forecast.weddings(III)I -/
set_option maxRecDepth 20000 in
theorem r_46 (a0 : Nat) (x1 : Int32) (x2 : Int32) (x3 : Int32) (σ : SH) : rn 46 [.ref a0, .int x1, .int x2, .int x3] σ =
  exec PP 5 46 9 [some (.ref a0), some (.int x1), some (.int x2), some (.int x3), some (.int 0), some (.int x2), some (.int x2)] [] σ := (exec_eq PP 5 46 0 _ _ σ).trans rfl
set_option maxRecDepth 20000 in
theorem e_46_9 (a0 : Nat) (x1 : Int32) (x2 : Int32) (x3 : Int32) (x4 : Int32) (x5 : Int32) (x6 : Int32) (σ : SH) : exec PP 5 46 9 [some (.ref a0), some (.int x1), some (.int x2), some (.int x3), some (.int x4), some (.int x5), some (.int x6)] [] σ =
  if (x6 < (x2 + 96) : Prop) then (if (x6 < x5 : Prop) then (exec PP 5 46 63 [some (.ref a0), some (.int x1), some (.int x2), some (.int x3), some (.int x4), some (.int x5), some (.int x6)] [] σ)
    else (gR σ 103 0 (.ref a0) fun a21 =>
      gR σ 103 0 (.ref a0) fun a22 =>
      gI σ 101 8 (.ref a22) fun x23 =>
      if sT σ a21 = 101 then (onI (rn 20 [.ref a21, .int x23, .int x6] σ) (fun x26 σ24 =>
      if (x26 = (-1) : Prop) then (exec PP 5 46 63 [some (.ref a0), some (.int x1), some (.int x2), some (.int x3), some (.int x4), some (.int x5), some (.int x6)] [] σ24)
        else (if (x4 = x3 : Prop) then (some (.inl (some (.int x6)), σ24))
          else (exec PP 5 46 54 [some (.ref a0), some (.int x1), some (.int x2), some (.int x3), some (.int x4), some (.int x5), some (.int x6)] [] σ24))) (fun e25 σ24x => some (.inr e25, σ24x))) else none))
  else (exec PP 5 46 69 [some (.ref a0), some (.int x1), some (.int x2), some (.int x3), some (.int x4), some (.int x5), some (.int x6)] [] σ) := (exec_eq PP 5 46 9 _ _ σ).trans rfl
set_option maxRecDepth 20000 in
theorem e_46_69 (o0 : Option Value) (o1 : Option Value) (o2 : Option Value) (x3 : Int32) (x4 : Int32) (o5 : Option Value) (o6 : Option Value) (σ : SH) : exec PP 5 46 69 [o0, o1, o2, some (.int x3), some (.int x4), o5, o6] [] σ =
  if (x3 = (-1) : Prop) then (exec PP 5 46 80 [none, none, none, some (.int x3), some (.int x4), none, none] [.int x4] σ)
  else (exec PP 5 46 79 [none, none, none, some (.int x3), some (.int x4), none, none] [] σ) := (exec_eq PP 5 46 69 _ _ σ).trans rfl
set_option maxRecDepth 20000 in
theorem e_46_63 (a0 : Nat) (x1 : Int32) (x2 : Int32) (x3 : Int32) (x4 : Int32) (x5 : Int32) (x6 : Int32) (σ : SH) : exec PP 5 46 63 [some (.ref a0), some (.int x1), some (.int x2), some (.int x3), some (.int x4), some (.int x5), some (.int x6)] [] σ =
  exec PP 5 46 9 [some (.ref a0), some (.int x1), some (.int x2), some (.int x3), some (.int x4), some (.int x5), some (.int (x6 + 1))] [] σ := (exec_eq PP 5 46 63 _ _ σ).trans rfl
set_option maxRecDepth 20000 in
theorem e_46_54 (a0 : Nat) (x1 : Int32) (x2 : Int32) (x3 : Int32) (x4 : Int32) (o5 : Option Value) (x6 : Int32) (σ : SH) : exec PP 5 46 54 [some (.ref a0), some (.int x1), some (.int x2), some (.int x3), some (.int x4), o5, some (.int x6)] [] σ =
  exec PP 5 46 9 [some (.ref a0), some (.int x1), some (.int x2), some (.int x3), some (.int (x4 + 1)), some (.int (x6 + x1)), some (.int (x6 + 1))] [] σ := (exec_eq PP 5 46 54 _ _ σ).trans rfl
set_option maxRecDepth 20000 in
theorem e_46_79 (o0 : Option Value) (o1 : Option Value) (o2 : Option Value) (o3 : Option Value) (o4 : Option Value) (o5 : Option Value) (o6 : Option Value) (σ : SH) : exec PP 5 46 79 [o0, o1, o2, o3, o4, o5, o6] [] σ =
  some (.inl (some (.int (-1))), σ) := (exec_eq PP 5 46 79 _ _ σ).trans rfl
set_option maxRecDepth 20000 in
theorem e_46_80 (o0 : Option Value) (o1 : Option Value) (o2 : Option Value) (o3 : Option Value) (o4 : Option Value) (o5 : Option Value) (o6 : Option Value) (w0 : Int32) (σ : SH) : exec PP 5 46 80 [o0, o1, o2, o3, o4, o5, o6] [.int w0] σ =
  some (.inl (some (.int w0)), σ) := (exec_eq PP 5 46 80 _ _ σ).trans rfl

/-! 47: ArchEnds$Law.<init>(I[LArchEnds$Sign;[I[I[I)V -/
set_option maxRecDepth 20000 in
theorem r_47 (a0 : Nat) (x1 : Int32) (a2 : Nat) (a3 : Nat) (a4 : Nat) (a5 : Nat) (σ : SH) : rn 47 [.ref a0, .int x1, .ref a2, .ref a3, .ref a4, .ref a5] σ =
  if (a0 : Nat) ≠ 39 ∧ 0 ≤ 8 then
  if (x1 = 0 : Prop) then (exec PP 1 47 18 [some (.ref a0), some (.int x1), some (.ref a2), some (.ref a3), some (.ref a4), some (.ref a5), none, none] [.int 0] σ)
  else (exec PP 1 47 12 [some (.ref a0), some (.int x1), some (.ref a2), some (.ref a3), some (.ref a4), some (.ref a5), none, none] [] σ)
  else none := (exec_eq PP 1 47 0 _ _ σ).trans rfl
set_option maxRecDepth 20000 in
theorem e_47_12 (a0 : Nat) (x1 : Int32) (a2 : Nat) (a3 : Nat) (a4 : Nat) (a5 : Nat) (o6 : Option Value) (o7 : Option Value) (σ : SH) : exec PP 1 47 12 [some (.ref a0), some (.int x1), some (.ref a2), some (.ref a3), some (.ref a4), some (.ref a5), o6, o7] [] σ =
  aI σ 1 (.ref a4) (x1 - 1) fun x21 =>
  pI σ 104 0 (.ref a0) x1 fun σ22 =>
  nwA σ22 19 x1 fun a23 σ24 =>
  pV σ24 104 1 (.ref a0) (.ref a23) fun σ25 =>
  nwA σ25 1 x1 fun a26 σ27 =>
  pV σ27 104 2 (.ref a0) (.ref a26) fun σ28 =>
  nwA σ28 1 x1 fun a29 σ30 =>
  pV σ30 104 3 (.ref a0) (.ref a29) fun σ31 =>
  nwA σ31 1 x21 fun a32 σ33 =>
  pV σ33 104 4 (.ref a0) (.ref a32) fun σ34 =>
  nwA σ34 1 (x21 + 1) fun a35 σ36 =>
  pV σ36 104 5 (.ref a0) (.ref a35) fun σ37 =>
  exec PP 1 47 68 [some (.ref a0), some (.int x1), some (.ref a2), some (.ref a3), some (.ref a4), some (.ref a5), some (.int x21), some (.int 0)] [] σ37 := (exec_eq PP 1 47 12 _ _ σ).trans rfl
set_option maxRecDepth 20000 in
theorem e_47_18 (a0 : Nat) (x1 : Int32) (a2 : Nat) (a3 : Nat) (a4 : Nat) (a5 : Nat) (o6 : Option Value) (o7 : Option Value) (w0 : Int32) (σ : SH) : exec PP 1 47 18 [some (.ref a0), some (.int x1), some (.ref a2), some (.ref a3), some (.ref a4), some (.ref a5), o6, o7] [.int w0] σ =
  pI σ 104 0 (.ref a0) x1 fun σ21 =>
  nwA σ21 19 x1 fun a22 σ23 =>
  pV σ23 104 1 (.ref a0) (.ref a22) fun σ24 =>
  nwA σ24 1 x1 fun a25 σ26 =>
  pV σ26 104 2 (.ref a0) (.ref a25) fun σ27 =>
  nwA σ27 1 x1 fun a28 σ29 =>
  pV σ29 104 3 (.ref a0) (.ref a28) fun σ30 =>
  nwA σ30 1 w0 fun a31 σ32 =>
  pV σ32 104 4 (.ref a0) (.ref a31) fun σ33 =>
  nwA σ33 1 (w0 + 1) fun a34 σ35 =>
  pV σ35 104 5 (.ref a0) (.ref a34) fun σ36 =>
  exec PP 1 47 68 [some (.ref a0), some (.int x1), some (.ref a2), some (.ref a3), some (.ref a4), some (.ref a5), some (.int w0), some (.int 0)] [] σ36 := (exec_eq PP 1 47 18 _ _ σ).trans rfl
set_option maxRecDepth 20000 in
theorem e_47_68 (a0 : Nat) (x1 : Int32) (a2 : Nat) (a3 : Nat) (a4 : Nat) (a5 : Nat) (x6 : Int32) (x7 : Int32) (σ : SH) : exec PP 1 47 68 [some (.ref a0), some (.int x1), some (.ref a2), some (.ref a3), some (.ref a4), some (.ref a5), some (.int x6), some (.int x7)] [] σ =
  if (x7 < x1 : Prop) then (gR σ 104 1 (.ref a0) fun a21 =>
    aR σ (.ref a2) x7 fun a22 =>
    uR σ (.ref a21) x7 (.ref a22) fun σ23 =>
    gR σ23 104 2 (.ref a0) fun a24 =>
    aI σ23 1 (.ref a3) x7 fun x25 =>
    uI σ23 (.ref a24) x7 x25 fun σ26 =>
    gR σ26 104 3 (.ref a0) fun a27 =>
    aI σ26 1 (.ref a4) x7 fun x28 =>
    uI σ26 (.ref a27) x7 x28 fun σ29 =>
    exec PP 1 47 68 [some (.ref a0), some (.int x1), some (.ref a2), some (.ref a3), some (.ref a4), some (.ref a5), some (.int x6), some (.int (x7 + 1))] [] σ29)
  else (exec PP 1 47 114 [some (.ref a0), some (.int x1), some (.ref a2), some (.ref a3), some (.ref a4), some (.ref a5), some (.int x6), some (.int x7)] [] σ) := (exec_eq PP 1 47 68 _ _ σ).trans rfl
set_option maxRecDepth 20000 in
theorem e_47_114 (a0 : Nat) (o1 : Option Value) (o2 : Option Value) (o3 : Option Value) (o4 : Option Value) (a5 : Nat) (x6 : Int32) (o7 : Option Value) (σ : SH) : exec PP 1 47 114 [some (.ref a0), o1, o2, o3, o4, some (.ref a5), some (.int x6), o7] [] σ =
  gR σ 104 4 (.ref a0) fun a21 =>
  acp σ (.ref a5) 0 (.ref a21) 0 x6 fun σ22 =>
  some (.inl none, σ22) := (exec_eq PP 1 47 114 _ _ σ).trans rfl

/-! 48: ArchEnds$Law.sumOf(LArchEnds$Sign;[I)I -/
set_option maxRecDepth 20000 in
theorem r_48 (a0 : Nat) (a1 : Nat) (a2 : Nat) (σ : SH) : rn 48 [.ref a0, .ref a1, .ref a2] σ =
  exec PP 2 48 5 [some (.ref a0), some (.ref a1), some (.ref a2), some (.int 0), some (.int 0)] [] σ := (exec_eq PP 2 48 0 _ _ σ).trans rfl
set_option maxRecDepth 20000 in
theorem e_48_5 (a0 : Nat) (a1 : Nat) (a2 : Nat) (x3 : Int32) (x4 : Int32) (σ : SH) : exec PP 2 48 5 [some (.ref a0), some (.ref a1), some (.ref a2), some (.int x3), some (.int x4)] [] σ =
  gI σ 104 0 (.ref a0) fun x21 =>
  if (x4 < x21 : Prop) then (gR σ 104 1 (.ref a0) fun a22 =>
    aR σ (.ref a22) x4 fun a23 =>
    if (a23 : Nat) < 38 ∧ (a1 : Nat) < 38 then (if (a23 : Nat) = a1 then (if sT σ a0 = 104 then (onI (rn 49 [.ref a0, .int x4, .ref a2] σ) (fun x26 σ24 =>
      if (x26 = 0 : Prop) then (exec PP 2 48 45 [some (.ref a0), some (.ref a1), some (.ref a2), some (.int x3), some (.int x4)] [] σ24)
        else (gR σ24 104 2 (.ref a0) fun a27 =>
          aI σ24 1 (.ref a27) x4 fun x28 =>
          exec PP 2 48 5 [some (.ref a0), some (.ref a1), some (.ref a2), some (.int (x3 + x28)), some (.int (x4 + 1))] [] σ24)) (fun e25 σ24x => some (.inr e25, σ24x))) else none)
    else (exec PP 2 48 45 [some (.ref a0), some (.ref a1), some (.ref a2), some (.int x3), some (.int x4)] [] σ)) else none)
  else (exec PP 2 48 51 [some (.ref a0), some (.ref a1), some (.ref a2), some (.int x3), some (.int x4)] [] σ) := (exec_eq PP 2 48 5 _ _ σ).trans rfl
set_option maxRecDepth 20000 in
theorem e_48_51 (o0 : Option Value) (o1 : Option Value) (o2 : Option Value) (x3 : Int32) (o4 : Option Value) (σ : SH) : exec PP 2 48 51 [o0, o1, o2, some (.int x3), o4] [] σ =
  some (.inl (some (.int x3)), σ) := (exec_eq PP 2 48 51 _ _ σ).trans rfl
set_option maxRecDepth 20000 in
theorem e_48_45 (a0 : Nat) (a1 : Nat) (a2 : Nat) (x3 : Int32) (x4 : Int32) (σ : SH) : exec PP 2 48 45 [some (.ref a0), some (.ref a1), some (.ref a2), some (.int x3), some (.int x4)] [] σ =
  exec PP 2 48 5 [some (.ref a0), some (.ref a1), some (.ref a2), some (.int x3), some (.int (x4 + 1))] [] σ := (exec_eq PP 2 48 45 _ _ σ).trans rfl

/-! 49: ArchEnds$Law.holds(I[I)Z -/
set_option maxRecDepth 20000 in
theorem r_49 (a0 : Nat) (x1 : Int32) (a2 : Nat) (σ : SH) : rn 49 [.ref a0, .int x1, .ref a2] σ =
  if (x1 = 0 : Prop) then (exec PP 1 49 18 [some (.ref a0), some (.int x1), some (.ref a2), some (.int 0), none, none, none, none] [.int 0] σ)
  else (exec PP 1 49 10 [some (.ref a0), some (.int x1), some (.ref a2), some (.int 0), none, none, none, none] [] σ) := (exec_eq PP 1 49 0 _ _ σ).trans rfl
set_option maxRecDepth 20000 in
theorem e_49_10 (a0 : Nat) (x1 : Int32) (a2 : Nat) (x3 : Int32) (o4 : Option Value) (o5 : Option Value) (o6 : Option Value) (o7 : Option Value) (σ : SH) : exec PP 1 49 10 [some (.ref a0), some (.int x1), some (.ref a2), some (.int x3), o4, o5, o6, o7] [] σ =
  gR σ 104 3 (.ref a0) fun a21 =>
  aI σ 1 (.ref a21) (x1 - 1) fun x22 =>
  exec PP 1 49 20 [some (.ref a0), some (.int x1), some (.ref a2), some (.int x3), some (.int x22), none, none, none] [] σ := (exec_eq PP 1 49 10 _ _ σ).trans rfl
set_option maxRecDepth 20000 in
theorem e_49_18 (a0 : Nat) (x1 : Int32) (a2 : Nat) (x3 : Int32) (o4 : Option Value) (o5 : Option Value) (o6 : Option Value) (o7 : Option Value) (w0 : Int32) (σ : SH) : exec PP 1 49 18 [some (.ref a0), some (.int x1), some (.ref a2), some (.int x3), o4, o5, o6, o7] [.int w0] σ =
  exec PP 1 49 20 [some (.ref a0), some (.int x1), some (.ref a2), some (.int x3), some (.int w0), none, none, none] [] σ := (exec_eq PP 1 49 18 _ _ σ).trans rfl
set_option maxRecDepth 20000 in
theorem e_49_20 (a0 : Nat) (x1 : Int32) (a2 : Nat) (x3 : Int32) (x4 : Int32) (o5 : Option Value) (o6 : Option Value) (o7 : Option Value) (σ : SH) : exec PP 1 49 20 [some (.ref a0), some (.int x1), some (.ref a2), some (.int x3), some (.int x4), o5, o6, o7] [] σ =
  gR σ 104 3 (.ref a0) fun a21 =>
  aI σ 1 (.ref a21) x1 fun x22 =>
  if (x4 < x22 : Prop) then (gR σ 104 4 (.ref a0) fun a23 =>
    aI σ 1 (.ref a23) x4 fun x24 =>
    aN σ (.ref a2) fun x25 =>
    if (((x24 - 1000) : Int32) < x25 : Prop) then (gR σ 104 5 (.ref a0) fun a26 =>
      aN σ (.ref a26) fun x27 =>
      if (x3 < x27 : Prop) then (gR σ 104 5 (.ref a0) fun a28 =>
        if (x24 < 1000 : Prop) then (exec PP 1 49 86 [some (.ref a0), some (.int x1), some (.ref a2), some (.int x3), some (.int x4), some (.int x24), none, none] [.int x24, .int x3, .ref a28] σ)
        else (exec PP 1 49 78 [some (.ref a0), some (.int x1), some (.ref a2), some (.int x3), some (.int x4), some (.int x24), none, none] [.int x3, .ref a28] σ))
      else (exec PP 1 49 93 [some (.ref a0), some (.int x1), some (.ref a2), some (.int x3), some (.int x4), some (.int x24), none, none] [] σ))
    else (exec PP 1 49 93 [some (.ref a0), some (.int x1), some (.ref a2), some (.int x3), some (.int x4), some (.int x24), none, none] [] σ))
  else (exec PP 1 49 281 [some (.ref a0), some (.int x1), some (.ref a2), some (.int x3), some (.int x4), none, none, none] [] σ) := (exec_eq PP 1 49 20 _ _ σ).trans rfl
set_option maxRecDepth 20000 in
theorem e_49_281 (a0 : Nat) (o1 : Option Value) (o2 : Option Value) (x3 : Int32) (o4 : Option Value) (o5 : Option Value) (o6 : Option Value) (o7 : Option Value) (σ : SH) : exec PP 1 49 281 [some (.ref a0), o1, o2, some (.int x3), o4, o5, o6, o7] [] σ =
  if (x3 = 0 : Prop) then (exec PP 1 49 294 [some (.ref a0), none, none, some (.int x3), none, none, none, none] [] σ)
  else (gR σ 104 5 (.ref a0) fun a21 =>
    aI σ 1 (.ref a21) 0 fun x22 =>
    if (x22 = 0 : Prop) then (exec PP 1 49 298 [some (.ref a0), none, none, some (.int x3), none, none, none, none] [] σ)
    else (exec PP 1 49 299 [none, none, none, none, none, none, none, none] [.int 1] σ)) := (exec_eq PP 1 49 281 _ _ σ).trans rfl
set_option maxRecDepth 20000 in
theorem e_49_93 (a0 : Nat) (x1 : Int32) (a2 : Nat) (x3 : Int32) (x4 : Int32) (x5 : Int32) (o6 : Option Value) (o7 : Option Value) (σ : SH) : exec PP 1 49 93 [some (.ref a0), some (.int x1), some (.ref a2), some (.int x3), some (.int x4), some (.int x5), o6, o7] [] σ =
  if (x5 = 1100 : Prop) then (if (x3 < 1 : Prop) then (exec PP 1 49 127 [some (.ref a0), some (.int x1), some (.ref a2), some (.int x3), some (.int x4), some (.int x5), none, none] [] σ)
    else (gR σ 104 5 (.ref a0) fun a21 =>
      gR σ 104 5 (.ref a0) fun a22 =>
      aI σ 1 (.ref a22) (x3 - 1) fun x23 =>
      uI σ (.ref a21) (x3 - 1) (1 - x23) fun σ24 =>
      exec PP 1 49 275 [some (.ref a0), some (.int x1), some (.ref a2), some (.int x3), some (.int x4), some (.int x5), none, none] [] σ24))
  else (exec PP 1 49 127 [some (.ref a0), some (.int x1), some (.ref a2), some (.int x3), some (.int x4), some (.int x5), none, none] [] σ) := (exec_eq PP 1 49 93 _ _ σ).trans rfl
set_option maxRecDepth 20000 in
theorem e_49_78 (a0 : Nat) (x1 : Int32) (a2 : Nat) (x3 : Int32) (x4 : Int32) (x5 : Int32) (o6 : Option Value) (o7 : Option Value) (w0 : Int32) (b1 : Nat) (σ : SH) : exec PP 1 49 78 [some (.ref a0), some (.int x1), some (.ref a2), some (.int x3), some (.int x4), some (.int x5), o6, o7] [.int w0, .ref b1] σ =
  aI σ 1 (.ref a2) (x5 - 1000) fun x21 =>
  uI σ (.ref b1) w0 x21 fun σ22 =>
  exec PP 1 49 275 [some (.ref a0), some (.int x1), some (.ref a2), some (.int (x3 + 1)), some (.int x4), none, none, none] [] σ22 := (exec_eq PP 1 49 78 _ _ σ).trans rfl
set_option maxRecDepth 20000 in
theorem e_49_86 (a0 : Nat) (x1 : Int32) (a2 : Nat) (x3 : Int32) (x4 : Int32) (o5 : Option Value) (o6 : Option Value) (o7 : Option Value) (w0 : Int32) (w1 : Int32) (b2 : Nat) (σ : SH) : exec PP 1 49 86 [some (.ref a0), some (.int x1), some (.ref a2), some (.int x3), some (.int x4), o5, o6, o7] [.int w0, .int w1, .ref b2] σ =
  uI σ (.ref b2) w1 w0 fun σ21 =>
  exec PP 1 49 275 [some (.ref a0), some (.int x1), some (.ref a2), some (.int (x3 + 1)), some (.int x4), none, none, none] [] σ21 := (exec_eq PP 1 49 86 _ _ σ).trans rfl
set_option maxRecDepth 20000 in
theorem e_49_294 (o0 : Option Value) (o1 : Option Value) (o2 : Option Value) (o3 : Option Value) (o4 : Option Value) (o5 : Option Value) (o6 : Option Value) (o7 : Option Value) (σ : SH) : exec PP 1 49 294 [o0, o1, o2, o3, o4, o5, o6, o7] [] σ =
  exec PP 1 49 299 [none, none, none, none, none, none, none, none] [.int 1] σ := (exec_eq PP 1 49 294 _ _ σ).trans rfl
set_option maxRecDepth 20000 in
theorem e_49_298 (o0 : Option Value) (o1 : Option Value) (o2 : Option Value) (o3 : Option Value) (o4 : Option Value) (o5 : Option Value) (o6 : Option Value) (o7 : Option Value) (σ : SH) : exec PP 1 49 298 [o0, o1, o2, o3, o4, o5, o6, o7] [] σ =
  some (.inl (some (.int 0)), σ) := (exec_eq PP 1 49 298 _ _ σ).trans rfl
set_option maxRecDepth 20000 in
theorem e_49_299 (o0 : Option Value) (o1 : Option Value) (o2 : Option Value) (o3 : Option Value) (o4 : Option Value) (o5 : Option Value) (o6 : Option Value) (o7 : Option Value) (w0 : Int32) (σ : SH) : exec PP 1 49 299 [o0, o1, o2, o3, o4, o5, o6, o7] [.int w0] σ =
  if w0 = 0 ∨ w0 = 1 then some (.inl (some (.int w0)), σ) else none := (exec_eq PP 1 49 299 _ _ σ).trans rfl
set_option maxRecDepth 20000 in
theorem e_49_127 (a0 : Nat) (x1 : Int32) (a2 : Nat) (x3 : Int32) (x4 : Int32) (x5 : Int32) (o6 : Option Value) (o7 : Option Value) (σ : SH) : exec PP 1 49 127 [some (.ref a0), some (.int x1), some (.ref a2), some (.int x3), some (.int x4), some (.int x5), o6, o7] [] σ =
  if (x3 < 2 : Prop) then (exec PP 1 49 275 [some (.ref a0), some (.int x1), some (.ref a2), some (.int x3), some (.int x4), some (.int x5), none, none] [] σ)
  else (gR σ 104 5 (.ref a0) fun a21 =>
    aI σ 1 (.ref a21) ((x3 + (-1)) - 1) fun x22 =>
    gR σ 104 5 (.ref a0) fun a23 =>
    aI σ 1 (.ref a23) (x3 + (-1)) fun x24 =>
    if x5 = 1101 then (exec PP 1 49 184 [some (.ref a0), some (.int x1), some (.ref a2), some (.int (x3 + (-1))), some (.int x4), some (.int x5), some (.int x22), some (.int x24)] [] σ)
    else if x5 = 1102 then (exec PP 1 49 200 [some (.ref a0), some (.int x1), some (.ref a2), some (.int (x3 + (-1))), some (.int x4), some (.int x5), some (.int x22), some (.int x24)] [] σ)
    else if x5 = 1103 then (exec PP 1 49 223 [some (.ref a0), some (.int x1), some (.ref a2), some (.int (x3 + (-1))), some (.int x4), some (.int x5), some (.int x22), some (.int x24)] [] σ)
    else if x5 = 1104 then (exec PP 1 49 246 [some (.ref a0), some (.int x1), some (.ref a2), some (.int (x3 + (-1))), some (.int x4), some (.int x5), some (.int x22), some (.int x24)] [] σ)
    else (exec PP 1 49 262 [some (.ref a0), some (.int x1), some (.ref a2), some (.int (x3 + (-1))), some (.int x4), some (.int x5), some (.int x22), some (.int x24)] [] σ)) := (exec_eq PP 1 49 127 _ _ σ).trans rfl
set_option maxRecDepth 20000 in
theorem e_49_275 (a0 : Nat) (x1 : Int32) (a2 : Nat) (x3 : Int32) (x4 : Int32) (o5 : Option Value) (o6 : Option Value) (o7 : Option Value) (σ : SH) : exec PP 1 49 275 [some (.ref a0), some (.int x1), some (.ref a2), some (.int x3), some (.int x4), o5, o6, o7] [] σ =
  exec PP 1 49 20 [some (.ref a0), some (.int x1), some (.ref a2), some (.int x3), some (.int (x4 + 1)), none, none, none] [] σ := (exec_eq PP 1 49 275 _ _ σ).trans rfl
set_option maxRecDepth 20000 in
theorem e_49_262 (a0 : Nat) (x1 : Int32) (a2 : Nat) (x3 : Int32) (x4 : Int32) (o5 : Option Value) (x6 : Int32) (x7 : Int32) (σ : SH) : exec PP 1 49 262 [some (.ref a0), some (.int x1), some (.ref a2), some (.int x3), some (.int x4), o5, some (.int x6), some (.int x7)] [] σ =
  gR σ 104 5 (.ref a0) fun a21 =>
  uI σ (.ref a21) (x3 - 1) (x6 ||| x7) fun σ22 =>
  exec PP 1 49 20 [some (.ref a0), some (.int x1), some (.ref a2), some (.int x3), some (.int (x4 + 1)), none, none, none] [] σ22 := (exec_eq PP 1 49 262 _ _ σ).trans rfl
set_option maxRecDepth 20000 in
theorem e_49_184 (a0 : Nat) (x1 : Int32) (a2 : Nat) (x3 : Int32) (x4 : Int32) (o5 : Option Value) (x6 : Int32) (x7 : Int32) (σ : SH) : exec PP 1 49 184 [some (.ref a0), some (.int x1), some (.ref a2), some (.int x3), some (.int x4), o5, some (.int x6), some (.int x7)] [] σ =
  gR σ 104 5 (.ref a0) fun a21 =>
  uI σ (.ref a21) (x3 - 1) (x6 + x7) fun σ22 =>
  exec PP 1 49 275 [some (.ref a0), some (.int x1), some (.ref a2), some (.int x3), some (.int x4), none, some (.int x6), some (.int x7)] [] σ22 := (exec_eq PP 1 49 184 _ _ σ).trans rfl
set_option maxRecDepth 20000 in
theorem e_49_200 (a0 : Nat) (x1 : Int32) (a2 : Nat) (x3 : Int32) (x4 : Int32) (o5 : Option Value) (x6 : Int32) (x7 : Int32) (σ : SH) : exec PP 1 49 200 [some (.ref a0), some (.int x1), some (.ref a2), some (.int x3), some (.int x4), o5, some (.int x6), some (.int x7)] [] σ =
  gR σ 104 5 (.ref a0) fun a21 =>
  if (x6 < x7 : Prop) then (exec PP 1 49 219 [some (.ref a0), some (.int x1), some (.ref a2), some (.int x3), some (.int x4), none, some (.int x6), some (.int x7)] [.int 1, .int (x3 - 1), .ref a21] σ)
  else (exec PP 1 49 218 [some (.ref a0), some (.int x1), some (.ref a2), some (.int x3), some (.int x4), none, some (.int x6), some (.int x7)] [.int (x3 - 1), .ref a21] σ) := (exec_eq PP 1 49 200 _ _ σ).trans rfl
set_option maxRecDepth 20000 in
theorem e_49_223 (a0 : Nat) (x1 : Int32) (a2 : Nat) (x3 : Int32) (x4 : Int32) (o5 : Option Value) (x6 : Int32) (x7 : Int32) (σ : SH) : exec PP 1 49 223 [some (.ref a0), some (.int x1), some (.ref a2), some (.int x3), some (.int x4), o5, some (.int x6), some (.int x7)] [] σ =
  gR σ 104 5 (.ref a0) fun a21 =>
  if (x7 < x6 : Prop) then (exec PP 1 49 242 [some (.ref a0), some (.int x1), some (.ref a2), some (.int x3), some (.int x4), none, some (.int x6), some (.int x7)] [.int 1, .int (x3 - 1), .ref a21] σ)
  else (exec PP 1 49 241 [some (.ref a0), some (.int x1), some (.ref a2), some (.int x3), some (.int x4), none, some (.int x6), some (.int x7)] [.int (x3 - 1), .ref a21] σ) := (exec_eq PP 1 49 223 _ _ σ).trans rfl
set_option maxRecDepth 20000 in
theorem e_49_246 (a0 : Nat) (x1 : Int32) (a2 : Nat) (x3 : Int32) (x4 : Int32) (o5 : Option Value) (x6 : Int32) (x7 : Int32) (σ : SH) : exec PP 1 49 246 [some (.ref a0), some (.int x1), some (.ref a2), some (.int x3), some (.int x4), o5, some (.int x6), some (.int x7)] [] σ =
  gR σ 104 5 (.ref a0) fun a21 =>
  uI σ (.ref a21) (x3 - 1) (x6 &&& x7) fun σ22 =>
  exec PP 1 49 275 [some (.ref a0), some (.int x1), some (.ref a2), some (.int x3), some (.int x4), none, some (.int x6), some (.int x7)] [] σ22 := (exec_eq PP 1 49 246 _ _ σ).trans rfl
set_option maxRecDepth 20000 in
theorem e_49_218 (a0 : Nat) (x1 : Int32) (a2 : Nat) (x3 : Int32) (x4 : Int32) (o5 : Option Value) (o6 : Option Value) (o7 : Option Value) (w0 : Int32) (b1 : Nat) (σ : SH) : exec PP 1 49 218 [some (.ref a0), some (.int x1), some (.ref a2), some (.int x3), some (.int x4), o5, o6, o7] [.int w0, .ref b1] σ =
  uI σ (.ref b1) w0 0 fun σ21 =>
  exec PP 1 49 275 [some (.ref a0), some (.int x1), some (.ref a2), some (.int x3), some (.int x4), none, none, none] [] σ21 := (exec_eq PP 1 49 218 _ _ σ).trans rfl
set_option maxRecDepth 20000 in
theorem e_49_219 (a0 : Nat) (x1 : Int32) (a2 : Nat) (x3 : Int32) (x4 : Int32) (o5 : Option Value) (o6 : Option Value) (o7 : Option Value) (w0 : Int32) (w1 : Int32) (b2 : Nat) (σ : SH) : exec PP 1 49 219 [some (.ref a0), some (.int x1), some (.ref a2), some (.int x3), some (.int x4), o5, o6, o7] [.int w0, .int w1, .ref b2] σ =
  uI σ (.ref b2) w1 w0 fun σ21 =>
  exec PP 1 49 275 [some (.ref a0), some (.int x1), some (.ref a2), some (.int x3), some (.int x4), none, none, none] [] σ21 := (exec_eq PP 1 49 219 _ _ σ).trans rfl
set_option maxRecDepth 20000 in
theorem e_49_241 (a0 : Nat) (x1 : Int32) (a2 : Nat) (x3 : Int32) (x4 : Int32) (o5 : Option Value) (o6 : Option Value) (o7 : Option Value) (w0 : Int32) (b1 : Nat) (σ : SH) : exec PP 1 49 241 [some (.ref a0), some (.int x1), some (.ref a2), some (.int x3), some (.int x4), o5, o6, o7] [.int w0, .ref b1] σ =
  uI σ (.ref b1) w0 0 fun σ21 =>
  exec PP 1 49 275 [some (.ref a0), some (.int x1), some (.ref a2), some (.int x3), some (.int x4), none, none, none] [] σ21 := (exec_eq PP 1 49 241 _ _ σ).trans rfl
set_option maxRecDepth 20000 in
theorem e_49_242 (a0 : Nat) (x1 : Int32) (a2 : Nat) (x3 : Int32) (x4 : Int32) (o5 : Option Value) (o6 : Option Value) (o7 : Option Value) (w0 : Int32) (w1 : Int32) (b2 : Nat) (σ : SH) : exec PP 1 49 242 [some (.ref a0), some (.int x1), some (.ref a2), some (.int x3), some (.int x4), o5, o6, o7] [.int w0, .int w1, .ref b2] σ =
  uI σ (.ref b2) w1 w0 fun σ21 =>
  exec PP 1 49 275 [some (.ref a0), some (.int x1), some (.ref a2), some (.int x3), some (.int x4), none, none, none] [] σ21 := (exec_eq PP 1 49 242 _ _ σ).trans rfl

/-! 50: ArchEnds$LogBook.<init>()V -/
set_option maxRecDepth 20000 in
theorem r_50 (a0 : Nat) (σ : SH) : rn 50 [.ref a0] σ =
  if (a0 : Nat) ≠ 39 ∧ 0 ≤ 8 then
  nwA σ 1 240 fun a21 σ22 =>
  pV σ22 105 2 (.ref a0) (.ref a21) fun σ23 =>
  some (.inl none, σ23)
  else none := (exec_eq PP 1 50 0 _ _ σ).trans rfl

/-! 51: ArchEnds$LogBook.copyFrom(LArchEnds$LogBook;)V -/
set_option maxRecDepth 20000 in
theorem r_51 (a0 : Nat) (a1 : Nat) (σ : SH) : rn 51 [.ref a0, .ref a1] σ =
  gI σ 105 0 (.ref a1) fun x21 =>
  pI σ 105 0 (.ref a0) x21 fun σ22 =>
  gI σ22 105 1 (.ref a1) fun x23 =>
  pI σ22 105 1 (.ref a0) x23 fun σ24 =>
  gR σ24 105 2 (.ref a1) fun a25 =>
  gR σ24 105 2 (.ref a0) fun a26 =>
  gR σ24 105 2 (.ref a0) fun a27 =>
  aN σ24 (.ref a27) fun x28 =>
  acp σ24 (.ref a25) 0 (.ref a26) 0 x28 fun σ29 =>
  some (.inl none, σ29) := (exec_eq PP 1 51 0 _ _ σ).trans rfl

/-! 52: ArchEnds$LogBook.add(IIII)V -/
set_option maxRecDepth 20000 in
theorem r_52 (a0 : Nat) (x1 : Int32) (x2 : Int32) (x3 : Int32) (x4 : Int32) (σ : SH) : rn 52 [.ref a0, .int x1, .int x2, .int x3, .int x4] σ =
  gI σ 105 1 (.ref a0) fun x21 =>
  gR σ 105 2 (.ref a0) fun a22 =>
  uI σ (.ref a22) (x21 * 4) x1 fun σ23 =>
  gR σ23 105 2 (.ref a0) fun a24 =>
  uI σ23 (.ref a24) ((x21 * 4) + 1) x2 fun σ25 =>
  gR σ25 105 2 (.ref a0) fun a26 =>
  uI σ25 (.ref a26) ((x21 * 4) + 2) x3 fun σ27 =>
  gR σ27 105 2 (.ref a0) fun a28 =>
  uI σ27 (.ref a28) ((x21 * 4) + 3) x4 fun σ29 =>
  gI σ29 105 1 (.ref a0) fun x30 =>
  pI σ29 105 1 (.ref a0) (irm (x30 + 1) 60) fun σ31 =>
  gI σ31 105 0 (.ref a0) fun x32 =>
  if (x32 < 60 : Prop) then (gI σ31 105 0 (.ref a0) fun x33 =>
    exec PP 1 52 81 [some (.ref a0), some (.int x1), some (.int x2), some (.int x3), some (.int x4), some (.int (x21 * 4))] [.int (x33 + 1), .ref a0] σ31)
  else (exec PP 1 52 79 [some (.ref a0), some (.int x1), some (.int x2), some (.int x3), some (.int x4), some (.int (x21 * 4))] [.ref a0] σ31) := (exec_eq PP 1 52 0 _ _ σ).trans rfl
set_option maxRecDepth 20000 in
theorem e_52_79 (o0 : Option Value) (o1 : Option Value) (o2 : Option Value) (o3 : Option Value) (o4 : Option Value) (o5 : Option Value) (b0 : Nat) (σ : SH) : exec PP 1 52 79 [o0, o1, o2, o3, o4, o5] [.ref b0] σ =
  pI σ 105 0 (.ref b0) 60 fun σ21 =>
  some (.inl none, σ21) := (exec_eq PP 1 52 79 _ _ σ).trans rfl
set_option maxRecDepth 20000 in
theorem e_52_81 (o0 : Option Value) (o1 : Option Value) (o2 : Option Value) (o3 : Option Value) (o4 : Option Value) (o5 : Option Value) (w0 : Int32) (b1 : Nat) (σ : SH) : exec PP 1 52 81 [o0, o1, o2, o3, o4, o5] [.int w0, .ref b1] σ =
  pI σ 105 0 (.ref b1) w0 fun σ21 =>
  some (.inl none, σ21) := (exec_eq PP 1 52 81 _ _ σ).trans rfl

/-! 53: ArchEnds$LogBook.latestMinuteOf(I)I -/
set_option maxRecDepth 20000 in
theorem r_53 (a0 : Nat) (x1 : Int32) (σ : SH) : rn 53 [.ref a0, .int x1] σ =
  exec PP 2 53 2 [some (.ref a0), some (.int x1), some (.int 0)] [] σ := (exec_eq PP 2 53 0 _ _ σ).trans rfl
set_option maxRecDepth 20000 in
theorem e_53_2 (a0 : Nat) (x1 : Int32) (x2 : Int32) (σ : SH) : exec PP 2 53 2 [some (.ref a0), some (.int x1), some (.int x2)] [] σ =
  gI σ 105 0 (.ref a0) fun x21 =>
  if (x2 < x21 : Prop) then (if sT σ a0 = 105 then (onI (rn 54 [.ref a0, .int x2, .int 2] σ) (fun x24 σ22 =>
    if (x24 = x1 : Prop) then (if sT σ22 a0 = 105 then (onI (rn 54 [.ref a0, .int x2, .int 0] σ22) (fun x27 σ25 =>
        some (.inl (some (.int x27)), σ25)) (fun e26 σ25x => some (.inr e26, σ25x))) else none)
      else (exec PP 2 53 27 [some (.ref a0), some (.int x1), some (.int x2)] [] σ22)) (fun e23 σ22x => some (.inr e23, σ22x))) else none)
  else (exec PP 2 53 33 [some (.ref a0), some (.int x1), some (.int x2)] [] σ) := (exec_eq PP 2 53 2 _ _ σ).trans rfl
set_option maxRecDepth 20000 in
theorem e_53_33 (o0 : Option Value) (o1 : Option Value) (o2 : Option Value) (σ : SH) : exec PP 2 53 33 [o0, o1, o2] [] σ =
  some (.inl (some (.int (-1))), σ) := (exec_eq PP 2 53 33 _ _ σ).trans rfl
set_option maxRecDepth 20000 in
theorem e_53_27 (a0 : Nat) (x1 : Int32) (x2 : Int32) (σ : SH) : exec PP 2 53 27 [some (.ref a0), some (.int x1), some (.int x2)] [] σ =
  exec PP 2 53 2 [some (.ref a0), some (.int x1), some (.int (x2 + 1))] [] σ := (exec_eq PP 2 53 27 _ _ σ).trans rfl

/-! 54: ArchEnds$LogBook.entry(II)I -/
set_option maxRecDepth 20000 in
theorem r_54 (a0 : Nat) (x1 : Int32) (x2 : Int32) (σ : SH) : rn 54 [.ref a0, .int x1, .int x2] σ =
  if (x1 < 0 : Prop) then (exec PP 1 54 12 [some (.ref a0), some (.int x1), some (.int x2)] [] σ)
  else (gI σ 105 0 (.ref a0) fun x21 =>
    if (x1 < x21 : Prop) then (exec PP 1 54 14 [some (.ref a0), some (.int x1), some (.int x2)] [] σ)
    else (some (.inl (some (.int (-1))), σ))) := (exec_eq PP 1 54 0 _ _ σ).trans rfl
set_option maxRecDepth 20000 in
theorem e_54_12 (o0 : Option Value) (o1 : Option Value) (o2 : Option Value) (σ : SH) : exec PP 1 54 12 [o0, o1, o2] [] σ =
  some (.inl (some (.int (-1))), σ) := (exec_eq PP 1 54 12 _ _ σ).trans rfl
set_option maxRecDepth 20000 in
theorem e_54_14 (a0 : Nat) (x1 : Int32) (x2 : Int32) (σ : SH) : exec PP 1 54 14 [some (.ref a0), some (.int x1), some (.int x2)] [] σ =
  gR σ 105 2 (.ref a0) fun a21 =>
  gI σ 105 1 (.ref a0) fun x22 =>
  aI σ 1 (.ref a21) (((irm (((x22 + 60) - 1) - x1) 60) * 4) + x2) fun x23 =>
  some (.inl (some (.int x23)), σ) := (exec_eq PP 1 54 14 _ _ σ).trans rfl

/-! 55: ArchEnds$LogBook.rowsOf(I)I -/
set_option maxRecDepth 20000 in
theorem r_55 (a0 : Nat) (x1 : Int32) (σ : SH) : rn 55 [.ref a0, .int x1] σ =
  exec PP 2 55 4 [some (.ref a0), some (.int x1), some (.int 0), some (.int 0)] [] σ := (exec_eq PP 2 55 0 _ _ σ).trans rfl
set_option maxRecDepth 20000 in
theorem e_55_4 (a0 : Nat) (x1 : Int32) (x2 : Int32) (x3 : Int32) (σ : SH) : exec PP 2 55 4 [some (.ref a0), some (.int x1), some (.int x2), some (.int x3)] [] σ =
  gI σ 105 0 (.ref a0) fun x21 =>
  if (x3 < x21 : Prop) then (if sT σ a0 = 105 then (onI (rn 54 [.ref a0, .int x3, .int 2] σ) (fun x24 σ22 =>
    if (x24 = x1 : Prop) then (exec PP 2 55 4 [some (.ref a0), some (.int x1), some (.int (x2 + 1)), some (.int (x3 + 1))] [] σ22)
      else (exec PP 2 55 25 [some (.ref a0), some (.int x1), some (.int x2), some (.int x3)] [] σ22)) (fun e23 σ22x => some (.inr e23, σ22x))) else none)
  else (exec PP 2 55 31 [some (.ref a0), some (.int x1), some (.int x2), some (.int x3)] [] σ) := (exec_eq PP 2 55 4 _ _ σ).trans rfl
set_option maxRecDepth 20000 in
theorem e_55_31 (o0 : Option Value) (o1 : Option Value) (x2 : Int32) (o3 : Option Value) (σ : SH) : exec PP 2 55 31 [o0, o1, some (.int x2), o3] [] σ =
  some (.inl (some (.int x2)), σ) := (exec_eq PP 2 55 31 _ _ σ).trans rfl
set_option maxRecDepth 20000 in
theorem e_55_25 (a0 : Nat) (x1 : Int32) (x2 : Int32) (x3 : Int32) (σ : SH) : exec PP 2 55 25 [some (.ref a0), some (.int x1), some (.int x2), some (.int x3)] [] σ =
  exec PP 2 55 4 [some (.ref a0), some (.int x1), some (.int x2), some (.int (x3 + 1))] [] σ := (exec_eq PP 2 55 25 _ _ σ).trans rfl
