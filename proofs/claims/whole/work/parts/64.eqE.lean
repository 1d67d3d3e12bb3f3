/-! 177: ArchEndsModel.thrown()I -/
set_option maxRecDepth 20000 in
theorem r_177 (a0 : Nat) (σ : SH) : rn 177 [.ref a0] σ =
  gI σ 112 0 (.ref a0) fun x21 =>
  some (.inl (some (.int x21)), σ) := (exec_eq PP 1 177 0 _ _ σ).trans rfl

/-! 178: ArchEndsModel.<init>()V -/
set_option maxRecDepth 20000 in
theorem r_178 (a0 : Nat) (σ : SH) : rn 178 [.ref a0] σ =
  if (a0 : Nat) ≠ 39 ∧ 0 ≤ 8 then
  nwA σ 1 2061 fun a21 σ22 =>
  pV σ22 112 1 (.ref a0) (.ref a21) fun σ23 =>
  nwA σ23 1 1212 fun a24 σ25 =>
  pV σ25 112 2 (.ref a0) (.ref a24) fun σ26 =>
  nwA σ26 1 1212 fun a27 σ28 =>
  pV σ28 112 3 (.ref a0) (.ref a27) fun σ29 =>
  nwA σ29 1 363 fun a30 σ31 =>
  pV σ31 112 4 (.ref a0) (.ref a30) fun σ32 =>
  nwA σ32 1 4356 fun a33 σ34 =>
  pV σ34 112 5 (.ref a0) (.ref a33) fun σ35 =>
  nwA σ35 2 400 fun a36 σ37 =>
  pV σ37 112 8 (.ref a0) (.ref a36) fun σ38 =>
  pI σ38 112 14 (.ref a0) (-1) fun σ39 =>
  nwA σ39 1 5 fun a40 σ41 =>
  pV σ41 112 15 (.ref a0) (.ref a40) fun σ42 =>
  nwA σ42 1 400 fun a43 σ44 =>
  pV σ44 112 17 (.ref a0) (.ref a43) fun σ45 =>
  nwA σ45 1 8 fun a46 σ47 =>
  pV σ47 112 21 (.ref a0) (.ref a46) fun σ48 =>
  nwA σ48 1 8 fun a49 σ50 =>
  pV σ50 112 22 (.ref a0) (.ref a49) fun σ51 =>
  nwA σ51 1 192 fun a52 σ53 =>
  pV σ53 112 23 (.ref a0) (.ref a52) fun σ54 =>
  gR σ54 112 1 (.ref a0) fun a55 =>
  uI σ54 (.ref a55) 6 8 fun σ56 =>
  gR σ56 112 1 (.ref a0) fun a57 =>
  uI σ56 (.ref a57) 7 5 fun σ58 =>
  gR σ58 112 1 (.ref a0) fun a59 =>
  uI σ58 (.ref a59) 9 1 fun σ60 =>
  some (.inl none, σ60)
  else none := (exec_eq PP 1 178 0 _ _ σ).trans rfl

/-! 179: ArchEndsModel.image()V -/
set_option maxRecDepth 20000 in
theorem r_179 (a0 : Nat) (σ : SH) : rn 179 [.ref a0] σ =
  pI σ 112 0 (.ref a0) 0 fun σ21 =>
  exec PP 1 179 7 [some (.ref a0), some (.int 0)] [] σ21 := (exec_eq PP 1 179 0 _ _ σ).trans rfl
set_option maxRecDepth 20000 in
theorem e_179_7 (a0 : Nat) (x1 : Int32) (σ : SH) : exec PP 1 179 7 [some (.ref a0), some (.int x1)] [] σ =
  if (x1 < 1212 : Prop) then (gR σ 112 2 (.ref a0) fun a21 =>
    gR σ 112 1 (.ref a0) fun a22 =>
    aI σ 1 (.ref a22) x1 fun x23 =>
    uI σ (.ref a21) x1 x23 fun σ24 =>
    exec PP 1 179 7 [some (.ref a0), some (.int (x1 + 1))] [] σ24)
  else (exec PP 1 179 32 [some (.ref a0), some (.int x1)] [] σ) := (exec_eq PP 1 179 7 _ _ σ).trans rfl
set_option maxRecDepth 20000 in
theorem e_179_32 (a0 : Nat) (o1 : Option Value) (σ : SH) : exec PP 1 179 32 [some (.ref a0), o1] [] σ =
  pB σ 112 6 (.ref a0) 1 fun σ21 =>
  some (.inl none, σ21) := (exec_eq PP 1 179 32 _ _ σ).trans rfl

/-! 180: ArchEndsModel.back()Z -/
set_option maxRecDepth 20000 in
theorem r_180 (a0 : Nat) (σ : SH) : rn 180 [.ref a0] σ =
  pI σ 112 0 (.ref a0) 0 fun σ21 =>
  gI σ21 112 6 (.ref a0) fun x22 =>
  if (x22 = 0 : Prop) then (some (.inl (some (.int 0)), σ21))
  else (exec PP 1 180 14 [some (.ref a0), none] [] σ21) := (exec_eq PP 1 180 0 _ _ σ).trans rfl
set_option maxRecDepth 20000 in
theorem e_180_14 (a0 : Nat) (o1 : Option Value) (σ : SH) : exec PP 1 180 14 [some (.ref a0), o1] [] σ =
  exec PP 1 180 16 [some (.ref a0), some (.int 0)] [] σ := (exec_eq PP 1 180 14 _ _ σ).trans rfl
set_option maxRecDepth 20000 in
theorem e_180_16 (a0 : Nat) (x1 : Int32) (σ : SH) : exec PP 1 180 16 [some (.ref a0), some (.int x1)] [] σ =
  if (x1 < 1212 : Prop) then (gR σ 112 1 (.ref a0) fun a21 =>
    gR σ 112 2 (.ref a0) fun a22 =>
    aI σ 1 (.ref a22) x1 fun x23 =>
    uI σ (.ref a21) x1 x23 fun σ24 =>
    exec PP 1 180 16 [some (.ref a0), some (.int (x1 + 1))] [] σ24)
  else (exec PP 1 180 41 [some (.ref a0), some (.int x1)] [] σ) := (exec_eq PP 1 180 16 _ _ σ).trans rfl
set_option maxRecDepth 20000 in
theorem e_180_41 (a0 : Nat) (o1 : Option Value) (σ : SH) : exec PP 1 180 41 [some (.ref a0), o1] [] σ =
  pI σ 112 7 (.ref a0) 0 fun σ21 =>
  some (.inl (some (.int 1)), σ21) := (exec_eq PP 1 180 41 _ _ σ).trans rfl

/-! 181: ArchEndsModel.undo()Z -/
set_option maxRecDepth 20000 in
theorem r_181 (a0 : Nat) (σ : SH) : rn 181 [.ref a0] σ =
  pI σ 112 0 (.ref a0) 0 fun σ21 =>
  gI σ21 112 7 (.ref a0) fun x22 =>
  if (x22 = 0 : Prop) then (some (.inl (some (.int 0)), σ21))
  else (exec PP 1 181 14 [some (.ref a0), none] [] σ21) := (exec_eq PP 1 181 0 _ _ σ).trans rfl
set_option maxRecDepth 20000 in
theorem e_181_14 (a0 : Nat) (o1 : Option Value) (σ : SH) : exec PP 1 181 14 [some (.ref a0), o1] [] σ =
  gI σ 112 7 (.ref a0) fun x21 =>
  pI σ 112 7 (.ref a0) (x21 - 1) fun σ22 =>
  exec PP 1 181 26 [some (.ref a0), some (.int 0)] [] σ22 := (exec_eq PP 1 181 14 _ _ σ).trans rfl
set_option maxRecDepth 20000 in
theorem e_181_26 (a0 : Nat) (x1 : Int32) (σ : SH) : exec PP 1 181 26 [some (.ref a0), some (.int x1)] [] σ =
  if (x1 < 363 : Prop) then (gR σ 112 1 (.ref a0) fun a21 =>
    gR σ 112 5 (.ref a0) fun a22 =>
    gI σ 112 7 (.ref a0) fun x23 =>
    aI σ 1 (.ref a22) ((363 * x23) + x1) fun x24 =>
    uI σ (.ref a21) x1 x24 fun σ25 =>
    exec PP 1 181 26 [some (.ref a0), some (.int (x1 + 1))] [] σ25)
  else (exec PP 1 181 60 [some (.ref a0), some (.int x1)] [] σ) := (exec_eq PP 1 181 26 _ _ σ).trans rfl
set_option maxRecDepth 20000 in
theorem e_181_60 (o0 : Option Value) (o1 : Option Value) (σ : SH) : exec PP 1 181 60 [o0, o1] [] σ =
  some (.inl (some (.int 1)), σ) := (exec_eq PP 1 181 60 _ _ σ).trans rfl

/-! 182: ArchEndsModel.feed(IIIII)I -/
set_option maxRecDepth 20000 in
theorem r_182 (a0 : Nat) (x1 : Int32) (x2 : Int32) (x3 : Int32) (x4 : Int32) (x5 : Int32) (σ : SH) : rn 182 [.ref a0, .int x1, .int x2, .int x3, .int x4, .int x5] σ =
  pI σ 112 0 (.ref a0) 0 fun σ21 =>
  gI σ21 112 9 (.ref a0) fun x22 =>
  if (400 < ((x22 + 20) : Int32) : Prop) then (some (.inl (some (.int (-1))), σ21))
  else (exec PP 1 182 20 [some (.ref a0), some (.int x1), some (.int x2), some (.int x3), some (.int x4), some (.int x5), none] [] σ21) := (exec_eq PP 1 182 0 _ _ σ).trans rfl
set_option maxRecDepth 20000 in
theorem e_182_20 (a0 : Nat) (x1 : Int32) (x2 : Int32) (x3 : Int32) (x4 : Int32) (x5 : Int32) (o6 : Option Value) (σ : SH) : exec PP 1 182 20 [some (.ref a0), some (.int x1), some (.int x2), some (.int x3), some (.int x4), some (.int x5), o6] [] σ =
  gR σ 112 15 (.ref a0) fun a21 =>
  uI σ (.ref a21) 0 x1 fun σ22 =>
  gR σ22 112 15 (.ref a0) fun a23 =>
  uI σ22 (.ref a23) 1 x2 fun σ24 =>
  gR σ24 112 15 (.ref a0) fun a25 =>
  uI σ24 (.ref a25) 2 x3 fun σ26 =>
  gR σ26 112 15 (.ref a0) fun a27 =>
  uI σ26 (.ref a27) 3 x4 fun σ28 =>
  gR σ28 112 15 (.ref a0) fun a29 =>
  uI σ28 (.ref a29) 4 x5 fun σ30 =>
  exec PP 1 182 60 [some (.ref a0), some (.int x1), some (.int x2), some (.int x3), some (.int x4), some (.int x5), some (.int 0)] [] σ30 := (exec_eq PP 1 182 20 _ _ σ).trans rfl
set_option maxRecDepth 20000 in
theorem e_182_60 (a0 : Nat) (o1 : Option Value) (o2 : Option Value) (o3 : Option Value) (o4 : Option Value) (o5 : Option Value) (x6 : Int32) (σ : SH) : exec PP 1 182 60 [some (.ref a0), o1, o2, o3, o4, o5, some (.int x6)] [] σ =
  if (x6 < 20 : Prop) then (gR σ 112 8 (.ref a0) fun a21 =>
    gI σ 112 9 (.ref a0) fun x22 =>
    gR σ 112 15 (.ref a0) fun a23 =>
    aI σ 1 (.ref a23) (x6 / 4) fun x24 =>
    uB σ (.ref a21) (x22 + x6) (i2b (shr x24 (24 - (8 * (irm x6 4))))) fun σ25 =>
    exec PP 1 182 60 [some (.ref a0), none, none, none, none, none, some (.int (x6 + 1))] [] σ25)
  else (exec PP 1 182 106 [some (.ref a0), none, none, none, none, none, some (.int x6)] [] σ) := (exec_eq PP 1 182 60 _ _ σ).trans rfl
set_option maxRecDepth 20000 in
theorem e_182_106 (a0 : Nat) (o1 : Option Value) (o2 : Option Value) (o3 : Option Value) (o4 : Option Value) (o5 : Option Value) (o6 : Option Value) (σ : SH) : exec PP 1 182 106 [some (.ref a0), o1, o2, o3, o4, o5, o6] [] σ =
  gI σ 112 9 (.ref a0) fun x21 =>
  pI σ 112 9 (.ref a0) (x21 + 20) fun σ22 =>
  gI σ22 112 9 (.ref a0) fun x23 =>
  some (.inl (some (.int x23)), σ22) := (exec_eq PP 1 182 106 _ _ σ).trans rfl

/-! 183: ArchEndsModel.end(I)Z -/
set_option maxRecDepth 20000 in
theorem r_183 (a0 : Nat) (x1 : Int32) (σ : SH) : rn 183 [.ref a0, .int x1] σ =
  pI σ 112 0 (.ref a0) 0 fun σ21 =>
  if (x1 < 0 : Prop) then (exec PP 1 183 17 [some (.ref a0), some (.int x1)] [] σ21)
  else (gI σ21 112 9 (.ref a0) fun x22 =>
    if (x22 < x1 : Prop) then (some (.inl (some (.int 0)), σ21))
    else (exec PP 1 183 19 [some (.ref a0), some (.int x1)] [] σ21)) := (exec_eq PP 1 183 0 _ _ σ).trans rfl
set_option maxRecDepth 20000 in
theorem e_183_17 (o0 : Option Value) (o1 : Option Value) (σ : SH) : exec PP 1 183 17 [o0, o1] [] σ =
  some (.inl (some (.int 0)), σ) := (exec_eq PP 1 183 17 _ _ σ).trans rfl
set_option maxRecDepth 20000 in
theorem e_183_19 (a0 : Nat) (x1 : Int32) (σ : SH) : exec PP 1 183 19 [some (.ref a0), some (.int x1)] [] σ =
  pI σ 112 9 (.ref a0) x1 fun σ21 =>
  some (.inl (some (.int 1)), σ21) := (exec_eq PP 1 183 19 _ _ σ).trans rfl

/-! 184: ArchEndsModel.fault()I -/
set_option maxRecDepth 20000 in
theorem r_184 (a0 : Nat) (σ : SH) : rn 184 [.ref a0] σ =
  pI σ 112 0 (.ref a0) 0 fun σ21 =>
  gI σ21 112 14 (.ref a0) fun x22 =>
  some (.inl (some (.int x22)), σ21) := (exec_eq PP 1 184 0 _ _ σ).trans rfl

/-! 185: ArchEndsModel.county()I -/
set_option maxRecDepth 20000 in
theorem r_185 (a0 : Nat) (σ : SH) : rn 185 [.ref a0] σ =
  exec PP 64 185 2 [some (.ref a0), some (.int 0), none] [] σ := (exec_eq PP 64 185 0 _ _ σ).trans rfl
set_option maxRecDepth 20000 in
theorem e_185_2 (a0 : Nat) (x1 : Int32) (o2 : Option Value) (σ : SH) : exec PP 64 185 2 [some (.ref a0), some (.int x1), o2] [] σ =
  if (x1 < 1212 : Prop) then (gR σ 112 3 (.ref a0) fun a21 =>
    gR σ 112 1 (.ref a0) fun a22 =>
    aI σ 1 (.ref a22) x1 fun x23 =>
    uI σ (.ref a21) x1 x23 fun σ24 =>
    exec PP 64 185 2 [some (.ref a0), some (.int (x1 + 1)), none] [] σ24)
  else (exec PP 64 185 27 [some (.ref a0), some (.int x1), none] [] σ) := (exec_eq PP 64 185 2 _ _ σ).trans rfl
set_option maxRecDepth 20000 in
theorem e_185_27 (a0 : Nat) (o1 : Option Value) (o2 : Option Value) (σ : SH) : exec PP 64 185 27 [some (.ref a0), o1, o2] [] σ =
  if sT σ a0 = 112 then (onI (rn 186 [.ref a0, .int 1] σ) (fun x23 σ21 =>
  if (x23 < 0 : Prop) then (gI σ21 112 12 (.ref a0) fun x24 =>
      exec PP 64 185 46 [some (.ref a0), some (.int x23), none] [.int x24, .ref a0] σ21)
    else (exec PP 64 185 45 [some (.ref a0), some (.int x23), none] [.ref a0] σ21)) (fun e22 σ21x => some (.inr e22, σ21x))) else none := (exec_eq PP 64 185 27 _ _ σ).trans rfl
set_option maxRecDepth 20000 in
theorem e_185_45 (a0 : Nat) (x1 : Int32) (o2 : Option Value) (b0 : Nat) (σ : SH) : exec PP 64 185 45 [some (.ref a0), some (.int x1), o2] [.ref b0] σ =
  pI σ 112 14 (.ref b0) (-1) fun σ21 =>
  if (x1 < 0 : Prop) then (exec PP 64 185 59 [some (.ref a0), some (.int x1), none] [.int 1, .ref a0] σ21)
  else (exec PP 64 185 58 [some (.ref a0), some (.int x1), none] [.ref a0] σ21) := (exec_eq PP 64 185 45 _ _ σ).trans rfl
set_option maxRecDepth 20000 in
theorem e_185_46 (a0 : Nat) (x1 : Int32) (o2 : Option Value) (w0 : Int32) (b1 : Nat) (σ : SH) : exec PP 64 185 46 [some (.ref a0), some (.int x1), o2] [.int w0, .ref b1] σ =
  pI σ 112 14 (.ref b1) w0 fun σ21 =>
  if (x1 < 0 : Prop) then (exec PP 64 185 59 [some (.ref a0), some (.int x1), none] [.int 1, .ref a0] σ21)
  else (exec PP 64 185 58 [some (.ref a0), some (.int x1), none] [.ref a0] σ21) := (exec_eq PP 64 185 46 _ _ σ).trans rfl
set_option maxRecDepth 20000 in
theorem e_185_58 (a0 : Nat) (o1 : Option Value) (o2 : Option Value) (b0 : Nat) (σ : SH) : exec PP 64 185 58 [some (.ref a0), o1, o2] [.ref b0] σ =
  if sT σ b0 = 112 then (onI (rn 216 [.ref b0, .int 0, .int 1] σ) (fun x23 σ21 =>
  if (x23 = 0 : Prop) then (gR σ21 112 1 (.ref a0) fun a24 =>
      aI σ21 1 (.ref a24) 3 fun x25 =>
      if (x25 = 12 : Prop) then (exec PP 64 185 83 [some (.ref a0), none, none] [.int 1, .ref a0] σ21)
      else (exec PP 64 185 82 [some (.ref a0), none, none] [.ref a0] σ21))
    else (exec PP 64 185 90 [some (.ref a0), none, none] [] σ21)) (fun e22 σ21x => some (.inr e22, σ21x))) else none := (exec_eq PP 64 185 58 _ _ σ).trans rfl
set_option maxRecDepth 20000 in
theorem e_185_59 (a0 : Nat) (o1 : Option Value) (o2 : Option Value) (w0 : Int32) (b1 : Nat) (σ : SH) : exec PP 64 185 59 [some (.ref a0), o1, o2] [.int w0, .ref b1] σ =
  if sT σ b1 = 112 then (onI (rn 216 [.ref b1, .int w0, .int 1] σ) (fun x23 σ21 =>
  if (x23 = 0 : Prop) then (gR σ21 112 1 (.ref a0) fun a24 =>
      aI σ21 1 (.ref a24) 3 fun x25 =>
      if (x25 = 12 : Prop) then (exec PP 64 185 83 [some (.ref a0), none, none] [.int 1, .ref a0] σ21)
      else (exec PP 64 185 82 [some (.ref a0), none, none] [.ref a0] σ21))
    else (exec PP 64 185 90 [some (.ref a0), none, none] [] σ21)) (fun e22 σ21x => some (.inr e22, σ21x))) else none := (exec_eq PP 64 185 59 _ _ σ).trans rfl
set_option maxRecDepth 20000 in
theorem e_185_90 (a0 : Nat) (o1 : Option Value) (o2 : Option Value) (σ : SH) : exec PP 64 185 90 [some (.ref a0), o1, o2] [] σ =
  exec PP 64 185 92 [some (.ref a0), none, some (.int 0)] [] σ := (exec_eq PP 64 185 90 _ _ σ).trans rfl
set_option maxRecDepth 20000 in
theorem e_185_82 (a0 : Nat) (o1 : Option Value) (o2 : Option Value) (b0 : Nat) (σ : SH) : exec PP 64 185 82 [some (.ref a0), o1, o2] [.ref b0] σ =
  if sT σ b0 = 112 then (onI (rn 216 [.ref b0, .int 0, .int 2] σ) (fun x23 σ21 =>
  if (x23 = 0 : Prop) then (exec PP 64 185 119 [some (.ref a0), none, none] [] σ21)
    else (exec PP 64 185 92 [some (.ref a0), none, some (.int 0)] [] σ21)) (fun e22 σ21x => some (.inr e22, σ21x))) else none := (exec_eq PP 64 185 82 _ _ σ).trans rfl
set_option maxRecDepth 20000 in
theorem e_185_83 (a0 : Nat) (o1 : Option Value) (o2 : Option Value) (w0 : Int32) (b1 : Nat) (σ : SH) : exec PP 64 185 83 [some (.ref a0), o1, o2] [.int w0, .ref b1] σ =
  if sT σ b1 = 112 then (onI (rn 216 [.ref b1, .int w0, .int 2] σ) (fun x23 σ21 =>
  if (x23 = 0 : Prop) then (exec PP 64 185 119 [some (.ref a0), none, none] [] σ21)
    else (exec PP 64 185 92 [some (.ref a0), none, some (.int 0)] [] σ21)) (fun e22 σ21x => some (.inr e22, σ21x))) else none := (exec_eq PP 64 185 83 _ _ σ).trans rfl
set_option maxRecDepth 20000 in
theorem e_185_92 (a0 : Nat) (o1 : Option Value) (x2 : Int32) (σ : SH) : exec PP 64 185 92 [some (.ref a0), o1, some (.int x2)] [] σ =
  if (x2 < 1212 : Prop) then (gR σ 112 1 (.ref a0) fun a21 =>
    gR σ 112 3 (.ref a0) fun a22 =>
    aI σ 1 (.ref a22) x2 fun x23 =>
    uI σ (.ref a21) x2 x23 fun σ24 =>
    exec PP 64 185 92 [some (.ref a0), none, some (.int (x2 + 1))] [] σ24)
  else (exec PP 64 185 117 [some (.ref a0), none, some (.int x2)] [] σ) := (exec_eq PP 64 185 92 _ _ σ).trans rfl
set_option maxRecDepth 20000 in
theorem e_185_119 (a0 : Nat) (o1 : Option Value) (o2 : Option Value) (σ : SH) : exec PP 64 185 119 [some (.ref a0), o1, o2] [] σ =
  gR σ 112 1 (.ref a0) fun a21 =>
  aI σ 1 (.ref a21) 3 fun x22 =>
  uI σ (.ref a21) 3 (x22 + 1) fun σ23 =>
  pI σ23 112 7 (.ref a0) 0 fun σ24 =>
  gR σ24 112 1 (.ref a0) fun a25 =>
  aI σ24 1 (.ref a25) 3 fun x26 =>
  some (.inl (some (.int x26)), σ24) := (exec_eq PP 64 185 119 _ _ σ).trans rfl
set_option maxRecDepth 20000 in
theorem e_185_117 (o0 : Option Value) (o1 : Option Value) (o2 : Option Value) (σ : SH) : exec PP 64 185 117 [o0, o1, o2] [] σ =
  some (.inl (some (.int 0)), σ) := (exec_eq PP 64 185 117 _ _ σ).trans rfl

/-! 186: ArchEndsModel.readAll(Z)I -/
set_option maxRecDepth 20000 in
theorem r_186 (a0 : Nat) (x1 : Int32) (σ : SH) : rn 186 [.ref a0, .int x1] σ =
  if sT σ a0 = 112 then (onV (rn 187 [.ref a0] σ) (fun σ21 =>
  pI σ21 112 16 (.ref a0) 0 fun σ23 =>
    if sT σ23 a0 = 112 then (onV (rn 188 [.ref a0] σ23) (fun σ24 =>
    gI σ24 112 10 (.ref a0) fun x26 =>
      gI σ24 112 11 (.ref a0) fun x27 =>
      if (x26 = x27 : Prop) then (some (.inl (some (.int 0)), σ24))
      else (exec PP 63 186 26 [some (.ref a0), some (.int x1), none] [] σ24)) (fun e25 σ24x => some (.inr e25, σ24x))) else none) (fun e22 σ21x => some (.inr e22, σ21x))) else none := (exec_eq PP 63 186 0 _ _ σ).trans rfl
set_option maxRecDepth 20000 in
theorem e_186_26 (a0 : Nat) (x1 : Int32) (o2 : Option Value) (σ : SH) : exec PP 63 186 26 [some (.ref a0), some (.int x1), o2] [] σ =
  exec PP 63 186 28 [some (.ref a0), some (.int x1), some (.int 0)] [] σ := (exec_eq PP 63 186 26 _ _ σ).trans rfl
set_option maxRecDepth 20000 in
theorem e_186_28 (a0 : Nat) (x1 : Int32) (x2 : Int32) (σ : SH) : exec PP 63 186 28 [some (.ref a0), some (.int x1), some (.int x2)] [] σ =
  if sT σ a0 = 112 then (onI (rn 190 [.ref a0, .int x1, .int x2] σ) (fun x23 σ21 =>
  if (x23 = 0 : Prop) then (some (.inl (some (.int (-1))), σ21))
    else (exec PP 63 186 39 [some (.ref a0), some (.int x1), some (.int x2)] [] σ21)) (fun e22 σ21x => some (.inr e22, σ21x))) else none := (exec_eq PP 63 186 28 _ _ σ).trans rfl
set_option maxRecDepth 20000 in
theorem e_186_39 (a0 : Nat) (x1 : Int32) (x2 : Int32) (σ : SH) : exec PP 63 186 39 [some (.ref a0), some (.int x1), some (.int x2)] [] σ =
  if sT σ a0 = 112 then (onV (rn 188 [.ref a0] σ) (fun σ21 =>
  gI σ21 112 10 (.ref a0) fun x23 =>
    gI σ21 112 11 (.ref a0) fun x24 =>
    if (x23 = x24 : Prop) then (some (.inl (some (.int (x2 + 1))), σ21))
    else (exec PP 63 186 58 [some (.ref a0), some (.int x1), some (.int x2)] [] σ21)) (fun e22 σ21x => some (.inr e22, σ21x))) else none := (exec_eq PP 63 186 39 _ _ σ).trans rfl
set_option maxRecDepth 20000 in
theorem e_186_58 (a0 : Nat) (x1 : Int32) (x2 : Int32) (σ : SH) : exec PP 63 186 58 [some (.ref a0), some (.int x1), some (.int x2)] [] σ =
  if sT σ a0 = 112 then (onI (rn 189 [.ref a0, .int 59, .int 59] σ) (fun x23 σ21 =>
  if (x23 = 0 : Prop) then (some (.inl (some (.int (-1))), σ21))
    else (exec PP 63 186 71 [some (.ref a0), some (.int x1), some (.int x2)] [] σ21)) (fun e22 σ21x => some (.inr e22, σ21x))) else none := (exec_eq PP 63 186 58 _ _ σ).trans rfl
set_option maxRecDepth 20000 in
theorem e_186_71 (a0 : Nat) (x1 : Int32) (x2 : Int32) (σ : SH) : exec PP 63 186 71 [some (.ref a0), some (.int x1), some (.int x2)] [] σ =
  gI σ 112 10 (.ref a0) fun x21 =>
  pI σ 112 10 (.ref a0) (x21 + 1) fun σ22 =>
  exec PP 63 186 28 [some (.ref a0), some (.int x1), some (.int (x2 + 1))] [] σ22 := (exec_eq PP 63 186 71 _ _ σ).trans rfl

/-! 187: ArchEndsModel.uses()V -/
set_option maxRecDepth 20000 in
theorem r_187 (a0 : Nat) (σ : SH) : rn 187 [.ref a0] σ =
  pI σ 112 0 (.ref a0) 0 fun σ21 =>
  gI σ21 112 9 (.ref a0) fun x22 =>
  pI σ21 112 11 (.ref a0) x22 fun σ23 =>
  pI σ23 112 9 (.ref a0) 0 fun σ24 =>
  pI σ24 112 10 (.ref a0) 0 fun σ25 =>
  some (.inl none, σ25) := (exec_eq PP 1 187 0 _ _ σ).trans rfl

/-! 188: ArchEndsModel.blanks()V -/
set_option maxRecDepth 20000 in
theorem r_188 (a0 : Nat) (σ : SH) : rn 188 [.ref a0] σ =
  if sT σ a0 = 112 then (onI (rn 189 [.ref a0, .int 32, .int 32] σ) (fun x23 σ21 =>
  if (x23 = 0 : Prop) then (exec PP 2 188 24 [some (.ref a0)] [] σ21)
    else (gI σ21 112 10 (.ref a0) fun x24 =>
      pI σ21 112 10 (.ref a0) (x24 + 1) fun σ25 =>
      exec PP 2 188 0 [some (.ref a0)] [] σ25)) (fun e22 σ21x => some (.inr e22, σ21x))) else none := (exec_eq PP 2 188 0 _ _ σ).trans rfl
set_option maxRecDepth 20000 in
theorem e_188_24 (a0 : Nat) (σ : SH) : exec PP 2 188 24 [some (.ref a0)] [] σ =
  gI σ 112 10 (.ref a0) fun x21 =>
  pI σ 112 12 (.ref a0) x21 fun σ22 =>
  some (.inl none, σ22) := (exec_eq PP 2 188 24 _ _ σ).trans rfl
set_option maxRecDepth 20000 in
theorem e_188_0 (a0 : Nat) (σ : SH) : exec PP 2 188 0 [some (.ref a0)] [] σ =
  if sT σ a0 = 112 then (onI (rn 189 [.ref a0, .int 32, .int 32] σ) (fun x23 σ21 =>
  if (x23 = 0 : Prop) then (exec PP 2 188 24 [some (.ref a0)] [] σ21)
    else (gI σ21 112 10 (.ref a0) fun x24 =>
      pI σ21 112 10 (.ref a0) (x24 + 1) fun σ25 =>
      exec PP 2 188 0 [some (.ref a0)] [] σ25)) (fun e22 σ21x => some (.inr e22, σ21x))) else none := (exec_eq PP 2 188 0 _ _ σ).trans rfl

/-! 189: ArchEndsModel.isAt(II)Z -/
set_option maxRecDepth 20000 in
theorem r_189 (a0 : Nat) (x1 : Int32) (x2 : Int32) (σ : SH) : rn 189 [.ref a0, .int x1, .int x2] σ =
  gI σ 112 10 (.ref a0) fun x21 =>
  gI σ 112 11 (.ref a0) fun x22 =>
  if (x21 < x22 : Prop) then (gR σ 112 8 (.ref a0) fun a23 =>
    gI σ 112 10 (.ref a0) fun x24 =>
    aI σ 2 (.ref a23) x24 fun x25 =>
    if (x25 < x1 : Prop) then (exec PP 1 189 41 [some (.ref a0), some (.int x1), some (.int x2)] [] σ)
    else (gR σ 112 8 (.ref a0) fun a26 =>
      gI σ 112 10 (.ref a0) fun x27 =>
      aI σ 2 (.ref a26) x27 fun x28 =>
      if (x2 < x28 : Prop) then (exec PP 1 189 41 [some (.ref a0), some (.int x1), some (.int x2)] [] σ)
      else (exec PP 1 189 42 [some (.ref a0), some (.int x1), some (.int x2)] [.int 1] σ)))
  else (exec PP 1 189 41 [some (.ref a0), some (.int x1), some (.int x2)] [] σ) := (exec_eq PP 1 189 0 _ _ σ).trans rfl
set_option maxRecDepth 20000 in
theorem e_189_41 (o0 : Option Value) (o1 : Option Value) (o2 : Option Value) (σ : SH) : exec PP 1 189 41 [o0, o1, o2] [] σ =
  some (.inl (some (.int 0)), σ) := (exec_eq PP 1 189 41 _ _ σ).trans rfl
set_option maxRecDepth 20000 in
theorem e_189_42 (o0 : Option Value) (o1 : Option Value) (o2 : Option Value) (w0 : Int32) (σ : SH) : exec PP 1 189 42 [o0, o1, o2] [.int w0] σ =
  if w0 = 0 ∨ w0 = 1 then some (.inl (some (.int w0)), σ) else none := (exec_eq PP 1 189 42 _ _ σ).trans rfl

/-! 190: ArchEndsModel.readLine(ZI)Z -/
set_option maxRecDepth 20000 in
theorem r_190 (a0 : Nat) (x1 : Int32) (x2 : Int32) (σ : SH) : rn 190 [.ref a0, .int x1, .int x2] σ =
  if sT σ a0 = 112 then (onV (rn 191 [.ref a0] σ) (fun σ21 =>
  if (x1 = 0 : Prop) then (exec PP 62 190 14 [some (.ref a0), some (.int x1), some (.int x2)] [.int x2] σ21)
    else (exec PP 62 190 16 [some (.ref a0), some (.int x1), some (.int x2)] [.int 14, .int x2] σ21)) (fun e22 σ21x => some (.inr e22, σ21x))) else none := (exec_eq PP 62 190 0 _ _ σ).trans rfl
set_option maxRecDepth 20000 in
theorem e_190_14 (a0 : Nat) (x1 : Int32) (x2 : Int32) (w0 : Int32) (σ : SH) : exec PP 62 190 14 [some (.ref a0), some (.int x1), some (.int x2)] [.int w0] σ =
  if (w0 < 12 : Prop) then (if (x1 = 0 : Prop) then (exec PP 62 190 33 [some (.ref a0), some (.int x1), some (.int x2)] [] σ)
    else (if sT σ a0 = 112 then (onI (rn 192 [.ref a0] σ) (fun x23 σ21 =>
      if (x23 = 0 : Prop) then (exec PP 62 190 45 [some (.ref a0), some (.int x1), some (.int x2)] [] σ21)
        else (exec PP 62 190 41 [some (.ref a0), some (.int x1), some (.int x2)] [] σ21)) (fun e22 σ21x => some (.inr e22, σ21x))) else none))
  else (exec PP 62 190 45 [some (.ref a0), some (.int x1), some (.int x2)] [] σ) := (exec_eq PP 62 190 14 _ _ σ).trans rfl
set_option maxRecDepth 20000 in
theorem e_190_16 (a0 : Nat) (x1 : Int32) (x2 : Int32) (w0 : Int32) (w1 : Int32) (σ : SH) : exec PP 62 190 16 [some (.ref a0), some (.int x1), some (.int x2)] [.int w0, .int w1] σ =
  if (w1 < w0 : Prop) then (if (x1 = 0 : Prop) then (exec PP 62 190 33 [some (.ref a0), some (.int x1), some (.int x2)] [] σ)
    else (if sT σ a0 = 112 then (onI (rn 192 [.ref a0] σ) (fun x23 σ21 =>
      if (x23 = 0 : Prop) then (exec PP 62 190 45 [some (.ref a0), some (.int x1), some (.int x2)] [] σ21)
        else (exec PP 62 190 41 [some (.ref a0), some (.int x1), some (.int x2)] [] σ21)) (fun e22 σ21x => some (.inr e22, σ21x))) else none))
  else (exec PP 62 190 45 [some (.ref a0), some (.int x1), some (.int x2)] [] σ) := (exec_eq PP 62 190 16 _ _ σ).trans rfl
set_option maxRecDepth 20000 in
theorem e_190_45 (o0 : Option Value) (o1 : Option Value) (o2 : Option Value) (σ : SH) : exec PP 62 190 45 [o0, o1, o2] [] σ =
  some (.inl (some (.int 0)), σ) := (exec_eq PP 62 190 45 _ _ σ).trans rfl
set_option maxRecDepth 20000 in
theorem e_190_33 (a0 : Nat) (o1 : Option Value) (x2 : Int32) (σ : SH) : exec PP 62 190 33 [some (.ref a0), o1, some (.int x2)] [] σ =
  if sT σ a0 = 112 then (onI (rn 207 [.ref a0, .int x2] σ) (fun x23 σ21 =>
  if (x23 = 0 : Prop) then (exec PP 62 190 45 [some (.ref a0), none, some (.int x2)] [] σ21)
    else (exec PP 62 190 46 [none, none, none] [.int 1] σ21)) (fun e22 σ21x => some (.inr e22, σ21x))) else none := (exec_eq PP 62 190 33 _ _ σ).trans rfl
set_option maxRecDepth 20000 in
theorem e_190_41 (o0 : Option Value) (o1 : Option Value) (o2 : Option Value) (σ : SH) : exec PP 62 190 41 [o0, o1, o2] [] σ =
  exec PP 62 190 46 [none, none, none] [.int 1] σ := (exec_eq PP 62 190 41 _ _ σ).trans rfl
set_option maxRecDepth 20000 in
theorem e_190_46 (o0 : Option Value) (o1 : Option Value) (o2 : Option Value) (w0 : Int32) (σ : SH) : exec PP 62 190 46 [o0, o1, o2] [.int w0] σ =
  if w0 = 0 ∨ w0 = 1 then some (.inl (some (.int w0)), σ) else none := (exec_eq PP 62 190 46 _ _ σ).trans rfl

/-! 191: ArchEndsModel.letters()V -/
set_option maxRecDepth 20000 in
theorem r_191 (a0 : Nat) (σ : SH) : rn 191 [.ref a0] σ =
  if sT σ a0 = 112 then (onV (rn 188 [.ref a0] σ) (fun σ21 =>
  exec PP 3 191 4 [some (.ref a0)] [] σ21) (fun e22 σ21x => some (.inr e22, σ21x))) else none := (exec_eq PP 3 191 0 _ _ σ).trans rfl
set_option maxRecDepth 20000 in
theorem e_191_4 (a0 : Nat) (σ : SH) : exec PP 3 191 4 [some (.ref a0)] [] σ =
  if sT σ a0 = 112 then (onI (rn 189 [.ref a0, .int 97, .int 122] σ) (fun x23 σ21 =>
  if (x23 = 0 : Prop) then (exec PP 3 191 28 [some (.ref a0)] [] σ21)
    else (gI σ21 112 10 (.ref a0) fun x24 =>
      pI σ21 112 10 (.ref a0) (x24 + 1) fun σ25 =>
      exec PP 3 191 4 [some (.ref a0)] [] σ25)) (fun e22 σ21x => some (.inr e22, σ21x))) else none := (exec_eq PP 3 191 4 _ _ σ).trans rfl
set_option maxRecDepth 20000 in
theorem e_191_28 (o0 : Option Value) (σ : SH) : exec PP 3 191 28 [o0] [] σ =
  some (.inl none, σ) := (exec_eq PP 3 191 28 _ _ σ).trans rfl

/-! 192: ArchEndsModel.readCountyLine()Z -/
set_option maxRecDepth 20000 in
theorem r_192 (a0 : Nat) (σ : SH) : rn 192 [.ref a0] σ =
  if sT σ a0 = 112 then (onI (rn 193 [.ref a0, .ref 120] σ) (fun x23 σ21 =>
  if (x23 = 0 : Prop) then (exec PP 9 192 14 [some (.ref a0)] [] σ21)
    else (if sT σ21 a0 = 112 then (onI (rn 194 [.ref a0] σ21) (fun x26 σ24 =>
      if x26 = 0 ∨ x26 = 1 then some (.inl (some (.int x26)), σ24) else none) (fun e25 σ24x => some (.inr e25, σ24x))) else none)) (fun e22 σ21x => some (.inr e22, σ21x))) else none := (exec_eq PP 9 192 0 _ _ σ).trans rfl
set_option maxRecDepth 20000 in
theorem e_192_14 (a0 : Nat) (σ : SH) : exec PP 9 192 14 [some (.ref a0)] [] σ =
  if sT σ a0 = 112 then (onI (rn 193 [.ref a0, .ref 126] σ) (fun x23 σ21 =>
  if (x23 = 0 : Prop) then (exec PP 9 192 28 [some (.ref a0)] [] σ21)
    else (if sT σ21 a0 = 112 then (onI (rn 200 [.ref a0] σ21) (fun x26 σ24 =>
      if x26 = 0 ∨ x26 = 1 then some (.inl (some (.int x26)), σ24) else none) (fun e25 σ24x => some (.inr e25, σ24x))) else none)) (fun e22 σ21x => some (.inr e22, σ21x))) else none := (exec_eq PP 9 192 14 _ _ σ).trans rfl
set_option maxRecDepth 20000 in
theorem e_192_28 (a0 : Nat) (σ : SH) : exec PP 9 192 28 [some (.ref a0)] [] σ =
  if sT σ a0 = 112 then (onI (rn 193 [.ref a0, .ref 129] σ) (fun x23 σ21 =>
  if (x23 = 0 : Prop) then (exec PP 9 192 42 [some (.ref a0)] [] σ21)
    else (if sT σ21 a0 = 112 then (onI (rn 203 [.ref a0] σ21) (fun x26 σ24 =>
      if x26 = 0 ∨ x26 = 1 then some (.inl (some (.int x26)), σ24) else none) (fun e25 σ24x => some (.inr e25, σ24x))) else none)) (fun e22 σ21x => some (.inr e22, σ21x))) else none := (exec_eq PP 9 192 28 _ _ σ).trans rfl
set_option maxRecDepth 20000 in
theorem e_192_42 (a0 : Nat) (σ : SH) : exec PP 9 192 42 [some (.ref a0)] [] σ =
  if sT σ a0 = 112 then (onI (rn 193 [.ref a0, .ref 131] σ) (fun x23 σ21 =>
  if (x23 = 0 : Prop) then (exec PP 9 192 61 [some (.ref a0)] [] σ21)
    else (if sT σ21 a0 = 112 then (onI (rn 206 [.ref a0, .int 6, .int 0, .int 15] σ21) (fun x26 σ24 =>
      if x26 = 0 ∨ x26 = 1 then some (.inl (some (.int x26)), σ24) else none) (fun e25 σ24x => some (.inr e25, σ24x))) else none)) (fun e22 σ21x => some (.inr e22, σ21x))) else none := (exec_eq PP 9 192 42 _ _ σ).trans rfl
set_option maxRecDepth 20000 in
theorem e_192_61 (a0 : Nat) (σ : SH) : exec PP 9 192 61 [some (.ref a0)] [] σ =
  if sT σ a0 = 112 then (onI (rn 193 [.ref a0, .ref 132] σ) (fun x23 σ21 =>
  if (x23 = 0 : Prop) then (exec PP 9 192 80 [some (.ref a0)] [] σ21)
    else (if sT σ21 a0 = 112 then (onI (rn 206 [.ref a0, .int 7, .int 0, .int 99] σ21) (fun x26 σ24 =>
      if x26 = 0 ∨ x26 = 1 then some (.inl (some (.int x26)), σ24) else none) (fun e25 σ24x => some (.inr e25, σ24x))) else none)) (fun e22 σ21x => some (.inr e22, σ21x))) else none := (exec_eq PP 9 192 61 _ _ σ).trans rfl
set_option maxRecDepth 20000 in
theorem e_192_80 (a0 : Nat) (σ : SH) : exec PP 9 192 80 [some (.ref a0)] [] σ =
  if sT σ a0 = 112 then (onI (rn 193 [.ref a0, .ref 133] σ) (fun x23 σ21 =>
  if (x23 = 0 : Prop) then (exec PP 9 192 105 [some (.ref a0)] [] σ21)
    else (if sT σ21 a0 = 112 then (onI (rn 206 [.ref a0, .int 5, .int 0, .int 999] σ21) (fun x26 σ24 =>
      if (x26 = 0 : Prop) then (exec PP 9 192 105 [some (.ref a0)] [] σ24)
        else (exec PP 9 192 106 [some (.ref a0)] [.int 1] σ24)) (fun e25 σ24x => some (.inr e25, σ24x))) else none)) (fun e22 σ21x => some (.inr e22, σ21x))) else none := (exec_eq PP 9 192 80 _ _ σ).trans rfl
set_option maxRecDepth 20000 in
theorem e_192_105 (o0 : Option Value) (σ : SH) : exec PP 9 192 105 [o0] [] σ =
  some (.inl (some (.int 0)), σ) := (exec_eq PP 9 192 105 _ _ σ).trans rfl
set_option maxRecDepth 20000 in
theorem e_192_106 (o0 : Option Value) (w0 : Int32) (σ : SH) : exec PP 9 192 106 [o0] [.int w0] σ =
  if w0 = 0 ∨ w0 = 1 then some (.inl (some (.int w0)), σ) else none := (exec_eq PP 9 192 106 _ _ σ).trans rfl

/-! 193: ArchEndsModel.isWord(Ljava/lang/String;)Z -/
set_option maxRecDepth 20000 in
theorem r_193 (a0 : Nat) (a1 : Nat) (σ : SH) : rn 193 [.ref a0, .ref a1] σ =
  gI σ 112 10 (.ref a0) fun x21 =>
  gI σ 112 12 (.ref a0) fun x22 =>
  if sT σ a1 = 113 then (onI (rn 318 [.ref a1] σ) (fun x25 σ23 =>
  if (((x21 - x22) : Int32) = x25 : Prop) then (exec PP 5 193 21 [some (.ref a0), some (.ref a1), none, none] [.int 1] σ23)
    else (exec PP 5 193 20 [some (.ref a0), some (.ref a1), none, none] [] σ23)) (fun e24 σ23x => some (.inr e24, σ23x))) else none := (exec_eq PP 5 193 0 _ _ σ).trans rfl
set_option maxRecDepth 20000 in
theorem e_193_20 (a0 : Nat) (a1 : Nat) (o2 : Option Value) (o3 : Option Value) (σ : SH) : exec PP 5 193 20 [some (.ref a0), some (.ref a1), o2, o3] [] σ =
  exec PP 5 193 24 [some (.ref a0), some (.ref a1), some (.int 0), some (.int 0)] [] σ := (exec_eq PP 5 193 20 _ _ σ).trans rfl
set_option maxRecDepth 20000 in
theorem e_193_21 (a0 : Nat) (a1 : Nat) (o2 : Option Value) (o3 : Option Value) (w0 : Int32) (σ : SH) : exec PP 5 193 21 [some (.ref a0), some (.ref a1), o2, o3] [.int w0] σ =
  exec PP 5 193 24 [some (.ref a0), some (.ref a1), some (.int w0), some (.int 0)] [] σ := (exec_eq PP 5 193 21 _ _ σ).trans rfl
set_option maxRecDepth 20000 in
theorem e_193_24 (a0 : Nat) (a1 : Nat) (x2 : Int32) (x3 : Int32) (σ : SH) : exec PP 5 193 24 [some (.ref a0), some (.ref a1), some (.int x2), some (.int x3)] [] σ =
  if (x2 = 0 : Prop) then (exec PP 5 193 67 [some (.ref a0), some (.ref a1), some (.int x2), some (.int x3)] [] σ)
  else (if sT σ a1 = 113 then (onI (rn 318 [.ref a1] σ) (fun x23 σ21 =>
    if (x3 < x23 : Prop) then (gR σ21 112 8 (.ref a0) fun a24 =>
        gI σ21 112 12 (.ref a0) fun x25 =>
        aI σ21 2 (.ref a24) (x25 + x3) fun x26 =>
        if sT σ21 a1 = 113 then (onI (rn 320 [.ref a1, .int x3] σ21) (fun x29 σ27 =>
        if (x26 = x29 : Prop) then (exec PP 5 193 60 [some (.ref a0), some (.ref a1), some (.int x2), some (.int x3)] [.int 1] σ27)
          else (exec PP 5 193 59 [some (.ref a0), some (.ref a1), some (.int x2), some (.int x3)] [] σ27)) (fun e28 σ27x => some (.inr e28, σ27x))) else none)
      else (exec PP 5 193 67 [some (.ref a0), some (.ref a1), some (.int x2), some (.int x3)] [] σ21)) (fun e22 σ21x => some (.inr e22, σ21x))) else none) := (exec_eq PP 5 193 24 _ _ σ).trans rfl
set_option maxRecDepth 20000 in
theorem e_193_67 (o0 : Option Value) (o1 : Option Value) (x2 : Int32) (o3 : Option Value) (σ : SH) : exec PP 5 193 67 [o0, o1, some (.int x2), o3] [] σ =
  if x2 = 0 ∨ x2 = 1 then some (.inl (some (.int x2)), σ) else none := (exec_eq PP 5 193 67 _ _ σ).trans rfl
set_option maxRecDepth 20000 in
theorem e_193_59 (a0 : Nat) (a1 : Nat) (o2 : Option Value) (x3 : Int32) (σ : SH) : exec PP 5 193 59 [some (.ref a0), some (.ref a1), o2, some (.int x3)] [] σ =
  exec PP 5 193 24 [some (.ref a0), some (.ref a1), some (.int 0), some (.int (x3 + 1))] [] σ := (exec_eq PP 5 193 59 _ _ σ).trans rfl
set_option maxRecDepth 20000 in
theorem e_193_60 (a0 : Nat) (a1 : Nat) (o2 : Option Value) (x3 : Int32) (w0 : Int32) (σ : SH) : exec PP 5 193 60 [some (.ref a0), some (.ref a1), o2, some (.int x3)] [.int w0] σ =
  exec PP 5 193 24 [some (.ref a0), some (.ref a1), some (.int w0), some (.int (x3 + 1))] [] σ := (exec_eq PP 5 193 60 _ _ σ).trans rfl

/-! 194: ArchEndsModel.readShower()Z -/
set_option maxRecDepth 20000 in
theorem r_194 (a0 : Nat) (σ : SH) : rn 194 [.ref a0] σ =
  if sT σ a0 = 112 then (onI (rn 195 [.ref a0] σ) (fun x23 σ21 =>
  if (x23 = 6 : Prop) then (some (.inl (some (.int 0)), σ21))
    else (exec PP 8 194 13 [some (.ref a0), some (.int x23), none, none, none] [] σ21)) (fun e22 σ21x => some (.inr e22, σ21x))) else none := (exec_eq PP 8 194 0 _ _ σ).trans rfl
set_option maxRecDepth 20000 in
theorem e_194_13 (a0 : Nat) (x1 : Int32) (o2 : Option Value) (o3 : Option Value) (o4 : Option Value) (σ : SH) : exec PP 8 194 13 [some (.ref a0), some (.int x1), o2, o3, o4] [] σ =
  if sT σ a0 = 112 then (onI (rn 196 [.ref a0, .int 0, .int 15] σ) (fun x23 σ21 =>
  if sT σ21 a0 = 112 then (onI (rn 197 [.ref a0, .int ((10 + (7 * x1)) + 0), .int x23, .int 15] σ21) (fun x26 σ24 =>
    if (x26 = 0 : Prop) then (exec PP 8 194 63 [some (.ref a0), some (.int x1), some (.int (10 + (7 * x1))), none, none] [] σ24)
      else (if sT σ24 a0 = 112 then (onI (rn 198 [.ref a0, .ref 122, .int 0, .int 999] σ24) (fun x29 σ27 =>
        if sT σ27 a0 = 112 then (onI (rn 197 [.ref a0, .int ((10 + (7 * x1)) + 2), .int x29, .int 999] σ27) (fun x32 σ30 =>
          if (x32 = 0 : Prop) then (some (.inl (some (.int 0)), σ30))
            else (exec PP 8 194 65 [some (.ref a0), some (.int x1), some (.int (10 + (7 * x1))), none, none] [] σ30)) (fun e31 σ30x => some (.inr e31, σ30x))) else none) (fun e28 σ27x => some (.inr e28, σ27x))) else none)) (fun e25 σ24x => some (.inr e25, σ24x))) else none) (fun e22 σ21x => some (.inr e22, σ21x))) else none := (exec_eq PP 8 194 13 _ _ σ).trans rfl
set_option maxRecDepth 20000 in
theorem e_194_63 (o0 : Option Value) (o1 : Option Value) (o2 : Option Value) (o3 : Option Value) (o4 : Option Value) (σ : SH) : exec PP 8 194 63 [o0, o1, o2, o3, o4] [] σ =
  some (.inl (some (.int 0)), σ) := (exec_eq PP 8 194 63 _ _ σ).trans rfl
set_option maxRecDepth 20000 in
theorem e_194_65 (a0 : Nat) (o1 : Option Value) (x2 : Int32) (o3 : Option Value) (o4 : Option Value) (σ : SH) : exec PP 8 194 65 [some (.ref a0), o1, some (.int x2), o3, o4] [] σ =
  if sT σ a0 = 112 then (onI (rn 199 [.ref a0, .ref 123] σ) (fun x23 σ21 =>
  if (x23 = 0 : Prop) then (exec PP 8 194 89 [some (.ref a0), none, some (.int x2), some (.int 0), none] [] σ21)
    else (if sT σ21 a0 = 112 then (onI (rn 196 [.ref a0, .int 0, .int 2] σ21) (fun x26 σ24 =>
      if (x26 < 0 : Prop) then (some (.inl (some (.int 0)), σ24))
        else (exec PP 8 194 114 [some (.ref a0), none, some (.int x2), some (.int x26), none] [] σ24)) (fun e25 σ24x => some (.inr e25, σ24x))) else none)) (fun e22 σ21x => some (.inr e22, σ21x))) else none := (exec_eq PP 8 194 65 _ _ σ).trans rfl
set_option maxRecDepth 20000 in
theorem e_194_89 (a0 : Nat) (o1 : Option Value) (x2 : Int32) (x3 : Int32) (o4 : Option Value) (σ : SH) : exec PP 8 194 89 [some (.ref a0), o1, some (.int x2), some (.int x3), o4] [] σ =
  if sT σ a0 = 112 then (onI (rn 199 [.ref a0, .ref 124] σ) (fun x23 σ21 =>
  if (x23 = 0 : Prop) then (exec PP 8 194 114 [some (.ref a0), none, some (.int x2), some (.int x3), none] [] σ21)
    else (if sT σ21 a0 = 112 then (onI (rn 196 [.ref a0, .int 0, .int 2] σ21) (fun x26 σ24 =>
      if (x26 < 0 : Prop) then (some (.inl (some (.int 0)), σ24))
        else (exec PP 8 194 111 [some (.ref a0), none, some (.int x2), some (.int x26), none] [] σ24)) (fun e25 σ24x => some (.inr e25, σ24x))) else none)) (fun e22 σ21x => some (.inr e22, σ21x))) else none := (exec_eq PP 8 194 89 _ _ σ).trans rfl
set_option maxRecDepth 20000 in
theorem e_194_114 (a0 : Nat) (o1 : Option Value) (x2 : Int32) (x3 : Int32) (o4 : Option Value) (σ : SH) : exec PP 8 194 114 [some (.ref a0), o1, some (.int x2), some (.int x3), o4] [] σ =
  if sT σ a0 = 112 then (onI (rn 199 [.ref a0, .ref 125] σ) (fun x23 σ21 =>
  if (x23 = 0 : Prop) then (exec PP 8 194 133 [some (.ref a0), none, some (.int x2), some (.int x3), none] [] σ21)
    else (if sT σ21 a0 = 112 then (onI (rn 196 [.ref a0, .int 0, .int 100] σ21) (fun x26 σ24 =>
      exec PP 8 194 135 [some (.ref a0), none, some (.int x2), some (.int x3), none] [.int x26] σ24) (fun e25 σ24x => some (.inr e25, σ24x))) else none)) (fun e22 σ21x => some (.inr e22, σ21x))) else none := (exec_eq PP 8 194 114 _ _ σ).trans rfl
set_option maxRecDepth 20000 in
theorem e_194_111 (a0 : Nat) (o1 : Option Value) (x2 : Int32) (x3 : Int32) (o4 : Option Value) (σ : SH) : exec PP 8 194 111 [some (.ref a0), o1, some (.int x2), some (.int x3), o4] [] σ =
  if sT σ a0 = 112 then (onI (rn 199 [.ref a0, .ref 125] σ) (fun x23 σ21 =>
  if (x23 = 0 : Prop) then (exec PP 8 194 133 [some (.ref a0), none, some (.int x2), some (.int (-x3)), none] [] σ21)
    else (if sT σ21 a0 = 112 then (onI (rn 196 [.ref a0, .int 0, .int 100] σ21) (fun x26 σ24 =>
      exec PP 8 194 135 [some (.ref a0), none, some (.int x2), some (.int (-x3)), none] [.int x26] σ24) (fun e25 σ24x => some (.inr e25, σ24x))) else none)) (fun e22 σ21x => some (.inr e22, σ21x))) else none := (exec_eq PP 8 194 111 _ _ σ).trans rfl
set_option maxRecDepth 20000 in
theorem e_194_133 (a0 : Nat) (o1 : Option Value) (x2 : Int32) (x3 : Int32) (o4 : Option Value) (σ : SH) : exec PP 8 194 133 [some (.ref a0), o1, some (.int x2), some (.int x3), o4] [] σ =
  if ((100 : Int32) < 0 : Prop) then (some (.inl (some (.int 0)), σ))
  else (exec PP 8 194 144 [some (.ref a0), none, some (.int x2), some (.int x3), some (.int 100)] [] σ) := (exec_eq PP 8 194 133 _ _ σ).trans rfl
set_option maxRecDepth 20000 in
theorem e_194_135 (a0 : Nat) (o1 : Option Value) (x2 : Int32) (x3 : Int32) (o4 : Option Value) (w0 : Int32) (σ : SH) : exec PP 8 194 135 [some (.ref a0), o1, some (.int x2), some (.int x3), o4] [.int w0] σ =
  if (w0 < 0 : Prop) then (some (.inl (some (.int 0)), σ))
  else (exec PP 8 194 144 [some (.ref a0), none, some (.int x2), some (.int x3), some (.int w0)] [] σ) := (exec_eq PP 8 194 135 _ _ σ).trans rfl
set_option maxRecDepth 20000 in
theorem e_194_144 (a0 : Nat) (o1 : Option Value) (x2 : Int32) (x3 : Int32) (x4 : Int32) (σ : SH) : exec PP 8 194 144 [some (.ref a0), o1, some (.int x2), some (.int x3), some (.int x4)] [] σ =
  gR σ 112 1 (.ref a0) fun a21 =>
  uI σ (.ref a21) (x2 + 4) x3 fun σ22 =>
  gR σ22 112 1 (.ref a0) fun a23 =>
  uI σ22 (.ref a23) (x2 + 5) x4 fun σ24 =>
  gR σ24 112 1 (.ref a0) fun a25 =>
  uI σ24 (.ref a25) (x2 + 6) 0 fun σ26 =>
  gR σ26 112 1 (.ref a0) fun a27 =>
  aI σ26 1 (.ref a27) 0 fun x28 =>
  uI σ26 (.ref a27) 0 (x28 + 1) fun σ29 =>
  some (.inl (some (.int 1)), σ29) := (exec_eq PP 8 194 144 _ _ σ).trans rfl

/-! 195: ArchEndsModel.showers()I -/
set_option maxRecDepth 20000 in
theorem r_195 (a0 : Nat) (σ : SH) : rn 195 [.ref a0] σ =
  gR σ 112 1 (.ref a0) fun a21 =>
  aI σ 1 (.ref a21) 0 fun x22 =>
  some (.inl (some (.int x22)), σ) := (exec_eq PP 1 195 0 _ _ σ).trans rfl

/-! 196: ArchEndsModel.number(II)I -/
set_option maxRecDepth 20000 in
theorem r_196 (a0 : Nat) (x1 : Int32) (x2 : Int32) (σ : SH) : rn 196 [.ref a0, .int x1, .int x2] σ =
  if sT σ a0 = 112 then (onV (rn 188 [.ref a0] σ) (fun σ21 =>
  exec PP 3 196 6 [some (.ref a0), some (.int x1), some (.int x2), some (.int 0)] [] σ21) (fun e22 σ21x => some (.inr e22, σ21x))) else none := (exec_eq PP 3 196 0 _ _ σ).trans rfl
set_option maxRecDepth 20000 in
theorem e_196_6 (a0 : Nat) (x1 : Int32) (x2 : Int32) (x3 : Int32) (σ : SH) : exec PP 3 196 6 [some (.ref a0), some (.int x1), some (.int x2), some (.int x3)] [] σ =
  if sT σ a0 = 112 then (onI (rn 189 [.ref a0, .int 48, .int 57] σ) (fun x23 σ21 =>
  if (x23 = 0 : Prop) then (exec PP 3 196 65 [some (.ref a0), some (.int x1), some (.int x2), some (.int x3)] [] σ21)
    else (gI σ21 112 10 (.ref a0) fun x24 =>
      gI σ21 112 12 (.ref a0) fun x25 =>
      if (((x24 - x25) : Int32) < 3 : Prop) then (gR σ21 112 8 (.ref a0) fun a26 =>
        gI σ21 112 10 (.ref a0) fun x27 =>
        aI σ21 2 (.ref a26) x27 fun x28 =>
        exec PP 3 196 51 [some (.ref a0), some (.int x1), some (.int x2), some (.int x3)] [.int (((10 * x3) + x28) - 48)] σ21)
      else (exec PP 3 196 50 [some (.ref a0), some (.int x1), some (.int x2), some (.int x3)] [] σ21))) (fun e22 σ21x => some (.inr e22, σ21x))) else none := (exec_eq PP 3 196 6 _ _ σ).trans rfl
set_option maxRecDepth 20000 in
theorem e_196_65 (a0 : Nat) (x1 : Int32) (x2 : Int32) (x3 : Int32) (σ : SH) : exec PP 3 196 65 [some (.ref a0), some (.int x1), some (.int x2), some (.int x3)] [] σ =
  gI σ 112 10 (.ref a0) fun x21 =>
  gI σ 112 12 (.ref a0) fun x22 =>
  if (x21 = x22 : Prop) then (exec PP 3 196 99 [some (.ref a0), some (.int x1), some (.int x2), some (.int x3)] [] σ)
  else (gI σ 112 10 (.ref a0) fun x23 =>
    gI σ 112 12 (.ref a0) fun x24 =>
    if (3 < ((x23 - x24) : Int32) : Prop) then (exec PP 3 196 99 [some (.ref a0), some (.int x1), some (.int x2), some (.int x3)] [] σ)
    else (if (x3 < x1 : Prop) then (exec PP 3 196 99 [some (.ref a0), some (.int x1), some (.int x2), some (.int x3)] [] σ)
      else (if (x2 < x3 : Prop) then (exec PP 3 196 104 [none, none, none, none] [.int (-1)] σ)
        else (exec PP 3 196 103 [some (.ref a0), some (.int x1), some (.int x2), some (.int x3)] [] σ)))) := (exec_eq PP 3 196 65 _ _ σ).trans rfl
set_option maxRecDepth 20000 in
theorem e_196_50 (a0 : Nat) (x1 : Int32) (x2 : Int32) (x3 : Int32) (σ : SH) : exec PP 3 196 50 [some (.ref a0), some (.int x1), some (.int x2), some (.int x3)] [] σ =
  gI σ 112 10 (.ref a0) fun x21 =>
  pI σ 112 10 (.ref a0) (x21 + 1) fun σ22 =>
  exec PP 3 196 6 [some (.ref a0), some (.int x1), some (.int x2), some (.int x3)] [] σ22 := (exec_eq PP 3 196 50 _ _ σ).trans rfl
set_option maxRecDepth 20000 in
theorem e_196_51 (a0 : Nat) (x1 : Int32) (x2 : Int32) (o3 : Option Value) (w0 : Int32) (σ : SH) : exec PP 3 196 51 [some (.ref a0), some (.int x1), some (.int x2), o3] [.int w0] σ =
  gI σ 112 10 (.ref a0) fun x21 =>
  pI σ 112 10 (.ref a0) (x21 + 1) fun σ22 =>
  exec PP 3 196 6 [some (.ref a0), some (.int x1), some (.int x2), some (.int w0)] [] σ22 := (exec_eq PP 3 196 51 _ _ σ).trans rfl
set_option maxRecDepth 20000 in
theorem e_196_99 (o0 : Option Value) (o1 : Option Value) (o2 : Option Value) (o3 : Option Value) (σ : SH) : exec PP 3 196 99 [o0, o1, o2, o3] [] σ =
  exec PP 3 196 104 [none, none, none, none] [.int (-1)] σ := (exec_eq PP 3 196 99 _ _ σ).trans rfl
set_option maxRecDepth 20000 in
theorem e_196_103 (o0 : Option Value) (o1 : Option Value) (o2 : Option Value) (x3 : Int32) (σ : SH) : exec PP 3 196 103 [o0, o1, o2, some (.int x3)] [] σ =
  some (.inl (some (.int x3)), σ) := (exec_eq PP 3 196 103 _ _ σ).trans rfl
set_option maxRecDepth 20000 in
theorem e_196_104 (o0 : Option Value) (o1 : Option Value) (o2 : Option Value) (o3 : Option Value) (w0 : Int32) (σ : SH) : exec PP 3 196 104 [o0, o1, o2, o3] [.int w0] σ =
  some (.inl (some (.int w0)), σ) := (exec_eq PP 3 196 104 _ _ σ).trans rfl

/-! 197: ArchEndsModel.readSpan(III)Z -/
set_option maxRecDepth 20000 in
theorem r_197 (a0 : Nat) (x1 : Int32) (x2 : Int32) (x3 : Int32) (σ : SH) : rn 197 [.ref a0, .int x1, .int x2, .int x3] σ =
  if (x2 < 0 : Prop) then (exec PP 7 197 16 [some (.ref a0), some (.int x1), some (.int x2), some (.int x3), none] [.int (-1)] σ)
  else (exec PP 7 197 8 [some (.ref a0), some (.int x1), some (.int x2), some (.int x3), none] [] σ) := (exec_eq PP 7 197 0 _ _ σ).trans rfl
set_option maxRecDepth 20000 in
theorem e_197_8 (a0 : Nat) (x1 : Int32) (x2 : Int32) (x3 : Int32) (o4 : Option Value) (σ : SH) : exec PP 7 197 8 [some (.ref a0), some (.int x1), some (.int x2), some (.int x3), o4] [] σ =
  if sT σ a0 = 112 then (onI (rn 198 [.ref a0, .ref 121, .int x2, .int x3] σ) (fun x23 σ21 =>
  gR σ21 112 1 (.ref a0) fun a24 =>
    uI σ21 (.ref a24) x1 x2 fun σ25 =>
    gR σ25 112 1 (.ref a0) fun a26 =>
    uI σ25 (.ref a26) (x1 + 1) x23 fun σ27 =>
    if (x23 < 0 : Prop) then (exec PP 7 197 44 [some (.ref a0), some (.int x1), some (.int x2), none, some (.int x23)] [] σ27)
    else (exec PP 7 197 45 [some (.ref a0), some (.int x1), some (.int x2), none, some (.int x23)] [.int 1] σ27)) (fun e22 σ21x => some (.inr e22, σ21x))) else none := (exec_eq PP 7 197 8 _ _ σ).trans rfl
set_option maxRecDepth 20000 in
theorem e_197_16 (a0 : Nat) (x1 : Int32) (x2 : Int32) (o3 : Option Value) (o4 : Option Value) (w0 : Int32) (σ : SH) : exec PP 7 197 16 [some (.ref a0), some (.int x1), some (.int x2), o3, o4] [.int w0] σ =
  gR σ 112 1 (.ref a0) fun a21 =>
  uI σ (.ref a21) x1 x2 fun σ22 =>
  gR σ22 112 1 (.ref a0) fun a23 =>
  uI σ22 (.ref a23) (x1 + 1) w0 fun σ24 =>
  if (w0 < 0 : Prop) then (exec PP 7 197 44 [some (.ref a0), some (.int x1), some (.int x2), none, some (.int w0)] [] σ24)
  else (exec PP 7 197 45 [some (.ref a0), some (.int x1), some (.int x2), none, some (.int w0)] [.int 1] σ24) := (exec_eq PP 7 197 16 _ _ σ).trans rfl
set_option maxRecDepth 20000 in
theorem e_197_44 (o0 : Option Value) (o1 : Option Value) (o2 : Option Value) (o3 : Option Value) (o4 : Option Value) (σ : SH) : exec PP 7 197 44 [o0, o1, o2, o3, o4] [] σ =
  some (.inl (some (.int 0)), σ) := (exec_eq PP 7 197 44 _ _ σ).trans rfl
set_option maxRecDepth 20000 in
theorem e_197_45 (o0 : Option Value) (o1 : Option Value) (o2 : Option Value) (o3 : Option Value) (o4 : Option Value) (w0 : Int32) (σ : SH) : exec PP 7 197 45 [o0, o1, o2, o3, o4] [.int w0] σ =
  if w0 = 0 ∨ w0 = 1 then some (.inl (some (.int w0)), σ) else none := (exec_eq PP 7 197 45 _ _ σ).trans rfl

/-! 198: ArchEndsModel.after(Ljava/lang/String;II)I -/
set_option maxRecDepth 20000 in
theorem r_198 (a0 : Nat) (a1 : Nat) (x2 : Int32) (x3 : Int32) (σ : SH) : rn 198 [.ref a0, .ref a1, .int x2, .int x3] σ =
  if sT σ a0 = 112 then (onV (rn 191 [.ref a0] σ) (fun σ21 =>
  if sT σ21 a0 = 112 then (onI (rn 193 [.ref a0, .ref a1] σ21) (fun x25 σ23 =>
    if (x25 = 0 : Prop) then (exec PP 6 198 21 [some (.ref a0), some (.ref a1), some (.int x2), some (.int x3)] [] σ23)
      else (if sT σ23 a0 = 112 then (onI (rn 196 [.ref a0, .int x2, .int x3] σ23) (fun x28 σ26 =>
        exec PP 6 198 22 [some (.ref a0), some (.ref a1), some (.int x2), some (.int x3)] [.int x28] σ26) (fun e27 σ26x => some (.inr e27, σ26x))) else none)) (fun e24 σ23x => some (.inr e24, σ23x))) else none) (fun e22 σ21x => some (.inr e22, σ21x))) else none := (exec_eq PP 6 198 0 _ _ σ).trans rfl
set_option maxRecDepth 20000 in
theorem e_198_21 (o0 : Option Value) (o1 : Option Value) (o2 : Option Value) (o3 : Option Value) (σ : SH) : exec PP 6 198 21 [o0, o1, o2, o3] [] σ =
  some (.inl (some (.int (-1))), σ) := (exec_eq PP 6 198 21 _ _ σ).trans rfl
set_option maxRecDepth 20000 in
theorem e_198_22 (o0 : Option Value) (o1 : Option Value) (o2 : Option Value) (o3 : Option Value) (w0 : Int32) (σ : SH) : exec PP 6 198 22 [o0, o1, o2, o3] [.int w0] σ =
  some (.inl (some (.int w0)), σ) := (exec_eq PP 6 198 22 _ _ σ).trans rfl

/-! 199: ArchEndsModel.passes(Ljava/lang/String;)Z -/
set_option maxRecDepth 20000 in
theorem r_199 (a0 : Nat) (a1 : Nat) (σ : SH) : rn 199 [.ref a0, .ref a1] σ =
  if sT σ a0 = 112 then (onV (rn 191 [.ref a0] σ) (fun σ21 =>
  if sT σ21 a0 = 112 then (onI (rn 193 [.ref a0, .ref a1] σ21) (fun x25 σ23 =>
    if (x25 = 0 : Prop) then (exec PP 6 199 14 [some (.ref a0), some (.ref a1)] [] σ23)
      else (some (.inl (some (.int 1)), σ23))) (fun e24 σ23x => some (.inr e24, σ23x))) else none) (fun e22 σ21x => some (.inr e22, σ21x))) else none := (exec_eq PP 6 199 0 _ _ σ).trans rfl
set_option maxRecDepth 20000 in
theorem e_199_14 (a0 : Nat) (o1 : Option Value) (σ : SH) : exec PP 6 199 14 [some (.ref a0), o1] [] σ =
  gI σ 112 12 (.ref a0) fun x21 =>
  pI σ 112 10 (.ref a0) x21 fun σ22 =>
  some (.inl (some (.int 0)), σ22) := (exec_eq PP 6 199 14 _ _ σ).trans rfl

/-! 200: ArchEndsModel.readBroker()Z -/
set_option maxRecDepth 20000 in
theorem r_200 (a0 : Nat) (σ : SH) : rn 200 [.ref a0] σ =
  if sT σ a0 = 112 then (onI (rn 201 [.ref a0] σ) (fun x23 σ21 =>
  if (x23 = 5 : Prop) then (some (.inl (some (.int 0)), σ21))
    else (exec PP 7 200 12 [some (.ref a0), some (.int x23), none, none, none] [] σ21)) (fun e22 σ21x => some (.inr e22, σ21x))) else none := (exec_eq PP 7 200 0 _ _ σ).trans rfl
set_option maxRecDepth 20000 in
theorem e_200_12 (a0 : Nat) (x1 : Int32) (o2 : Option Value) (o3 : Option Value) (o4 : Option Value) (σ : SH) : exec PP 7 200 12 [some (.ref a0), some (.int x1), o2, o3, o4] [] σ =
  if sT σ a0 = 112 then (onI (rn 196 [.ref a0, .int 0, .int 999] σ) (fun x23 σ21 =>
  if (x23 < 0 : Prop) then (exec PP 7 200 38 [some (.ref a0), some (.int x1), some (.int x23), none, none] [.int (-1)] σ21)
    else (exec PP 7 200 29 [some (.ref a0), some (.int x1), some (.int x23), none, none] [] σ21)) (fun e22 σ21x => some (.inr e22, σ21x))) else none := (exec_eq PP 7 200 12 _ _ σ).trans rfl
set_option maxRecDepth 20000 in
theorem e_200_29 (a0 : Nat) (x1 : Int32) (x2 : Int32) (o3 : Option Value) (o4 : Option Value) (σ : SH) : exec PP 7 200 29 [some (.ref a0), some (.int x1), some (.int x2), o3, o4] [] σ =
  if sT σ a0 = 112 then (onI (rn 198 [.ref a0, .ref 127, .int 0, .int 15] σ) (fun x23 σ21 =>
  if (x23 < 0 : Prop) then (exec PP 7 200 55 [some (.ref a0), some (.int x1), some (.int x2), some (.int x23), none] [.int (-1)] σ21)
    else (exec PP 7 200 47 [some (.ref a0), some (.int x1), some (.int x2), some (.int x23), none] [] σ21)) (fun e22 σ21x => some (.inr e22, σ21x))) else none := (exec_eq PP 7 200 29 _ _ σ).trans rfl
set_option maxRecDepth 20000 in
theorem e_200_38 (a0 : Nat) (x1 : Int32) (x2 : Int32) (o3 : Option Value) (o4 : Option Value) (w0 : Int32) (σ : SH) : exec PP 7 200 38 [some (.ref a0), some (.int x1), some (.int x2), o3, o4] [.int w0] σ =
  if (w0 < 0 : Prop) then (exec PP 7 200 55 [some (.ref a0), some (.int x1), some (.int x2), some (.int w0), none] [.int (-1)] σ)
  else (exec PP 7 200 47 [some (.ref a0), some (.int x1), some (.int x2), some (.int w0), none] [] σ) := (exec_eq PP 7 200 38 _ _ σ).trans rfl
set_option maxRecDepth 20000 in
theorem e_200_47 (a0 : Nat) (x1 : Int32) (x2 : Int32) (x3 : Int32) (o4 : Option Value) (σ : SH) : exec PP 7 200 47 [some (.ref a0), some (.int x1), some (.int x2), some (.int x3), o4] [] σ =
  if sT σ a0 = 112 then (onI (rn 198 [.ref a0, .ref 128, .int 1, .int 4] σ) (fun x23 σ21 =>
  if (x23 < 0 : Prop) then (some (.inl (some (.int 0)), σ21))
    else (exec PP 7 200 64 [some (.ref a0), some (.int x1), some (.int x2), some (.int x3), some (.int x23)] [] σ21)) (fun e22 σ21x => some (.inr e22, σ21x))) else none := (exec_eq PP 7 200 47 _ _ σ).trans rfl
set_option maxRecDepth 20000 in
theorem e_200_55 (a0 : Nat) (x1 : Int32) (x2 : Int32) (x3 : Int32) (o4 : Option Value) (w0 : Int32) (σ : SH) : exec PP 7 200 55 [some (.ref a0), some (.int x1), some (.int x2), some (.int x3), o4] [.int w0] σ =
  if (w0 < 0 : Prop) then (some (.inl (some (.int 0)), σ))
  else (exec PP 7 200 64 [some (.ref a0), some (.int x1), some (.int x2), some (.int x3), some (.int w0)] [] σ) := (exec_eq PP 7 200 55 _ _ σ).trans rfl
set_option maxRecDepth 20000 in
theorem e_200_64 (a0 : Nat) (x1 : Int32) (x2 : Int32) (x3 : Int32) (x4 : Int32) (σ : SH) : exec PP 7 200 64 [some (.ref a0), some (.int x1), some (.int x2), some (.int x3), some (.int x4)] [] σ =
  gR σ 112 1 (.ref a0) fun a21 =>
  onI (rn 202 [.int x1, .int 0] σ) (fun x24 σ22 =>
  uI σ22 (.ref a21) x24 x2 fun σ25 =>
    gR σ25 112 1 (.ref a0) fun a26 =>
    onI (rn 202 [.int x1, .int 1] σ25) (fun x29 σ27 =>
    uI σ27 (.ref a26) x29 x3 fun σ30 =>
      gR σ30 112 1 (.ref a0) fun a31 =>
      onI (rn 202 [.int x1, .int 2] σ30) (fun x34 σ32 =>
      uI σ32 (.ref a31) x34 x4 fun σ35 =>
        gR σ35 112 1 (.ref a0) fun a36 =>
        aI σ35 1 (.ref a36) 1 fun x37 =>
        uI σ35 (.ref a36) 1 (x37 + 1) fun σ38 =>
        some (.inl (some (.int 1)), σ38)) (fun e33 σ32x => some (.inr e33, σ32x))) (fun e28 σ27x => some (.inr e28, σ27x))) (fun e23 σ22x => some (.inr e23, σ22x)) := (exec_eq PP 7 200 64 _ _ σ).trans rfl

/-! 201: ArchEndsModel.brokers()I -/
set_option maxRecDepth 20000 in
theorem r_201 (a0 : Nat) (σ : SH) : rn 201 [.ref a0] σ =
  gR σ 112 1 (.ref a0) fun a21 =>
  aI σ 1 (.ref a21) 1 fun x22 =>
  some (.inl (some (.int x22)), σ) := (exec_eq PP 1 201 0 _ _ σ).trans rfl

/-! 202: ArchEndsModel.brokerAt(II)I -/
set_option maxRecDepth 20000 in
theorem r_202 (x0 : Int32) (x1 : Int32) (σ : SH) : rn 202 [.int x0, .int x1] σ =
  some (.inl (some (.int ((52 + (3 * x0)) + x1))), σ) := (exec_eq PP 1 202 0 _ _ σ).trans rfl

/-! 203: ArchEndsModel.readDeed()Z -/
set_option maxRecDepth 20000 in
theorem r_203 (a0 : Nat) (σ : SH) : rn 203 [.ref a0] σ =
  if sT σ a0 = 112 then (onI (rn 204 [.ref a0] σ) (fun x23 σ21 =>
  if (x23 = 8 : Prop) then (some (.inl (some (.int 0)), σ21))
    else (exec PP 8 203 13 [some (.ref a0), some (.int x23), none, none] [] σ21)) (fun e22 σ21x => some (.inr e22, σ21x))) else none := (exec_eq PP 8 203 0 _ _ σ).trans rfl
set_option maxRecDepth 20000 in
theorem e_203_13 (a0 : Nat) (x1 : Int32) (o2 : Option Value) (o3 : Option Value) (σ : SH) : exec PP 8 203 13 [some (.ref a0), some (.int x1), o2, o3] [] σ =
  if sT σ a0 = 112 then (onI (rn 196 [.ref a0, .int 0, .int 15] σ) (fun x23 σ21 =>
  if (x23 < 0 : Prop) then (exec PP 8 203 50 [some (.ref a0), some (.int x1), some (.int x23), none] [] σ21)
    else (onI (rn 205 [.int x1, .int 1] σ21) (fun x26 σ24 =>
      if sT σ24 a0 = 112 then (onI (rn 198 [.ref a0, .ref 122, .int 0, .int 999] σ24) (fun x29 σ27 =>
        if sT σ27 a0 = 112 then (onI (rn 197 [.ref a0, .int x26, .int x29, .int 999] σ27) (fun x32 σ30 =>
          if (x32 = 0 : Prop) then (some (.inl (some (.int 0)), σ30))
            else (exec PP 8 203 52 [some (.ref a0), some (.int x1), some (.int x23), none] [] σ30)) (fun e31 σ30x => some (.inr e31, σ30x))) else none) (fun e28 σ27x => some (.inr e28, σ27x))) else none) (fun e25 σ24x => some (.inr e25, σ24x)))) (fun e22 σ21x => some (.inr e22, σ21x))) else none := (exec_eq PP 8 203 13 _ _ σ).trans rfl
set_option maxRecDepth 20000 in
theorem e_203_50 (o0 : Option Value) (o1 : Option Value) (o2 : Option Value) (o3 : Option Value) (σ : SH) : exec PP 8 203 50 [o0, o1, o2, o3] [] σ =
  some (.inl (some (.int 0)), σ) := (exec_eq PP 8 203 50 _ _ σ).trans rfl
set_option maxRecDepth 20000 in
theorem e_203_52 (a0 : Nat) (x1 : Int32) (x2 : Int32) (o3 : Option Value) (σ : SH) : exec PP 8 203 52 [some (.ref a0), some (.int x1), some (.int x2), o3] [] σ =
  if sT σ a0 = 112 then (onI (rn 198 [.ref a0, .ref 130, .int 0, .int 999] σ) (fun x23 σ21 =>
  if (x23 < 0 : Prop) then (some (.inl (some (.int 0)), σ21))
    else (exec PP 8 203 69 [some (.ref a0), some (.int x1), some (.int x2), some (.int x23)] [] σ21)) (fun e22 σ21x => some (.inr e22, σ21x))) else none := (exec_eq PP 8 203 52 _ _ σ).trans rfl
set_option maxRecDepth 20000 in
theorem e_203_69 (a0 : Nat) (x1 : Int32) (x2 : Int32) (x3 : Int32) (σ : SH) : exec PP 8 203 69 [some (.ref a0), some (.int x1), some (.int x2), some (.int x3)] [] σ =
  gR σ 112 1 (.ref a0) fun a21 =>
  onI (rn 205 [.int x1, .int 0] σ) (fun x24 σ22 =>
  uI σ22 (.ref a21) x24 x2 fun σ25 =>
    gR σ25 112 1 (.ref a0) fun a26 =>
    onI (rn 205 [.int x1, .int 3] σ25) (fun x29 σ27 =>
    uI σ27 (.ref a26) x29 x3 fun σ30 =>
      gR σ30 112 1 (.ref a0) fun a31 =>
      onI (rn 205 [.int x1, .int 4] σ30) (fun x34 σ32 =>
      uI σ32 (.ref a31) x34 (-1) fun σ35 =>
        gR σ35 112 1 (.ref a0) fun a36 =>
        onI (rn 205 [.int x1, .int 5] σ35) (fun x39 σ37 =>
        uI σ37 (.ref a36) x39 0 fun σ40 =>
          gR σ40 112 1 (.ref a0) fun a41 =>
          onI (rn 205 [.int x1, .int 6] σ40) (fun x44 σ42 =>
          uI σ42 (.ref a41) x44 0 fun σ45 =>
            gR σ45 112 1 (.ref a0) fun a46 =>
            aI σ45 1 (.ref a46) 2 fun x47 =>
            uI σ45 (.ref a46) 2 (x47 + 1) fun σ48 =>
            some (.inl (some (.int 1)), σ48)) (fun e43 σ42x => some (.inr e43, σ42x))) (fun e38 σ37x => some (.inr e38, σ37x))) (fun e33 σ32x => some (.inr e33, σ32x))) (fun e28 σ27x => some (.inr e28, σ27x))) (fun e23 σ22x => some (.inr e23, σ22x)) := (exec_eq PP 8 203 69 _ _ σ).trans rfl

/-! 204: ArchEndsModel.deeds()I -/
set_option maxRecDepth 20000 in
theorem r_204 (a0 : Nat) (σ : SH) : rn 204 [.ref a0] σ =
  gR σ 112 1 (.ref a0) fun a21 =>
  aI σ 1 (.ref a21) 2 fun x22 =>
  some (.inl (some (.int x22)), σ) := (exec_eq PP 1 204 0 _ _ σ).trans rfl

/-! 205: ArchEndsModel.deedAt(II)I -/
set_option maxRecDepth 20000 in
theorem r_205 (x0 : Int32) (x1 : Int32) (σ : SH) : rn 205 [.int x0, .int x1] σ =
  some (.inl (some (.int ((67 + (7 * x0)) + x1))), σ) := (exec_eq PP 1 205 0 _ _ σ).trans rfl

/-! 206: ArchEndsModel.readNumber(III)Z -/
set_option maxRecDepth 20000 in
theorem r_206 (a0 : Nat) (x1 : Int32) (x2 : Int32) (x3 : Int32) (σ : SH) : rn 206 [.ref a0, .int x1, .int x2, .int x3] σ =
  if sT σ a0 = 112 then (onI (rn 196 [.ref a0, .int x2, .int x3] σ) (fun x23 σ21 =>
  gR σ21 112 1 (.ref a0) fun a24 =>
    if (x23 < 0 : Prop) then (gR σ21 112 1 (.ref a0) fun a25 =>
      aI σ21 1 (.ref a25) x1 fun x26 =>
      exec PP 4 206 29 [some (.ref a0), some (.int x1), some (.int x2), some (.int x3), some (.int x23)] [.int x26, .int x1, .ref a24] σ21)
    else (exec PP 4 206 27 [some (.ref a0), some (.int x1), some (.int x2), some (.int x3), some (.int x23)] [.int x1, .ref a24] σ21)) (fun e22 σ21x => some (.inr e22, σ21x))) else none := (exec_eq PP 4 206 0 _ _ σ).trans rfl
set_option maxRecDepth 20000 in
theorem e_206_27 (o0 : Option Value) (o1 : Option Value) (o2 : Option Value) (o3 : Option Value) (x4 : Int32) (w0 : Int32) (b1 : Nat) (σ : SH) : exec PP 4 206 27 [o0, o1, o2, o3, some (.int x4)] [.int w0, .ref b1] σ =
  uI σ (.ref b1) w0 x4 fun σ21 =>
  if (x4 < 0 : Prop) then (exec PP 4 206 39 [none, none, none, none, some (.int x4)] [] σ21)
  else (exec PP 4 206 40 [none, none, none, none, some (.int x4)] [.int 1] σ21) := (exec_eq PP 4 206 27 _ _ σ).trans rfl
set_option maxRecDepth 20000 in
theorem e_206_29 (o0 : Option Value) (o1 : Option Value) (o2 : Option Value) (o3 : Option Value) (x4 : Int32) (w0 : Int32) (w1 : Int32) (b2 : Nat) (σ : SH) : exec PP 4 206 29 [o0, o1, o2, o3, some (.int x4)] [.int w0, .int w1, .ref b2] σ =
  uI σ (.ref b2) w1 w0 fun σ21 =>
  if (x4 < 0 : Prop) then (exec PP 4 206 39 [none, none, none, none, some (.int x4)] [] σ21)
  else (exec PP 4 206 40 [none, none, none, none, some (.int x4)] [.int 1] σ21) := (exec_eq PP 4 206 29 _ _ σ).trans rfl
set_option maxRecDepth 20000 in
theorem e_206_39 (o0 : Option Value) (o1 : Option Value) (o2 : Option Value) (o3 : Option Value) (o4 : Option Value) (σ : SH) : exec PP 4 206 39 [o0, o1, o2, o3, o4] [] σ =
  some (.inl (some (.int 0)), σ) := (exec_eq PP 4 206 39 _ _ σ).trans rfl
set_option maxRecDepth 20000 in
theorem e_206_40 (o0 : Option Value) (o1 : Option Value) (o2 : Option Value) (o3 : Option Value) (o4 : Option Value) (w0 : Int32) (σ : SH) : exec PP 4 206 40 [o0, o1, o2, o3, o4] [.int w0] σ =
  if w0 = 0 ∨ w0 = 1 then some (.inl (some (.int w0)), σ) else none := (exec_eq PP 4 206 40 _ _ σ).trans rfl

/-! 207: ArchEndsModel.readLawLine(I)Z -/
set_option maxRecDepth 20000 in
theorem r_207 (a0 : Nat) (x1 : Int32) (σ : SH) : rn 207 [.ref a0, .int x1] σ =
  gR σ 112 1 (.ref a0) fun a21 =>
  if sT σ a0 = 112 then (onI (rn 193 [.ref a0, .ref 134] σ) (fun x24 σ22 =>
  if (x24 = 0 : Prop) then (exec PP 61 207 26 [some (.ref a0), some (.int x1), some (.int (1213 + (4 * x1)))] [.int (1213 + (4 * x1)), .ref a21] σ22)
    else (exec PP 61 207 53 [some (.ref a0), some (.int x1), some (.int (1213 + (4 * x1)))] [.int 0, .int (1213 + (4 * x1)), .ref a21] σ22)) (fun e23 σ22x => some (.inr e23, σ22x))) else none := (exec_eq PP 61 207 0 _ _ σ).trans rfl
set_option maxRecDepth 20000 in
theorem e_207_26 (a0 : Nat) (o1 : Option Value) (x2 : Int32) (w0 : Int32) (b1 : Nat) (σ : SH) : exec PP 61 207 26 [some (.ref a0), o1, some (.int x2)] [.int w0, .ref b1] σ =
  if sT σ a0 = 112 then (onI (rn 193 [.ref a0, .ref 135] σ) (fun x23 σ21 =>
  if (x23 = 0 : Prop) then (exec PP 61 207 39 [some (.ref a0), none, some (.int x2)] [.int w0, .ref b1] σ21)
    else (exec PP 61 207 53 [some (.ref a0), none, some (.int x2)] [.int 1, .int w0, .ref b1] σ21)) (fun e22 σ21x => some (.inr e22, σ21x))) else none := (exec_eq PP 61 207 26 _ _ σ).trans rfl
set_option maxRecDepth 20000 in
theorem e_207_53 (a0 : Nat) (o1 : Option Value) (x2 : Int32) (w0 : Int32) (w1 : Int32) (b2 : Nat) (σ : SH) : exec PP 61 207 53 [some (.ref a0), o1, some (.int x2)] [.int w0, .int w1, .ref b2] σ =
  uI σ (.ref b2) w1 w0 fun σ21 =>
  gR σ21 112 1 (.ref a0) fun a22 =>
  aI σ21 1 (.ref a22) x2 fun x23 =>
  if (x23 < 0 : Prop) then (some (.inl (some (.int 0)), σ21))
  else (exec PP 61 207 65 [some (.ref a0), none, some (.int x2)] [] σ21) := (exec_eq PP 61 207 53 _ _ σ).trans rfl
set_option maxRecDepth 20000 in
theorem e_207_39 (a0 : Nat) (o1 : Option Value) (x2 : Int32) (w0 : Int32) (b1 : Nat) (σ : SH) : exec PP 61 207 39 [some (.ref a0), o1, some (.int x2)] [.int w0, .ref b1] σ =
  if sT σ a0 = 112 then (onI (rn 193 [.ref a0, .ref 136] σ) (fun x23 σ21 =>
  if (x23 = 0 : Prop) then (exec PP 61 207 52 [some (.ref a0), none, some (.int x2)] [.int w0, .ref b1] σ21)
    else (exec PP 61 207 53 [some (.ref a0), none, some (.int x2)] [.int 2, .int w0, .ref b1] σ21)) (fun e22 σ21x => some (.inr e22, σ21x))) else none := (exec_eq PP 61 207 39 _ _ σ).trans rfl
set_option maxRecDepth 20000 in
theorem e_207_65 (a0 : Nat) (o1 : Option Value) (x2 : Int32) (σ : SH) : exec PP 61 207 65 [some (.ref a0), o1, some (.int x2)] [] σ =
  gR σ 112 1 (.ref a0) fun a21 =>
  if sT σ a0 = 112 then (onI (rn 196 [.ref a0, .int 0, .int 99] σ) (fun x24 σ22 =>
  uI σ22 (.ref a21) (x2 + 1) x24 fun σ25 =>
    gR σ25 112 1 (.ref a0) fun a26 =>
    aI σ25 1 (.ref a26) (x2 + 1) fun x27 =>
    if (x27 < 0 : Prop) then (some (.inl (some (.int 0)), σ25))
    else (exec PP 61 207 93 [some (.ref a0), none, some (.int x2)] [] σ25)) (fun e23 σ22x => some (.inr e23, σ22x))) else none := (exec_eq PP 61 207 65 _ _ σ).trans rfl
set_option maxRecDepth 20000 in
theorem e_207_52 (a0 : Nat) (o1 : Option Value) (x2 : Int32) (w0 : Int32) (b1 : Nat) (σ : SH) : exec PP 61 207 52 [some (.ref a0), o1, some (.int x2)] [.int w0, .ref b1] σ =
  uI σ (.ref b1) w0 (-1) fun σ21 =>
  gR σ21 112 1 (.ref a0) fun a22 =>
  aI σ21 1 (.ref a22) x2 fun x23 =>
  if (x23 < 0 : Prop) then (some (.inl (some (.int 0)), σ21))
  else (exec PP 61 207 65 [some (.ref a0), none, some (.int x2)] [] σ21) := (exec_eq PP 61 207 52 _ _ σ).trans rfl
set_option maxRecDepth 20000 in
theorem e_207_93 (a0 : Nat) (o1 : Option Value) (x2 : Int32) (σ : SH) : exec PP 61 207 93 [some (.ref a0), o1, some (.int x2)] [] σ =
  gR σ 112 1 (.ref a0) fun a21 =>
  gI σ 112 16 (.ref a0) fun x22 =>
  uI σ (.ref a21) (x2 + 2) x22 fun σ23 =>
  pI σ23 112 13 (.ref a0) 0 fun σ24 =>
  if sT σ24 a0 = 112 then (onI (rn 199 [.ref a0, .ref 137] σ24) (fun x27 σ25 =>
  if (x27 = 0 : Prop) then (exec PP 61 207 128 [some (.ref a0), none, some (.int x2)] [] σ25)
    else (if sT σ25 a0 = 112 then (onI (exec PP 60 208 0 (lcl PP 208 [.ref a0]) [] σ25) (fun x30 σ28 =>
      if (x30 = 0 : Prop) then (some (.inl (some (.int 0)), σ28))
        else (exec PP 61 207 128 [some (.ref a0), none, some (.int x2)] [] σ28)) (fun e29 σ28x => some (.inr e29, σ28x))) else none)) (fun e26 σ25x => some (.inr e26, σ25x))) else none := (exec_eq PP 61 207 93 _ _ σ).trans rfl
set_option maxRecDepth 20000 in
theorem e_207_128 (a0 : Nat) (o1 : Option Value) (x2 : Int32) (σ : SH) : exec PP 61 207 128 [some (.ref a0), o1, some (.int x2)] [] σ =
  gR σ 112 1 (.ref a0) fun a21 =>
  gI σ 112 16 (.ref a0) fun x22 =>
  uI σ (.ref a21) (x2 + 3) x22 fun σ23 =>
  some (.inl (some (.int 1)), σ23) := (exec_eq PP 61 207 128 _ _ σ).trans rfl

/-! 208: ArchEndsModel.readCond()Z -/
set_option maxRecDepth 20000 in
theorem r_208 (d : Nat) (a0 : Nat) (σ : SH) : exec PP (d + 8) 208 0 (lcl PP 208 [.ref a0]) [] σ =
  if sT σ a0 = 112 then (onI (exec PP (d + 7) 209 0 (lcl PP 209 [.ref a0]) [] σ) (fun x23 σ21 =>
  if (x23 = 0 : Prop) then (some (.inl (some (.int 0)), σ21))
    else (exec PP (d + 8) 208 9 [some (.ref a0)] [] σ21)) (fun e22 σ21x => some (.inr e22, σ21x))) else none := (exec_eq PP (d + 8) 208 0 _ _ σ).trans rfl
set_option maxRecDepth 20000 in
theorem e_208_9 (d : Nat) (a0 : Nat) (σ : SH) : exec PP (d + 8) 208 9 [some (.ref a0)] [] σ =
  if sT σ a0 = 112 then (onI (rn 199 [.ref a0, .ref 148] σ) (fun x23 σ21 =>
  if (x23 = 0 : Prop) then (exec PP (d + 8) 208 37 [some (.ref a0)] [] σ21)
    else (if sT σ21 a0 = 112 then (onI (exec PP (d + 7) 209 0 (lcl PP 209 [.ref a0]) [] σ21) (fun x26 σ24 =>
      if (x26 = 0 : Prop) then (some (.inl (some (.int 0)), σ24))
        else (exec PP (d + 8) 208 27 [some (.ref a0)] [] σ24)) (fun e25 σ24x => some (.inr e25, σ24x))) else none)) (fun e22 σ21x => some (.inr e22, σ21x))) else none := (exec_eq PP (d + 8) 208 9 _ _ σ).trans rfl
set_option maxRecDepth 20000 in
theorem e_208_37 (d : Nat) (o0 : Option Value) (σ : SH) : exec PP (d + 8) 208 37 [o0] [] σ =
  some (.inl (some (.int 1)), σ) := (exec_eq PP (d + 8) 208 37 _ _ σ).trans rfl
set_option maxRecDepth 20000 in
theorem e_208_27 (d : Nat) (a0 : Nat) (σ : SH) : exec PP (d + 8) 208 27 [some (.ref a0)] [] σ =
  if sT σ a0 = 112 then (onV (rn 212 [.ref a0, .int 14, .int 0] σ) (fun σ21 =>
  exec PP (d + 8) 208 9 [some (.ref a0)] [] σ21) (fun e22 σ21x => some (.inr e22, σ21x))) else none := (exec_eq PP (d + 8) 208 27 _ _ σ).trans rfl

/-! 209: ArchEndsModel.readAllOf()Z -/
set_option maxRecDepth 20000 in
theorem r_209 (d : Nat) (a0 : Nat) (σ : SH) : exec PP (d + 8) 209 0 (lcl PP 209 [.ref a0]) [] σ =
  if sT σ a0 = 112 then (onI (exec PP (d + 7) 210 0 (lcl PP 210 [.ref a0]) [] σ) (fun x23 σ21 =>
  if (x23 = 0 : Prop) then (some (.inl (some (.int 0)), σ21))
    else (exec PP (d + 8) 209 9 [some (.ref a0)] [] σ21)) (fun e22 σ21x => some (.inr e22, σ21x))) else none := (exec_eq PP (d + 8) 209 0 _ _ σ).trans rfl
set_option maxRecDepth 20000 in
theorem e_209_9 (d : Nat) (a0 : Nat) (σ : SH) : exec PP (d + 8) 209 9 [some (.ref a0)] [] σ =
  if sT σ a0 = 112 then (onI (rn 199 [.ref a0, .ref 147] σ) (fun x23 σ21 =>
  if (x23 = 0 : Prop) then (exec PP (d + 8) 209 37 [some (.ref a0)] [] σ21)
    else (if sT σ21 a0 = 112 then (onI (exec PP (d + 7) 210 0 (lcl PP 210 [.ref a0]) [] σ21) (fun x26 σ24 =>
      if (x26 = 0 : Prop) then (some (.inl (some (.int 0)), σ24))
        else (exec PP (d + 8) 209 27 [some (.ref a0)] [] σ24)) (fun e25 σ24x => some (.inr e25, σ24x))) else none)) (fun e22 σ21x => some (.inr e22, σ21x))) else none := (exec_eq PP (d + 8) 209 9 _ _ σ).trans rfl
set_option maxRecDepth 20000 in
theorem e_209_37 (d : Nat) (o0 : Option Value) (σ : SH) : exec PP (d + 8) 209 37 [o0] [] σ =
  some (.inl (some (.int 1)), σ) := (exec_eq PP (d + 8) 209 37 _ _ σ).trans rfl
set_option maxRecDepth 20000 in
theorem e_209_27 (d : Nat) (a0 : Nat) (σ : SH) : exec PP (d + 8) 209 27 [some (.ref a0)] [] σ =
  if sT σ a0 = 112 then (onV (rn 212 [.ref a0, .int 13, .int 0] σ) (fun σ21 =>
  exec PP (d + 8) 209 9 [some (.ref a0)] [] σ21) (fun e22 σ21x => some (.inr e22, σ21x))) else none := (exec_eq PP (d + 8) 209 27 _ _ σ).trans rfl

/-! 210: ArchEndsModel.readAtom()Z -/
set_option maxRecDepth 20000 in
theorem r_210 (d : Nat) (a0 : Nat) (σ : SH) : exec PP (d + 8) 210 0 (lcl PP 210 [.ref a0]) [] σ =
  if sT σ a0 = 112 then (onI (rn 211 [.ref a0, .int 40] σ) (fun x23 σ21 =>
  if (x23 = 0 : Prop) then (exec PP (d + 8) 210 56 [some (.ref a0), none] [] σ21)
    else (gI σ21 112 13 (.ref a0) fun x24 =>
      if (x24 = 6 : Prop) then (some (.inl (some (.int 0)), σ21))
      else (exec PP (d + 8) 210 20 [some (.ref a0), none] [] σ21))) (fun e22 σ21x => some (.inr e22, σ21x))) else none := (exec_eq PP (d + 8) 210 0 _ _ σ).trans rfl
set_option maxRecDepth 20000 in
theorem e_210_56 (d : Nat) (a0 : Nat) (o1 : Option Value) (σ : SH) : exec PP (d + 8) 210 56 [some (.ref a0), o1] [] σ =
  if sT σ a0 = 112 then (onI (rn 199 [.ref a0, .ref 138] σ) (fun x23 σ21 =>
  if (x23 = 0 : Prop) then (exec PP (d + 8) 210 114 [some (.ref a0), none] [] σ21)
    else (gI σ21 112 13 (.ref a0) fun x24 =>
      if (x24 = 6 : Prop) then (some (.inl (some (.int 0)), σ21))
      else (exec PP (d + 8) 210 76 [some (.ref a0), none] [] σ21))) (fun e22 σ21x => some (.inr e22, σ21x))) else none := (exec_eq PP (d + 8) 210 56 _ _ σ).trans rfl
set_option maxRecDepth 20000 in
theorem e_210_20 (d : Nat) (a0 : Nat) (o1 : Option Value) (σ : SH) : exec PP (d + 8) 210 20 [some (.ref a0), o1] [] σ =
  gI σ 112 13 (.ref a0) fun x21 =>
  pI σ 112 13 (.ref a0) (x21 + 1) fun σ22 =>
  if sT σ22 a0 = 112 then (onI (exec PP (d + 7) 208 0 (lcl PP 208 [.ref a0]) [] σ22) (fun x25 σ23 =>
  if (x25 = 0 : Prop) then (some (.inl (some (.int 0)), σ23))
    else (exec PP (d + 8) 210 39 [some (.ref a0), none] [] σ23)) (fun e24 σ23x => some (.inr e24, σ23x))) else none := (exec_eq PP (d + 8) 210 20 _ _ σ).trans rfl
set_option maxRecDepth 20000 in
theorem e_210_114 (d : Nat) (a0 : Nat) (o1 : Option Value) (σ : SH) : exec PP (d + 8) 210 114 [some (.ref a0), o1] [] σ =
  if sT σ a0 = 112 then (onI (rn 213 [.ref a0] σ) (fun x23 σ21 =>
  if (x23 = 0 : Prop) then (exec PP (d + 8) 210 123 [some (.ref a0), none] [] σ21)
    else (some (.inl (some (.int 1)), σ21))) (fun e22 σ21x => some (.inr e22, σ21x))) else none := (exec_eq PP (d + 8) 210 114 _ _ σ).trans rfl
set_option maxRecDepth 20000 in
theorem e_210_76 (d : Nat) (a0 : Nat) (o1 : Option Value) (σ : SH) : exec PP (d + 8) 210 76 [some (.ref a0), o1] [] σ =
  gI σ 112 13 (.ref a0) fun x21 =>
  pI σ 112 13 (.ref a0) (x21 + 1) fun σ22 =>
  if sT σ22 a0 = 112 then (onI (exec PP (d + 7) 210 0 (lcl PP 210 [.ref a0]) [] σ22) (fun x25 σ23 =>
  if (x25 = 0 : Prop) then (some (.inl (some (.int 0)), σ23))
    else (exec PP (d + 8) 210 95 [some (.ref a0), none] [] σ23)) (fun e24 σ23x => some (.inr e24, σ23x))) else none := (exec_eq PP (d + 8) 210 76 _ _ σ).trans rfl
set_option maxRecDepth 20000 in
theorem e_210_39 (d : Nat) (a0 : Nat) (o1 : Option Value) (σ : SH) : exec PP (d + 8) 210 39 [some (.ref a0), o1] [] σ =
  gI σ 112 13 (.ref a0) fun x21 =>
  pI σ 112 13 (.ref a0) (x21 - 1) fun σ22 =>
  if sT σ22 a0 = 112 then (onI (rn 211 [.ref a0, .int 41] σ22) (fun x25 σ23 =>
  if x25 = 0 ∨ x25 = 1 then some (.inl (some (.int x25)), σ23) else none) (fun e24 σ23x => some (.inr e24, σ23x))) else none := (exec_eq PP (d + 8) 210 39 _ _ σ).trans rfl
set_option maxRecDepth 20000 in
theorem e_210_123 (d : Nat) (a0 : Nat) (o1 : Option Value) (σ : SH) : exec PP (d + 8) 210 123 [some (.ref a0), o1] [] σ =
  if sT σ a0 = 112 then (onI (rn 214 [.ref a0] σ) (fun x23 σ21 =>
  if (x23 = 0 : Prop) then (some (.inl (some (.int 0)), σ21))
    else (exec PP (d + 8) 210 132 [some (.ref a0), none] [] σ21)) (fun e22 σ21x => some (.inr e22, σ21x))) else none := (exec_eq PP (d + 8) 210 123 _ _ σ).trans rfl
set_option maxRecDepth 20000 in
theorem e_210_95 (d : Nat) (a0 : Nat) (o1 : Option Value) (σ : SH) : exec PP (d + 8) 210 95 [some (.ref a0), o1] [] σ =
  gI σ 112 13 (.ref a0) fun x21 =>
  pI σ 112 13 (.ref a0) (x21 - 1) fun σ22 =>
  if sT σ22 a0 = 112 then (onV (rn 212 [.ref a0, .int 12, .int 0] σ22) (fun σ23 =>
  some (.inl (some (.int 1)), σ23)) (fun e24 σ23x => some (.inr e24, σ23x))) else none := (exec_eq PP (d + 8) 210 95 _ _ σ).trans rfl
set_option maxRecDepth 20000 in
theorem e_210_132 (d : Nat) (a0 : Nat) (o1 : Option Value) (σ : SH) : exec PP (d + 8) 210 132 [some (.ref a0), o1] [] σ =
  if sT σ a0 = 112 then (onI (rn 211 [.ref a0, .int 60] σ) (fun x23 σ21 =>
  if (x23 = 0 : Prop) then (if sT σ21 a0 = 112 then (onI (rn 211 [.ref a0, .int 62] σ21) (fun x26 σ24 =>
      if (x26 = 0 : Prop) then (exec PP (d + 8) 210 159 [some (.ref a0), some (.int x23)] [] σ24)
        else (if sT σ24 a0 = 112 then (onI (rn 214 [.ref a0] σ24) (fun x29 σ27 =>
          if (x29 = 0 : Prop) then (some (.inl (some (.int 0)), σ27))
            else (exec PP (d + 8) 210 161 [some (.ref a0), some (.int x23)] [] σ27)) (fun e28 σ27x => some (.inr e28, σ27x))) else none)) (fun e25 σ24x => some (.inr e25, σ24x))) else none)
    else (exec PP (d + 8) 210 152 [some (.ref a0), some (.int x23)] [] σ21)) (fun e22 σ21x => some (.inr e22, σ21x))) else none := (exec_eq PP (d + 8) 210 132 _ _ σ).trans rfl
set_option maxRecDepth 20000 in
theorem e_210_152 (d : Nat) (a0 : Nat) (x1 : Int32) (σ : SH) : exec PP (d + 8) 210 152 [some (.ref a0), some (.int x1)] [] σ =
  if sT σ a0 = 112 then (onI (rn 214 [.ref a0] σ) (fun x23 σ21 =>
  if (x23 = 0 : Prop) then (some (.inl (some (.int 0)), σ21))
    else (exec PP (d + 8) 210 161 [some (.ref a0), some (.int x1)] [] σ21)) (fun e22 σ21x => some (.inr e22, σ21x))) else none := (exec_eq PP (d + 8) 210 152 _ _ σ).trans rfl
set_option maxRecDepth 20000 in
theorem e_210_159 (d : Nat) (o0 : Option Value) (o1 : Option Value) (σ : SH) : exec PP (d + 8) 210 159 [o0, o1] [] σ =
  some (.inl (some (.int 0)), σ) := (exec_eq PP (d + 8) 210 159 _ _ σ).trans rfl
set_option maxRecDepth 20000 in
theorem e_210_161 (d : Nat) (a0 : Nat) (x1 : Int32) (σ : SH) : exec PP (d + 8) 210 161 [some (.ref a0), some (.int x1)] [] σ =
  if (x1 = 0 : Prop) then (exec PP (d + 8) 210 171 [some (.ref a0), some (.int x1)] [.ref a0] σ)
  else (exec PP (d + 8) 210 173 [some (.ref a0), some (.int x1)] [.int 10, .ref a0] σ) := (exec_eq PP (d + 8) 210 161 _ _ σ).trans rfl
set_option maxRecDepth 20000 in
theorem e_210_171 (d : Nat) (o0 : Option Value) (o1 : Option Value) (b0 : Nat) (σ : SH) : exec PP (d + 8) 210 171 [o0, o1] [.ref b0] σ =
  if sT σ b0 = 112 then (onV (rn 212 [.ref b0, .int 11, .int 0] σ) (fun σ21 =>
  some (.inl (some (.int 1)), σ21)) (fun e22 σ21x => some (.inr e22, σ21x))) else none := (exec_eq PP (d + 8) 210 171 _ _ σ).trans rfl
set_option maxRecDepth 20000 in
theorem e_210_173 (d : Nat) (o0 : Option Value) (o1 : Option Value) (w0 : Int32) (b1 : Nat) (σ : SH) : exec PP (d + 8) 210 173 [o0, o1] [.int w0, .ref b1] σ =
  if sT σ b1 = 112 then (onV (rn 212 [.ref b1, .int w0, .int 0] σ) (fun σ21 =>
  some (.inl (some (.int 1)), σ21)) (fun e22 σ21x => some (.inr e22, σ21x))) else none := (exec_eq PP (d + 8) 210 173 _ _ σ).trans rfl

/-! 211: ArchEndsModel.sign(I)Z -/
set_option maxRecDepth 20000 in
theorem r_211 (a0 : Nat) (x1 : Int32) (σ : SH) : rn 211 [.ref a0, .int x1] σ =
  if sT σ a0 = 112 then (onV (rn 188 [.ref a0] σ) (fun σ21 =>
  if sT σ21 a0 = 112 then (onI (rn 189 [.ref a0, .int x1, .int x1] σ21) (fun x25 σ23 =>
    if (x25 = 0 : Prop) then (some (.inl (some (.int 0)), σ23))
      else (exec PP 3 211 15 [some (.ref a0), some (.int x1)] [] σ23)) (fun e24 σ23x => some (.inr e24, σ23x))) else none) (fun e22 σ21x => some (.inr e22, σ21x))) else none := (exec_eq PP 3 211 0 _ _ σ).trans rfl
set_option maxRecDepth 20000 in
theorem e_211_15 (a0 : Nat) (o1 : Option Value) (σ : SH) : exec PP 3 211 15 [some (.ref a0), o1] [] σ =
  gI σ 112 10 (.ref a0) fun x21 =>
  pI σ 112 10 (.ref a0) (x21 + 1) fun σ22 =>
  some (.inl (some (.int 1)), σ22) := (exec_eq PP 3 211 15 _ _ σ).trans rfl

/-! 212: ArchEndsModel.emits(II)V -/
set_option maxRecDepth 20000 in
theorem r_212 (a0 : Nat) (x1 : Int32) (x2 : Int32) (σ : SH) : rn 212 [.ref a0, .int x1, .int x2] σ =
  gR σ 112 1 (.ref a0) fun a21 =>
  gI σ 112 16 (.ref a0) fun x22 =>
  uI σ (.ref a21) (1261 + (2 * x22)) x1 fun σ23 =>
  gR σ23 112 1 (.ref a0) fun a24 =>
  gI σ23 112 16 (.ref a0) fun x25 =>
  uI σ23 (.ref a24) ((1261 + (2 * x25)) + 1) x2 fun σ26 =>
  gI σ26 112 16 (.ref a0) fun x27 =>
  pI σ26 112 16 (.ref a0) (x27 + 1) fun σ28 =>
  some (.inl none, σ28) := (exec_eq PP 1 212 0 _ _ σ).trans rfl

/-! 213: ArchEndsModel.readTag()Z -/
set_option maxRecDepth 20000 in
theorem r_213 (a0 : Nat) (σ : SH) : rn 213 [.ref a0] σ =
  if sT σ a0 = 112 then (onV (rn 191 [.ref a0] σ) (fun σ21 =>
  if sT σ21 a0 = 112 then (onI (rn 193 [.ref a0, .ref 139] σ21) (fun x25 σ23 =>
    if (x25 = 0 : Prop) then (exec PP 6 213 18 [some (.ref a0), none] [] σ23)
      else (exec PP 6 213 33 [some (.ref a0), none] [.int 6] σ23)) (fun e24 σ23x => some (.inr e24, σ23x))) else none) (fun e22 σ21x => some (.inr e22, σ21x))) else none := (exec_eq PP 6 213 0 _ _ σ).trans rfl
set_option maxRecDepth 20000 in
theorem e_213_18 (a0 : Nat) (o1 : Option Value) (σ : SH) : exec PP 6 213 18 [some (.ref a0), o1] [] σ =
  if sT σ a0 = 112 then (onI (rn 193 [.ref a0, .ref 140] σ) (fun x23 σ21 =>
  if (x23 = 0 : Prop) then (exec PP 6 213 32 [some (.ref a0), none] [] σ21)
    else (exec PP 6 213 33 [some (.ref a0), none] [.int 7] σ21)) (fun e22 σ21x => some (.inr e22, σ21x))) else none := (exec_eq PP 6 213 18 _ _ σ).trans rfl
set_option maxRecDepth 20000 in
theorem e_213_33 (a0 : Nat) (o1 : Option Value) (w0 : Int32) (σ : SH) : exec PP 6 213 33 [some (.ref a0), o1] [.int w0] σ =
  if (w0 < 0 : Prop) then (exec PP 6 213 47 [some (.ref a0), some (.int w0)] [] σ)
  else (if sT σ a0 = 112 then (onV (rn 212 [.ref a0, .int w0, .int 0] σ) (fun σ21 =>
    exec PP 6 213 55 [some (.ref a0), some (.int w0)] [] σ21) (fun e22 σ21x => some (.inr e22, σ21x))) else none) := (exec_eq PP 6 213 33 _ _ σ).trans rfl
set_option maxRecDepth 20000 in
theorem e_213_32 (a0 : Nat) (o1 : Option Value) (σ : SH) : exec PP 6 213 32 [some (.ref a0), o1] [] σ =
  if (((-1) : Int32) < 0 : Prop) then (exec PP 6 213 47 [some (.ref a0), some (.int (-1))] [] σ)
  else (if sT σ a0 = 112 then (onV (rn 212 [.ref a0, .int (-1), .int 0] σ) (fun σ21 =>
    exec PP 6 213 55 [some (.ref a0), some (.int (-1))] [] σ21) (fun e22 σ21x => some (.inr e22, σ21x))) else none) := (exec_eq PP 6 213 32 _ _ σ).trans rfl
set_option maxRecDepth 20000 in
theorem e_213_47 (a0 : Nat) (x1 : Int32) (σ : SH) : exec PP 6 213 47 [some (.ref a0), some (.int x1)] [] σ =
  gI σ 112 12 (.ref a0) fun x21 =>
  pI σ 112 10 (.ref a0) x21 fun σ22 =>
  if (x1 < 0 : Prop) then (exec PP 6 213 63 [none, some (.int x1)] [] σ22)
  else (exec PP 6 213 64 [none, some (.int x1)] [.int 1] σ22) := (exec_eq PP 6 213 47 _ _ σ).trans rfl
set_option maxRecDepth 20000 in
theorem e_213_55 (o0 : Option Value) (x1 : Int32) (σ : SH) : exec PP 6 213 55 [o0, some (.int x1)] [] σ =
  if (x1 < 0 : Prop) then (exec PP 6 213 63 [none, some (.int x1)] [] σ)
  else (exec PP 6 213 64 [none, some (.int x1)] [.int 1] σ) := (exec_eq PP 6 213 55 _ _ σ).trans rfl
set_option maxRecDepth 20000 in
theorem e_213_63 (o0 : Option Value) (o1 : Option Value) (σ : SH) : exec PP 6 213 63 [o0, o1] [] σ =
  some (.inl (some (.int 0)), σ) := (exec_eq PP 6 213 63 _ _ σ).trans rfl
set_option maxRecDepth 20000 in
theorem e_213_64 (o0 : Option Value) (o1 : Option Value) (w0 : Int32) (σ : SH) : exec PP 6 213 64 [o0, o1] [.int w0] σ =
  if w0 = 0 ∨ w0 = 1 then some (.inl (some (.int w0)), σ) else none := (exec_eq PP 6 213 64 _ _ σ).trans rfl

/-! 214: ArchEndsModel.readSum()Z -/
set_option maxRecDepth 20000 in
theorem r_214 (a0 : Nat) (σ : SH) : rn 214 [.ref a0] σ =
  if sT σ a0 = 112 then (onI (rn 215 [.ref a0] σ) (fun x23 σ21 =>
  if (x23 = 0 : Prop) then (some (.inl (some (.int 0)), σ21))
    else (exec PP 7 214 9 [some (.ref a0)] [] σ21)) (fun e22 σ21x => some (.inr e22, σ21x))) else none := (exec_eq PP 7 214 0 _ _ σ).trans rfl
set_option maxRecDepth 20000 in
theorem e_214_9 (a0 : Nat) (σ : SH) : exec PP 7 214 9 [some (.ref a0)] [] σ =
  if sT σ a0 = 112 then (onI (rn 211 [.ref a0, .int 43] σ) (fun x23 σ21 =>
  if (x23 = 0 : Prop) then (exec PP 7 214 37 [some (.ref a0)] [] σ21)
    else (if sT σ21 a0 = 112 then (onI (rn 215 [.ref a0] σ21) (fun x26 σ24 =>
      if (x26 = 0 : Prop) then (some (.inl (some (.int 0)), σ24))
        else (exec PP 7 214 27 [some (.ref a0)] [] σ24)) (fun e25 σ24x => some (.inr e25, σ24x))) else none)) (fun e22 σ21x => some (.inr e22, σ21x))) else none := (exec_eq PP 7 214 9 _ _ σ).trans rfl
set_option maxRecDepth 20000 in
theorem e_214_37 (o0 : Option Value) (σ : SH) : exec PP 7 214 37 [o0] [] σ =
  some (.inl (some (.int 1)), σ) := (exec_eq PP 7 214 37 _ _ σ).trans rfl
set_option maxRecDepth 20000 in
theorem e_214_27 (a0 : Nat) (σ : SH) : exec PP 7 214 27 [some (.ref a0)] [] σ =
  if sT σ a0 = 112 then (onV (rn 212 [.ref a0, .int 9, .int 0] σ) (fun σ21 =>
  exec PP 7 214 9 [some (.ref a0)] [] σ21) (fun e22 σ21x => some (.inr e22, σ21x))) else none := (exec_eq PP 7 214 27 _ _ σ).trans rfl

/-! 215: ArchEndsModel.readPart()Z -/
set_option maxRecDepth 20000 in
theorem r_215 (a0 : Nat) (σ : SH) : rn 215 [.ref a0] σ =
  if sT σ a0 = 112 then (onV (rn 191 [.ref a0] σ) (fun σ21 =>
  gI σ21 112 10 (.ref a0) fun x23 =>
    gI σ21 112 12 (.ref a0) fun x24 =>
    if (x23 = x24 : Prop) then (if sT σ21 a0 = 112 then (onI (rn 196 [.ref a0, .int 0, .int 999] σ21) (fun x27 σ25 =>
      if sT σ25 a0 = 112 then (onV (rn 212 [.ref a0, .int 8, .int x27] σ25) (fun σ28 =>
        exec PP 6 215 120 [some (.ref a0), some (.int x27)] [] σ28) (fun e29 σ28x => some (.inr e29, σ28x))) else none) (fun e26 σ25x => some (.inr e26, σ25x))) else none)
    else (exec PP 6 215 34 [some (.ref a0), none] [] σ21)) (fun e22 σ21x => some (.inr e22, σ21x))) else none := (exec_eq PP 6 215 0 _ _ σ).trans rfl
set_option maxRecDepth 20000 in
theorem e_215_34 (a0 : Nat) (o1 : Option Value) (σ : SH) : exec PP 6 215 34 [some (.ref a0), o1] [] σ =
  if sT σ a0 = 112 then (onI (rn 193 [.ref a0, .ref 141] σ) (fun x23 σ21 =>
  if (x23 = 0 : Prop) then (exec PP 6 215 47 [some (.ref a0), none] [] σ21)
    else (exec PP 6 215 113 [some (.ref a0), none] [.int 0] σ21)) (fun e22 σ21x => some (.inr e22, σ21x))) else none := (exec_eq PP 6 215 34 _ _ σ).trans rfl
set_option maxRecDepth 20000 in
theorem e_215_120 (o0 : Option Value) (x1 : Int32) (σ : SH) : exec PP 6 215 120 [o0, some (.int x1)] [] σ =
  if (x1 < 0 : Prop) then (exec PP 6 215 128 [none, some (.int x1)] [] σ)
  else (exec PP 6 215 129 [none, some (.int x1)] [.int 1] σ) := (exec_eq PP 6 215 120 _ _ σ).trans rfl
set_option maxRecDepth 20000 in
theorem e_215_47 (a0 : Nat) (o1 : Option Value) (σ : SH) : exec PP 6 215 47 [some (.ref a0), o1] [] σ =
  if sT σ a0 = 112 then (onI (rn 193 [.ref a0, .ref 142] σ) (fun x23 σ21 =>
  if (x23 = 0 : Prop) then (exec PP 6 215 60 [some (.ref a0), none] [] σ21)
    else (exec PP 6 215 113 [some (.ref a0), none] [.int 1] σ21)) (fun e22 σ21x => some (.inr e22, σ21x))) else none := (exec_eq PP 6 215 47 _ _ σ).trans rfl
set_option maxRecDepth 20000 in
theorem e_215_113 (a0 : Nat) (o1 : Option Value) (w0 : Int32) (σ : SH) : exec PP 6 215 113 [some (.ref a0), o1] [.int w0] σ =
  if sT σ a0 = 112 then (onV (rn 212 [.ref a0, .int w0, .int 0] σ) (fun σ21 =>
  if (w0 < 0 : Prop) then (exec PP 6 215 128 [none, some (.int w0)] [] σ21)
    else (exec PP 6 215 129 [none, some (.int w0)] [.int 1] σ21)) (fun e22 σ21x => some (.inr e22, σ21x))) else none := (exec_eq PP 6 215 113 _ _ σ).trans rfl
set_option maxRecDepth 20000 in
theorem e_215_128 (o0 : Option Value) (o1 : Option Value) (σ : SH) : exec PP 6 215 128 [o0, o1] [] σ =
  some (.inl (some (.int 0)), σ) := (exec_eq PP 6 215 128 _ _ σ).trans rfl
set_option maxRecDepth 20000 in
theorem e_215_129 (o0 : Option Value) (o1 : Option Value) (w0 : Int32) (σ : SH) : exec PP 6 215 129 [o0, o1] [.int w0] σ =
  if w0 = 0 ∨ w0 = 1 then some (.inl (some (.int w0)), σ) else none := (exec_eq PP 6 215 129 _ _ σ).trans rfl
set_option maxRecDepth 20000 in
theorem e_215_60 (a0 : Nat) (o1 : Option Value) (σ : SH) : exec PP 6 215 60 [some (.ref a0), o1] [] σ =
  if sT σ a0 = 112 then (onI (rn 193 [.ref a0, .ref 143] σ) (fun x23 σ21 =>
  if (x23 = 0 : Prop) then (exec PP 6 215 73 [some (.ref a0), none] [] σ21)
    else (exec PP 6 215 113 [some (.ref a0), none] [.int 2] σ21)) (fun e22 σ21x => some (.inr e22, σ21x))) else none := (exec_eq PP 6 215 60 _ _ σ).trans rfl
set_option maxRecDepth 20000 in
theorem e_215_73 (a0 : Nat) (o1 : Option Value) (σ : SH) : exec PP 6 215 73 [some (.ref a0), o1] [] σ =
  if sT σ a0 = 112 then (onI (rn 193 [.ref a0, .ref 144] σ) (fun x23 σ21 =>
  if (x23 = 0 : Prop) then (exec PP 6 215 86 [some (.ref a0), none] [] σ21)
    else (exec PP 6 215 113 [some (.ref a0), none] [.int 3] σ21)) (fun e22 σ21x => some (.inr e22, σ21x))) else none := (exec_eq PP 6 215 73 _ _ σ).trans rfl
set_option maxRecDepth 20000 in
theorem e_215_86 (a0 : Nat) (o1 : Option Value) (σ : SH) : exec PP 6 215 86 [some (.ref a0), o1] [] σ =
  if sT σ a0 = 112 then (onI (rn 193 [.ref a0, .ref 145] σ) (fun x23 σ21 =>
  if (x23 = 0 : Prop) then (exec PP 6 215 99 [some (.ref a0), none] [] σ21)
    else (exec PP 6 215 113 [some (.ref a0), none] [.int 4] σ21)) (fun e22 σ21x => some (.inr e22, σ21x))) else none := (exec_eq PP 6 215 86 _ _ σ).trans rfl
set_option maxRecDepth 20000 in
theorem e_215_99 (a0 : Nat) (o1 : Option Value) (σ : SH) : exec PP 6 215 99 [some (.ref a0), o1] [] σ =
  if sT σ a0 = 112 then (onI (rn 193 [.ref a0, .ref 146] σ) (fun x23 σ21 =>
  if (x23 = 0 : Prop) then (exec PP 6 215 112 [some (.ref a0), none] [] σ21)
    else (exec PP 6 215 113 [some (.ref a0), none] [.int 5] σ21)) (fun e22 σ21x => some (.inr e22, σ21x))) else none := (exec_eq PP 6 215 99 _ _ σ).trans rfl
set_option maxRecDepth 20000 in
theorem e_215_112 (a0 : Nat) (o1 : Option Value) (σ : SH) : exec PP 6 215 112 [some (.ref a0), o1] [] σ =
  if sT σ a0 = 112 then (onV (rn 212 [.ref a0, .int (-1), .int 0] σ) (fun σ21 =>
  if (((-1) : Int32) < 0 : Prop) then (exec PP 6 215 128 [none, some (.int (-1))] [] σ21)
    else (exec PP 6 215 129 [none, some (.int (-1))] [.int 1] σ21)) (fun e22 σ21x => some (.inr e22, σ21x))) else none := (exec_eq PP 6 215 112 _ _ σ).trans rfl

/-! 216: ArchEndsModel.throwsIf(ZI)Z -/
set_option maxRecDepth 20000 in
theorem r_216 (a0 : Nat) (x1 : Int32) (x2 : Int32) (σ : SH) : rn 216 [.ref a0, .int x1, .int x2] σ =
  if (x1 = 0 : Prop) then (exec PP 1 216 9 [some (.ref a0), some (.int x1), some (.int x2)] [] σ)
  else (pI σ 112 0 (.ref a0) x2 fun σ21 =>
    if x1 = 0 ∨ x1 = 1 then some (.inl (some (.int x1)), σ21) else none) := (exec_eq PP 1 216 0 _ _ σ).trans rfl
set_option maxRecDepth 20000 in
theorem e_216_9 (o0 : Option Value) (x1 : Int32) (o2 : Option Value) (σ : SH) : exec PP 1 216 9 [o0, some (.int x1), o2] [] σ =
  if x1 = 0 ∨ x1 = 1 then some (.inl (some (.int x1)), σ) else none := (exec_eq PP 1 216 9 _ _ σ).trans rfl

/-! 217: ArchEndsModel.law()I -/
set_option maxRecDepth 20000 in
theorem r_217 (a0 : Nat) (σ : SH) : rn 217 [.ref a0] σ =
  if sT σ a0 = 112 then (onI (rn 186 [.ref a0, .int 0] σ) (fun x23 σ21 =>
  if (x23 < 0 : Prop) then (gI σ21 112 12 (.ref a0) fun x24 =>
      exec PP 64 217 19 [some (.ref a0), some (.int x23), none] [.int x24, .ref a0] σ21)
    else (exec PP 64 217 18 [some (.ref a0), some (.int x23), none] [.ref a0] σ21)) (fun e22 σ21x => some (.inr e22, σ21x))) else none := (exec_eq PP 64 217 0 _ _ σ).trans rfl
set_option maxRecDepth 20000 in
theorem e_217_18 (a0 : Nat) (x1 : Int32) (o2 : Option Value) (b0 : Nat) (σ : SH) : exec PP 64 217 18 [some (.ref a0), some (.int x1), o2] [.ref b0] σ =
  pI σ 112 14 (.ref b0) (-1) fun σ21 =>
  if (x1 < 0 : Prop) then (exec PP 64 217 32 [some (.ref a0), some (.int x1), none] [.int 1, .ref a0] σ21)
  else (exec PP 64 217 31 [some (.ref a0), some (.int x1), none] [.ref a0] σ21) := (exec_eq PP 64 217 18 _ _ σ).trans rfl
set_option maxRecDepth 20000 in
theorem e_217_19 (a0 : Nat) (x1 : Int32) (o2 : Option Value) (w0 : Int32) (b1 : Nat) (σ : SH) : exec PP 64 217 19 [some (.ref a0), some (.int x1), o2] [.int w0, .ref b1] σ =
  pI σ 112 14 (.ref b1) w0 fun σ21 =>
  if (x1 < 0 : Prop) then (exec PP 64 217 32 [some (.ref a0), some (.int x1), none] [.int 1, .ref a0] σ21)
  else (exec PP 64 217 31 [some (.ref a0), some (.int x1), none] [.ref a0] σ21) := (exec_eq PP 64 217 19 _ _ σ).trans rfl
set_option maxRecDepth 20000 in
theorem e_217_31 (a0 : Nat) (x1 : Int32) (o2 : Option Value) (b0 : Nat) (σ : SH) : exec PP 64 217 31 [some (.ref a0), some (.int x1), o2] [.ref b0] σ =
  if sT σ b0 = 112 then (onI (rn 216 [.ref b0, .int 0, .int 1] σ) (fun x23 σ21 =>
  if (x23 = 0 : Prop) then (exec PP 64 217 41 [some (.ref a0), some (.int x1), none] [] σ21)
    else (some (.inl (some (.int 0)), σ21))) (fun e22 σ21x => some (.inr e22, σ21x))) else none := (exec_eq PP 64 217 31 _ _ σ).trans rfl
set_option maxRecDepth 20000 in
theorem e_217_32 (a0 : Nat) (x1 : Int32) (o2 : Option Value) (w0 : Int32) (b1 : Nat) (σ : SH) : exec PP 64 217 32 [some (.ref a0), some (.int x1), o2] [.int w0, .ref b1] σ =
  if sT σ b1 = 112 then (onI (rn 216 [.ref b1, .int w0, .int 1] σ) (fun x23 σ21 =>
  if (x23 = 0 : Prop) then (exec PP 64 217 41 [some (.ref a0), some (.int x1), none] [] σ21)
    else (some (.inl (some (.int 0)), σ21))) (fun e22 σ21x => some (.inr e22, σ21x))) else none := (exec_eq PP 64 217 32 _ _ σ).trans rfl
set_option maxRecDepth 20000 in
theorem e_217_41 (a0 : Nat) (x1 : Int32) (o2 : Option Value) (σ : SH) : exec PP 64 217 41 [some (.ref a0), some (.int x1), o2] [] σ =
  gR σ 112 1 (.ref a0) fun a21 =>
  uI σ (.ref a21) 1212 x1 fun σ22 =>
  exec PP 64 217 52 [some (.ref a0), some (.int x1), some (.int 0)] [] σ22 := (exec_eq PP 64 217 41 _ _ σ).trans rfl
set_option maxRecDepth 20000 in
theorem e_217_52 (a0 : Nat) (x1 : Int32) (x2 : Int32) (σ : SH) : exec PP 64 217 52 [some (.ref a0), some (.int x1), some (.int x2)] [] σ =
  if (x2 < 849 : Prop) then (gR σ 112 1 (.ref a0) fun a21 =>
    gR σ 112 1 (.ref a0) fun a22 =>
    aI σ 1 (.ref a22) (1212 + x2) fun x23 =>
    uI σ (.ref a21) (363 + x2) x23 fun σ24 =>
    exec PP 64 217 52 [some (.ref a0), some (.int x1), some (.int (x2 + 1))] [] σ24)
  else (exec PP 64 217 85 [some (.ref a0), some (.int x1), some (.int x2)] [] σ) := (exec_eq PP 64 217 52 _ _ σ).trans rfl
set_option maxRecDepth 20000 in
theorem e_217_85 (a0 : Nat) (x1 : Int32) (o2 : Option Value) (σ : SH) : exec PP 64 217 85 [some (.ref a0), some (.int x1), o2] [] σ =
  gR σ 112 1 (.ref a0) fun a21 =>
  uI σ (.ref a21) 4 1 fun σ22 =>
  pI σ22 112 7 (.ref a0) 0 fun σ23 =>
  some (.inl (some (.int x1)), σ23) := (exec_eq PP 64 217 85 _ _ σ).trans rfl

/-! 218: ArchEndsModel.shower(II)I -/
set_option maxRecDepth 20000 in
theorem r_218 (a0 : Nat) (x1 : Int32) (x2 : Int32) (σ : SH) : rn 218 [.ref a0, .int x1, .int x2] σ =
  pI σ 112 0 (.ref a0) 0 fun σ21 =>
  if sT σ21 a0 = 112 then (onI (rn 219 [.ref a0, .int x1] σ21) (fun x24 σ22 =>
  if sT σ22 a0 = 112 then (onI (rn 216 [.ref a0, .int x24, .int 1] σ22) (fun x27 σ25 =>
    if (x27 = 0 : Prop) then (onI (rn 220 [.int x2, .int 0, .int 6] σ25) (fun x30 σ28 =>
        if (x30 = 0 : Prop) then (exec PP 3 218 34 [some (.ref a0), some (.int x1), some (.int x2)] [.int 1, .ref a0] σ28)
          else (exec PP 3 218 33 [some (.ref a0), some (.int x1), some (.int x2)] [.ref a0] σ28)) (fun e29 σ28x => some (.inr e29, σ28x)))
      else (exec PP 3 218 41 [some (.ref a0), some (.int x1), some (.int x2)] [] σ25)) (fun e26 σ25x => some (.inr e26, σ25x))) else none) (fun e23 σ22x => some (.inr e23, σ22x))) else none := (exec_eq PP 3 218 0 _ _ σ).trans rfl
set_option maxRecDepth 20000 in
theorem e_218_41 (o0 : Option Value) (o1 : Option Value) (o2 : Option Value) (σ : SH) : exec PP 3 218 41 [o0, o1, o2] [] σ =
  some (.inl (some (.int 0)), σ) := (exec_eq PP 3 218 41 _ _ σ).trans rfl
set_option maxRecDepth 20000 in
theorem e_218_33 (a0 : Nat) (x1 : Int32) (x2 : Int32) (b0 : Nat) (σ : SH) : exec PP 3 218 33 [some (.ref a0), some (.int x1), some (.int x2)] [.ref b0] σ =
  if sT σ b0 = 112 then (onI (rn 216 [.ref b0, .int 0, .int 2] σ) (fun x23 σ21 =>
  if (x23 = 0 : Prop) then (exec PP 3 218 43 [some (.ref a0), some (.int x1), some (.int x2)] [] σ21)
    else (some (.inl (some (.int 0)), σ21))) (fun e22 σ21x => some (.inr e22, σ21x))) else none := (exec_eq PP 3 218 33 _ _ σ).trans rfl
set_option maxRecDepth 20000 in
theorem e_218_34 (a0 : Nat) (x1 : Int32) (x2 : Int32) (w0 : Int32) (b1 : Nat) (σ : SH) : exec PP 3 218 34 [some (.ref a0), some (.int x1), some (.int x2)] [.int w0, .ref b1] σ =
  if sT σ b1 = 112 then (onI (rn 216 [.ref b1, .int w0, .int 2] σ) (fun x23 σ21 =>
  if (x23 = 0 : Prop) then (exec PP 3 218 43 [some (.ref a0), some (.int x1), some (.int x2)] [] σ21)
    else (some (.inl (some (.int 0)), σ21))) (fun e22 σ21x => some (.inr e22, σ21x))) else none := (exec_eq PP 3 218 34 _ _ σ).trans rfl
set_option maxRecDepth 20000 in
theorem e_218_43 (a0 : Nat) (x1 : Int32) (x2 : Int32) (σ : SH) : exec PP 3 218 43 [some (.ref a0), some (.int x1), some (.int x2)] [] σ =
  if sT σ a0 = 112 then (onI (rn 221 [.ref a0, .int x1, .int x2] σ) (fun x23 σ21 =>
  if (x2 = 4 : Prop) then (exec PP 3 218 59 [some (.ref a0), some (.int x1), some (.int x2)] [.int 2, .int x23] σ21)
    else (exec PP 3 218 58 [some (.ref a0), some (.int x1), some (.int x2)] [.int x23] σ21)) (fun e22 σ21x => some (.inr e22, σ21x))) else none := (exec_eq PP 3 218 43 _ _ σ).trans rfl
set_option maxRecDepth 20000 in
theorem e_218_58 (o0 : Option Value) (o1 : Option Value) (o2 : Option Value) (w0 : Int32) (σ : SH) : exec PP 3 218 58 [o0, o1, o2] [.int w0] σ =
  some (.inl (some (.int (w0 + 0))), σ) := (exec_eq PP 3 218 58 _ _ σ).trans rfl
set_option maxRecDepth 20000 in
theorem e_218_59 (o0 : Option Value) (o1 : Option Value) (o2 : Option Value) (w0 : Int32) (w1 : Int32) (σ : SH) : exec PP 3 218 59 [o0, o1, o2] [.int w0, .int w1] σ =
  some (.inl (some (.int (w1 + w0))), σ) := (exec_eq PP 3 218 59 _ _ σ).trans rfl

/-! 219: ArchEndsModel.noShower(I)Z -/
set_option maxRecDepth 20000 in
theorem r_219 (a0 : Nat) (x1 : Int32) (σ : SH) : rn 219 [.ref a0, .int x1] σ =
  if sT σ a0 = 112 then (onI (rn 195 [.ref a0] σ) (fun x23 σ21 =>
  onI (rn 220 [.int x1, .int 0, .int (x23 - 1)] σ21) (fun x26 σ24 =>
    if (x26 = 0 : Prop) then (exec PP 2 219 19 [some (.ref a0), some (.int x1)] [.int 1] σ24)
      else (exec PP 2 219 18 [some (.ref a0), some (.int x1)] [] σ24)) (fun e25 σ24x => some (.inr e25, σ24x))) (fun e22 σ21x => some (.inr e22, σ21x))) else none := (exec_eq PP 2 219 0 _ _ σ).trans rfl
set_option maxRecDepth 20000 in
theorem e_219_18 (o0 : Option Value) (o1 : Option Value) (σ : SH) : exec PP 2 219 18 [o0, o1] [] σ =
  some (.inl (some (.int 0)), σ) := (exec_eq PP 2 219 18 _ _ σ).trans rfl
set_option maxRecDepth 20000 in
theorem e_219_19 (o0 : Option Value) (o1 : Option Value) (w0 : Int32) (σ : SH) : exec PP 2 219 19 [o0, o1] [.int w0] σ =
  if w0 = 0 ∨ w0 = 1 then some (.inl (some (.int w0)), σ) else none := (exec_eq PP 2 219 19 _ _ σ).trans rfl

/-! 220: ArchEndsModel.in(III)Z -/
set_option maxRecDepth 20000 in
theorem r_220 (x0 : Int32) (x1 : Int32) (x2 : Int32) (σ : SH) : rn 220 [.int x0, .int x1, .int x2] σ =
  if (x0 < x1 : Prop) then (exec PP 1 220 14 [some (.int x0), some (.int x1), some (.int x2)] [] σ)
  else (if (x2 < x0 : Prop) then (exec PP 1 220 14 [some (.int x0), some (.int x1), some (.int x2)] [] σ)
    else (exec PP 1 220 15 [some (.int x0), some (.int x1), some (.int x2)] [.int 1] σ)) := (exec_eq PP 1 220 0 _ _ σ).trans rfl
set_option maxRecDepth 20000 in
theorem e_220_14 (o0 : Option Value) (o1 : Option Value) (o2 : Option Value) (σ : SH) : exec PP 1 220 14 [o0, o1, o2] [] σ =
  some (.inl (some (.int 0)), σ) := (exec_eq PP 1 220 14 _ _ σ).trans rfl
set_option maxRecDepth 20000 in
theorem e_220_15 (o0 : Option Value) (o1 : Option Value) (o2 : Option Value) (w0 : Int32) (σ : SH) : exec PP 1 220 15 [o0, o1, o2] [.int w0] σ =
  if w0 = 0 ∨ w0 = 1 then some (.inl (some (.int w0)), σ) else none := (exec_eq PP 1 220 15 _ _ σ).trans rfl

/-! 221: ArchEndsModel.ofShower(II)I -/
set_option maxRecDepth 20000 in
theorem r_221 (a0 : Nat) (x1 : Int32) (x2 : Int32) (σ : SH) : rn 221 [.ref a0, .int x1, .int x2] σ =
  gR σ 112 1 (.ref a0) fun a21 =>
  aI σ 1 (.ref a21) ((10 + (7 * x1)) + x2) fun x22 =>
  some (.inl (some (.int x22)), σ) := (exec_eq PP 1 221 0 _ _ σ).trans rfl

/-! 222: ArchEndsModel.sun(I)I -/
set_option maxRecDepth 20000 in
theorem r_222 (a0 : Nat) (x1 : Int32) (σ : SH) : rn 222 [.ref a0, .int x1] σ =
  pI σ 112 0 (.ref a0) 0 fun σ21 =>
  onI (rn 223 [.int x1] σ21) (fun x24 σ22 =>
  if sT σ22 a0 = 112 then (onI (rn 216 [.ref a0, .int x24, .int 1] σ22) (fun x27 σ25 =>
    if (x27 = 0 : Prop) then (exec PP 3 222 21 [some (.ref a0), some (.int x1)] [] σ25)
      else (exec PP 3 222 25 [some (.ref a0), some (.int x1)] [.int 0] σ25)) (fun e26 σ25x => some (.inr e26, σ25x))) else none) (fun e23 σ22x => some (.inr e23, σ22x)) := (exec_eq PP 3 222 0 _ _ σ).trans rfl
set_option maxRecDepth 20000 in
theorem e_222_21 (o0 : Option Value) (x1 : Int32) (σ : SH) : exec PP 3 222 21 [o0, some (.int x1)] [] σ =
  onI (rn 224 [.int x1] σ) (fun x23 σ21 =>
  some (.inl (some (.int x23)), σ21)) (fun e22 σ21x => some (.inr e22, σ21x)) := (exec_eq PP 3 222 21 _ _ σ).trans rfl
set_option maxRecDepth 20000 in
theorem e_222_25 (o0 : Option Value) (o1 : Option Value) (w0 : Int32) (σ : SH) : exec PP 3 222 25 [o0, o1] [.int w0] σ =
  some (.inl (some (.int w0)), σ) := (exec_eq PP 3 222 25 _ _ σ).trans rfl

/-! 223: ArchEndsModel.noMinute(I)Z -/
set_option maxRecDepth 20000 in
theorem r_223 (x0 : Int32) (σ : SH) : rn 223 [.int x0] σ =
  onI (rn 220 [.int x0, .int 0, .int 9999] σ) (fun x23 σ21 =>
  if (x23 = 0 : Prop) then (exec PP 2 223 16 [some (.int x0)] [.int 1] σ21)
    else (exec PP 2 223 15 [some (.int x0)] [] σ21)) (fun e22 σ21x => some (.inr e22, σ21x)) := (exec_eq PP 2 223 0 _ _ σ).trans rfl
set_option maxRecDepth 20000 in
theorem e_223_15 (o0 : Option Value) (σ : SH) : exec PP 2 223 15 [o0] [] σ =
  some (.inl (some (.int 0)), σ) := (exec_eq PP 2 223 15 _ _ σ).trans rfl
set_option maxRecDepth 20000 in
theorem e_223_16 (o0 : Option Value) (w0 : Int32) (σ : SH) : exec PP 2 223 16 [o0] [.int w0] σ =
  if w0 = 0 ∨ w0 = 1 then some (.inl (some (.int w0)), σ) else none := (exec_eq PP 2 223 16 _ _ σ).trans rfl

/-! 224: ArchEndsModel.sunOf(I)I -/
set_option maxRecDepth 20000 in
theorem r_224 (x0 : Int32) (σ : SH) : rn 224 [.int x0] σ =
  onI (rn 326 [.int ((irm x0 96) - 48)] σ) (fun x23 σ21 =>
  some (.inl (some (.int (48 - x23))), σ21)) (fun e22 σ21x => some (.inr e22, σ21x)) := (exec_eq PP 2 224 0 _ _ σ).trans rfl

/-! 225: ArchEndsModel.reach(I)I -/
set_option maxRecDepth 20000 in
theorem r_225 (a0 : Nat) (x1 : Int32) (σ : SH) : rn 225 [.ref a0, .int x1] σ =
  pI σ 112 0 (.ref a0) 0 fun σ21 =>
  onI (rn 223 [.int x1] σ21) (fun x24 σ22 =>
  if sT σ22 a0 = 112 then (onI (rn 216 [.ref a0, .int x24, .int 1] σ22) (fun x27 σ25 =>
    if (x27 = 0 : Prop) then (exec PP 4 225 21 [some (.ref a0), some (.int x1)] [] σ25)
      else (exec PP 4 225 25 [some (.ref a0), some (.int x1)] [.int 0] σ25)) (fun e26 σ25x => some (.inr e26, σ25x))) else none) (fun e23 σ22x => some (.inr e23, σ22x)) := (exec_eq PP 4 225 0 _ _ σ).trans rfl
set_option maxRecDepth 20000 in
theorem e_225_21 (o0 : Option Value) (x1 : Int32) (σ : SH) : exec PP 4 225 21 [o0, some (.int x1)] [] σ =
  onI (rn 226 [.int x1] σ) (fun x23 σ21 =>
  some (.inl (some (.int x23)), σ21)) (fun e22 σ21x => some (.inr e22, σ21x)) := (exec_eq PP 4 225 21 _ _ σ).trans rfl
set_option maxRecDepth 20000 in
theorem e_225_25 (o0 : Option Value) (o1 : Option Value) (w0 : Int32) (σ : SH) : exec PP 4 225 25 [o0, o1] [.int w0] σ =
  some (.inl (some (.int w0)), σ) := (exec_eq PP 4 225 25 _ _ σ).trans rfl

/-! 226: ArchEndsModel.reachOf(I)I -/
set_option maxRecDepth 20000 in
theorem r_226 (x0 : Int32) (σ : SH) : rn 226 [.int x0] σ =
  onI (rn 224 [.int x0] σ) (fun x23 σ21 =>
  if (42 < x23 : Prop) then (exec PP 3 226 15 [some (.int x0), some (.int x23)] [] σ21)
    else (if (x23 = 0 : Prop) then (exec PP 3 226 26 [none, none] [.int (-1)] σ21)
      else (exec PP 3 226 19 [some (.int x0), some (.int x23)] [] σ21))) (fun e22 σ21x => some (.inr e22, σ21x)) := (exec_eq PP 3 226 0 _ _ σ).trans rfl
set_option maxRecDepth 20000 in
theorem e_226_15 (o0 : Option Value) (o1 : Option Value) (σ : SH) : exec PP 3 226 15 [o0, o1] [] σ =
  exec PP 3 226 26 [none, none] [.int (-1)] σ := (exec_eq PP 3 226 15 _ _ σ).trans rfl
set_option maxRecDepth 20000 in
theorem e_226_19 (o0 : Option Value) (x1 : Int32) (σ : SH) : exec PP 3 226 19 [o0, some (.int x1)] [] σ =
  some (.inl (some (.int ((42 - x1) / 6))), σ) := (exec_eq PP 3 226 19 _ _ σ).trans rfl
set_option maxRecDepth 20000 in
theorem e_226_26 (o0 : Option Value) (o1 : Option Value) (w0 : Int32) (σ : SH) : exec PP 3 226 26 [o0, o1] [.int w0] σ =
  some (.inl (some (.int w0)), σ) := (exec_eq PP 3 226 26 _ _ σ).trans rfl

/-! 227: ArchEndsModel.foot(II)I -/
set_option maxRecDepth 20000 in
theorem r_227 (a0 : Nat) (x1 : Int32) (x2 : Int32) (σ : SH) : rn 227 [.ref a0, .int x1, .int x2] σ =
  if sT σ a0 = 112 then (onI (rn 228 [.ref a0, .int x1, .int x2] σ) (fun x23 σ21 =>
  if (x23 = 0 : Prop) then (exec PP 5 227 13 [some (.ref a0), some (.int x1), some (.int x2)] [] σ21)
    else (exec PP 5 227 18 [some (.ref a0), some (.int x1), some (.int x2)] [.int 0] σ21)) (fun e22 σ21x => some (.inr e22, σ21x))) else none := (exec_eq PP 5 227 0 _ _ σ).trans rfl
set_option maxRecDepth 20000 in
theorem e_227_13 (o0 : Option Value) (x1 : Int32) (x2 : Int32) (σ : SH) : exec PP 5 227 13 [o0, some (.int x1), some (.int x2)] [] σ =
  onI (rn 230 [.int x1, .int x2] σ) (fun x23 σ21 =>
  some (.inl (some (.int x23)), σ21)) (fun e22 σ21x => some (.inr e22, σ21x)) := (exec_eq PP 5 227 13 _ _ σ).trans rfl
set_option maxRecDepth 20000 in
theorem e_227_18 (o0 : Option Value) (o1 : Option Value) (o2 : Option Value) (w0 : Int32) (σ : SH) : exec PP 5 227 18 [o0, o1, o2] [.int w0] σ =
  some (.inl (some (.int w0)), σ) := (exec_eq PP 5 227 18 _ _ σ).trans rfl

/-! 228: ArchEndsModel.throwsAt(II)Z -/
set_option maxRecDepth 20000 in
theorem r_228 (a0 : Nat) (x1 : Int32) (x2 : Int32) (σ : SH) : rn 228 [.ref a0, .int x1, .int x2] σ =
  pI σ 112 0 (.ref a0) 0 fun σ21 =>
  onI (rn 229 [.int x1] σ21) (fun x24 σ22 =>
  if sT σ22 a0 = 112 then (onI (rn 216 [.ref a0, .int x24, .int 1] σ22) (fun x27 σ25 =>
    if (x27 = 0 : Prop) then (onI (rn 223 [.int x2] σ25) (fun x30 σ28 =>
        if sT σ28 a0 = 112 then (onI (rn 216 [.ref a0, .int x30, .int 2] σ28) (fun x33 σ31 =>
          if (x33 = 0 : Prop) then (exec PP 3 228 33 [some (.ref a0), some (.int x1), some (.int x2)] [] σ31)
            else (exec PP 3 228 34 [none, none, none] [.int 1] σ31)) (fun e32 σ31x => some (.inr e32, σ31x))) else none) (fun e29 σ28x => some (.inr e29, σ28x)))
      else (exec PP 3 228 29 [some (.ref a0), some (.int x1), some (.int x2)] [] σ25)) (fun e26 σ25x => some (.inr e26, σ25x))) else none) (fun e23 σ22x => some (.inr e23, σ22x)) := (exec_eq PP 3 228 0 _ _ σ).trans rfl
set_option maxRecDepth 20000 in
theorem e_228_29 (o0 : Option Value) (o1 : Option Value) (o2 : Option Value) (σ : SH) : exec PP 3 228 29 [o0, o1, o2] [] σ =
  exec PP 3 228 34 [none, none, none] [.int 1] σ := (exec_eq PP 3 228 29 _ _ σ).trans rfl
set_option maxRecDepth 20000 in
theorem e_228_33 (o0 : Option Value) (o1 : Option Value) (o2 : Option Value) (σ : SH) : exec PP 3 228 33 [o0, o1, o2] [] σ =
  some (.inl (some (.int 0)), σ) := (exec_eq PP 3 228 33 _ _ σ).trans rfl
set_option maxRecDepth 20000 in
theorem e_228_34 (o0 : Option Value) (o1 : Option Value) (o2 : Option Value) (w0 : Int32) (σ : SH) : exec PP 3 228 34 [o0, o1, o2] [.int w0] σ =
  if w0 = 0 ∨ w0 = 1 then some (.inl (some (.int w0)), σ) else none := (exec_eq PP 3 228 34 _ _ σ).trans rfl

/-! 229: ArchEndsModel.noAcre(I)Z -/
set_option maxRecDepth 20000 in
theorem r_229 (x0 : Int32) (σ : SH) : rn 229 [.int x0] σ =
  onI (rn 220 [.int x0, .int 0, .int 15] σ) (fun x23 σ21 =>
  if (x23 = 0 : Prop) then (exec PP 2 229 15 [some (.int x0)] [.int 1] σ21)
    else (exec PP 2 229 14 [some (.int x0)] [] σ21)) (fun e22 σ21x => some (.inr e22, σ21x)) := (exec_eq PP 2 229 0 _ _ σ).trans rfl
set_option maxRecDepth 20000 in
theorem e_229_14 (o0 : Option Value) (σ : SH) : exec PP 2 229 14 [o0] [] σ =
  some (.inl (some (.int 0)), σ) := (exec_eq PP 2 229 14 _ _ σ).trans rfl
set_option maxRecDepth 20000 in
theorem e_229_15 (o0 : Option Value) (w0 : Int32) (σ : SH) : exec PP 2 229 15 [o0] [.int w0] σ =
  if w0 = 0 ∨ w0 = 1 then some (.inl (some (.int w0)), σ) else none := (exec_eq PP 2 229 15 _ _ σ).trans rfl

/-! 230: ArchEndsModel.footOf(II)I -/
set_option maxRecDepth 20000 in
theorem r_230 (x0 : Int32) (x1 : Int32) (σ : SH) : rn 230 [.int x0, .int x1] σ =
  onI (rn 226 [.int x1] σ) (fun x23 σ21 =>
  if (x23 = (-1) : Prop) then (some (.inl (some (.int (-1))), σ21))
    else (exec PP 4 230 12 [some (.int x0), some (.int x1), some (.int x23), none] [] σ21)) (fun e22 σ21x => some (.inr e22, σ21x)) := (exec_eq PP 4 230 0 _ _ σ).trans rfl
set_option maxRecDepth 20000 in
theorem e_230_12 (x0 : Int32) (x1 : Int32) (x2 : Int32) (o3 : Option Value) (σ : SH) : exec PP 4 230 12 [some (.int x0), some (.int x1), some (.int x2), o3] [] σ =
  if (((irm x1 96) : Int32) < 48 : Prop) then (exec PP 4 230 30 [some (.int x0), some (.int x1), some (.int x2), none] [.int (x0 - x2)] σ)
  else (exec PP 4 230 27 [some (.int x0), some (.int x1), some (.int x2), none] [] σ) := (exec_eq PP 4 230 12 _ _ σ).trans rfl
set_option maxRecDepth 20000 in
theorem e_230_27 (x0 : Int32) (o1 : Option Value) (x2 : Int32) (o3 : Option Value) (σ : SH) : exec PP 4 230 27 [some (.int x0), o1, some (.int x2), o3] [] σ =
  onI (rn 229 [.int (x0 + x2)] σ) (fun x23 σ21 =>
  if (x23 = 0 : Prop) then (exec PP 4 230 42 [none, none, none, some (.int (x0 + x2))] [] σ21)
    else (exec PP 4 230 43 [none, none, none, some (.int (x0 + x2))] [.int (-1)] σ21)) (fun e22 σ21x => some (.inr e22, σ21x)) := (exec_eq PP 4 230 27 _ _ σ).trans rfl
set_option maxRecDepth 20000 in
theorem e_230_30 (o0 : Option Value) (o1 : Option Value) (o2 : Option Value) (o3 : Option Value) (w0 : Int32) (σ : SH) : exec PP 4 230 30 [o0, o1, o2, o3] [.int w0] σ =
  onI (rn 229 [.int w0] σ) (fun x23 σ21 =>
  if (x23 = 0 : Prop) then (exec PP 4 230 42 [none, none, none, some (.int w0)] [] σ21)
    else (exec PP 4 230 43 [none, none, none, some (.int w0)] [.int (-1)] σ21)) (fun e22 σ21x => some (.inr e22, σ21x)) := (exec_eq PP 4 230 30 _ _ σ).trans rfl
set_option maxRecDepth 20000 in
theorem e_230_42 (o0 : Option Value) (o1 : Option Value) (o2 : Option Value) (x3 : Int32) (σ : SH) : exec PP 4 230 42 [o0, o1, o2, some (.int x3)] [] σ =
  some (.inl (some (.int x3)), σ) := (exec_eq PP 4 230 42 _ _ σ).trans rfl
set_option maxRecDepth 20000 in
theorem e_230_43 (o0 : Option Value) (o1 : Option Value) (o2 : Option Value) (o3 : Option Value) (w0 : Int32) (σ : SH) : exec PP 4 230 43 [o0, o1, o2, o3] [.int w0] σ =
  some (.inl (some (.int w0)), σ) := (exec_eq PP 4 230 43 _ _ σ).trans rfl

/-! 231: ArchEndsModel.arch(II)Z -/
set_option maxRecDepth 20000 in
theorem r_231 (a0 : Nat) (x1 : Int32) (x2 : Int32) (σ : SH) : rn 231 [.ref a0, .int x1, .int x2] σ =
  if sT σ a0 = 112 then (onI (rn 228 [.ref a0, .int x1, .int x2] σ) (fun x23 σ21 =>
  if (x23 = 0 : Prop) then (if sT σ21 a0 = 112 then (onI (rn 232 [.ref a0, .int x1, .int x2] σ21) (fun x26 σ24 =>
      if (x26 = 0 : Prop) then (exec PP 6 231 22 [some (.ref a0), some (.int x1), some (.int x2)] [] σ24)
        else (exec PP 6 231 23 [some (.ref a0), some (.int x1), some (.int x2)] [.int 1] σ24)) (fun e25 σ24x => some (.inr e25, σ24x))) else none)
    else (exec PP 6 231 22 [some (.ref a0), some (.int x1), some (.int x2)] [] σ21)) (fun e22 σ21x => some (.inr e22, σ21x))) else none := (exec_eq PP 6 231 0 _ _ σ).trans rfl
set_option maxRecDepth 20000 in
theorem e_231_22 (o0 : Option Value) (o1 : Option Value) (o2 : Option Value) (σ : SH) : exec PP 6 231 22 [o0, o1, o2] [] σ =
  some (.inl (some (.int 0)), σ) := (exec_eq PP 6 231 22 _ _ σ).trans rfl
set_option maxRecDepth 20000 in
theorem e_231_23 (o0 : Option Value) (o1 : Option Value) (o2 : Option Value) (w0 : Int32) (σ : SH) : exec PP 6 231 23 [o0, o1, o2] [.int w0] σ =
  if w0 = 0 ∨ w0 = 1 then some (.inl (some (.int w0)), σ) else none := (exec_eq PP 6 231 23 _ _ σ).trans rfl

/-! 232: ArchEndsModel.isArch(II)Z -/
set_option maxRecDepth 20000 in
theorem r_232 (a0 : Nat) (x1 : Int32) (x2 : Int32) (σ : SH) : rn 232 [.ref a0, .int x1, .int x2] σ =
  onI (rn 230 [.int x1, .int x2] σ) (fun x23 σ21 =>
  if (x23 = (-1) : Prop) then (exec PP 5 232 24 [some (.ref a0), some (.int x1), some (.int x2), some (.int x23)] [] σ21)
    else (if sT σ21 a0 = 112 then (onI (rn 233 [.ref a0, .int x23, .int x2] σ21) (fun x26 σ24 =>
      if (x26 = 0 : Prop) then (exec PP 5 232 24 [some (.ref a0), some (.int x1), some (.int x2), some (.int x23)] [] σ24)
        else (exec PP 5 232 25 [some (.ref a0), some (.int x1), some (.int x2), some (.int x23)] [.int 1] σ24)) (fun e25 σ24x => some (.inr e25, σ24x))) else none)) (fun e22 σ21x => some (.inr e22, σ21x)) := (exec_eq PP 5 232 0 _ _ σ).trans rfl
set_option maxRecDepth 20000 in
theorem e_232_24 (o0 : Option Value) (o1 : Option Value) (o2 : Option Value) (o3 : Option Value) (σ : SH) : exec PP 5 232 24 [o0, o1, o2, o3] [] σ =
  some (.inl (some (.int 0)), σ) := (exec_eq PP 5 232 24 _ _ σ).trans rfl
set_option maxRecDepth 20000 in
theorem e_232_25 (o0 : Option Value) (o1 : Option Value) (o2 : Option Value) (o3 : Option Value) (w0 : Int32) (σ : SH) : exec PP 5 232 25 [o0, o1, o2, o3] [.int w0] σ =
  if w0 = 0 ∨ w0 = 1 then some (.inl (some (.int w0)), σ) else none := (exec_eq PP 5 232 25 _ _ σ).trans rfl

/-! 233: ArchEndsModel.wetBy(II)I -/
set_option maxRecDepth 20000 in
theorem r_233 (a0 : Nat) (x1 : Int32) (x2 : Int32) (σ : SH) : rn 233 [.ref a0, .int x1, .int x2] σ =
  exec PP 3 233 5 [some (.ref a0), some (.int x1), some (.int x2), some (.int 0), some (.int 0)] [] σ := (exec_eq PP 3 233 0 _ _ σ).trans rfl
set_option maxRecDepth 20000 in
theorem e_233_5 (a0 : Nat) (x1 : Int32) (x2 : Int32) (x3 : Int32) (x4 : Int32) (σ : SH) : exec PP 3 233 5 [some (.ref a0), some (.int x1), some (.int x2), some (.int x3), some (.int x4)] [] σ =
  if sT σ a0 = 112 then (onI (rn 195 [.ref a0] σ) (fun x23 σ21 =>
  if (x4 < x23 : Prop) then (if sT σ21 a0 = 112 then (onI (rn 221 [.ref a0, .int x4, .int 6] σ21) (fun x26 σ24 =>
      if (x26 = 2 : Prop) then (exec PP 3 233 45 [some (.ref a0), some (.int x1), some (.int x2), some (.int x3), some (.int x4)] [.int x3] σ24)
        else (if sT σ24 a0 = 112 then (onI (rn 234 [.ref a0, .int x4, .int x1, .int x2] σ24) (fun x29 σ27 =>
          if (x29 = 0 : Prop) then (exec PP 3 233 45 [some (.ref a0), some (.int x1), some (.int x2), some (.int x3), some (.int x4)] [.int x3] σ27)
            else (exec PP 3 233 46 [some (.ref a0), some (.int x1), some (.int x2), some (.int x3), some (.int x4)] [.int (shl 1 x4), .int x3] σ27)) (fun e28 σ27x => some (.inr e28, σ27x))) else none)) (fun e25 σ24x => some (.inr e25, σ24x))) else none)
    else (exec PP 3 233 54 [some (.ref a0), some (.int x1), some (.int x2), some (.int x3), some (.int x4)] [] σ21)) (fun e22 σ21x => some (.inr e22, σ21x))) else none := (exec_eq PP 3 233 5 _ _ σ).trans rfl
set_option maxRecDepth 20000 in
theorem e_233_54 (o0 : Option Value) (o1 : Option Value) (o2 : Option Value) (x3 : Int32) (o4 : Option Value) (σ : SH) : exec PP 3 233 54 [o0, o1, o2, some (.int x3), o4] [] σ =
  some (.inl (some (.int x3)), σ) := (exec_eq PP 3 233 54 _ _ σ).trans rfl
set_option maxRecDepth 20000 in
theorem e_233_45 (a0 : Nat) (x1 : Int32) (x2 : Int32) (o3 : Option Value) (x4 : Int32) (w0 : Int32) (σ : SH) : exec PP 3 233 45 [some (.ref a0), some (.int x1), some (.int x2), o3, some (.int x4)] [.int w0] σ =
  exec PP 3 233 5 [some (.ref a0), some (.int x1), some (.int x2), some (.int (w0 ||| 0)), some (.int (x4 + 1))] [] σ := (exec_eq PP 3 233 45 _ _ σ).trans rfl
set_option maxRecDepth 20000 in
theorem e_233_46 (a0 : Nat) (x1 : Int32) (x2 : Int32) (o3 : Option Value) (x4 : Int32) (w0 : Int32) (w1 : Int32) (σ : SH) : exec PP 3 233 46 [some (.ref a0), some (.int x1), some (.int x2), o3, some (.int x4)] [.int w0, .int w1] σ =
  exec PP 3 233 5 [some (.ref a0), some (.int x1), some (.int x2), some (.int (w1 ||| w0)), some (.int (x4 + 1))] [] σ := (exec_eq PP 3 233 46 _ _ σ).trans rfl

/-! 234: ArchEndsModel.liesOver(III)Z -/
set_option maxRecDepth 20000 in
theorem r_234 (a0 : Nat) (x1 : Int32) (x2 : Int32) (x3 : Int32) (σ : SH) : rn 234 [.ref a0, .int x1, .int x2, .int x3] σ =
  if sT σ a0 = 112 then (onI (rn 221 [.ref a0, .int x1, .int 2] σ) (fun x23 σ21 =>
  if sT σ21 a0 = 112 then (onI (rn 221 [.ref a0, .int x1, .int 3] σ21) (fun x26 σ24 =>
    onI (rn 220 [.int x3, .int x23, .int x26] σ24) (fun x29 σ27 =>
      if (x29 = 0 : Prop) then (some (.inl (some (.int 0)), σ27))
        else (exec PP 2 234 21 [some (.ref a0), some (.int x1), some (.int x2), some (.int x3), none] [] σ27)) (fun e28 σ27x => some (.inr e28, σ27x))) (fun e25 σ24x => some (.inr e25, σ24x))) else none) (fun e22 σ21x => some (.inr e22, σ21x))) else none := (exec_eq PP 2 234 0 _ _ σ).trans rfl
set_option maxRecDepth 20000 in
theorem e_234_21 (a0 : Nat) (x1 : Int32) (x2 : Int32) (x3 : Int32) (o4 : Option Value) (σ : SH) : exec PP 2 234 21 [some (.ref a0), some (.int x1), some (.int x2), some (.int x3), o4] [] σ =
  if sT σ a0 = 112 then (onI (rn 221 [.ref a0, .int x1, .int 4] σ) (fun x23 σ21 =>
  if sT σ21 a0 = 112 then (onI (rn 221 [.ref a0, .int x1, .int 2] σ21) (fun x26 σ24 =>
    if sT σ24 a0 = 112 then (onI (rn 221 [.ref a0, .int x1, .int 0] σ24) (fun x29 σ27 =>
      if sT σ27 a0 = 112 then (onI (rn 221 [.ref a0, .int x1, .int 1] σ27) (fun x32 σ30 =>
        onI (rn 220 [.int (x2 - (x23 * ((x3 - x26) / 4))), .int x29, .int x32] σ30) (fun x35 σ33 =>
          if x35 = 0 ∨ x35 = 1 then some (.inl (some (.int x35)), σ33) else none) (fun e34 σ33x => some (.inr e34, σ33x))) (fun e31 σ30x => some (.inr e31, σ30x))) else none) (fun e28 σ27x => some (.inr e28, σ27x))) else none) (fun e25 σ24x => some (.inr e25, σ24x))) else none) (fun e22 σ21x => some (.inr e22, σ21x))) else none := (exec_eq PP 2 234 21 _ _ σ).trans rfl

/-! 235: ArchEndsModel.wets(II)I -/
set_option maxRecDepth 20000 in
theorem r_235 (a0 : Nat) (x1 : Int32) (x2 : Int32) (σ : SH) : rn 235 [.ref a0, .int x1, .int x2] σ =
  if sT σ a0 = 112 then (onI (rn 228 [.ref a0, .int x1, .int x2] σ) (fun x23 σ21 =>
  if (x23 = 0 : Prop) then (exec PP 4 235 13 [some (.ref a0), some (.int x1), some (.int x2)] [] σ21)
    else (exec PP 4 235 19 [some (.ref a0), some (.int x1), some (.int x2)] [.int 0] σ21)) (fun e22 σ21x => some (.inr e22, σ21x))) else none := (exec_eq PP 4 235 0 _ _ σ).trans rfl
set_option maxRecDepth 20000 in
theorem e_235_13 (a0 : Nat) (x1 : Int32) (x2 : Int32) (σ : SH) : exec PP 4 235 13 [some (.ref a0), some (.int x1), some (.int x2)] [] σ =
  if sT σ a0 = 112 then (onI (rn 233 [.ref a0, .int x1, .int x2] σ) (fun x23 σ21 =>
  some (.inl (some (.int x23)), σ21)) (fun e22 σ21x => some (.inr e22, σ21x))) else none := (exec_eq PP 4 235 13 _ _ σ).trans rfl
set_option maxRecDepth 20000 in
theorem e_235_19 (o0 : Option Value) (o1 : Option Value) (o2 : Option Value) (w0 : Int32) (σ : SH) : exec PP 4 235 19 [o0, o1, o2] [.int w0] σ =
  some (.inl (some (.int w0)), σ) := (exec_eq PP 4 235 19 _ _ σ).trans rfl

/-! 236: ArchEndsModel.looks(II)I -/
set_option maxRecDepth 20000 in
theorem r_236 (a0 : Nat) (x1 : Int32) (x2 : Int32) (σ : SH) : rn 236 [.ref a0, .int x1, .int x2] σ =
  if sT σ a0 = 112 then (onI (rn 228 [.ref a0, .int x1, .int x2] σ) (fun x23 σ21 =>
  if (x23 = 0 : Prop) then (exec PP 6 236 11 [some (.ref a0), some (.int x1), some (.int x2), none, none] [] σ21)
    else (some (.inl (some (.int 0)), σ21))) (fun e22 σ21x => some (.inr e22, σ21x))) else none := (exec_eq PP 6 236 0 _ _ σ).trans rfl
set_option maxRecDepth 20000 in
theorem e_236_11 (a0 : Nat) (x1 : Int32) (x2 : Int32) (o3 : Option Value) (o4 : Option Value) (σ : SH) : exec PP 6 236 11 [some (.ref a0), some (.int x1), some (.int x2), o3, o4] [] σ =
  exec PP 6 236 16 [some (.ref a0), some (.int x1), some (.int x2), some (.int 0), some (.int 0)] [] σ := (exec_eq PP 6 236 11 _ _ σ).trans rfl
set_option maxRecDepth 20000 in
theorem e_236_16 (a0 : Nat) (x1 : Int32) (x2 : Int32) (x3 : Int32) (x4 : Int32) (σ : SH) : exec PP 6 236 16 [some (.ref a0), some (.int x1), some (.int x2), some (.int x3), some (.int x4)] [] σ =
  if (x4 < 16 : Prop) then (if sT σ a0 = 112 then (onI (rn 237 [.ref a0, .int x1, .int x4, .int x2] σ) (fun x23 σ21 =>
    if (x23 = 0 : Prop) then (exec PP 6 236 42 [some (.ref a0), some (.int x1), some (.int x2), some (.int x3), some (.int x4)] [.int x3] σ21)
      else (exec PP 6 236 43 [some (.ref a0), some (.int x1), some (.int x2), some (.int x3), some (.int x4)] [.int (shl 1 x4), .int x3] σ21)) (fun e22 σ21x => some (.inr e22, σ21x))) else none)
  else (exec PP 6 236 51 [some (.ref a0), some (.int x1), some (.int x2), some (.int x3), some (.int x4)] [] σ) := (exec_eq PP 6 236 16 _ _ σ).trans rfl
set_option maxRecDepth 20000 in
theorem e_236_51 (o0 : Option Value) (o1 : Option Value) (o2 : Option Value) (x3 : Int32) (o4 : Option Value) (σ : SH) : exec PP 6 236 51 [o0, o1, o2, some (.int x3), o4] [] σ =
  some (.inl (some (.int x3)), σ) := (exec_eq PP 6 236 51 _ _ σ).trans rfl
set_option maxRecDepth 20000 in
theorem e_236_42 (a0 : Nat) (x1 : Int32) (x2 : Int32) (o3 : Option Value) (x4 : Int32) (w0 : Int32) (σ : SH) : exec PP 6 236 42 [some (.ref a0), some (.int x1), some (.int x2), o3, some (.int x4)] [.int w0] σ =
  exec PP 6 236 16 [some (.ref a0), some (.int x1), some (.int x2), some (.int (w0 ||| 0)), some (.int (x4 + 1))] [] σ := (exec_eq PP 6 236 42 _ _ σ).trans rfl
set_option maxRecDepth 20000 in
theorem e_236_43 (a0 : Nat) (x1 : Int32) (x2 : Int32) (o3 : Option Value) (x4 : Int32) (w0 : Int32) (w1 : Int32) (σ : SH) : exec PP 6 236 43 [some (.ref a0), some (.int x1), some (.int x2), o3, some (.int x4)] [.int w0, .int w1] σ =
  exec PP 6 236 16 [some (.ref a0), some (.int x1), some (.int x2), some (.int (w1 ||| w0)), some (.int (x4 + 1))] [] σ := (exec_eq PP 6 236 43 _ _ σ).trans rfl

/-! 237: ArchEndsModel.standsOn(III)Z -/
set_option maxRecDepth 20000 in
theorem r_237 (a0 : Nat) (x1 : Int32) (x2 : Int32) (x3 : Int32) (σ : SH) : rn 237 [.ref a0, .int x1, .int x2, .int x3] σ =
  onI (rn 230 [.int x2, .int x3] σ) (fun x23 σ21 =>
  if (x23 = x1 : Prop) then (if sT σ21 a0 = 112 then (onI (rn 233 [.ref a0, .int x1, .int x3] σ21) (fun x26 σ24 =>
      if (x26 = 0 : Prop) then (exec PP 5 237 22 [some (.ref a0), some (.int x1), some (.int x2), some (.int x3)] [] σ24)
        else (exec PP 5 237 23 [some (.ref a0), some (.int x1), some (.int x2), some (.int x3)] [.int 1] σ24)) (fun e25 σ24x => some (.inr e25, σ24x))) else none)
    else (exec PP 5 237 22 [some (.ref a0), some (.int x1), some (.int x2), some (.int x3)] [] σ21)) (fun e22 σ21x => some (.inr e22, σ21x)) := (exec_eq PP 5 237 0 _ _ σ).trans rfl
set_option maxRecDepth 20000 in
theorem e_237_22 (o0 : Option Value) (o1 : Option Value) (o2 : Option Value) (o3 : Option Value) (σ : SH) : exec PP 5 237 22 [o0, o1, o2, o3] [] σ =
  some (.inl (some (.int 0)), σ) := (exec_eq PP 5 237 22 _ _ σ).trans rfl
set_option maxRecDepth 20000 in
theorem e_237_23 (o0 : Option Value) (o1 : Option Value) (o2 : Option Value) (o3 : Option Value) (w0 : Int32) (σ : SH) : exec PP 5 237 23 [o0, o1, o2, o3] [.int w0] σ =
  if w0 = 0 ∨ w0 = 1 then some (.inl (some (.int w0)), σ) else none := (exec_eq PP 5 237 23 _ _ σ).trans rfl

/-! 238: ArchEndsModel.stands(III)I -/
set_option maxRecDepth 20000 in
theorem r_238 (a0 : Nat) (x1 : Int32) (x2 : Int32) (x3 : Int32) (σ : SH) : rn 238 [.ref a0, .int x1, .int x2, .int x3] σ =
  pI σ 112 0 (.ref a0) 0 fun σ21 =>
  onI (rn 229 [.int x1] σ21) (fun x24 σ22 =>
  if sT σ22 a0 = 112 then (onI (rn 216 [.ref a0, .int x24, .int 1] σ22) (fun x27 σ25 =>
    if (x27 = 0 : Prop) then (onI (rn 239 [.int x2, .int x3] σ25) (fun x30 σ28 =>
        if sT σ28 a0 = 112 then (onI (rn 216 [.ref a0, .int x30, .int 2] σ28) (fun x33 σ31 =>
          if (x33 = 0 : Prop) then (exec PP 7 238 34 [some (.ref a0), some (.int x1), some (.int x2), some (.int x3)] [] σ31)
            else (exec PP 7 238 48 [none, none, none, none] [.int 0] σ31)) (fun e32 σ31x => some (.inr e32, σ31x))) else none) (fun e29 σ28x => some (.inr e29, σ28x)))
      else (exec PP 7 238 30 [some (.ref a0), some (.int x1), some (.int x2), some (.int x3)] [] σ25)) (fun e26 σ25x => some (.inr e26, σ25x))) else none) (fun e23 σ22x => some (.inr e23, σ22x)) := (exec_eq PP 7 238 0 _ _ σ).trans rfl
set_option maxRecDepth 20000 in
theorem e_238_30 (o0 : Option Value) (o1 : Option Value) (o2 : Option Value) (o3 : Option Value) (σ : SH) : exec PP 7 238 30 [o0, o1, o2, o3] [] σ =
  exec PP 7 238 48 [none, none, none, none] [.int 0] σ := (exec_eq PP 7 238 30 _ _ σ).trans rfl
set_option maxRecDepth 20000 in
theorem e_238_34 (a0 : Nat) (x1 : Int32) (x2 : Int32) (x3 : Int32) (σ : SH) : exec PP 7 238 34 [some (.ref a0), some (.int x1), some (.int x2), some (.int x3)] [] σ =
  gR σ 112 1 (.ref a0) fun a21 =>
  aI σ 1 (.ref a21) 6 fun x22 =>
  if sT σ a0 = 112 then (onI (rn 240 [.ref a0, .int x1, .int x22, .int x2, .int x3] σ) (fun x25 σ23 =>
  some (.inl (some (.int x25)), σ23)) (fun e24 σ23x => some (.inr e24, σ23x))) else none := (exec_eq PP 7 238 34 _ _ σ).trans rfl
set_option maxRecDepth 20000 in
theorem e_238_48 (o0 : Option Value) (o1 : Option Value) (o2 : Option Value) (o3 : Option Value) (w0 : Int32) (σ : SH) : exec PP 7 238 48 [o0, o1, o2, o3] [.int w0] σ =
  some (.inl (some (.int w0)), σ) := (exec_eq PP 7 238 48 _ _ σ).trans rfl

/-! 239: ArchEndsModel.noSpan(II)Z -/
set_option maxRecDepth 20000 in
theorem r_239 (x0 : Int32) (x1 : Int32) (σ : SH) : rn 239 [.int x0, .int x1] σ =
  onI (rn 223 [.int x0] σ) (fun x23 σ21 =>
  if (x23 = 0 : Prop) then (onI (rn 220 [.int x1, .int 1, .int 96] σ21) (fun x26 σ24 =>
      if (x26 = 0 : Prop) then (exec PP 3 239 22 [none, none] [.int 1] σ24)
        else (exec PP 3 239 21 [some (.int x0), some (.int x1)] [] σ24)) (fun e25 σ24x => some (.inr e25, σ24x)))
    else (exec PP 3 239 17 [some (.int x0), some (.int x1)] [] σ21)) (fun e22 σ21x => some (.inr e22, σ21x)) := (exec_eq PP 3 239 0 _ _ σ).trans rfl
set_option maxRecDepth 20000 in
theorem e_239_17 (o0 : Option Value) (o1 : Option Value) (σ : SH) : exec PP 3 239 17 [o0, o1] [] σ =
  exec PP 3 239 22 [none, none] [.int 1] σ := (exec_eq PP 3 239 17 _ _ σ).trans rfl
set_option maxRecDepth 20000 in
theorem e_239_21 (o0 : Option Value) (o1 : Option Value) (σ : SH) : exec PP 3 239 21 [o0, o1] [] σ =
  some (.inl (some (.int 0)), σ) := (exec_eq PP 3 239 21 _ _ σ).trans rfl
set_option maxRecDepth 20000 in
theorem e_239_22 (o0 : Option Value) (o1 : Option Value) (w0 : Int32) (σ : SH) : exec PP 3 239 22 [o0, o1] [.int w0] σ =
  if w0 = 0 ∨ w0 = 1 then some (.inl (some (.int w0)), σ) else none := (exec_eq PP 3 239 22 _ _ σ).trans rfl

/-! 240: ArchEndsModel.standsBy(IIII)I -/
set_option maxRecDepth 20000 in
theorem r_240 (a0 : Nat) (x1 : Int32) (x2 : Int32) (x3 : Int32) (x4 : Int32) (σ : SH) : rn 240 [.ref a0, .int x1, .int x2, .int x3, .int x4] σ =
  exec PP 6 240 6 [some (.ref a0), some (.int x1), some (.int x2), some (.int x3), some (.int x4), some (.int 0), some (.int 0)] [] σ := (exec_eq PP 6 240 0 _ _ σ).trans rfl
set_option maxRecDepth 20000 in
theorem e_240_6 (a0 : Nat) (x1 : Int32) (x2 : Int32) (x3 : Int32) (x4 : Int32) (x5 : Int32) (x6 : Int32) (σ : SH) : exec PP 6 240 6 [some (.ref a0), some (.int x1), some (.int x2), some (.int x3), some (.int x4), some (.int x5), some (.int x6)] [] σ =
  if (x6 < x4 : Prop) then (if sT σ a0 = 112 then (onI (rn 237 [.ref a0, .int x1, .int x2, .int (x3 + x6)] σ) (fun x23 σ21 =>
    if (x23 = 0 : Prop) then (exec PP 6 240 32 [some (.ref a0), some (.int x1), some (.int x2), some (.int x3), some (.int x4), some (.int x5), some (.int x6)] [.int x5] σ21)
      else (exec PP 6 240 33 [some (.ref a0), some (.int x1), some (.int x2), some (.int x3), some (.int x4), some (.int x5), some (.int x6)] [.int 1, .int x5] σ21)) (fun e22 σ21x => some (.inr e22, σ21x))) else none)
  else (exec PP 6 240 42 [some (.ref a0), some (.int x1), some (.int x2), some (.int x3), some (.int x4), some (.int x5), some (.int x6)] [] σ) := (exec_eq PP 6 240 6 _ _ σ).trans rfl
set_option maxRecDepth 20000 in
theorem e_240_42 (o0 : Option Value) (o1 : Option Value) (o2 : Option Value) (o3 : Option Value) (o4 : Option Value) (x5 : Int32) (o6 : Option Value) (σ : SH) : exec PP 6 240 42 [o0, o1, o2, o3, o4, some (.int x5), o6] [] σ =
  some (.inl (some (.int x5)), σ) := (exec_eq PP 6 240 42 _ _ σ).trans rfl
set_option maxRecDepth 20000 in
theorem e_240_32 (a0 : Nat) (x1 : Int32) (x2 : Int32) (x3 : Int32) (x4 : Int32) (o5 : Option Value) (x6 : Int32) (w0 : Int32) (σ : SH) : exec PP 6 240 32 [some (.ref a0), some (.int x1), some (.int x2), some (.int x3), some (.int x4), o5, some (.int x6)] [.int w0] σ =
  exec PP 6 240 6 [some (.ref a0), some (.int x1), some (.int x2), some (.int x3), some (.int x4), some (.int (w0 + 0)), some (.int (x6 + 1))] [] σ := (exec_eq PP 6 240 32 _ _ σ).trans rfl
set_option maxRecDepth 20000 in
theorem e_240_33 (a0 : Nat) (x1 : Int32) (x2 : Int32) (x3 : Int32) (x4 : Int32) (o5 : Option Value) (x6 : Int32) (w0 : Int32) (w1 : Int32) (σ : SH) : exec PP 6 240 33 [some (.ref a0), some (.int x1), some (.int x2), some (.int x3), some (.int x4), o5, some (.int x6)] [.int w0, .int w1] σ =
  exec PP 6 240 6 [some (.ref a0), some (.int x1), some (.int x2), some (.int x3), some (.int x4), some (.int (w1 + w0)), some (.int (x6 + 1))] [] σ := (exec_eq PP 6 240 33 _ _ σ).trans rfl

/-! 241: ArchEndsModel.best(II)I -/
set_option maxRecDepth 20000 in
theorem r_241 (a0 : Nat) (x1 : Int32) (x2 : Int32) (σ : SH) : rn 241 [.ref a0, .int x1, .int x2] σ =
  pI σ 112 0 (.ref a0) 0 fun σ21 =>
  onI (rn 239 [.int x1, .int x2] σ21) (fun x24 σ22 =>
  if sT σ22 a0 = 112 then (onI (rn 216 [.ref a0, .int x24, .int 1] σ22) (fun x27 σ25 =>
    if (x27 = 0 : Prop) then (exec PP 7 241 20 [some (.ref a0), some (.int x1), some (.int x2), none, none] [] σ25)
      else (some (.inl (some (.int 0)), σ25))) (fun e26 σ25x => some (.inr e26, σ25x))) else none) (fun e23 σ22x => some (.inr e23, σ22x)) := (exec_eq PP 7 241 0 _ _ σ).trans rfl
set_option maxRecDepth 20000 in
theorem e_241_20 (a0 : Nat) (x1 : Int32) (x2 : Int32) (o3 : Option Value) (o4 : Option Value) (σ : SH) : exec PP 7 241 20 [some (.ref a0), some (.int x1), some (.int x2), o3, o4] [] σ =
  exec PP 7 241 25 [some (.ref a0), some (.int x1), some (.int x2), some (.int 0), some (.int 1)] [] σ := (exec_eq PP 7 241 20 _ _ σ).trans rfl
set_option maxRecDepth 20000 in
theorem e_241_25 (a0 : Nat) (x1 : Int32) (x2 : Int32) (x3 : Int32) (x4 : Int32) (σ : SH) : exec PP 7 241 25 [some (.ref a0), some (.int x1), some (.int x2), some (.int x3), some (.int x4)] [] σ =
  if (x4 < 16 : Prop) then (gR σ 112 1 (.ref a0) fun a21 =>
    aI σ 1 (.ref a21) 6 fun x22 =>
    if sT σ a0 = 112 then (onI (rn 240 [.ref a0, .int x4, .int x22, .int x1, .int x2] σ) (fun x25 σ23 =>
    gR σ23 112 1 (.ref a0) fun a26 =>
      aI σ23 1 (.ref a26) 6 fun x27 =>
      if sT σ23 a0 = 112 then (onI (rn 240 [.ref a0, .int x3, .int x27, .int x1, .int x2] σ23) (fun x30 σ28 =>
      if (x30 < x25 : Prop) then (exec PP 7 241 70 [some (.ref a0), some (.int x1), some (.int x2), some (.int x3), some (.int x4)] [.int x4] σ28)
        else (exec PP 7 241 69 [some (.ref a0), some (.int x1), some (.int x2), some (.int x3), some (.int x4)] [] σ28)) (fun e29 σ28x => some (.inr e29, σ28x))) else none) (fun e24 σ23x => some (.inr e24, σ23x))) else none)
  else (exec PP 7 241 77 [some (.ref a0), some (.int x1), some (.int x2), some (.int x3), some (.int x4)] [] σ) := (exec_eq PP 7 241 25 _ _ σ).trans rfl
set_option maxRecDepth 20000 in
theorem e_241_77 (o0 : Option Value) (o1 : Option Value) (o2 : Option Value) (x3 : Int32) (o4 : Option Value) (σ : SH) : exec PP 7 241 77 [o0, o1, o2, some (.int x3), o4] [] σ =
  some (.inl (some (.int x3)), σ) := (exec_eq PP 7 241 77 _ _ σ).trans rfl
set_option maxRecDepth 20000 in
theorem e_241_69 (a0 : Nat) (x1 : Int32) (x2 : Int32) (x3 : Int32) (x4 : Int32) (σ : SH) : exec PP 7 241 69 [some (.ref a0), some (.int x1), some (.int x2), some (.int x3), some (.int x4)] [] σ =
  exec PP 7 241 25 [some (.ref a0), some (.int x1), some (.int x2), some (.int x3), some (.int (x4 + 1))] [] σ := (exec_eq PP 7 241 69 _ _ σ).trans rfl
set_option maxRecDepth 20000 in
theorem e_241_70 (a0 : Nat) (x1 : Int32) (x2 : Int32) (o3 : Option Value) (x4 : Int32) (w0 : Int32) (σ : SH) : exec PP 7 241 70 [some (.ref a0), some (.int x1), some (.int x2), o3, some (.int x4)] [.int w0] σ =
  exec PP 7 241 25 [some (.ref a0), some (.int x1), some (.int x2), some (.int w0), some (.int (x4 + 1))] [] σ := (exec_eq PP 7 241 70 _ _ σ).trans rfl

/-! 242: ArchEndsModel.first(II)I -/
set_option maxRecDepth 20000 in
theorem r_242 (a0 : Nat) (x1 : Int32) (x2 : Int32) (σ : SH) : rn 242 [.ref a0, .int x1, .int x2] σ =
  if sT σ a0 = 112 then (onI (rn 228 [.ref a0, .int x1, .int x2] σ) (fun x23 σ21 =>
  if (x23 = 0 : Prop) then (exec PP 6 242 11 [some (.ref a0), some (.int x1), some (.int x2), none] [] σ21)
    else (some (.inl (some (.int 0)), σ21))) (fun e22 σ21x => some (.inr e22, σ21x))) else none := (exec_eq PP 6 242 0 _ _ σ).trans rfl
set_option maxRecDepth 20000 in
theorem e_242_11 (a0 : Nat) (x1 : Int32) (x2 : Int32) (o3 : Option Value) (σ : SH) : exec PP 6 242 11 [some (.ref a0), some (.int x1), some (.int x2), o3] [] σ =
  exec PP 6 242 13 [some (.ref a0), some (.int x1), some (.int x2), some (.int 0)] [] σ := (exec_eq PP 6 242 11 _ _ σ).trans rfl
set_option maxRecDepth 20000 in
theorem e_242_13 (a0 : Nat) (x1 : Int32) (x2 : Int32) (x3 : Int32) (σ : SH) : exec PP 6 242 13 [some (.ref a0), some (.int x1), some (.int x2), some (.int x3)] [] σ =
  if (x3 < 200 : Prop) then (gR σ 112 1 (.ref a0) fun a21 =>
    aI σ 1 (.ref a21) 6 fun x22 =>
    if sT σ a0 = 112 then (onI (rn 237 [.ref a0, .int x1, .int x22, .int (x2 + x3)] σ) (fun x25 σ23 =>
    if (x25 = 0 : Prop) then (exec PP 6 242 42 [some (.ref a0), some (.int x1), some (.int x2), some (.int x3)] [] σ23)
      else (some (.inl (some (.int (x2 + x3))), σ23))) (fun e24 σ23x => some (.inr e24, σ23x))) else none)
  else (exec PP 6 242 48 [some (.ref a0), some (.int x1), some (.int x2), some (.int x3)] [] σ) := (exec_eq PP 6 242 13 _ _ σ).trans rfl
set_option maxRecDepth 20000 in
theorem e_242_48 (o0 : Option Value) (o1 : Option Value) (o2 : Option Value) (o3 : Option Value) (σ : SH) : exec PP 6 242 48 [o0, o1, o2, o3] [] σ =
  some (.inl (some (.int (-1))), σ) := (exec_eq PP 6 242 48 _ _ σ).trans rfl
set_option maxRecDepth 20000 in
theorem e_242_42 (a0 : Nat) (x1 : Int32) (x2 : Int32) (x3 : Int32) (σ : SH) : exec PP 6 242 42 [some (.ref a0), some (.int x1), some (.int x2), some (.int x3)] [] σ =
  exec PP 6 242 13 [some (.ref a0), some (.int x1), some (.int x2), some (.int (x3 + 1))] [] σ := (exec_eq PP 6 242 42 _ _ σ).trans rfl

/-! 243: ArchEndsModel.site(III)I -/
set_option maxRecDepth 20000 in
theorem r_243 (a0 : Nat) (x1 : Int32) (x2 : Int32) (x3 : Int32) (σ : SH) : rn 243 [.ref a0, .int x1, .int x2, .int x3] σ =
  pI σ 112 0 (.ref a0) 0 fun σ21 =>
  onI (rn 229 [.int x1] σ21) (fun x24 σ22 =>
  if sT σ22 a0 = 112 then (onI (rn 216 [.ref a0, .int x24, .int 1] σ22) (fun x27 σ25 =>
    if (x27 = 0 : Prop) then (onI (rn 239 [.int x2, .int x3] σ25) (fun x30 σ28 =>
        if sT σ28 a0 = 112 then (onI (rn 216 [.ref a0, .int x30, .int 2] σ28) (fun x33 σ31 =>
          if (x33 = 0 : Prop) then (exec PP 7 243 32 [some (.ref a0), some (.int x1), some (.int x2), some (.int x3), none, none] [] σ31)
            else (some (.inl (some (.int 0)), σ31))) (fun e32 σ31x => some (.inr e32, σ31x))) else none) (fun e29 σ28x => some (.inr e29, σ28x)))
      else (exec PP 7 243 30 [some (.ref a0), some (.int x1), some (.int x2), some (.int x3), none, none] [] σ25)) (fun e26 σ25x => some (.inr e26, σ25x))) else none) (fun e23 σ22x => some (.inr e23, σ22x)) := (exec_eq PP 7 243 0 _ _ σ).trans rfl
set_option maxRecDepth 20000 in
theorem e_243_30 (o0 : Option Value) (o1 : Option Value) (o2 : Option Value) (o3 : Option Value) (o4 : Option Value) (o5 : Option Value) (σ : SH) : exec PP 7 243 30 [o0, o1, o2, o3, o4, o5] [] σ =
  some (.inl (some (.int 0)), σ) := (exec_eq PP 7 243 30 _ _ σ).trans rfl
set_option maxRecDepth 20000 in
theorem e_243_32 (a0 : Nat) (x1 : Int32) (x2 : Int32) (x3 : Int32) (o4 : Option Value) (o5 : Option Value) (σ : SH) : exec PP 7 243 32 [some (.ref a0), some (.int x1), some (.int x2), some (.int x3), o4, o5] [] σ =
  exec PP 7 243 38 [some (.ref a0), some (.int x1), some (.int x2), some (.int x3), some (.int 0), some (.int 1)] [] σ := (exec_eq PP 7 243 32 _ _ σ).trans rfl
set_option maxRecDepth 20000 in
theorem e_243_38 (a0 : Nat) (x1 : Int32) (x2 : Int32) (x3 : Int32) (x4 : Int32) (x5 : Int32) (σ : SH) : exec PP 7 243 38 [some (.ref a0), some (.int x1), some (.int x2), some (.int x3), some (.int x4), some (.int x5)] [] σ =
  if (x5 < 16 : Prop) then (if sT σ a0 = 112 then (onI (rn 240 [.ref a0, .int x1, .int x5, .int x2, .int x3] σ) (fun x23 σ21 =>
    if sT σ21 a0 = 112 then (onI (rn 240 [.ref a0, .int x1, .int x4, .int x2, .int x3] σ21) (fun x26 σ24 =>
      if (x26 < x23 : Prop) then (exec PP 7 243 73 [some (.ref a0), some (.int x1), some (.int x2), some (.int x3), some (.int x4), some (.int x5)] [.int x5] σ24)
        else (exec PP 7 243 71 [some (.ref a0), some (.int x1), some (.int x2), some (.int x3), some (.int x4), some (.int x5)] [] σ24)) (fun e25 σ24x => some (.inr e25, σ24x))) else none) (fun e22 σ21x => some (.inr e22, σ21x))) else none)
  else (exec PP 7 243 81 [some (.ref a0), some (.int x1), some (.int x2), some (.int x3), some (.int x4), some (.int x5)] [] σ) := (exec_eq PP 7 243 38 _ _ σ).trans rfl
set_option maxRecDepth 20000 in
theorem e_243_81 (o0 : Option Value) (o1 : Option Value) (o2 : Option Value) (o3 : Option Value) (x4 : Int32) (o5 : Option Value) (σ : SH) : exec PP 7 243 81 [o0, o1, o2, o3, some (.int x4), o5] [] σ =
  some (.inl (some (.int x4)), σ) := (exec_eq PP 7 243 81 _ _ σ).trans rfl
set_option maxRecDepth 20000 in
theorem e_243_71 (a0 : Nat) (x1 : Int32) (x2 : Int32) (x3 : Int32) (x4 : Int32) (x5 : Int32) (σ : SH) : exec PP 7 243 71 [some (.ref a0), some (.int x1), some (.int x2), some (.int x3), some (.int x4), some (.int x5)] [] σ =
  exec PP 7 243 38 [some (.ref a0), some (.int x1), some (.int x2), some (.int x3), some (.int x4), some (.int (x5 + 1))] [] σ := (exec_eq PP 7 243 71 _ _ σ).trans rfl
set_option maxRecDepth 20000 in
theorem e_243_73 (a0 : Nat) (x1 : Int32) (x2 : Int32) (x3 : Int32) (o4 : Option Value) (x5 : Int32) (w0 : Int32) (σ : SH) : exec PP 7 243 73 [some (.ref a0), some (.int x1), some (.int x2), some (.int x3), o4, some (.int x5)] [.int w0] σ =
  exec PP 7 243 38 [some (.ref a0), some (.int x1), some (.int x2), some (.int x3), some (.int w0), some (.int (x5 + 1))] [] σ := (exec_eq PP 7 243 73 _ _ σ).trans rfl

/-! 244: ArchEndsModel.spray(I)I -/
set_option maxRecDepth 20000 in
theorem r_244 (a0 : Nat) (x1 : Int32) (σ : SH) : rn 244 [.ref a0, .int x1] σ =
  pI σ 112 0 (.ref a0) 0 fun σ21 =>
  onI (rn 223 [.int x1] σ21) (fun x24 σ22 =>
  if sT σ22 a0 = 112 then (onI (rn 216 [.ref a0, .int x24, .int 1] σ22) (fun x27 σ25 =>
    if (x27 = 0 : Prop) then (exec PP 5 244 19 [some (.ref a0), some (.int x1), none, none] [] σ25)
      else (some (.inl (some (.int 0)), σ25))) (fun e26 σ25x => some (.inr e26, σ25x))) else none) (fun e23 σ22x => some (.inr e23, σ22x)) := (exec_eq PP 5 244 0 _ _ σ).trans rfl
set_option maxRecDepth 20000 in
theorem e_244_19 (a0 : Nat) (x1 : Int32) (o2 : Option Value) (o3 : Option Value) (σ : SH) : exec PP 5 244 19 [some (.ref a0), some (.int x1), o2, o3] [] σ =
  exec PP 5 244 23 [some (.ref a0), some (.int x1), some (.int 0), some (.int 0)] [] σ := (exec_eq PP 5 244 19 _ _ σ).trans rfl
set_option maxRecDepth 20000 in
theorem e_244_23 (a0 : Nat) (x1 : Int32) (x2 : Int32) (x3 : Int32) (σ : SH) : exec PP 5 244 23 [some (.ref a0), some (.int x1), some (.int x2), some (.int x3)] [] σ =
  if (x3 < 16 : Prop) then (if sT σ a0 = 112 then (onI (rn 233 [.ref a0, .int x3, .int x1] σ) (fun x23 σ21 =>
    if (x23 = 0 : Prop) then (exec PP 5 244 45 [some (.ref a0), some (.int x1), some (.int x2), some (.int x3)] [.int x2] σ21)
      else (exec PP 5 244 46 [some (.ref a0), some (.int x1), some (.int x2), some (.int x3)] [.int (shl 1 x3), .int x2] σ21)) (fun e22 σ21x => some (.inr e22, σ21x))) else none)
  else (exec PP 5 244 54 [some (.ref a0), some (.int x1), some (.int x2), some (.int x3)] [] σ) := (exec_eq PP 5 244 23 _ _ σ).trans rfl
set_option maxRecDepth 20000 in
theorem e_244_54 (o0 : Option Value) (x1 : Int32) (x2 : Int32) (o3 : Option Value) (σ : SH) : exec PP 5 244 54 [o0, some (.int x1), some (.int x2), o3] [] σ =
  exec PP 5 244 56 [none, some (.int x1), some (.int x2), some (.int 0)] [] σ := (exec_eq PP 5 244 54 _ _ σ).trans rfl
set_option maxRecDepth 20000 in
theorem e_244_45 (a0 : Nat) (x1 : Int32) (o2 : Option Value) (x3 : Int32) (w0 : Int32) (σ : SH) : exec PP 5 244 45 [some (.ref a0), some (.int x1), o2, some (.int x3)] [.int w0] σ =
  exec PP 5 244 23 [some (.ref a0), some (.int x1), some (.int (w0 ||| 0)), some (.int (x3 + 1))] [] σ := (exec_eq PP 5 244 45 _ _ σ).trans rfl
set_option maxRecDepth 20000 in
theorem e_244_46 (a0 : Nat) (x1 : Int32) (o2 : Option Value) (x3 : Int32) (w0 : Int32) (w1 : Int32) (σ : SH) : exec PP 5 244 46 [some (.ref a0), some (.int x1), o2, some (.int x3)] [.int w0, .int w1] σ =
  exec PP 5 244 23 [some (.ref a0), some (.int x1), some (.int (w1 ||| w0)), some (.int (x3 + 1))] [] σ := (exec_eq PP 5 244 46 _ _ σ).trans rfl
set_option maxRecDepth 20000 in
theorem e_244_56 (o0 : Option Value) (x1 : Int32) (x2 : Int32) (x3 : Int32) (σ : SH) : exec PP 5 244 56 [o0, some (.int x1), some (.int x2), some (.int x3)] [] σ =
  if (x3 < 16 : Prop) then (onI (rn 230 [.int x3, .int x1] σ) (fun x23 σ21 =>
    if (x23 = (-1) : Prop) then (exec PP 5 244 85 [none, some (.int x1), some (.int x2), some (.int x3)] [.int x2, .int x2] σ21)
      else (exec PP 5 244 76 [none, some (.int x1), some (.int x2), some (.int x3)] [.int x2] σ21)) (fun e22 σ21x => some (.inr e22, σ21x)))
  else (exec PP 5 244 93 [none, some (.int x1), some (.int x2), some (.int x3)] [] σ) := (exec_eq PP 5 244 56 _ _ σ).trans rfl
set_option maxRecDepth 20000 in
theorem e_244_93 (o0 : Option Value) (o1 : Option Value) (x2 : Int32) (o3 : Option Value) (σ : SH) : exec PP 5 244 93 [o0, o1, some (.int x2), o3] [] σ =
  some (.inl (some (.int x2)), σ) := (exec_eq PP 5 244 93 _ _ σ).trans rfl
set_option maxRecDepth 20000 in
theorem e_244_76 (o0 : Option Value) (x1 : Int32) (o2 : Option Value) (x3 : Int32) (w0 : Int32) (σ : SH) : exec PP 5 244 76 [o0, some (.int x1), o2, some (.int x3)] [.int w0] σ =
  onI (rn 230 [.int x3, .int x1] σ) (fun x23 σ21 =>
  exec PP 5 244 56 [none, some (.int x1), some (.int (w0 &&& ((shl 1 x23) ^^^ (-1)))), some (.int (x3 + 1))] [] σ21) (fun e22 σ21x => some (.inr e22, σ21x)) := (exec_eq PP 5 244 76 _ _ σ).trans rfl
set_option maxRecDepth 20000 in
theorem e_244_85 (o0 : Option Value) (x1 : Int32) (o2 : Option Value) (x3 : Int32) (w0 : Int32) (w1 : Int32) (σ : SH) : exec PP 5 244 85 [o0, some (.int x1), o2, some (.int x3)] [.int w0, .int w1] σ =
  exec PP 5 244 56 [none, some (.int x1), some (.int (w1 &&& w0)), some (.int (x3 + 1))] [] σ := (exec_eq PP 5 244 85 _ _ σ).trans rfl

/-! 245: ArchEndsModel.both(IIII)I -/
set_option maxRecDepth 20000 in
theorem r_245 (a0 : Nat) (x1 : Int32) (x2 : Int32) (x3 : Int32) (x4 : Int32) (σ : SH) : rn 245 [.ref a0, .int x1, .int x2, .int x3, .int x4] σ =
  pI σ 112 0 (.ref a0) 0 fun σ21 =>
  onI (rn 229 [.int x1] σ21) (fun x24 σ22 =>
  if (x24 = 0 : Prop) then (onI (rn 229 [.int x2] σ22) (fun x27 σ25 =>
      if (x27 = 0 : Prop) then (exec PP 6 245 24 [some (.ref a0), some (.int x1), some (.int x2), some (.int x3), some (.int x4), none, none] [.ref a0] σ25)
        else (exec PP 6 245 25 [some (.ref a0), some (.int x1), some (.int x2), some (.int x3), some (.int x4), none, none] [.int 1, .ref a0] σ25)) (fun e26 σ25x => some (.inr e26, σ25x)))
    else (exec PP 6 245 20 [some (.ref a0), some (.int x1), some (.int x2), some (.int x3), some (.int x4), none, none] [.ref a0] σ22)) (fun e23 σ22x => some (.inr e23, σ22x)) := (exec_eq PP 6 245 0 _ _ σ).trans rfl
set_option maxRecDepth 20000 in
theorem e_245_20 (a0 : Nat) (x1 : Int32) (x2 : Int32) (x3 : Int32) (x4 : Int32) (o5 : Option Value) (o6 : Option Value) (b0 : Nat) (σ : SH) : exec PP 6 245 20 [some (.ref a0), some (.int x1), some (.int x2), some (.int x3), some (.int x4), o5, o6] [.ref b0] σ =
  exec PP 6 245 25 [some (.ref a0), some (.int x1), some (.int x2), some (.int x3), some (.int x4), none, none] [.int 1, .ref b0] σ := (exec_eq PP 6 245 20 _ _ σ).trans rfl
set_option maxRecDepth 20000 in
theorem e_245_24 (a0 : Nat) (x1 : Int32) (x2 : Int32) (x3 : Int32) (x4 : Int32) (o5 : Option Value) (o6 : Option Value) (b0 : Nat) (σ : SH) : exec PP 6 245 24 [some (.ref a0), some (.int x1), some (.int x2), some (.int x3), some (.int x4), o5, o6] [.ref b0] σ =
  if sT σ b0 = 112 then (onI (rn 216 [.ref b0, .int 0, .int 1] σ) (fun x23 σ21 =>
  if (x23 = 0 : Prop) then (if (x1 = x2 : Prop) then (exec PP 6 245 47 [some (.ref a0), some (.int x1), some (.int x2), some (.int x3), some (.int x4), none, none] [.ref a0] σ21)
      else (onI (rn 239 [.int x3, .int x4] σ21) (fun x26 σ24 =>
        if (x26 = 0 : Prop) then (exec PP 6 245 51 [some (.ref a0), some (.int x1), some (.int x2), some (.int x3), some (.int x4), none, none] [.ref a0] σ24)
          else (exec PP 6 245 52 [some (.ref a0), some (.int x1), some (.int x2), some (.int x3), some (.int x4), none, none] [.int 1, .ref a0] σ24)) (fun e25 σ24x => some (.inr e25, σ24x))))
    else (exec PP 6 245 59 [some (.ref a0), some (.int x1), some (.int x2), some (.int x3), some (.int x4), none, none] [] σ21)) (fun e22 σ21x => some (.inr e22, σ21x))) else none := (exec_eq PP 6 245 24 _ _ σ).trans rfl
set_option maxRecDepth 20000 in
theorem e_245_25 (a0 : Nat) (x1 : Int32) (x2 : Int32) (x3 : Int32) (x4 : Int32) (o5 : Option Value) (o6 : Option Value) (w0 : Int32) (b1 : Nat) (σ : SH) : exec PP 6 245 25 [some (.ref a0), some (.int x1), some (.int x2), some (.int x3), some (.int x4), o5, o6] [.int w0, .ref b1] σ =
  if sT σ b1 = 112 then (onI (rn 216 [.ref b1, .int w0, .int 1] σ) (fun x23 σ21 =>
  if (x23 = 0 : Prop) then (if (x1 = x2 : Prop) then (exec PP 6 245 47 [some (.ref a0), some (.int x1), some (.int x2), some (.int x3), some (.int x4), none, none] [.ref a0] σ21)
      else (onI (rn 239 [.int x3, .int x4] σ21) (fun x26 σ24 =>
        if (x26 = 0 : Prop) then (exec PP 6 245 51 [some (.ref a0), some (.int x1), some (.int x2), some (.int x3), some (.int x4), none, none] [.ref a0] σ24)
          else (exec PP 6 245 52 [some (.ref a0), some (.int x1), some (.int x2), some (.int x3), some (.int x4), none, none] [.int 1, .ref a0] σ24)) (fun e25 σ24x => some (.inr e25, σ24x))))
    else (exec PP 6 245 59 [some (.ref a0), some (.int x1), some (.int x2), some (.int x3), some (.int x4), none, none] [] σ21)) (fun e22 σ21x => some (.inr e22, σ21x))) else none := (exec_eq PP 6 245 25 _ _ σ).trans rfl
set_option maxRecDepth 20000 in
theorem e_245_59 (o0 : Option Value) (o1 : Option Value) (o2 : Option Value) (o3 : Option Value) (o4 : Option Value) (o5 : Option Value) (o6 : Option Value) (σ : SH) : exec PP 6 245 59 [o0, o1, o2, o3, o4, o5, o6] [] σ =
  some (.inl (some (.int 0)), σ) := (exec_eq PP 6 245 59 _ _ σ).trans rfl
set_option maxRecDepth 20000 in
theorem e_245_47 (a0 : Nat) (x1 : Int32) (x2 : Int32) (x3 : Int32) (x4 : Int32) (o5 : Option Value) (o6 : Option Value) (b0 : Nat) (σ : SH) : exec PP 6 245 47 [some (.ref a0), some (.int x1), some (.int x2), some (.int x3), some (.int x4), o5, o6] [.ref b0] σ =
  exec PP 6 245 52 [some (.ref a0), some (.int x1), some (.int x2), some (.int x3), some (.int x4), none, none] [.int 1, .ref b0] σ := (exec_eq PP 6 245 47 _ _ σ).trans rfl
set_option maxRecDepth 20000 in
theorem e_245_51 (a0 : Nat) (x1 : Int32) (x2 : Int32) (x3 : Int32) (x4 : Int32) (o5 : Option Value) (o6 : Option Value) (b0 : Nat) (σ : SH) : exec PP 6 245 51 [some (.ref a0), some (.int x1), some (.int x2), some (.int x3), some (.int x4), o5, o6] [.ref b0] σ =
  if sT σ b0 = 112 then (onI (rn 216 [.ref b0, .int 0, .int 2] σ) (fun x23 σ21 =>
  if (x23 = 0 : Prop) then (exec PP 6 245 61 [some (.ref a0), some (.int x1), some (.int x2), some (.int x3), some (.int x4), none, none] [] σ21)
    else (some (.inl (some (.int 0)), σ21))) (fun e22 σ21x => some (.inr e22, σ21x))) else none := (exec_eq PP 6 245 51 _ _ σ).trans rfl
set_option maxRecDepth 20000 in
theorem e_245_52 (a0 : Nat) (x1 : Int32) (x2 : Int32) (x3 : Int32) (x4 : Int32) (o5 : Option Value) (o6 : Option Value) (w0 : Int32) (b1 : Nat) (σ : SH) : exec PP 6 245 52 [some (.ref a0), some (.int x1), some (.int x2), some (.int x3), some (.int x4), o5, o6] [.int w0, .ref b1] σ =
  if sT σ b1 = 112 then (onI (rn 216 [.ref b1, .int w0, .int 2] σ) (fun x23 σ21 =>
  if (x23 = 0 : Prop) then (exec PP 6 245 61 [some (.ref a0), some (.int x1), some (.int x2), some (.int x3), some (.int x4), none, none] [] σ21)
    else (some (.inl (some (.int 0)), σ21))) (fun e22 σ21x => some (.inr e22, σ21x))) else none := (exec_eq PP 6 245 52 _ _ σ).trans rfl
set_option maxRecDepth 20000 in
theorem e_245_61 (a0 : Nat) (x1 : Int32) (x2 : Int32) (x3 : Int32) (x4 : Int32) (o5 : Option Value) (o6 : Option Value) (σ : SH) : exec PP 6 245 61 [some (.ref a0), some (.int x1), some (.int x2), some (.int x3), some (.int x4), o5, o6] [] σ =
  exec PP 6 245 67 [some (.ref a0), some (.int x1), some (.int x2), some (.int x3), some (.int x4), some (.int 0), some (.int 0)] [] σ := (exec_eq PP 6 245 61 _ _ σ).trans rfl
set_option maxRecDepth 20000 in
theorem e_245_67 (a0 : Nat) (x1 : Int32) (x2 : Int32) (x3 : Int32) (x4 : Int32) (x5 : Int32) (x6 : Int32) (σ : SH) : exec PP 6 245 67 [some (.ref a0), some (.int x1), some (.int x2), some (.int x3), some (.int x4), some (.int x5), some (.int x6)] [] σ =
  if (x6 < x4 : Prop) then (if sT σ a0 = 112 then (onI (rn 232 [.ref a0, .int x1, .int (x3 + x6)] σ) (fun x23 σ21 =>
    if (x23 = 0 : Prop) then (exec PP 6 245 104 [some (.ref a0), some (.int x1), some (.int x2), some (.int x3), some (.int x4), some (.int x5), some (.int x6)] [.int x5] σ21)
      else (if sT σ21 a0 = 112 then (onI (rn 232 [.ref a0, .int x2, .int (x3 + x6)] σ21) (fun x26 σ24 =>
        if (x26 = 0 : Prop) then (exec PP 6 245 104 [some (.ref a0), some (.int x1), some (.int x2), some (.int x3), some (.int x4), some (.int x5), some (.int x6)] [.int x5] σ24)
          else (exec PP 6 245 105 [some (.ref a0), some (.int x1), some (.int x2), some (.int x3), some (.int x4), some (.int x5), some (.int x6)] [.int 1, .int x5] σ24)) (fun e25 σ24x => some (.inr e25, σ24x))) else none)) (fun e22 σ21x => some (.inr e22, σ21x))) else none)
  else (exec PP 6 245 114 [some (.ref a0), some (.int x1), some (.int x2), some (.int x3), some (.int x4), some (.int x5), some (.int x6)] [] σ) := (exec_eq PP 6 245 67 _ _ σ).trans rfl
set_option maxRecDepth 20000 in
theorem e_245_114 (o0 : Option Value) (o1 : Option Value) (o2 : Option Value) (o3 : Option Value) (o4 : Option Value) (x5 : Int32) (o6 : Option Value) (σ : SH) : exec PP 6 245 114 [o0, o1, o2, o3, o4, some (.int x5), o6] [] σ =
  some (.inl (some (.int x5)), σ) := (exec_eq PP 6 245 114 _ _ σ).trans rfl
set_option maxRecDepth 20000 in
theorem e_245_104 (a0 : Nat) (x1 : Int32) (x2 : Int32) (x3 : Int32) (x4 : Int32) (o5 : Option Value) (x6 : Int32) (w0 : Int32) (σ : SH) : exec PP 6 245 104 [some (.ref a0), some (.int x1), some (.int x2), some (.int x3), some (.int x4), o5, some (.int x6)] [.int w0] σ =
  exec PP 6 245 67 [some (.ref a0), some (.int x1), some (.int x2), some (.int x3), some (.int x4), some (.int (w0 + 0)), some (.int (x6 + 1))] [] σ := (exec_eq PP 6 245 104 _ _ σ).trans rfl
set_option maxRecDepth 20000 in
theorem e_245_105 (a0 : Nat) (x1 : Int32) (x2 : Int32) (x3 : Int32) (x4 : Int32) (o5 : Option Value) (x6 : Int32) (w0 : Int32) (w1 : Int32) (σ : SH) : exec PP 6 245 105 [some (.ref a0), some (.int x1), some (.int x2), some (.int x3), some (.int x4), o5, some (.int x6)] [.int w0, .int w1] σ =
  exec PP 6 245 67 [some (.ref a0), some (.int x1), some (.int x2), some (.int x3), some (.int x4), some (.int (w1 + w0)), some (.int (x6 + 1))] [] σ := (exec_eq PP 6 245 105 _ _ σ).trans rfl

/-! 246: ArchEndsModel.row(III)I -/
set_option maxRecDepth 20000 in
theorem r_246 (a0 : Nat) (x1 : Int32) (x2 : Int32) (x3 : Int32) (σ : SH) : rn 246 [.ref a0, .int x1, .int x2, .int x3] σ =
  pI σ 112 0 (.ref a0) 0 fun σ21 =>
  onI (rn 220 [.int x1, .int 1, .int 20] σ21) (fun x24 σ22 =>
  if (x24 = 0 : Prop) then (exec PP 6 246 23 [some (.ref a0), some (.int x1), some (.int x2), some (.int x3), none, none, none, none] [.ref a0] σ22)
    else (onI (rn 223 [.int x2] σ22) (fun x27 σ25 =>
      if (x27 = 0 : Prop) then (exec PP 6 246 27 [some (.ref a0), some (.int x1), some (.int x2), some (.int x3), none, none, none, none] [.ref a0] σ25)
        else (exec PP 6 246 28 [some (.ref a0), some (.int x1), some (.int x2), some (.int x3), none, none, none, none] [.int 1, .ref a0] σ25)) (fun e26 σ25x => some (.inr e26, σ25x)))) (fun e23 σ22x => some (.inr e23, σ22x)) := (exec_eq PP 6 246 0 _ _ σ).trans rfl
set_option maxRecDepth 20000 in
theorem e_246_23 (a0 : Nat) (x1 : Int32) (x2 : Int32) (x3 : Int32) (o4 : Option Value) (o5 : Option Value) (o6 : Option Value) (o7 : Option Value) (b0 : Nat) (σ : SH) : exec PP 6 246 23 [some (.ref a0), some (.int x1), some (.int x2), some (.int x3), o4, o5, o6, o7] [.ref b0] σ =
  exec PP 6 246 28 [some (.ref a0), some (.int x1), some (.int x2), some (.int x3), none, none, none, none] [.int 1, .ref b0] σ := (exec_eq PP 6 246 23 _ _ σ).trans rfl
set_option maxRecDepth 20000 in
theorem e_246_27 (a0 : Nat) (x1 : Int32) (x2 : Int32) (x3 : Int32) (o4 : Option Value) (o5 : Option Value) (o6 : Option Value) (o7 : Option Value) (b0 : Nat) (σ : SH) : exec PP 6 246 27 [some (.ref a0), some (.int x1), some (.int x2), some (.int x3), o4, o5, o6, o7] [.ref b0] σ =
  if sT σ b0 = 112 then (onI (rn 216 [.ref b0, .int 0, .int 1] σ) (fun x23 σ21 =>
  if (x23 = 0 : Prop) then (exec PP 6 246 37 [some (.ref a0), some (.int x1), some (.int x2), some (.int x3), none, none, none, none] [] σ21)
    else (some (.inl (some (.int 0)), σ21))) (fun e22 σ21x => some (.inr e22, σ21x))) else none := (exec_eq PP 6 246 27 _ _ σ).trans rfl
set_option maxRecDepth 20000 in
theorem e_246_28 (a0 : Nat) (x1 : Int32) (x2 : Int32) (x3 : Int32) (o4 : Option Value) (o5 : Option Value) (o6 : Option Value) (o7 : Option Value) (w0 : Int32) (b1 : Nat) (σ : SH) : exec PP 6 246 28 [some (.ref a0), some (.int x1), some (.int x2), some (.int x3), o4, o5, o6, o7] [.int w0, .ref b1] σ =
  if sT σ b1 = 112 then (onI (rn 216 [.ref b1, .int w0, .int 1] σ) (fun x23 σ21 =>
  if (x23 = 0 : Prop) then (exec PP 6 246 37 [some (.ref a0), some (.int x1), some (.int x2), some (.int x3), none, none, none, none] [] σ21)
    else (some (.inl (some (.int 0)), σ21))) (fun e22 σ21x => some (.inr e22, σ21x))) else none := (exec_eq PP 6 246 28 _ _ σ).trans rfl
set_option maxRecDepth 20000 in
theorem e_246_37 (a0 : Nat) (x1 : Int32) (x2 : Int32) (x3 : Int32) (o4 : Option Value) (o5 : Option Value) (o6 : Option Value) (o7 : Option Value) (σ : SH) : exec PP 6 246 37 [some (.ref a0), some (.int x1), some (.int x2), some (.int x3), o4, o5, o6, o7] [] σ =
  exec PP 6 246 49 [some (.ref a0), some (.int x1), some (.int x2), some (.int x3), some (.int 0), some (.int x2), some (.int (-1)), some (.int x2)] [] σ := (exec_eq PP 6 246 37 _ _ σ).trans rfl
set_option maxRecDepth 20000 in
theorem e_246_49 (a0 : Nat) (x1 : Int32) (x2 : Int32) (x3 : Int32) (x4 : Int32) (x5 : Int32) (x6 : Int32) (x7 : Int32) (σ : SH) : exec PP 6 246 49 [some (.ref a0), some (.int x1), some (.int x2), some (.int x3), some (.int x4), some (.int x5), some (.int x6), some (.int x7)] [] σ =
  if (x7 < (x2 + 96) : Prop) then (if (x7 < x5 : Prop) then (exec PP 6 246 108 [some (.ref a0), some (.int x1), some (.int x2), some (.int x3), some (.int x4), some (.int x5), some (.int x6), some (.int x7)] [] σ)
    else (gR σ 112 1 (.ref a0) fun a21 =>
      aI σ 1 (.ref a21) 6 fun x22 =>
      if sT σ a0 = 112 then (onI (rn 232 [.ref a0, .int x22, .int x7] σ) (fun x25 σ23 =>
      if (x25 = 0 : Prop) then (exec PP 6 246 108 [some (.ref a0), some (.int x1), some (.int x2), some (.int x3), some (.int x4), some (.int x5), some (.int x6), some (.int x7)] [] σ23)
        else (exec PP 6 246 84 [some (.ref a0), some (.int x1), some (.int x2), some (.int x3), some (.int x4), some (.int x5), some (.int x6), some (.int x7)] [] σ23)) (fun e24 σ23x => some (.inr e24, σ23x))) else none))
  else (exec PP 6 246 114 [some (.ref a0), some (.int x1), some (.int x2), some (.int x3), some (.int x4), some (.int x5), some (.int x6), some (.int x7)] [] σ) := (exec_eq PP 6 246 49 _ _ σ).trans rfl
set_option maxRecDepth 20000 in
theorem e_246_114 (o0 : Option Value) (o1 : Option Value) (o2 : Option Value) (x3 : Int32) (x4 : Int32) (o5 : Option Value) (x6 : Int32) (o7 : Option Value) (σ : SH) : exec PP 6 246 114 [o0, o1, o2, some (.int x3), some (.int x4), o5, some (.int x6), o7] [] σ =
  if (x3 = (-1) : Prop) then (exec PP 6 246 126 [none, none, none, some (.int x3), some (.int x4), none, some (.int x6), none] [.int x4] σ)
  else (exec PP 6 246 124 [none, none, none, some (.int x3), some (.int x4), none, some (.int x6), none] [] σ) := (exec_eq PP 6 246 114 _ _ σ).trans rfl
set_option maxRecDepth 20000 in
theorem e_246_108 (a0 : Nat) (x1 : Int32) (x2 : Int32) (x3 : Int32) (x4 : Int32) (x5 : Int32) (x6 : Int32) (x7 : Int32) (σ : SH) : exec PP 6 246 108 [some (.ref a0), some (.int x1), some (.int x2), some (.int x3), some (.int x4), some (.int x5), some (.int x6), some (.int x7)] [] σ =
  exec PP 6 246 49 [some (.ref a0), some (.int x1), some (.int x2), some (.int x3), some (.int x4), some (.int x5), some (.int x6), some (.int (x7 + 1))] [] σ := (exec_eq PP 6 246 108 _ _ σ).trans rfl
set_option maxRecDepth 20000 in
theorem e_246_84 (a0 : Nat) (x1 : Int32) (x2 : Int32) (x3 : Int32) (x4 : Int32) (o5 : Option Value) (x6 : Int32) (x7 : Int32) (σ : SH) : exec PP 6 246 84 [some (.ref a0), some (.int x1), some (.int x2), some (.int x3), some (.int x4), o5, some (.int x6), some (.int x7)] [] σ =
  if (x4 = x3 : Prop) then (exec PP 6 246 97 [some (.ref a0), some (.int x1), some (.int x2), some (.int x3), some (.int x4), none, some (.int x6), some (.int x7)] [.int x7] σ)
  else (exec PP 6 246 95 [some (.ref a0), some (.int x1), some (.int x2), some (.int x3), some (.int x4), none, some (.int x6), some (.int x7)] [] σ) := (exec_eq PP 6 246 84 _ _ σ).trans rfl
set_option maxRecDepth 20000 in
theorem e_246_124 (o0 : Option Value) (o1 : Option Value) (o2 : Option Value) (o3 : Option Value) (o4 : Option Value) (o5 : Option Value) (x6 : Int32) (o7 : Option Value) (σ : SH) : exec PP 6 246 124 [o0, o1, o2, o3, o4, o5, some (.int x6), o7] [] σ =
  some (.inl (some (.int x6)), σ) := (exec_eq PP 6 246 124 _ _ σ).trans rfl
set_option maxRecDepth 20000 in
theorem e_246_126 (o0 : Option Value) (o1 : Option Value) (o2 : Option Value) (o3 : Option Value) (o4 : Option Value) (o5 : Option Value) (o6 : Option Value) (o7 : Option Value) (w0 : Int32) (σ : SH) : exec PP 6 246 126 [o0, o1, o2, o3, o4, o5, o6, o7] [.int w0] σ =
  some (.inl (some (.int w0)), σ) := (exec_eq PP 6 246 126 _ _ σ).trans rfl
set_option maxRecDepth 20000 in
theorem e_246_95 (a0 : Nat) (x1 : Int32) (x2 : Int32) (x3 : Int32) (x4 : Int32) (o5 : Option Value) (x6 : Int32) (x7 : Int32) (σ : SH) : exec PP 6 246 95 [some (.ref a0), some (.int x1), some (.int x2), some (.int x3), some (.int x4), o5, some (.int x6), some (.int x7)] [] σ =
  exec PP 6 246 49 [some (.ref a0), some (.int x1), some (.int x2), some (.int x3), some (.int (x4 + 1)), some (.int (x7 + x1)), some (.int x6), some (.int (x7 + 1))] [] σ := (exec_eq PP 6 246 95 _ _ σ).trans rfl
set_option maxRecDepth 20000 in
theorem e_246_97 (a0 : Nat) (x1 : Int32) (x2 : Int32) (x3 : Int32) (x4 : Int32) (o5 : Option Value) (o6 : Option Value) (x7 : Int32) (w0 : Int32) (σ : SH) : exec PP 6 246 97 [some (.ref a0), some (.int x1), some (.int x2), some (.int x3), some (.int x4), o5, o6, some (.int x7)] [.int w0] σ =
  exec PP 6 246 49 [some (.ref a0), some (.int x1), some (.int x2), some (.int x3), some (.int (x4 + 1)), some (.int (x7 + x1)), some (.int w0), some (.int (x7 + 1))] [] σ := (exec_eq PP 6 246 97 _ _ σ).trans rfl

/-! 247: ArchEndsModel.dry()I -/
set_option maxRecDepth 20000 in
theorem r_247 (a0 : Nat) (σ : SH) : rn 247 [.ref a0] σ =
  pI σ 112 0 (.ref a0) 0 fun σ21 =>
  exec PP 2 247 9 [some (.ref a0), some (.int (-1)), some (.int 0)] [] σ21 := (exec_eq PP 2 247 0 _ _ σ).trans rfl
set_option maxRecDepth 20000 in
theorem e_247_9 (a0 : Nat) (x1 : Int32) (x2 : Int32) (σ : SH) : exec PP 2 247 9 [some (.ref a0), some (.int x1), some (.int x2)] [] σ =
  if sT σ a0 = 112 then (onI (rn 195 [.ref a0] σ) (fun x23 σ21 =>
  if (x2 < x23 : Prop) then (if sT σ21 a0 = 112 then (onI (rn 221 [.ref a0, .int x2, .int 6] σ21) (fun x26 σ24 =>
      if (x26 = 2 : Prop) then (exec PP 2 247 42 [some (.ref a0), some (.int x1), some (.int x2)] [.int x1] σ24)
        else (exec PP 2 247 32 [some (.ref a0), some (.int x1), some (.int x2)] [] σ24)) (fun e25 σ24x => some (.inr e25, σ24x))) else none)
    else (exec PP 2 247 49 [some (.ref a0), some (.int x1), some (.int x2)] [] σ21)) (fun e22 σ21x => some (.inr e22, σ21x))) else none := (exec_eq PP 2 247 9 _ _ σ).trans rfl
set_option maxRecDepth 20000 in
theorem e_247_49 (a0 : Nat) (x1 : Int32) (o2 : Option Value) (σ : SH) : exec PP 2 247 49 [some (.ref a0), some (.int x1), o2] [] σ =
  gR σ 112 1 (.ref a0) fun a21 =>
  aI σ 1 (.ref a21) 5 fun x22 =>
  onI (rn 327 [.int 0, .int ((x1 + 1) - x22)] σ) (fun x25 σ23 =>
  if (200 < x25 : Prop) then (exec PP 2 247 76 [some (.ref a0), some (.int x1), some (.int x25)] [.int (-1)] σ23)
    else (exec PP 2 247 75 [some (.ref a0), some (.int x1), some (.int x25)] [] σ23)) (fun e24 σ23x => some (.inr e24, σ23x)) := (exec_eq PP 2 247 49 _ _ σ).trans rfl
set_option maxRecDepth 20000 in
theorem e_247_32 (a0 : Nat) (x1 : Int32) (x2 : Int32) (σ : SH) : exec PP 2 247 32 [some (.ref a0), some (.int x1), some (.int x2)] [] σ =
  if sT σ a0 = 112 then (onI (rn 221 [.ref a0, .int x2, .int 3] σ) (fun x23 σ21 =>
  onI (rn 327 [.int x1, .int x23] σ21) (fun x26 σ24 =>
    exec PP 2 247 9 [some (.ref a0), some (.int x26), some (.int (x2 + 1))] [] σ24) (fun e25 σ24x => some (.inr e25, σ24x))) (fun e22 σ21x => some (.inr e22, σ21x))) else none := (exec_eq PP 2 247 32 _ _ σ).trans rfl
set_option maxRecDepth 20000 in
theorem e_247_42 (a0 : Nat) (o1 : Option Value) (x2 : Int32) (w0 : Int32) (σ : SH) : exec PP 2 247 42 [some (.ref a0), o1, some (.int x2)] [.int w0] σ =
  exec PP 2 247 9 [some (.ref a0), some (.int w0), some (.int (x2 + 1))] [] σ := (exec_eq PP 2 247 42 _ _ σ).trans rfl
set_option maxRecDepth 20000 in
theorem e_247_75 (o0 : Option Value) (o1 : Option Value) (x2 : Int32) (σ : SH) : exec PP 2 247 75 [o0, o1, some (.int x2)] [] σ =
  some (.inl (some (.int x2)), σ) := (exec_eq PP 2 247 75 _ _ σ).trans rfl
set_option maxRecDepth 20000 in
theorem e_247_76 (o0 : Option Value) (o1 : Option Value) (o2 : Option Value) (w0 : Int32) (σ : SH) : exec PP 2 247 76 [o0, o1, o2] [.int w0] σ =
  some (.inl (some (.int w0)), σ) := (exec_eq PP 2 247 76 _ _ σ).trans rfl
