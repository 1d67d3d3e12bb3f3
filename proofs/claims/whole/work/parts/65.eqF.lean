/-! 248: ArchEndsModel.broker(II)I -/
set_option maxRecDepth 20000 in
theorem r_248 (a0 : Nat) (x1 : Int32) (x2 : Int32) (σ : SH) : rn 248 [.ref a0, .int x1, .int x2] σ =
  pI σ 112 0 (.ref a0) 0 fun σ21 =>
  if sT σ21 a0 = 112 then (onI (rn 249 [.ref a0, .int x1] σ21) (fun x24 σ22 =>
  if sT σ22 a0 = 112 then (onI (rn 216 [.ref a0, .int x24, .int 1] σ22) (fun x27 σ25 =>
    if (x27 = 0 : Prop) then (onI (rn 220 [.int x2, .int 0, .int 5] σ25) (fun x30 σ28 =>
        if (x30 = 0 : Prop) then (exec PP 9 248 33 [some (.ref a0), some (.int x1), some (.int x2)] [.int 1, .ref a0] σ28)
          else (exec PP 9 248 32 [some (.ref a0), some (.int x1), some (.int x2)] [.ref a0] σ28)) (fun e29 σ28x => some (.inr e29, σ28x)))
      else (exec PP 9 248 40 [some (.ref a0), some (.int x1), some (.int x2)] [] σ25)) (fun e26 σ25x => some (.inr e26, σ25x))) else none) (fun e23 σ22x => some (.inr e23, σ22x))) else none := (exec_eq PP 9 248 0 _ _ σ).trans rfl
set_option maxRecDepth 20000 in
theorem e_248_40 (o0 : Option Value) (o1 : Option Value) (o2 : Option Value) (σ : SH) : exec PP 9 248 40 [o0, o1, o2] [] σ =
  some (.inl (some (.int 0)), σ) := (exec_eq PP 9 248 40 _ _ σ).trans rfl
set_option maxRecDepth 20000 in
theorem e_248_32 (a0 : Nat) (x1 : Int32) (x2 : Int32) (b0 : Nat) (σ : SH) : exec PP 9 248 32 [some (.ref a0), some (.int x1), some (.int x2)] [.ref b0] σ =
  if sT σ b0 = 112 then (onI (rn 216 [.ref b0, .int 0, .int 2] σ) (fun x23 σ21 =>
  if (x23 = 0 : Prop) then (exec PP 9 248 42 [some (.ref a0), some (.int x1), some (.int x2)] [] σ21)
    else (some (.inl (some (.int 0)), σ21))) (fun e22 σ21x => some (.inr e22, σ21x))) else none := (exec_eq PP 9 248 32 _ _ σ).trans rfl
set_option maxRecDepth 20000 in
theorem e_248_33 (a0 : Nat) (x1 : Int32) (x2 : Int32) (w0 : Int32) (b1 : Nat) (σ : SH) : exec PP 9 248 33 [some (.ref a0), some (.int x1), some (.int x2)] [.int w0, .ref b1] σ =
  if sT σ b1 = 112 then (onI (rn 216 [.ref b1, .int w0, .int 2] σ) (fun x23 σ21 =>
  if (x23 = 0 : Prop) then (exec PP 9 248 42 [some (.ref a0), some (.int x1), some (.int x2)] [] σ21)
    else (some (.inl (some (.int 0)), σ21))) (fun e22 σ21x => some (.inr e22, σ21x))) else none := (exec_eq PP 9 248 33 _ _ σ).trans rfl
set_option maxRecDepth 20000 in
theorem e_248_42 (a0 : Nat) (x1 : Int32) (x2 : Int32) (σ : SH) : exec PP 9 248 42 [some (.ref a0), some (.int x1), some (.int x2)] [] σ =
  if x2 = 3 then (exec PP 9 248 68 [some (.ref a0), some (.int x1), some (.int x2)] [] σ)
  else if x2 = 4 then (exec PP 9 248 74 [some (.ref a0), some (.int x1), some (.int x2)] [] σ)
  else if x2 = 5 then (exec PP 9 248 80 [some (.ref a0), some (.int x1), some (.int x2)] [] σ)
  else (exec PP 9 248 86 [some (.ref a0), some (.int x1), some (.int x2)] [] σ) := (exec_eq PP 9 248 42 _ _ σ).trans rfl
set_option maxRecDepth 20000 in
theorem e_248_86 (a0 : Nat) (x1 : Int32) (x2 : Int32) (σ : SH) : exec PP 9 248 86 [some (.ref a0), some (.int x1), some (.int x2)] [] σ =
  if sT σ a0 = 112 then (onI (rn 251 [.ref a0, .int x1, .int x2] σ) (fun x23 σ21 =>
  some (.inl (some (.int x23)), σ21)) (fun e22 σ21x => some (.inr e22, σ21x))) else none := (exec_eq PP 9 248 86 _ _ σ).trans rfl
set_option maxRecDepth 20000 in
theorem e_248_68 (a0 : Nat) (x1 : Int32) (o2 : Option Value) (σ : SH) : exec PP 9 248 68 [some (.ref a0), some (.int x1), o2] [] σ =
  if sT σ a0 = 112 then (onI (rn 250 [.ref a0, .int x1] σ) (fun x23 σ21 =>
  some (.inl (some (.int x23)), σ21)) (fun e22 σ21x => some (.inr e22, σ21x))) else none := (exec_eq PP 9 248 68 _ _ σ).trans rfl
set_option maxRecDepth 20000 in
theorem e_248_74 (a0 : Nat) (x1 : Int32) (o2 : Option Value) (σ : SH) : exec PP 9 248 74 [some (.ref a0), some (.int x1), o2] [] σ =
  if sT σ a0 = 112 then (onI (rn 259 [.ref a0, .int x1] σ) (fun x23 σ21 =>
  some (.inl (some (.int x23)), σ21)) (fun e22 σ21x => some (.inr e22, σ21x))) else none := (exec_eq PP 9 248 74 _ _ σ).trans rfl
set_option maxRecDepth 20000 in
theorem e_248_80 (a0 : Nat) (x1 : Int32) (o2 : Option Value) (σ : SH) : exec PP 9 248 80 [some (.ref a0), some (.int x1), o2] [] σ =
  if sT σ a0 = 112 then (onI (rn 260 [.ref a0, .int x1] σ) (fun x23 σ21 =>
  some (.inl (some (.int x23)), σ21)) (fun e22 σ21x => some (.inr e22, σ21x))) else none := (exec_eq PP 9 248 80 _ _ σ).trans rfl

/-! 249: ArchEndsModel.noBroker(I)Z -/
set_option maxRecDepth 20000 in
theorem r_249 (a0 : Nat) (x1 : Int32) (σ : SH) : rn 249 [.ref a0, .int x1] σ =
  if sT σ a0 = 112 then (onI (rn 201 [.ref a0] σ) (fun x23 σ21 =>
  onI (rn 220 [.int x1, .int 0, .int (x23 - 1)] σ21) (fun x26 σ24 =>
    if (x26 = 0 : Prop) then (exec PP 2 249 19 [some (.ref a0), some (.int x1)] [.int 1] σ24)
      else (exec PP 2 249 18 [some (.ref a0), some (.int x1)] [] σ24)) (fun e25 σ24x => some (.inr e25, σ24x))) (fun e22 σ21x => some (.inr e22, σ21x))) else none := (exec_eq PP 2 249 0 _ _ σ).trans rfl
set_option maxRecDepth 20000 in
theorem e_249_18 (o0 : Option Value) (o1 : Option Value) (σ : SH) : exec PP 2 249 18 [o0, o1] [] σ =
  some (.inl (some (.int 0)), σ) := (exec_eq PP 2 249 18 _ _ σ).trans rfl
set_option maxRecDepth 20000 in
theorem e_249_19 (o0 : Option Value) (o1 : Option Value) (w0 : Int32) (σ : SH) : exec PP 2 249 19 [o0, o1] [.int w0] σ =
  if w0 = 0 ∨ w0 = 1 then some (.inl (some (.int w0)), σ) else none := (exec_eq PP 2 249 19 _ _ σ).trans rfl

/-! 250: ArchEndsModel.walksBy(I)I -/
set_option maxRecDepth 20000 in
theorem r_250 (a0 : Nat) (x1 : Int32) (σ : SH) : rn 250 [.ref a0, .int x1] σ =
  if sT σ a0 = 112 then (onI (rn 251 [.ref a0, .int x1, .int 2] σ) (fun x23 σ21 =>
  if sT σ21 a0 = 112 then (onI (rn 251 [.ref a0, .int x1, .int 1] σ21) (fun x26 σ24 =>
    gR σ24 112 1 (.ref a0) fun a27 =>
      aI σ24 1 (.ref a27) 5 fun x28 =>
      if sT σ24 a0 = 112 then (onI (rn 252 [.ref a0, .int 2, .int x26, .int x28, .int x1] σ24) (fun x31 σ29 =>
      onI (rn 327 [.int 0, .int (x23 - x31)] σ29) (fun x34 σ32 =>
        some (.inl (some (.int x34)), σ32)) (fun e33 σ32x => some (.inr e33, σ32x))) (fun e30 σ29x => some (.inr e30, σ29x))) else none) (fun e25 σ24x => some (.inr e25, σ24x))) else none) (fun e22 σ21x => some (.inr e22, σ21x))) else none := (exec_eq PP 8 250 0 _ _ σ).trans rfl

/-! 251: ArchEndsModel.of(II)I -/
set_option maxRecDepth 20000 in
theorem r_251 (a0 : Nat) (x1 : Int32) (x2 : Int32) (σ : SH) : rn 251 [.ref a0, .int x1, .int x2] σ =
  gR σ 112 1 (.ref a0) fun a21 =>
  onI (rn 202 [.int x1, .int x2] σ) (fun x24 σ22 =>
  aI σ22 1 (.ref a21) x24 fun x25 =>
    some (.inl (some (.int x25)), σ22)) (fun e23 σ22x => some (.inr e23, σ22x)) := (exec_eq PP 2 251 0 _ _ σ).trans rfl

/-! 252: ArchEndsModel.sumOf(IIII)I -/
set_option maxRecDepth 20000 in
theorem r_252 (a0 : Nat) (x1 : Int32) (x2 : Int32) (x3 : Int32) (x4 : Int32) (σ : SH) : rn 252 [.ref a0, .int x1, .int x2, .int x3, .int x4] σ =
  pI σ 112 18 (.ref a0) x2 fun σ21 =>
  pI σ21 112 19 (.ref a0) x3 fun σ22 =>
  pI σ22 112 20 (.ref a0) x4 fun σ23 =>
  exec PP 7 252 22 [some (.ref a0), some (.int x1), some (.int x2), some (.int x3), some (.int x4), some (.int 0), some (.int 0)] [] σ23 := (exec_eq PP 7 252 0 _ _ σ).trans rfl
set_option maxRecDepth 20000 in
theorem e_252_22 (a0 : Nat) (x1 : Int32) (o2 : Option Value) (o3 : Option Value) (o4 : Option Value) (x5 : Int32) (x6 : Int32) (σ : SH) : exec PP 7 252 22 [some (.ref a0), some (.int x1), o2, o3, o4, some (.int x5), some (.int x6)] [] σ =
  gR σ 112 1 (.ref a0) fun a21 =>
  aI σ 1 (.ref a21) 4 fun x22 =>
  if (x22 = 1 : Prop) then (gR σ 112 1 (.ref a0) fun a23 =>
    aI σ 1 (.ref a23) 363 fun x24 =>
    if (x6 < x24 : Prop) then (gR σ 112 1 (.ref a0) fun a25 =>
      aI σ 1 (.ref a25) (364 + (4 * x6)) fun x26 =>
      if (x26 = x1 : Prop) then (if sT σ a0 = 112 then (onI (rn 253 [.ref a0, .int x6] σ) (fun x29 σ27 =>
        if (x29 = 0 : Prop) then (exec PP 7 252 91 [some (.ref a0), some (.int x1), none, none, none, some (.int x5), some (.int x6)] [] σ27)
          else (gR σ27 112 1 (.ref a0) fun a30 =>
            aI σ27 1 (.ref a30) ((364 + (4 * x6)) + 1) fun x31 =>
            exec PP 7 252 22 [some (.ref a0), some (.int x1), none, none, none, some (.int (x5 + x31)), some (.int (x6 + 1))] [] σ27)) (fun e28 σ27x => some (.inr e28, σ27x))) else none)
      else (exec PP 7 252 91 [some (.ref a0), some (.int x1), none, none, none, some (.int x5), some (.int x6)] [] σ))
    else (exec PP 7 252 97 [some (.ref a0), some (.int x1), none, none, none, some (.int x5), some (.int x6)] [] σ))
  else (exec PP 7 252 97 [some (.ref a0), some (.int x1), none, none, none, some (.int x5), some (.int x6)] [] σ) := (exec_eq PP 7 252 22 _ _ σ).trans rfl
set_option maxRecDepth 20000 in
theorem e_252_97 (o0 : Option Value) (o1 : Option Value) (o2 : Option Value) (o3 : Option Value) (o4 : Option Value) (x5 : Int32) (o6 : Option Value) (σ : SH) : exec PP 7 252 97 [o0, o1, o2, o3, o4, some (.int x5), o6] [] σ =
  some (.inl (some (.int x5)), σ) := (exec_eq PP 7 252 97 _ _ σ).trans rfl
set_option maxRecDepth 20000 in
theorem e_252_91 (a0 : Nat) (x1 : Int32) (o2 : Option Value) (o3 : Option Value) (o4 : Option Value) (x5 : Int32) (x6 : Int32) (σ : SH) : exec PP 7 252 91 [some (.ref a0), some (.int x1), o2, o3, o4, some (.int x5), some (.int x6)] [] σ =
  exec PP 7 252 22 [some (.ref a0), some (.int x1), none, none, none, some (.int x5), some (.int (x6 + 1))] [] σ := (exec_eq PP 7 252 91 _ _ σ).trans rfl

/-! 253: ArchEndsModel.holdsLine(I)Z -/
set_option maxRecDepth 20000 in
theorem r_253 (a0 : Nat) (x1 : Int32) (σ : SH) : rn 253 [.ref a0, .int x1] σ =
  gR σ 112 1 (.ref a0) fun a21 =>
  aI σ 1 (.ref a21) ((364 + (4 * x1)) + 2) fun x22 =>
  exec PP 6 253 20 [some (.ref a0), some (.int x1), some (.int 0), some (.int (364 + (4 * x1))), some (.int x22), none, none, none, none] [] σ := (exec_eq PP 6 253 0 _ _ σ).trans rfl
set_option maxRecDepth 20000 in
theorem e_253_20 (a0 : Nat) (o1 : Option Value) (x2 : Int32) (x3 : Int32) (x4 : Int32) (o5 : Option Value) (o6 : Option Value) (o7 : Option Value) (o8 : Option Value) (σ : SH) : exec PP 6 253 20 [some (.ref a0), o1, some (.int x2), some (.int x3), some (.int x4), o5, o6, o7, o8] [] σ =
  gR σ 112 1 (.ref a0) fun a21 =>
  aI σ 1 (.ref a21) (x3 + 3) fun x22 =>
  if (x4 < x22 : Prop) then (gR σ 112 1 (.ref a0) fun a23 =>
    aI σ 1 (.ref a23) (412 + (2 * x4)) fun x24 =>
    if (8 < x24 : Prop) then (exec PP 6 253 88 [some (.ref a0), none, some (.int x2), some (.int x3), some (.int x4), some (.int x24), none, none, none] [] σ)
    else (gR σ 112 17 (.ref a0) fun a25 =>
      gR σ 112 1 (.ref a0) fun a26 =>
      aI σ 1 (.ref a26) ((412 + (2 * x4)) + 1) fun x27 =>
      if sT σ a0 = 112 then (onI (rn 254 [.ref a0, .int x24, .int x27] σ) (fun x30 σ28 =>
      uI σ28 (.ref a25) x2 x30 fun σ31 =>
        exec PP 6 253 253 [some (.ref a0), none, some (.int (x2 + 1)), some (.int x3), some (.int x4), some (.int x24), none, none, none] [] σ31) (fun e29 σ28x => some (.inr e29, σ28x))) else none))
  else (exec PP 6 253 259 [some (.ref a0), none, some (.int x2), some (.int x3), some (.int x4), none, none, none, none] [] σ) := (exec_eq PP 6 253 20 _ _ σ).trans rfl
set_option maxRecDepth 20000 in
theorem e_253_259 (a0 : Nat) (o1 : Option Value) (x2 : Int32) (o3 : Option Value) (o4 : Option Value) (o5 : Option Value) (o6 : Option Value) (o7 : Option Value) (o8 : Option Value) (σ : SH) : exec PP 6 253 259 [some (.ref a0), o1, some (.int x2), o3, o4, o5, o6, o7, o8] [] σ =
  if (x2 = 0 : Prop) then (exec PP 6 253 273 [some (.ref a0), none, some (.int x2), none, none, none, none, none, none] [] σ)
  else (gR σ 112 17 (.ref a0) fun a21 =>
    aI σ 1 (.ref a21) 0 fun x22 =>
    if (x22 = 1 : Prop) then (exec PP 6 253 278 [none, none, none, none, none, none, none, none, none] [.int 1] σ)
    else (exec PP 6 253 277 [some (.ref a0), none, some (.int x2), none, none, none, none, none, none] [] σ)) := (exec_eq PP 6 253 259 _ _ σ).trans rfl
set_option maxRecDepth 20000 in
theorem e_253_88 (a0 : Nat) (o1 : Option Value) (x2 : Int32) (x3 : Int32) (x4 : Int32) (x5 : Int32) (o6 : Option Value) (o7 : Option Value) (o8 : Option Value) (σ : SH) : exec PP 6 253 88 [some (.ref a0), o1, some (.int x2), some (.int x3), some (.int x4), some (.int x5), o6, o7, o8] [] σ =
  if (x5 = 12 : Prop) then (gR σ 112 17 (.ref a0) fun a21 =>
    gR σ 112 17 (.ref a0) fun a22 =>
    aI σ 1 (.ref a22) (x2 - 1) fun x23 =>
    uI σ (.ref a21) (x2 - 1) (1 - x23) fun σ24 =>
    exec PP 6 253 253 [some (.ref a0), none, some (.int x2), some (.int x3), some (.int x4), some (.int x5), none, none, none] [] σ24)
  else (exec PP 6 253 116 [some (.ref a0), none, some (.int x2), some (.int x3), some (.int x4), some (.int x5), none, none, none] [] σ) := (exec_eq PP 6 253 88 _ _ σ).trans rfl
set_option maxRecDepth 20000 in
theorem e_253_253 (a0 : Nat) (o1 : Option Value) (x2 : Int32) (x3 : Int32) (x4 : Int32) (o5 : Option Value) (o6 : Option Value) (o7 : Option Value) (o8 : Option Value) (σ : SH) : exec PP 6 253 253 [some (.ref a0), o1, some (.int x2), some (.int x3), some (.int x4), o5, o6, o7, o8] [] σ =
  exec PP 6 253 20 [some (.ref a0), none, some (.int x2), some (.int x3), some (.int (x4 + 1)), none, none, none, none] [] σ := (exec_eq PP 6 253 253 _ _ σ).trans rfl
set_option maxRecDepth 20000 in
theorem e_253_273 (o0 : Option Value) (o1 : Option Value) (o2 : Option Value) (o3 : Option Value) (o4 : Option Value) (o5 : Option Value) (o6 : Option Value) (o7 : Option Value) (o8 : Option Value) (σ : SH) : exec PP 6 253 273 [o0, o1, o2, o3, o4, o5, o6, o7, o8] [] σ =
  exec PP 6 253 278 [none, none, none, none, none, none, none, none, none] [.int 1] σ := (exec_eq PP 6 253 273 _ _ σ).trans rfl
set_option maxRecDepth 20000 in
theorem e_253_277 (o0 : Option Value) (o1 : Option Value) (o2 : Option Value) (o3 : Option Value) (o4 : Option Value) (o5 : Option Value) (o6 : Option Value) (o7 : Option Value) (o8 : Option Value) (σ : SH) : exec PP 6 253 277 [o0, o1, o2, o3, o4, o5, o6, o7, o8] [] σ =
  some (.inl (some (.int 0)), σ) := (exec_eq PP 6 253 277 _ _ σ).trans rfl
set_option maxRecDepth 20000 in
theorem e_253_278 (o0 : Option Value) (o1 : Option Value) (o2 : Option Value) (o3 : Option Value) (o4 : Option Value) (o5 : Option Value) (o6 : Option Value) (o7 : Option Value) (o8 : Option Value) (w0 : Int32) (σ : SH) : exec PP 6 253 278 [o0, o1, o2, o3, o4, o5, o6, o7, o8] [.int w0] σ =
  if w0 = 0 ∨ w0 = 1 then some (.inl (some (.int w0)), σ) else none := (exec_eq PP 6 253 278 _ _ σ).trans rfl
set_option maxRecDepth 20000 in
theorem e_253_116 (a0 : Nat) (o1 : Option Value) (x2 : Int32) (x3 : Int32) (x4 : Int32) (x5 : Int32) (o6 : Option Value) (o7 : Option Value) (o8 : Option Value) (σ : SH) : exec PP 6 253 116 [some (.ref a0), o1, some (.int x2), some (.int x3), some (.int x4), some (.int x5), o6, o7, o8] [] σ =
  gR σ 112 17 (.ref a0) fun a21 =>
  aI σ 1 (.ref a21) ((x2 + (-1)) - 1) fun x22 =>
  gR σ 112 17 (.ref a0) fun a23 =>
  aI σ 1 (.ref a23) (x2 + (-1)) fun x24 =>
  if (x5 = 10 : Prop) then (if (x22 < x24 : Prop) then (exec PP 6 253 218 [some (.ref a0), none, some (.int (x2 + (-1))), some (.int x3), some (.int x4), some (.int x5), some (.int x22), some (.int x24), none] [.int 1] σ)
    else (exec PP 6 253 155 [some (.ref a0), none, some (.int (x2 + (-1))), some (.int x3), some (.int x4), some (.int x5), some (.int x22), some (.int x24), none] [] σ))
  else (exec PP 6 253 159 [some (.ref a0), none, some (.int (x2 + (-1))), some (.int x3), some (.int x4), some (.int x5), some (.int x22), some (.int x24), none] [] σ) := (exec_eq PP 6 253 116 _ _ σ).trans rfl
set_option maxRecDepth 20000 in
theorem e_253_159 (a0 : Nat) (o1 : Option Value) (x2 : Int32) (x3 : Int32) (x4 : Int32) (x5 : Int32) (x6 : Int32) (x7 : Int32) (o8 : Option Value) (σ : SH) : exec PP 6 253 159 [some (.ref a0), o1, some (.int x2), some (.int x3), some (.int x4), some (.int x5), some (.int x6), some (.int x7), o8] [] σ =
  if (x5 = 11 : Prop) then (if (x7 < x6 : Prop) then (exec PP 6 253 218 [some (.ref a0), none, some (.int x2), some (.int x3), some (.int x4), some (.int x5), some (.int x6), some (.int x7), none] [.int 1] σ)
    else (exec PP 6 253 177 [some (.ref a0), none, some (.int x2), some (.int x3), some (.int x4), some (.int x5), some (.int x6), some (.int x7), none] [] σ))
  else (exec PP 6 253 181 [some (.ref a0), none, some (.int x2), some (.int x3), some (.int x4), some (.int x5), some (.int x6), some (.int x7), none] [] σ) := (exec_eq PP 6 253 159 _ _ σ).trans rfl
set_option maxRecDepth 20000 in
theorem e_253_155 (a0 : Nat) (o1 : Option Value) (x2 : Int32) (x3 : Int32) (x4 : Int32) (x5 : Int32) (x6 : Int32) (x7 : Int32) (o8 : Option Value) (σ : SH) : exec PP 6 253 155 [some (.ref a0), o1, some (.int x2), some (.int x3), some (.int x4), some (.int x5), some (.int x6), some (.int x7), o8] [] σ =
  exec PP 6 253 218 [some (.ref a0), none, some (.int x2), some (.int x3), some (.int x4), some (.int x5), some (.int x6), some (.int x7), none] [.int 0] σ := (exec_eq PP 6 253 155 _ _ σ).trans rfl
set_option maxRecDepth 20000 in
theorem e_253_218 (a0 : Nat) (o1 : Option Value) (x2 : Int32) (x3 : Int32) (x4 : Int32) (x5 : Int32) (x6 : Int32) (x7 : Int32) (o8 : Option Value) (w0 : Int32) (σ : SH) : exec PP 6 253 218 [some (.ref a0), o1, some (.int x2), some (.int x3), some (.int x4), some (.int x5), some (.int x6), some (.int x7), o8] [.int w0] σ =
  gR σ 112 17 (.ref a0) fun a21 =>
  if (x5 = 9 : Prop) then (exec PP 6 253 252 [some (.ref a0), none, some (.int x2), some (.int x3), some (.int x4), some (.int x5), some (.int x6), some (.int x7), some (.int w0)] [.int (x6 + x7), .int (x2 - 1), .ref a21] σ)
  else (exec PP 6 253 242 [some (.ref a0), none, some (.int x2), some (.int x3), some (.int x4), some (.int x5), some (.int x6), some (.int x7), some (.int w0)] [.int (x2 - 1), .ref a21] σ) := (exec_eq PP 6 253 218 _ _ σ).trans rfl
set_option maxRecDepth 20000 in
theorem e_253_181 (a0 : Nat) (o1 : Option Value) (x2 : Int32) (x3 : Int32) (x4 : Int32) (x5 : Int32) (x6 : Int32) (x7 : Int32) (o8 : Option Value) (σ : SH) : exec PP 6 253 181 [some (.ref a0), o1, some (.int x2), some (.int x3), some (.int x4), some (.int x5), some (.int x6), some (.int x7), o8] [] σ =
  if (x5 = 13 : Prop) then (if (((x6 + x7) : Int32) = 2 : Prop) then (exec PP 6 253 218 [some (.ref a0), none, some (.int x2), some (.int x3), some (.int x4), some (.int x5), some (.int x6), some (.int x7), none] [.int 1] σ)
    else (exec PP 6 253 201 [some (.ref a0), none, some (.int x2), some (.int x3), some (.int x4), some (.int x5), some (.int x6), some (.int x7), none] [] σ))
  else (exec PP 6 253 205 [some (.ref a0), none, some (.int x2), some (.int x3), some (.int x4), some (.int x5), some (.int x6), some (.int x7), none] [] σ) := (exec_eq PP 6 253 181 _ _ σ).trans rfl
set_option maxRecDepth 20000 in
theorem e_253_177 (a0 : Nat) (o1 : Option Value) (x2 : Int32) (x3 : Int32) (x4 : Int32) (x5 : Int32) (x6 : Int32) (x7 : Int32) (o8 : Option Value) (σ : SH) : exec PP 6 253 177 [some (.ref a0), o1, some (.int x2), some (.int x3), some (.int x4), some (.int x5), some (.int x6), some (.int x7), o8] [] σ =
  exec PP 6 253 218 [some (.ref a0), none, some (.int x2), some (.int x3), some (.int x4), some (.int x5), some (.int x6), some (.int x7), none] [.int 0] σ := (exec_eq PP 6 253 177 _ _ σ).trans rfl
set_option maxRecDepth 20000 in
theorem e_253_242 (a0 : Nat) (o1 : Option Value) (x2 : Int32) (x3 : Int32) (x4 : Int32) (o5 : Option Value) (o6 : Option Value) (o7 : Option Value) (x8 : Int32) (w0 : Int32) (b1 : Nat) (σ : SH) : exec PP 6 253 242 [some (.ref a0), o1, some (.int x2), some (.int x3), some (.int x4), o5, o6, o7, some (.int x8)] [.int w0, .ref b1] σ =
  if (x8 = 0 : Prop) then (exec PP 6 253 251 [some (.ref a0), none, some (.int x2), some (.int x3), some (.int x4), none, none, none, some (.int x8)] [.int w0, .ref b1] σ)
  else (exec PP 6 253 252 [some (.ref a0), none, some (.int x2), some (.int x3), some (.int x4), none, none, none, some (.int x8)] [.int 1, .int w0, .ref b1] σ) := (exec_eq PP 6 253 242 _ _ σ).trans rfl
set_option maxRecDepth 20000 in
theorem e_253_252 (a0 : Nat) (o1 : Option Value) (x2 : Int32) (x3 : Int32) (x4 : Int32) (o5 : Option Value) (o6 : Option Value) (o7 : Option Value) (o8 : Option Value) (w0 : Int32) (w1 : Int32) (b2 : Nat) (σ : SH) : exec PP 6 253 252 [some (.ref a0), o1, some (.int x2), some (.int x3), some (.int x4), o5, o6, o7, o8] [.int w0, .int w1, .ref b2] σ =
  uI σ (.ref b2) w1 w0 fun σ21 =>
  exec PP 6 253 20 [some (.ref a0), none, some (.int x2), some (.int x3), some (.int (x4 + 1)), none, none, none, none] [] σ21 := (exec_eq PP 6 253 252 _ _ σ).trans rfl
set_option maxRecDepth 20000 in
theorem e_253_205 (a0 : Nat) (o1 : Option Value) (x2 : Int32) (x3 : Int32) (x4 : Int32) (x5 : Int32) (x6 : Int32) (x7 : Int32) (o8 : Option Value) (σ : SH) : exec PP 6 253 205 [some (.ref a0), o1, some (.int x2), some (.int x3), some (.int x4), some (.int x5), some (.int x6), some (.int x7), o8] [] σ =
  if (0 < ((x6 + x7) : Int32) : Prop) then (exec PP 6 253 218 [some (.ref a0), none, some (.int x2), some (.int x3), some (.int x4), some (.int x5), some (.int x6), some (.int x7), none] [.int 1] σ)
  else (exec PP 6 253 217 [some (.ref a0), none, some (.int x2), some (.int x3), some (.int x4), some (.int x5), some (.int x6), some (.int x7), none] [] σ) := (exec_eq PP 6 253 205 _ _ σ).trans rfl
set_option maxRecDepth 20000 in
theorem e_253_201 (a0 : Nat) (o1 : Option Value) (x2 : Int32) (x3 : Int32) (x4 : Int32) (x5 : Int32) (x6 : Int32) (x7 : Int32) (o8 : Option Value) (σ : SH) : exec PP 6 253 201 [some (.ref a0), o1, some (.int x2), some (.int x3), some (.int x4), some (.int x5), some (.int x6), some (.int x7), o8] [] σ =
  exec PP 6 253 218 [some (.ref a0), none, some (.int x2), some (.int x3), some (.int x4), some (.int x5), some (.int x6), some (.int x7), none] [.int 0] σ := (exec_eq PP 6 253 201 _ _ σ).trans rfl
set_option maxRecDepth 20000 in
theorem e_253_251 (a0 : Nat) (o1 : Option Value) (x2 : Int32) (x3 : Int32) (x4 : Int32) (o5 : Option Value) (o6 : Option Value) (o7 : Option Value) (o8 : Option Value) (w0 : Int32) (b1 : Nat) (σ : SH) : exec PP 6 253 251 [some (.ref a0), o1, some (.int x2), some (.int x3), some (.int x4), o5, o6, o7, o8] [.int w0, .ref b1] σ =
  uI σ (.ref b1) w0 0 fun σ21 =>
  exec PP 6 253 20 [some (.ref a0), none, some (.int x2), some (.int x3), some (.int (x4 + 1)), none, none, none, none] [] σ21 := (exec_eq PP 6 253 251 _ _ σ).trans rfl
set_option maxRecDepth 20000 in
theorem e_253_217 (a0 : Nat) (o1 : Option Value) (x2 : Int32) (x3 : Int32) (x4 : Int32) (x5 : Int32) (x6 : Int32) (x7 : Int32) (o8 : Option Value) (σ : SH) : exec PP 6 253 217 [some (.ref a0), o1, some (.int x2), some (.int x3), some (.int x4), some (.int x5), some (.int x6), some (.int x7), o8] [] σ =
  gR σ 112 17 (.ref a0) fun a21 =>
  if (x5 = 9 : Prop) then (exec PP 6 253 252 [some (.ref a0), none, some (.int x2), some (.int x3), some (.int x4), some (.int x5), some (.int x6), some (.int x7), some (.int 0)] [.int (x6 + x7), .int (x2 - 1), .ref a21] σ)
  else (exec PP 6 253 242 [some (.ref a0), none, some (.int x2), some (.int x3), some (.int x4), some (.int x5), some (.int x6), some (.int x7), some (.int 0)] [.int (x2 - 1), .ref a21] σ) := (exec_eq PP 6 253 217 _ _ σ).trans rfl

/-! 254: ArchEndsModel.factOf(II)I -/
set_option maxRecDepth 20000 in
theorem r_254 (a0 : Nat) (x1 : Int32) (x2 : Int32) (σ : SH) : rn 254 [.ref a0, .int x1, .int x2] σ =
  if x1 = 0 then (exec PP 5 254 48 [some (.ref a0), some (.int x1), some (.int x2)] [] σ)
  else if x1 = 1 then (exec PP 5 254 53 [some (.ref a0), some (.int x1), some (.int x2)] [] σ)
  else if x1 = 2 then (exec PP 5 254 61 [some (.ref a0), some (.int x1), some (.int x2)] [] σ)
  else if x1 = 3 then (exec PP 5 254 73 [some (.ref a0), some (.int x1), some (.int x2)] [] σ)
  else if x1 = 4 then (exec PP 5 254 81 [some (.ref a0), some (.int x1), some (.int x2)] [] σ)
  else if x1 = 5 then (exec PP 5 254 97 [some (.ref a0), some (.int x1), some (.int x2)] [] σ)
  else if x1 = 6 then (exec PP 5 254 115 [some (.ref a0), some (.int x1), some (.int x2)] [] σ)
  else if x1 = 7 then (exec PP 5 254 136 [some (.ref a0), some (.int x1), some (.int x2)] [] σ)
  else (exec PP 5 254 149 [some (.ref a0), some (.int x1), some (.int x2)] [] σ) := (exec_eq PP 5 254 0 _ _ σ).trans rfl
set_option maxRecDepth 20000 in
theorem e_254_149 (o0 : Option Value) (o1 : Option Value) (x2 : Int32) (σ : SH) : exec PP 5 254 149 [o0, o1, some (.int x2)] [] σ =
  some (.inl (some (.int x2)), σ) := (exec_eq PP 5 254 149 _ _ σ).trans rfl
set_option maxRecDepth 20000 in
theorem e_254_48 (a0 : Nat) (o1 : Option Value) (o2 : Option Value) (σ : SH) : exec PP 5 254 48 [some (.ref a0), o1, o2] [] σ =
  gI σ 112 18 (.ref a0) fun x21 =>
  some (.inl (some (.int x21)), σ) := (exec_eq PP 5 254 48 _ _ σ).trans rfl
set_option maxRecDepth 20000 in
theorem e_254_53 (a0 : Nat) (o1 : Option Value) (o2 : Option Value) (σ : SH) : exec PP 5 254 53 [some (.ref a0), o1, o2] [] σ =
  gI σ 112 19 (.ref a0) fun x21 =>
  onI (rn 224 [.int x21] σ) (fun x24 σ22 =>
  some (.inl (some (.int x24)), σ22)) (fun e23 σ22x => some (.inr e23, σ22x)) := (exec_eq PP 5 254 53 _ _ σ).trans rfl
set_option maxRecDepth 20000 in
theorem e_254_61 (a0 : Nat) (o1 : Option Value) (o2 : Option Value) (σ : SH) : exec PP 5 254 61 [some (.ref a0), o1, o2] [] σ =
  gI σ 112 19 (.ref a0) fun x21 =>
  onI (rn 226 [.int x21] σ) (fun x24 σ22 =>
  onI (rn 327 [.int 0, .int x24] σ22) (fun x27 σ25 =>
    some (.inl (some (.int x27)), σ25)) (fun e26 σ25x => some (.inr e26, σ25x))) (fun e23 σ22x => some (.inr e23, σ22x)) := (exec_eq PP 5 254 61 _ _ σ).trans rfl
set_option maxRecDepth 20000 in
theorem e_254_73 (a0 : Nat) (o1 : Option Value) (o2 : Option Value) (σ : SH) : exec PP 5 254 73 [some (.ref a0), o1, o2] [] σ =
  gI σ 112 19 (.ref a0) fun x21 =>
  some (.inl (some (.int (irm x21 96))), σ) := (exec_eq PP 5 254 73 _ _ σ).trans rfl
set_option maxRecDepth 20000 in
theorem e_254_81 (a0 : Nat) (o1 : Option Value) (o2 : Option Value) (σ : SH) : exec PP 5 254 81 [some (.ref a0), o1, o2] [] σ =
  gI σ 112 18 (.ref a0) fun x21 =>
  gI σ 112 19 (.ref a0) fun x22 =>
  if sT σ a0 = 112 then (onI (rn 233 [.ref a0, .int x21, .int x22] σ) (fun x25 σ23 =>
  onI (rn 325 [.int x25] σ23) (fun x28 σ26 =>
    some (.inl (some (.int x28)), σ26)) (fun e27 σ26x => some (.inr e27, σ26x))) (fun e24 σ23x => some (.inr e24, σ23x))) else none := (exec_eq PP 5 254 81 _ _ σ).trans rfl
set_option maxRecDepth 20000 in
theorem e_254_97 (a0 : Nat) (o1 : Option Value) (o2 : Option Value) (σ : SH) : exec PP 5 254 97 [some (.ref a0), o1, o2] [] σ =
  gI σ 112 20 (.ref a0) fun x21 =>
  if (x21 = (-1) : Prop) then (exec PP 5 254 114 [some (.ref a0), none, none] [.int 9] σ)
  else (exec PP 5 254 110 [some (.ref a0), none, none] [] σ) := (exec_eq PP 5 254 97 _ _ σ).trans rfl
set_option maxRecDepth 20000 in
theorem e_254_115 (a0 : Nat) (o1 : Option Value) (o2 : Option Value) (σ : SH) : exec PP 5 254 115 [some (.ref a0), o1, o2] [] σ =
  gI σ 112 18 (.ref a0) fun x21 =>
  gI σ 112 19 (.ref a0) fun x22 =>
  if sT σ a0 = 112 then (onI (rn 233 [.ref a0, .int x21, .int x22] σ) (fun x25 σ23 =>
  if (x25 = 0 : Prop) then (exec PP 5 254 134 [some (.ref a0), none, none] [] σ23)
    else (exec PP 5 254 135 [some (.ref a0), none, none] [.int 1] σ23)) (fun e24 σ23x => some (.inr e24, σ23x))) else none := (exec_eq PP 5 254 115 _ _ σ).trans rfl
set_option maxRecDepth 20000 in
theorem e_254_136 (a0 : Nat) (o1 : Option Value) (o2 : Option Value) (σ : SH) : exec PP 5 254 136 [some (.ref a0), o1, o2] [] σ =
  if sT σ a0 = 112 then (onI (rn 255 [.ref a0] σ) (fun x23 σ21 =>
  if (x23 = 0 : Prop) then (exec PP 5 254 147 [some (.ref a0), none, none] [] σ21)
    else (exec PP 5 254 148 [some (.ref a0), none, none] [.int 1] σ21)) (fun e22 σ21x => some (.inr e22, σ21x))) else none := (exec_eq PP 5 254 136 _ _ σ).trans rfl
set_option maxRecDepth 20000 in
theorem e_254_110 (a0 : Nat) (o1 : Option Value) (o2 : Option Value) (σ : SH) : exec PP 5 254 110 [some (.ref a0), o1, o2] [] σ =
  gI σ 112 20 (.ref a0) fun x21 =>
  some (.inl (some (.int x21)), σ) := (exec_eq PP 5 254 110 _ _ σ).trans rfl
set_option maxRecDepth 20000 in
theorem e_254_114 (o0 : Option Value) (o1 : Option Value) (o2 : Option Value) (w0 : Int32) (σ : SH) : exec PP 5 254 114 [o0, o1, o2] [.int w0] σ =
  some (.inl (some (.int w0)), σ) := (exec_eq PP 5 254 114 _ _ σ).trans rfl
set_option maxRecDepth 20000 in
theorem e_254_134 (o0 : Option Value) (o1 : Option Value) (o2 : Option Value) (σ : SH) : exec PP 5 254 134 [o0, o1, o2] [] σ =
  some (.inl (some (.int 0)), σ) := (exec_eq PP 5 254 134 _ _ σ).trans rfl
set_option maxRecDepth 20000 in
theorem e_254_135 (o0 : Option Value) (o1 : Option Value) (o2 : Option Value) (w0 : Int32) (σ : SH) : exec PP 5 254 135 [o0, o1, o2] [.int w0] σ =
  some (.inl (some (.int w0)), σ) := (exec_eq PP 5 254 135 _ _ σ).trans rfl
set_option maxRecDepth 20000 in
theorem e_254_147 (o0 : Option Value) (o1 : Option Value) (o2 : Option Value) (σ : SH) : exec PP 5 254 147 [o0, o1, o2] [] σ =
  some (.inl (some (.int 0)), σ) := (exec_eq PP 5 254 147 _ _ σ).trans rfl
set_option maxRecDepth 20000 in
theorem e_254_148 (o0 : Option Value) (o1 : Option Value) (o2 : Option Value) (w0 : Int32) (σ : SH) : exec PP 5 254 148 [o0, o1, o2] [.int w0] σ =
  some (.inl (some (.int w0)), σ) := (exec_eq PP 5 254 148 _ _ σ).trans rfl

/-! 255: ArchEndsModel.isOwned()Z -/
set_option maxRecDepth 20000 in
theorem r_255 (a0 : Nat) (σ : SH) : rn 255 [.ref a0] σ =
  exec PP 4 255 4 [some (.ref a0), some (.int 0), some (.int 0)] [] σ := (exec_eq PP 4 255 0 _ _ σ).trans rfl
set_option maxRecDepth 20000 in
theorem e_255_4 (a0 : Nat) (x1 : Int32) (x2 : Int32) (σ : SH) : exec PP 4 255 4 [some (.ref a0), some (.int x1), some (.int x2)] [] σ =
  if sT σ a0 = 112 then (onI (rn 204 [.ref a0] σ) (fun x23 σ21 =>
  if (x2 < x23 : Prop) then (if (x1 = 0 : Prop) then (if sT σ21 a0 = 112 then (onI (rn 256 [.ref a0, .int x2] σ21) (fun x26 σ24 =>
        if (x26 = 0 : Prop) then (exec PP 4 255 53 [some (.ref a0), some (.int x1), some (.int x2)] [] σ24)
          else (if sT σ24 a0 = 112 then (onI (rn 257 [.ref a0, .int x2, .int 0] σ24) (fun x29 σ27 =>
            gI σ27 112 18 (.ref a0) fun x30 =>
              if (x29 = x30 : Prop) then (gI σ27 112 19 (.ref a0) fun x31 =>
                if sT σ27 a0 = 112 then (onI (rn 258 [.ref a0, .int x2, .int x31] σ27) (fun x34 σ32 =>
                if (x34 = 0 : Prop) then (exec PP 4 255 53 [some (.ref a0), some (.int x1), some (.int x2)] [] σ32)
                  else (exec PP 4 255 54 [some (.ref a0), none, some (.int x2)] [.int 1] σ32)) (fun e33 σ32x => some (.inr e33, σ32x))) else none)
              else (exec PP 4 255 53 [some (.ref a0), some (.int x1), some (.int x2)] [] σ27)) (fun e28 σ27x => some (.inr e28, σ27x))) else none)) (fun e25 σ24x => some (.inr e25, σ24x))) else none)
      else (exec PP 4 255 49 [some (.ref a0), some (.int x1), some (.int x2)] [] σ21))
    else (exec PP 4 255 61 [some (.ref a0), some (.int x1), some (.int x2)] [] σ21)) (fun e22 σ21x => some (.inr e22, σ21x))) else none := (exec_eq PP 4 255 4 _ _ σ).trans rfl
set_option maxRecDepth 20000 in
theorem e_255_61 (o0 : Option Value) (x1 : Int32) (o2 : Option Value) (σ : SH) : exec PP 4 255 61 [o0, some (.int x1), o2] [] σ =
  if x1 = 0 ∨ x1 = 1 then some (.inl (some (.int x1)), σ) else none := (exec_eq PP 4 255 61 _ _ σ).trans rfl
set_option maxRecDepth 20000 in
theorem e_255_49 (a0 : Nat) (o1 : Option Value) (x2 : Int32) (σ : SH) : exec PP 4 255 49 [some (.ref a0), o1, some (.int x2)] [] σ =
  exec PP 4 255 54 [some (.ref a0), none, some (.int x2)] [.int 1] σ := (exec_eq PP 4 255 49 _ _ σ).trans rfl
set_option maxRecDepth 20000 in
theorem e_255_53 (a0 : Nat) (o1 : Option Value) (x2 : Int32) (σ : SH) : exec PP 4 255 53 [some (.ref a0), o1, some (.int x2)] [] σ =
  exec PP 4 255 4 [some (.ref a0), some (.int 0), some (.int (x2 + 1))] [] σ := (exec_eq PP 4 255 53 _ _ σ).trans rfl
set_option maxRecDepth 20000 in
theorem e_255_54 (a0 : Nat) (o1 : Option Value) (x2 : Int32) (w0 : Int32) (σ : SH) : exec PP 4 255 54 [some (.ref a0), o1, some (.int x2)] [.int w0] σ =
  exec PP 4 255 4 [some (.ref a0), some (.int w0), some (.int (x2 + 1))] [] σ := (exec_eq PP 4 255 54 _ _ σ).trans rfl

/-! 256: ArchEndsModel.hasOwner(I)Z -/
set_option maxRecDepth 20000 in
theorem r_256 (a0 : Nat) (x1 : Int32) (σ : SH) : rn 256 [.ref a0, .int x1] σ =
  if sT σ a0 = 112 then (onI (rn 257 [.ref a0, .int x1, .int 4] σ) (fun x23 σ21 =>
  if (x23 = (-1) : Prop) then (exec PP 3 256 14 [some (.ref a0), some (.int x1)] [] σ21)
    else (exec PP 3 256 15 [some (.ref a0), some (.int x1)] [.int 1] σ21)) (fun e22 σ21x => some (.inr e22, σ21x))) else none := (exec_eq PP 3 256 0 _ _ σ).trans rfl
set_option maxRecDepth 20000 in
theorem e_256_14 (o0 : Option Value) (o1 : Option Value) (σ : SH) : exec PP 3 256 14 [o0, o1] [] σ =
  some (.inl (some (.int 0)), σ) := (exec_eq PP 3 256 14 _ _ σ).trans rfl
set_option maxRecDepth 20000 in
theorem e_256_15 (o0 : Option Value) (o1 : Option Value) (w0 : Int32) (σ : SH) : exec PP 3 256 15 [o0, o1] [.int w0] σ =
  if w0 = 0 ∨ w0 = 1 then some (.inl (some (.int w0)), σ) else none := (exec_eq PP 3 256 15 _ _ σ).trans rfl

/-! 257: ArchEndsModel.ofDeed(II)I -/
set_option maxRecDepth 20000 in
theorem r_257 (a0 : Nat) (x1 : Int32) (x2 : Int32) (σ : SH) : rn 257 [.ref a0, .int x1, .int x2] σ =
  gR σ 112 1 (.ref a0) fun a21 =>
  onI (rn 205 [.int x1, .int x2] σ) (fun x24 σ22 =>
  aI σ22 1 (.ref a21) x24 fun x25 =>
    some (.inl (some (.int x25)), σ22)) (fun e23 σ22x => some (.inr e23, σ22x)) := (exec_eq PP 2 257 0 _ _ σ).trans rfl

/-! 258: ArchEndsModel.hasMinute(II)Z -/
set_option maxRecDepth 20000 in
theorem r_258 (a0 : Nat) (x1 : Int32) (x2 : Int32) (σ : SH) : rn 258 [.ref a0, .int x1, .int x2] σ =
  if sT σ a0 = 112 then (onI (rn 257 [.ref a0, .int x1, .int 1] σ) (fun x23 σ21 =>
  if sT σ21 a0 = 112 then (onI (rn 257 [.ref a0, .int x1, .int 2] σ21) (fun x26 σ24 =>
    onI (rn 220 [.int x2, .int x23, .int x26] σ24) (fun x29 σ27 =>
      if x29 = 0 ∨ x29 = 1 then some (.inl (some (.int x29)), σ27) else none) (fun e28 σ27x => some (.inr e28, σ27x))) (fun e25 σ24x => some (.inr e25, σ24x))) else none) (fun e22 σ21x => some (.inr e22, σ21x))) else none := (exec_eq PP 3 258 0 _ _ σ).trans rfl

/-! 259: ArchEndsModel.deedsOf(I)I -/
set_option maxRecDepth 20000 in
theorem r_259 (a0 : Nat) (x1 : Int32) (σ : SH) : rn 259 [.ref a0, .int x1] σ =
  exec PP 3 259 4 [some (.ref a0), some (.int x1), some (.int 0), some (.int 0)] [] σ := (exec_eq PP 3 259 0 _ _ σ).trans rfl
set_option maxRecDepth 20000 in
theorem e_259_4 (a0 : Nat) (x1 : Int32) (x2 : Int32) (x3 : Int32) (σ : SH) : exec PP 3 259 4 [some (.ref a0), some (.int x1), some (.int x2), some (.int x3)] [] σ =
  if sT σ a0 = 112 then (onI (rn 204 [.ref a0] σ) (fun x23 σ21 =>
  if (x3 < x23 : Prop) then (if sT σ21 a0 = 112 then (onI (rn 257 [.ref a0, .int x3, .int 4] σ21) (fun x26 σ24 =>
      if (x26 = x1 : Prop) then (exec PP 3 259 30 [some (.ref a0), some (.int x1), some (.int x2), some (.int x3)] [.int (shl 1 x3), .int x2] σ24)
        else (exec PP 3 259 29 [some (.ref a0), some (.int x1), some (.int x2), some (.int x3)] [.int x2] σ24)) (fun e25 σ24x => some (.inr e25, σ24x))) else none)
    else (exec PP 3 259 38 [some (.ref a0), some (.int x1), some (.int x2), some (.int x3)] [] σ21)) (fun e22 σ21x => some (.inr e22, σ21x))) else none := (exec_eq PP 3 259 4 _ _ σ).trans rfl
set_option maxRecDepth 20000 in
theorem e_259_38 (o0 : Option Value) (o1 : Option Value) (x2 : Int32) (o3 : Option Value) (σ : SH) : exec PP 3 259 38 [o0, o1, some (.int x2), o3] [] σ =
  some (.inl (some (.int x2)), σ) := (exec_eq PP 3 259 38 _ _ σ).trans rfl
set_option maxRecDepth 20000 in
theorem e_259_29 (a0 : Nat) (x1 : Int32) (o2 : Option Value) (x3 : Int32) (w0 : Int32) (σ : SH) : exec PP 3 259 29 [some (.ref a0), some (.int x1), o2, some (.int x3)] [.int w0] σ =
  exec PP 3 259 4 [some (.ref a0), some (.int x1), some (.int (w0 ||| 0)), some (.int (x3 + 1))] [] σ := (exec_eq PP 3 259 29 _ _ σ).trans rfl
set_option maxRecDepth 20000 in
theorem e_259_30 (a0 : Nat) (x1 : Int32) (o2 : Option Value) (x3 : Int32) (w0 : Int32) (w1 : Int32) (σ : SH) : exec PP 3 259 30 [some (.ref a0), some (.int x1), o2, some (.int x3)] [.int w0, .int w1] σ =
  exec PP 3 259 4 [some (.ref a0), some (.int x1), some (.int (w1 ||| w0)), some (.int (x3 + 1))] [] σ := (exec_eq PP 3 259 30 _ _ σ).trans rfl

/-! 260: ArchEndsModel.worthOf(I)I -/
set_option maxRecDepth 20000 in
theorem r_260 (a0 : Nat) (x1 : Int32) (σ : SH) : rn 260 [.ref a0, .int x1] σ =
  if sT σ a0 = 112 then (onI (rn 251 [.ref a0, .int x1, .int 0] σ) (fun x23 σ21 =>
  exec PP 3 260 9 [some (.ref a0), some (.int x1), some (.int x23), some (.int 0)] [] σ21) (fun e22 σ21x => some (.inr e22, σ21x))) else none := (exec_eq PP 3 260 0 _ _ σ).trans rfl
set_option maxRecDepth 20000 in
theorem e_260_9 (a0 : Nat) (x1 : Int32) (x2 : Int32) (x3 : Int32) (σ : SH) : exec PP 3 260 9 [some (.ref a0), some (.int x1), some (.int x2), some (.int x3)] [] σ =
  if sT σ a0 = 112 then (onI (rn 204 [.ref a0] σ) (fun x23 σ21 =>
  if (x3 < x23 : Prop) then (if sT σ21 a0 = 112 then (onI (rn 257 [.ref a0, .int x3, .int 4] σ21) (fun x26 σ24 =>
      if (x26 = x1 : Prop) then (if sT σ24 a0 = 112 then (onI (rn 257 [.ref a0, .int x3, .int 3] σ24) (fun x29 σ27 =>
          exec PP 3 260 38 [some (.ref a0), some (.int x1), some (.int x2), some (.int x3)] [.int x29, .int x2] σ27) (fun e28 σ27x => some (.inr e28, σ27x))) else none)
        else (exec PP 3 260 37 [some (.ref a0), some (.int x1), some (.int x2), some (.int x3)] [.int x2] σ24)) (fun e25 σ24x => some (.inr e25, σ24x))) else none)
    else (exec PP 3 260 46 [some (.ref a0), some (.int x1), some (.int x2), some (.int x3)] [] σ21)) (fun e22 σ21x => some (.inr e22, σ21x))) else none := (exec_eq PP 3 260 9 _ _ σ).trans rfl
set_option maxRecDepth 20000 in
theorem e_260_46 (o0 : Option Value) (o1 : Option Value) (x2 : Int32) (o3 : Option Value) (σ : SH) : exec PP 3 260 46 [o0, o1, some (.int x2), o3] [] σ =
  some (.inl (some (.int x2)), σ) := (exec_eq PP 3 260 46 _ _ σ).trans rfl
set_option maxRecDepth 20000 in
theorem e_260_37 (a0 : Nat) (x1 : Int32) (o2 : Option Value) (x3 : Int32) (w0 : Int32) (σ : SH) : exec PP 3 260 37 [some (.ref a0), some (.int x1), o2, some (.int x3)] [.int w0] σ =
  exec PP 3 260 9 [some (.ref a0), some (.int x1), some (.int (w0 + 0)), some (.int (x3 + 1))] [] σ := (exec_eq PP 3 260 37 _ _ σ).trans rfl
set_option maxRecDepth 20000 in
theorem e_260_38 (a0 : Nat) (x1 : Int32) (o2 : Option Value) (x3 : Int32) (w0 : Int32) (w1 : Int32) (σ : SH) : exec PP 3 260 38 [some (.ref a0), some (.int x1), o2, some (.int x3)] [.int w0, .int w1] σ =
  exec PP 3 260 9 [some (.ref a0), some (.int x1), some (.int (w1 + w0)), some (.int (x3 + 1))] [] σ := (exec_eq PP 3 260 38 _ _ σ).trans rfl

/-! 261: ArchEndsModel.deed(II)I -/
set_option maxRecDepth 20000 in
theorem r_261 (a0 : Nat) (x1 : Int32) (x2 : Int32) (σ : SH) : rn 261 [.ref a0, .int x1, .int x2] σ =
  pI σ 112 0 (.ref a0) 0 fun σ21 =>
  if sT σ21 a0 = 112 then (onI (rn 262 [.ref a0, .int x1] σ21) (fun x24 σ22 =>
  if sT σ22 a0 = 112 then (onI (rn 216 [.ref a0, .int x24, .int 1] σ22) (fun x27 σ25 =>
    if (x27 = 0 : Prop) then (onI (rn 220 [.int x2, .int 0, .int 6] σ25) (fun x30 σ28 =>
        if (x30 = 0 : Prop) then (exec PP 3 261 34 [some (.ref a0), some (.int x1), some (.int x2)] [.int 1, .ref a0] σ28)
          else (exec PP 3 261 33 [some (.ref a0), some (.int x1), some (.int x2)] [.ref a0] σ28)) (fun e29 σ28x => some (.inr e29, σ28x)))
      else (exec PP 3 261 41 [some (.ref a0), some (.int x1), some (.int x2)] [] σ25)) (fun e26 σ25x => some (.inr e26, σ25x))) else none) (fun e23 σ22x => some (.inr e23, σ22x))) else none := (exec_eq PP 3 261 0 _ _ σ).trans rfl
set_option maxRecDepth 20000 in
theorem e_261_41 (o0 : Option Value) (o1 : Option Value) (o2 : Option Value) (σ : SH) : exec PP 3 261 41 [o0, o1, o2] [] σ =
  exec PP 3 261 51 [none, none, none] [.int 0] σ := (exec_eq PP 3 261 41 _ _ σ).trans rfl
set_option maxRecDepth 20000 in
theorem e_261_33 (a0 : Nat) (x1 : Int32) (x2 : Int32) (b0 : Nat) (σ : SH) : exec PP 3 261 33 [some (.ref a0), some (.int x1), some (.int x2)] [.ref b0] σ =
  if sT σ b0 = 112 then (onI (rn 216 [.ref b0, .int 0, .int 2] σ) (fun x23 σ21 =>
  if (x23 = 0 : Prop) then (exec PP 3 261 45 [some (.ref a0), some (.int x1), some (.int x2)] [] σ21)
    else (exec PP 3 261 51 [none, none, none] [.int 0] σ21)) (fun e22 σ21x => some (.inr e22, σ21x))) else none := (exec_eq PP 3 261 33 _ _ σ).trans rfl
set_option maxRecDepth 20000 in
theorem e_261_34 (a0 : Nat) (x1 : Int32) (x2 : Int32) (w0 : Int32) (b1 : Nat) (σ : SH) : exec PP 3 261 34 [some (.ref a0), some (.int x1), some (.int x2)] [.int w0, .ref b1] σ =
  if sT σ b1 = 112 then (onI (rn 216 [.ref b1, .int w0, .int 2] σ) (fun x23 σ21 =>
  if (x23 = 0 : Prop) then (exec PP 3 261 45 [some (.ref a0), some (.int x1), some (.int x2)] [] σ21)
    else (exec PP 3 261 51 [none, none, none] [.int 0] σ21)) (fun e22 σ21x => some (.inr e22, σ21x))) else none := (exec_eq PP 3 261 34 _ _ σ).trans rfl
set_option maxRecDepth 20000 in
theorem e_261_51 (o0 : Option Value) (o1 : Option Value) (o2 : Option Value) (w0 : Int32) (σ : SH) : exec PP 3 261 51 [o0, o1, o2] [.int w0] σ =
  some (.inl (some (.int w0)), σ) := (exec_eq PP 3 261 51 _ _ σ).trans rfl
set_option maxRecDepth 20000 in
theorem e_261_45 (a0 : Nat) (x1 : Int32) (x2 : Int32) (σ : SH) : exec PP 3 261 45 [some (.ref a0), some (.int x1), some (.int x2)] [] σ =
  if sT σ a0 = 112 then (onI (rn 257 [.ref a0, .int x1, .int x2] σ) (fun x23 σ21 =>
  some (.inl (some (.int x23)), σ21)) (fun e22 σ21x => some (.inr e22, σ21x))) else none := (exec_eq PP 3 261 45 _ _ σ).trans rfl

/-! 262: ArchEndsModel.noDeed(I)Z -/
set_option maxRecDepth 20000 in
theorem r_262 (a0 : Nat) (x1 : Int32) (σ : SH) : rn 262 [.ref a0, .int x1] σ =
  if sT σ a0 = 112 then (onI (rn 204 [.ref a0] σ) (fun x23 σ21 =>
  onI (rn 220 [.int x1, .int 0, .int (x23 - 1)] σ21) (fun x26 σ24 =>
    if (x26 = 0 : Prop) then (exec PP 2 262 19 [some (.ref a0), some (.int x1)] [.int 1] σ24)
      else (exec PP 2 262 18 [some (.ref a0), some (.int x1)] [] σ24)) (fun e25 σ24x => some (.inr e25, σ24x))) (fun e22 σ21x => some (.inr e22, σ21x))) else none := (exec_eq PP 2 262 0 _ _ σ).trans rfl
set_option maxRecDepth 20000 in
theorem e_262_18 (o0 : Option Value) (o1 : Option Value) (σ : SH) : exec PP 2 262 18 [o0, o1] [] σ =
  some (.inl (some (.int 0)), σ) := (exec_eq PP 2 262 18 _ _ σ).trans rfl
set_option maxRecDepth 20000 in
theorem e_262_19 (o0 : Option Value) (o1 : Option Value) (w0 : Int32) (σ : SH) : exec PP 2 262 19 [o0, o1] [.int w0] σ =
  if w0 = 0 ∨ w0 = 1 then some (.inl (some (.int w0)), σ) else none := (exec_eq PP 2 262 19 _ _ σ).trans rfl

/-! 263: ArchEndsModel.costs(II)I -/
set_option maxRecDepth 20000 in
theorem r_263 (a0 : Nat) (x1 : Int32) (x2 : Int32) (σ : SH) : rn 263 [.ref a0, .int x1, .int x2] σ =
  pI σ 112 0 (.ref a0) 0 fun σ21 =>
  if sT σ21 a0 = 112 then (onI (rn 249 [.ref a0, .int x1] σ21) (fun x24 σ22 =>
  if (x24 = 0 : Prop) then (if sT σ22 a0 = 112 then (onI (rn 262 [.ref a0, .int x2] σ22) (fun x27 σ25 =>
      if (x27 = 0 : Prop) then (exec PP 9 263 26 [some (.ref a0), some (.int x1), some (.int x2)] [.ref a0] σ25)
        else (exec PP 9 263 27 [some (.ref a0), some (.int x1), some (.int x2)] [.int 1, .ref a0] σ25)) (fun e26 σ25x => some (.inr e26, σ25x))) else none)
    else (exec PP 9 263 22 [some (.ref a0), some (.int x1), some (.int x2)] [.ref a0] σ22)) (fun e23 σ22x => some (.inr e23, σ22x))) else none := (exec_eq PP 9 263 0 _ _ σ).trans rfl
set_option maxRecDepth 20000 in
theorem e_263_22 (a0 : Nat) (x1 : Int32) (x2 : Int32) (b0 : Nat) (σ : SH) : exec PP 9 263 22 [some (.ref a0), some (.int x1), some (.int x2)] [.ref b0] σ =
  exec PP 9 263 27 [some (.ref a0), some (.int x1), some (.int x2)] [.int 1, .ref b0] σ := (exec_eq PP 9 263 22 _ _ σ).trans rfl
set_option maxRecDepth 20000 in
theorem e_263_26 (a0 : Nat) (x1 : Int32) (x2 : Int32) (b0 : Nat) (σ : SH) : exec PP 9 263 26 [some (.ref a0), some (.int x1), some (.int x2)] [.ref b0] σ =
  if sT σ b0 = 112 then (onI (rn 216 [.ref b0, .int 0, .int 1] σ) (fun x23 σ21 =>
  if (x23 = 0 : Prop) then (exec PP 9 263 38 [some (.ref a0), some (.int x1), some (.int x2)] [] σ21)
    else (exec PP 9 263 44 [some (.ref a0), some (.int x1), some (.int x2)] [.int 0] σ21)) (fun e22 σ21x => some (.inr e22, σ21x))) else none := (exec_eq PP 9 263 26 _ _ σ).trans rfl
set_option maxRecDepth 20000 in
theorem e_263_27 (a0 : Nat) (x1 : Int32) (x2 : Int32) (w0 : Int32) (b1 : Nat) (σ : SH) : exec PP 9 263 27 [some (.ref a0), some (.int x1), some (.int x2)] [.int w0, .ref b1] σ =
  if sT σ b1 = 112 then (onI (rn 216 [.ref b1, .int w0, .int 1] σ) (fun x23 σ21 =>
  if (x23 = 0 : Prop) then (exec PP 9 263 38 [some (.ref a0), some (.int x1), some (.int x2)] [] σ21)
    else (exec PP 9 263 44 [some (.ref a0), some (.int x1), some (.int x2)] [.int 0] σ21)) (fun e22 σ21x => some (.inr e22, σ21x))) else none := (exec_eq PP 9 263 27 _ _ σ).trans rfl
set_option maxRecDepth 20000 in
theorem e_263_38 (a0 : Nat) (x1 : Int32) (x2 : Int32) (σ : SH) : exec PP 9 263 38 [some (.ref a0), some (.int x1), some (.int x2)] [] σ =
  if sT σ a0 = 112 then (onI (rn 264 [.ref a0, .int x1, .int x2] σ) (fun x23 σ21 =>
  some (.inl (some (.int x23)), σ21)) (fun e22 σ21x => some (.inr e22, σ21x))) else none := (exec_eq PP 9 263 38 _ _ σ).trans rfl
set_option maxRecDepth 20000 in
theorem e_263_44 (o0 : Option Value) (o1 : Option Value) (o2 : Option Value) (w0 : Int32) (σ : SH) : exec PP 9 263 44 [o0, o1, o2] [.int w0] σ =
  some (.inl (some (.int w0)), σ) := (exec_eq PP 9 263 44 _ _ σ).trans rfl

/-! 264: ArchEndsModel.costsOf(II)I -/
set_option maxRecDepth 20000 in
theorem r_264 (a0 : Nat) (x1 : Int32) (x2 : Int32) (σ : SH) : rn 264 [.ref a0, .int x1, .int x2] σ =
  if sT σ a0 = 112 then (onI (rn 257 [.ref a0, .int x2, .int 3] σ) (fun x23 σ21 =>
  if sT σ21 a0 = 112 then (onI (rn 257 [.ref a0, .int x2, .int 0] σ21) (fun x26 σ24 =>
    gR σ24 112 1 (.ref a0) fun a27 =>
      aI σ24 1 (.ref a27) 5 fun x28 =>
      if sT σ24 a0 = 112 then (onI (rn 252 [.ref a0, .int 0, .int x26, .int x28, .int x1] σ24) (fun x31 σ29 =>
      some (.inl (some (.int (x23 + x31))), σ29)) (fun e30 σ29x => some (.inr e30, σ29x))) else none) (fun e25 σ24x => some (.inr e25, σ24x))) else none) (fun e22 σ21x => some (.inr e22, σ21x))) else none := (exec_eq PP 8 264 0 _ _ σ).trans rfl

/-! 265: ArchEndsModel.brings(III)I -/
set_option maxRecDepth 20000 in
theorem r_265 (a0 : Nat) (x1 : Int32) (x2 : Int32) (x3 : Int32) (σ : SH) : rn 265 [.ref a0, .int x1, .int x2, .int x3] σ =
  pI σ 112 0 (.ref a0) 0 fun σ21 =>
  if sT σ21 a0 = 112 then (onI (rn 249 [.ref a0, .int x1] σ21) (fun x24 σ22 =>
  if (x24 = 0 : Prop) then (if sT σ22 a0 = 112 then (onI (rn 262 [.ref a0, .int x2] σ22) (fun x27 σ25 =>
      if (x27 = 0 : Prop) then (exec PP 9 265 26 [some (.ref a0), some (.int x1), some (.int x2), some (.int x3)] [.ref a0] σ25)
        else (exec PP 9 265 27 [some (.ref a0), some (.int x1), some (.int x2), some (.int x3)] [.int 1, .ref a0] σ25)) (fun e26 σ25x => some (.inr e26, σ25x))) else none)
    else (exec PP 9 265 22 [some (.ref a0), some (.int x1), some (.int x2), some (.int x3)] [.ref a0] σ22)) (fun e23 σ22x => some (.inr e23, σ22x))) else none := (exec_eq PP 9 265 0 _ _ σ).trans rfl
set_option maxRecDepth 20000 in
theorem e_265_22 (a0 : Nat) (x1 : Int32) (x2 : Int32) (x3 : Int32) (b0 : Nat) (σ : SH) : exec PP 9 265 22 [some (.ref a0), some (.int x1), some (.int x2), some (.int x3)] [.ref b0] σ =
  exec PP 9 265 27 [some (.ref a0), some (.int x1), some (.int x2), some (.int x3)] [.int 1, .ref b0] σ := (exec_eq PP 9 265 22 _ _ σ).trans rfl
set_option maxRecDepth 20000 in
theorem e_265_26 (a0 : Nat) (x1 : Int32) (x2 : Int32) (x3 : Int32) (b0 : Nat) (σ : SH) : exec PP 9 265 26 [some (.ref a0), some (.int x1), some (.int x2), some (.int x3)] [.ref b0] σ =
  if sT σ b0 = 112 then (onI (rn 216 [.ref b0, .int 0, .int 1] σ) (fun x23 σ21 =>
  if (x23 = 0 : Prop) then (onI (rn 223 [.int x3] σ21) (fun x26 σ24 =>
      if sT σ24 a0 = 112 then (onI (rn 216 [.ref a0, .int x26, .int 2] σ24) (fun x29 σ27 =>
        if (x29 = 0 : Prop) then (exec PP 9 265 50 [some (.ref a0), some (.int x1), some (.int x2), some (.int x3)] [] σ27)
          else (exec PP 9 265 57 [none, none, none, none] [.int 0] σ27)) (fun e28 σ27x => some (.inr e28, σ27x))) else none) (fun e25 σ24x => some (.inr e25, σ24x)))
    else (exec PP 9 265 46 [some (.ref a0), some (.int x1), some (.int x2), some (.int x3)] [] σ21)) (fun e22 σ21x => some (.inr e22, σ21x))) else none := (exec_eq PP 9 265 26 _ _ σ).trans rfl
set_option maxRecDepth 20000 in
theorem e_265_27 (a0 : Nat) (x1 : Int32) (x2 : Int32) (x3 : Int32) (w0 : Int32) (b1 : Nat) (σ : SH) : exec PP 9 265 27 [some (.ref a0), some (.int x1), some (.int x2), some (.int x3)] [.int w0, .ref b1] σ =
  if sT σ b1 = 112 then (onI (rn 216 [.ref b1, .int w0, .int 1] σ) (fun x23 σ21 =>
  if (x23 = 0 : Prop) then (onI (rn 223 [.int x3] σ21) (fun x26 σ24 =>
      if sT σ24 a0 = 112 then (onI (rn 216 [.ref a0, .int x26, .int 2] σ24) (fun x29 σ27 =>
        if (x29 = 0 : Prop) then (exec PP 9 265 50 [some (.ref a0), some (.int x1), some (.int x2), some (.int x3)] [] σ27)
          else (exec PP 9 265 57 [none, none, none, none] [.int 0] σ27)) (fun e28 σ27x => some (.inr e28, σ27x))) else none) (fun e25 σ24x => some (.inr e25, σ24x)))
    else (exec PP 9 265 46 [some (.ref a0), some (.int x1), some (.int x2), some (.int x3)] [] σ21)) (fun e22 σ21x => some (.inr e22, σ21x))) else none := (exec_eq PP 9 265 27 _ _ σ).trans rfl
set_option maxRecDepth 20000 in
theorem e_265_46 (o0 : Option Value) (o1 : Option Value) (o2 : Option Value) (o3 : Option Value) (σ : SH) : exec PP 9 265 46 [o0, o1, o2, o3] [] σ =
  exec PP 9 265 57 [none, none, none, none] [.int 0] σ := (exec_eq PP 9 265 46 _ _ σ).trans rfl
set_option maxRecDepth 20000 in
theorem e_265_50 (a0 : Nat) (x1 : Int32) (x2 : Int32) (x3 : Int32) (σ : SH) : exec PP 9 265 50 [some (.ref a0), some (.int x1), some (.int x2), some (.int x3)] [] σ =
  if sT σ a0 = 112 then (onI (rn 266 [.ref a0, .int x1, .int x2, .int x3] σ) (fun x23 σ21 =>
  some (.inl (some (.int x23)), σ21)) (fun e22 σ21x => some (.inr e22, σ21x))) else none := (exec_eq PP 9 265 50 _ _ σ).trans rfl
set_option maxRecDepth 20000 in
theorem e_265_57 (o0 : Option Value) (o1 : Option Value) (o2 : Option Value) (o3 : Option Value) (w0 : Int32) (σ : SH) : exec PP 9 265 57 [o0, o1, o2, o3] [.int w0] σ =
  some (.inl (some (.int w0)), σ) := (exec_eq PP 9 265 57 _ _ σ).trans rfl

/-! 266: ArchEndsModel.bringsOf(III)I -/
set_option maxRecDepth 20000 in
theorem r_266 (a0 : Nat) (x1 : Int32) (x2 : Int32) (x3 : Int32) (σ : SH) : rn 266 [.ref a0, .int x1, .int x2, .int x3] σ =
  gR σ 112 1 (.ref a0) fun a21 =>
  aI σ 1 (.ref a21) 7 fun x22 =>
  if sT σ a0 = 112 then (onI (rn 257 [.ref a0, .int x2, .int 0] σ) (fun x25 σ23 =>
  if sT σ23 a0 = 112 then (onI (rn 252 [.ref a0, .int 1, .int x25, .int x3, .int x1] σ23) (fun x28 σ26 =>
    some (.inl (some (.int (x22 + x28))), σ26)) (fun e27 σ26x => some (.inr e27, σ26x))) else none) (fun e24 σ23x => some (.inr e24, σ23x))) else none := (exec_eq PP 8 266 0 _ _ σ).trans rfl

/-! 267: ArchEndsModel.buy(II)I -/
set_option maxRecDepth 20000 in
theorem r_267 (a0 : Nat) (x1 : Int32) (x2 : Int32) (σ : SH) : rn 267 [.ref a0, .int x1, .int x2] σ =
  pI σ 112 0 (.ref a0) 0 fun σ21 =>
  if sT σ21 a0 = 112 then (onI (rn 249 [.ref a0, .int x1] σ21) (fun x24 σ22 =>
  if (x24 = 0 : Prop) then (if sT σ22 a0 = 112 then (onI (rn 262 [.ref a0, .int x2] σ22) (fun x27 σ25 =>
      if (x27 = 0 : Prop) then (exec PP 9 267 26 [some (.ref a0), some (.int x1), some (.int x2)] [.ref a0] σ25)
        else (exec PP 9 267 27 [some (.ref a0), some (.int x1), some (.int x2)] [.int 1, .ref a0] σ25)) (fun e26 σ25x => some (.inr e26, σ25x))) else none)
    else (exec PP 9 267 22 [some (.ref a0), some (.int x1), some (.int x2)] [.ref a0] σ22)) (fun e23 σ22x => some (.inr e23, σ22x))) else none := (exec_eq PP 9 267 0 _ _ σ).trans rfl
set_option maxRecDepth 20000 in
theorem e_267_22 (a0 : Nat) (x1 : Int32) (x2 : Int32) (b0 : Nat) (σ : SH) : exec PP 9 267 22 [some (.ref a0), some (.int x1), some (.int x2)] [.ref b0] σ =
  exec PP 9 267 27 [some (.ref a0), some (.int x1), some (.int x2)] [.int 1, .ref b0] σ := (exec_eq PP 9 267 22 _ _ σ).trans rfl
set_option maxRecDepth 20000 in
theorem e_267_26 (a0 : Nat) (x1 : Int32) (x2 : Int32) (b0 : Nat) (σ : SH) : exec PP 9 267 26 [some (.ref a0), some (.int x1), some (.int x2)] [.ref b0] σ =
  if sT σ b0 = 112 then (onI (rn 216 [.ref b0, .int 0, .int 1] σ) (fun x23 σ21 =>
  if (x23 = 0 : Prop) then (if sT σ21 a0 = 112 then (onI (rn 256 [.ref a0, .int x2] σ21) (fun x26 σ24 =>
      if (x26 = 0 : Prop) then (if sT σ24 a0 = 112 then (onI (rn 251 [.ref a0, .int x1, .int 0] σ24) (fun x29 σ27 =>
          if sT σ27 a0 = 112 then (onI (rn 264 [.ref a0, .int x1, .int x2] σ27) (fun x32 σ30 =>
            if (x29 < x32 : Prop) then (exec PP 9 267 63 [some (.ref a0), some (.int x1), some (.int x2)] [.int 1, .ref a0] σ30)
              else (exec PP 9 267 62 [some (.ref a0), some (.int x1), some (.int x2)] [.ref a0] σ30)) (fun e31 σ30x => some (.inr e31, σ30x))) else none) (fun e28 σ27x => some (.inr e28, σ27x))) else none)
        else (exec PP 9 267 58 [some (.ref a0), some (.int x1), some (.int x2)] [.ref a0] σ24)) (fun e25 σ24x => some (.inr e25, σ24x))) else none)
    else (exec PP 9 267 70 [some (.ref a0), some (.int x1), some (.int x2)] [] σ21)) (fun e22 σ21x => some (.inr e22, σ21x))) else none := (exec_eq PP 9 267 26 _ _ σ).trans rfl
set_option maxRecDepth 20000 in
theorem e_267_27 (a0 : Nat) (x1 : Int32) (x2 : Int32) (w0 : Int32) (b1 : Nat) (σ : SH) : exec PP 9 267 27 [some (.ref a0), some (.int x1), some (.int x2)] [.int w0, .ref b1] σ =
  if sT σ b1 = 112 then (onI (rn 216 [.ref b1, .int w0, .int 1] σ) (fun x23 σ21 =>
  if (x23 = 0 : Prop) then (if sT σ21 a0 = 112 then (onI (rn 256 [.ref a0, .int x2] σ21) (fun x26 σ24 =>
      if (x26 = 0 : Prop) then (if sT σ24 a0 = 112 then (onI (rn 251 [.ref a0, .int x1, .int 0] σ24) (fun x29 σ27 =>
          if sT σ27 a0 = 112 then (onI (rn 264 [.ref a0, .int x1, .int x2] σ27) (fun x32 σ30 =>
            if (x29 < x32 : Prop) then (exec PP 9 267 63 [some (.ref a0), some (.int x1), some (.int x2)] [.int 1, .ref a0] σ30)
              else (exec PP 9 267 62 [some (.ref a0), some (.int x1), some (.int x2)] [.ref a0] σ30)) (fun e31 σ30x => some (.inr e31, σ30x))) else none) (fun e28 σ27x => some (.inr e28, σ27x))) else none)
        else (exec PP 9 267 58 [some (.ref a0), some (.int x1), some (.int x2)] [.ref a0] σ24)) (fun e25 σ24x => some (.inr e25, σ24x))) else none)
    else (exec PP 9 267 70 [some (.ref a0), some (.int x1), some (.int x2)] [] σ21)) (fun e22 σ21x => some (.inr e22, σ21x))) else none := (exec_eq PP 9 267 27 _ _ σ).trans rfl
set_option maxRecDepth 20000 in
theorem e_267_70 (o0 : Option Value) (o1 : Option Value) (o2 : Option Value) (σ : SH) : exec PP 9 267 70 [o0, o1, o2] [] σ =
  some (.inl (some (.int 0)), σ) := (exec_eq PP 9 267 70 _ _ σ).trans rfl
set_option maxRecDepth 20000 in
theorem e_267_58 (a0 : Nat) (x1 : Int32) (x2 : Int32) (b0 : Nat) (σ : SH) : exec PP 9 267 58 [some (.ref a0), some (.int x1), some (.int x2)] [.ref b0] σ =
  exec PP 9 267 63 [some (.ref a0), some (.int x1), some (.int x2)] [.int 1, .ref b0] σ := (exec_eq PP 9 267 58 _ _ σ).trans rfl
set_option maxRecDepth 20000 in
theorem e_267_62 (a0 : Nat) (x1 : Int32) (x2 : Int32) (b0 : Nat) (σ : SH) : exec PP 9 267 62 [some (.ref a0), some (.int x1), some (.int x2)] [.ref b0] σ =
  if sT σ b0 = 112 then (onI (rn 216 [.ref b0, .int 0, .int 2] σ) (fun x23 σ21 =>
  if (x23 = 0 : Prop) then (exec PP 9 267 72 [some (.ref a0), some (.int x1), some (.int x2)] [] σ21)
    else (some (.inl (some (.int 0)), σ21))) (fun e22 σ21x => some (.inr e22, σ21x))) else none := (exec_eq PP 9 267 62 _ _ σ).trans rfl
set_option maxRecDepth 20000 in
theorem e_267_63 (a0 : Nat) (x1 : Int32) (x2 : Int32) (w0 : Int32) (b1 : Nat) (σ : SH) : exec PP 9 267 63 [some (.ref a0), some (.int x1), some (.int x2)] [.int w0, .ref b1] σ =
  if sT σ b1 = 112 then (onI (rn 216 [.ref b1, .int w0, .int 2] σ) (fun x23 σ21 =>
  if (x23 = 0 : Prop) then (exec PP 9 267 72 [some (.ref a0), some (.int x1), some (.int x2)] [] σ21)
    else (some (.inl (some (.int 0)), σ21))) (fun e22 σ21x => some (.inr e22, σ21x))) else none := (exec_eq PP 9 267 63 _ _ σ).trans rfl
set_option maxRecDepth 20000 in
theorem e_267_72 (a0 : Nat) (x1 : Int32) (x2 : Int32) (σ : SH) : exec PP 9 267 72 [some (.ref a0), some (.int x1), some (.int x2)] [] σ =
  if sT σ a0 = 112 then (onV (rn 268 [.ref a0] σ) (fun σ21 =>
  gR σ21 112 1 (.ref a0) fun a23 =>
    onI (rn 202 [.int x1, .int 0] σ21) (fun x26 σ24 =>
    aI σ24 1 (.ref a23) x26 fun x27 =>
      if sT σ24 a0 = 112 then (onI (rn 264 [.ref a0, .int x1, .int x2] σ24) (fun x30 σ28 =>
      uI σ28 (.ref a23) x26 (x27 - x30) fun σ31 =>
        gR σ31 112 1 (.ref a0) fun a32 =>
        onI (rn 205 [.int x2, .int 4] σ31) (fun x35 σ33 =>
        uI σ33 (.ref a32) x35 x1 fun σ36 =>
          gR σ36 112 1 (.ref a0) fun a37 =>
          onI (rn 205 [.int x2, .int 5] σ36) (fun x40 σ38 =>
          uI σ38 (.ref a37) x40 0 fun σ41 =>
            if sT σ41 a0 = 112 then (onI (rn 251 [.ref a0, .int x1, .int 0] σ41) (fun x44 σ42 =>
            some (.inl (some (.int x44)), σ42)) (fun e43 σ42x => some (.inr e43, σ42x))) else none) (fun e39 σ38x => some (.inr e39, σ38x))) (fun e34 σ33x => some (.inr e34, σ33x))) (fun e29 σ28x => some (.inr e29, σ28x))) else none) (fun e25 σ24x => some (.inr e25, σ24x))) (fun e22 σ21x => some (.inr e22, σ21x))) else none := (exec_eq PP 9 267 72 _ _ σ).trans rfl

/-! 268: ArchEndsModel.remembers()V -/
set_option maxRecDepth 20000 in
theorem r_268 (a0 : Nat) (σ : SH) : rn 268 [.ref a0] σ =
  gI σ 112 7 (.ref a0) fun x21 =>
  if (x21 = 12 : Prop) then (exec PP 1 268 11 [some (.ref a0), some (.int 0)] [] σ)
  else (exec PP 1 268 43 [some (.ref a0), none] [] σ) := (exec_eq PP 1 268 0 _ _ σ).trans rfl
set_option maxRecDepth 20000 in
theorem e_268_43 (a0 : Nat) (o1 : Option Value) (σ : SH) : exec PP 1 268 43 [some (.ref a0), o1] [] σ =
  gI σ 112 7 (.ref a0) fun x21 =>
  pI σ 112 7 (.ref a0) (x21 + 1) fun σ22 =>
  exec PP 1 268 55 [some (.ref a0), some (.int 0)] [] σ22 := (exec_eq PP 1 268 43 _ _ σ).trans rfl
set_option maxRecDepth 20000 in
theorem e_268_11 (a0 : Nat) (x1 : Int32) (σ : SH) : exec PP 1 268 11 [some (.ref a0), some (.int x1)] [] σ =
  if (x1 < 3993 : Prop) then (gR σ 112 5 (.ref a0) fun a21 =>
    gR σ 112 5 (.ref a0) fun a22 =>
    aI σ 1 (.ref a22) (x1 + 363) fun x23 =>
    uI σ (.ref a21) x1 x23 fun σ24 =>
    exec PP 1 268 11 [some (.ref a0), some (.int (x1 + 1))] [] σ24)
  else (exec PP 1 268 40 [some (.ref a0), some (.int x1)] [] σ) := (exec_eq PP 1 268 11 _ _ σ).trans rfl
set_option maxRecDepth 20000 in
theorem e_268_55 (a0 : Nat) (x1 : Int32) (σ : SH) : exec PP 1 268 55 [some (.ref a0), some (.int x1)] [] σ =
  if (x1 < 363 : Prop) then (gR σ 112 5 (.ref a0) fun a21 =>
    gI σ 112 7 (.ref a0) fun x22 =>
    gR σ 112 1 (.ref a0) fun a23 =>
    aI σ 1 (.ref a23) x1 fun x24 =>
    uI σ (.ref a21) ((363 * (x22 - 1)) + x1) x24 fun σ25 =>
    exec PP 1 268 55 [some (.ref a0), some (.int (x1 + 1))] [] σ25)
  else (exec PP 1 268 91 [some (.ref a0), some (.int x1)] [] σ) := (exec_eq PP 1 268 55 _ _ σ).trans rfl
set_option maxRecDepth 20000 in
theorem e_268_40 (a0 : Nat) (o1 : Option Value) (σ : SH) : exec PP 1 268 40 [some (.ref a0), o1] [] σ =
  exec PP 1 268 53 [some (.ref a0), none] [] σ := (exec_eq PP 1 268 40 _ _ σ).trans rfl
set_option maxRecDepth 20000 in
theorem e_268_91 (o0 : Option Value) (o1 : Option Value) (σ : SH) : exec PP 1 268 91 [o0, o1] [] σ =
  some (.inl none, σ) := (exec_eq PP 1 268 91 _ _ σ).trans rfl
set_option maxRecDepth 20000 in
theorem e_268_53 (a0 : Nat) (o1 : Option Value) (σ : SH) : exec PP 1 268 53 [some (.ref a0), o1] [] σ =
  exec PP 1 268 55 [some (.ref a0), some (.int 0)] [] σ := (exec_eq PP 1 268 53 _ _ σ).trans rfl

/-! 269: ArchEndsModel.sell(II)I -/
set_option maxRecDepth 20000 in
theorem r_269 (a0 : Nat) (x1 : Int32) (x2 : Int32) (σ : SH) : rn 269 [.ref a0, .int x1, .int x2] σ =
  pI σ 112 0 (.ref a0) 0 fun σ21 =>
  if sT σ21 a0 = 112 then (onI (rn 249 [.ref a0, .int x2] σ21) (fun x24 σ22 =>
  if (x24 = 0 : Prop) then (if sT σ22 a0 = 112 then (onI (rn 262 [.ref a0, .int x1] σ22) (fun x27 σ25 =>
      if (x27 = 0 : Prop) then (exec PP 9 269 26 [some (.ref a0), some (.int x1), some (.int x2), none] [.ref a0] σ25)
        else (exec PP 9 269 27 [some (.ref a0), some (.int x1), some (.int x2), none] [.int 1, .ref a0] σ25)) (fun e26 σ25x => some (.inr e26, σ25x))) else none)
    else (exec PP 9 269 22 [some (.ref a0), some (.int x1), some (.int x2), none] [.ref a0] σ22)) (fun e23 σ22x => some (.inr e23, σ22x))) else none := (exec_eq PP 9 269 0 _ _ σ).trans rfl
set_option maxRecDepth 20000 in
theorem e_269_22 (a0 : Nat) (x1 : Int32) (x2 : Int32) (o3 : Option Value) (b0 : Nat) (σ : SH) : exec PP 9 269 22 [some (.ref a0), some (.int x1), some (.int x2), o3] [.ref b0] σ =
  exec PP 9 269 27 [some (.ref a0), some (.int x1), some (.int x2), none] [.int 1, .ref b0] σ := (exec_eq PP 9 269 22 _ _ σ).trans rfl
set_option maxRecDepth 20000 in
theorem e_269_26 (a0 : Nat) (x1 : Int32) (x2 : Int32) (o3 : Option Value) (b0 : Nat) (σ : SH) : exec PP 9 269 26 [some (.ref a0), some (.int x1), some (.int x2), o3] [.ref b0] σ =
  if sT σ b0 = 112 then (onI (rn 216 [.ref b0, .int 0, .int 1] σ) (fun x23 σ21 =>
  if (x23 = 0 : Prop) then (if sT σ21 a0 = 112 then (onI (rn 257 [.ref a0, .int x1, .int 4] σ21) (fun x26 σ24 =>
      if (x26 = x2 : Prop) then (exec PP 9 269 50 [some (.ref a0), some (.int x1), some (.int x2), none] [.int 1, .ref a0] σ24)
        else (exec PP 9 269 49 [some (.ref a0), some (.int x1), some (.int x2), none] [.ref a0] σ24)) (fun e25 σ24x => some (.inr e25, σ24x))) else none)
    else (exec PP 9 269 93 [some (.ref a0), some (.int x1), some (.int x2), none] [] σ21)) (fun e22 σ21x => some (.inr e22, σ21x))) else none := (exec_eq PP 9 269 26 _ _ σ).trans rfl
set_option maxRecDepth 20000 in
theorem e_269_27 (a0 : Nat) (x1 : Int32) (x2 : Int32) (o3 : Option Value) (w0 : Int32) (b1 : Nat) (σ : SH) : exec PP 9 269 27 [some (.ref a0), some (.int x1), some (.int x2), o3] [.int w0, .ref b1] σ =
  if sT σ b1 = 112 then (onI (rn 216 [.ref b1, .int w0, .int 1] σ) (fun x23 σ21 =>
  if (x23 = 0 : Prop) then (if sT σ21 a0 = 112 then (onI (rn 257 [.ref a0, .int x1, .int 4] σ21) (fun x26 σ24 =>
      if (x26 = x2 : Prop) then (exec PP 9 269 50 [some (.ref a0), some (.int x1), some (.int x2), none] [.int 1, .ref a0] σ24)
        else (exec PP 9 269 49 [some (.ref a0), some (.int x1), some (.int x2), none] [.ref a0] σ24)) (fun e25 σ24x => some (.inr e25, σ24x))) else none)
    else (exec PP 9 269 93 [some (.ref a0), some (.int x1), some (.int x2), none] [] σ21)) (fun e22 σ21x => some (.inr e22, σ21x))) else none := (exec_eq PP 9 269 27 _ _ σ).trans rfl
set_option maxRecDepth 20000 in
theorem e_269_93 (o0 : Option Value) (o1 : Option Value) (o2 : Option Value) (o3 : Option Value) (σ : SH) : exec PP 9 269 93 [o0, o1, o2, o3] [] σ =
  some (.inl (some (.int 0)), σ) := (exec_eq PP 9 269 93 _ _ σ).trans rfl
set_option maxRecDepth 20000 in
theorem e_269_49 (a0 : Nat) (x1 : Int32) (x2 : Int32) (o3 : Option Value) (b0 : Nat) (σ : SH) : exec PP 9 269 49 [some (.ref a0), some (.int x1), some (.int x2), o3] [.ref b0] σ =
  if sT σ b0 = 112 then (onI (rn 216 [.ref b0, .int 0, .int 2] σ) (fun x23 σ21 =>
  if (x23 = 0 : Prop) then (if sT σ21 a0 = 112 then (onI (rn 256 [.ref a0, .int x1] σ21) (fun x26 σ24 =>
      if (x26 = 0 : Prop) then (exec PP 9 269 81 [some (.ref a0), some (.int x1), some (.int x2), none] [.ref a0] σ24)
        else (if sT σ24 a0 = 112 then (onI (rn 251 [.ref a0, .int x2, .int 0] σ24) (fun x29 σ27 =>
          if sT σ27 a0 = 112 then (onI (rn 264 [.ref a0, .int x2, .int x1] σ27) (fun x32 σ30 =>
            if (x29 < x32 : Prop) then (exec PP 9 269 86 [some (.ref a0), some (.int x1), some (.int x2), none] [.int 1, .ref a0] σ30)
              else (exec PP 9 269 85 [some (.ref a0), some (.int x1), some (.int x2), none] [.ref a0] σ30)) (fun e31 σ30x => some (.inr e31, σ30x))) else none) (fun e28 σ27x => some (.inr e28, σ27x))) else none)) (fun e25 σ24x => some (.inr e25, σ24x))) else none)
    else (exec PP 9 269 93 [some (.ref a0), some (.int x1), some (.int x2), none] [] σ21)) (fun e22 σ21x => some (.inr e22, σ21x))) else none := (exec_eq PP 9 269 49 _ _ σ).trans rfl
set_option maxRecDepth 20000 in
theorem e_269_50 (a0 : Nat) (x1 : Int32) (x2 : Int32) (o3 : Option Value) (w0 : Int32) (b1 : Nat) (σ : SH) : exec PP 9 269 50 [some (.ref a0), some (.int x1), some (.int x2), o3] [.int w0, .ref b1] σ =
  if sT σ b1 = 112 then (onI (rn 216 [.ref b1, .int w0, .int 2] σ) (fun x23 σ21 =>
  if (x23 = 0 : Prop) then (if sT σ21 a0 = 112 then (onI (rn 256 [.ref a0, .int x1] σ21) (fun x26 σ24 =>
      if (x26 = 0 : Prop) then (exec PP 9 269 81 [some (.ref a0), some (.int x1), some (.int x2), none] [.ref a0] σ24)
        else (if sT σ24 a0 = 112 then (onI (rn 251 [.ref a0, .int x2, .int 0] σ24) (fun x29 σ27 =>
          if sT σ27 a0 = 112 then (onI (rn 264 [.ref a0, .int x2, .int x1] σ27) (fun x32 σ30 =>
            if (x29 < x32 : Prop) then (exec PP 9 269 86 [some (.ref a0), some (.int x1), some (.int x2), none] [.int 1, .ref a0] σ30)
              else (exec PP 9 269 85 [some (.ref a0), some (.int x1), some (.int x2), none] [.ref a0] σ30)) (fun e31 σ30x => some (.inr e31, σ30x))) else none) (fun e28 σ27x => some (.inr e28, σ27x))) else none)) (fun e25 σ24x => some (.inr e25, σ24x))) else none)
    else (exec PP 9 269 93 [some (.ref a0), some (.int x1), some (.int x2), none] [] σ21)) (fun e22 σ21x => some (.inr e22, σ21x))) else none := (exec_eq PP 9 269 50 _ _ σ).trans rfl
set_option maxRecDepth 20000 in
theorem e_269_81 (a0 : Nat) (x1 : Int32) (x2 : Int32) (o3 : Option Value) (b0 : Nat) (σ : SH) : exec PP 9 269 81 [some (.ref a0), some (.int x1), some (.int x2), o3] [.ref b0] σ =
  exec PP 9 269 86 [some (.ref a0), some (.int x1), some (.int x2), none] [.int 1, .ref b0] σ := (exec_eq PP 9 269 81 _ _ σ).trans rfl
set_option maxRecDepth 20000 in
theorem e_269_85 (a0 : Nat) (x1 : Int32) (x2 : Int32) (o3 : Option Value) (b0 : Nat) (σ : SH) : exec PP 9 269 85 [some (.ref a0), some (.int x1), some (.int x2), o3] [.ref b0] σ =
  if sT σ b0 = 112 then (onI (rn 216 [.ref b0, .int 0, .int 3] σ) (fun x23 σ21 =>
  if (x23 = 0 : Prop) then (exec PP 9 269 95 [some (.ref a0), some (.int x1), some (.int x2), none] [] σ21)
    else (some (.inl (some (.int 0)), σ21))) (fun e22 σ21x => some (.inr e22, σ21x))) else none := (exec_eq PP 9 269 85 _ _ σ).trans rfl
set_option maxRecDepth 20000 in
theorem e_269_86 (a0 : Nat) (x1 : Int32) (x2 : Int32) (o3 : Option Value) (w0 : Int32) (b1 : Nat) (σ : SH) : exec PP 9 269 86 [some (.ref a0), some (.int x1), some (.int x2), o3] [.int w0, .ref b1] σ =
  if sT σ b1 = 112 then (onI (rn 216 [.ref b1, .int w0, .int 3] σ) (fun x23 σ21 =>
  if (x23 = 0 : Prop) then (exec PP 9 269 95 [some (.ref a0), some (.int x1), some (.int x2), none] [] σ21)
    else (some (.inl (some (.int 0)), σ21))) (fun e22 σ21x => some (.inr e22, σ21x))) else none := (exec_eq PP 9 269 86 _ _ σ).trans rfl
set_option maxRecDepth 20000 in
theorem e_269_95 (a0 : Nat) (x1 : Int32) (x2 : Int32) (o3 : Option Value) (σ : SH) : exec PP 9 269 95 [some (.ref a0), some (.int x1), some (.int x2), o3] [] σ =
  if sT σ a0 = 112 then (onV (rn 268 [.ref a0] σ) (fun σ21 =>
  if sT σ21 a0 = 112 then (onI (rn 264 [.ref a0, .int x2, .int x1] σ21) (fun x25 σ23 =>
    gR σ23 112 1 (.ref a0) fun a26 =>
      onI (rn 202 [.int x2, .int 0] σ23) (fun x29 σ27 =>
      aI σ27 1 (.ref a26) x29 fun x30 =>
        uI σ27 (.ref a26) x29 (x30 - x25) fun σ31 =>
        if sT σ31 a0 = 112 then (onI (rn 257 [.ref a0, .int x1, .int 4] σ31) (fun x34 σ32 =>
        if sT σ32 a0 = 112 then (onV (rn 270 [.ref a0, .int x34, .int x25] σ32) (fun σ35 =>
          gR σ35 112 1 (.ref a0) fun a37 =>
            onI (rn 205 [.int x1, .int 4] σ35) (fun x40 σ38 =>
            uI σ38 (.ref a37) x40 x2 fun σ41 =>
              some (.inl (some (.int x25)), σ41)) (fun e39 σ38x => some (.inr e39, σ38x))) (fun e36 σ35x => some (.inr e36, σ35x))) else none) (fun e33 σ32x => some (.inr e33, σ32x))) else none) (fun e28 σ27x => some (.inr e28, σ27x))) (fun e24 σ23x => some (.inr e24, σ23x))) else none) (fun e22 σ21x => some (.inr e22, σ21x))) else none := (exec_eq PP 9 269 95 _ _ σ).trans rfl

/-! 270: ArchEndsModel.gets(II)V -/
set_option maxRecDepth 20000 in
theorem r_270 (a0 : Nat) (x1 : Int32) (x2 : Int32) (σ : SH) : rn 270 [.ref a0, .int x1, .int x2] σ =
  gR σ 112 1 (.ref a0) fun a21 =>
  onI (rn 202 [.int x1, .int 0] σ) (fun x24 σ22 =>
  if sT σ22 a0 = 112 then (onI (rn 251 [.ref a0, .int x1, .int 0] σ22) (fun x27 σ25 =>
    onI (rn 328 [.int 9999, .int (x27 + x2)] σ25) (fun x30 σ28 =>
      uI σ28 (.ref a21) x24 x30 fun σ31 =>
        some (.inl none, σ31)) (fun e29 σ28x => some (.inr e29, σ28x))) (fun e26 σ25x => some (.inr e26, σ25x))) else none) (fun e23 σ22x => some (.inr e23, σ22x)) := (exec_eq PP 3 270 0 _ _ σ).trans rfl

/-! 271: ArchEndsModel.go(II)I -/
set_option maxRecDepth 20000 in
theorem r_271 (a0 : Nat) (x1 : Int32) (x2 : Int32) (σ : SH) : rn 271 [.ref a0, .int x1, .int x2] σ =
  pI σ 112 0 (.ref a0) 0 fun σ21 =>
  if sT σ21 a0 = 112 then (onI (rn 249 [.ref a0, .int x1] σ21) (fun x24 σ22 =>
  if (x24 = 0 : Prop) then (onI (rn 229 [.int x2] σ22) (fun x27 σ25 =>
      if (x27 = 0 : Prop) then (exec PP 9 271 25 [some (.ref a0), some (.int x1), some (.int x2), none] [.ref a0] σ25)
        else (exec PP 9 271 26 [some (.ref a0), some (.int x1), some (.int x2), none] [.int 1, .ref a0] σ25)) (fun e26 σ25x => some (.inr e26, σ25x)))
    else (exec PP 9 271 21 [some (.ref a0), some (.int x1), some (.int x2), none] [.ref a0] σ22)) (fun e23 σ22x => some (.inr e23, σ22x))) else none := (exec_eq PP 9 271 0 _ _ σ).trans rfl
set_option maxRecDepth 20000 in
theorem e_271_21 (a0 : Nat) (x1 : Int32) (x2 : Int32) (o3 : Option Value) (b0 : Nat) (σ : SH) : exec PP 9 271 21 [some (.ref a0), some (.int x1), some (.int x2), o3] [.ref b0] σ =
  exec PP 9 271 26 [some (.ref a0), some (.int x1), some (.int x2), none] [.int 1, .ref b0] σ := (exec_eq PP 9 271 21 _ _ σ).trans rfl
set_option maxRecDepth 20000 in
theorem e_271_25 (a0 : Nat) (x1 : Int32) (x2 : Int32) (o3 : Option Value) (b0 : Nat) (σ : SH) : exec PP 9 271 25 [some (.ref a0), some (.int x1), some (.int x2), o3] [.ref b0] σ =
  if sT σ b0 = 112 then (onI (rn 216 [.ref b0, .int 0, .int 1] σ) (fun x23 σ21 =>
  if (x23 = 0 : Prop) then (exec PP 9 271 35 [some (.ref a0), some (.int x1), some (.int x2), none] [] σ21)
    else (some (.inl (some (.int 0)), σ21))) (fun e22 σ21x => some (.inr e22, σ21x))) else none := (exec_eq PP 9 271 25 _ _ σ).trans rfl
set_option maxRecDepth 20000 in
theorem e_271_26 (a0 : Nat) (x1 : Int32) (x2 : Int32) (o3 : Option Value) (w0 : Int32) (b1 : Nat) (σ : SH) : exec PP 9 271 26 [some (.ref a0), some (.int x1), some (.int x2), o3] [.int w0, .ref b1] σ =
  if sT σ b1 = 112 then (onI (rn 216 [.ref b1, .int w0, .int 1] σ) (fun x23 σ21 =>
  if (x23 = 0 : Prop) then (exec PP 9 271 35 [some (.ref a0), some (.int x1), some (.int x2), none] [] σ21)
    else (some (.inl (some (.int 0)), σ21))) (fun e22 σ21x => some (.inr e22, σ21x))) else none := (exec_eq PP 9 271 26 _ _ σ).trans rfl
set_option maxRecDepth 20000 in
theorem e_271_35 (a0 : Nat) (x1 : Int32) (x2 : Int32) (o3 : Option Value) (σ : SH) : exec PP 9 271 35 [some (.ref a0), some (.int x1), some (.int x2), o3] [] σ =
  if sT σ a0 = 112 then (onI (rn 251 [.ref a0, .int x1, .int 1] σ) (fun x23 σ21 =>
  onI (rn 326 [.int (x23 - x2)] σ21) (fun x26 σ24 =>
    if sT σ24 a0 = 112 then (onI (rn 250 [.ref a0, .int x1] σ24) (fun x29 σ27 =>
      if (x29 < x26 : Prop) then (exec PP 9 271 62 [some (.ref a0), some (.int x1), some (.int x2), some (.int x26)] [.int 1, .ref a0] σ27)
        else (exec PP 9 271 61 [some (.ref a0), some (.int x1), some (.int x2), some (.int x26)] [.ref a0] σ27)) (fun e28 σ27x => some (.inr e28, σ27x))) else none) (fun e25 σ24x => some (.inr e25, σ24x))) (fun e22 σ21x => some (.inr e22, σ21x))) else none := (exec_eq PP 9 271 35 _ _ σ).trans rfl
set_option maxRecDepth 20000 in
theorem e_271_61 (a0 : Nat) (x1 : Int32) (x2 : Int32) (x3 : Int32) (b0 : Nat) (σ : SH) : exec PP 9 271 61 [some (.ref a0), some (.int x1), some (.int x2), some (.int x3)] [.ref b0] σ =
  if sT σ b0 = 112 then (onI (rn 216 [.ref b0, .int 0, .int 2] σ) (fun x23 σ21 =>
  if (x23 = 0 : Prop) then (exec PP 9 271 71 [some (.ref a0), some (.int x1), some (.int x2), some (.int x3)] [] σ21)
    else (some (.inl (some (.int 0)), σ21))) (fun e22 σ21x => some (.inr e22, σ21x))) else none := (exec_eq PP 9 271 61 _ _ σ).trans rfl
set_option maxRecDepth 20000 in
theorem e_271_62 (a0 : Nat) (x1 : Int32) (x2 : Int32) (x3 : Int32) (w0 : Int32) (b1 : Nat) (σ : SH) : exec PP 9 271 62 [some (.ref a0), some (.int x1), some (.int x2), some (.int x3)] [.int w0, .ref b1] σ =
  if sT σ b1 = 112 then (onI (rn 216 [.ref b1, .int w0, .int 2] σ) (fun x23 σ21 =>
  if (x23 = 0 : Prop) then (exec PP 9 271 71 [some (.ref a0), some (.int x1), some (.int x2), some (.int x3)] [] σ21)
    else (some (.inl (some (.int 0)), σ21))) (fun e22 σ21x => some (.inr e22, σ21x))) else none := (exec_eq PP 9 271 62 _ _ σ).trans rfl
set_option maxRecDepth 20000 in
theorem e_271_71 (a0 : Nat) (x1 : Int32) (x2 : Int32) (x3 : Int32) (σ : SH) : exec PP 9 271 71 [some (.ref a0), some (.int x1), some (.int x2), some (.int x3)] [] σ =
  if sT σ a0 = 112 then (onV (rn 268 [.ref a0] σ) (fun σ21 =>
  gR σ21 112 1 (.ref a0) fun a23 =>
    onI (rn 202 [.int x1, .int 1] σ21) (fun x26 σ24 =>
    uI σ24 (.ref a23) x26 x2 fun σ27 =>
      some (.inl (some (.int x3)), σ27)) (fun e25 σ24x => some (.inr e25, σ24x))) (fun e22 σ21x => some (.inr e22, σ21x))) else none := (exec_eq PP 9 271 71 _ _ σ).trans rfl

/-! 272: ArchEndsModel.tell(II)I -/
set_option maxRecDepth 20000 in
theorem r_272 (a0 : Nat) (x1 : Int32) (x2 : Int32) (σ : SH) : rn 272 [.ref a0, .int x1, .int x2] σ =
  pI σ 112 0 (.ref a0) 0 fun σ21 =>
  if sT σ21 a0 = 112 then (onI (rn 219 [.ref a0, .int x1] σ21) (fun x24 σ22 =>
  if sT σ22 a0 = 112 then (onI (rn 216 [.ref a0, .int x24, .int 1] σ22) (fun x27 σ25 =>
    if (x27 = 0 : Prop) then (onI (rn 220 [.int x2, .int 0, .int 2] σ25) (fun x30 σ28 =>
        if (x30 = 0 : Prop) then (exec PP 3 272 33 [some (.ref a0), some (.int x1), some (.int x2), none] [.int 1, .ref a0] σ28)
          else (exec PP 3 272 32 [some (.ref a0), some (.int x1), some (.int x2), none] [.ref a0] σ28)) (fun e29 σ28x => some (.inr e29, σ28x)))
      else (exec PP 3 272 40 [some (.ref a0), some (.int x1), some (.int x2), none] [] σ25)) (fun e26 σ25x => some (.inr e26, σ25x))) else none) (fun e23 σ22x => some (.inr e23, σ22x))) else none := (exec_eq PP 3 272 0 _ _ σ).trans rfl
set_option maxRecDepth 20000 in
theorem e_272_40 (o0 : Option Value) (o1 : Option Value) (o2 : Option Value) (o3 : Option Value) (σ : SH) : exec PP 3 272 40 [o0, o1, o2, o3] [] σ =
  some (.inl (some (.int 0)), σ) := (exec_eq PP 3 272 40 _ _ σ).trans rfl
set_option maxRecDepth 20000 in
theorem e_272_32 (a0 : Nat) (x1 : Int32) (x2 : Int32) (o3 : Option Value) (b0 : Nat) (σ : SH) : exec PP 3 272 32 [some (.ref a0), some (.int x1), some (.int x2), o3] [.ref b0] σ =
  if sT σ b0 = 112 then (onI (rn 216 [.ref b0, .int 0, .int 2] σ) (fun x23 σ21 =>
  if (x23 = 0 : Prop) then (exec PP 3 272 42 [some (.ref a0), some (.int x1), some (.int x2), none] [] σ21)
    else (some (.inl (some (.int 0)), σ21))) (fun e22 σ21x => some (.inr e22, σ21x))) else none := (exec_eq PP 3 272 32 _ _ σ).trans rfl
set_option maxRecDepth 20000 in
theorem e_272_33 (a0 : Nat) (x1 : Int32) (x2 : Int32) (o3 : Option Value) (w0 : Int32) (b1 : Nat) (σ : SH) : exec PP 3 272 33 [some (.ref a0), some (.int x1), some (.int x2), o3] [.int w0, .ref b1] σ =
  if sT σ b1 = 112 then (onI (rn 216 [.ref b1, .int w0, .int 2] σ) (fun x23 σ21 =>
  if (x23 = 0 : Prop) then (exec PP 3 272 42 [some (.ref a0), some (.int x1), some (.int x2), none] [] σ21)
    else (some (.inl (some (.int 0)), σ21))) (fun e22 σ21x => some (.inr e22, σ21x))) else none := (exec_eq PP 3 272 33 _ _ σ).trans rfl
set_option maxRecDepth 20000 in
theorem e_272_42 (a0 : Nat) (x1 : Int32) (x2 : Int32) (o3 : Option Value) (σ : SH) : exec PP 3 272 42 [some (.ref a0), some (.int x1), some (.int x2), o3] [] σ =
  if sT σ a0 = 112 then (onV (rn 268 [.ref a0] σ) (fun σ21 =>
  if sT σ21 a0 = 112 then (onI (rn 221 [.ref a0, .int x1, .int 6] σ21) (fun x25 σ23 =>
    gR σ23 112 1 (.ref a0) fun a26 =>
      uI σ23 (.ref a26) ((10 + (7 * x1)) + 6) x2 fun σ27 =>
      some (.inl (some (.int x25)), σ27)) (fun e24 σ23x => some (.inr e24, σ23x))) else none) (fun e22 σ21x => some (.inr e22, σ21x))) else none := (exec_eq PP 3 272 42 _ _ σ).trans rfl

/-! 273: ArchEndsModel.road(I)I -/
set_option maxRecDepth 20000 in
theorem r_273 (a0 : Nat) (x1 : Int32) (σ : SH) : rn 273 [.ref a0, .int x1] σ =
  pI σ 112 0 (.ref a0) 0 fun σ21 =>
  onI (rn 229 [.int x1] σ21) (fun x24 σ22 =>
  if sT σ22 a0 = 112 then (onI (rn 216 [.ref a0, .int x24, .int 1] σ22) (fun x27 σ25 =>
    if (x27 = 0 : Prop) then (exec PP 3 273 19 [some (.ref a0), some (.int x1), none] [] σ25)
      else (some (.inl (some (.int 0)), σ25))) (fun e26 σ25x => some (.inr e26, σ25x))) else none) (fun e23 σ22x => some (.inr e23, σ22x)) := (exec_eq PP 3 273 0 _ _ σ).trans rfl
set_option maxRecDepth 20000 in
theorem e_273_19 (a0 : Nat) (x1 : Int32) (o2 : Option Value) (σ : SH) : exec PP 3 273 19 [some (.ref a0), some (.int x1), o2] [] σ =
  if sT σ a0 = 112 then (onV (rn 268 [.ref a0] σ) (fun σ21 =>
  gR σ21 112 1 (.ref a0) fun a23 =>
    aI σ21 1 (.ref a23) 6 fun x24 =>
    gR σ21 112 1 (.ref a0) fun a25 =>
    uI σ21 (.ref a25) 6 x1 fun σ26 =>
    some (.inl (some (.int x24)), σ26)) (fun e22 σ21x => some (.inr e22, σ21x))) else none := (exec_eq PP 3 273 19 _ _ σ).trans rfl

/-! 274: ArchEndsModel.insure(I)I -/
set_option maxRecDepth 20000 in
theorem r_274 (a0 : Nat) (x1 : Int32) (σ : SH) : rn 274 [.ref a0, .int x1] σ =
  pI σ 112 0 (.ref a0) 0 fun σ21 =>
  if sT σ21 a0 = 112 then (onI (rn 262 [.ref a0, .int x1] σ21) (fun x24 σ22 =>
  if sT σ22 a0 = 112 then (onI (rn 216 [.ref a0, .int x24, .int 1] σ22) (fun x27 σ25 =>
    if (x27 = 0 : Prop) then (exec PP 3 274 20 [some (.ref a0), some (.int x1), none] [] σ25)
      else (some (.inl (some (.int 0)), σ25))) (fun e26 σ25x => some (.inr e26, σ25x))) else none) (fun e23 σ22x => some (.inr e23, σ22x))) else none := (exec_eq PP 3 274 0 _ _ σ).trans rfl
set_option maxRecDepth 20000 in
theorem e_274_20 (a0 : Nat) (x1 : Int32) (o2 : Option Value) (σ : SH) : exec PP 3 274 20 [some (.ref a0), some (.int x1), o2] [] σ =
  if sT σ a0 = 112 then (onI (rn 257 [.ref a0, .int x1, .int 4] σ) (fun x23 σ21 =>
  if (x23 = (-1) : Prop) then (exec PP 3 274 60 [some (.ref a0), some (.int x1), some (.int x23)] [.ref a0] σ21)
    else (if sT σ21 a0 = 112 then (onI (rn 257 [.ref a0, .int x1, .int 6] σ21) (fun x26 σ24 =>
      if (x26 = 1 : Prop) then (exec PP 3 274 60 [some (.ref a0), some (.int x1), some (.int x23)] [.ref a0] σ24)
        else (if sT σ24 a0 = 112 then (onI (rn 251 [.ref a0, .int x23, .int 0] σ24) (fun x29 σ27 =>
          gR σ27 112 1 (.ref a0) fun a30 =>
            aI σ27 1 (.ref a30) 7 fun x31 =>
            if (x29 < x31 : Prop) then (exec PP 3 274 65 [some (.ref a0), some (.int x1), some (.int x23)] [.int 1, .ref a0] σ27)
            else (exec PP 3 274 64 [some (.ref a0), some (.int x1), some (.int x23)] [.ref a0] σ27)) (fun e28 σ27x => some (.inr e28, σ27x))) else none)) (fun e25 σ24x => some (.inr e25, σ24x))) else none)) (fun e22 σ21x => some (.inr e22, σ21x))) else none := (exec_eq PP 3 274 20 _ _ σ).trans rfl
set_option maxRecDepth 20000 in
theorem e_274_60 (a0 : Nat) (x1 : Int32) (x2 : Int32) (b0 : Nat) (σ : SH) : exec PP 3 274 60 [some (.ref a0), some (.int x1), some (.int x2)] [.ref b0] σ =
  exec PP 3 274 65 [some (.ref a0), some (.int x1), some (.int x2)] [.int 1, .ref b0] σ := (exec_eq PP 3 274 60 _ _ σ).trans rfl
set_option maxRecDepth 20000 in
theorem e_274_64 (a0 : Nat) (x1 : Int32) (x2 : Int32) (b0 : Nat) (σ : SH) : exec PP 3 274 64 [some (.ref a0), some (.int x1), some (.int x2)] [.ref b0] σ =
  if sT σ b0 = 112 then (onI (rn 216 [.ref b0, .int 0, .int 2] σ) (fun x23 σ21 =>
  if (x23 = 0 : Prop) then (exec PP 3 274 74 [some (.ref a0), some (.int x1), some (.int x2)] [] σ21)
    else (some (.inl (some (.int 0)), σ21))) (fun e22 σ21x => some (.inr e22, σ21x))) else none := (exec_eq PP 3 274 64 _ _ σ).trans rfl
set_option maxRecDepth 20000 in
theorem e_274_65 (a0 : Nat) (x1 : Int32) (x2 : Int32) (w0 : Int32) (b1 : Nat) (σ : SH) : exec PP 3 274 65 [some (.ref a0), some (.int x1), some (.int x2)] [.int w0, .ref b1] σ =
  if sT σ b1 = 112 then (onI (rn 216 [.ref b1, .int w0, .int 2] σ) (fun x23 σ21 =>
  if (x23 = 0 : Prop) then (exec PP 3 274 74 [some (.ref a0), some (.int x1), some (.int x2)] [] σ21)
    else (some (.inl (some (.int 0)), σ21))) (fun e22 σ21x => some (.inr e22, σ21x))) else none := (exec_eq PP 3 274 65 _ _ σ).trans rfl
set_option maxRecDepth 20000 in
theorem e_274_74 (a0 : Nat) (x1 : Int32) (x2 : Int32) (σ : SH) : exec PP 3 274 74 [some (.ref a0), some (.int x1), some (.int x2)] [] σ =
  if sT σ a0 = 112 then (onV (rn 268 [.ref a0] σ) (fun σ21 =>
  gR σ21 112 1 (.ref a0) fun a23 =>
    onI (rn 202 [.int x2, .int 0] σ21) (fun x26 σ24 =>
    aI σ24 1 (.ref a23) x26 fun x27 =>
      gR σ24 112 1 (.ref a0) fun a28 =>
      aI σ24 1 (.ref a28) 7 fun x29 =>
      uI σ24 (.ref a23) x26 (x27 - x29) fun σ30 =>
      gR σ30 112 1 (.ref a0) fun a31 =>
      onI (rn 205 [.int x1, .int 6] σ30) (fun x34 σ32 =>
      uI σ32 (.ref a31) x34 1 fun σ35 =>
        if sT σ35 a0 = 112 then (onI (rn 251 [.ref a0, .int x2, .int 0] σ35) (fun x38 σ36 =>
        some (.inl (some (.int x38)), σ36)) (fun e37 σ36x => some (.inr e37, σ36x))) else none) (fun e33 σ32x => some (.inr e33, σ32x))) (fun e25 σ24x => some (.inr e25, σ24x))) (fun e22 σ21x => some (.inr e22, σ21x))) else none := (exec_eq PP 3 274 74 _ _ σ).trans rfl

/-! 275: ArchEndsModel.minutes(I)I -/
set_option maxRecDepth 20000 in
theorem r_275 (a0 : Nat) (x1 : Int32) (σ : SH) : rn 275 [.ref a0, .int x1] σ =
  pI σ 112 0 (.ref a0) 0 fun σ21 =>
  onI (rn 220 [.int x1, .int 1, .int 100] σ21) (fun x24 σ22 =>
  if (x24 = 0 : Prop) then (exec PP 12 275 21 [some (.ref a0), some (.int x1)] [.int 1, .ref a0] σ22)
    else (exec PP 12 275 20 [some (.ref a0), some (.int x1)] [.ref a0] σ22)) (fun e23 σ22x => some (.inr e23, σ22x)) := (exec_eq PP 12 275 0 _ _ σ).trans rfl
set_option maxRecDepth 20000 in
theorem e_275_20 (a0 : Nat) (x1 : Int32) (b0 : Nat) (σ : SH) : exec PP 12 275 20 [some (.ref a0), some (.int x1)] [.ref b0] σ =
  if sT σ b0 = 112 then (onI (rn 216 [.ref b0, .int 0, .int 1] σ) (fun x23 σ21 =>
  if (x23 = 0 : Prop) then (exec PP 12 275 30 [some (.ref a0), some (.int x1)] [] σ21)
    else (some (.inl (some (.int 0)), σ21))) (fun e22 σ21x => some (.inr e22, σ21x))) else none := (exec_eq PP 12 275 20 _ _ σ).trans rfl
set_option maxRecDepth 20000 in
theorem e_275_21 (a0 : Nat) (x1 : Int32) (w0 : Int32) (b1 : Nat) (σ : SH) : exec PP 12 275 21 [some (.ref a0), some (.int x1)] [.int w0, .ref b1] σ =
  if sT σ b1 = 112 then (onI (rn 216 [.ref b1, .int w0, .int 1] σ) (fun x23 σ21 =>
  if (x23 = 0 : Prop) then (exec PP 12 275 30 [some (.ref a0), some (.int x1)] [] σ21)
    else (some (.inl (some (.int 0)), σ21))) (fun e22 σ21x => some (.inr e22, σ21x))) else none := (exec_eq PP 12 275 21 _ _ σ).trans rfl
set_option maxRecDepth 20000 in
theorem e_275_30 (a0 : Nat) (x1 : Int32) (σ : SH) : exec PP 12 275 30 [some (.ref a0), some (.int x1)] [] σ =
  if sT σ a0 = 112 then (onV (rn 268 [.ref a0] σ) (fun σ21 =>
  if sT σ21 a0 = 112 then (onI (rn 276 [.ref a0, .int x1, .int 0] σ21) (fun x25 σ23 =>
    some (.inl (some (.int x25)), σ23)) (fun e24 σ23x => some (.inr e24, σ23x))) else none) (fun e22 σ21x => some (.inr e22, σ21x))) else none := (exec_eq PP 12 275 30 _ _ σ).trans rfl

/-! 276: ArchEndsModel.goesBy(IZ)I -/
set_option maxRecDepth 20000 in
theorem r_276 (a0 : Nat) (x1 : Int32) (x2 : Int32) (σ : SH) : rn 276 [.ref a0, .int x1, .int x2] σ =
  exec PP 11 276 5 [some (.ref a0), some (.int x1), some (.int x2), some (.int 0), some (.int 0)] [] σ := (exec_eq PP 11 276 0 _ _ σ).trans rfl
set_option maxRecDepth 20000 in
theorem e_276_5 (a0 : Nat) (x1 : Int32) (x2 : Int32) (x3 : Int32) (x4 : Int32) (σ : SH) : exec PP 11 276 5 [some (.ref a0), some (.int x1), some (.int x2), some (.int x3), some (.int x4)] [] σ =
  if (x4 < x1 : Prop) then (if sT σ a0 = 112 then (onI (rn 277 [.ref a0, .int x2] σ) (fun x23 σ21 =>
    exec PP 11 276 5 [some (.ref a0), some (.int x1), some (.int x2), some (.int (x3 + x23)), some (.int (x4 + 1))] [] σ21) (fun e22 σ21x => some (.inr e22, σ21x))) else none)
  else (exec PP 11 276 25 [some (.ref a0), some (.int x1), some (.int x2), some (.int x3), some (.int x4)] [] σ) := (exec_eq PP 11 276 5 _ _ σ).trans rfl
set_option maxRecDepth 20000 in
theorem e_276_25 (o0 : Option Value) (o1 : Option Value) (o2 : Option Value) (x3 : Int32) (o4 : Option Value) (σ : SH) : exec PP 11 276 25 [o0, o1, o2, some (.int x3), o4] [] σ =
  some (.inl (some (.int x3)), σ) := (exec_eq PP 11 276 25 _ _ σ).trans rfl

/-! 277: ArchEndsModel.oneMinute(Z)I -/
set_option maxRecDepth 20000 in
theorem r_277 (a0 : Nat) (x1 : Int32) (σ : SH) : rn 277 [.ref a0, .int x1] σ =
  exec PP 10 277 2 [some (.ref a0), some (.int x1), some (.int 0), none] [] σ := (exec_eq PP 10 277 0 _ _ σ).trans rfl
set_option maxRecDepth 20000 in
theorem e_277_2 (a0 : Nat) (x1 : Int32) (x2 : Int32) (o3 : Option Value) (σ : SH) : exec PP 10 277 2 [some (.ref a0), some (.int x1), some (.int x2), o3] [] σ =
  if sT σ a0 = 112 then (onI (rn 195 [.ref a0] σ) (fun x23 σ21 =>
  if (x2 < x23 : Prop) then (if sT σ21 a0 = 112 then (onI (rn 221 [.ref a0, .int x2, .int 6] σ21) (fun x26 σ24 =>
      if (x26 = 0 : Prop) then (if sT σ24 a0 = 112 then (onI (rn 221 [.ref a0, .int x2, .int 2] σ24) (fun x29 σ27 =>
          gR σ27 112 1 (.ref a0) fun a30 =>
            aI σ27 1 (.ref a30) 5 fun x31 =>
            if (x29 = x31 : Prop) then (exec PP 10 277 38 [some (.ref a0), some (.int x1), some (.int x2), none] [] σ27)
            else (exec PP 10 277 77 [some (.ref a0), some (.int x1), some (.int x2), none] [] σ27)) (fun e28 σ27x => some (.inr e28, σ27x))) else none)
        else (exec PP 10 277 77 [some (.ref a0), some (.int x1), some (.int x2), none] [] σ24)) (fun e25 σ24x => some (.inr e25, σ24x))) else none)
    else (exec PP 10 277 83 [some (.ref a0), some (.int x1), some (.int x2), none] [] σ21)) (fun e22 σ21x => some (.inr e22, σ21x))) else none := (exec_eq PP 10 277 2 _ _ σ).trans rfl
set_option maxRecDepth 20000 in
theorem e_277_83 (a0 : Nat) (o1 : Option Value) (o2 : Option Value) (o3 : Option Value) (σ : SH) : exec PP 10 277 83 [some (.ref a0), o1, o2, o3] [] σ =
  exec PP 10 277 87 [some (.ref a0), none, some (.int 0), some (.int 0)] [] σ := (exec_eq PP 10 277 83 _ _ σ).trans rfl
set_option maxRecDepth 20000 in
theorem e_277_77 (a0 : Nat) (x1 : Int32) (x2 : Int32) (o3 : Option Value) (σ : SH) : exec PP 10 277 77 [some (.ref a0), some (.int x1), some (.int x2), o3] [] σ =
  exec PP 10 277 2 [some (.ref a0), some (.int x1), some (.int (x2 + 1)), none] [] σ := (exec_eq PP 10 277 77 _ _ σ).trans rfl
set_option maxRecDepth 20000 in
theorem e_277_38 (a0 : Nat) (x1 : Int32) (x2 : Int32) (o3 : Option Value) (σ : SH) : exec PP 10 277 38 [some (.ref a0), some (.int x1), some (.int x2), o3] [] σ =
  gR σ 112 1 (.ref a0) fun a21 =>
  if (x1 = 0 : Prop) then (if sT σ a0 = 112 then (onI (rn 278 [.ref a0, .int 100] σ) (fun x24 σ22 =>
    if sT σ22 a0 = 112 then (onI (rn 221 [.ref a0, .int x2, .int 5] σ22) (fun x27 σ25 =>
      if (x24 < x27 : Prop) then (exec PP 10 277 76 [some (.ref a0), some (.int x1), some (.int x2), none] [.int 1, .int ((10 + (7 * x2)) + 6), .ref a21] σ25)
        else (exec PP 10 277 75 [some (.ref a0), some (.int x1), some (.int x2), none] [.int ((10 + (7 * x2)) + 6), .ref a21] σ25)) (fun e26 σ25x => some (.inr e26, σ25x))) else none) (fun e23 σ22x => some (.inr e23, σ22x))) else none)
  else (exec PP 10 277 71 [some (.ref a0), some (.int x1), some (.int x2), none] [.int ((10 + (7 * x2)) + 6), .ref a21] σ) := (exec_eq PP 10 277 38 _ _ σ).trans rfl
set_option maxRecDepth 20000 in
theorem e_277_87 (a0 : Nat) (o1 : Option Value) (x2 : Int32) (x3 : Int32) (σ : SH) : exec PP 10 277 87 [some (.ref a0), o1, some (.int x2), some (.int x3)] [] σ =
  if sT σ a0 = 112 then (onI (rn 204 [.ref a0] σ) (fun x23 σ21 =>
  if (x3 < x23 : Prop) then (if sT σ21 a0 = 112 then (onI (rn 256 [.ref a0, .int x3] σ21) (fun x26 σ24 =>
      if (x26 = 0 : Prop) then (exec PP 10 277 133 [some (.ref a0), none, some (.int x2), some (.int x3)] [] σ24)
        else (gR σ24 112 1 (.ref a0) fun a27 =>
          aI σ24 1 (.ref a27) 5 fun x28 =>
          if sT σ24 a0 = 112 then (onI (rn 258 [.ref a0, .int x3, .int x28] σ24) (fun x31 σ29 =>
          if (x31 = 0 : Prop) then (exec PP 10 277 133 [some (.ref a0), none, some (.int x2), some (.int x3)] [] σ29)
            else (if sT σ29 a0 = 112 then (onI (rn 279 [.ref a0, .int x3] σ29) (fun x34 σ32 =>
              if (x34 = 0 : Prop) then (exec PP 10 277 130 [some (.ref a0), none, some (.int x2), some (.int x3)] [.int x2] σ32)
                else (exec PP 10 277 131 [some (.ref a0), none, some (.int x2), some (.int x3)] [.int 1, .int x2] σ32)) (fun e33 σ32x => some (.inr e33, σ32x))) else none)) (fun e30 σ29x => some (.inr e30, σ29x))) else none)) (fun e25 σ24x => some (.inr e25, σ24x))) else none)
    else (exec PP 10 277 139 [some (.ref a0), none, some (.int x2), some (.int x3)] [] σ21)) (fun e22 σ21x => some (.inr e22, σ21x))) else none := (exec_eq PP 10 277 87 _ _ σ).trans rfl
set_option maxRecDepth 20000 in
theorem e_277_71 (a0 : Nat) (x1 : Int32) (x2 : Int32) (o3 : Option Value) (w0 : Int32) (b1 : Nat) (σ : SH) : exec PP 10 277 71 [some (.ref a0), some (.int x1), some (.int x2), o3] [.int w0, .ref b1] σ =
  exec PP 10 277 76 [some (.ref a0), some (.int x1), some (.int x2), none] [.int 1, .int w0, .ref b1] σ := (exec_eq PP 10 277 71 _ _ σ).trans rfl
set_option maxRecDepth 20000 in
theorem e_277_75 (a0 : Nat) (x1 : Int32) (x2 : Int32) (o3 : Option Value) (w0 : Int32) (b1 : Nat) (σ : SH) : exec PP 10 277 75 [some (.ref a0), some (.int x1), some (.int x2), o3] [.int w0, .ref b1] σ =
  uI σ (.ref b1) w0 2 fun σ21 =>
  exec PP 10 277 2 [some (.ref a0), some (.int x1), some (.int (x2 + 1)), none] [] σ21 := (exec_eq PP 10 277 75 _ _ σ).trans rfl
set_option maxRecDepth 20000 in
theorem e_277_76 (a0 : Nat) (x1 : Int32) (x2 : Int32) (o3 : Option Value) (w0 : Int32) (w1 : Int32) (b2 : Nat) (σ : SH) : exec PP 10 277 76 [some (.ref a0), some (.int x1), some (.int x2), o3] [.int w0, .int w1, .ref b2] σ =
  uI σ (.ref b2) w1 w0 fun σ21 =>
  exec PP 10 277 2 [some (.ref a0), some (.int x1), some (.int (x2 + 1)), none] [] σ21 := (exec_eq PP 10 277 76 _ _ σ).trans rfl
set_option maxRecDepth 20000 in
theorem e_277_139 (a0 : Nat) (o1 : Option Value) (x2 : Int32) (o3 : Option Value) (σ : SH) : exec PP 10 277 139 [some (.ref a0), o1, some (.int x2), o3] [] σ =
  gR σ 112 1 (.ref a0) fun a21 =>
  gR σ 112 1 (.ref a0) fun a22 =>
  aI σ 1 (.ref a22) 5 fun x23 =>
  onI (rn 328 [.int 9999, .int (x23 + 1)] σ) (fun x26 σ24 =>
  uI σ24 (.ref a21) 5 x26 fun σ27 =>
    some (.inl (some (.int x2)), σ27)) (fun e25 σ24x => some (.inr e25, σ24x)) := (exec_eq PP 10 277 139 _ _ σ).trans rfl
set_option maxRecDepth 20000 in
theorem e_277_133 (a0 : Nat) (o1 : Option Value) (x2 : Int32) (x3 : Int32) (σ : SH) : exec PP 10 277 133 [some (.ref a0), o1, some (.int x2), some (.int x3)] [] σ =
  exec PP 10 277 87 [some (.ref a0), none, some (.int x2), some (.int (x3 + 1))] [] σ := (exec_eq PP 10 277 133 _ _ σ).trans rfl
set_option maxRecDepth 20000 in
theorem e_277_130 (a0 : Nat) (o1 : Option Value) (o2 : Option Value) (x3 : Int32) (w0 : Int32) (σ : SH) : exec PP 10 277 130 [some (.ref a0), o1, o2, some (.int x3)] [.int w0] σ =
  exec PP 10 277 87 [some (.ref a0), none, some (.int (w0 + 0)), some (.int (x3 + 1))] [] σ := (exec_eq PP 10 277 130 _ _ σ).trans rfl
set_option maxRecDepth 20000 in
theorem e_277_131 (a0 : Nat) (o1 : Option Value) (o2 : Option Value) (x3 : Int32) (w0 : Int32) (w1 : Int32) (σ : SH) : exec PP 10 277 131 [some (.ref a0), o1, o2, some (.int x3)] [.int w0, .int w1] σ =
  exec PP 10 277 87 [some (.ref a0), none, some (.int (w1 + w0)), some (.int (x3 + 1))] [] σ := (exec_eq PP 10 277 131 _ _ σ).trans rfl

/-! 278: ArchEndsModel.drawn(I)I -/
set_option maxRecDepth 20000 in
theorem r_278 (a0 : Nat) (x1 : Int32) (σ : SH) : rn 278 [.ref a0, .int x1] σ =
  gR σ 112 1 (.ref a0) fun a21 =>
  gR σ 112 1 (.ref a0) fun a22 =>
  aI σ 1 (.ref a22) 9 fun x23 =>
  uI σ (.ref a21) 9 ((1103515245 * x23) + 12345) fun σ24 =>
  gR σ24 112 1 (.ref a0) fun a25 =>
  aI σ24 1 (.ref a25) 9 fun x26 =>
  if x1 = 0 then none else
  some (.inl (some (.int (irm ((shr x26 16) &&& 32767) x1))), σ24) := (exec_eq PP 1 278 0 _ _ σ).trans rfl

/-! 279: ArchEndsModel.brightens(I)Z -/
set_option maxRecDepth 20000 in
theorem r_279 (a0 : Nat) (x1 : Int32) (σ : SH) : rn 279 [.ref a0, .int x1] σ =
  if sT σ a0 = 112 then (onI (rn 257 [.ref a0, .int x1, .int 0] σ) (fun x23 σ21 =>
  gR σ21 112 1 (.ref a0) fun a24 =>
    aI σ21 1 (.ref a24) 6 fun x25 =>
    gR σ21 112 1 (.ref a0) fun a26 =>
    aI σ21 1 (.ref a26) 5 fun x27 =>
    if sT σ21 a0 = 112 then (onI (rn 237 [.ref a0, .int x23, .int x25, .int x27] σ21) (fun x30 σ28 =>
    if sT σ28 a0 = 112 then (onI (rn 257 [.ref a0, .int x1, .int 4] σ28) (fun x33 σ31 =>
      if (x30 = 0 : Prop) then (exec PP 9 279 77 [some (.ref a0), some (.int x1), some (.int x30), some (.int x33), none] [] σ31)
        else (gR σ31 112 1 (.ref a0) fun a34 =>
          aI σ31 1 (.ref a34) 5 fun x35 =>
          if sT σ31 a0 = 112 then (onI (rn 266 [.ref a0, .int x33, .int x1, .int x35] σ31) (fun x38 σ36 =>
          gR σ36 112 1 (.ref a0) fun a39 =>
            onI (rn 205 [.int x1, .int 5] σ36) (fun x42 σ40 =>
            aI σ40 1 (.ref a39) x42 fun x43 =>
              uI σ40 (.ref a39) x42 (x43 + 1) fun σ44 =>
              if sT σ44 a0 = 112 then (onV (rn 270 [.ref a0, .int x33, .int x38] σ44) (fun σ45 =>
              if sT σ45 a0 = 112 then (onV (rn 280 [.ref a0, .int x1, .int x38] σ45) (fun σ47 =>
                if sT σ47 a0 = 112 then (onI (rn 257 [.ref a0, .int x1, .int 6] σ47) (fun x51 σ49 =>
                  if (x51 = 1 : Prop) then (gR σ49 112 1 (.ref a0) fun a52 =>
                      aI σ49 1 (.ref a52) 5 fun x53 =>
                      if sT σ49 a0 = 112 then (onI (rn 257 [.ref a0, .int x1, .int 2] σ49) (fun x56 σ54 =>
                      if (x53 = x56 : Prop) then (if sT σ54 a0 = 112 then (onI (rn 257 [.ref a0, .int x1, .int 5] σ54) (fun x59 σ57 =>
                          if (x59 = 0 : Prop) then (if sT σ57 a0 = 112 then (onI (rn 257 [.ref a0, .int x1, .int 3] σ57) (fun x62 σ60 =>
                              if sT σ60 a0 = 112 then (onV (rn 270 [.ref a0, .int x33, .int x62] σ60) (fun σ63 =>
                                if x30 = 0 ∨ x30 = 1 then some (.inl (some (.int x30)), σ63) else none) (fun e64 σ63x => some (.inr e64, σ63x))) else none) (fun e61 σ60x => some (.inr e61, σ60x))) else none)
                            else (exec PP 9 279 123 [some (.ref a0), some (.int x1), some (.int x30), some (.int x33), none] [] σ57)) (fun e58 σ57x => some (.inr e58, σ57x))) else none)
                        else (exec PP 9 279 123 [some (.ref a0), some (.int x1), some (.int x30), some (.int x33), none] [] σ54)) (fun e55 σ54x => some (.inr e55, σ54x))) else none)
                    else (exec PP 9 279 123 [some (.ref a0), some (.int x1), some (.int x30), some (.int x33), none] [] σ49)) (fun e50 σ49x => some (.inr e50, σ49x))) else none) (fun e48 σ47x => some (.inr e48, σ47x))) else none) (fun e46 σ45x => some (.inr e46, σ45x))) else none) (fun e41 σ40x => some (.inr e41, σ40x))) (fun e37 σ36x => some (.inr e37, σ36x))) else none)) (fun e32 σ31x => some (.inr e32, σ31x))) else none) (fun e29 σ28x => some (.inr e29, σ28x))) else none) (fun e22 σ21x => some (.inr e22, σ21x))) else none := (exec_eq PP 9 279 0 _ _ σ).trans rfl
set_option maxRecDepth 20000 in
theorem e_279_77 (a0 : Nat) (x1 : Int32) (x2 : Int32) (x3 : Int32) (o4 : Option Value) (σ : SH) : exec PP 9 279 77 [some (.ref a0), some (.int x1), some (.int x2), some (.int x3), o4] [] σ =
  if sT σ a0 = 112 then (onI (rn 257 [.ref a0, .int x1, .int 6] σ) (fun x23 σ21 =>
  if (x23 = 1 : Prop) then (gR σ21 112 1 (.ref a0) fun a24 =>
      aI σ21 1 (.ref a24) 5 fun x25 =>
      if sT σ21 a0 = 112 then (onI (rn 257 [.ref a0, .int x1, .int 2] σ21) (fun x28 σ26 =>
      if (x25 = x28 : Prop) then (if sT σ26 a0 = 112 then (onI (rn 257 [.ref a0, .int x1, .int 5] σ26) (fun x31 σ29 =>
          if (x31 = 0 : Prop) then (if sT σ29 a0 = 112 then (onI (rn 257 [.ref a0, .int x1, .int 3] σ29) (fun x34 σ32 =>
              if sT σ32 a0 = 112 then (onV (rn 270 [.ref a0, .int x3, .int x34] σ32) (fun σ35 =>
                if x2 = 0 ∨ x2 = 1 then some (.inl (some (.int x2)), σ35) else none) (fun e36 σ35x => some (.inr e36, σ35x))) else none) (fun e33 σ32x => some (.inr e33, σ32x))) else none)
            else (exec PP 9 279 123 [some (.ref a0), some (.int x1), some (.int x2), some (.int x3), none] [] σ29)) (fun e30 σ29x => some (.inr e30, σ29x))) else none)
        else (exec PP 9 279 123 [some (.ref a0), some (.int x1), some (.int x2), some (.int x3), none] [] σ26)) (fun e27 σ26x => some (.inr e27, σ26x))) else none)
    else (exec PP 9 279 123 [some (.ref a0), some (.int x1), some (.int x2), some (.int x3), none] [] σ21)) (fun e22 σ21x => some (.inr e22, σ21x))) else none := (exec_eq PP 9 279 77 _ _ σ).trans rfl
set_option maxRecDepth 20000 in
theorem e_279_123 (o0 : Option Value) (o1 : Option Value) (x2 : Int32) (o3 : Option Value) (o4 : Option Value) (σ : SH) : exec PP 9 279 123 [o0, o1, some (.int x2), o3, o4] [] σ =
  if x2 = 0 ∨ x2 = 1 then some (.inl (some (.int x2)), σ) else none := (exec_eq PP 9 279 123 _ _ σ).trans rfl

/-! 280: ArchEndsModel.tells(II)V -/
set_option maxRecDepth 20000 in
theorem r_280 (a0 : Nat) (x1 : Int32) (x2 : Int32) (σ : SH) : rn 280 [.ref a0, .int x1, .int x2] σ =
  exec PP 3 280 4 [some (.ref a0), some (.int x1), some (.int x2), some (.int 239)] [] σ := (exec_eq PP 3 280 0 _ _ σ).trans rfl
set_option maxRecDepth 20000 in
theorem e_280_4 (a0 : Nat) (x1 : Int32) (x2 : Int32) (x3 : Int32) (σ : SH) : exec PP 3 280 4 [some (.ref a0), some (.int x1), some (.int x2), some (.int x3)] [] σ =
  if (x3 < 4 : Prop) then (exec PP 3 280 35 [some (.ref a0), some (.int x1), some (.int x2), some (.int x3)] [] σ)
  else (gR σ 112 1 (.ref a0) fun a21 =>
    gR σ 112 1 (.ref a0) fun a22 =>
    aI σ 1 (.ref a22) ((123 + x3) - 4) fun x23 =>
    uI σ (.ref a21) (123 + x3) x23 fun σ24 =>
    exec PP 3 280 4 [some (.ref a0), some (.int x1), some (.int x2), some (.int (x3 + (-1)))] [] σ24) := (exec_eq PP 3 280 4 _ _ σ).trans rfl
set_option maxRecDepth 20000 in
theorem e_280_35 (a0 : Nat) (x1 : Int32) (x2 : Int32) (o3 : Option Value) (σ : SH) : exec PP 3 280 35 [some (.ref a0), some (.int x1), some (.int x2), o3] [] σ =
  gR σ 112 1 (.ref a0) fun a21 =>
  gR σ 112 1 (.ref a0) fun a22 =>
  aI σ 1 (.ref a22) 5 fun x23 =>
  uI σ (.ref a21) 123 x23 fun σ24 =>
  gR σ24 112 1 (.ref a0) fun a25 =>
  uI σ24 (.ref a25) 124 x1 fun σ26 =>
  gR σ26 112 1 (.ref a0) fun a27 =>
  if sT σ26 a0 = 112 then (onI (rn 257 [.ref a0, .int x1, .int 0] σ26) (fun x30 σ28 =>
  uI σ28 (.ref a27) 125 x30 fun σ31 =>
    gR σ31 112 1 (.ref a0) fun a32 =>
    uI σ31 (.ref a32) 126 x2 fun σ33 =>
    gR σ33 112 1 (.ref a0) fun a34 =>
    gR σ33 112 1 (.ref a0) fun a35 =>
    aI σ33 1 (.ref a35) 8 fun x36 =>
    onI (rn 328 [.int 60, .int (x36 + 1)] σ33) (fun x39 σ37 =>
    uI σ37 (.ref a34) 8 x39 fun σ40 =>
      some (.inl none, σ40)) (fun e38 σ37x => some (.inr e38, σ37x))) (fun e29 σ28x => some (.inr e29, σ28x))) else none := (exec_eq PP 3 280 35 _ _ σ).trans rfl

/-! 281: ArchEndsModel.ahead(II)I -/
set_option maxRecDepth 20000 in
theorem r_281 (a0 : Nat) (x1 : Int32) (x2 : Int32) (σ : SH) : rn 281 [.ref a0, .int x1, .int x2] σ =
  pI σ 112 0 (.ref a0) 0 fun σ21 =>
  if sT σ21 a0 = 112 then (onI (rn 249 [.ref a0, .int x1] σ21) (fun x24 σ22 =>
  if sT σ22 a0 = 112 then (onI (rn 216 [.ref a0, .int x24, .int 1] σ22) (fun x27 σ25 =>
    if (x27 = 0 : Prop) then (onI (rn 220 [.int x2, .int 0, .int 200] σ25) (fun x30 σ28 =>
        if (x30 = 0 : Prop) then (exec PP 12 281 35 [some (.ref a0), some (.int x1), some (.int x2), none] [.int 1, .ref a0] σ28)
          else (exec PP 12 281 34 [some (.ref a0), some (.int x1), some (.int x2), none] [.ref a0] σ28)) (fun e29 σ28x => some (.inr e29, σ28x)))
      else (exec PP 12 281 42 [some (.ref a0), some (.int x1), some (.int x2), none] [] σ25)) (fun e26 σ25x => some (.inr e26, σ25x))) else none) (fun e23 σ22x => some (.inr e23, σ22x))) else none := (exec_eq PP 12 281 0 _ _ σ).trans rfl
set_option maxRecDepth 20000 in
theorem e_281_42 (o0 : Option Value) (o1 : Option Value) (o2 : Option Value) (o3 : Option Value) (σ : SH) : exec PP 12 281 42 [o0, o1, o2, o3] [] σ =
  some (.inl (some (.int 0)), σ) := (exec_eq PP 12 281 42 _ _ σ).trans rfl
set_option maxRecDepth 20000 in
theorem e_281_34 (a0 : Nat) (x1 : Int32) (x2 : Int32) (o3 : Option Value) (b0 : Nat) (σ : SH) : exec PP 12 281 34 [some (.ref a0), some (.int x1), some (.int x2), o3] [.ref b0] σ =
  if sT σ b0 = 112 then (onI (rn 216 [.ref b0, .int 0, .int 2] σ) (fun x23 σ21 =>
  if (x23 = 0 : Prop) then (exec PP 12 281 44 [some (.ref a0), some (.int x1), some (.int x2), none] [] σ21)
    else (some (.inl (some (.int 0)), σ21))) (fun e22 σ21x => some (.inr e22, σ21x))) else none := (exec_eq PP 12 281 34 _ _ σ).trans rfl
set_option maxRecDepth 20000 in
theorem e_281_35 (a0 : Nat) (x1 : Int32) (x2 : Int32) (o3 : Option Value) (w0 : Int32) (b1 : Nat) (σ : SH) : exec PP 12 281 35 [some (.ref a0), some (.int x1), some (.int x2), o3] [.int w0, .ref b1] σ =
  if sT σ b1 = 112 then (onI (rn 216 [.ref b1, .int w0, .int 2] σ) (fun x23 σ21 =>
  if (x23 = 0 : Prop) then (exec PP 12 281 44 [some (.ref a0), some (.int x1), some (.int x2), none] [] σ21)
    else (some (.inl (some (.int 0)), σ21))) (fun e22 σ21x => some (.inr e22, σ21x))) else none := (exec_eq PP 12 281 35 _ _ σ).trans rfl
set_option maxRecDepth 20000 in
theorem e_281_44 (a0 : Nat) (x1 : Int32) (x2 : Int32) (o3 : Option Value) (σ : SH) : exec PP 12 281 44 [some (.ref a0), some (.int x1), some (.int x2), o3] [] σ =
  if sT σ a0 = 112 then (onV (rn 282 [.ref a0] σ) (fun σ21 =>
  if sT σ21 a0 = 112 then (onI (rn 276 [.ref a0, .int x2, .int 1] σ21) (fun x25 σ23 =>
    if sT σ23 a0 = 112 then (onI (rn 251 [.ref a0, .int x1, .int 0] σ23) (fun x28 σ26 =>
      if sT σ26 a0 = 112 then (onV (rn 283 [.ref a0] σ26) (fun σ29 =>
        some (.inl (some (.int x28)), σ29)) (fun e30 σ29x => some (.inr e30, σ29x))) else none) (fun e27 σ26x => some (.inr e27, σ26x))) else none) (fun e24 σ23x => some (.inr e24, σ23x))) else none) (fun e22 σ21x => some (.inr e22, σ21x))) else none := (exec_eq PP 12 281 44 _ _ σ).trans rfl

/-! 282: ArchEndsModel.keepsAll()V -/
set_option maxRecDepth 20000 in
theorem r_282 (a0 : Nat) (σ : SH) : rn 282 [.ref a0] σ =
  exec PP 1 282 2 [some (.ref a0), some (.int 0)] [] σ := (exec_eq PP 1 282 0 _ _ σ).trans rfl
set_option maxRecDepth 20000 in
theorem e_282_2 (a0 : Nat) (x1 : Int32) (σ : SH) : exec PP 1 282 2 [some (.ref a0), some (.int x1)] [] σ =
  if (x1 < 363 : Prop) then (gR σ 112 4 (.ref a0) fun a21 =>
    gR σ 112 1 (.ref a0) fun a22 =>
    aI σ 1 (.ref a22) x1 fun x23 =>
    uI σ (.ref a21) x1 x23 fun σ24 =>
    exec PP 1 282 2 [some (.ref a0), some (.int (x1 + 1))] [] σ24)
  else (exec PP 1 282 27 [some (.ref a0), some (.int x1)] [] σ) := (exec_eq PP 1 282 2 _ _ σ).trans rfl
set_option maxRecDepth 20000 in
theorem e_282_27 (o0 : Option Value) (o1 : Option Value) (σ : SH) : exec PP 1 282 27 [o0, o1] [] σ =
  some (.inl none, σ) := (exec_eq PP 1 282 27 _ _ σ).trans rfl

/-! 283: ArchEndsModel.bringsBack()V -/
set_option maxRecDepth 20000 in
theorem r_283 (a0 : Nat) (σ : SH) : rn 283 [.ref a0] σ =
  exec PP 1 283 2 [some (.ref a0), some (.int 0)] [] σ := (exec_eq PP 1 283 0 _ _ σ).trans rfl
set_option maxRecDepth 20000 in
theorem e_283_2 (a0 : Nat) (x1 : Int32) (σ : SH) : exec PP 1 283 2 [some (.ref a0), some (.int x1)] [] σ =
  if (x1 < 363 : Prop) then (gR σ 112 1 (.ref a0) fun a21 =>
    gR σ 112 4 (.ref a0) fun a22 =>
    aI σ 1 (.ref a22) x1 fun x23 =>
    uI σ (.ref a21) x1 x23 fun σ24 =>
    exec PP 1 283 2 [some (.ref a0), some (.int (x1 + 1))] [] σ24)
  else (exec PP 1 283 27 [some (.ref a0), some (.int x1)] [] σ) := (exec_eq PP 1 283 2 _ _ σ).trans rfl
set_option maxRecDepth 20000 in
theorem e_283_27 (o0 : Option Value) (o1 : Option Value) (σ : SH) : exec PP 1 283 27 [o0, o1] [] σ =
  some (.inl none, σ) := (exec_eq PP 1 283 27 _ _ σ).trans rfl

/-! 284: ArchEndsModel.odds(II)I -/
set_option maxRecDepth 20000 in
theorem r_284 (a0 : Nat) (x1 : Int32) (x2 : Int32) (σ : SH) : rn 284 [.ref a0, .int x1, .int x2] σ =
  if sT σ a0 = 112 then (onI (rn 228 [.ref a0, .int x1, .int x2] σ) (fun x23 σ21 =>
  if (x23 = 0 : Prop) then (exec PP 4 284 13 [some (.ref a0), some (.int x1), some (.int x2)] [] σ21)
    else (exec PP 4 284 19 [some (.ref a0), some (.int x1), some (.int x2)] [.int 0] σ21)) (fun e22 σ21x => some (.inr e22, σ21x))) else none := (exec_eq PP 4 284 0 _ _ σ).trans rfl
set_option maxRecDepth 20000 in
theorem e_284_13 (a0 : Nat) (x1 : Int32) (x2 : Int32) (σ : SH) : exec PP 4 284 13 [some (.ref a0), some (.int x1), some (.int x2)] [] σ =
  if sT σ a0 = 112 then (onI (rn 285 [.ref a0, .int x1, .int x2] σ) (fun x23 σ21 =>
  some (.inl (some (.int x23)), σ21)) (fun e22 σ21x => some (.inr e22, σ21x))) else none := (exec_eq PP 4 284 13 _ _ σ).trans rfl
set_option maxRecDepth 20000 in
theorem e_284_19 (o0 : Option Value) (o1 : Option Value) (o2 : Option Value) (w0 : Int32) (σ : SH) : exec PP 4 284 19 [o0, o1, o2] [.int w0] σ =
  some (.inl (some (.int w0)), σ) := (exec_eq PP 4 284 19 _ _ σ).trans rfl

/-! 285: ArchEndsModel.oddsOf(II)I -/
set_option maxRecDepth 20000 in
theorem r_285 (a0 : Nat) (x1 : Int32) (x2 : Int32) (σ : SH) : rn 285 [.ref a0, .int x1, .int x2] σ =
  exec PP 3 285 8 [some (.ref a0), some (.int x1), some (.int x2), some (.long 1), none, some (.long 1), none, some (.int 0)] [] σ := (exec_eq PP 3 285 0 _ _ σ).trans rfl
set_option maxRecDepth 20000 in
theorem e_285_8 (a0 : Nat) (x1 : Int32) (x2 : Int32) (y3 : Int64) (y5 : Int64) (x7 : Int32) (σ : SH) : exec PP 3 285 8 [some (.ref a0), some (.int x1), some (.int x2), some (.long y3), none, some (.long y5), none, some (.int x7)] [] σ =
  if sT σ a0 = 112 then (onI (rn 195 [.ref a0] σ) (fun x23 σ21 =>
  if (x7 < x23 : Prop) then (if sT σ21 a0 = 112 then (onI (rn 234 [.ref a0, .int x7, .int x1, .int x2] σ21) (fun x26 σ24 =>
      if (x26 = 0 : Prop) then (exec PP 3 285 81 [some (.ref a0), some (.int x1), some (.int x2), some (.long y3), none, some (.long y5), none, some (.int x7)] [] σ24)
        else (if sT σ24 a0 = 112 then (onI (rn 221 [.ref a0, .int x7, .int 6] σ24) (fun x29 σ27 =>
          if (x29 = 2 : Prop) then (exec PP 3 285 81 [some (.ref a0), some (.int x1), some (.int x2), some (.long y3), none, some (.long y5), none, some (.int x7)] [] σ27)
            else (exec PP 3 285 43 [some (.ref a0), some (.int x1), some (.int x2), some (.long y3), none, some (.long y5), none, some (.int x7)] [] σ27)) (fun e28 σ27x => some (.inr e28, σ27x))) else none)) (fun e25 σ24x => some (.inr e25, σ24x))) else none)
    else (exec PP 3 285 87 [some (.ref a0), some (.int x1), some (.int x2), some (.long y3), none, some (.long y5), none, some (.int x7)] [] σ21)) (fun e22 σ21x => some (.inr e22, σ21x))) else none := (exec_eq PP 3 285 8 _ _ σ).trans rfl
set_option maxRecDepth 20000 in
theorem e_285_87 (o0 : Option Value) (o1 : Option Value) (o2 : Option Value) (y3 : Int64) (y5 : Int64) (o7 : Option Value) (σ : SH) : exec PP 3 285 87 [o0, o1, o2, some (.long y3), none, some (.long y5), none, o7] [] σ =
  if y5 = 0 then none else
  some (.inl (some (.int (((10000 * (y5 - y3)) / y5).toInt32))), σ) := (exec_eq PP 3 285 87 _ _ σ).trans rfl
set_option maxRecDepth 20000 in
theorem e_285_81 (a0 : Nat) (x1 : Int32) (x2 : Int32) (y3 : Int64) (y5 : Int64) (x7 : Int32) (σ : SH) : exec PP 3 285 81 [some (.ref a0), some (.int x1), some (.int x2), some (.long y3), none, some (.long y5), none, some (.int x7)] [] σ =
  exec PP 3 285 8 [some (.ref a0), some (.int x1), some (.int x2), some (.long y3), none, some (.long y5), none, some (.int (x7 + 1))] [] σ := (exec_eq PP 3 285 81 _ _ σ).trans rfl
set_option maxRecDepth 20000 in
theorem e_285_43 (a0 : Nat) (x1 : Int32) (x2 : Int32) (y3 : Int64) (y5 : Int64) (x7 : Int32) (σ : SH) : exec PP 3 285 43 [some (.ref a0), some (.int x1), some (.int x2), some (.long y3), none, some (.long y5), none, some (.int x7)] [] σ =
  if sT σ a0 = 112 then (onI (rn 221 [.ref a0, .int x7, .int 6] σ) (fun x23 σ21 =>
  if (x23 = 1 : Prop) then (exec PP 3 285 71 [some (.ref a0), some (.int x1), some (.int x2), some (.long y3), none, some (.long y5), none, some (.int x7)] [.long 0, .long y3] σ21)
    else (exec PP 3 285 60 [some (.ref a0), some (.int x1), some (.int x2), some (.long y3), none, some (.long y5), none, some (.int x7)] [.long y3] σ21)) (fun e22 σ21x => some (.inr e22, σ21x))) else none := (exec_eq PP 3 285 43 _ _ σ).trans rfl
set_option maxRecDepth 20000 in
theorem e_285_60 (a0 : Nat) (x1 : Int32) (x2 : Int32) (o3 : Option Value) (o4 : Option Value) (y5 : Int64) (x7 : Int32) (v0 : Int64) (σ : SH) : exec PP 3 285 60 [some (.ref a0), some (.int x1), some (.int x2), o3, o4, some (.long y5), none, some (.int x7)] [.long v0] σ =
  if sT σ a0 = 112 then (onI (rn 221 [.ref a0, .int x7, .int 5] σ) (fun x23 σ21 =>
  exec PP 3 285 8 [some (.ref a0), some (.int x1), some (.int x2), some (.long (v0 * ((100 - x23).toInt64))), none, some (.long (y5 * 100)), none, some (.int (x7 + 1))] [] σ21) (fun e22 σ21x => some (.inr e22, σ21x))) else none := (exec_eq PP 3 285 60 _ _ σ).trans rfl
set_option maxRecDepth 20000 in
theorem e_285_71 (a0 : Nat) (x1 : Int32) (x2 : Int32) (o3 : Option Value) (o4 : Option Value) (y5 : Int64) (x7 : Int32) (v0 : Int64) (v1 : Int64) (σ : SH) : exec PP 3 285 71 [some (.ref a0), some (.int x1), some (.int x2), o3, o4, some (.long y5), none, some (.int x7)] [.long v0, .long v1] σ =
  exec PP 3 285 8 [some (.ref a0), some (.int x1), some (.int x2), some (.long (v1 * v0)), none, some (.long (y5 * 100)), none, some (.int (x7 + 1))] [] σ := (exec_eq PP 3 285 71 _ _ σ).trans rfl

/-! 286: ArchEndsModel.hope(I)I -/
set_option maxRecDepth 20000 in
theorem r_286 (a0 : Nat) (x1 : Int32) (σ : SH) : rn 286 [.ref a0, .int x1] σ =
  pI σ 112 0 (.ref a0) 0 fun σ21 =>
  if sT σ21 a0 = 112 then (onI (rn 262 [.ref a0, .int x1] σ21) (fun x24 σ22 =>
  if sT σ22 a0 = 112 then (onI (rn 216 [.ref a0, .int x24, .int 1] σ22) (fun x27 σ25 =>
    if (x27 = 0 : Prop) then (exec PP 6 286 22 [some (.ref a0), some (.int x1)] [] σ25)
      else (exec PP 6 286 27 [some (.ref a0), some (.int x1)] [.int 0] σ25)) (fun e26 σ25x => some (.inr e26, σ25x))) else none) (fun e23 σ22x => some (.inr e23, σ22x))) else none := (exec_eq PP 6 286 0 _ _ σ).trans rfl
set_option maxRecDepth 20000 in
theorem e_286_22 (a0 : Nat) (x1 : Int32) (σ : SH) : exec PP 6 286 22 [some (.ref a0), some (.int x1)] [] σ =
  if sT σ a0 = 112 then (onI (rn 287 [.ref a0, .int x1] σ) (fun x23 σ21 =>
  some (.inl (some (.int x23)), σ21)) (fun e22 σ21x => some (.inr e22, σ21x))) else none := (exec_eq PP 6 286 22 _ _ σ).trans rfl
set_option maxRecDepth 20000 in
theorem e_286_27 (o0 : Option Value) (o1 : Option Value) (w0 : Int32) (σ : SH) : exec PP 6 286 27 [o0, o1] [.int w0] σ =
  some (.inl (some (.int w0)), σ) := (exec_eq PP 6 286 27 _ _ σ).trans rfl

/-! 287: ArchEndsModel.hopeOf(I)I -/
set_option maxRecDepth 20000 in
theorem r_287 (a0 : Nat) (x1 : Int32) (σ : SH) : rn 287 [.ref a0, .int x1] σ =
  if sT σ a0 = 112 then (onI (rn 257 [.ref a0, .int x1, .int 1] σ) (fun x23 σ21 =>
  exec PP 5 287 9 [some (.ref a0), some (.int x1), some (.int 0), some (.int x23)] [] σ21) (fun e22 σ21x => some (.inr e22, σ21x))) else none := (exec_eq PP 5 287 0 _ _ σ).trans rfl
set_option maxRecDepth 20000 in
theorem e_287_9 (a0 : Nat) (x1 : Int32) (x2 : Int32) (x3 : Int32) (σ : SH) : exec PP 5 287 9 [some (.ref a0), some (.int x1), some (.int x2), some (.int x3)] [] σ =
  if sT σ a0 = 112 then (onI (rn 257 [.ref a0, .int x1, .int 2] σ) (fun x23 σ21 =>
  if (x23 < x3 : Prop) then (exec PP 5 287 59 [some (.ref a0), some (.int x1), some (.int x2), some (.int x3)] [] σ21)
    else (gR σ21 112 1 (.ref a0) fun a24 =>
      aI σ21 1 (.ref a24) 6 fun x25 =>
      onI (rn 230 [.int x25, .int x3] σ21) (fun x28 σ26 =>
      if sT σ26 a0 = 112 then (onI (rn 257 [.ref a0, .int x1, .int 0] σ26) (fun x31 σ29 =>
        if (x28 = x31 : Prop) then (if sT σ29 a0 = 112 then (onI (rn 257 [.ref a0, .int x1, .int 0] σ29) (fun x34 σ32 =>
            if sT σ32 a0 = 112 then (onI (rn 285 [.ref a0, .int x34, .int x3] σ32) (fun x37 σ35 =>
              exec PP 5 287 9 [some (.ref a0), some (.int x1), some (.int (x2 + x37)), some (.int (x3 + 1))] [] σ35) (fun e36 σ35x => some (.inr e36, σ35x))) else none) (fun e33 σ32x => some (.inr e33, σ32x))) else none)
          else (exec PP 5 287 53 [some (.ref a0), some (.int x1), some (.int x2), some (.int x3)] [] σ29)) (fun e30 σ29x => some (.inr e30, σ29x))) else none) (fun e27 σ26x => some (.inr e27, σ26x)))) (fun e22 σ21x => some (.inr e22, σ21x))) else none := (exec_eq PP 5 287 9 _ _ σ).trans rfl
set_option maxRecDepth 20000 in
theorem e_287_59 (o0 : Option Value) (o1 : Option Value) (x2 : Int32) (o3 : Option Value) (σ : SH) : exec PP 5 287 59 [o0, o1, some (.int x2), o3] [] σ =
  some (.inl (some (.int (x2 / 100))), σ) := (exec_eq PP 5 287 59 _ _ σ).trans rfl
set_option maxRecDepth 20000 in
theorem e_287_53 (a0 : Nat) (x1 : Int32) (x2 : Int32) (x3 : Int32) (σ : SH) : exec PP 5 287 53 [some (.ref a0), some (.int x1), some (.int x2), some (.int x3)] [] σ =
  exec PP 5 287 9 [some (.ref a0), some (.int x1), some (.int x2), some (.int (x3 + 1))] [] σ := (exec_eq PP 5 287 53 _ _ σ).trans rfl

/-! 288: ArchEndsModel.gain(II)I -/
set_option maxRecDepth 20000 in
theorem r_288 (a0 : Nat) (x1 : Int32) (x2 : Int32) (σ : SH) : rn 288 [.ref a0, .int x1, .int x2] σ =
  pI σ 112 0 (.ref a0) 0 fun σ21 =>
  if sT σ21 a0 = 112 then (onI (rn 249 [.ref a0, .int x1] σ21) (fun x24 σ22 =>
  if (x24 = 0 : Prop) then (if sT σ22 a0 = 112 then (onI (rn 262 [.ref a0, .int x2] σ22) (fun x27 σ25 =>
      if (x27 = 0 : Prop) then (exec PP 10 288 26 [some (.ref a0), some (.int x1), some (.int x2)] [.ref a0] σ25)
        else (exec PP 10 288 27 [some (.ref a0), some (.int x1), some (.int x2)] [.int 1, .ref a0] σ25)) (fun e26 σ25x => some (.inr e26, σ25x))) else none)
    else (exec PP 10 288 22 [some (.ref a0), some (.int x1), some (.int x2)] [.ref a0] σ22)) (fun e23 σ22x => some (.inr e23, σ22x))) else none := (exec_eq PP 10 288 0 _ _ σ).trans rfl
set_option maxRecDepth 20000 in
theorem e_288_22 (a0 : Nat) (x1 : Int32) (x2 : Int32) (b0 : Nat) (σ : SH) : exec PP 10 288 22 [some (.ref a0), some (.int x1), some (.int x2)] [.ref b0] σ =
  exec PP 10 288 27 [some (.ref a0), some (.int x1), some (.int x2)] [.int 1, .ref b0] σ := (exec_eq PP 10 288 22 _ _ σ).trans rfl
set_option maxRecDepth 20000 in
theorem e_288_26 (a0 : Nat) (x1 : Int32) (x2 : Int32) (b0 : Nat) (σ : SH) : exec PP 10 288 26 [some (.ref a0), some (.int x1), some (.int x2)] [.ref b0] σ =
  if sT σ b0 = 112 then (onI (rn 216 [.ref b0, .int 0, .int 1] σ) (fun x23 σ21 =>
  if (x23 = 0 : Prop) then (exec PP 10 288 38 [some (.ref a0), some (.int x1), some (.int x2)] [] σ21)
    else (exec PP 10 288 44 [some (.ref a0), some (.int x1), some (.int x2)] [.int 0] σ21)) (fun e22 σ21x => some (.inr e22, σ21x))) else none := (exec_eq PP 10 288 26 _ _ σ).trans rfl
set_option maxRecDepth 20000 in
theorem e_288_27 (a0 : Nat) (x1 : Int32) (x2 : Int32) (w0 : Int32) (b1 : Nat) (σ : SH) : exec PP 10 288 27 [some (.ref a0), some (.int x1), some (.int x2)] [.int w0, .ref b1] σ =
  if sT σ b1 = 112 then (onI (rn 216 [.ref b1, .int w0, .int 1] σ) (fun x23 σ21 =>
  if (x23 = 0 : Prop) then (exec PP 10 288 38 [some (.ref a0), some (.int x1), some (.int x2)] [] σ21)
    else (exec PP 10 288 44 [some (.ref a0), some (.int x1), some (.int x2)] [.int 0] σ21)) (fun e22 σ21x => some (.inr e22, σ21x))) else none := (exec_eq PP 10 288 27 _ _ σ).trans rfl
set_option maxRecDepth 20000 in
theorem e_288_38 (a0 : Nat) (x1 : Int32) (x2 : Int32) (σ : SH) : exec PP 10 288 38 [some (.ref a0), some (.int x1), some (.int x2)] [] σ =
  if sT σ a0 = 112 then (onI (rn 289 [.ref a0, .int x1, .int x2] σ) (fun x23 σ21 =>
  some (.inl (some (.int x23)), σ21)) (fun e22 σ21x => some (.inr e22, σ21x))) else none := (exec_eq PP 10 288 38 _ _ σ).trans rfl
set_option maxRecDepth 20000 in
theorem e_288_44 (o0 : Option Value) (o1 : Option Value) (o2 : Option Value) (w0 : Int32) (σ : SH) : exec PP 10 288 44 [o0, o1, o2] [.int w0] σ =
  some (.inl (some (.int w0)), σ) := (exec_eq PP 10 288 44 _ _ σ).trans rfl

/-! 289: ArchEndsModel.gainOf(II)I -/
set_option maxRecDepth 20000 in
theorem r_289 (a0 : Nat) (x1 : Int32) (x2 : Int32) (σ : SH) : rn 289 [.ref a0, .int x1, .int x2] σ =
  gR σ 112 1 (.ref a0) fun a21 =>
  aI σ 1 (.ref a21) 5 fun x22 =>
  if sT σ a0 = 112 then (onI (rn 257 [.ref a0, .int x2, .int 1] σ) (fun x25 σ23 =>
  onI (rn 327 [.int x22, .int x25] σ23) (fun x28 σ26 =>
    exec PP 9 289 19 [some (.ref a0), some (.int x1), some (.int x2), some (.int 0), some (.int x28)] [] σ26) (fun e27 σ26x => some (.inr e27, σ26x))) (fun e24 σ23x => some (.inr e24, σ23x))) else none := (exec_eq PP 9 289 0 _ _ σ).trans rfl
set_option maxRecDepth 20000 in
theorem e_289_19 (a0 : Nat) (x1 : Int32) (x2 : Int32) (x3 : Int32) (x4 : Int32) (σ : SH) : exec PP 9 289 19 [some (.ref a0), some (.int x1), some (.int x2), some (.int x3), some (.int x4)] [] σ =
  if sT σ a0 = 112 then (onI (rn 257 [.ref a0, .int x2, .int 2] σ) (fun x23 σ21 =>
  if (x23 < x4 : Prop) then (exec PP 9 289 69 [some (.ref a0), some (.int x1), some (.int x2), some (.int x3), some (.int x4)] [] σ21)
    else (if sT σ21 a0 = 112 then (onI (rn 257 [.ref a0, .int x2, .int 0] σ21) (fun x26 σ24 =>
      gR σ24 112 1 (.ref a0) fun a27 =>
        aI σ24 1 (.ref a27) 6 fun x28 =>
        if sT σ24 a0 = 112 then (onI (rn 237 [.ref a0, .int x26, .int x28, .int x4] σ24) (fun x31 σ29 =>
        if (x31 = 0 : Prop) then (exec PP 9 289 63 [some (.ref a0), some (.int x1), some (.int x2), some (.int x3), some (.int x4)] [] σ29)
          else (if sT σ29 a0 = 112 then (onI (rn 266 [.ref a0, .int x1, .int x2, .int x4] σ29) (fun x34 σ32 =>
            exec PP 9 289 19 [some (.ref a0), some (.int x1), some (.int x2), some (.int (x3 + x34)), some (.int (x4 + 1))] [] σ32) (fun e33 σ32x => some (.inr e33, σ32x))) else none)) (fun e30 σ29x => some (.inr e30, σ29x))) else none) (fun e25 σ24x => some (.inr e25, σ24x))) else none)) (fun e22 σ21x => some (.inr e22, σ21x))) else none := (exec_eq PP 9 289 19 _ _ σ).trans rfl
set_option maxRecDepth 20000 in
theorem e_289_69 (a0 : Nat) (x1 : Int32) (x2 : Int32) (x3 : Int32) (o4 : Option Value) (σ : SH) : exec PP 9 289 69 [some (.ref a0), some (.int x1), some (.int x2), some (.int x3), o4] [] σ =
  if sT σ a0 = 112 then (onI (rn 264 [.ref a0, .int x1, .int x2] σ) (fun x23 σ21 =>
  some (.inl (some (.int (x3 - x23))), σ21)) (fun e22 σ21x => some (.inr e22, σ21x))) else none := (exec_eq PP 9 289 69 _ _ σ).trans rfl
set_option maxRecDepth 20000 in
theorem e_289_63 (a0 : Nat) (x1 : Int32) (x2 : Int32) (x3 : Int32) (x4 : Int32) (σ : SH) : exec PP 9 289 63 [some (.ref a0), some (.int x1), some (.int x2), some (.int x3), some (.int x4)] [] σ =
  exec PP 9 289 19 [some (.ref a0), some (.int x1), some (.int x2), some (.int x3), some (.int (x4 + 1))] [] σ := (exec_eq PP 9 289 63 _ _ σ).trans rfl

/-! 290: ArchEndsModel.deals(IZ)I -/
set_option maxRecDepth 20000 in
theorem r_290 (a0 : Nat) (x1 : Int32) (x2 : Int32) (σ : SH) : rn 290 [.ref a0, .int x1, .int x2] σ =
  pI σ 112 0 (.ref a0) 0 fun σ21 =>
  if sT σ21 a0 = 112 then (onI (rn 249 [.ref a0, .int x1] σ21) (fun x24 σ22 =>
  if sT σ22 a0 = 112 then (onI (rn 216 [.ref a0, .int x24, .int 1] σ22) (fun x27 σ25 =>
    if (x27 = 0 : Prop) then (exec PP 10 290 20 [some (.ref a0), some (.int x1), some (.int x2), none, none, none] [] σ25)
      else (some (.inl (some (.int 0)), σ25))) (fun e26 σ25x => some (.inr e26, σ25x))) else none) (fun e23 σ22x => some (.inr e23, σ22x))) else none := (exec_eq PP 10 290 0 _ _ σ).trans rfl
set_option maxRecDepth 20000 in
theorem e_290_20 (a0 : Nat) (x1 : Int32) (x2 : Int32) (o3 : Option Value) (o4 : Option Value) (o5 : Option Value) (σ : SH) : exec PP 10 290 20 [some (.ref a0), some (.int x1), some (.int x2), o3, o4, o5] [] σ =
  exec PP 10 290 25 [some (.ref a0), some (.int x1), some (.int x2), some (.int 0), some (.int 0), none] [] σ := (exec_eq PP 10 290 20 _ _ σ).trans rfl
set_option maxRecDepth 20000 in
theorem e_290_25 (a0 : Nat) (x1 : Int32) (x2 : Int32) (x3 : Int32) (x4 : Int32) (o5 : Option Value) (σ : SH) : exec PP 10 290 25 [some (.ref a0), some (.int x1), some (.int x2), some (.int x3), some (.int x4), o5] [] σ =
  if sT σ a0 = 112 then (onI (rn 204 [.ref a0] σ) (fun x23 σ21 =>
  if (x4 < x23 : Prop) then (gR σ21 112 21 (.ref a0) fun a24 =>
      if sT σ21 a0 = 112 then (onI (rn 264 [.ref a0, .int x1, .int x4] σ21) (fun x27 σ25 =>
      uI σ25 (.ref a24) x4 x27 fun σ28 =>
        gR σ28 112 22 (.ref a0) fun a29 =>
        if sT σ28 a0 = 112 then (onI (rn 289 [.ref a0, .int x1, .int x4] σ28) (fun x32 σ30 =>
        uI σ30 (.ref a29) x4 x32 fun σ33 =>
          if sT σ33 a0 = 112 then (onI (rn 256 [.ref a0, .int x4] σ33) (fun x36 σ34 =>
          if (x36 = 0 : Prop) then (exec PP 10 290 76 [some (.ref a0), some (.int x1), some (.int x2), some (.int x3), some (.int x4), none] [.int x3] σ34)
            else (exec PP 10 290 80 [some (.ref a0), some (.int x1), some (.int x2), some (.int x3), some (.int x4), none] [.int 0, .int x3] σ34)) (fun e35 σ34x => some (.inr e35, σ34x))) else none) (fun e31 σ30x => some (.inr e31, σ30x))) else none) (fun e26 σ25x => some (.inr e26, σ25x))) else none)
    else (exec PP 10 290 88 [some (.ref a0), some (.int x1), some (.int x2), some (.int x3), some (.int x4), none] [] σ21)) (fun e22 σ21x => some (.inr e22, σ21x))) else none := (exec_eq PP 10 290 25 _ _ σ).trans rfl
set_option maxRecDepth 20000 in
theorem e_290_88 (a0 : Nat) (x1 : Int32) (x2 : Int32) (x3 : Int32) (o4 : Option Value) (o5 : Option Value) (σ : SH) : exec PP 10 290 88 [some (.ref a0), some (.int x1), some (.int x2), some (.int x3), o4, o5] [] σ =
  exec PP 10 290 94 [some (.ref a0), some (.int x1), some (.int x2), some (.int x3), some (.int 0), some (.int 1)] [] σ := (exec_eq PP 10 290 88 _ _ σ).trans rfl
set_option maxRecDepth 20000 in
theorem e_290_76 (a0 : Nat) (x1 : Int32) (x2 : Int32) (o3 : Option Value) (x4 : Int32) (o5 : Option Value) (w0 : Int32) (σ : SH) : exec PP 10 290 76 [some (.ref a0), some (.int x1), some (.int x2), o3, some (.int x4), o5] [.int w0] σ =
  exec PP 10 290 25 [some (.ref a0), some (.int x1), some (.int x2), some (.int (w0 ||| (shl 1 x4))), some (.int (x4 + 1)), none] [] σ := (exec_eq PP 10 290 76 _ _ σ).trans rfl
set_option maxRecDepth 20000 in
theorem e_290_80 (a0 : Nat) (x1 : Int32) (x2 : Int32) (o3 : Option Value) (x4 : Int32) (o5 : Option Value) (w0 : Int32) (w1 : Int32) (σ : SH) : exec PP 10 290 80 [some (.ref a0), some (.int x1), some (.int x2), o3, some (.int x4), o5] [.int w0, .int w1] σ =
  exec PP 10 290 25 [some (.ref a0), some (.int x1), some (.int x2), some (.int (w1 ||| w0)), some (.int (x4 + 1)), none] [] σ := (exec_eq PP 10 290 80 _ _ σ).trans rfl
set_option maxRecDepth 20000 in
theorem e_290_94 (a0 : Nat) (x1 : Int32) (x2 : Int32) (x3 : Int32) (x4 : Int32) (x5 : Int32) (σ : SH) : exec PP 10 290 94 [some (.ref a0), some (.int x1), some (.int x2), some (.int x3), some (.int x4), some (.int x5)] [] σ =
  if (x3 < x5 : Prop) then (exec PP 10 290 158 [some (.ref a0), some (.int x1), some (.int x2), some (.int x3), some (.int x4), some (.int x5)] [] σ)
  else (if (((x5 &&& (x3 ^^^ (-1))) : Int32) = 0 : Prop) then (gR σ 112 21 (.ref a0) fun a21 =>
      onI (rn 291 [.ref a21, .int x5] σ) (fun x24 σ22 =>
      if sT σ22 a0 = 112 then (onI (rn 251 [.ref a0, .int x1, .int 0] σ22) (fun x27 σ25 =>
        if (x27 < x24 : Prop) then (exec PP 10 290 152 [some (.ref a0), some (.int x1), some (.int x2), some (.int x3), some (.int x4), some (.int x5)] [] σ25)
          else (gR σ25 112 22 (.ref a0) fun a28 =>
            onI (rn 291 [.ref a28, .int x5] σ25) (fun x31 σ29 =>
            gR σ29 112 22 (.ref a0) fun a32 =>
              onI (rn 291 [.ref a32, .int x4] σ29) (fun x35 σ33 =>
              if (x35 < x31 : Prop) then (exec PP 10 290 94 [some (.ref a0), some (.int x1), some (.int x2), some (.int x3), some (.int x5), some (.int (x5 + 1))] [] σ33)
                else (exec PP 10 290 152 [some (.ref a0), some (.int x1), some (.int x2), some (.int x3), some (.int x4), some (.int x5)] [] σ33)) (fun e34 σ33x => some (.inr e34, σ33x))) (fun e30 σ29x => some (.inr e30, σ29x)))) (fun e26 σ25x => some (.inr e26, σ25x))) else none) (fun e23 σ22x => some (.inr e23, σ22x)))
    else (exec PP 10 290 152 [some (.ref a0), some (.int x1), some (.int x2), some (.int x3), some (.int x4), some (.int x5)] [] σ)) := (exec_eq PP 10 290 94 _ _ σ).trans rfl
set_option maxRecDepth 20000 in
theorem e_290_158 (a0 : Nat) (o1 : Option Value) (x2 : Int32) (o3 : Option Value) (x4 : Int32) (o5 : Option Value) (σ : SH) : exec PP 10 290 158 [some (.ref a0), o1, some (.int x2), o3, some (.int x4), o5] [] σ =
  if (x2 = 0 : Prop) then (exec PP 10 290 174 [some (.ref a0), none, some (.int x2), none, some (.int x4), none] [] σ)
  else (gR σ 112 22 (.ref a0) fun a21 =>
    onI (rn 291 [.ref a21, .int x4] σ) (fun x24 σ22 =>
    exec PP 10 290 176 [some (.ref a0), none, some (.int x2), none, some (.int x4), none] [.int x24] σ22) (fun e23 σ22x => some (.inr e23, σ22x))) := (exec_eq PP 10 290 158 _ _ σ).trans rfl
set_option maxRecDepth 20000 in
theorem e_290_152 (a0 : Nat) (x1 : Int32) (x2 : Int32) (x3 : Int32) (x4 : Int32) (x5 : Int32) (σ : SH) : exec PP 10 290 152 [some (.ref a0), some (.int x1), some (.int x2), some (.int x3), some (.int x4), some (.int x5)] [] σ =
  exec PP 10 290 94 [some (.ref a0), some (.int x1), some (.int x2), some (.int x3), some (.int x4), some (.int (x5 + 1))] [] σ := (exec_eq PP 10 290 152 _ _ σ).trans rfl
set_option maxRecDepth 20000 in
theorem e_290_174 (o0 : Option Value) (o1 : Option Value) (o2 : Option Value) (o3 : Option Value) (x4 : Int32) (o5 : Option Value) (σ : SH) : exec PP 10 290 174 [o0, o1, o2, o3, some (.int x4), o5] [] σ =
  some (.inl (some (.int x4)), σ) := (exec_eq PP 10 290 174 _ _ σ).trans rfl
set_option maxRecDepth 20000 in
theorem e_290_176 (o0 : Option Value) (o1 : Option Value) (o2 : Option Value) (o3 : Option Value) (o4 : Option Value) (o5 : Option Value) (w0 : Int32) (σ : SH) : exec PP 10 290 176 [o0, o1, o2, o3, o4, o5] [.int w0] σ =
  some (.inl (some (.int w0)), σ) := (exec_eq PP 10 290 176 _ _ σ).trans rfl

/-! 291: ArchEndsModel.allOf([II)I -/
set_option maxRecDepth 20000 in
theorem r_291 (a0 : Nat) (x1 : Int32) (σ : SH) : rn 291 [.ref a0, .int x1] σ =
  exec PP 2 291 4 [some (.ref a0), some (.int x1), some (.int 0), some (.int 0)] [] σ := (exec_eq PP 2 291 0 _ _ σ).trans rfl
set_option maxRecDepth 20000 in
theorem e_291_4 (a0 : Nat) (x1 : Int32) (x2 : Int32) (x3 : Int32) (σ : SH) : exec PP 2 291 4 [some (.ref a0), some (.int x1), some (.int x2), some (.int x3)] [] σ =
  if (x3 < 8 : Prop) then (onI (rn 292 [.int x1, .int x3] σ) (fun x23 σ21 =>
    if (x23 = 0 : Prop) then (exec PP 2 291 25 [some (.ref a0), some (.int x1), some (.int x2), some (.int x3)] [.int x2] σ21)
      else (aI σ21 1 (.ref a0) x3 fun x24 =>
        exec PP 2 291 26 [some (.ref a0), some (.int x1), some (.int x2), some (.int x3)] [.int x24, .int x2] σ21)) (fun e22 σ21x => some (.inr e22, σ21x)))
  else (exec PP 2 291 34 [some (.ref a0), some (.int x1), some (.int x2), some (.int x3)] [] σ) := (exec_eq PP 2 291 4 _ _ σ).trans rfl
set_option maxRecDepth 20000 in
theorem e_291_34 (o0 : Option Value) (o1 : Option Value) (x2 : Int32) (o3 : Option Value) (σ : SH) : exec PP 2 291 34 [o0, o1, some (.int x2), o3] [] σ =
  some (.inl (some (.int x2)), σ) := (exec_eq PP 2 291 34 _ _ σ).trans rfl
set_option maxRecDepth 20000 in
theorem e_291_25 (a0 : Nat) (x1 : Int32) (o2 : Option Value) (x3 : Int32) (w0 : Int32) (σ : SH) : exec PP 2 291 25 [some (.ref a0), some (.int x1), o2, some (.int x3)] [.int w0] σ =
  exec PP 2 291 4 [some (.ref a0), some (.int x1), some (.int (w0 + 0)), some (.int (x3 + 1))] [] σ := (exec_eq PP 2 291 25 _ _ σ).trans rfl
set_option maxRecDepth 20000 in
theorem e_291_26 (a0 : Nat) (x1 : Int32) (o2 : Option Value) (x3 : Int32) (w0 : Int32) (w1 : Int32) (σ : SH) : exec PP 2 291 26 [some (.ref a0), some (.int x1), o2, some (.int x3)] [.int w0, .int w1] σ =
  exec PP 2 291 4 [some (.ref a0), some (.int x1), some (.int (w1 + w0)), some (.int (x3 + 1))] [] σ := (exec_eq PP 2 291 26 _ _ σ).trans rfl

/-! 292: ArchEndsModel.has(II)Z -/
set_option maxRecDepth 20000 in
theorem r_292 (x0 : Int32) (x1 : Int32) (σ : SH) : rn 292 [.int x0, .int x1] σ =
  if ((((shr x0 x1) &&& 1) : Int32) = 1 : Prop) then (exec PP 1 292 14 [some (.int x0), some (.int x1)] [.int 1] σ)
  else (exec PP 1 292 13 [some (.int x0), some (.int x1)] [] σ) := (exec_eq PP 1 292 0 _ _ σ).trans rfl
set_option maxRecDepth 20000 in
theorem e_292_13 (o0 : Option Value) (o1 : Option Value) (σ : SH) : exec PP 1 292 13 [o0, o1] [] σ =
  some (.inl (some (.int 0)), σ) := (exec_eq PP 1 292 13 _ _ σ).trans rfl
set_option maxRecDepth 20000 in
theorem e_292_14 (o0 : Option Value) (o1 : Option Value) (w0 : Int32) (σ : SH) : exec PP 1 292 14 [o0, o1] [.int w0] σ =
  if w0 = 0 ∨ w0 = 1 then some (.inl (some (.int w0)), σ) else none := (exec_eq PP 1 292 14 _ _ σ).trans rfl

/-! 293: ArchEndsModel.rests(IIII)I -/
set_option maxRecDepth 20000 in
theorem r_293 (a0 : Nat) (x1 : Int32) (x2 : Int32) (x3 : Int32) (x4 : Int32) (σ : SH) : rn 293 [.ref a0, .int x1, .int x2, .int x3, .int x4] σ =
  pI σ 112 0 (.ref a0) 0 fun σ21 =>
  if sT σ21 a0 = 112 then (onI (rn 249 [.ref a0, .int x1] σ21) (fun x24 σ22 =>
  if (x24 = 0 : Prop) then (if sT σ22 a0 = 112 then (onI (rn 249 [.ref a0, .int x2] σ22) (fun x27 σ25 =>
      if (x27 = 0 : Prop) then (if sT σ25 a0 = 112 then (onI (rn 262 [.ref a0, .int x3] σ25) (fun x30 σ28 =>
          if (x30 = 0 : Prop) then (if sT σ28 a0 = 112 then (onI (rn 262 [.ref a0, .int x4] σ28) (fun x33 σ31 =>
              if (x33 = 0 : Prop) then (exec PP 10 293 43 [some (.ref a0), some (.int x1), some (.int x2), some (.int x3), some (.int x4), none, none, none, none, none] [.ref a0] σ31)
                else (exec PP 10 293 44 [some (.ref a0), some (.int x1), some (.int x2), some (.int x3), some (.int x4), none, none, none, none, none] [.int 1, .ref a0] σ31)) (fun e32 σ31x => some (.inr e32, σ31x))) else none)
            else (exec PP 10 293 39 [some (.ref a0), some (.int x1), some (.int x2), some (.int x3), some (.int x4), none, none, none, none, none] [.ref a0] σ28)) (fun e29 σ28x => some (.inr e29, σ28x))) else none)
        else (exec PP 10 293 39 [some (.ref a0), some (.int x1), some (.int x2), some (.int x3), some (.int x4), none, none, none, none, none] [.ref a0] σ25)) (fun e26 σ25x => some (.inr e26, σ25x))) else none)
    else (exec PP 10 293 39 [some (.ref a0), some (.int x1), some (.int x2), some (.int x3), some (.int x4), none, none, none, none, none] [.ref a0] σ22)) (fun e23 σ22x => some (.inr e23, σ22x))) else none := (exec_eq PP 10 293 0 _ _ σ).trans rfl
set_option maxRecDepth 20000 in
theorem e_293_39 (a0 : Nat) (x1 : Int32) (x2 : Int32) (x3 : Int32) (x4 : Int32) (o5 : Option Value) (o6 : Option Value) (o7 : Option Value) (o8 : Option Value) (o9 : Option Value) (b0 : Nat) (σ : SH) : exec PP 10 293 39 [some (.ref a0), some (.int x1), some (.int x2), some (.int x3), some (.int x4), o5, o6, o7, o8, o9] [.ref b0] σ =
  exec PP 10 293 44 [some (.ref a0), some (.int x1), some (.int x2), some (.int x3), some (.int x4), none, none, none, none, none] [.int 1, .ref b0] σ := (exec_eq PP 10 293 39 _ _ σ).trans rfl
set_option maxRecDepth 20000 in
theorem e_293_43 (a0 : Nat) (x1 : Int32) (x2 : Int32) (x3 : Int32) (x4 : Int32) (o5 : Option Value) (o6 : Option Value) (o7 : Option Value) (o8 : Option Value) (o9 : Option Value) (b0 : Nat) (σ : SH) : exec PP 10 293 43 [some (.ref a0), some (.int x1), some (.int x2), some (.int x3), some (.int x4), o5, o6, o7, o8, o9] [.ref b0] σ =
  if sT σ b0 = 112 then (onI (rn 216 [.ref b0, .int 0, .int 1] σ) (fun x23 σ21 =>
  if (x23 = 0 : Prop) then (if (x1 = x2 : Prop) then (exec PP 10 293 63 [some (.ref a0), some (.int x1), some (.int x2), some (.int x3), some (.int x4), none, none, none, none, none] [.ref a0] σ21)
      else (if (x3 = x4 : Prop) then (exec PP 10 293 68 [some (.ref a0), some (.int x1), some (.int x2), some (.int x3), some (.int x4), none, none, none, none, none] [.int 1, .ref a0] σ21)
        else (exec PP 10 293 67 [some (.ref a0), some (.int x1), some (.int x2), some (.int x3), some (.int x4), none, none, none, none, none] [.ref a0] σ21)))
    else (exec PP 10 293 75 [some (.ref a0), some (.int x1), some (.int x2), some (.int x3), some (.int x4), none, none, none, none, none] [] σ21)) (fun e22 σ21x => some (.inr e22, σ21x))) else none := (exec_eq PP 10 293 43 _ _ σ).trans rfl
set_option maxRecDepth 20000 in
theorem e_293_44 (a0 : Nat) (x1 : Int32) (x2 : Int32) (x3 : Int32) (x4 : Int32) (o5 : Option Value) (o6 : Option Value) (o7 : Option Value) (o8 : Option Value) (o9 : Option Value) (w0 : Int32) (b1 : Nat) (σ : SH) : exec PP 10 293 44 [some (.ref a0), some (.int x1), some (.int x2), some (.int x3), some (.int x4), o5, o6, o7, o8, o9] [.int w0, .ref b1] σ =
  if sT σ b1 = 112 then (onI (rn 216 [.ref b1, .int w0, .int 1] σ) (fun x23 σ21 =>
  if (x23 = 0 : Prop) then (if (x1 = x2 : Prop) then (exec PP 10 293 63 [some (.ref a0), some (.int x1), some (.int x2), some (.int x3), some (.int x4), none, none, none, none, none] [.ref a0] σ21)
      else (if (x3 = x4 : Prop) then (exec PP 10 293 68 [some (.ref a0), some (.int x1), some (.int x2), some (.int x3), some (.int x4), none, none, none, none, none] [.int 1, .ref a0] σ21)
        else (exec PP 10 293 67 [some (.ref a0), some (.int x1), some (.int x2), some (.int x3), some (.int x4), none, none, none, none, none] [.ref a0] σ21)))
    else (exec PP 10 293 75 [some (.ref a0), some (.int x1), some (.int x2), some (.int x3), some (.int x4), none, none, none, none, none] [] σ21)) (fun e22 σ21x => some (.inr e22, σ21x))) else none := (exec_eq PP 10 293 44 _ _ σ).trans rfl
set_option maxRecDepth 20000 in
theorem e_293_75 (o0 : Option Value) (o1 : Option Value) (o2 : Option Value) (o3 : Option Value) (o4 : Option Value) (o5 : Option Value) (o6 : Option Value) (o7 : Option Value) (o8 : Option Value) (o9 : Option Value) (σ : SH) : exec PP 10 293 75 [o0, o1, o2, o3, o4, o5, o6, o7, o8, o9] [] σ =
  some (.inl (some (.int 0)), σ) := (exec_eq PP 10 293 75 _ _ σ).trans rfl
set_option maxRecDepth 20000 in
theorem e_293_63 (a0 : Nat) (x1 : Int32) (x2 : Int32) (x3 : Int32) (x4 : Int32) (o5 : Option Value) (o6 : Option Value) (o7 : Option Value) (o8 : Option Value) (o9 : Option Value) (b0 : Nat) (σ : SH) : exec PP 10 293 63 [some (.ref a0), some (.int x1), some (.int x2), some (.int x3), some (.int x4), o5, o6, o7, o8, o9] [.ref b0] σ =
  exec PP 10 293 68 [some (.ref a0), some (.int x1), some (.int x2), some (.int x3), some (.int x4), none, none, none, none, none] [.int 1, .ref b0] σ := (exec_eq PP 10 293 63 _ _ σ).trans rfl
set_option maxRecDepth 20000 in
theorem e_293_67 (a0 : Nat) (x1 : Int32) (x2 : Int32) (x3 : Int32) (x4 : Int32) (o5 : Option Value) (o6 : Option Value) (o7 : Option Value) (o8 : Option Value) (o9 : Option Value) (b0 : Nat) (σ : SH) : exec PP 10 293 67 [some (.ref a0), some (.int x1), some (.int x2), some (.int x3), some (.int x4), o5, o6, o7, o8, o9] [.ref b0] σ =
  if sT σ b0 = 112 then (onI (rn 216 [.ref b0, .int 0, .int 2] σ) (fun x23 σ21 =>
  if (x23 = 0 : Prop) then (exec PP 10 293 77 [some (.ref a0), some (.int x1), some (.int x2), some (.int x3), some (.int x4), none, none, none, none, none] [] σ21)
    else (some (.inl (some (.int 0)), σ21))) (fun e22 σ21x => some (.inr e22, σ21x))) else none := (exec_eq PP 10 293 67 _ _ σ).trans rfl
set_option maxRecDepth 20000 in
theorem e_293_68 (a0 : Nat) (x1 : Int32) (x2 : Int32) (x3 : Int32) (x4 : Int32) (o5 : Option Value) (o6 : Option Value) (o7 : Option Value) (o8 : Option Value) (o9 : Option Value) (w0 : Int32) (b1 : Nat) (σ : SH) : exec PP 10 293 68 [some (.ref a0), some (.int x1), some (.int x2), some (.int x3), some (.int x4), o5, o6, o7, o8, o9] [.int w0, .ref b1] σ =
  if sT σ b1 = 112 then (onI (rn 216 [.ref b1, .int w0, .int 2] σ) (fun x23 σ21 =>
  if (x23 = 0 : Prop) then (exec PP 10 293 77 [some (.ref a0), some (.int x1), some (.int x2), some (.int x3), some (.int x4), none, none, none, none, none] [] σ21)
    else (some (.inl (some (.int 0)), σ21))) (fun e22 σ21x => some (.inr e22, σ21x))) else none := (exec_eq PP 10 293 68 _ _ σ).trans rfl
set_option maxRecDepth 20000 in
theorem e_293_77 (a0 : Nat) (x1 : Int32) (x2 : Int32) (x3 : Int32) (x4 : Int32) (o5 : Option Value) (o6 : Option Value) (o7 : Option Value) (o8 : Option Value) (o9 : Option Value) (σ : SH) : exec PP 10 293 77 [some (.ref a0), some (.int x1), some (.int x2), some (.int x3), some (.int x4), o5, o6, o7, o8, o9] [] σ =
  exec PP 10 293 83 [some (.ref a0), some (.int x1), some (.int x2), some (.int x3), some (.int x4), some (.int 0), some (.int 0), none, none, none] [] σ := (exec_eq PP 10 293 77 _ _ σ).trans rfl
set_option maxRecDepth 20000 in
theorem e_293_83 (a0 : Nat) (x1 : Int32) (x2 : Int32) (x3 : Int32) (x4 : Int32) (x5 : Int32) (x6 : Int32) (o7 : Option Value) (o8 : Option Value) (o9 : Option Value) (σ : SH) : exec PP 10 293 83 [some (.ref a0), some (.int x1), some (.int x2), some (.int x3), some (.int x4), some (.int x5), some (.int x6), o7, o8, o9] [] σ =
  if (x6 < 2 : Prop) then (exec PP 10 293 92 [some (.ref a0), some (.int x1), some (.int x2), some (.int x3), some (.int x4), some (.int x5), some (.int x6), some (.int 0), none, none] [] σ)
  else (exec PP 10 293 242 [some (.ref a0), some (.int x1), some (.int x2), some (.int x3), some (.int x4), some (.int x5), some (.int x6), none, none, none] [] σ) := (exec_eq PP 10 293 83 _ _ σ).trans rfl
set_option maxRecDepth 20000 in
theorem e_293_242 (o0 : Option Value) (o1 : Option Value) (o2 : Option Value) (o3 : Option Value) (o4 : Option Value) (x5 : Int32) (o6 : Option Value) (o7 : Option Value) (o8 : Option Value) (o9 : Option Value) (σ : SH) : exec PP 10 293 242 [o0, o1, o2, o3, o4, some (.int x5), o6, o7, o8, o9] [] σ =
  some (.inl (some (.int x5)), σ) := (exec_eq PP 10 293 242 _ _ σ).trans rfl
set_option maxRecDepth 20000 in
theorem e_293_92 (a0 : Nat) (x1 : Int32) (x2 : Int32) (x3 : Int32) (x4 : Int32) (x5 : Int32) (x6 : Int32) (x7 : Int32) (o8 : Option Value) (o9 : Option Value) (σ : SH) : exec PP 10 293 92 [some (.ref a0), some (.int x1), some (.int x2), some (.int x3), some (.int x4), some (.int x5), some (.int x6), some (.int x7), o8, o9] [] σ =
  if (x7 < 2 : Prop) then (if (x6 = 0 : Prop) then (exec PP 10 293 115 [some (.ref a0), some (.int x1), some (.int x2), some (.int x3), some (.int x4), some (.int x5), some (.int x6), some (.int x7), none, none] [.int x3, .int x7, .int x6, .int x1, .ref a0] σ)
    else (exec PP 10 293 113 [some (.ref a0), some (.int x1), some (.int x2), some (.int x3), some (.int x4), some (.int x5), some (.int x6), some (.int x7), none, none] [.int x7, .int x6, .int x1, .ref a0] σ))
  else (exec PP 10 293 236 [some (.ref a0), some (.int x1), some (.int x2), some (.int x3), some (.int x4), some (.int x5), some (.int x6), some (.int x7), none, none] [] σ) := (exec_eq PP 10 293 92 _ _ σ).trans rfl
set_option maxRecDepth 20000 in
theorem e_293_236 (a0 : Nat) (x1 : Int32) (x2 : Int32) (x3 : Int32) (x4 : Int32) (x5 : Int32) (x6 : Int32) (o7 : Option Value) (o8 : Option Value) (o9 : Option Value) (σ : SH) : exec PP 10 293 236 [some (.ref a0), some (.int x1), some (.int x2), some (.int x3), some (.int x4), some (.int x5), some (.int x6), o7, o8, o9] [] σ =
  exec PP 10 293 83 [some (.ref a0), some (.int x1), some (.int x2), some (.int x3), some (.int x4), some (.int x5), some (.int (x6 + 1)), none, none, none] [] σ := (exec_eq PP 10 293 236 _ _ σ).trans rfl
set_option maxRecDepth 20000 in
theorem e_293_113 (a0 : Nat) (x1 : Int32) (x2 : Int32) (x3 : Int32) (x4 : Int32) (x5 : Int32) (x6 : Int32) (x7 : Int32) (o8 : Option Value) (o9 : Option Value) (w0 : Int32) (w1 : Int32) (w2 : Int32) (b3 : Nat) (σ : SH) : exec PP 10 293 113 [some (.ref a0), some (.int x1), some (.int x2), some (.int x3), some (.int x4), some (.int x5), some (.int x6), some (.int x7), o8, o9] [.int w0, .int w1, .int w2, .ref b3] σ =
  if sT σ b3 = 112 then (onI (rn 294 [.ref b3, .int w2, .int w1, .int w0, .int x4] σ) (fun x23 σ21 =>
  if (x6 = 0 : Prop) then (exec PP 10 293 137 [some (.ref a0), some (.int x1), some (.int x2), some (.int x3), some (.int x4), some (.int x5), some (.int x6), some (.int x7), none, none] [.int x4, .int x7, .int (1 - x6), .int x1, .ref a0, .int x23] σ21)
    else (exec PP 10 293 136 [some (.ref a0), some (.int x1), some (.int x2), some (.int x3), some (.int x4), some (.int x5), some (.int x6), some (.int x7), none, none] [.int x7, .int (1 - x6), .int x1, .ref a0, .int x23] σ21)) (fun e22 σ21x => some (.inr e22, σ21x))) else none := (exec_eq PP 10 293 113 _ _ σ).trans rfl
set_option maxRecDepth 20000 in
theorem e_293_115 (a0 : Nat) (x1 : Int32) (x2 : Int32) (x3 : Int32) (x4 : Int32) (x5 : Int32) (x6 : Int32) (x7 : Int32) (o8 : Option Value) (o9 : Option Value) (w0 : Int32) (w1 : Int32) (w2 : Int32) (w3 : Int32) (b4 : Nat) (σ : SH) : exec PP 10 293 115 [some (.ref a0), some (.int x1), some (.int x2), some (.int x3), some (.int x4), some (.int x5), some (.int x6), some (.int x7), o8, o9] [.int w0, .int w1, .int w2, .int w3, .ref b4] σ =
  if sT σ b4 = 112 then (onI (rn 294 [.ref b4, .int w3, .int w2, .int w1, .int w0] σ) (fun x23 σ21 =>
  if (x6 = 0 : Prop) then (exec PP 10 293 137 [some (.ref a0), some (.int x1), some (.int x2), some (.int x3), some (.int x4), some (.int x5), some (.int x6), some (.int x7), none, none] [.int x4, .int x7, .int (1 - x6), .int x1, .ref a0, .int x23] σ21)
    else (exec PP 10 293 136 [some (.ref a0), some (.int x1), some (.int x2), some (.int x3), some (.int x4), some (.int x5), some (.int x6), some (.int x7), none, none] [.int x7, .int (1 - x6), .int x1, .ref a0, .int x23] σ21)) (fun e22 σ21x => some (.inr e22, σ21x))) else none := (exec_eq PP 10 293 115 _ _ σ).trans rfl
set_option maxRecDepth 20000 in
theorem e_293_136 (a0 : Nat) (x1 : Int32) (x2 : Int32) (x3 : Int32) (x4 : Int32) (x5 : Int32) (x6 : Int32) (x7 : Int32) (o8 : Option Value) (o9 : Option Value) (w0 : Int32) (w1 : Int32) (w2 : Int32) (b3 : Nat) (w4 : Int32) (σ : SH) : exec PP 10 293 136 [some (.ref a0), some (.int x1), some (.int x2), some (.int x3), some (.int x4), some (.int x5), some (.int x6), some (.int x7), o8, o9] [.int w0, .int w1, .int w2, .ref b3, .int w4] σ =
  if sT σ b3 = 112 then (onI (rn 294 [.ref b3, .int w2, .int w1, .int w0, .int x3] σ) (fun x23 σ21 =>
  if (w4 < x23 : Prop) then (exec PP 10 293 147 [some (.ref a0), some (.int x1), some (.int x2), some (.int x3), some (.int x4), some (.int x5), some (.int x6), some (.int x7), none, none] [] σ21)
    else (exec PP 10 293 148 [some (.ref a0), some (.int x1), some (.int x2), some (.int x3), some (.int x4), some (.int x5), some (.int x6), some (.int x7), none, none] [.int 1] σ21)) (fun e22 σ21x => some (.inr e22, σ21x))) else none := (exec_eq PP 10 293 136 _ _ σ).trans rfl
set_option maxRecDepth 20000 in
theorem e_293_137 (a0 : Nat) (x1 : Int32) (x2 : Int32) (x3 : Int32) (x4 : Int32) (x5 : Int32) (x6 : Int32) (x7 : Int32) (o8 : Option Value) (o9 : Option Value) (w0 : Int32) (w1 : Int32) (w2 : Int32) (w3 : Int32) (b4 : Nat) (w5 : Int32) (σ : SH) : exec PP 10 293 137 [some (.ref a0), some (.int x1), some (.int x2), some (.int x3), some (.int x4), some (.int x5), some (.int x6), some (.int x7), o8, o9] [.int w0, .int w1, .int w2, .int w3, .ref b4, .int w5] σ =
  if sT σ b4 = 112 then (onI (rn 294 [.ref b4, .int w3, .int w2, .int w1, .int w0] σ) (fun x23 σ21 =>
  if (w5 < x23 : Prop) then (exec PP 10 293 147 [some (.ref a0), some (.int x1), some (.int x2), some (.int x3), some (.int x4), some (.int x5), some (.int x6), some (.int x7), none, none] [] σ21)
    else (exec PP 10 293 148 [some (.ref a0), some (.int x1), some (.int x2), some (.int x3), some (.int x4), some (.int x5), some (.int x6), some (.int x7), none, none] [.int 1] σ21)) (fun e22 σ21x => some (.inr e22, σ21x))) else none := (exec_eq PP 10 293 137 _ _ σ).trans rfl
set_option maxRecDepth 20000 in
theorem e_293_147 (a0 : Nat) (x1 : Int32) (x2 : Int32) (x3 : Int32) (x4 : Int32) (x5 : Int32) (x6 : Int32) (x7 : Int32) (o8 : Option Value) (o9 : Option Value) (σ : SH) : exec PP 10 293 147 [some (.ref a0), some (.int x1), some (.int x2), some (.int x3), some (.int x4), some (.int x5), some (.int x6), some (.int x7), o8, o9] [] σ =
  if (x7 = 0 : Prop) then (exec PP 10 293 167 [some (.ref a0), some (.int x1), some (.int x2), some (.int x3), some (.int x4), some (.int x5), some (.int x6), some (.int x7), some (.int 0), none] [.int x3, .int x6, .int x7, .int x2, .ref a0] σ)
  else (exec PP 10 293 165 [some (.ref a0), some (.int x1), some (.int x2), some (.int x3), some (.int x4), some (.int x5), some (.int x6), some (.int x7), some (.int 0), none] [.int x6, .int x7, .int x2, .ref a0] σ) := (exec_eq PP 10 293 147 _ _ σ).trans rfl
set_option maxRecDepth 20000 in
theorem e_293_148 (a0 : Nat) (x1 : Int32) (x2 : Int32) (x3 : Int32) (x4 : Int32) (x5 : Int32) (x6 : Int32) (x7 : Int32) (o8 : Option Value) (o9 : Option Value) (w0 : Int32) (σ : SH) : exec PP 10 293 148 [some (.ref a0), some (.int x1), some (.int x2), some (.int x3), some (.int x4), some (.int x5), some (.int x6), some (.int x7), o8, o9] [.int w0] σ =
  if (x7 = 0 : Prop) then (exec PP 10 293 167 [some (.ref a0), some (.int x1), some (.int x2), some (.int x3), some (.int x4), some (.int x5), some (.int x6), some (.int x7), some (.int w0), none] [.int x3, .int x6, .int x7, .int x2, .ref a0] σ)
  else (exec PP 10 293 165 [some (.ref a0), some (.int x1), some (.int x2), some (.int x3), some (.int x4), some (.int x5), some (.int x6), some (.int x7), some (.int w0), none] [.int x6, .int x7, .int x2, .ref a0] σ) := (exec_eq PP 10 293 148 _ _ σ).trans rfl
set_option maxRecDepth 20000 in
theorem e_293_165 (a0 : Nat) (x1 : Int32) (x2 : Int32) (x3 : Int32) (x4 : Int32) (x5 : Int32) (x6 : Int32) (x7 : Int32) (x8 : Int32) (o9 : Option Value) (w0 : Int32) (w1 : Int32) (w2 : Int32) (b3 : Nat) (σ : SH) : exec PP 10 293 165 [some (.ref a0), some (.int x1), some (.int x2), some (.int x3), some (.int x4), some (.int x5), some (.int x6), some (.int x7), some (.int x8), o9] [.int w0, .int w1, .int w2, .ref b3] σ =
  if sT σ b3 = 112 then (onI (rn 294 [.ref b3, .int w2, .int w1, .int w0, .int x4] σ) (fun x23 σ21 =>
  if (x7 = 0 : Prop) then (exec PP 10 293 189 [some (.ref a0), some (.int x1), some (.int x2), some (.int x3), some (.int x4), some (.int x5), some (.int x6), some (.int x7), some (.int x8), none] [.int x4, .int x6, .int (1 - x7), .int x2, .ref a0, .int x23] σ21)
    else (exec PP 10 293 188 [some (.ref a0), some (.int x1), some (.int x2), some (.int x3), some (.int x4), some (.int x5), some (.int x6), some (.int x7), some (.int x8), none] [.int x6, .int (1 - x7), .int x2, .ref a0, .int x23] σ21)) (fun e22 σ21x => some (.inr e22, σ21x))) else none := (exec_eq PP 10 293 165 _ _ σ).trans rfl
set_option maxRecDepth 20000 in
theorem e_293_167 (a0 : Nat) (x1 : Int32) (x2 : Int32) (x3 : Int32) (x4 : Int32) (x5 : Int32) (x6 : Int32) (x7 : Int32) (x8 : Int32) (o9 : Option Value) (w0 : Int32) (w1 : Int32) (w2 : Int32) (w3 : Int32) (b4 : Nat) (σ : SH) : exec PP 10 293 167 [some (.ref a0), some (.int x1), some (.int x2), some (.int x3), some (.int x4), some (.int x5), some (.int x6), some (.int x7), some (.int x8), o9] [.int w0, .int w1, .int w2, .int w3, .ref b4] σ =
  if sT σ b4 = 112 then (onI (rn 294 [.ref b4, .int w3, .int w2, .int w1, .int w0] σ) (fun x23 σ21 =>
  if (x7 = 0 : Prop) then (exec PP 10 293 189 [some (.ref a0), some (.int x1), some (.int x2), some (.int x3), some (.int x4), some (.int x5), some (.int x6), some (.int x7), some (.int x8), none] [.int x4, .int x6, .int (1 - x7), .int x2, .ref a0, .int x23] σ21)
    else (exec PP 10 293 188 [some (.ref a0), some (.int x1), some (.int x2), some (.int x3), some (.int x4), some (.int x5), some (.int x6), some (.int x7), some (.int x8), none] [.int x6, .int (1 - x7), .int x2, .ref a0, .int x23] σ21)) (fun e22 σ21x => some (.inr e22, σ21x))) else none := (exec_eq PP 10 293 167 _ _ σ).trans rfl
set_option maxRecDepth 20000 in
theorem e_293_188 (a0 : Nat) (x1 : Int32) (x2 : Int32) (x3 : Int32) (x4 : Int32) (x5 : Int32) (x6 : Int32) (x7 : Int32) (x8 : Int32) (o9 : Option Value) (w0 : Int32) (w1 : Int32) (w2 : Int32) (b3 : Nat) (w4 : Int32) (σ : SH) : exec PP 10 293 188 [some (.ref a0), some (.int x1), some (.int x2), some (.int x3), some (.int x4), some (.int x5), some (.int x6), some (.int x7), some (.int x8), o9] [.int w0, .int w1, .int w2, .ref b3, .int w4] σ =
  if sT σ b3 = 112 then (onI (rn 294 [.ref b3, .int w2, .int w1, .int w0, .int x3] σ) (fun x23 σ21 =>
  if (w4 < x23 : Prop) then (exec PP 10 293 199 [some (.ref a0), some (.int x1), some (.int x2), some (.int x3), some (.int x4), some (.int x5), some (.int x6), some (.int x7), some (.int x8), none] [] σ21)
    else (exec PP 10 293 200 [some (.ref a0), some (.int x1), some (.int x2), some (.int x3), some (.int x4), some (.int x5), some (.int x6), some (.int x7), some (.int x8), none] [.int 1] σ21)) (fun e22 σ21x => some (.inr e22, σ21x))) else none := (exec_eq PP 10 293 188 _ _ σ).trans rfl
set_option maxRecDepth 20000 in
theorem e_293_189 (a0 : Nat) (x1 : Int32) (x2 : Int32) (x3 : Int32) (x4 : Int32) (x5 : Int32) (x6 : Int32) (x7 : Int32) (x8 : Int32) (o9 : Option Value) (w0 : Int32) (w1 : Int32) (w2 : Int32) (w3 : Int32) (b4 : Nat) (w5 : Int32) (σ : SH) : exec PP 10 293 189 [some (.ref a0), some (.int x1), some (.int x2), some (.int x3), some (.int x4), some (.int x5), some (.int x6), some (.int x7), some (.int x8), o9] [.int w0, .int w1, .int w2, .int w3, .ref b4, .int w5] σ =
  if sT σ b4 = 112 then (onI (rn 294 [.ref b4, .int w3, .int w2, .int w1, .int w0] σ) (fun x23 σ21 =>
  if (w5 < x23 : Prop) then (exec PP 10 293 199 [some (.ref a0), some (.int x1), some (.int x2), some (.int x3), some (.int x4), some (.int x5), some (.int x6), some (.int x7), some (.int x8), none] [] σ21)
    else (exec PP 10 293 200 [some (.ref a0), some (.int x1), some (.int x2), some (.int x3), some (.int x4), some (.int x5), some (.int x6), some (.int x7), some (.int x8), none] [.int 1] σ21)) (fun e22 σ21x => some (.inr e22, σ21x))) else none := (exec_eq PP 10 293 189 _ _ σ).trans rfl
set_option maxRecDepth 20000 in
theorem e_293_199 (a0 : Nat) (x1 : Int32) (x2 : Int32) (x3 : Int32) (x4 : Int32) (x5 : Int32) (x6 : Int32) (x7 : Int32) (x8 : Int32) (o9 : Option Value) (σ : SH) : exec PP 10 293 199 [some (.ref a0), some (.int x1), some (.int x2), some (.int x3), some (.int x4), some (.int x5), some (.int x6), some (.int x7), some (.int x8), o9] [] σ =
  if (x8 = 0 : Prop) then (exec PP 10 293 226 [some (.ref a0), some (.int x1), some (.int x2), some (.int x3), some (.int x4), some (.int x5), some (.int x6), some (.int x7), some (.int x8), some (.int 0)] [.int x5] σ)
  else (if ((0 : Int32) = 0 : Prop) then (exec PP 10 293 226 [some (.ref a0), some (.int x1), some (.int x2), some (.int x3), some (.int x4), some (.int x5), some (.int x6), some (.int x7), some (.int x8), some (.int 0)] [.int x5] σ)
    else (exec PP 10 293 227 [some (.ref a0), some (.int x1), some (.int x2), some (.int x3), some (.int x4), some (.int x5), some (.int x6), some (.int x7), some (.int x8), some (.int 0)] [.int (shl 1 ((2 * x6) + x7)), .int x5] σ)) := (exec_eq PP 10 293 199 _ _ σ).trans rfl
set_option maxRecDepth 20000 in
theorem e_293_200 (a0 : Nat) (x1 : Int32) (x2 : Int32) (x3 : Int32) (x4 : Int32) (x5 : Int32) (x6 : Int32) (x7 : Int32) (x8 : Int32) (o9 : Option Value) (w0 : Int32) (σ : SH) : exec PP 10 293 200 [some (.ref a0), some (.int x1), some (.int x2), some (.int x3), some (.int x4), some (.int x5), some (.int x6), some (.int x7), some (.int x8), o9] [.int w0] σ =
  if (x8 = 0 : Prop) then (exec PP 10 293 226 [some (.ref a0), some (.int x1), some (.int x2), some (.int x3), some (.int x4), some (.int x5), some (.int x6), some (.int x7), some (.int x8), some (.int w0)] [.int x5] σ)
  else (if (w0 = 0 : Prop) then (exec PP 10 293 226 [some (.ref a0), some (.int x1), some (.int x2), some (.int x3), some (.int x4), some (.int x5), some (.int x6), some (.int x7), some (.int x8), some (.int w0)] [.int x5] σ)
    else (exec PP 10 293 227 [some (.ref a0), some (.int x1), some (.int x2), some (.int x3), some (.int x4), some (.int x5), some (.int x6), some (.int x7), some (.int x8), some (.int w0)] [.int (shl 1 ((2 * x6) + x7)), .int x5] σ)) := (exec_eq PP 10 293 200 _ _ σ).trans rfl
set_option maxRecDepth 20000 in
theorem e_293_226 (a0 : Nat) (x1 : Int32) (x2 : Int32) (x3 : Int32) (x4 : Int32) (o5 : Option Value) (x6 : Int32) (x7 : Int32) (o8 : Option Value) (o9 : Option Value) (w0 : Int32) (σ : SH) : exec PP 10 293 226 [some (.ref a0), some (.int x1), some (.int x2), some (.int x3), some (.int x4), o5, some (.int x6), some (.int x7), o8, o9] [.int w0] σ =
  exec PP 10 293 92 [some (.ref a0), some (.int x1), some (.int x2), some (.int x3), some (.int x4), some (.int (w0 ||| 0)), some (.int x6), some (.int (x7 + 1)), none, none] [] σ := (exec_eq PP 10 293 226 _ _ σ).trans rfl
set_option maxRecDepth 20000 in
theorem e_293_227 (a0 : Nat) (x1 : Int32) (x2 : Int32) (x3 : Int32) (x4 : Int32) (o5 : Option Value) (x6 : Int32) (x7 : Int32) (o8 : Option Value) (o9 : Option Value) (w0 : Int32) (w1 : Int32) (σ : SH) : exec PP 10 293 227 [some (.ref a0), some (.int x1), some (.int x2), some (.int x3), some (.int x4), o5, some (.int x6), some (.int x7), o8, o9] [.int w0, .int w1] σ =
  exec PP 10 293 92 [some (.ref a0), some (.int x1), some (.int x2), some (.int x3), some (.int x4), some (.int (w1 ||| w0)), some (.int x6), some (.int (x7 + 1)), none, none] [] σ := (exec_eq PP 10 293 227 _ _ σ).trans rfl

/-! 294: ArchEndsModel.restsBy(IIII)I -/
set_option maxRecDepth 20000 in
theorem r_294 (a0 : Nat) (x1 : Int32) (x2 : Int32) (x3 : Int32) (x4 : Int32) (σ : SH) : rn 294 [.ref a0, .int x1, .int x2, .int x3, .int x4] σ =
  if sT σ a0 = 112 then (onI (rn 287 [.ref a0, .int x4] σ) (fun x23 σ21 =>
  if (x2 = x3 : Prop) then (exec PP 9 294 22 [some (.ref a0), some (.int x1), some (.int x2), some (.int x3), some (.int x4), some (.int x23)] [.int (x23 / 2)] σ21)
    else (exec PP 9 294 20 [some (.ref a0), some (.int x1), some (.int x2), some (.int x3), some (.int x4), some (.int x23)] [] σ21)) (fun e22 σ21x => some (.inr e22, σ21x))) else none := (exec_eq PP 9 294 0 _ _ σ).trans rfl
set_option maxRecDepth 20000 in
theorem e_294_20 (a0 : Nat) (x1 : Int32) (o2 : Option Value) (o3 : Option Value) (x4 : Int32) (x5 : Int32) (σ : SH) : exec PP 9 294 20 [some (.ref a0), some (.int x1), o2, o3, some (.int x4), some (.int x5)] [] σ =
  if sT σ a0 = 112 then (onI (rn 264 [.ref a0, .int x1, .int x4] σ) (fun x23 σ21 =>
  some (.inl (some (.int (x5 - x23))), σ21)) (fun e22 σ21x => some (.inr e22, σ21x))) else none := (exec_eq PP 9 294 20 _ _ σ).trans rfl
set_option maxRecDepth 20000 in
theorem e_294_22 (a0 : Nat) (x1 : Int32) (o2 : Option Value) (o3 : Option Value) (x4 : Int32) (o5 : Option Value) (w0 : Int32) (σ : SH) : exec PP 9 294 22 [some (.ref a0), some (.int x1), o2, o3, some (.int x4), o5] [.int w0] σ =
  if sT σ a0 = 112 then (onI (rn 264 [.ref a0, .int x1, .int x4] σ) (fun x23 σ21 =>
  some (.inl (some (.int (w0 - x23))), σ21)) (fun e22 σ21x => some (.inr e22, σ21x))) else none := (exec_eq PP 9 294 22 _ _ σ).trans rfl

/-! 295: ArchEndsModel.meet(II)I -/
set_option maxRecDepth 20000 in
theorem r_295 (a0 : Nat) (x1 : Int32) (x2 : Int32) (σ : SH) : rn 295 [.ref a0, .int x1, .int x2] σ =
  pI σ 112 0 (.ref a0) 0 fun σ21 =>
  if sT σ21 a0 = 112 then (onI (rn 249 [.ref a0, .int x1] σ21) (fun x24 σ22 =>
  if (x24 = 0 : Prop) then (if sT σ22 a0 = 112 then (onI (rn 249 [.ref a0, .int x2] σ22) (fun x27 σ25 =>
      if (x27 = 0 : Prop) then (exec PP 4 295 26 [some (.ref a0), some (.int x1), some (.int x2), none, none] [.ref a0] σ25)
        else (exec PP 4 295 27 [some (.ref a0), some (.int x1), some (.int x2), none, none] [.int 1, .ref a0] σ25)) (fun e26 σ25x => some (.inr e26, σ25x))) else none)
    else (exec PP 4 295 22 [some (.ref a0), some (.int x1), some (.int x2), none, none] [.ref a0] σ22)) (fun e23 σ22x => some (.inr e23, σ22x))) else none := (exec_eq PP 4 295 0 _ _ σ).trans rfl
set_option maxRecDepth 20000 in
theorem e_295_22 (a0 : Nat) (x1 : Int32) (x2 : Int32) (o3 : Option Value) (o4 : Option Value) (b0 : Nat) (σ : SH) : exec PP 4 295 22 [some (.ref a0), some (.int x1), some (.int x2), o3, o4] [.ref b0] σ =
  exec PP 4 295 27 [some (.ref a0), some (.int x1), some (.int x2), none, none] [.int 1, .ref b0] σ := (exec_eq PP 4 295 22 _ _ σ).trans rfl
set_option maxRecDepth 20000 in
theorem e_295_26 (a0 : Nat) (x1 : Int32) (x2 : Int32) (o3 : Option Value) (o4 : Option Value) (b0 : Nat) (σ : SH) : exec PP 4 295 26 [some (.ref a0), some (.int x1), some (.int x2), o3, o4] [.ref b0] σ =
  if sT σ b0 = 112 then (onI (rn 216 [.ref b0, .int 0, .int 1] σ) (fun x23 σ21 =>
  if (x23 = 0 : Prop) then (if (x1 = x2 : Prop) then (exec PP 4 295 45 [some (.ref a0), some (.int x1), some (.int x2), none, none] [.int 1, .ref a0] σ21)
      else (exec PP 4 295 44 [some (.ref a0), some (.int x1), some (.int x2), none, none] [.ref a0] σ21))
    else (exec PP 4 295 52 [some (.ref a0), some (.int x1), some (.int x2), none, none] [] σ21)) (fun e22 σ21x => some (.inr e22, σ21x))) else none := (exec_eq PP 4 295 26 _ _ σ).trans rfl
set_option maxRecDepth 20000 in
theorem e_295_27 (a0 : Nat) (x1 : Int32) (x2 : Int32) (o3 : Option Value) (o4 : Option Value) (w0 : Int32) (b1 : Nat) (σ : SH) : exec PP 4 295 27 [some (.ref a0), some (.int x1), some (.int x2), o3, o4] [.int w0, .ref b1] σ =
  if sT σ b1 = 112 then (onI (rn 216 [.ref b1, .int w0, .int 1] σ) (fun x23 σ21 =>
  if (x23 = 0 : Prop) then (if (x1 = x2 : Prop) then (exec PP 4 295 45 [some (.ref a0), some (.int x1), some (.int x2), none, none] [.int 1, .ref a0] σ21)
      else (exec PP 4 295 44 [some (.ref a0), some (.int x1), some (.int x2), none, none] [.ref a0] σ21))
    else (exec PP 4 295 52 [some (.ref a0), some (.int x1), some (.int x2), none, none] [] σ21)) (fun e22 σ21x => some (.inr e22, σ21x))) else none := (exec_eq PP 4 295 27 _ _ σ).trans rfl
set_option maxRecDepth 20000 in
theorem e_295_52 (o0 : Option Value) (o1 : Option Value) (o2 : Option Value) (o3 : Option Value) (o4 : Option Value) (σ : SH) : exec PP 4 295 52 [o0, o1, o2, o3, o4] [] σ =
  some (.inl (some (.int 0)), σ) := (exec_eq PP 4 295 52 _ _ σ).trans rfl
set_option maxRecDepth 20000 in
theorem e_295_44 (a0 : Nat) (x1 : Int32) (x2 : Int32) (o3 : Option Value) (o4 : Option Value) (b0 : Nat) (σ : SH) : exec PP 4 295 44 [some (.ref a0), some (.int x1), some (.int x2), o3, o4] [.ref b0] σ =
  if sT σ b0 = 112 then (onI (rn 216 [.ref b0, .int 0, .int 2] σ) (fun x23 σ21 =>
  if (x23 = 0 : Prop) then (exec PP 4 295 54 [some (.ref a0), some (.int x1), some (.int x2), none, none] [] σ21)
    else (some (.inl (some (.int 0)), σ21))) (fun e22 σ21x => some (.inr e22, σ21x))) else none := (exec_eq PP 4 295 44 _ _ σ).trans rfl
set_option maxRecDepth 20000 in
theorem e_295_45 (a0 : Nat) (x1 : Int32) (x2 : Int32) (o3 : Option Value) (o4 : Option Value) (w0 : Int32) (b1 : Nat) (σ : SH) : exec PP 4 295 45 [some (.ref a0), some (.int x1), some (.int x2), o3, o4] [.int w0, .ref b1] σ =
  if sT σ b1 = 112 then (onI (rn 216 [.ref b1, .int w0, .int 2] σ) (fun x23 σ21 =>
  if (x23 = 0 : Prop) then (exec PP 4 295 54 [some (.ref a0), some (.int x1), some (.int x2), none, none] [] σ21)
    else (some (.inl (some (.int 0)), σ21))) (fun e22 σ21x => some (.inr e22, σ21x))) else none := (exec_eq PP 4 295 45 _ _ σ).trans rfl
set_option maxRecDepth 20000 in
theorem e_295_54 (a0 : Nat) (x1 : Int32) (x2 : Int32) (o3 : Option Value) (o4 : Option Value) (σ : SH) : exec PP 4 295 54 [some (.ref a0), some (.int x1), some (.int x2), o3, o4] [] σ =
  exec PP 4 295 59 [some (.ref a0), some (.int x1), some (.int x2), some (.int 0), some (.int 1)] [] σ := (exec_eq PP 4 295 54 _ _ σ).trans rfl
set_option maxRecDepth 20000 in
theorem e_295_59 (a0 : Nat) (x1 : Int32) (x2 : Int32) (x3 : Int32) (x4 : Int32) (σ : SH) : exec PP 4 295 59 [some (.ref a0), some (.int x1), some (.int x2), some (.int x3), some (.int x4)] [] σ =
  if (x4 < 16 : Prop) then (if sT σ a0 = 112 then (onI (rn 296 [.ref a0, .int x1, .int x4] σ) (fun x23 σ21 =>
    if sT σ21 a0 = 112 then (onI (rn 296 [.ref a0, .int x2, .int x4] σ21) (fun x26 σ24 =>
      onI (rn 327 [.int x23, .int x26] σ24) (fun x29 σ27 =>
        if sT σ27 a0 = 112 then (onI (rn 296 [.ref a0, .int x1, .int x3] σ27) (fun x32 σ30 =>
          if sT σ30 a0 = 112 then (onI (rn 296 [.ref a0, .int x2, .int x3] σ30) (fun x35 σ33 =>
            onI (rn 327 [.int x32, .int x35] σ33) (fun x38 σ36 =>
              if (x29 < x38 : Prop) then (exec PP 4 295 107 [some (.ref a0), some (.int x1), some (.int x2), some (.int x3), some (.int x4)] [.int x4] σ36)
                else (exec PP 4 295 106 [some (.ref a0), some (.int x1), some (.int x2), some (.int x3), some (.int x4)] [] σ36)) (fun e37 σ36x => some (.inr e37, σ36x))) (fun e34 σ33x => some (.inr e34, σ33x))) else none) (fun e31 σ30x => some (.inr e31, σ30x))) else none) (fun e28 σ27x => some (.inr e28, σ27x))) (fun e25 σ24x => some (.inr e25, σ24x))) else none) (fun e22 σ21x => some (.inr e22, σ21x))) else none)
  else (exec PP 4 295 114 [some (.ref a0), some (.int x1), some (.int x2), some (.int x3), some (.int x4)] [] σ) := (exec_eq PP 4 295 59 _ _ σ).trans rfl
set_option maxRecDepth 20000 in
theorem e_295_114 (o0 : Option Value) (o1 : Option Value) (o2 : Option Value) (x3 : Int32) (o4 : Option Value) (σ : SH) : exec PP 4 295 114 [o0, o1, o2, some (.int x3), o4] [] σ =
  some (.inl (some (.int x3)), σ) := (exec_eq PP 4 295 114 _ _ σ).trans rfl
set_option maxRecDepth 20000 in
theorem e_295_106 (a0 : Nat) (x1 : Int32) (x2 : Int32) (x3 : Int32) (x4 : Int32) (σ : SH) : exec PP 4 295 106 [some (.ref a0), some (.int x1), some (.int x2), some (.int x3), some (.int x4)] [] σ =
  exec PP 4 295 59 [some (.ref a0), some (.int x1), some (.int x2), some (.int x3), some (.int (x4 + 1))] [] σ := (exec_eq PP 4 295 106 _ _ σ).trans rfl
set_option maxRecDepth 20000 in
theorem e_295_107 (a0 : Nat) (x1 : Int32) (x2 : Int32) (o3 : Option Value) (x4 : Int32) (w0 : Int32) (σ : SH) : exec PP 4 295 107 [some (.ref a0), some (.int x1), some (.int x2), o3, some (.int x4)] [.int w0] σ =
  exec PP 4 295 59 [some (.ref a0), some (.int x1), some (.int x2), some (.int w0), some (.int (x4 + 1))] [] σ := (exec_eq PP 4 295 107 _ _ σ).trans rfl

/-! 296: ArchEndsModel.minutesOf(II)I -/
set_option maxRecDepth 20000 in
theorem r_296 (a0 : Nat) (x1 : Int32) (x2 : Int32) (σ : SH) : rn 296 [.ref a0, .int x1, .int x2] σ =
  if sT σ a0 = 112 then (onI (rn 251 [.ref a0, .int x1, .int 1] σ) (fun x23 σ21 =>
  onI (rn 326 [.int (x23 - x2)] σ21) (fun x26 σ24 =>
    if sT σ24 a0 = 112 then (onI (rn 251 [.ref a0, .int x1, .int 2] σ24) (fun x29 σ27 =>
      if sT σ27 a0 = 112 then (onI (rn 251 [.ref a0, .int x1, .int 2] σ27) (fun x32 σ30 =>
        if x32 = 0 then none else
          some (.inl (some (.int (((x26 + x29) - 1) / x32))), σ30)) (fun e31 σ30x => some (.inr e31, σ30x))) else none) (fun e28 σ27x => some (.inr e28, σ27x))) else none) (fun e25 σ24x => some (.inr e25, σ24x))) (fun e22 σ21x => some (.inr e22, σ21x))) else none := (exec_eq PP 3 296 0 _ _ σ).trans rfl

/-! 297: ArchEndsModel.rush(I)I -/
set_option maxRecDepth 20000 in
theorem r_297 (a0 : Nat) (x1 : Int32) (σ : SH) : rn 297 [.ref a0, .int x1] σ =
  pI σ 112 0 (.ref a0) 0 fun σ21 =>
  onI (rn 229 [.int x1] σ21) (fun x24 σ22 =>
  if sT σ22 a0 = 112 then (onI (rn 216 [.ref a0, .int x24, .int 1] σ22) (fun x27 σ25 =>
    if (x27 = 0 : Prop) then (exec PP 4 297 19 [some (.ref a0), some (.int x1), none, none] [] σ25)
      else (some (.inl (some (.int 0)), σ25))) (fun e26 σ25x => some (.inr e26, σ25x))) else none) (fun e23 σ22x => some (.inr e23, σ22x)) := (exec_eq PP 4 297 0 _ _ σ).trans rfl
set_option maxRecDepth 20000 in
theorem e_297_19 (a0 : Nat) (x1 : Int32) (o2 : Option Value) (o3 : Option Value) (σ : SH) : exec PP 4 297 19 [some (.ref a0), some (.int x1), o2, o3] [] σ =
  exec PP 4 297 23 [some (.ref a0), some (.int x1), some (.int (-1)), some (.int 0)] [] σ := (exec_eq PP 4 297 19 _ _ σ).trans rfl
set_option maxRecDepth 20000 in
theorem e_297_23 (a0 : Nat) (x1 : Int32) (x2 : Int32) (x3 : Int32) (σ : SH) : exec PP 4 297 23 [some (.ref a0), some (.int x1), some (.int x2), some (.int x3)] [] σ =
  if sT σ a0 = 112 then (onI (rn 201 [.ref a0] σ) (fun x23 σ21 =>
  if (x3 < x23 : Prop) then (if (x2 < 0 : Prop) then (exec PP 4 297 50 [some (.ref a0), some (.int x1), some (.int x2), some (.int x3)] [] σ21)
      else (if sT σ21 a0 = 112 then (onI (rn 296 [.ref a0, .int x3, .int x1] σ21) (fun x26 σ24 =>
        if sT σ24 a0 = 112 then (onI (rn 296 [.ref a0, .int x2, .int x1] σ24) (fun x29 σ27 =>
          if (x26 < x29 : Prop) then (exec PP 4 297 23 [some (.ref a0), some (.int x1), some (.int x3), some (.int (x3 + 1))] [] σ27)
            else (exec PP 4 297 52 [some (.ref a0), some (.int x1), some (.int x2), some (.int x3)] [] σ27)) (fun e28 σ27x => some (.inr e28, σ27x))) else none) (fun e25 σ24x => some (.inr e25, σ24x))) else none))
    else (exec PP 4 297 58 [some (.ref a0), some (.int x1), some (.int x2), some (.int x3)] [] σ21)) (fun e22 σ21x => some (.inr e22, σ21x))) else none := (exec_eq PP 4 297 23 _ _ σ).trans rfl
set_option maxRecDepth 20000 in
theorem e_297_58 (o0 : Option Value) (o1 : Option Value) (x2 : Int32) (o3 : Option Value) (σ : SH) : exec PP 4 297 58 [o0, o1, some (.int x2), o3] [] σ =
  some (.inl (some (.int x2)), σ) := (exec_eq PP 4 297 58 _ _ σ).trans rfl
set_option maxRecDepth 20000 in
theorem e_297_50 (a0 : Nat) (x1 : Int32) (o2 : Option Value) (x3 : Int32) (σ : SH) : exec PP 4 297 50 [some (.ref a0), some (.int x1), o2, some (.int x3)] [] σ =
  exec PP 4 297 23 [some (.ref a0), some (.int x1), some (.int x3), some (.int (x3 + 1))] [] σ := (exec_eq PP 4 297 50 _ _ σ).trans rfl
set_option maxRecDepth 20000 in
theorem e_297_52 (a0 : Nat) (x1 : Int32) (x2 : Int32) (x3 : Int32) (σ : SH) : exec PP 4 297 52 [some (.ref a0), some (.int x1), some (.int x2), some (.int x3)] [] σ =
  exec PP 4 297 23 [some (.ref a0), some (.int x1), some (.int x2), some (.int (x3 + 1))] [] σ := (exec_eq PP 4 297 52 _ _ σ).trans rfl

/-! 298: ArchEndsModel.send(I)I -/
set_option maxRecDepth 20000 in
theorem r_298 (a0 : Nat) (x1 : Int32) (σ : SH) : rn 298 [.ref a0, .int x1] σ =
  if sT σ a0 = 112 then (onV (rn 187 [.ref a0] σ) (fun σ21 =>
  if (x1 = (-1) : Prop) then (exec PP 6 298 22 [some (.ref a0), some (.int x1), none, none, none, none] [.ref a0] σ21)
    else (if sT σ21 a0 = 112 then (onI (rn 249 [.ref a0, .int x1] σ21) (fun x25 σ23 =>
      if (x25 = 0 : Prop) then (exec PP 6 298 22 [some (.ref a0), some (.int x1), none, none, none, none] [.ref a0] σ23)
        else (exec PP 6 298 23 [some (.ref a0), some (.int x1), none, none, none, none] [.int 1, .ref a0] σ23)) (fun e24 σ23x => some (.inr e24, σ23x))) else none)) (fun e22 σ21x => some (.inr e22, σ21x))) else none := (exec_eq PP 6 298 0 _ _ σ).trans rfl
set_option maxRecDepth 20000 in
theorem e_298_22 (a0 : Nat) (x1 : Int32) (o2 : Option Value) (o3 : Option Value) (o4 : Option Value) (o5 : Option Value) (b0 : Nat) (σ : SH) : exec PP 6 298 22 [some (.ref a0), some (.int x1), o2, o3, o4, o5] [.ref b0] σ =
  if sT σ b0 = 112 then (onI (rn 216 [.ref b0, .int 0, .int 1] σ) (fun x23 σ21 =>
  if (x23 = 0 : Prop) then (exec PP 6 298 32 [some (.ref a0), some (.int x1), none, none, none, none] [] σ21)
    else (some (.inl (some (.int 0)), σ21))) (fun e22 σ21x => some (.inr e22, σ21x))) else none := (exec_eq PP 6 298 22 _ _ σ).trans rfl
set_option maxRecDepth 20000 in
theorem e_298_23 (a0 : Nat) (x1 : Int32) (o2 : Option Value) (o3 : Option Value) (o4 : Option Value) (o5 : Option Value) (w0 : Int32) (b1 : Nat) (σ : SH) : exec PP 6 298 23 [some (.ref a0), some (.int x1), o2, o3, o4, o5] [.int w0, .ref b1] σ =
  if sT σ b1 = 112 then (onI (rn 216 [.ref b1, .int w0, .int 1] σ) (fun x23 σ21 =>
  if (x23 = 0 : Prop) then (exec PP 6 298 32 [some (.ref a0), some (.int x1), none, none, none, none] [] σ21)
    else (some (.inl (some (.int 0)), σ21))) (fun e22 σ21x => some (.inr e22, σ21x))) else none := (exec_eq PP 6 298 23 _ _ σ).trans rfl
set_option maxRecDepth 20000 in
theorem e_298_32 (a0 : Nat) (x1 : Int32) (o2 : Option Value) (o3 : Option Value) (o4 : Option Value) (o5 : Option Value) (σ : SH) : exec PP 6 298 32 [some (.ref a0), some (.int x1), o2, o3, o4, o5] [] σ =
  gI σ 112 11 (.ref a0) fun x21 =>
  if sT σ a0 = 112 then (onI (rn 201 [.ref a0] σ) (fun x24 σ22 =>
  if (x21 = x24 : Prop) then (exec PP 6 298 48 [some (.ref a0), some (.int x1), none, none, none, none] [.int 1] σ22)
    else (exec PP 6 298 47 [some (.ref a0), some (.int x1), none, none, none, none] [] σ22)) (fun e23 σ22x => some (.inr e23, σ22x))) else none := (exec_eq PP 6 298 32 _ _ σ).trans rfl
set_option maxRecDepth 20000 in
theorem e_298_47 (a0 : Nat) (x1 : Int32) (o2 : Option Value) (o3 : Option Value) (o4 : Option Value) (o5 : Option Value) (σ : SH) : exec PP 6 298 47 [some (.ref a0), some (.int x1), o2, o3, o4, o5] [] σ =
  exec PP 6 298 51 [some (.ref a0), some (.int x1), some (.int 0), some (.int 0), none, none] [] σ := (exec_eq PP 6 298 47 _ _ σ).trans rfl
set_option maxRecDepth 20000 in
theorem e_298_48 (a0 : Nat) (x1 : Int32) (o2 : Option Value) (o3 : Option Value) (o4 : Option Value) (o5 : Option Value) (w0 : Int32) (σ : SH) : exec PP 6 298 48 [some (.ref a0), some (.int x1), o2, o3, o4, o5] [.int w0] σ =
  exec PP 6 298 51 [some (.ref a0), some (.int x1), some (.int w0), some (.int 0), none, none] [] σ := (exec_eq PP 6 298 48 _ _ σ).trans rfl
set_option maxRecDepth 20000 in
theorem e_298_51 (a0 : Nat) (x1 : Int32) (x2 : Int32) (x3 : Int32) (o4 : Option Value) (o5 : Option Value) (σ : SH) : exec PP 6 298 51 [some (.ref a0), some (.int x1), some (.int x2), some (.int x3), o4, o5] [] σ =
  gI σ 112 11 (.ref a0) fun x21 =>
  if (x3 < x21 : Prop) then (if (x2 = 0 : Prop) then (exec PP 6 298 87 [some (.ref a0), some (.int x1), some (.int x2), some (.int x3), none, none] [] σ)
    else (gR σ 112 8 (.ref a0) fun a22 =>
      aI σ 2 (.ref a22) x3 fun x23 =>
      onI (rn 229 [.int x23] σ) (fun x26 σ24 =>
      if (x26 = 0 : Prop) then (exec PP 6 298 80 [some (.ref a0), some (.int x1), some (.int x2), some (.int x3), none, none] [.int 1] σ24)
        else (exec PP 6 298 79 [some (.ref a0), some (.int x1), some (.int x2), some (.int x3), none, none] [] σ24)) (fun e25 σ24x => some (.inr e25, σ24x))))
  else (exec PP 6 298 87 [some (.ref a0), some (.int x1), some (.int x2), some (.int x3), none, none] [] σ) := (exec_eq PP 6 298 51 _ _ σ).trans rfl
set_option maxRecDepth 20000 in
theorem e_298_87 (a0 : Nat) (x1 : Int32) (x2 : Int32) (o3 : Option Value) (o4 : Option Value) (o5 : Option Value) (σ : SH) : exec PP 6 298 87 [some (.ref a0), some (.int x1), some (.int x2), o3, o4, o5] [] σ =
  if (x2 = 0 : Prop) then (exec PP 6 298 97 [some (.ref a0), some (.int x1), some (.int x2), none, none, none] [.int 1, .ref a0] σ)
  else (exec PP 6 298 96 [some (.ref a0), some (.int x1), some (.int x2), none, none, none] [.ref a0] σ) := (exec_eq PP 6 298 87 _ _ σ).trans rfl
set_option maxRecDepth 20000 in
theorem e_298_79 (a0 : Nat) (x1 : Int32) (o2 : Option Value) (x3 : Int32) (o4 : Option Value) (o5 : Option Value) (σ : SH) : exec PP 6 298 79 [some (.ref a0), some (.int x1), o2, some (.int x3), o4, o5] [] σ =
  exec PP 6 298 51 [some (.ref a0), some (.int x1), some (.int 0), some (.int (x3 + 1)), none, none] [] σ := (exec_eq PP 6 298 79 _ _ σ).trans rfl
set_option maxRecDepth 20000 in
theorem e_298_80 (a0 : Nat) (x1 : Int32) (o2 : Option Value) (x3 : Int32) (o4 : Option Value) (o5 : Option Value) (w0 : Int32) (σ : SH) : exec PP 6 298 80 [some (.ref a0), some (.int x1), o2, some (.int x3), o4, o5] [.int w0] σ =
  exec PP 6 298 51 [some (.ref a0), some (.int x1), some (.int w0), some (.int (x3 + 1)), none, none] [] σ := (exec_eq PP 6 298 80 _ _ σ).trans rfl
set_option maxRecDepth 20000 in
theorem e_298_96 (a0 : Nat) (x1 : Int32) (o2 : Option Value) (o3 : Option Value) (o4 : Option Value) (o5 : Option Value) (b0 : Nat) (σ : SH) : exec PP 6 298 96 [some (.ref a0), some (.int x1), o2, o3, o4, o5] [.ref b0] σ =
  if sT σ b0 = 112 then (onI (rn 216 [.ref b0, .int 0, .int 2] σ) (fun x23 σ21 =>
  if (x23 = 0 : Prop) then (exec PP 6 298 106 [some (.ref a0), some (.int x1), none, none, none, none] [] σ21)
    else (some (.inl (some (.int 0)), σ21))) (fun e22 σ21x => some (.inr e22, σ21x))) else none := (exec_eq PP 6 298 96 _ _ σ).trans rfl
set_option maxRecDepth 20000 in
theorem e_298_97 (a0 : Nat) (x1 : Int32) (o2 : Option Value) (o3 : Option Value) (o4 : Option Value) (o5 : Option Value) (w0 : Int32) (b1 : Nat) (σ : SH) : exec PP 6 298 97 [some (.ref a0), some (.int x1), o2, o3, o4, o5] [.int w0, .ref b1] σ =
  if sT σ b1 = 112 then (onI (rn 216 [.ref b1, .int w0, .int 2] σ) (fun x23 σ21 =>
  if (x23 = 0 : Prop) then (exec PP 6 298 106 [some (.ref a0), some (.int x1), none, none, none, none] [] σ21)
    else (some (.inl (some (.int 0)), σ21))) (fun e22 σ21x => some (.inr e22, σ21x))) else none := (exec_eq PP 6 298 97 _ _ σ).trans rfl
set_option maxRecDepth 20000 in
theorem e_298_106 (a0 : Nat) (x1 : Int32) (o2 : Option Value) (o3 : Option Value) (o4 : Option Value) (o5 : Option Value) (σ : SH) : exec PP 6 298 106 [some (.ref a0), some (.int x1), o2, o3, o4, o5] [] σ =
  if sT σ a0 = 112 then (onV (rn 299 [.ref a0] σ) (fun σ21 =>
  if (x1 = (-1) : Prop) then (if sT σ21 a0 = 112 then (onI (rn 301 [.ref a0, .int 0, .int 0] σ21) (fun x25 σ23 =>
      some (.inl (some (.int x25)), σ23)) (fun e24 σ23x => some (.inr e24, σ23x))) else none)
    else (exec PP 6 298 122 [some (.ref a0), some (.int x1), none, none, none, none] [] σ21)) (fun e22 σ21x => some (.inr e22, σ21x))) else none := (exec_eq PP 6 298 106 _ _ σ).trans rfl
set_option maxRecDepth 20000 in
theorem e_298_122 (a0 : Nat) (x1 : Int32) (o2 : Option Value) (o3 : Option Value) (o4 : Option Value) (o5 : Option Value) (σ : SH) : exec PP 6 298 122 [some (.ref a0), some (.int x1), o2, o3, o4, o5] [] σ =
  exec PP 6 298 130 [some (.ref a0), some (.int x1), none, some (.int 0), some (.int 0), some (.int 0)] [] σ := (exec_eq PP 6 298 122 _ _ σ).trans rfl
set_option maxRecDepth 20000 in
theorem e_298_130 (a0 : Nat) (x1 : Int32) (o2 : Option Value) (x3 : Int32) (x4 : Int32) (x5 : Int32) (σ : SH) : exec PP 6 298 130 [some (.ref a0), some (.int x1), o2, some (.int x3), some (.int x4), some (.int x5)] [] σ =
  if (x1 < x5 : Prop) then (exec PP 6 298 186 [some (.ref a0), some (.int x1), none, some (.int x3), some (.int x4), some (.int x5)] [] σ)
  else (exec PP 6 298 139 [some (.ref a0), some (.int x1), none, some (.int x3), some (.int 0), some (.int x5)] [] σ) := (exec_eq PP 6 298 130 _ _ σ).trans rfl
set_option maxRecDepth 20000 in
theorem e_298_186 (o0 : Option Value) (o1 : Option Value) (o2 : Option Value) (o3 : Option Value) (x4 : Int32) (o5 : Option Value) (σ : SH) : exec PP 6 298 186 [o0, o1, o2, o3, some (.int x4), o5] [] σ =
  some (.inl (some (.int x4)), σ) := (exec_eq PP 6 298 186 _ _ σ).trans rfl
set_option maxRecDepth 20000 in
theorem e_298_139 (a0 : Nat) (x1 : Int32) (o2 : Option Value) (x3 : Int32) (x4 : Int32) (x5 : Int32) (σ : SH) : exec PP 6 298 139 [some (.ref a0), some (.int x1), o2, some (.int x3), some (.int x4), some (.int x5)] [] σ =
  onI (rn 292 [.int x3, .int x4] σ) (fun x23 σ21 =>
  if (x23 = 0 : Prop) then (if sT σ21 a0 = 112 then (onI (rn 300 [.ref a0, .int x5, .int x3, .int x4] σ21) (fun x26 σ24 =>
      if sT σ24 a0 = 112 then (onI (rn 301 [.ref a0, .int x5, .int x3] σ24) (fun x29 σ27 =>
        if (x26 = x29 : Prop) then (exec PP 6 298 173 [some (.ref a0), some (.int x1), none, some (.int x3), some (.int x4), some (.int x5)] [] σ27)
          else (exec PP 6 298 139 [some (.ref a0), some (.int x1), none, some (.int x3), some (.int (x4 + 1)), some (.int x5)] [] σ27)) (fun e28 σ27x => some (.inr e28, σ27x))) else none) (fun e25 σ24x => some (.inr e25, σ24x))) else none)
    else (exec PP 6 298 167 [some (.ref a0), some (.int x1), none, some (.int x3), some (.int x4), some (.int x5)] [] σ21)) (fun e22 σ21x => some (.inr e22, σ21x)) := (exec_eq PP 6 298 139 _ _ σ).trans rfl
set_option maxRecDepth 20000 in
theorem e_298_167 (a0 : Nat) (x1 : Int32) (o2 : Option Value) (x3 : Int32) (x4 : Int32) (x5 : Int32) (σ : SH) : exec PP 6 298 167 [some (.ref a0), some (.int x1), o2, some (.int x3), some (.int x4), some (.int x5)] [] σ =
  exec PP 6 298 139 [some (.ref a0), some (.int x1), none, some (.int x3), some (.int (x4 + 1)), some (.int x5)] [] σ := (exec_eq PP 6 298 167 _ _ σ).trans rfl
set_option maxRecDepth 20000 in
theorem e_298_173 (a0 : Nat) (x1 : Int32) (o2 : Option Value) (x3 : Int32) (x4 : Int32) (x5 : Int32) (σ : SH) : exec PP 6 298 173 [some (.ref a0), some (.int x1), o2, some (.int x3), some (.int x4), some (.int x5)] [] σ =
  exec PP 6 298 130 [some (.ref a0), some (.int x1), none, some (.int (x3 ||| (shl 1 x4))), some (.int x4), some (.int (x5 + 1))] [] σ := (exec_eq PP 6 298 173 _ _ σ).trans rfl

/-! 299: ArchEndsModel.laysLeast()V -/
set_option maxRecDepth 20000 in
theorem r_299 (a0 : Nat) (σ : SH) : rn 299 [.ref a0] σ =
  exec PP 5 299 2 [some (.ref a0), some (.int 0), none, none, none] [] σ := (exec_eq PP 5 299 0 _ _ σ).trans rfl
set_option maxRecDepth 20000 in
theorem e_299_2 (a0 : Nat) (x1 : Int32) (o2 : Option Value) (o3 : Option Value) (o4 : Option Value) (σ : SH) : exec PP 5 299 2 [some (.ref a0), some (.int x1), o2, o3, o4] [] σ =
  if (x1 < 32 : Prop) then (gR σ 112 23 (.ref a0) fun a21 =>
    if sT σ a0 = 112 then (onI (rn 201 [.ref a0] σ) (fun x24 σ22 =>
    uI σ22 (.ref a21) ((shl x24 5) + x1) 0 fun σ25 =>
      exec PP 5 299 2 [some (.ref a0), some (.int (x1 + 1)), none, none, none] [] σ25) (fun e23 σ22x => some (.inr e23, σ22x))) else none)
  else (exec PP 5 299 28 [some (.ref a0), some (.int x1), none, none, none] [] σ) := (exec_eq PP 5 299 2 _ _ σ).trans rfl
set_option maxRecDepth 20000 in
theorem e_299_28 (a0 : Nat) (o1 : Option Value) (o2 : Option Value) (o3 : Option Value) (o4 : Option Value) (σ : SH) : exec PP 5 299 28 [some (.ref a0), o1, o2, o3, o4] [] σ =
  if sT σ a0 = 112 then (onI (rn 201 [.ref a0] σ) (fun x23 σ21 =>
  exec PP 5 299 35 [some (.ref a0), some (.int (x23 - 1)), none, none, none] [] σ21) (fun e22 σ21x => some (.inr e22, σ21x))) else none := (exec_eq PP 5 299 28 _ _ σ).trans rfl
set_option maxRecDepth 20000 in
theorem e_299_35 (a0 : Nat) (x1 : Int32) (o2 : Option Value) (o3 : Option Value) (o4 : Option Value) (σ : SH) : exec PP 5 299 35 [some (.ref a0), some (.int x1), o2, o3, o4] [] σ =
  if (x1 < 0 : Prop) then (exec PP 5 299 114 [some (.ref a0), some (.int x1), none, none, none] [] σ)
  else (exec PP 5 299 41 [some (.ref a0), some (.int x1), some (.int 0), none, none] [] σ) := (exec_eq PP 5 299 35 _ _ σ).trans rfl
set_option maxRecDepth 20000 in
theorem e_299_114 (o0 : Option Value) (o1 : Option Value) (o2 : Option Value) (o3 : Option Value) (o4 : Option Value) (σ : SH) : exec PP 5 299 114 [o0, o1, o2, o3, o4] [] σ =
  some (.inl none, σ) := (exec_eq PP 5 299 114 _ _ σ).trans rfl
set_option maxRecDepth 20000 in
theorem e_299_41 (a0 : Nat) (x1 : Int32) (x2 : Int32) (o3 : Option Value) (o4 : Option Value) (σ : SH) : exec PP 5 299 41 [some (.ref a0), some (.int x1), some (.int x2), o3, o4] [] σ =
  if (x2 < 32 : Prop) then (exec PP 5 299 54 [some (.ref a0), some (.int x1), some (.int x2), some (.int 100000000), some (.int 0)] [] σ)
  else (exec PP 5 299 108 [some (.ref a0), some (.int x1), some (.int x2), none, none] [] σ) := (exec_eq PP 5 299 41 _ _ σ).trans rfl
set_option maxRecDepth 20000 in
theorem e_299_108 (a0 : Nat) (x1 : Int32) (o2 : Option Value) (o3 : Option Value) (o4 : Option Value) (σ : SH) : exec PP 5 299 108 [some (.ref a0), some (.int x1), o2, o3, o4] [] σ =
  exec PP 5 299 35 [some (.ref a0), some (.int (x1 + (-1))), none, none, none] [] σ := (exec_eq PP 5 299 108 _ _ σ).trans rfl
set_option maxRecDepth 20000 in
theorem e_299_54 (a0 : Nat) (x1 : Int32) (x2 : Int32) (x3 : Int32) (x4 : Int32) (σ : SH) : exec PP 5 299 54 [some (.ref a0), some (.int x1), some (.int x2), some (.int x3), some (.int x4)] [] σ =
  if sT σ a0 = 112 then (onI (rn 201 [.ref a0] σ) (fun x23 σ21 =>
  if (x4 < x23 : Prop) then (onI (rn 292 [.int x2, .int x4] σ21) (fun x26 σ24 =>
      if (x26 = 0 : Prop) then (if sT σ24 a0 = 112 then (onI (rn 300 [.ref a0, .int x1, .int x2, .int x4] σ24) (fun x29 σ27 =>
          onI (rn 328 [.int x3, .int x29] σ27) (fun x32 σ30 =>
            exec PP 5 299 54 [some (.ref a0), some (.int x1), some (.int x2), some (.int x32), some (.int (x4 + 1))] [] σ30) (fun e31 σ30x => some (.inr e31, σ30x))) (fun e28 σ27x => some (.inr e28, σ27x))) else none)
        else (exec PP 5 299 85 [some (.ref a0), some (.int x1), some (.int x2), some (.int x3), some (.int x4)] [] σ24)) (fun e25 σ24x => some (.inr e25, σ24x)))
    else (exec PP 5 299 91 [some (.ref a0), some (.int x1), some (.int x2), some (.int x3), some (.int x4)] [] σ21)) (fun e22 σ21x => some (.inr e22, σ21x))) else none := (exec_eq PP 5 299 54 _ _ σ).trans rfl
set_option maxRecDepth 20000 in
theorem e_299_91 (a0 : Nat) (x1 : Int32) (x2 : Int32) (x3 : Int32) (o4 : Option Value) (σ : SH) : exec PP 5 299 91 [some (.ref a0), some (.int x1), some (.int x2), some (.int x3), o4] [] σ =
  gR σ 112 23 (.ref a0) fun a21 =>
  uI σ (.ref a21) ((shl x1 5) + x2) x3 fun σ22 =>
  exec PP 5 299 41 [some (.ref a0), some (.int x1), some (.int (x2 + 1)), some (.int x3), none] [] σ22 := (exec_eq PP 5 299 91 _ _ σ).trans rfl
set_option maxRecDepth 20000 in
theorem e_299_85 (a0 : Nat) (x1 : Int32) (x2 : Int32) (x3 : Int32) (x4 : Int32) (σ : SH) : exec PP 5 299 85 [some (.ref a0), some (.int x1), some (.int x2), some (.int x3), some (.int x4)] [] σ =
  exec PP 5 299 54 [some (.ref a0), some (.int x1), some (.int x2), some (.int x3), some (.int (x4 + 1))] [] σ := (exec_eq PP 5 299 85 _ _ σ).trans rfl

/-! 300: ArchEndsModel.leastBy(III)I -/
set_option maxRecDepth 20000 in
theorem r_300 (a0 : Nat) (x1 : Int32) (x2 : Int32) (x3 : Int32) (σ : SH) : rn 300 [.ref a0, .int x1, .int x2, .int x3] σ =
  gR σ 112 8 (.ref a0) fun a21 =>
  aI σ 2 (.ref a21) x3 fun x22 =>
  if sT σ a0 = 112 then (onI (rn 296 [.ref a0, .int x1, .int x22] σ) (fun x25 σ23 =>
  if sT σ23 a0 = 112 then (onI (rn 301 [.ref a0, .int (x1 + 1), .int (x2 ||| (shl 1 x3))] σ23) (fun x28 σ26 =>
    some (.inl (some (.int (x25 + x28))), σ26)) (fun e27 σ26x => some (.inr e27, σ26x))) else none) (fun e24 σ23x => some (.inr e24, σ23x))) else none := (exec_eq PP 4 300 0 _ _ σ).trans rfl

/-! 301: ArchEndsModel.leastOf(II)I -/
set_option maxRecDepth 20000 in
theorem r_301 (a0 : Nat) (x1 : Int32) (x2 : Int32) (σ : SH) : rn 301 [.ref a0, .int x1, .int x2] σ =
  gR σ 112 23 (.ref a0) fun a21 =>
  aI σ 1 (.ref a21) ((shl x1 5) + x2) fun x22 =>
  some (.inl (some (.int x22)), σ) := (exec_eq PP 1 301 0 _ _ σ).trans rfl

/-! 302: ArchEndsModel.seen(IZ)I -/
set_option maxRecDepth 20000 in
theorem r_302 (a0 : Nat) (x1 : Int32) (x2 : Int32) (σ : SH) : rn 302 [.ref a0, .int x1, .int x2] σ =
  if sT σ a0 = 112 then (onV (rn 187 [.ref a0] σ) (fun σ21 =>
  if sT σ21 a0 = 112 then (onI (rn 303 [.ref a0] σ21) (fun x25 σ23 =>
    if (x25 = 0 : Prop) then (exec PP 5 302 19 [some (.ref a0), some (.int x1), some (.int x2), none, none, none] [.ref a0] σ23)
      else (onI (rn 223 [.int x1] σ23) (fun x28 σ26 =>
        if (x28 = 0 : Prop) then (exec PP 5 302 23 [some (.ref a0), some (.int x1), some (.int x2), none, none, none] [.ref a0] σ26)
          else (exec PP 5 302 24 [some (.ref a0), some (.int x1), some (.int x2), none, none, none] [.int 1, .ref a0] σ26)) (fun e27 σ26x => some (.inr e27, σ26x)))) (fun e24 σ23x => some (.inr e24, σ23x))) else none) (fun e22 σ21x => some (.inr e22, σ21x))) else none := (exec_eq PP 5 302 0 _ _ σ).trans rfl
set_option maxRecDepth 20000 in
theorem e_302_19 (a0 : Nat) (x1 : Int32) (x2 : Int32) (o3 : Option Value) (o4 : Option Value) (o5 : Option Value) (b0 : Nat) (σ : SH) : exec PP 5 302 19 [some (.ref a0), some (.int x1), some (.int x2), o3, o4, o5] [.ref b0] σ =
  exec PP 5 302 24 [some (.ref a0), some (.int x1), some (.int x2), none, none, none] [.int 1, .ref b0] σ := (exec_eq PP 5 302 19 _ _ σ).trans rfl
set_option maxRecDepth 20000 in
theorem e_302_23 (a0 : Nat) (x1 : Int32) (x2 : Int32) (o3 : Option Value) (o4 : Option Value) (o5 : Option Value) (b0 : Nat) (σ : SH) : exec PP 5 302 23 [some (.ref a0), some (.int x1), some (.int x2), o3, o4, o5] [.ref b0] σ =
  if sT σ b0 = 112 then (onI (rn 216 [.ref b0, .int 0, .int 1] σ) (fun x23 σ21 =>
  if (x23 = 0 : Prop) then (exec PP 5 302 33 [some (.ref a0), some (.int x1), some (.int x2), none, none, none] [] σ21)
    else (some (.inl (some (.int 0)), σ21))) (fun e22 σ21x => some (.inr e22, σ21x))) else none := (exec_eq PP 5 302 23 _ _ σ).trans rfl
set_option maxRecDepth 20000 in
theorem e_302_24 (a0 : Nat) (x1 : Int32) (x2 : Int32) (o3 : Option Value) (o4 : Option Value) (o5 : Option Value) (w0 : Int32) (b1 : Nat) (σ : SH) : exec PP 5 302 24 [some (.ref a0), some (.int x1), some (.int x2), o3, o4, o5] [.int w0, .ref b1] σ =
  if sT σ b1 = 112 then (onI (rn 216 [.ref b1, .int w0, .int 1] σ) (fun x23 σ21 =>
  if (x23 = 0 : Prop) then (exec PP 5 302 33 [some (.ref a0), some (.int x1), some (.int x2), none, none, none] [] σ21)
    else (some (.inl (some (.int 0)), σ21))) (fun e22 σ21x => some (.inr e22, σ21x))) else none := (exec_eq PP 5 302 24 _ _ σ).trans rfl
set_option maxRecDepth 20000 in
theorem e_302_33 (a0 : Nat) (x1 : Int32) (x2 : Int32) (o3 : Option Value) (o4 : Option Value) (o5 : Option Value) (σ : SH) : exec PP 5 302 33 [some (.ref a0), some (.int x1), some (.int x2), o3, o4, o5] [] σ =
  if sT σ a0 = 112 then (onI (rn 195 [.ref a0] σ) (fun x23 σ21 =>
  exec PP 5 302 48 [some (.ref a0), some (.int x1), some (.int x2), some (.int 0), some (.int ((shl 1 x23) - 1)), some (.int 0)] [] σ21) (fun e22 σ21x => some (.inr e22, σ21x))) else none := (exec_eq PP 5 302 33 _ _ σ).trans rfl
set_option maxRecDepth 20000 in
theorem e_302_48 (a0 : Nat) (x1 : Int32) (x2 : Int32) (x3 : Int32) (x4 : Int32) (x5 : Int32) (σ : SH) : exec PP 5 302 48 [some (.ref a0), some (.int x1), some (.int x2), some (.int x3), some (.int x4), some (.int x5)] [] σ =
  if sT σ a0 = 112 then (onI (rn 195 [.ref a0] σ) (fun x23 σ21 =>
  if (x5 < (shl 1 x23) : Prop) then (if sT σ21 a0 = 112 then (onI (rn 304 [.ref a0, .int x5, .int x1] σ21) (fun x26 σ24 =>
      if (x26 = 0 : Prop) then (exec PP 5 302 82 [some (.ref a0), some (.int x1), some (.int x2), some (.int x3), some (.int x4), some (.int x5)] [] σ24)
        else (exec PP 5 302 72 [some (.ref a0), some (.int x1), some (.int x2), some (.int x3), some (.int x4), some (.int x5)] [] σ24)) (fun e25 σ24x => some (.inr e25, σ24x))) else none)
    else (exec PP 5 302 88 [some (.ref a0), some (.int x1), some (.int x2), some (.int x3), some (.int x4), some (.int x5)] [] σ21)) (fun e22 σ21x => some (.inr e22, σ21x))) else none := (exec_eq PP 5 302 48 _ _ σ).trans rfl
set_option maxRecDepth 20000 in
theorem e_302_88 (o0 : Option Value) (o1 : Option Value) (x2 : Int32) (x3 : Int32) (x4 : Int32) (o5 : Option Value) (σ : SH) : exec PP 5 302 88 [o0, o1, some (.int x2), some (.int x3), some (.int x4), o5] [] σ =
  if (x2 = 0 : Prop) then (exec PP 5 302 106 [none, none, some (.int x2), some (.int x3), some (.int x4), none] [.int x3] σ)
  else (exec PP 5 302 96 [none, none, some (.int x2), some (.int x3), some (.int x4), none] [] σ) := (exec_eq PP 5 302 88 _ _ σ).trans rfl
set_option maxRecDepth 20000 in
theorem e_302_72 (a0 : Nat) (x1 : Int32) (x2 : Int32) (x3 : Int32) (x4 : Int32) (x5 : Int32) (σ : SH) : exec PP 5 302 72 [some (.ref a0), some (.int x1), some (.int x2), some (.int x3), some (.int x4), some (.int x5)] [] σ =
  exec PP 5 302 48 [some (.ref a0), some (.int x1), some (.int x2), some (.int (x3 + 1)), some (.int (x4 &&& x5)), some (.int (x5 + 1))] [] σ := (exec_eq PP 5 302 72 _ _ σ).trans rfl
set_option maxRecDepth 20000 in
theorem e_302_82 (a0 : Nat) (x1 : Int32) (x2 : Int32) (x3 : Int32) (x4 : Int32) (x5 : Int32) (σ : SH) : exec PP 5 302 82 [some (.ref a0), some (.int x1), some (.int x2), some (.int x3), some (.int x4), some (.int x5)] [] σ =
  exec PP 5 302 48 [some (.ref a0), some (.int x1), some (.int x2), some (.int x3), some (.int x4), some (.int (x5 + 1))] [] σ := (exec_eq PP 5 302 82 _ _ σ).trans rfl
set_option maxRecDepth 20000 in
theorem e_302_96 (o0 : Option Value) (o1 : Option Value) (o2 : Option Value) (x3 : Int32) (x4 : Int32) (o5 : Option Value) (σ : SH) : exec PP 5 302 96 [o0, o1, o2, some (.int x3), some (.int x4), o5] [] σ =
  if (x3 = 0 : Prop) then (exec PP 5 302 106 [none, none, none, some (.int x3), some (.int x4), none] [.int 0] σ)
  else (exec PP 5 302 104 [none, none, none, some (.int x3), some (.int x4), none] [] σ) := (exec_eq PP 5 302 96 _ _ σ).trans rfl
set_option maxRecDepth 20000 in
theorem e_302_106 (o0 : Option Value) (o1 : Option Value) (o2 : Option Value) (o3 : Option Value) (o4 : Option Value) (o5 : Option Value) (w0 : Int32) (σ : SH) : exec PP 5 302 106 [o0, o1, o2, o3, o4, o5] [.int w0] σ =
  some (.inl (some (.int w0)), σ) := (exec_eq PP 5 302 106 _ _ σ).trans rfl
set_option maxRecDepth 20000 in
theorem e_302_104 (o0 : Option Value) (o1 : Option Value) (o2 : Option Value) (o3 : Option Value) (x4 : Int32) (o5 : Option Value) (σ : SH) : exec PP 5 302 104 [o0, o1, o2, o3, some (.int x4), o5] [] σ =
  some (.inl (some (.int x4)), σ) := (exec_eq PP 5 302 104 _ _ σ).trans rfl

/-! 303: ArchEndsModel.isTold()Z -/
set_option maxRecDepth 20000 in
theorem r_303 (a0 : Nat) (σ : SH) : rn 303 [.ref a0] σ =
  gI σ 112 11 (.ref a0) fun x21 =>
  if (((irm x21 2) : Int32) = 0 : Prop) then (gI σ 112 11 (.ref a0) fun x22 =>
    if (40 < x22 : Prop) then (exec PP 3 303 22 [some (.ref a0), none, none] [] σ)
    else (exec PP 3 303 23 [some (.ref a0), none, none] [.int 1] σ))
  else (exec PP 3 303 22 [some (.ref a0), none, none] [] σ) := (exec_eq PP 3 303 0 _ _ σ).trans rfl
set_option maxRecDepth 20000 in
theorem e_303_22 (a0 : Nat) (o1 : Option Value) (o2 : Option Value) (σ : SH) : exec PP 3 303 22 [some (.ref a0), o1, o2] [] σ =
  exec PP 3 303 26 [some (.ref a0), some (.int 0), some (.int 0)] [] σ := (exec_eq PP 3 303 22 _ _ σ).trans rfl
set_option maxRecDepth 20000 in
theorem e_303_23 (a0 : Nat) (o1 : Option Value) (o2 : Option Value) (w0 : Int32) (σ : SH) : exec PP 3 303 23 [some (.ref a0), o1, o2] [.int w0] σ =
  exec PP 3 303 26 [some (.ref a0), some (.int w0), some (.int 0)] [] σ := (exec_eq PP 3 303 23 _ _ σ).trans rfl
set_option maxRecDepth 20000 in
theorem e_303_26 (a0 : Nat) (x1 : Int32) (x2 : Int32) (σ : SH) : exec PP 3 303 26 [some (.ref a0), some (.int x1), some (.int x2)] [] σ =
  gI σ 112 11 (.ref a0) fun x21 =>
  if (x2 < x21 : Prop) then (if (x1 = 0 : Prop) then (exec PP 3 303 78 [some (.ref a0), some (.int x1), some (.int x2)] [] σ)
    else (gR σ 112 8 (.ref a0) fun a22 =>
      aI σ 2 (.ref a22) x2 fun x23 =>
      onI (rn 229 [.int x23] σ) (fun x26 σ24 =>
      if (x26 = 0 : Prop) then (gR σ24 112 8 (.ref a0) fun a27 =>
          aI σ24 2 (.ref a27) (x2 + 1) fun x28 =>
          onI (rn 220 [.int x28, .int 0, .int 1] σ24) (fun x31 σ29 =>
          if (x31 = 0 : Prop) then (exec PP 3 303 70 [some (.ref a0), some (.int x1), some (.int x2)] [] σ29)
            else (exec PP 3 303 71 [some (.ref a0), some (.int x1), some (.int x2)] [.int 1] σ29)) (fun e30 σ29x => some (.inr e30, σ29x)))
        else (exec PP 3 303 70 [some (.ref a0), some (.int x1), some (.int x2)] [] σ24)) (fun e25 σ24x => some (.inr e25, σ24x))))
  else (exec PP 3 303 78 [some (.ref a0), some (.int x1), some (.int x2)] [] σ) := (exec_eq PP 3 303 26 _ _ σ).trans rfl
set_option maxRecDepth 20000 in
theorem e_303_78 (o0 : Option Value) (x1 : Int32) (o2 : Option Value) (σ : SH) : exec PP 3 303 78 [o0, some (.int x1), o2] [] σ =
  if x1 = 0 ∨ x1 = 1 then some (.inl (some (.int x1)), σ) else none := (exec_eq PP 3 303 78 _ _ σ).trans rfl
set_option maxRecDepth 20000 in
theorem e_303_70 (a0 : Nat) (o1 : Option Value) (x2 : Int32) (σ : SH) : exec PP 3 303 70 [some (.ref a0), o1, some (.int x2)] [] σ =
  exec PP 3 303 26 [some (.ref a0), some (.int 0), some (.int (x2 + 2))] [] σ := (exec_eq PP 3 303 70 _ _ σ).trans rfl
set_option maxRecDepth 20000 in
theorem e_303_71 (a0 : Nat) (o1 : Option Value) (x2 : Int32) (w0 : Int32) (σ : SH) : exec PP 3 303 71 [some (.ref a0), o1, some (.int x2)] [.int w0] σ =
  exec PP 3 303 26 [some (.ref a0), some (.int w0), some (.int (x2 + 2))] [] σ := (exec_eq PP 3 303 71 _ _ σ).trans rfl

/-! 304: ArchEndsModel.fits(II)Z -/
set_option maxRecDepth 20000 in
theorem r_304 (a0 : Nat) (x1 : Int32) (x2 : Int32) (σ : SH) : rn 304 [.ref a0, .int x1, .int x2] σ =
  exec PP 4 304 5 [some (.ref a0), some (.int x1), some (.int x2), some (.int 1), some (.int 0)] [] σ := (exec_eq PP 4 304 0 _ _ σ).trans rfl
set_option maxRecDepth 20000 in
theorem e_304_5 (a0 : Nat) (x1 : Int32) (x2 : Int32) (x3 : Int32) (x4 : Int32) (σ : SH) : exec PP 4 304 5 [some (.ref a0), some (.int x1), some (.int x2), some (.int x3), some (.int x4)] [] σ =
  if sT σ a0 = 112 then (onI (rn 195 [.ref a0] σ) (fun x23 σ21 =>
  if (x4 < x23 : Prop) then (if (x3 = 0 : Prop) then (exec PP 4 304 59 [some (.ref a0), some (.int x1), some (.int x2), some (.int x3), some (.int x4)] [] σ21)
      else (if sT σ21 a0 = 112 then (onI (rn 221 [.ref a0, .int x4, .int 6] σ21) (fun x26 σ24 =>
        if (x26 = 0 : Prop) then (exec PP 4 304 55 [some (.ref a0), some (.int x1), some (.int x2), some (.int x3), some (.int x4)] [] σ24)
          else (onI (rn 292 [.int x1, .int x4] σ24) (fun x29 σ27 =>
            if sT σ27 a0 = 112 then (onI (rn 221 [.ref a0, .int x4, .int 6] σ27) (fun x32 σ30 =>
              if (x32 = 1 : Prop) then (exec PP 4 304 52 [some (.ref a0), some (.int x1), some (.int x2), some (.int x3), some (.int x4)] [.int 1, .int x29] σ30)
                else (exec PP 4 304 51 [some (.ref a0), some (.int x1), some (.int x2), some (.int x3), some (.int x4)] [.int x29] σ30)) (fun e31 σ30x => some (.inr e31, σ30x))) else none) (fun e28 σ27x => some (.inr e28, σ27x)))) (fun e25 σ24x => some (.inr e25, σ24x))) else none))
    else (exec PP 4 304 67 [some (.ref a0), some (.int x1), some (.int x2), some (.int x3), some (.int x4)] [] σ21)) (fun e22 σ21x => some (.inr e22, σ21x))) else none := (exec_eq PP 4 304 5 _ _ σ).trans rfl
set_option maxRecDepth 20000 in
theorem e_304_67 (a0 : Nat) (x1 : Int32) (x2 : Int32) (x3 : Int32) (o4 : Option Value) (σ : SH) : exec PP 4 304 67 [some (.ref a0), some (.int x1), some (.int x2), some (.int x3), o4] [] σ =
  exec PP 4 304 70 [some (.ref a0), some (.int x1), some (.int x2), some (.int x3), some (.int 0)] [] σ := (exec_eq PP 4 304 67 _ _ σ).trans rfl
set_option maxRecDepth 20000 in
theorem e_304_59 (a0 : Nat) (x1 : Int32) (x2 : Int32) (o3 : Option Value) (x4 : Int32) (σ : SH) : exec PP 4 304 59 [some (.ref a0), some (.int x1), some (.int x2), o3, some (.int x4)] [] σ =
  exec PP 4 304 5 [some (.ref a0), some (.int x1), some (.int x2), some (.int 0), some (.int (x4 + 1))] [] σ := (exec_eq PP 4 304 59 _ _ σ).trans rfl
set_option maxRecDepth 20000 in
theorem e_304_55 (a0 : Nat) (x1 : Int32) (x2 : Int32) (o3 : Option Value) (x4 : Int32) (σ : SH) : exec PP 4 304 55 [some (.ref a0), some (.int x1), some (.int x2), o3, some (.int x4)] [] σ =
  exec PP 4 304 60 [some (.ref a0), some (.int x1), some (.int x2), none, some (.int x4)] [.int 1] σ := (exec_eq PP 4 304 55 _ _ σ).trans rfl
set_option maxRecDepth 20000 in
theorem e_304_51 (a0 : Nat) (x1 : Int32) (x2 : Int32) (o3 : Option Value) (x4 : Int32) (w0 : Int32) (σ : SH) : exec PP 4 304 51 [some (.ref a0), some (.int x1), some (.int x2), o3, some (.int x4)] [.int w0] σ =
  if (w0 = 0 : Prop) then (exec PP 4 304 60 [some (.ref a0), some (.int x1), some (.int x2), none, some (.int x4)] [.int 1] σ)
  else (exec PP 4 304 59 [some (.ref a0), some (.int x1), some (.int x2), none, some (.int x4)] [] σ) := (exec_eq PP 4 304 51 _ _ σ).trans rfl
set_option maxRecDepth 20000 in
theorem e_304_52 (a0 : Nat) (x1 : Int32) (x2 : Int32) (o3 : Option Value) (x4 : Int32) (w0 : Int32) (w1 : Int32) (σ : SH) : exec PP 4 304 52 [some (.ref a0), some (.int x1), some (.int x2), o3, some (.int x4)] [.int w0, .int w1] σ =
  if (w1 = w0 : Prop) then (exec PP 4 304 60 [some (.ref a0), some (.int x1), some (.int x2), none, some (.int x4)] [.int 1] σ)
  else (exec PP 4 304 59 [some (.ref a0), some (.int x1), some (.int x2), none, some (.int x4)] [] σ) := (exec_eq PP 4 304 52 _ _ σ).trans rfl
set_option maxRecDepth 20000 in
theorem e_304_70 (a0 : Nat) (x1 : Int32) (x2 : Int32) (x3 : Int32) (x4 : Int32) (σ : SH) : exec PP 4 304 70 [some (.ref a0), some (.int x1), some (.int x2), some (.int x3), some (.int x4)] [] σ =
  gI σ 112 11 (.ref a0) fun x21 =>
  if (x4 < x21 : Prop) then (if (x3 = 0 : Prop) then (exec PP 4 304 121 [some (.ref a0), some (.int x1), some (.int x2), some (.int x3), some (.int x4)] [] σ)
    else (gR σ 112 8 (.ref a0) fun a22 =>
      aI σ 2 (.ref a22) x4 fun x23 =>
      if sT σ a0 = 112 then (onI (rn 305 [.ref a0, .int x1, .int x23, .int x2] σ) (fun x26 σ24 =>
      gR σ24 112 8 (.ref a0) fun a27 =>
        aI σ24 2 (.ref a27) (x4 + 1) fun x28 =>
        if (x28 = 1 : Prop) then (exec PP 4 304 114 [some (.ref a0), some (.int x1), some (.int x2), some (.int x3), some (.int x4)] [.int 1, .int x26] σ24)
        else (exec PP 4 304 113 [some (.ref a0), some (.int x1), some (.int x2), some (.int x3), some (.int x4)] [.int x26] σ24)) (fun e25 σ24x => some (.inr e25, σ24x))) else none))
  else (exec PP 4 304 129 [some (.ref a0), some (.int x1), some (.int x2), some (.int x3), some (.int x4)] [] σ) := (exec_eq PP 4 304 70 _ _ σ).trans rfl
set_option maxRecDepth 20000 in
theorem e_304_60 (a0 : Nat) (x1 : Int32) (x2 : Int32) (o3 : Option Value) (x4 : Int32) (w0 : Int32) (σ : SH) : exec PP 4 304 60 [some (.ref a0), some (.int x1), some (.int x2), o3, some (.int x4)] [.int w0] σ =
  exec PP 4 304 5 [some (.ref a0), some (.int x1), some (.int x2), some (.int w0), some (.int (x4 + 1))] [] σ := (exec_eq PP 4 304 60 _ _ σ).trans rfl
set_option maxRecDepth 20000 in
theorem e_304_129 (o0 : Option Value) (o1 : Option Value) (o2 : Option Value) (x3 : Int32) (o4 : Option Value) (σ : SH) : exec PP 4 304 129 [o0, o1, o2, some (.int x3), o4] [] σ =
  if x3 = 0 ∨ x3 = 1 then some (.inl (some (.int x3)), σ) else none := (exec_eq PP 4 304 129 _ _ σ).trans rfl
set_option maxRecDepth 20000 in
theorem e_304_121 (a0 : Nat) (x1 : Int32) (x2 : Int32) (o3 : Option Value) (x4 : Int32) (σ : SH) : exec PP 4 304 121 [some (.ref a0), some (.int x1), some (.int x2), o3, some (.int x4)] [] σ =
  exec PP 4 304 70 [some (.ref a0), some (.int x1), some (.int x2), some (.int 0), some (.int (x4 + 2))] [] σ := (exec_eq PP 4 304 121 _ _ σ).trans rfl
set_option maxRecDepth 20000 in
theorem e_304_113 (a0 : Nat) (x1 : Int32) (x2 : Int32) (o3 : Option Value) (x4 : Int32) (w0 : Int32) (σ : SH) : exec PP 4 304 113 [some (.ref a0), some (.int x1), some (.int x2), o3, some (.int x4)] [.int w0] σ =
  if (w0 = 0 : Prop) then (exec PP 4 304 122 [some (.ref a0), some (.int x1), some (.int x2), none, some (.int x4)] [.int 1] σ)
  else (exec PP 4 304 121 [some (.ref a0), some (.int x1), some (.int x2), none, some (.int x4)] [] σ) := (exec_eq PP 4 304 113 _ _ σ).trans rfl
set_option maxRecDepth 20000 in
theorem e_304_114 (a0 : Nat) (x1 : Int32) (x2 : Int32) (o3 : Option Value) (x4 : Int32) (w0 : Int32) (w1 : Int32) (σ : SH) : exec PP 4 304 114 [some (.ref a0), some (.int x1), some (.int x2), o3, some (.int x4)] [.int w0, .int w1] σ =
  if (w1 = w0 : Prop) then (exec PP 4 304 122 [some (.ref a0), some (.int x1), some (.int x2), none, some (.int x4)] [.int 1] σ)
  else (exec PP 4 304 121 [some (.ref a0), some (.int x1), some (.int x2), none, some (.int x4)] [] σ) := (exec_eq PP 4 304 114 _ _ σ).trans rfl
set_option maxRecDepth 20000 in
theorem e_304_122 (a0 : Nat) (x1 : Int32) (x2 : Int32) (o3 : Option Value) (x4 : Int32) (w0 : Int32) (σ : SH) : exec PP 4 304 122 [some (.ref a0), some (.int x1), some (.int x2), o3, some (.int x4)] [.int w0] σ =
  exec PP 4 304 70 [some (.ref a0), some (.int x1), some (.int x2), some (.int w0), some (.int (x4 + 2))] [] σ := (exec_eq PP 4 304 122 _ _ σ).trans rfl

/-! 305: ArchEndsModel.isWetBy(III)Z -/
set_option maxRecDepth 20000 in
theorem r_305 (a0 : Nat) (x1 : Int32) (x2 : Int32) (x3 : Int32) (σ : SH) : rn 305 [.ref a0, .int x1, .int x2, .int x3] σ =
  exec PP 3 305 6 [some (.ref a0), some (.int x1), some (.int x2), some (.int x3), some (.int 0), some (.int 0)] [] σ := (exec_eq PP 3 305 0 _ _ σ).trans rfl
set_option maxRecDepth 20000 in
theorem e_305_6 (a0 : Nat) (x1 : Int32) (x2 : Int32) (x3 : Int32) (x4 : Int32) (x5 : Int32) (σ : SH) : exec PP 3 305 6 [some (.ref a0), some (.int x1), some (.int x2), some (.int x3), some (.int x4), some (.int x5)] [] σ =
  if sT σ a0 = 112 then (onI (rn 195 [.ref a0] σ) (fun x23 σ21 =>
  if (x5 < x23 : Prop) then (if (x4 = 0 : Prop) then (onI (rn 292 [.int x1, .int x5] σ21) (fun x26 σ24 =>
        if (x26 = 0 : Prop) then (exec PP 3 305 44 [some (.ref a0), some (.int x1), some (.int x2), some (.int x3), some (.int x4), some (.int x5)] [] σ24)
          else (if sT σ24 a0 = 112 then (onI (rn 234 [.ref a0, .int x5, .int x2, .int x3] σ24) (fun x29 σ27 =>
            if (x29 = 0 : Prop) then (exec PP 3 305 44 [some (.ref a0), some (.int x1), some (.int x2), some (.int x3), some (.int x4), some (.int x5)] [] σ27)
              else (exec PP 3 305 45 [some (.ref a0), some (.int x1), some (.int x2), some (.int x3), none, some (.int x5)] [.int 1] σ27)) (fun e28 σ27x => some (.inr e28, σ27x))) else none)) (fun e25 σ24x => some (.inr e25, σ24x)))
      else (exec PP 3 305 40 [some (.ref a0), some (.int x1), some (.int x2), some (.int x3), some (.int x4), some (.int x5)] [] σ21))
    else (exec PP 3 305 53 [some (.ref a0), some (.int x1), some (.int x2), some (.int x3), some (.int x4), some (.int x5)] [] σ21)) (fun e22 σ21x => some (.inr e22, σ21x))) else none := (exec_eq PP 3 305 6 _ _ σ).trans rfl
set_option maxRecDepth 20000 in
theorem e_305_53 (o0 : Option Value) (o1 : Option Value) (o2 : Option Value) (o3 : Option Value) (x4 : Int32) (o5 : Option Value) (σ : SH) : exec PP 3 305 53 [o0, o1, o2, o3, some (.int x4), o5] [] σ =
  if x4 = 0 ∨ x4 = 1 then some (.inl (some (.int x4)), σ) else none := (exec_eq PP 3 305 53 _ _ σ).trans rfl
set_option maxRecDepth 20000 in
theorem e_305_40 (a0 : Nat) (x1 : Int32) (x2 : Int32) (x3 : Int32) (o4 : Option Value) (x5 : Int32) (σ : SH) : exec PP 3 305 40 [some (.ref a0), some (.int x1), some (.int x2), some (.int x3), o4, some (.int x5)] [] σ =
  exec PP 3 305 45 [some (.ref a0), some (.int x1), some (.int x2), some (.int x3), none, some (.int x5)] [.int 1] σ := (exec_eq PP 3 305 40 _ _ σ).trans rfl
set_option maxRecDepth 20000 in
theorem e_305_44 (a0 : Nat) (x1 : Int32) (x2 : Int32) (x3 : Int32) (o4 : Option Value) (x5 : Int32) (σ : SH) : exec PP 3 305 44 [some (.ref a0), some (.int x1), some (.int x2), some (.int x3), o4, some (.int x5)] [] σ =
  exec PP 3 305 6 [some (.ref a0), some (.int x1), some (.int x2), some (.int x3), some (.int 0), some (.int (x5 + 1))] [] σ := (exec_eq PP 3 305 44 _ _ σ).trans rfl
set_option maxRecDepth 20000 in
theorem e_305_45 (a0 : Nat) (x1 : Int32) (x2 : Int32) (x3 : Int32) (o4 : Option Value) (x5 : Int32) (w0 : Int32) (σ : SH) : exec PP 3 305 45 [some (.ref a0), some (.int x1), some (.int x2), some (.int x3), o4, some (.int x5)] [.int w0] σ =
  exec PP 3 305 6 [some (.ref a0), some (.int x1), some (.int x2), some (.int x3), some (.int w0), some (.int (x5 + 1))] [] σ := (exec_eq PP 3 305 45 _ _ σ).trans rfl

/-! 306: ArchEndsModel.ask(I)I -/
set_option maxRecDepth 20000 in
theorem r_306 (a0 : Nat) (x1 : Int32) (σ : SH) : rn 306 [.ref a0, .int x1] σ =
  if sT σ a0 = 112 then (onV (rn 187 [.ref a0] σ) (fun σ21 =>
  if sT σ21 a0 = 112 then (onI (rn 303 [.ref a0] σ21) (fun x25 σ23 =>
    if (x25 = 0 : Prop) then (exec PP 5 306 19 [some (.ref a0), some (.int x1), none, none, none, none, none, none] [.ref a0] σ23)
      else (onI (rn 223 [.int x1] σ23) (fun x28 σ26 =>
        if (x28 = 0 : Prop) then (exec PP 5 306 23 [some (.ref a0), some (.int x1), none, none, none, none, none, none] [.ref a0] σ26)
          else (exec PP 5 306 24 [some (.ref a0), some (.int x1), none, none, none, none, none, none] [.int 1, .ref a0] σ26)) (fun e27 σ26x => some (.inr e27, σ26x)))) (fun e24 σ23x => some (.inr e24, σ23x))) else none) (fun e22 σ21x => some (.inr e22, σ21x))) else none := (exec_eq PP 5 306 0 _ _ σ).trans rfl
set_option maxRecDepth 20000 in
theorem e_306_19 (a0 : Nat) (x1 : Int32) (o2 : Option Value) (o3 : Option Value) (o4 : Option Value) (o5 : Option Value) (o6 : Option Value) (o7 : Option Value) (b0 : Nat) (σ : SH) : exec PP 5 306 19 [some (.ref a0), some (.int x1), o2, o3, o4, o5, o6, o7] [.ref b0] σ =
  exec PP 5 306 24 [some (.ref a0), some (.int x1), none, none, none, none, none, none] [.int 1, .ref b0] σ := (exec_eq PP 5 306 19 _ _ σ).trans rfl
set_option maxRecDepth 20000 in
theorem e_306_23 (a0 : Nat) (x1 : Int32) (o2 : Option Value) (o3 : Option Value) (o4 : Option Value) (o5 : Option Value) (o6 : Option Value) (o7 : Option Value) (b0 : Nat) (σ : SH) : exec PP 5 306 23 [some (.ref a0), some (.int x1), o2, o3, o4, o5, o6, o7] [.ref b0] σ =
  if sT σ b0 = 112 then (onI (rn 216 [.ref b0, .int 0, .int 1] σ) (fun x23 σ21 =>
  if (x23 = 0 : Prop) then (exec PP 5 306 33 [some (.ref a0), some (.int x1), none, none, none, none, none, none] [] σ21)
    else (some (.inl (some (.int 0)), σ21))) (fun e22 σ21x => some (.inr e22, σ21x))) else none := (exec_eq PP 5 306 23 _ _ σ).trans rfl
set_option maxRecDepth 20000 in
theorem e_306_24 (a0 : Nat) (x1 : Int32) (o2 : Option Value) (o3 : Option Value) (o4 : Option Value) (o5 : Option Value) (o6 : Option Value) (o7 : Option Value) (w0 : Int32) (b1 : Nat) (σ : SH) : exec PP 5 306 24 [some (.ref a0), some (.int x1), o2, o3, o4, o5, o6, o7] [.int w0, .ref b1] σ =
  if sT σ b1 = 112 then (onI (rn 216 [.ref b1, .int w0, .int 1] σ) (fun x23 σ21 =>
  if (x23 = 0 : Prop) then (exec PP 5 306 33 [some (.ref a0), some (.int x1), none, none, none, none, none, none] [] σ21)
    else (some (.inl (some (.int 0)), σ21))) (fun e22 σ21x => some (.inr e22, σ21x))) else none := (exec_eq PP 5 306 24 _ _ σ).trans rfl
set_option maxRecDepth 20000 in
theorem e_306_33 (a0 : Nat) (x1 : Int32) (o2 : Option Value) (o3 : Option Value) (o4 : Option Value) (o5 : Option Value) (o6 : Option Value) (o7 : Option Value) (σ : SH) : exec PP 5 306 33 [some (.ref a0), some (.int x1), o2, o3, o4, o5, o6, o7] [] σ =
  exec PP 5 306 42 [some (.ref a0), some (.int x1), some (.int (-1)), some (.int 100000000), some (.int 0), none, none, none] [] σ := (exec_eq PP 5 306 33 _ _ σ).trans rfl
set_option maxRecDepth 20000 in
theorem e_306_42 (a0 : Nat) (x1 : Int32) (x2 : Int32) (x3 : Int32) (x4 : Int32) (o5 : Option Value) (o6 : Option Value) (o7 : Option Value) (σ : SH) : exec PP 5 306 42 [some (.ref a0), some (.int x1), some (.int x2), some (.int x3), some (.int x4), o5, o6, o7] [] σ =
  if (x4 < 16 : Prop) then (exec PP 5 306 58 [some (.ref a0), some (.int x1), some (.int x2), some (.int x3), some (.int x4), some (.int 0), some (.int 0), some (.int 0)] [] σ)
  else (exec PP 5 306 152 [some (.ref a0), some (.int x1), some (.int x2), some (.int x3), some (.int x4), none, none, none] [] σ) := (exec_eq PP 5 306 42 _ _ σ).trans rfl
set_option maxRecDepth 20000 in
theorem e_306_152 (o0 : Option Value) (o1 : Option Value) (x2 : Int32) (o3 : Option Value) (o4 : Option Value) (o5 : Option Value) (o6 : Option Value) (o7 : Option Value) (σ : SH) : exec PP 5 306 152 [o0, o1, some (.int x2), o3, o4, o5, o6, o7] [] σ =
  some (.inl (some (.int x2)), σ) := (exec_eq PP 5 306 152 _ _ σ).trans rfl
set_option maxRecDepth 20000 in
theorem e_306_58 (a0 : Nat) (x1 : Int32) (x2 : Int32) (x3 : Int32) (x4 : Int32) (x5 : Int32) (x6 : Int32) (x7 : Int32) (σ : SH) : exec PP 5 306 58 [some (.ref a0), some (.int x1), some (.int x2), some (.int x3), some (.int x4), some (.int x5), some (.int x6), some (.int x7)] [] σ =
  if sT σ a0 = 112 then (onI (rn 195 [.ref a0] σ) (fun x23 σ21 =>
  if (x7 < (shl 1 x23) : Prop) then (if sT σ21 a0 = 112 then (onI (rn 304 [.ref a0, .int x7, .int x1] σ21) (fun x26 σ24 =>
      if (x26 = 0 : Prop) then (exec PP 5 306 107 [some (.ref a0), some (.int x1), some (.int x2), some (.int x3), some (.int x4), some (.int x5), some (.int x6), some (.int x7)] [] σ24)
        else (exec PP 5 306 82 [some (.ref a0), some (.int x1), some (.int x2), some (.int x3), some (.int x4), some (.int x5), some (.int x6), some (.int x7)] [] σ24)) (fun e25 σ24x => some (.inr e25, σ24x))) else none)
    else (exec PP 5 306 113 [some (.ref a0), some (.int x1), some (.int x2), some (.int x3), some (.int x4), some (.int x5), some (.int x6), some (.int x7)] [] σ21)) (fun e22 σ21x => some (.inr e22, σ21x))) else none := (exec_eq PP 5 306 58 _ _ σ).trans rfl
set_option maxRecDepth 20000 in
theorem e_306_113 (a0 : Nat) (x1 : Int32) (x2 : Int32) (x3 : Int32) (x4 : Int32) (x5 : Int32) (x6 : Int32) (o7 : Option Value) (σ : SH) : exec PP 5 306 113 [some (.ref a0), some (.int x1), some (.int x2), some (.int x3), some (.int x4), some (.int x5), some (.int x6), o7] [] σ =
  onI (rn 327 [.int x6, .int (x5 - x6)] σ) (fun x23 σ21 =>
  if (x5 < 2 : Prop) then (exec PP 5 306 146 [some (.ref a0), some (.int x1), some (.int x2), some (.int x3), some (.int x4), some (.int x5), some (.int x6), some (.int x23)] [] σ21)
    else (if (x23 < x3 : Prop) then (exec PP 5 306 140 [some (.ref a0), some (.int x1), some (.int x2), some (.int x3), some (.int x4), some (.int x5), some (.int x6), some (.int x23)] [] σ21)
      else (exec PP 5 306 146 [some (.ref a0), some (.int x1), some (.int x2), some (.int x3), some (.int x4), some (.int x5), some (.int x6), some (.int x23)] [] σ21))) (fun e22 σ21x => some (.inr e22, σ21x)) := (exec_eq PP 5 306 113 _ _ σ).trans rfl
set_option maxRecDepth 20000 in
theorem e_306_82 (a0 : Nat) (x1 : Int32) (x2 : Int32) (x3 : Int32) (x4 : Int32) (x5 : Int32) (x6 : Int32) (x7 : Int32) (σ : SH) : exec PP 5 306 82 [some (.ref a0), some (.int x1), some (.int x2), some (.int x3), some (.int x4), some (.int x5), some (.int x6), some (.int x7)] [] σ =
  if sT σ a0 = 112 then (onI (rn 305 [.ref a0, .int x7, .int x4, .int x1] σ) (fun x23 σ21 =>
  if (x23 = 0 : Prop) then (exec PP 5 306 103 [some (.ref a0), some (.int x1), some (.int x2), some (.int x3), some (.int x4), some (.int (x5 + 1)), some (.int x6), some (.int x7)] [.int x6] σ21)
    else (exec PP 5 306 104 [some (.ref a0), some (.int x1), some (.int x2), some (.int x3), some (.int x4), some (.int (x5 + 1)), some (.int x6), some (.int x7)] [.int 1, .int x6] σ21)) (fun e22 σ21x => some (.inr e22, σ21x))) else none := (exec_eq PP 5 306 82 _ _ σ).trans rfl
set_option maxRecDepth 20000 in
theorem e_306_107 (a0 : Nat) (x1 : Int32) (x2 : Int32) (x3 : Int32) (x4 : Int32) (x5 : Int32) (x6 : Int32) (x7 : Int32) (σ : SH) : exec PP 5 306 107 [some (.ref a0), some (.int x1), some (.int x2), some (.int x3), some (.int x4), some (.int x5), some (.int x6), some (.int x7)] [] σ =
  exec PP 5 306 58 [some (.ref a0), some (.int x1), some (.int x2), some (.int x3), some (.int x4), some (.int x5), some (.int x6), some (.int (x7 + 1))] [] σ := (exec_eq PP 5 306 107 _ _ σ).trans rfl
set_option maxRecDepth 20000 in
theorem e_306_146 (a0 : Nat) (x1 : Int32) (x2 : Int32) (x3 : Int32) (x4 : Int32) (o5 : Option Value) (o6 : Option Value) (o7 : Option Value) (σ : SH) : exec PP 5 306 146 [some (.ref a0), some (.int x1), some (.int x2), some (.int x3), some (.int x4), o5, o6, o7] [] σ =
  exec PP 5 306 42 [some (.ref a0), some (.int x1), some (.int x2), some (.int x3), some (.int (x4 + 1)), none, none, none] [] σ := (exec_eq PP 5 306 146 _ _ σ).trans rfl
set_option maxRecDepth 20000 in
theorem e_306_140 (a0 : Nat) (x1 : Int32) (o2 : Option Value) (o3 : Option Value) (x4 : Int32) (o5 : Option Value) (o6 : Option Value) (x7 : Int32) (σ : SH) : exec PP 5 306 140 [some (.ref a0), some (.int x1), o2, o3, some (.int x4), o5, o6, some (.int x7)] [] σ =
  exec PP 5 306 42 [some (.ref a0), some (.int x1), some (.int x4), some (.int x7), some (.int (x4 + 1)), none, none, none] [] σ := (exec_eq PP 5 306 140 _ _ σ).trans rfl
set_option maxRecDepth 20000 in
theorem e_306_103 (a0 : Nat) (x1 : Int32) (x2 : Int32) (x3 : Int32) (x4 : Int32) (x5 : Int32) (o6 : Option Value) (x7 : Int32) (w0 : Int32) (σ : SH) : exec PP 5 306 103 [some (.ref a0), some (.int x1), some (.int x2), some (.int x3), some (.int x4), some (.int x5), o6, some (.int x7)] [.int w0] σ =
  exec PP 5 306 58 [some (.ref a0), some (.int x1), some (.int x2), some (.int x3), some (.int x4), some (.int x5), some (.int (w0 + 0)), some (.int (x7 + 1))] [] σ := (exec_eq PP 5 306 103 _ _ σ).trans rfl
set_option maxRecDepth 20000 in
theorem e_306_104 (a0 : Nat) (x1 : Int32) (x2 : Int32) (x3 : Int32) (x4 : Int32) (x5 : Int32) (o6 : Option Value) (x7 : Int32) (w0 : Int32) (w1 : Int32) (σ : SH) : exec PP 5 306 104 [some (.ref a0), some (.int x1), some (.int x2), some (.int x3), some (.int x4), some (.int x5), o6, some (.int x7)] [.int w0, .int w1] σ =
  exec PP 5 306 58 [some (.ref a0), some (.int x1), some (.int x2), some (.int x3), some (.int x4), some (.int x5), some (.int (w1 + w0)), some (.int (x7 + 1))] [] σ := (exec_eq PP 5 306 104 _ _ σ).trans rfl

/-! 307: ArchEndsModel.rich()I -/
set_option maxRecDepth 20000 in
theorem r_307 (a0 : Nat) (σ : SH) : rn 307 [.ref a0] σ =
  pI σ 112 0 (.ref a0) 0 fun σ21 =>
  exec PP 4 307 9 [some (.ref a0), some (.int (-1)), some (.int 0)] [] σ21 := (exec_eq PP 4 307 0 _ _ σ).trans rfl
set_option maxRecDepth 20000 in
theorem e_307_9 (a0 : Nat) (x1 : Int32) (x2 : Int32) (σ : SH) : exec PP 4 307 9 [some (.ref a0), some (.int x1), some (.int x2)] [] σ =
  if sT σ a0 = 112 then (onI (rn 201 [.ref a0] σ) (fun x23 σ21 =>
  if (x2 < x23 : Prop) then (if (x1 < 0 : Prop) then (exec PP 4 307 34 [some (.ref a0), some (.int x1), some (.int x2)] [] σ21)
      else (if sT σ21 a0 = 112 then (onI (rn 260 [.ref a0, .int x2] σ21) (fun x26 σ24 =>
        if sT σ24 a0 = 112 then (onI (rn 260 [.ref a0, .int x1] σ24) (fun x29 σ27 =>
          if (x29 < x26 : Prop) then (exec PP 4 307 9 [some (.ref a0), some (.int x2), some (.int (x2 + 1))] [] σ27)
            else (exec PP 4 307 36 [some (.ref a0), some (.int x1), some (.int x2)] [] σ27)) (fun e28 σ27x => some (.inr e28, σ27x))) else none) (fun e25 σ24x => some (.inr e25, σ24x))) else none))
    else (exec PP 4 307 42 [some (.ref a0), some (.int x1), some (.int x2)] [] σ21)) (fun e22 σ21x => some (.inr e22, σ21x))) else none := (exec_eq PP 4 307 9 _ _ σ).trans rfl
set_option maxRecDepth 20000 in
theorem e_307_42 (o0 : Option Value) (x1 : Int32) (o2 : Option Value) (σ : SH) : exec PP 4 307 42 [o0, some (.int x1), o2] [] σ =
  some (.inl (some (.int x1)), σ) := (exec_eq PP 4 307 42 _ _ σ).trans rfl
set_option maxRecDepth 20000 in
theorem e_307_34 (a0 : Nat) (o1 : Option Value) (x2 : Int32) (σ : SH) : exec PP 4 307 34 [some (.ref a0), o1, some (.int x2)] [] σ =
  exec PP 4 307 9 [some (.ref a0), some (.int x2), some (.int (x2 + 1))] [] σ := (exec_eq PP 4 307 34 _ _ σ).trans rfl
set_option maxRecDepth 20000 in
theorem e_307_36 (a0 : Nat) (x1 : Int32) (x2 : Int32) (σ : SH) : exec PP 4 307 36 [some (.ref a0), some (.int x1), some (.int x2)] [] σ =
  exec PP 4 307 9 [some (.ref a0), some (.int x1), some (.int (x2 + 1))] [] σ := (exec_eq PP 4 307 36 _ _ σ).trans rfl

/-! 308: ArchEndsModel.clash()I -/
set_option maxRecDepth 20000 in
theorem r_308 (a0 : Nat) (σ : SH) : rn 308 [.ref a0] σ =
  pI σ 112 0 (.ref a0) 0 fun σ21 =>
  exec PP 3 308 9 [some (.ref a0), some (.int 0), some (.int 0), none] [] σ21 := (exec_eq PP 3 308 0 _ _ σ).trans rfl
set_option maxRecDepth 20000 in
theorem e_308_9 (a0 : Nat) (x1 : Int32) (x2 : Int32) (o3 : Option Value) (σ : SH) : exec PP 3 308 9 [some (.ref a0), some (.int x1), some (.int x2), o3] [] σ =
  if sT σ a0 = 112 then (onI (rn 204 [.ref a0] σ) (fun x23 σ21 =>
  if (x2 < x23 : Prop) then (exec PP 3 308 19 [some (.ref a0), some (.int x1), some (.int x2), some (.int 0)] [] σ21)
    else (exec PP 3 308 89 [some (.ref a0), some (.int x1), some (.int x2), none] [] σ21)) (fun e22 σ21x => some (.inr e22, σ21x))) else none := (exec_eq PP 3 308 9 _ _ σ).trans rfl
set_option maxRecDepth 20000 in
theorem e_308_89 (o0 : Option Value) (x1 : Int32) (o2 : Option Value) (o3 : Option Value) (σ : SH) : exec PP 3 308 89 [o0, some (.int x1), o2, o3] [] σ =
  some (.inl (some (.int x1)), σ) := (exec_eq PP 3 308 89 _ _ σ).trans rfl
set_option maxRecDepth 20000 in
theorem e_308_19 (a0 : Nat) (x1 : Int32) (x2 : Int32) (x3 : Int32) (σ : SH) : exec PP 3 308 19 [some (.ref a0), some (.int x1), some (.int x2), some (.int x3)] [] σ =
  if (x3 < x2 : Prop) then (if sT σ a0 = 112 then (onI (rn 257 [.ref a0, .int x2, .int 0] σ) (fun x23 σ21 =>
    if sT σ21 a0 = 112 then (onI (rn 257 [.ref a0, .int x3, .int 0] σ21) (fun x26 σ24 =>
      if (x23 = x26 : Prop) then (if sT σ24 a0 = 112 then (onI (rn 257 [.ref a0, .int x2, .int 1] σ24) (fun x29 σ27 =>
          if sT σ27 a0 = 112 then (onI (rn 257 [.ref a0, .int x3, .int 2] σ27) (fun x32 σ30 =>
            if (x32 < x29 : Prop) then (exec PP 3 308 74 [some (.ref a0), some (.int x1), some (.int x2), some (.int x3)] [.int x1] σ30)
              else (if sT σ30 a0 = 112 then (onI (rn 257 [.ref a0, .int x3, .int 1] σ30) (fun x35 σ33 =>
                if sT σ33 a0 = 112 then (onI (rn 257 [.ref a0, .int x2, .int 2] σ33) (fun x38 σ36 =>
                  if (x38 < x35 : Prop) then (exec PP 3 308 74 [some (.ref a0), some (.int x1), some (.int x2), some (.int x3)] [.int x1] σ36)
                    else (exec PP 3 308 75 [some (.ref a0), some (.int x1), some (.int x2), some (.int x3)] [.int 1, .int x1] σ36)) (fun e37 σ36x => some (.inr e37, σ36x))) else none) (fun e34 σ33x => some (.inr e34, σ33x))) else none)) (fun e31 σ30x => some (.inr e31, σ30x))) else none) (fun e28 σ27x => some (.inr e28, σ27x))) else none)
        else (exec PP 3 308 74 [some (.ref a0), some (.int x1), some (.int x2), some (.int x3)] [.int x1] σ24)) (fun e25 σ24x => some (.inr e25, σ24x))) else none) (fun e22 σ21x => some (.inr e22, σ21x))) else none)
  else (exec PP 3 308 83 [some (.ref a0), some (.int x1), some (.int x2), some (.int x3)] [] σ) := (exec_eq PP 3 308 19 _ _ σ).trans rfl
set_option maxRecDepth 20000 in
theorem e_308_83 (a0 : Nat) (x1 : Int32) (x2 : Int32) (o3 : Option Value) (σ : SH) : exec PP 3 308 83 [some (.ref a0), some (.int x1), some (.int x2), o3] [] σ =
  exec PP 3 308 9 [some (.ref a0), some (.int x1), some (.int (x2 + 1)), none] [] σ := (exec_eq PP 3 308 83 _ _ σ).trans rfl
set_option maxRecDepth 20000 in
theorem e_308_74 (a0 : Nat) (o1 : Option Value) (x2 : Int32) (x3 : Int32) (w0 : Int32) (σ : SH) : exec PP 3 308 74 [some (.ref a0), o1, some (.int x2), some (.int x3)] [.int w0] σ =
  exec PP 3 308 19 [some (.ref a0), some (.int (w0 + 0)), some (.int x2), some (.int (x3 + 1))] [] σ := (exec_eq PP 3 308 74 _ _ σ).trans rfl
set_option maxRecDepth 20000 in
theorem e_308_75 (a0 : Nat) (o1 : Option Value) (x2 : Int32) (x3 : Int32) (w0 : Int32) (w1 : Int32) (σ : SH) : exec PP 3 308 75 [some (.ref a0), o1, some (.int x2), some (.int x3)] [.int w0, .int w1] σ =
  exec PP 3 308 19 [some (.ref a0), some (.int (w1 + w0)), some (.int x2), some (.int (x3 + 1))] [] σ := (exec_eq PP 3 308 75 _ _ σ).trans rfl

/-! 309: ArchEndsModel.trial(IZ)I -/
set_option maxRecDepth 20000 in
theorem r_309 (a0 : Nat) (x1 : Int32) (x2 : Int32) (σ : SH) : rn 309 [.ref a0, .int x1, .int x2] σ =
  pI σ 112 0 (.ref a0) 0 fun σ21 =>
  onI (rn 220 [.int x1, .int 0, .int 100] σ21) (fun x24 σ22 =>
  if (x24 = 0 : Prop) then (exec PP 12 309 21 [some (.ref a0), some (.int x1), some (.int x2), none, none] [.int 1, .ref a0] σ22)
    else (exec PP 12 309 20 [some (.ref a0), some (.int x1), some (.int x2), none, none] [.ref a0] σ22)) (fun e23 σ22x => some (.inr e23, σ22x)) := (exec_eq PP 12 309 0 _ _ σ).trans rfl
set_option maxRecDepth 20000 in
theorem e_309_20 (a0 : Nat) (x1 : Int32) (x2 : Int32) (o3 : Option Value) (o4 : Option Value) (b0 : Nat) (σ : SH) : exec PP 12 309 20 [some (.ref a0), some (.int x1), some (.int x2), o3, o4] [.ref b0] σ =
  if sT σ b0 = 112 then (onI (rn 216 [.ref b0, .int 0, .int 1] σ) (fun x23 σ21 =>
  if (x23 = 0 : Prop) then (exec PP 12 309 30 [some (.ref a0), some (.int x1), some (.int x2), none, none] [] σ21)
    else (some (.inl (some (.int 0)), σ21))) (fun e22 σ21x => some (.inr e22, σ21x))) else none := (exec_eq PP 12 309 20 _ _ σ).trans rfl
set_option maxRecDepth 20000 in
theorem e_309_21 (a0 : Nat) (x1 : Int32) (x2 : Int32) (o3 : Option Value) (o4 : Option Value) (w0 : Int32) (b1 : Nat) (σ : SH) : exec PP 12 309 21 [some (.ref a0), some (.int x1), some (.int x2), o3, o4] [.int w0, .ref b1] σ =
  if sT σ b1 = 112 then (onI (rn 216 [.ref b1, .int w0, .int 1] σ) (fun x23 σ21 =>
  if (x23 = 0 : Prop) then (exec PP 12 309 30 [some (.ref a0), some (.int x1), some (.int x2), none, none] [] σ21)
    else (some (.inl (some (.int 0)), σ21))) (fun e22 σ21x => some (.inr e22, σ21x))) else none := (exec_eq PP 12 309 21 _ _ σ).trans rfl
set_option maxRecDepth 20000 in
theorem e_309_30 (a0 : Nat) (x1 : Int32) (x2 : Int32) (o3 : Option Value) (o4 : Option Value) (σ : SH) : exec PP 12 309 30 [some (.ref a0), some (.int x1), some (.int x2), o3, o4] [] σ =
  if sT σ a0 = 112 then (onV (rn 282 [.ref a0] σ) (fun σ21 =>
  if sT σ21 a0 = 112 then (onI (rn 276 [.ref a0, .int x1, .int 0] σ21) (fun x25 σ23 =>
    if (x2 = 0 : Prop) then (exec PP 12 309 52 [some (.ref a0), some (.int x1), some (.int x2), some (.int x25), none] [] σ23)
      else (if sT σ23 a0 = 112 then (onI (rn 310 [.ref a0] σ23) (fun x28 σ26 =>
        exec PP 12 309 53 [some (.ref a0), some (.int x1), some (.int x2), some (.int x25), none] [.int x28] σ26) (fun e27 σ26x => some (.inr e27, σ26x))) else none)) (fun e24 σ23x => some (.inr e24, σ23x))) else none) (fun e22 σ21x => some (.inr e22, σ21x))) else none := (exec_eq PP 12 309 30 _ _ σ).trans rfl
set_option maxRecDepth 20000 in
theorem e_309_52 (a0 : Nat) (o1 : Option Value) (o2 : Option Value) (x3 : Int32) (o4 : Option Value) (σ : SH) : exec PP 12 309 52 [some (.ref a0), o1, o2, some (.int x3), o4] [] σ =
  if sT σ a0 = 112 then (onV (rn 283 [.ref a0] σ) (fun σ21 =>
  some (.inl (some (.int x3)), σ21)) (fun e22 σ21x => some (.inr e22, σ21x))) else none := (exec_eq PP 12 309 52 _ _ σ).trans rfl
set_option maxRecDepth 20000 in
theorem e_309_53 (a0 : Nat) (o1 : Option Value) (o2 : Option Value) (o3 : Option Value) (o4 : Option Value) (w0 : Int32) (σ : SH) : exec PP 12 309 53 [some (.ref a0), o1, o2, o3, o4] [.int w0] σ =
  if sT σ a0 = 112 then (onV (rn 283 [.ref a0] σ) (fun σ21 =>
  some (.inl (some (.int w0)), σ21)) (fun e22 σ21x => some (.inr e22, σ21x))) else none := (exec_eq PP 12 309 53 _ _ σ).trans rfl

/-! 310: ArchEndsModel.pursesOfAll()I -/
set_option maxRecDepth 20000 in
theorem r_310 (a0 : Nat) (σ : SH) : rn 310 [.ref a0] σ =
  exec PP 3 310 4 [some (.ref a0), some (.int 0), some (.int 0)] [] σ := (exec_eq PP 3 310 0 _ _ σ).trans rfl
set_option maxRecDepth 20000 in
theorem e_310_4 (a0 : Nat) (x1 : Int32) (x2 : Int32) (σ : SH) : exec PP 3 310 4 [some (.ref a0), some (.int x1), some (.int x2)] [] σ =
  if sT σ a0 = 112 then (onI (rn 201 [.ref a0] σ) (fun x23 σ21 =>
  if (x2 < x23 : Prop) then (if sT σ21 a0 = 112 then (onI (rn 251 [.ref a0, .int x2, .int 0] σ21) (fun x26 σ24 =>
      exec PP 3 310 4 [some (.ref a0), some (.int (x1 + x26)), some (.int (x2 + 1))] [] σ24) (fun e25 σ24x => some (.inr e25, σ24x))) else none)
    else (exec PP 3 310 27 [some (.ref a0), some (.int x1), some (.int x2)] [] σ21)) (fun e22 σ21x => some (.inr e22, σ21x))) else none := (exec_eq PP 3 310 4 _ _ σ).trans rfl
set_option maxRecDepth 20000 in
theorem e_310_27 (o0 : Option Value) (x1 : Int32) (o2 : Option Value) (σ : SH) : exec PP 3 310 27 [o0, some (.int x1), o2] [] σ =
  some (.inl (some (.int x1)), σ) := (exec_eq PP 3 310 27 _ _ σ).trans rfl

/-! 311: ArchEndsModel.span(IZ)I -/
set_option maxRecDepth 20000 in
theorem r_311 (a0 : Nat) (x1 : Int32) (x2 : Int32) (σ : SH) : rn 311 [.ref a0, .int x1, .int x2] σ =
  pI σ 112 0 (.ref a0) 0 fun σ21 =>
  onI (rn 220 [.int x1, .int 0, .int 100] σ21) (fun x24 σ22 =>
  if (x24 = 0 : Prop) then (exec PP 12 311 21 [some (.ref a0), some (.int x1), some (.int x2), none, none, none] [.int 1, .ref a0] σ22)
    else (exec PP 12 311 20 [some (.ref a0), some (.int x1), some (.int x2), none, none, none] [.ref a0] σ22)) (fun e23 σ22x => some (.inr e23, σ22x)) := (exec_eq PP 12 311 0 _ _ σ).trans rfl
set_option maxRecDepth 20000 in
theorem e_311_20 (a0 : Nat) (x1 : Int32) (x2 : Int32) (o3 : Option Value) (o4 : Option Value) (o5 : Option Value) (b0 : Nat) (σ : SH) : exec PP 12 311 20 [some (.ref a0), some (.int x1), some (.int x2), o3, o4, o5] [.ref b0] σ =
  if sT σ b0 = 112 then (onI (rn 216 [.ref b0, .int 0, .int 1] σ) (fun x23 σ21 =>
  if (x23 = 0 : Prop) then (exec PP 12 311 30 [some (.ref a0), some (.int x1), some (.int x2), none, none, none] [] σ21)
    else (some (.inl (some (.int 0)), σ21))) (fun e22 σ21x => some (.inr e22, σ21x))) else none := (exec_eq PP 12 311 20 _ _ σ).trans rfl
set_option maxRecDepth 20000 in
theorem e_311_21 (a0 : Nat) (x1 : Int32) (x2 : Int32) (o3 : Option Value) (o4 : Option Value) (o5 : Option Value) (w0 : Int32) (b1 : Nat) (σ : SH) : exec PP 12 311 21 [some (.ref a0), some (.int x1), some (.int x2), o3, o4, o5] [.int w0, .ref b1] σ =
  if sT σ b1 = 112 then (onI (rn 216 [.ref b1, .int w0, .int 1] σ) (fun x23 σ21 =>
  if (x23 = 0 : Prop) then (exec PP 12 311 30 [some (.ref a0), some (.int x1), some (.int x2), none, none, none] [] σ21)
    else (some (.inl (some (.int 0)), σ21))) (fun e22 σ21x => some (.inr e22, σ21x))) else none := (exec_eq PP 12 311 21 _ _ σ).trans rfl
set_option maxRecDepth 20000 in
theorem e_311_30 (a0 : Nat) (x1 : Int32) (x2 : Int32) (o3 : Option Value) (o4 : Option Value) (o5 : Option Value) (σ : SH) : exec PP 12 311 30 [some (.ref a0), some (.int x1), some (.int x2), o3, o4, o5] [] σ =
  if sT σ a0 = 112 then (onV (rn 282 [.ref a0] σ) (fun σ21 =>
  exec PP 12 311 39 [some (.ref a0), some (.int x1), some (.int x2), some (.int (-1)), some (.int 1), none] [] σ21) (fun e22 σ21x => some (.inr e22, σ21x))) else none := (exec_eq PP 12 311 30 _ _ σ).trans rfl
set_option maxRecDepth 20000 in
theorem e_311_39 (a0 : Nat) (x1 : Int32) (x2 : Int32) (x3 : Int32) (x4 : Int32) (o5 : Option Value) (σ : SH) : exec PP 12 311 39 [some (.ref a0), some (.int x1), some (.int x2), some (.int x3), some (.int x4), o5] [] σ =
  if (6 < x4 : Prop) then (exec PP 12 311 102 [some (.ref a0), some (.int x1), some (.int x2), some (.int x3), some (.int x4), none] [] σ)
  else (gR σ 112 1 (.ref a0) fun a21 =>
    uI σ (.ref a21) 9 x4 fun σ22 =>
    if sT σ22 a0 = 112 then (onI (rn 276 [.ref a0, .int x1, .int 0] σ22) (fun x25 σ23 =>
    if sT σ23 a0 = 112 then (onV (rn 283 [.ref a0] σ23) (fun σ26 =>
      if (x3 < 0 : Prop) then (exec PP 12 311 95 [some (.ref a0), some (.int x1), some (.int x2), some (.int x3), some (.int x4), some (.int x25)] [.int x25] σ26)
        else (exec PP 12 311 76 [some (.ref a0), some (.int x1), some (.int x2), some (.int x3), some (.int x4), some (.int x25)] [] σ26)) (fun e27 σ26x => some (.inr e27, σ26x))) else none) (fun e24 σ23x => some (.inr e24, σ23x))) else none) := (exec_eq PP 12 311 39 _ _ σ).trans rfl
set_option maxRecDepth 20000 in
theorem e_311_102 (o0 : Option Value) (o1 : Option Value) (o2 : Option Value) (x3 : Int32) (o4 : Option Value) (o5 : Option Value) (σ : SH) : exec PP 12 311 102 [o0, o1, o2, some (.int x3), o4, o5] [] σ =
  some (.inl (some (.int x3)), σ) := (exec_eq PP 12 311 102 _ _ σ).trans rfl
set_option maxRecDepth 20000 in
theorem e_311_76 (a0 : Nat) (x1 : Int32) (x2 : Int32) (x3 : Int32) (x4 : Int32) (x5 : Int32) (σ : SH) : exec PP 12 311 76 [some (.ref a0), some (.int x1), some (.int x2), some (.int x3), some (.int x4), some (.int x5)] [] σ =
  if (x2 = 0 : Prop) then (exec PP 12 311 89 [some (.ref a0), some (.int x1), some (.int x2), some (.int x3), some (.int x4), some (.int x5)] [] σ)
  else (onI (rn 327 [.int x3, .int x5] σ) (fun x23 σ21 =>
    exec PP 12 311 95 [some (.ref a0), some (.int x1), some (.int x2), some (.int x3), some (.int x4), some (.int x5)] [.int x23] σ21) (fun e22 σ21x => some (.inr e22, σ21x))) := (exec_eq PP 12 311 76 _ _ σ).trans rfl
set_option maxRecDepth 20000 in
theorem e_311_95 (a0 : Nat) (x1 : Int32) (x2 : Int32) (o3 : Option Value) (x4 : Int32) (o5 : Option Value) (w0 : Int32) (σ : SH) : exec PP 12 311 95 [some (.ref a0), some (.int x1), some (.int x2), o3, some (.int x4), o5] [.int w0] σ =
  exec PP 12 311 39 [some (.ref a0), some (.int x1), some (.int x2), some (.int w0), some (.int (x4 + 1)), none] [] σ := (exec_eq PP 12 311 95 _ _ σ).trans rfl
set_option maxRecDepth 20000 in
theorem e_311_89 (a0 : Nat) (x1 : Int32) (x2 : Int32) (x3 : Int32) (x4 : Int32) (x5 : Int32) (σ : SH) : exec PP 12 311 89 [some (.ref a0), some (.int x1), some (.int x2), some (.int x3), some (.int x4), some (.int x5)] [] σ =
  onI (rn 328 [.int x3, .int x5] σ) (fun x23 σ21 =>
  exec PP 12 311 39 [some (.ref a0), some (.int x1), some (.int x2), some (.int x23), some (.int (x4 + 1)), none] [] σ21) (fun e22 σ21x => some (.inr e22, σ21x)) := (exec_eq PP 12 311 89 _ _ σ).trans rfl

/-! 312: ArchEndsModel.led(IZ)I -/
set_option maxRecDepth 20000 in
theorem r_312 (a0 : Nat) (x1 : Int32) (x2 : Int32) (σ : SH) : rn 312 [.ref a0, .int x1, .int x2] σ =
  pI σ 112 0 (.ref a0) 0 fun σ21 =>
  onI (rn 229 [.int x1] σ21) (fun x24 σ22 =>
  if sT σ22 a0 = 112 then (onI (rn 216 [.ref a0, .int x24, .int 1] σ22) (fun x27 σ25 =>
    if (x27 = 0 : Prop) then (exec PP 3 312 19 [some (.ref a0), some (.int x1), some (.int x2), none, none, none] [] σ25)
      else (some (.inl (some (.int 0)), σ25))) (fun e26 σ25x => some (.inr e26, σ25x))) else none) (fun e23 σ22x => some (.inr e23, σ22x)) := (exec_eq PP 3 312 0 _ _ σ).trans rfl
set_option maxRecDepth 20000 in
theorem e_312_19 (a0 : Nat) (x1 : Int32) (x2 : Int32) (o3 : Option Value) (o4 : Option Value) (o5 : Option Value) (σ : SH) : exec PP 3 312 19 [some (.ref a0), some (.int x1), some (.int x2), o3, o4, o5] [] σ =
  gR σ 112 1 (.ref a0) fun a21 =>
  aI σ 1 (.ref a21) 8 fun x22 =>
  exec PP 3 312 35 [some (.ref a0), some (.int x1), some (.int x2), some (.int 0), some (.int (-1)), some (.int (x22 - 1))] [] σ := (exec_eq PP 3 312 19 _ _ σ).trans rfl
set_option maxRecDepth 20000 in
theorem e_312_35 (a0 : Nat) (x1 : Int32) (x2 : Int32) (x3 : Int32) (x4 : Int32) (x5 : Int32) (σ : SH) : exec PP 3 312 35 [some (.ref a0), some (.int x1), some (.int x2), some (.int x3), some (.int x4), some (.int x5)] [] σ =
  if (x5 < 0 : Prop) then (exec PP 3 312 72 [some (.ref a0), some (.int x1), some (.int x2), some (.int x3), some (.int x4), some (.int x5)] [] σ)
  else (if sT σ a0 = 112 then (onI (rn 313 [.ref a0, .int x5, .int 2] σ) (fun x23 σ21 =>
    if (x23 = x1 : Prop) then (exec PP 3 312 54 [some (.ref a0), some (.int x1), some (.int x2), some (.int x3), some (.int x4), some (.int x5)] [] σ21)
      else (exec PP 3 312 66 [some (.ref a0), some (.int x1), some (.int x2), some (.int x3), some (.int x4), some (.int x5)] [] σ21)) (fun e22 σ21x => some (.inr e22, σ21x))) else none) := (exec_eq PP 3 312 35 _ _ σ).trans rfl
set_option maxRecDepth 20000 in
theorem e_312_72 (o0 : Option Value) (o1 : Option Value) (x2 : Int32) (x3 : Int32) (x4 : Int32) (o5 : Option Value) (σ : SH) : exec PP 3 312 72 [o0, o1, some (.int x2), some (.int x3), some (.int x4), o5] [] σ =
  if (x2 = 0 : Prop) then (exec PP 3 312 81 [none, none, some (.int x2), some (.int x3), some (.int x4), none] [] σ)
  else (exec PP 3 312 82 [none, none, some (.int x2), some (.int x3), some (.int x4), none] [.int x4] σ) := (exec_eq PP 3 312 72 _ _ σ).trans rfl
set_option maxRecDepth 20000 in
theorem e_312_54 (a0 : Nat) (x1 : Int32) (x2 : Int32) (x3 : Int32) (o4 : Option Value) (x5 : Int32) (σ : SH) : exec PP 3 312 54 [some (.ref a0), some (.int x1), some (.int x2), some (.int x3), o4, some (.int x5)] [] σ =
  if sT σ a0 = 112 then (onI (rn 313 [.ref a0, .int x5, .int 0] σ) (fun x23 σ21 =>
  exec PP 3 312 35 [some (.ref a0), some (.int x1), some (.int x2), some (.int (x3 + 1)), some (.int x23), some (.int (x5 + (-1)))] [] σ21) (fun e22 σ21x => some (.inr e22, σ21x))) else none := (exec_eq PP 3 312 54 _ _ σ).trans rfl
set_option maxRecDepth 20000 in
theorem e_312_66 (a0 : Nat) (x1 : Int32) (x2 : Int32) (x3 : Int32) (x4 : Int32) (x5 : Int32) (σ : SH) : exec PP 3 312 66 [some (.ref a0), some (.int x1), some (.int x2), some (.int x3), some (.int x4), some (.int x5)] [] σ =
  exec PP 3 312 35 [some (.ref a0), some (.int x1), some (.int x2), some (.int x3), some (.int x4), some (.int (x5 + (-1)))] [] σ := (exec_eq PP 3 312 66 _ _ σ).trans rfl
set_option maxRecDepth 20000 in
theorem e_312_81 (o0 : Option Value) (o1 : Option Value) (o2 : Option Value) (x3 : Int32) (o4 : Option Value) (o5 : Option Value) (σ : SH) : exec PP 3 312 81 [o0, o1, o2, some (.int x3), o4, o5] [] σ =
  some (.inl (some (.int x3)), σ) := (exec_eq PP 3 312 81 _ _ σ).trans rfl
set_option maxRecDepth 20000 in
theorem e_312_82 (o0 : Option Value) (o1 : Option Value) (o2 : Option Value) (o3 : Option Value) (o4 : Option Value) (o5 : Option Value) (w0 : Int32) (σ : SH) : exec PP 3 312 82 [o0, o1, o2, o3, o4, o5] [.int w0] σ =
  some (.inl (some (.int w0)), σ) := (exec_eq PP 3 312 82 _ _ σ).trans rfl

/-! 313: ArchEndsModel.ofLog(II)I -/
set_option maxRecDepth 20000 in
theorem r_313 (a0 : Nat) (x1 : Int32) (x2 : Int32) (σ : SH) : rn 313 [.ref a0, .int x1, .int x2] σ =
  gR σ 112 1 (.ref a0) fun a21 =>
  aI σ 1 (.ref a21) ((123 + (4 * x1)) + x2) fun x22 =>
  some (.inl (some (.int x22)), σ) := (exec_eq PP 1 313 0 _ _ σ).trans rfl

/-! 314: ArchEndsModel.log(II)I -/
set_option maxRecDepth 20000 in
theorem r_314 (a0 : Nat) (x1 : Int32) (x2 : Int32) (σ : SH) : rn 314 [.ref a0, .int x1, .int x2] σ =
  pI σ 112 0 (.ref a0) 0 fun σ21 =>
  onI (rn 220 [.int x2, .int 0, .int 3] σ21) (fun x24 σ22 =>
  if (x24 = 0 : Prop) then (exec PP 2 314 20 [some (.ref a0), some (.int x1), some (.int x2)] [.int 1, .ref a0] σ22)
    else (exec PP 2 314 19 [some (.ref a0), some (.int x1), some (.int x2)] [.ref a0] σ22)) (fun e23 σ22x => some (.inr e23, σ22x)) := (exec_eq PP 2 314 0 _ _ σ).trans rfl
set_option maxRecDepth 20000 in
theorem e_314_19 (a0 : Nat) (x1 : Int32) (x2 : Int32) (b0 : Nat) (σ : SH) : exec PP 2 314 19 [some (.ref a0), some (.int x1), some (.int x2)] [.ref b0] σ =
  if sT σ b0 = 112 then (onI (rn 216 [.ref b0, .int 0, .int 1] σ) (fun x23 σ21 =>
  if (x23 = 0 : Prop) then (exec PP 2 314 29 [some (.ref a0), some (.int x1), some (.int x2)] [] σ21)
    else (some (.inl (some (.int 0)), σ21))) (fun e22 σ21x => some (.inr e22, σ21x))) else none := (exec_eq PP 2 314 19 _ _ σ).trans rfl
set_option maxRecDepth 20000 in
theorem e_314_20 (a0 : Nat) (x1 : Int32) (x2 : Int32) (w0 : Int32) (b1 : Nat) (σ : SH) : exec PP 2 314 20 [some (.ref a0), some (.int x1), some (.int x2)] [.int w0, .ref b1] σ =
  if sT σ b1 = 112 then (onI (rn 216 [.ref b1, .int w0, .int 1] σ) (fun x23 σ21 =>
  if (x23 = 0 : Prop) then (exec PP 2 314 29 [some (.ref a0), some (.int x1), some (.int x2)] [] σ21)
    else (some (.inl (some (.int 0)), σ21))) (fun e22 σ21x => some (.inr e22, σ21x))) else none := (exec_eq PP 2 314 20 _ _ σ).trans rfl
set_option maxRecDepth 20000 in
theorem e_314_29 (a0 : Nat) (x1 : Int32) (x2 : Int32) (σ : SH) : exec PP 2 314 29 [some (.ref a0), some (.int x1), some (.int x2)] [] σ =
  gR σ 112 1 (.ref a0) fun a21 =>
  aI σ 1 (.ref a21) 8 fun x22 =>
  onI (rn 220 [.int x1, .int 0, .int (x22 - 1)] σ) (fun x25 σ23 =>
  if (x25 = 0 : Prop) then (exec PP 2 314 55 [some (.ref a0), some (.int x1), some (.int x2)] [] σ23)
    else (if sT σ23 a0 = 112 then (onI (rn 313 [.ref a0, .int x1, .int x2] σ23) (fun x28 σ26 =>
      exec PP 2 314 56 [some (.ref a0), some (.int x1), some (.int x2)] [.int x28] σ26) (fun e27 σ26x => some (.inr e27, σ26x))) else none)) (fun e24 σ23x => some (.inr e24, σ23x)) := (exec_eq PP 2 314 29 _ _ σ).trans rfl
set_option maxRecDepth 20000 in
theorem e_314_55 (o0 : Option Value) (o1 : Option Value) (o2 : Option Value) (σ : SH) : exec PP 2 314 55 [o0, o1, o2] [] σ =
  some (.inl (some (.int (-1))), σ) := (exec_eq PP 2 314 55 _ _ σ).trans rfl
set_option maxRecDepth 20000 in
theorem e_314_56 (o0 : Option Value) (o1 : Option Value) (o2 : Option Value) (w0 : Int32) (σ : SH) : exec PP 2 314 56 [o0, o1, o2] [.int w0] σ =
  some (.inl (some (.int w0)), σ) := (exec_eq PP 2 314 56 _ _ σ).trans rfl

/-! 315: ArchEndsModel.seed(I)I -/
set_option maxRecDepth 20000 in
theorem r_315 (a0 : Nat) (x1 : Int32) (σ : SH) : rn 315 [.ref a0, .int x1] σ =
  pI σ 112 0 (.ref a0) 0 fun σ21 =>
  gR σ21 112 1 (.ref a0) fun a22 =>
  aI σ21 1 (.ref a22) 9 fun x23 =>
  gR σ21 112 1 (.ref a0) fun a24 =>
  uI σ21 (.ref a24) 9 x1 fun σ25 =>
  some (.inl (some (.int x23)), σ25) := (exec_eq PP 1 315 0 _ _ σ).trans rfl

/-! 316: ArchEndsModel.count(I)I -/
set_option maxRecDepth 20000 in
theorem r_316 (a0 : Nat) (x1 : Int32) (σ : SH) : rn 316 [.ref a0, .int x1] σ =
  pI σ 112 0 (.ref a0) 0 fun σ21 =>
  if x1 = 4 then (exec PP 5 316 52 [some (.ref a0), some (.int x1)] [] σ21)
  else if x1 = 5 then (exec PP 5 316 98 [some (.ref a0), some (.int x1)] [] σ21)
  else if x1 = 6 then (exec PP 5 316 98 [some (.ref a0), some (.int x1)] [] σ21)
  else if x1 = 7 then (exec PP 5 316 98 [some (.ref a0), some (.int x1)] [] σ21)
  else if x1 = 8 then (exec PP 5 316 75 [some (.ref a0), some (.int x1)] [] σ21)
  else if x1 = 9 then (exec PP 5 316 80 [some (.ref a0), some (.int x1)] [] σ21)
  else if x1 = 10 then (exec PP 5 316 85 [some (.ref a0), some (.int x1)] [] σ21)
  else if x1 = 11 then (exec PP 5 316 93 [some (.ref a0), some (.int x1)] [] σ21)
  else (exec PP 5 316 98 [some (.ref a0), some (.int x1)] [] σ21) := (exec_eq PP 5 316 0 _ _ σ).trans rfl
set_option maxRecDepth 20000 in
theorem e_316_98 (a0 : Nat) (x1 : Int32) (σ : SH) : exec PP 5 316 98 [some (.ref a0), some (.int x1)] [] σ =
  onI (rn 220 [.int x1, .int 0, .int 7] σ) (fun x23 σ21 =>
  if (x23 = 0 : Prop) then (exec PP 5 316 117 [some (.ref a0), some (.int x1)] [] σ21)
    else (gR σ21 112 1 (.ref a0) fun a24 =>
      aI σ21 1 (.ref a24) x1 fun x25 =>
      exec PP 5 316 118 [some (.ref a0), some (.int x1)] [.int x25] σ21)) (fun e22 σ21x => some (.inr e22, σ21x)) := (exec_eq PP 5 316 98 _ _ σ).trans rfl
set_option maxRecDepth 20000 in
theorem e_316_52 (a0 : Nat) (o1 : Option Value) (σ : SH) : exec PP 5 316 52 [some (.ref a0), o1] [] σ =
  gR σ 112 1 (.ref a0) fun a21 =>
  aI σ 1 (.ref a21) 4 fun x22 =>
  if (x22 = 1 : Prop) then (gR σ 112 1 (.ref a0) fun a23 =>
    aI σ 1 (.ref a23) 363 fun x24 =>
    exec PP 5 316 74 [some (.ref a0), none] [.int x24] σ)
  else (exec PP 5 316 73 [some (.ref a0), none] [] σ) := (exec_eq PP 5 316 52 _ _ σ).trans rfl
set_option maxRecDepth 20000 in
theorem e_316_75 (a0 : Nat) (o1 : Option Value) (σ : SH) : exec PP 5 316 75 [some (.ref a0), o1] [] σ =
  if sT σ a0 = 112 then (onI (rn 310 [.ref a0] σ) (fun x23 σ21 =>
  some (.inl (some (.int x23)), σ21)) (fun e22 σ21x => some (.inr e22, σ21x))) else none := (exec_eq PP 5 316 75 _ _ σ).trans rfl
set_option maxRecDepth 20000 in
theorem e_316_80 (a0 : Nat) (o1 : Option Value) (σ : SH) : exec PP 5 316 80 [some (.ref a0), o1] [] σ =
  if sT σ a0 = 112 then (onI (rn 317 [.ref a0] σ) (fun x23 σ21 =>
  some (.inl (some (.int x23)), σ21)) (fun e22 σ21x => some (.inr e22, σ21x))) else none := (exec_eq PP 5 316 80 _ _ σ).trans rfl
set_option maxRecDepth 20000 in
theorem e_316_85 (a0 : Nat) (o1 : Option Value) (σ : SH) : exec PP 5 316 85 [some (.ref a0), o1] [] σ =
  gR σ 112 1 (.ref a0) fun a21 =>
  aI σ 1 (.ref a21) 8 fun x22 =>
  some (.inl (some (.int x22)), σ) := (exec_eq PP 5 316 85 _ _ σ).trans rfl
set_option maxRecDepth 20000 in
theorem e_316_93 (a0 : Nat) (o1 : Option Value) (σ : SH) : exec PP 5 316 93 [some (.ref a0), o1] [] σ =
  gI σ 112 7 (.ref a0) fun x21 =>
  some (.inl (some (.int x21)), σ) := (exec_eq PP 5 316 93 _ _ σ).trans rfl
set_option maxRecDepth 20000 in
theorem e_316_117 (o0 : Option Value) (o1 : Option Value) (σ : SH) : exec PP 5 316 117 [o0, o1] [] σ =
  some (.inl (some (.int (-1))), σ) := (exec_eq PP 5 316 117 _ _ σ).trans rfl
set_option maxRecDepth 20000 in
theorem e_316_118 (o0 : Option Value) (o1 : Option Value) (w0 : Int32) (σ : SH) : exec PP 5 316 118 [o0, o1] [.int w0] σ =
  some (.inl (some (.int w0)), σ) := (exec_eq PP 5 316 118 _ _ σ).trans rfl
set_option maxRecDepth 20000 in
theorem e_316_73 (o0 : Option Value) (o1 : Option Value) (σ : SH) : exec PP 5 316 73 [o0, o1] [] σ =
  some (.inl (some (.int (-1))), σ) := (exec_eq PP 5 316 73 _ _ σ).trans rfl
set_option maxRecDepth 20000 in
theorem e_316_74 (o0 : Option Value) (o1 : Option Value) (w0 : Int32) (σ : SH) : exec PP 5 316 74 [o0, o1] [.int w0] σ =
  some (.inl (some (.int w0)), σ) := (exec_eq PP 5 316 74 _ _ σ).trans rfl

/-! 317: ArchEndsModel.ownedOnes()I -/
set_option maxRecDepth 20000 in
theorem r_317 (a0 : Nat) (σ : SH) : rn 317 [.ref a0] σ =
  exec PP 4 317 4 [some (.ref a0), some (.int 0), some (.int 0)] [] σ := (exec_eq PP 4 317 0 _ _ σ).trans rfl
set_option maxRecDepth 20000 in
theorem e_317_4 (a0 : Nat) (x1 : Int32) (x2 : Int32) (σ : SH) : exec PP 4 317 4 [some (.ref a0), some (.int x1), some (.int x2)] [] σ =
  if sT σ a0 = 112 then (onI (rn 204 [.ref a0] σ) (fun x23 σ21 =>
  if (x2 < x23 : Prop) then (if sT σ21 a0 = 112 then (onI (rn 256 [.ref a0, .int x2] σ21) (fun x26 σ24 =>
      if (x26 = 0 : Prop) then (exec PP 4 317 27 [some (.ref a0), some (.int x1), some (.int x2)] [.int x1] σ24)
        else (exec PP 4 317 28 [some (.ref a0), some (.int x1), some (.int x2)] [.int (shl 1 x2), .int x1] σ24)) (fun e25 σ24x => some (.inr e25, σ24x))) else none)
    else (exec PP 4 317 36 [some (.ref a0), some (.int x1), some (.int x2)] [] σ21)) (fun e22 σ21x => some (.inr e22, σ21x))) else none := (exec_eq PP 4 317 4 _ _ σ).trans rfl
set_option maxRecDepth 20000 in
theorem e_317_36 (o0 : Option Value) (x1 : Int32) (o2 : Option Value) (σ : SH) : exec PP 4 317 36 [o0, some (.int x1), o2] [] σ =
  some (.inl (some (.int x1)), σ) := (exec_eq PP 4 317 36 _ _ σ).trans rfl
set_option maxRecDepth 20000 in
theorem e_317_27 (a0 : Nat) (o1 : Option Value) (x2 : Int32) (w0 : Int32) (σ : SH) : exec PP 4 317 27 [some (.ref a0), o1, some (.int x2)] [.int w0] σ =
  exec PP 4 317 4 [some (.ref a0), some (.int (w0 ||| 0)), some (.int (x2 + 1))] [] σ := (exec_eq PP 4 317 27 _ _ σ).trans rfl
set_option maxRecDepth 20000 in
theorem e_317_28 (a0 : Nat) (o1 : Option Value) (x2 : Int32) (w0 : Int32) (w1 : Int32) (σ : SH) : exec PP 4 317 28 [some (.ref a0), o1, some (.int x2)] [.int w0, .int w1] σ =
  exec PP 4 317 4 [some (.ref a0), some (.int (w1 ||| w0)), some (.int (x2 + 1))] [] σ := (exec_eq PP 4 317 28 _ _ σ).trans rfl

/-! 318: java/lang/String.length()I -/
set_option maxRecDepth 20000 in
theorem r_318 (a0 : Nat) (σ : SH) : rn 318 [.ref a0] σ =
  gR σ 113 0 (.ref a0) fun a21 =>
  aN σ (.ref a21) fun x22 =>
  if sT σ a0 = 113 then (onI (rn 319 [.ref a0] σ) (fun x25 σ23 =>
  some (.inl (some (.int (shr x22 x25))), σ23)) (fun e24 σ23x => some (.inr e24, σ23x))) else none := (exec_eq PP 2 318 0 _ _ σ).trans rfl

/-! 319: java/lang/String.coder()B -/
set_option maxRecDepth 20000 in
theorem r_319 (a0 : Nat) (σ : SH) : rn 319 [.ref a0] σ =
  if ((1 : Int32) = 0 : Prop) then (exec PP 1 319 13 [some (.ref a0)] [] σ)
  else (gI σ 113 1 (.ref a0) fun x21 =>
    exec PP 1 319 14 [some (.ref a0)] [.int x21] σ) := (exec_eq PP 1 319 0 _ _ σ).trans rfl
set_option maxRecDepth 20000 in
theorem e_319_13 (o0 : Option Value) (σ : SH) : exec PP 1 319 13 [o0] [] σ =
  if i2b (1 : Int32) = 1 then some (.inl (some (.int 1)), σ) else none := (exec_eq PP 1 319 13 _ _ σ).trans rfl
set_option maxRecDepth 20000 in
theorem e_319_14 (o0 : Option Value) (w0 : Int32) (σ : SH) : exec PP 1 319 14 [o0] [.int w0] σ =
  if i2b w0 = w0 then some (.inl (some (.int w0)), σ) else none := (exec_eq PP 1 319 14 _ _ σ).trans rfl

/-! 320: java/lang/String.charAt(I)C -/
set_option maxRecDepth 20000 in
theorem r_320 (a0 : Nat) (x1 : Int32) (σ : SH) : rn 320 [.ref a0, .int x1] σ =
  if sT σ a0 = 113 then (onI (rn 321 [.ref a0] σ) (fun x23 σ21 =>
  if (x23 = 0 : Prop) then (exec PP 4 320 16 [some (.ref a0), some (.int x1)] [] σ21)
    else (gR σ21 113 0 (.ref a0) fun a24 =>
      onI (rn 323 [.ref a24, .int x1] σ21) (fun x27 σ25 =>
      if i2c x27 = x27 then some (.inl (some (.int x27)), σ25) else none) (fun e26 σ25x => some (.inr e26, σ25x)))) (fun e22 σ21x => some (.inr e22, σ21x))) else none := (exec_eq PP 4 320 0 _ _ σ).trans rfl
set_option maxRecDepth 20000 in
theorem e_320_16 (a0 : Nat) (x1 : Int32) (σ : SH) : exec PP 4 320 16 [some (.ref a0), some (.int x1)] [] σ =
  gR σ 113 0 (.ref a0) fun a21 =>
  none := (exec_eq PP 4 320 16 _ _ σ).trans rfl

/-! 321: java/lang/String.isLatin1()Z -/
set_option maxRecDepth 20000 in
theorem r_321 (a0 : Nat) (σ : SH) : rn 321 [.ref a0] σ =
  if ((1 : Int32) = 0 : Prop) then (exec PP 1 321 17 [some (.ref a0)] [] σ)
  else (gI σ 113 1 (.ref a0) fun x21 =>
    if (x21 = 0 : Prop) then (exec PP 1 321 18 [some (.ref a0)] [.int 1] σ)
    else (exec PP 1 321 17 [some (.ref a0)] [] σ)) := (exec_eq PP 1 321 0 _ _ σ).trans rfl
set_option maxRecDepth 20000 in
theorem e_321_17 (o0 : Option Value) (σ : SH) : exec PP 1 321 17 [o0] [] σ =
  some (.inl (some (.int 0)), σ) := (exec_eq PP 1 321 17 _ _ σ).trans rfl
set_option maxRecDepth 20000 in
theorem e_321_18 (o0 : Option Value) (w0 : Int32) (σ : SH) : exec PP 1 321 18 [o0] [.int w0] σ =
  if w0 = 0 ∨ w0 = 1 then some (.inl (some (.int w0)), σ) else none := (exec_eq PP 1 321 18 _ _ σ).trans rfl

/-! 322: java/lang/String.checkIndex(II)V -/
set_option maxRecDepth 20000 in
theorem r_322 (x0 : Int32) (x1 : Int32) (σ : SH) : rn 322 [.int x0, .int x1] σ =
  onI (rn 324 [.int x0, .int x1, .ref 39] σ) (fun x23 σ21 =>
  some (.inl none, σ21)) (fun e22 σ21x => some (.inr e22, σ21x)) := (exec_eq PP 2 322 0 _ _ σ).trans rfl

/-! 323: java/lang/StringLatin1.charAt([BI)C -/
set_option maxRecDepth 20000 in
theorem r_323 (a0 : Nat) (x1 : Int32) (σ : SH) : rn 323 [.ref a0, .int x1] σ =
  aN σ (.ref a0) fun x21 =>
  onV (rn 322 [.int x1, .int x21] σ) (fun σ22 =>
  aI σ22 5 (.ref a0) x1 fun x24 =>
    if i2c (i2c (x24 &&& 255)) = (i2c (x24 &&& 255)) then some (.inl (some (.int (i2c (x24 &&& 255)))), σ22) else none) (fun e23 σ22x => some (.inr e23, σ22x)) := (exec_eq PP 3 323 0 _ _ σ).trans rfl

/-! 324: jdk/internal/util/Preconditions.checkIndex(IILjava/util/function/BiFunction;)I -/
set_option maxRecDepth 20000 in
theorem r_324 (x0 : Int32) (x1 : Int32) (a2 : Nat) (σ : SH) : rn 324 [.int x0, .int x1, .ref a2] σ =
  if (x0 < 0 : Prop) then (exec PP 1 324 9 [some (.int x0), some (.int x1), some (.ref a2)] [] σ)
  else (if (x0 < x1 : Prop) then (exec PP 1 324 16 [some (.int x0), some (.int x1), some (.ref a2)] [] σ)
    else (none)) := (exec_eq PP 1 324 0 _ _ σ).trans rfl
set_option maxRecDepth 20000 in
theorem e_324_9 (x0 : Int32) (x1 : Int32) (a2 : Nat) (σ : SH) : exec PP 1 324 9 [some (.int x0), some (.int x1), some (.ref a2)] [] σ =
  none := (exec_eq PP 1 324 9 _ _ σ).trans rfl
set_option maxRecDepth 20000 in
theorem e_324_16 (x0 : Int32) (o1 : Option Value) (o2 : Option Value) (σ : SH) : exec PP 1 324 16 [some (.int x0), o1, o2] [] σ =
  some (.inl (some (.int x0)), σ) := (exec_eq PP 1 324 16 _ _ σ).trans rfl

/-! 325: java/lang/Integer.bitCount(I)I -/
set_option maxRecDepth 20000 in
theorem r_325 (x0 : Int32) (σ : SH) : rn 325 [.int x0] σ =
  some (.inl (some (.int ((((((((x0 - ((ush x0 1) &&& 1431655765)) &&& 858993459) + ((ush (x0 - ((ush x0 1) &&& 1431655765)) 2) &&& 858993459)) + (ush (((x0 - ((ush x0 1) &&& 1431655765)) &&& 858993459) + ((ush (x0 - ((ush x0 1) &&& 1431655765)) 2) &&& 858993459)) 4)) &&& 252645135) + (ush (((((x0 - ((ush x0 1) &&& 1431655765)) &&& 858993459) + ((ush (x0 - ((ush x0 1) &&& 1431655765)) 2) &&& 858993459)) + (ush (((x0 - ((ush x0 1) &&& 1431655765)) &&& 858993459) + ((ush (x0 - ((ush x0 1) &&& 1431655765)) 2) &&& 858993459)) 4)) &&& 252645135) 8)) + (ush ((((((x0 - ((ush x0 1) &&& 1431655765)) &&& 858993459) + ((ush (x0 - ((ush x0 1) &&& 1431655765)) 2) &&& 858993459)) + (ush (((x0 - ((ush x0 1) &&& 1431655765)) &&& 858993459) + ((ush (x0 - ((ush x0 1) &&& 1431655765)) 2) &&& 858993459)) 4)) &&& 252645135) + (ush (((((x0 - ((ush x0 1) &&& 1431655765)) &&& 858993459) + ((ush (x0 - ((ush x0 1) &&& 1431655765)) 2) &&& 858993459)) + (ush (((x0 - ((ush x0 1) &&& 1431655765)) &&& 858993459) + ((ush (x0 - ((ush x0 1) &&& 1431655765)) 2) &&& 858993459)) 4)) &&& 252645135) 8)) 16)) &&& 63))), σ) := (exec_eq PP 1 325 0 _ _ σ).trans rfl

/-! 326: java/lang/Math.abs(I)I -/
set_option maxRecDepth 20000 in
theorem r_326 (x0 : Int32) (σ : SH) : rn 326 [.int x0] σ =
  if (x0 < 0 : Prop) then (exec PP 1 326 10 [some (.int x0)] [.int (-x0)] σ)
  else (exec PP 1 326 9 [some (.int x0)] [] σ) := (exec_eq PP 1 326 0 _ _ σ).trans rfl
set_option maxRecDepth 20000 in
theorem e_326_9 (x0 : Int32) (σ : SH) : exec PP 1 326 9 [some (.int x0)] [] σ =
  some (.inl (some (.int x0)), σ) := (exec_eq PP 1 326 9 _ _ σ).trans rfl
set_option maxRecDepth 20000 in
theorem e_326_10 (o0 : Option Value) (w0 : Int32) (σ : SH) : exec PP 1 326 10 [o0] [.int w0] σ =
  some (.inl (some (.int w0)), σ) := (exec_eq PP 1 326 10 _ _ σ).trans rfl

/-! 327: java/lang/Math.max(II)I -/
set_option maxRecDepth 20000 in
theorem r_327 (x0 : Int32) (x1 : Int32) (σ : SH) : rn 327 [.int x0, .int x1] σ =
  if (x0 < x1 : Prop) then (exec PP 1 327 9 [some (.int x0), some (.int x1)] [] σ)
  else (exec PP 1 327 10 [some (.int x0), some (.int x1)] [.int x0] σ) := (exec_eq PP 1 327 0 _ _ σ).trans rfl
set_option maxRecDepth 20000 in
theorem e_327_9 (o0 : Option Value) (x1 : Int32) (σ : SH) : exec PP 1 327 9 [o0, some (.int x1)] [] σ =
  some (.inl (some (.int x1)), σ) := (exec_eq PP 1 327 9 _ _ σ).trans rfl
set_option maxRecDepth 20000 in
theorem e_327_10 (o0 : Option Value) (o1 : Option Value) (w0 : Int32) (σ : SH) : exec PP 1 327 10 [o0, o1] [.int w0] σ =
  some (.inl (some (.int w0)), σ) := (exec_eq PP 1 327 10 _ _ σ).trans rfl

/-! 328: java/lang/Math.min(II)I -/
set_option maxRecDepth 20000 in
theorem r_328 (x0 : Int32) (x1 : Int32) (σ : SH) : rn 328 [.int x0, .int x1] σ =
  if (x1 < x0 : Prop) then (exec PP 1 328 9 [some (.int x0), some (.int x1)] [] σ)
  else (exec PP 1 328 10 [some (.int x0), some (.int x1)] [.int x0] σ) := (exec_eq PP 1 328 0 _ _ σ).trans rfl
set_option maxRecDepth 20000 in
theorem e_328_9 (o0 : Option Value) (x1 : Int32) (σ : SH) : exec PP 1 328 9 [o0, some (.int x1)] [] σ =
  some (.inl (some (.int x1)), σ) := (exec_eq PP 1 328 9 _ _ σ).trans rfl
set_option maxRecDepth 20000 in
theorem e_328_10 (o0 : Option Value) (o1 : Option Value) (w0 : Int32) (σ : SH) : exec PP 1 328 10 [o0, o1] [.int w0] σ =
  some (.inl (some (.int w0)), σ) := (exec_eq PP 1 328 10 _ _ σ).trans rfl
