/-! 371: ArchEndsLaw.law([I)Z -/
set_option maxRecDepth 200000 in
theorem r_371 (a0 : Nat) (σ : SH) : rn 371 [.ref a0] σ =
  onV (rn 106 [.ref (sZ σ)] (mkC σ 111 0 12)) (fun σ21 =>
  onV (rn 178 [.ref (sZ σ21)] (mkC σ21 112 0 24)) (fun σ23 =>
    nwA σ23 3 1 fun a25 σ26 =>
      exec PP 65 371 23 [some (.ref a0), some (.ref (sZ σ)), some (.ref (sZ σ21)), some (.ref a25), some (.int 0), none, none] [] σ26) (fun _ _ => none)) (fun _ _ => none) := (exec_eq PP 65 371 0 _ _ σ).trans rfl
set_option maxRecDepth 200000 in
theorem e_371_23 (a0 : Nat) (a1 : Nat) (a2 : Nat) (a3 : Nat) (x4 : Int32) (o5 : Option Value) (o6 : Option Value) (σ : SH) : exec PP 65 371 23 [some (.ref a0), some (.ref a1), some (.ref a2), some (.ref a3), some (.int x4), o5, o6] [] σ =
  aN σ (.ref a0) fun x21 =>
  if ((x21 - 6) < x4 : Prop) then (exec PP 65 371 3382 [some (.ref a0), some (.ref a1), some (.ref a2), some (.ref a3), some (.int x4), none, none] [] σ)
  else (aI σ 4 (.ref a0) x4 fun x22 =>
    if (x22 &&& 63) = 0 then (exec PP 65 371 268 [some (.ref a0), some (.ref a1), some (.ref a2), some (.ref a3), some (.int x4), none, none] [] σ)
    else if (x22 &&& 63) = 1 then (exec PP 65 371 341 [some (.ref a0), some (.ref a1), some (.ref a2), some (.ref a3), some (.int x4), none, none] [] σ)
    else if (x22 &&& 63) = 2 then (exec PP 65 371 366 [some (.ref a0), some (.ref a1), some (.ref a2), some (.ref a3), some (.int x4), none, none] [] σ)
    else if (x22 &&& 63) = 3 then (exec PP 65 371 410 [some (.ref a0), some (.ref a1), some (.ref a2), some (.ref a3), some (.int x4), none, none] [] σ)
    else if (x22 &&& 63) = 4 then (exec PP 65 371 454 [some (.ref a0), some (.ref a1), some (.ref a2), some (.ref a3), some (.int x4), none, none] [] σ)
    else if (x22 &&& 63) = 5 then (exec PP 65 371 467 [some (.ref a0), some (.ref a1), some (.ref a2), some (.ref a3), some (.int x4), none, none] [] σ)
    else if (x22 &&& 63) = 6 then (exec PP 65 371 535 [some (.ref a0), some (.ref a1), some (.ref a2), some (.ref a3), some (.int x4), none, none] [] σ)
    else if (x22 &&& 63) = 7 then (exec PP 65 371 603 [some (.ref a0), some (.ref a1), some (.ref a2), some (.ref a3), some (.int x4), none, none] [] σ)
    else if (x22 &&& 63) = 8 then (exec PP 65 371 671 [some (.ref a0), some (.ref a1), some (.ref a2), some (.ref a3), some (.int x4), none, none] [] σ)
    else if (x22 &&& 63) = 9 then (exec PP 65 371 739 [some (.ref a0), some (.ref a1), some (.ref a2), some (.ref a3), some (.int x4), none, none] [] σ)
    else if (x22 &&& 63) = 10 then (exec PP 65 371 819 [some (.ref a0), some (.ref a1), some (.ref a2), some (.ref a3), some (.int x4), none, none] [] σ)
    else if (x22 &&& 63) = 11 then (exec PP 65 371 887 [some (.ref a0), some (.ref a1), some (.ref a2), some (.ref a3), some (.int x4), none, none] [] σ)
    else if (x22 &&& 63) = 12 then (exec PP 65 371 955 [some (.ref a0), some (.ref a1), some (.ref a2), some (.ref a3), some (.int x4), none, none] [] σ)
    else if (x22 &&& 63) = 13 then (exec PP 65 371 1023 [some (.ref a0), some (.ref a1), some (.ref a2), some (.ref a3), some (.int x4), none, none] [] σ)
    else if (x22 &&& 63) = 14 then (exec PP 65 371 1091 [some (.ref a0), some (.ref a1), some (.ref a2), some (.ref a3), some (.int x4), none, none] [] σ)
    else if (x22 &&& 63) = 15 then (exec PP 65 371 1147 [some (.ref a0), some (.ref a1), some (.ref a2), some (.ref a3), some (.int x4), none, none] [] σ)
    else if (x22 &&& 63) = 16 then (exec PP 65 371 1203 [some (.ref a0), some (.ref a1), some (.ref a2), some (.ref a3), some (.int x4), none, none] [] σ)
    else if (x22 &&& 63) = 17 then (exec PP 65 371 1259 [some (.ref a0), some (.ref a1), some (.ref a2), some (.ref a3), some (.int x4), none, none] [] σ)
    else if (x22 &&& 63) = 18 then (exec PP 65 371 1315 [some (.ref a0), some (.ref a1), some (.ref a2), some (.ref a3), some (.int x4), none, none] [] σ)
    else if (x22 &&& 63) = 19 then (exec PP 65 371 1371 [some (.ref a0), some (.ref a1), some (.ref a2), some (.ref a3), some (.int x4), none, none] [] σ)
    else if (x22 &&& 63) = 20 then (exec PP 65 371 1439 [some (.ref a0), some (.ref a1), some (.ref a2), some (.ref a3), some (.int x4), none, none] [] σ)
    else if (x22 &&& 63) = 21 then (exec PP 65 371 1514 [some (.ref a0), some (.ref a1), some (.ref a2), some (.ref a3), some (.int x4), none, none] [] σ)
    else if (x22 &&& 63) = 22 then (exec PP 65 371 1582 [some (.ref a0), some (.ref a1), some (.ref a2), some (.ref a3), some (.int x4), none, none] [] σ)
    else if (x22 &&& 63) = 23 then (exec PP 65 371 1650 [some (.ref a0), some (.ref a1), some (.ref a2), some (.ref a3), some (.int x4), none, none] [] σ)
    else if (x22 &&& 63) = 24 then (exec PP 65 371 1730 [some (.ref a0), some (.ref a1), some (.ref a2), some (.ref a3), some (.int x4), none, none] [] σ)
    else if (x22 &&& 63) = 25 then (exec PP 65 371 1798 [some (.ref a0), some (.ref a1), some (.ref a2), some (.ref a3), some (.int x4), none, none] [] σ)
    else if (x22 &&& 63) = 26 then (exec PP 65 371 1866 [some (.ref a0), some (.ref a1), some (.ref a2), some (.ref a3), some (.int x4), none, none] [] σ)
    else if (x22 &&& 63) = 27 then (exec PP 65 371 1946 [some (.ref a0), some (.ref a1), some (.ref a2), some (.ref a3), some (.int x4), none, none] [] σ)
    else if (x22 &&& 63) = 28 then (exec PP 65 371 2014 [some (.ref a0), some (.ref a1), some (.ref a2), some (.ref a3), some (.int x4), none, none] [] σ)
    else if (x22 &&& 63) = 29 then (exec PP 65 371 2070 [some (.ref a0), some (.ref a1), some (.ref a2), some (.ref a3), some (.int x4), none, none] [] σ)
    else if (x22 &&& 63) = 30 then (exec PP 65 371 2138 [some (.ref a0), some (.ref a1), some (.ref a2), some (.ref a3), some (.int x4), none, none] [] σ)
    else if (x22 &&& 63) = 31 then (exec PP 65 371 2222 [some (.ref a0), some (.ref a1), some (.ref a2), some (.ref a3), some (.int x4), none, none] [] σ)
    else if (x22 &&& 63) = 32 then (exec PP 65 371 2290 [some (.ref a0), some (.ref a1), some (.ref a2), some (.ref a3), some (.int x4), none, none] [] σ)
    else if (x22 &&& 63) = 33 then (exec PP 65 371 2346 [some (.ref a0), some (.ref a1), some (.ref a2), some (.ref a3), some (.int x4), none, none] [] σ)
    else if (x22 &&& 63) = 34 then (exec PP 65 371 2402 [some (.ref a0), some (.ref a1), some (.ref a2), some (.ref a3), some (.int x4), none, none] [] σ)
    else if (x22 &&& 63) = 35 then (exec PP 65 371 2486 [some (.ref a0), some (.ref a1), some (.ref a2), some (.ref a3), some (.int x4), none, none] [] σ)
    else if (x22 &&& 63) = 36 then (exec PP 65 371 2542 [some (.ref a0), some (.ref a1), some (.ref a2), some (.ref a3), some (.int x4), none, none] [] σ)
    else if (x22 &&& 63) = 37 then (exec PP 65 371 2598 [some (.ref a0), some (.ref a1), some (.ref a2), some (.ref a3), some (.int x4), none, none] [] σ)
    else if (x22 &&& 63) = 38 then (exec PP 65 371 2690 [some (.ref a0), some (.ref a1), some (.ref a2), some (.ref a3), some (.int x4), none, none] [] σ)
    else if (x22 &&& 63) = 39 then (exec PP 65 371 2782 [some (.ref a0), some (.ref a1), some (.ref a2), some (.ref a3), some (.int x4), none, none] [] σ)
    else if (x22 &&& 63) = 40 then (exec PP 65 371 2862 [some (.ref a0), some (.ref a1), some (.ref a2), some (.ref a3), some (.int x4), none, none] [] σ)
    else if (x22 &&& 63) = 41 then (exec PP 65 371 2875 [some (.ref a0), some (.ref a1), some (.ref a2), some (.ref a3), some (.int x4), none, none] [] σ)
    else if (x22 &&& 63) = 42 then (exec PP 65 371 2888 [some (.ref a0), some (.ref a1), some (.ref a2), some (.ref a3), some (.int x4), none, none] [] σ)
    else if (x22 &&& 63) = 43 then (exec PP 65 371 2901 [some (.ref a0), some (.ref a1), some (.ref a2), some (.ref a3), some (.int x4), none, none] [] σ)
    else if (x22 &&& 63) = 44 then (exec PP 65 371 2969 [some (.ref a0), some (.ref a1), some (.ref a2), some (.ref a3), some (.int x4), none, none] [] σ)
    else if (x22 &&& 63) = 45 then (exec PP 65 371 3053 [some (.ref a0), some (.ref a1), some (.ref a2), some (.ref a3), some (.int x4), none, none] [] σ)
    else if (x22 &&& 63) = 46 then (exec PP 65 371 3137 [some (.ref a0), some (.ref a1), some (.ref a2), some (.ref a3), some (.int x4), none, none] [] σ)
    else if (x22 &&& 63) = 47 then (exec PP 65 371 3221 [some (.ref a0), some (.ref a1), some (.ref a2), some (.ref a3), some (.int x4), none, none] [] σ)
    else if (x22 &&& 63) = 48 then (exec PP 65 371 3289 [some (.ref a0), some (.ref a1), some (.ref a2), some (.ref a3), some (.int x4), none, none] [] σ)
    else if (x22 &&& 63) = 49 then (exec PP 65 371 3314 [some (.ref a0), some (.ref a1), some (.ref a2), some (.ref a3), some (.int x4), none, none] [] σ)
    else if (x22 &&& 63) = 50 then (exec PP 65 371 3327 [some (.ref a0), some (.ref a1), some (.ref a2), some (.ref a3), some (.int x4), none, none] [] σ)
    else if (x22 &&& 63) = 51 then (exec PP 65 371 3338 [some (.ref a0), some (.ref a1), some (.ref a2), some (.ref a3), some (.int x4), none, none] [] σ)
    else if (x22 &&& 63) = 52 then (exec PP 65 371 3351 [some (.ref a0), some (.ref a1), some (.ref a2), some (.ref a3), some (.int x4), none, none] [] σ)
    else (exec PP 65 371 3376 [some (.ref a0), some (.ref a1), some (.ref a2), some (.ref a3), some (.int x4), none, none] [] σ)) := (exec_eq PP 65 371 23 _ _ σ).trans rfl
set_option maxRecDepth 200000 in
theorem e_371_3382 (o0 : Option Value) (o1 : Option Value) (o2 : Option Value) (o3 : Option Value) (o4 : Option Value) (o5 : Option Value) (o6 : Option Value) (σ : SH) : exec PP 65 371 3382 [o0, o1, o2, o3, o4, o5, o6] [] σ =
  some (.inl (some (.int 1)), σ) := (exec_eq PP 65 371 3382 _ _ σ).trans rfl
set_option maxRecDepth 200000 in
theorem e_371_3376 (a0 : Nat) (a1 : Nat) (a2 : Nat) (a3 : Nat) (x4 : Int32) (o5 : Option Value) (o6 : Option Value) (σ : SH) : exec PP 65 371 3376 [some (.ref a0), some (.ref a1), some (.ref a2), some (.ref a3), some (.int x4), o5, o6] [] σ =
  exec PP 65 371 23 [some (.ref a0), some (.ref a1), some (.ref a2), some (.ref a3), some (.int (x4 + 6)), none, none] [] σ := (exec_eq PP 65 371 3376 _ _ σ).trans rfl
set_option maxRecDepth 200000 in
theorem e_371_268 (a0 : Nat) (a1 : Nat) (a2 : Nat) (a3 : Nat) (x4 : Int32) (o5 : Option Value) (o6 : Option Value) (σ : SH) : exec PP 65 371 268 [some (.ref a0), some (.ref a1), some (.ref a2), some (.ref a3), some (.int x4), o5, o6] [] σ =
  aI σ 4 (.ref a0) (x4 + 1) fun x21 =>
  aI σ 4 (.ref a0) (x4 + 2) fun x22 =>
  aI σ 4 (.ref a0) (x4 + 3) fun x23 =>
  aI σ 4 (.ref a0) (x4 + 4) fun x24 =>
  aI σ 4 (.ref a0) (x4 + 5) fun x25 =>
  if sT σ a1 = 111 then (onI (rn 107 [.ref a1, .int x21, .int x22, .int x23, .int x24, .int x25] σ) (fun x28 σ26 =>
  aI σ26 4 (.ref a0) (x4 + 1) fun x29 =>
    aI σ26 4 (.ref a0) (x4 + 2) fun x30 =>
    aI σ26 4 (.ref a0) (x4 + 3) fun x31 =>
    aI σ26 4 (.ref a0) (x4 + 4) fun x32 =>
    aI σ26 4 (.ref a0) (x4 + 5) fun x33 =>
    if sT σ26 a2 = 112 then (onI (rn 182 [.ref a2, .int x29, .int x30, .int x31, .int x32, .int x33] σ26) (fun x36 σ34 =>
    if (x28 = x36 : Prop) then (exec PP 65 371 3376 [some (.ref a0), some (.ref a1), some (.ref a2), some (.ref a3), some (.int x4), none, none] [] σ34)
      else (some (.inl (some (.int 0)), σ34))) (fun e35 σ34x => some (.inr e35, σ34x))) else none) (fun e27 σ26x => some (.inr e27, σ26x))) else none := (exec_eq PP 65 371 268 _ _ σ).trans rfl
set_option maxRecDepth 200000 in
theorem e_371_341 (a0 : Nat) (a1 : Nat) (a2 : Nat) (a3 : Nat) (x4 : Int32) (o5 : Option Value) (o6 : Option Value) (σ : SH) : exec PP 65 371 341 [some (.ref a0), some (.ref a1), some (.ref a2), some (.ref a3), some (.int x4), o5, o6] [] σ =
  aI σ 4 (.ref a0) (x4 + 1) fun x21 =>
  if sT σ a1 = 111 then (onI (rn 108 [.ref a1, .int x21] σ) (fun x24 σ22 =>
  aI σ22 4 (.ref a0) (x4 + 1) fun x25 =>
    if sT σ22 a2 = 112 then (onI (rn 183 [.ref a2, .int x25] σ22) (fun x28 σ26 =>
    if (x24 = x28 : Prop) then (exec PP 65 371 3376 [some (.ref a0), some (.ref a1), some (.ref a2), some (.ref a3), some (.int x4), none, none] [] σ26)
      else (some (.inl (some (.int 0)), σ26))) (fun e27 σ26x => some (.inr e27, σ26x))) else none) (fun e23 σ22x => some (.inr e23, σ22x))) else none := (exec_eq PP 65 371 341 _ _ σ).trans rfl
set_option maxRecDepth 200000 in
theorem e_371_366 (a0 : Nat) (a1 : Nat) (a2 : Nat) (a3 : Nat) (x4 : Int32) (o5 : Option Value) (o6 : Option Value) (σ : SH) : exec PP 65 371 366 [some (.ref a0), some (.ref a1), some (.ref a2), some (.ref a3), some (.int x4), o5, o6] [] σ =
  onI (rn 329 [.ref a1, .ref a3] σ) (fun x23 σ21 =>
  if sT σ21 a2 = 112 then (onI (rn 185 [.ref a2] σ21) (fun x26 σ24 =>
    if sT σ24 a2 = 112 then (onI (rn 177 [.ref a2] σ24) (fun x29 σ27 =>
      if (x29 = x23 : Prop) then (exec PP 65 371 390 [some (.ref a0), some (.ref a1), some (.ref a2), some (.ref a3), some (.int x4), some (.int x23), some (.int x26)] [] σ27)
        else (some (.inl (some (.int 0)), σ27))) (fun e28 σ27x => some (.inr e28, σ27x))) else none) (fun e25 σ24x => some (.inr e25, σ24x))) else none) (fun e22 σ21x => some (.inr e22, σ21x)) := (exec_eq PP 65 371 366 _ _ σ).trans rfl
set_option maxRecDepth 200000 in
theorem e_371_410 (a0 : Nat) (a1 : Nat) (a2 : Nat) (a3 : Nat) (x4 : Int32) (o5 : Option Value) (o6 : Option Value) (σ : SH) : exec PP 65 371 410 [some (.ref a0), some (.ref a1), some (.ref a2), some (.ref a3), some (.int x4), o5, o6] [] σ =
  onI (rn 330 [.ref a1, .ref a3] σ) (fun x23 σ21 =>
  if sT σ21 a2 = 112 then (onI (rn 217 [.ref a2] σ21) (fun x26 σ24 =>
    if sT σ24 a2 = 112 then (onI (rn 177 [.ref a2] σ24) (fun x29 σ27 =>
      if (x29 = x23 : Prop) then (exec PP 65 371 434 [some (.ref a0), some (.ref a1), some (.ref a2), some (.ref a3), some (.int x4), some (.int x23), some (.int x26)] [] σ27)
        else (some (.inl (some (.int 0)), σ27))) (fun e28 σ27x => some (.inr e28, σ27x))) else none) (fun e25 σ24x => some (.inr e25, σ24x))) else none) (fun e22 σ21x => some (.inr e22, σ21x)) := (exec_eq PP 65 371 410 _ _ σ).trans rfl
set_option maxRecDepth 200000 in
theorem e_371_454 (a0 : Nat) (a1 : Nat) (a2 : Nat) (a3 : Nat) (x4 : Int32) (o5 : Option Value) (o6 : Option Value) (σ : SH) : exec PP 65 371 454 [some (.ref a0), some (.ref a1), some (.ref a2), some (.ref a3), some (.int x4), o5, o6] [] σ =
  if sT σ a1 = 111 then (onI (rn 109 [.ref a1] σ) (fun x23 σ21 =>
  if sT σ21 a2 = 112 then (onI (rn 184 [.ref a2] σ21) (fun x26 σ24 =>
    if (x23 = x26 : Prop) then (exec PP 65 371 3376 [some (.ref a0), some (.ref a1), some (.ref a2), some (.ref a3), some (.int x4), none, none] [] σ24)
      else (some (.inl (some (.int 0)), σ24))) (fun e25 σ24x => some (.inr e25, σ24x))) else none) (fun e22 σ21x => some (.inr e22, σ21x))) else none := (exec_eq PP 65 371 454 _ _ σ).trans rfl
set_option maxRecDepth 200000 in
theorem e_371_467 (a0 : Nat) (a1 : Nat) (a2 : Nat) (a3 : Nat) (x4 : Int32) (o5 : Option Value) (o6 : Option Value) (σ : SH) : exec PP 65 371 467 [some (.ref a0), some (.ref a1), some (.ref a2), some (.ref a3), some (.int x4), o5, o6] [] σ =
  aI σ 4 (.ref a0) (x4 + 1) fun x21 =>
  aI σ 4 (.ref a0) (x4 + 2) fun x22 =>
  onI (rn 331 [.ref a1, .int x21, .int x22, .ref a3] σ) (fun x25 σ23 =>
  aI σ23 4 (.ref a0) (x4 + 1) fun x26 =>
    aI σ23 4 (.ref a0) (x4 + 2) fun x27 =>
    if sT σ23 a2 = 112 then (onI (rn 218 [.ref a2, .int x26, .int x27] σ23) (fun x30 σ28 =>
    if sT σ28 a2 = 112 then (onI (rn 177 [.ref a2] σ28) (fun x33 σ31 =>
      if (x33 = x25 : Prop) then (exec PP 65 371 515 [some (.ref a0), some (.ref a1), some (.ref a2), some (.ref a3), some (.int x4), some (.int x25), some (.int x30)] [] σ31)
        else (some (.inl (some (.int 0)), σ31))) (fun e32 σ31x => some (.inr e32, σ31x))) else none) (fun e29 σ28x => some (.inr e29, σ28x))) else none) (fun e24 σ23x => some (.inr e24, σ23x)) := (exec_eq PP 65 371 467 _ _ σ).trans rfl
set_option maxRecDepth 200000 in
theorem e_371_535 (a0 : Nat) (a1 : Nat) (a2 : Nat) (a3 : Nat) (x4 : Int32) (o5 : Option Value) (o6 : Option Value) (σ : SH) : exec PP 65 371 535 [some (.ref a0), some (.ref a1), some (.ref a2), some (.ref a3), some (.int x4), o5, o6] [] σ =
  aI σ 4 (.ref a0) (x4 + 1) fun x21 =>
  aI σ 4 (.ref a0) (x4 + 2) fun x22 =>
  onI (rn 332 [.ref a1, .int x21, .int x22, .ref a3] σ) (fun x25 σ23 =>
  aI σ23 4 (.ref a0) (x4 + 1) fun x26 =>
    aI σ23 4 (.ref a0) (x4 + 2) fun x27 =>
    if sT σ23 a2 = 112 then (onI (rn 248 [.ref a2, .int x26, .int x27] σ23) (fun x30 σ28 =>
    if sT σ28 a2 = 112 then (onI (rn 177 [.ref a2] σ28) (fun x33 σ31 =>
      if (x33 = x25 : Prop) then (exec PP 65 371 583 [some (.ref a0), some (.ref a1), some (.ref a2), some (.ref a3), some (.int x4), some (.int x25), some (.int x30)] [] σ31)
        else (some (.inl (some (.int 0)), σ31))) (fun e32 σ31x => some (.inr e32, σ31x))) else none) (fun e29 σ28x => some (.inr e29, σ28x))) else none) (fun e24 σ23x => some (.inr e24, σ23x)) := (exec_eq PP 65 371 535 _ _ σ).trans rfl
set_option maxRecDepth 200000 in
theorem e_371_603 (a0 : Nat) (a1 : Nat) (a2 : Nat) (a3 : Nat) (x4 : Int32) (o5 : Option Value) (o6 : Option Value) (σ : SH) : exec PP 65 371 603 [some (.ref a0), some (.ref a1), some (.ref a2), some (.ref a3), some (.int x4), o5, o6] [] σ =
  aI σ 4 (.ref a0) (x4 + 1) fun x21 =>
  aI σ 4 (.ref a0) (x4 + 2) fun x22 =>
  onI (rn 333 [.ref a1, .int x21, .int x22, .ref a3] σ) (fun x25 σ23 =>
  aI σ23 4 (.ref a0) (x4 + 1) fun x26 =>
    aI σ23 4 (.ref a0) (x4 + 2) fun x27 =>
    if sT σ23 a2 = 112 then (onI (rn 261 [.ref a2, .int x26, .int x27] σ23) (fun x30 σ28 =>
    if sT σ28 a2 = 112 then (onI (rn 177 [.ref a2] σ28) (fun x33 σ31 =>
      if (x33 = x25 : Prop) then (exec PP 65 371 651 [some (.ref a0), some (.ref a1), some (.ref a2), some (.ref a3), some (.int x4), some (.int x25), some (.int x30)] [] σ31)
        else (some (.inl (some (.int 0)), σ31))) (fun e32 σ31x => some (.inr e32, σ31x))) else none) (fun e29 σ28x => some (.inr e29, σ28x))) else none) (fun e24 σ23x => some (.inr e24, σ23x)) := (exec_eq PP 65 371 603 _ _ σ).trans rfl
set_option maxRecDepth 200000 in
theorem e_371_671 (a0 : Nat) (a1 : Nat) (a2 : Nat) (a3 : Nat) (x4 : Int32) (o5 : Option Value) (o6 : Option Value) (σ : SH) : exec PP 65 371 671 [some (.ref a0), some (.ref a1), some (.ref a2), some (.ref a3), some (.int x4), o5, o6] [] σ =
  aI σ 4 (.ref a0) (x4 + 1) fun x21 =>
  aI σ 4 (.ref a0) (x4 + 2) fun x22 =>
  onI (rn 334 [.ref a1, .int x21, .int x22, .ref a3] σ) (fun x25 σ23 =>
  aI σ23 4 (.ref a0) (x4 + 1) fun x26 =>
    aI σ23 4 (.ref a0) (x4 + 2) fun x27 =>
    if sT σ23 a2 = 112 then (onI (rn 263 [.ref a2, .int x26, .int x27] σ23) (fun x30 σ28 =>
    if sT σ28 a2 = 112 then (onI (rn 177 [.ref a2] σ28) (fun x33 σ31 =>
      if (x33 = x25 : Prop) then (exec PP 65 371 719 [some (.ref a0), some (.ref a1), some (.ref a2), some (.ref a3), some (.int x4), some (.int x25), some (.int x30)] [] σ31)
        else (some (.inl (some (.int 0)), σ31))) (fun e32 σ31x => some (.inr e32, σ31x))) else none) (fun e29 σ28x => some (.inr e29, σ28x))) else none) (fun e24 σ23x => some (.inr e24, σ23x)) := (exec_eq PP 65 371 671 _ _ σ).trans rfl
set_option maxRecDepth 200000 in
theorem e_371_739 (a0 : Nat) (a1 : Nat) (a2 : Nat) (a3 : Nat) (x4 : Int32) (o5 : Option Value) (o6 : Option Value) (σ : SH) : exec PP 65 371 739 [some (.ref a0), some (.ref a1), some (.ref a2), some (.ref a3), some (.int x4), o5, o6] [] σ =
  aI σ 4 (.ref a0) (x4 + 1) fun x21 =>
  aI σ 4 (.ref a0) (x4 + 2) fun x22 =>
  aI σ 4 (.ref a0) (x4 + 3) fun x23 =>
  onI (rn 335 [.ref a1, .int x21, .int x22, .int x23, .ref a3] σ) (fun x26 σ24 =>
  aI σ24 4 (.ref a0) (x4 + 1) fun x27 =>
    aI σ24 4 (.ref a0) (x4 + 2) fun x28 =>
    aI σ24 4 (.ref a0) (x4 + 3) fun x29 =>
    if sT σ24 a2 = 112 then (onI (rn 265 [.ref a2, .int x27, .int x28, .int x29] σ24) (fun x32 σ30 =>
    if sT σ30 a2 = 112 then (onI (rn 177 [.ref a2] σ30) (fun x35 σ33 =>
      if (x35 = x26 : Prop) then (exec PP 65 371 799 [some (.ref a0), some (.ref a1), some (.ref a2), some (.ref a3), some (.int x4), some (.int x26), some (.int x32)] [] σ33)
        else (some (.inl (some (.int 0)), σ33))) (fun e34 σ33x => some (.inr e34, σ33x))) else none) (fun e31 σ30x => some (.inr e31, σ30x))) else none) (fun e25 σ24x => some (.inr e25, σ24x)) := (exec_eq PP 65 371 739 _ _ σ).trans rfl
set_option maxRecDepth 200000 in
theorem e_371_819 (a0 : Nat) (a1 : Nat) (a2 : Nat) (a3 : Nat) (x4 : Int32) (o5 : Option Value) (o6 : Option Value) (σ : SH) : exec PP 65 371 819 [some (.ref a0), some (.ref a1), some (.ref a2), some (.ref a3), some (.int x4), o5, o6] [] σ =
  aI σ 4 (.ref a0) (x4 + 1) fun x21 =>
  aI σ 4 (.ref a0) (x4 + 2) fun x22 =>
  onI (rn 336 [.ref a1, .int x21, .int x22, .ref a3] σ) (fun x25 σ23 =>
  aI σ23 4 (.ref a0) (x4 + 1) fun x26 =>
    aI σ23 4 (.ref a0) (x4 + 2) fun x27 =>
    if sT σ23 a2 = 112 then (onI (rn 267 [.ref a2, .int x26, .int x27] σ23) (fun x30 σ28 =>
    if sT σ28 a2 = 112 then (onI (rn 177 [.ref a2] σ28) (fun x33 σ31 =>
      if (x33 = x25 : Prop) then (exec PP 65 371 867 [some (.ref a0), some (.ref a1), some (.ref a2), some (.ref a3), some (.int x4), some (.int x25), some (.int x30)] [] σ31)
        else (some (.inl (some (.int 0)), σ31))) (fun e32 σ31x => some (.inr e32, σ31x))) else none) (fun e29 σ28x => some (.inr e29, σ28x))) else none) (fun e24 σ23x => some (.inr e24, σ23x)) := (exec_eq PP 65 371 819 _ _ σ).trans rfl
set_option maxRecDepth 200000 in
theorem e_371_887 (a0 : Nat) (a1 : Nat) (a2 : Nat) (a3 : Nat) (x4 : Int32) (o5 : Option Value) (o6 : Option Value) (σ : SH) : exec PP 65 371 887 [some (.ref a0), some (.ref a1), some (.ref a2), some (.ref a3), some (.int x4), o5, o6] [] σ =
  aI σ 4 (.ref a0) (x4 + 1) fun x21 =>
  aI σ 4 (.ref a0) (x4 + 2) fun x22 =>
  onI (rn 337 [.ref a1, .int x21, .int x22, .ref a3] σ) (fun x25 σ23 =>
  aI σ23 4 (.ref a0) (x4 + 1) fun x26 =>
    aI σ23 4 (.ref a0) (x4 + 2) fun x27 =>
    if sT σ23 a2 = 112 then (onI (rn 269 [.ref a2, .int x26, .int x27] σ23) (fun x30 σ28 =>
    if sT σ28 a2 = 112 then (onI (rn 177 [.ref a2] σ28) (fun x33 σ31 =>
      if (x33 = x25 : Prop) then (exec PP 65 371 935 [some (.ref a0), some (.ref a1), some (.ref a2), some (.ref a3), some (.int x4), some (.int x25), some (.int x30)] [] σ31)
        else (some (.inl (some (.int 0)), σ31))) (fun e32 σ31x => some (.inr e32, σ31x))) else none) (fun e29 σ28x => some (.inr e29, σ28x))) else none) (fun e24 σ23x => some (.inr e24, σ23x)) := (exec_eq PP 65 371 887 _ _ σ).trans rfl
set_option maxRecDepth 200000 in
theorem e_371_955 (a0 : Nat) (a1 : Nat) (a2 : Nat) (a3 : Nat) (x4 : Int32) (o5 : Option Value) (o6 : Option Value) (σ : SH) : exec PP 65 371 955 [some (.ref a0), some (.ref a1), some (.ref a2), some (.ref a3), some (.int x4), o5, o6] [] σ =
  aI σ 4 (.ref a0) (x4 + 1) fun x21 =>
  aI σ 4 (.ref a0) (x4 + 2) fun x22 =>
  onI (rn 338 [.ref a1, .int x21, .int x22, .ref a3] σ) (fun x25 σ23 =>
  aI σ23 4 (.ref a0) (x4 + 1) fun x26 =>
    aI σ23 4 (.ref a0) (x4 + 2) fun x27 =>
    if sT σ23 a2 = 112 then (onI (rn 271 [.ref a2, .int x26, .int x27] σ23) (fun x30 σ28 =>
    if sT σ28 a2 = 112 then (onI (rn 177 [.ref a2] σ28) (fun x33 σ31 =>
      if (x33 = x25 : Prop) then (exec PP 65 371 1003 [some (.ref a0), some (.ref a1), some (.ref a2), some (.ref a3), some (.int x4), some (.int x25), some (.int x30)] [] σ31)
        else (some (.inl (some (.int 0)), σ31))) (fun e32 σ31x => some (.inr e32, σ31x))) else none) (fun e29 σ28x => some (.inr e29, σ28x))) else none) (fun e24 σ23x => some (.inr e24, σ23x)) := (exec_eq PP 65 371 955 _ _ σ).trans rfl
set_option maxRecDepth 200000 in
theorem e_371_1023 (a0 : Nat) (a1 : Nat) (a2 : Nat) (a3 : Nat) (x4 : Int32) (o5 : Option Value) (o6 : Option Value) (σ : SH) : exec PP 65 371 1023 [some (.ref a0), some (.ref a1), some (.ref a2), some (.ref a3), some (.int x4), o5, o6] [] σ =
  aI σ 4 (.ref a0) (x4 + 1) fun x21 =>
  aI σ 4 (.ref a0) (x4 + 2) fun x22 =>
  onI (rn 339 [.ref a1, .int x21, .int x22, .ref a3] σ) (fun x25 σ23 =>
  aI σ23 4 (.ref a0) (x4 + 1) fun x26 =>
    aI σ23 4 (.ref a0) (x4 + 2) fun x27 =>
    if sT σ23 a2 = 112 then (onI (rn 272 [.ref a2, .int x26, .int x27] σ23) (fun x30 σ28 =>
    if sT σ28 a2 = 112 then (onI (rn 177 [.ref a2] σ28) (fun x33 σ31 =>
      if (x33 = x25 : Prop) then (exec PP 65 371 1071 [some (.ref a0), some (.ref a1), some (.ref a2), some (.ref a3), some (.int x4), some (.int x25), some (.int x30)] [] σ31)
        else (some (.inl (some (.int 0)), σ31))) (fun e32 σ31x => some (.inr e32, σ31x))) else none) (fun e29 σ28x => some (.inr e29, σ28x))) else none) (fun e24 σ23x => some (.inr e24, σ23x)) := (exec_eq PP 65 371 1023 _ _ σ).trans rfl
set_option maxRecDepth 200000 in
theorem e_371_1091 (a0 : Nat) (a1 : Nat) (a2 : Nat) (a3 : Nat) (x4 : Int32) (o5 : Option Value) (o6 : Option Value) (σ : SH) : exec PP 65 371 1091 [some (.ref a0), some (.ref a1), some (.ref a2), some (.ref a3), some (.int x4), o5, o6] [] σ =
  aI σ 4 (.ref a0) (x4 + 1) fun x21 =>
  onI (rn 340 [.ref a1, .int x21, .ref a3] σ) (fun x24 σ22 =>
  aI σ22 4 (.ref a0) (x4 + 1) fun x25 =>
    if sT σ22 a2 = 112 then (onI (rn 273 [.ref a2, .int x25] σ22) (fun x28 σ26 =>
    if sT σ26 a2 = 112 then (onI (rn 177 [.ref a2] σ26) (fun x31 σ29 =>
      if (x31 = x24 : Prop) then (exec PP 65 371 1127 [some (.ref a0), some (.ref a1), some (.ref a2), some (.ref a3), some (.int x4), some (.int x24), some (.int x28)] [] σ29)
        else (some (.inl (some (.int 0)), σ29))) (fun e30 σ29x => some (.inr e30, σ29x))) else none) (fun e27 σ26x => some (.inr e27, σ26x))) else none) (fun e23 σ22x => some (.inr e23, σ22x)) := (exec_eq PP 65 371 1091 _ _ σ).trans rfl
set_option maxRecDepth 200000 in
theorem e_371_1147 (a0 : Nat) (a1 : Nat) (a2 : Nat) (a3 : Nat) (x4 : Int32) (o5 : Option Value) (o6 : Option Value) (σ : SH) : exec PP 65 371 1147 [some (.ref a0), some (.ref a1), some (.ref a2), some (.ref a3), some (.int x4), o5, o6] [] σ =
  aI σ 4 (.ref a0) (x4 + 1) fun x21 =>
  onI (rn 341 [.ref a1, .int x21, .ref a3] σ) (fun x24 σ22 =>
  aI σ22 4 (.ref a0) (x4 + 1) fun x25 =>
    if sT σ22 a2 = 112 then (onI (rn 274 [.ref a2, .int x25] σ22) (fun x28 σ26 =>
    if sT σ26 a2 = 112 then (onI (rn 177 [.ref a2] σ26) (fun x31 σ29 =>
      if (x31 = x24 : Prop) then (exec PP 65 371 1183 [some (.ref a0), some (.ref a1), some (.ref a2), some (.ref a3), some (.int x4), some (.int x24), some (.int x28)] [] σ29)
        else (some (.inl (some (.int 0)), σ29))) (fun e30 σ29x => some (.inr e30, σ29x))) else none) (fun e27 σ26x => some (.inr e27, σ26x))) else none) (fun e23 σ22x => some (.inr e23, σ22x)) := (exec_eq PP 65 371 1147 _ _ σ).trans rfl
set_option maxRecDepth 200000 in
theorem e_371_1203 (a0 : Nat) (a1 : Nat) (a2 : Nat) (a3 : Nat) (x4 : Int32) (o5 : Option Value) (o6 : Option Value) (σ : SH) : exec PP 65 371 1203 [some (.ref a0), some (.ref a1), some (.ref a2), some (.ref a3), some (.int x4), o5, o6] [] σ =
  aI σ 4 (.ref a0) (x4 + 1) fun x21 =>
  onI (rn 342 [.ref a1, .int x21, .ref a3] σ) (fun x24 σ22 =>
  aI σ22 4 (.ref a0) (x4 + 1) fun x25 =>
    if sT σ22 a2 = 112 then (onI (rn 275 [.ref a2, .int x25] σ22) (fun x28 σ26 =>
    if sT σ26 a2 = 112 then (onI (rn 177 [.ref a2] σ26) (fun x31 σ29 =>
      if (x31 = x24 : Prop) then (exec PP 65 371 1239 [some (.ref a0), some (.ref a1), some (.ref a2), some (.ref a3), some (.int x4), some (.int x24), some (.int x28)] [] σ29)
        else (some (.inl (some (.int 0)), σ29))) (fun e30 σ29x => some (.inr e30, σ29x))) else none) (fun e27 σ26x => some (.inr e27, σ26x))) else none) (fun e23 σ22x => some (.inr e23, σ22x)) := (exec_eq PP 65 371 1203 _ _ σ).trans rfl
set_option maxRecDepth 200000 in
theorem e_371_1259 (a0 : Nat) (a1 : Nat) (a2 : Nat) (a3 : Nat) (x4 : Int32) (o5 : Option Value) (o6 : Option Value) (σ : SH) : exec PP 65 371 1259 [some (.ref a0), some (.ref a1), some (.ref a2), some (.ref a3), some (.int x4), o5, o6] [] σ =
  aI σ 4 (.ref a0) (x4 + 1) fun x21 =>
  onI (rn 343 [.ref a1, .int x21, .ref a3] σ) (fun x24 σ22 =>
  aI σ22 4 (.ref a0) (x4 + 1) fun x25 =>
    if sT σ22 a2 = 112 then (onI (rn 222 [.ref a2, .int x25] σ22) (fun x28 σ26 =>
    if sT σ26 a2 = 112 then (onI (rn 177 [.ref a2] σ26) (fun x31 σ29 =>
      if (x31 = x24 : Prop) then (exec PP 65 371 1295 [some (.ref a0), some (.ref a1), some (.ref a2), some (.ref a3), some (.int x4), some (.int x24), some (.int x28)] [] σ29)
        else (some (.inl (some (.int 0)), σ29))) (fun e30 σ29x => some (.inr e30, σ29x))) else none) (fun e27 σ26x => some (.inr e27, σ26x))) else none) (fun e23 σ22x => some (.inr e23, σ22x)) := (exec_eq PP 65 371 1259 _ _ σ).trans rfl
set_option maxRecDepth 200000 in
theorem e_371_1315 (a0 : Nat) (a1 : Nat) (a2 : Nat) (a3 : Nat) (x4 : Int32) (o5 : Option Value) (o6 : Option Value) (σ : SH) : exec PP 65 371 1315 [some (.ref a0), some (.ref a1), some (.ref a2), some (.ref a3), some (.int x4), o5, o6] [] σ =
  aI σ 4 (.ref a0) (x4 + 1) fun x21 =>
  onI (rn 344 [.ref a1, .int x21, .ref a3] σ) (fun x24 σ22 =>
  aI σ22 4 (.ref a0) (x4 + 1) fun x25 =>
    if sT σ22 a2 = 112 then (onI (rn 225 [.ref a2, .int x25] σ22) (fun x28 σ26 =>
    if sT σ26 a2 = 112 then (onI (rn 177 [.ref a2] σ26) (fun x31 σ29 =>
      if (x31 = x24 : Prop) then (exec PP 65 371 1351 [some (.ref a0), some (.ref a1), some (.ref a2), some (.ref a3), some (.int x4), some (.int x24), some (.int x28)] [] σ29)
        else (some (.inl (some (.int 0)), σ29))) (fun e30 σ29x => some (.inr e30, σ29x))) else none) (fun e27 σ26x => some (.inr e27, σ26x))) else none) (fun e23 σ22x => some (.inr e23, σ22x)) := (exec_eq PP 65 371 1315 _ _ σ).trans rfl
set_option maxRecDepth 200000 in
theorem e_371_1371 (a0 : Nat) (a1 : Nat) (a2 : Nat) (a3 : Nat) (x4 : Int32) (o5 : Option Value) (o6 : Option Value) (σ : SH) : exec PP 65 371 1371 [some (.ref a0), some (.ref a1), some (.ref a2), some (.ref a3), some (.int x4), o5, o6] [] σ =
  aI σ 4 (.ref a0) (x4 + 1) fun x21 =>
  aI σ 4 (.ref a0) (x4 + 2) fun x22 =>
  onI (rn 345 [.ref a1, .int x21, .int x22, .ref a3] σ) (fun x25 σ23 =>
  aI σ23 4 (.ref a0) (x4 + 1) fun x26 =>
    aI σ23 4 (.ref a0) (x4 + 2) fun x27 =>
    if sT σ23 a2 = 112 then (onI (rn 227 [.ref a2, .int x26, .int x27] σ23) (fun x30 σ28 =>
    if sT σ28 a2 = 112 then (onI (rn 177 [.ref a2] σ28) (fun x33 σ31 =>
      if (x33 = x25 : Prop) then (exec PP 65 371 1419 [some (.ref a0), some (.ref a1), some (.ref a2), some (.ref a3), some (.int x4), some (.int x25), some (.int x30)] [] σ31)
        else (some (.inl (some (.int 0)), σ31))) (fun e32 σ31x => some (.inr e32, σ31x))) else none) (fun e29 σ28x => some (.inr e29, σ28x))) else none) (fun e24 σ23x => some (.inr e24, σ23x)) := (exec_eq PP 65 371 1371 _ _ σ).trans rfl
set_option maxRecDepth 200000 in
theorem e_371_1439 (a0 : Nat) (a1 : Nat) (a2 : Nat) (a3 : Nat) (x4 : Int32) (o5 : Option Value) (o6 : Option Value) (σ : SH) : exec PP 65 371 1439 [some (.ref a0), some (.ref a1), some (.ref a2), some (.ref a3), some (.int x4), o5, o6] [] σ =
  aI σ 4 (.ref a0) (x4 + 1) fun x21 =>
  aI σ 4 (.ref a0) (x4 + 2) fun x22 =>
  onI (rn 346 [.ref a1, .int x21, .int x22, .ref a3] σ) (fun x25 σ23 =>
  aI σ23 4 (.ref a0) (x4 + 1) fun x26 =>
    aI σ23 4 (.ref a0) (x4 + 2) fun x27 =>
    if sT σ23 a2 = 112 then (onI (rn 231 [.ref a2, .int x26, .int x27] σ23) (fun x30 σ28 =>
    if sT σ28 a2 = 112 then (onI (rn 177 [.ref a2] σ28) (fun x33 σ31 =>
      if (x33 = x25 : Prop) then (exec PP 65 371 1487 [some (.ref a0), some (.ref a1), some (.ref a2), some (.ref a3), some (.int x4), some (.int x25), some (.int x30)] [] σ31)
        else (some (.inl (some (.int 0)), σ31))) (fun e32 σ31x => some (.inr e32, σ31x))) else none) (fun e29 σ28x => some (.inr e29, σ28x))) else none) (fun e24 σ23x => some (.inr e24, σ23x)) := (exec_eq PP 65 371 1439 _ _ σ).trans rfl
set_option maxRecDepth 200000 in
theorem e_371_1514 (a0 : Nat) (a1 : Nat) (a2 : Nat) (a3 : Nat) (x4 : Int32) (o5 : Option Value) (o6 : Option Value) (σ : SH) : exec PP 65 371 1514 [some (.ref a0), some (.ref a1), some (.ref a2), some (.ref a3), some (.int x4), o5, o6] [] σ =
  aI σ 4 (.ref a0) (x4 + 1) fun x21 =>
  aI σ 4 (.ref a0) (x4 + 2) fun x22 =>
  onI (rn 347 [.ref a1, .int x21, .int x22, .ref a3] σ) (fun x25 σ23 =>
  aI σ23 4 (.ref a0) (x4 + 1) fun x26 =>
    aI σ23 4 (.ref a0) (x4 + 2) fun x27 =>
    if sT σ23 a2 = 112 then (onI (rn 235 [.ref a2, .int x26, .int x27] σ23) (fun x30 σ28 =>
    if sT σ28 a2 = 112 then (onI (rn 177 [.ref a2] σ28) (fun x33 σ31 =>
      if (x33 = x25 : Prop) then (exec PP 65 371 1562 [some (.ref a0), some (.ref a1), some (.ref a2), some (.ref a3), some (.int x4), some (.int x25), some (.int x30)] [] σ31)
        else (some (.inl (some (.int 0)), σ31))) (fun e32 σ31x => some (.inr e32, σ31x))) else none) (fun e29 σ28x => some (.inr e29, σ28x))) else none) (fun e24 σ23x => some (.inr e24, σ23x)) := (exec_eq PP 65 371 1514 _ _ σ).trans rfl
set_option maxRecDepth 200000 in
theorem e_371_1582 (a0 : Nat) (a1 : Nat) (a2 : Nat) (a3 : Nat) (x4 : Int32) (o5 : Option Value) (o6 : Option Value) (σ : SH) : exec PP 65 371 1582 [some (.ref a0), some (.ref a1), some (.ref a2), some (.ref a3), some (.int x4), o5, o6] [] σ =
  aI σ 4 (.ref a0) (x4 + 1) fun x21 =>
  aI σ 4 (.ref a0) (x4 + 2) fun x22 =>
  onI (rn 348 [.ref a1, .int x21, .int x22, .ref a3] σ) (fun x25 σ23 =>
  aI σ23 4 (.ref a0) (x4 + 1) fun x26 =>
    aI σ23 4 (.ref a0) (x4 + 2) fun x27 =>
    if sT σ23 a2 = 112 then (onI (rn 236 [.ref a2, .int x26, .int x27] σ23) (fun x30 σ28 =>
    if sT σ28 a2 = 112 then (onI (rn 177 [.ref a2] σ28) (fun x33 σ31 =>
      if (x33 = x25 : Prop) then (exec PP 65 371 1630 [some (.ref a0), some (.ref a1), some (.ref a2), some (.ref a3), some (.int x4), some (.int x25), some (.int x30)] [] σ31)
        else (some (.inl (some (.int 0)), σ31))) (fun e32 σ31x => some (.inr e32, σ31x))) else none) (fun e29 σ28x => some (.inr e29, σ28x))) else none) (fun e24 σ23x => some (.inr e24, σ23x)) := (exec_eq PP 65 371 1582 _ _ σ).trans rfl
set_option maxRecDepth 200000 in
theorem e_371_1650 (a0 : Nat) (a1 : Nat) (a2 : Nat) (a3 : Nat) (x4 : Int32) (o5 : Option Value) (o6 : Option Value) (σ : SH) : exec PP 65 371 1650 [some (.ref a0), some (.ref a1), some (.ref a2), some (.ref a3), some (.int x4), o5, o6] [] σ =
  aI σ 4 (.ref a0) (x4 + 1) fun x21 =>
  aI σ 4 (.ref a0) (x4 + 2) fun x22 =>
  aI σ 4 (.ref a0) (x4 + 3) fun x23 =>
  onI (rn 349 [.ref a1, .int x21, .int x22, .int x23, .ref a3] σ) (fun x26 σ24 =>
  aI σ24 4 (.ref a0) (x4 + 1) fun x27 =>
    aI σ24 4 (.ref a0) (x4 + 2) fun x28 =>
    aI σ24 4 (.ref a0) (x4 + 3) fun x29 =>
    if sT σ24 a2 = 112 then (onI (rn 238 [.ref a2, .int x27, .int x28, .int x29] σ24) (fun x32 σ30 =>
    if sT σ30 a2 = 112 then (onI (rn 177 [.ref a2] σ30) (fun x35 σ33 =>
      if (x35 = x26 : Prop) then (exec PP 65 371 1710 [some (.ref a0), some (.ref a1), some (.ref a2), some (.ref a3), some (.int x4), some (.int x26), some (.int x32)] [] σ33)
        else (some (.inl (some (.int 0)), σ33))) (fun e34 σ33x => some (.inr e34, σ33x))) else none) (fun e31 σ30x => some (.inr e31, σ30x))) else none) (fun e25 σ24x => some (.inr e25, σ24x)) := (exec_eq PP 65 371 1650 _ _ σ).trans rfl
set_option maxRecDepth 200000 in
theorem e_371_1730 (a0 : Nat) (a1 : Nat) (a2 : Nat) (a3 : Nat) (x4 : Int32) (o5 : Option Value) (o6 : Option Value) (σ : SH) : exec PP 65 371 1730 [some (.ref a0), some (.ref a1), some (.ref a2), some (.ref a3), some (.int x4), o5, o6] [] σ =
  aI σ 4 (.ref a0) (x4 + 1) fun x21 =>
  aI σ 4 (.ref a0) (x4 + 2) fun x22 =>
  onI (rn 350 [.ref a1, .int x21, .int x22, .ref a3] σ) (fun x25 σ23 =>
  aI σ23 4 (.ref a0) (x4 + 1) fun x26 =>
    aI σ23 4 (.ref a0) (x4 + 2) fun x27 =>
    if sT σ23 a2 = 112 then (onI (rn 241 [.ref a2, .int x26, .int x27] σ23) (fun x30 σ28 =>
    if sT σ28 a2 = 112 then (onI (rn 177 [.ref a2] σ28) (fun x33 σ31 =>
      if (x33 = x25 : Prop) then (exec PP 65 371 1778 [some (.ref a0), some (.ref a1), some (.ref a2), some (.ref a3), some (.int x4), some (.int x25), some (.int x30)] [] σ31)
        else (some (.inl (some (.int 0)), σ31))) (fun e32 σ31x => some (.inr e32, σ31x))) else none) (fun e29 σ28x => some (.inr e29, σ28x))) else none) (fun e24 σ23x => some (.inr e24, σ23x)) := (exec_eq PP 65 371 1730 _ _ σ).trans rfl
set_option maxRecDepth 200000 in
theorem e_371_1798 (a0 : Nat) (a1 : Nat) (a2 : Nat) (a3 : Nat) (x4 : Int32) (o5 : Option Value) (o6 : Option Value) (σ : SH) : exec PP 65 371 1798 [some (.ref a0), some (.ref a1), some (.ref a2), some (.ref a3), some (.int x4), o5, o6] [] σ =
  aI σ 4 (.ref a0) (x4 + 1) fun x21 =>
  aI σ 4 (.ref a0) (x4 + 2) fun x22 =>
  onI (rn 351 [.ref a1, .int x21, .int x22, .ref a3] σ) (fun x25 σ23 =>
  aI σ23 4 (.ref a0) (x4 + 1) fun x26 =>
    aI σ23 4 (.ref a0) (x4 + 2) fun x27 =>
    if sT σ23 a2 = 112 then (onI (rn 242 [.ref a2, .int x26, .int x27] σ23) (fun x30 σ28 =>
    if sT σ28 a2 = 112 then (onI (rn 177 [.ref a2] σ28) (fun x33 σ31 =>
      if (x33 = x25 : Prop) then (exec PP 65 371 1846 [some (.ref a0), some (.ref a1), some (.ref a2), some (.ref a3), some (.int x4), some (.int x25), some (.int x30)] [] σ31)
        else (some (.inl (some (.int 0)), σ31))) (fun e32 σ31x => some (.inr e32, σ31x))) else none) (fun e29 σ28x => some (.inr e29, σ28x))) else none) (fun e24 σ23x => some (.inr e24, σ23x)) := (exec_eq PP 65 371 1798 _ _ σ).trans rfl
set_option maxRecDepth 200000 in
theorem e_371_1866 (a0 : Nat) (a1 : Nat) (a2 : Nat) (a3 : Nat) (x4 : Int32) (o5 : Option Value) (o6 : Option Value) (σ : SH) : exec PP 65 371 1866 [some (.ref a0), some (.ref a1), some (.ref a2), some (.ref a3), some (.int x4), o5, o6] [] σ =
  aI σ 4 (.ref a0) (x4 + 1) fun x21 =>
  aI σ 4 (.ref a0) (x4 + 2) fun x22 =>
  aI σ 4 (.ref a0) (x4 + 3) fun x23 =>
  onI (rn 352 [.ref a1, .int x21, .int x22, .int x23, .ref a3] σ) (fun x26 σ24 =>
  aI σ24 4 (.ref a0) (x4 + 1) fun x27 =>
    aI σ24 4 (.ref a0) (x4 + 2) fun x28 =>
    aI σ24 4 (.ref a0) (x4 + 3) fun x29 =>
    if sT σ24 a2 = 112 then (onI (rn 243 [.ref a2, .int x27, .int x28, .int x29] σ24) (fun x32 σ30 =>
    if sT σ30 a2 = 112 then (onI (rn 177 [.ref a2] σ30) (fun x35 σ33 =>
      if (x35 = x26 : Prop) then (exec PP 65 371 1926 [some (.ref a0), some (.ref a1), some (.ref a2), some (.ref a3), some (.int x4), some (.int x26), some (.int x32)] [] σ33)
        else (some (.inl (some (.int 0)), σ33))) (fun e34 σ33x => some (.inr e34, σ33x))) else none) (fun e31 σ30x => some (.inr e31, σ30x))) else none) (fun e25 σ24x => some (.inr e25, σ24x)) := (exec_eq PP 65 371 1866 _ _ σ).trans rfl
set_option maxRecDepth 200000 in
theorem e_371_1946 (a0 : Nat) (a1 : Nat) (a2 : Nat) (a3 : Nat) (x4 : Int32) (o5 : Option Value) (o6 : Option Value) (σ : SH) : exec PP 65 371 1946 [some (.ref a0), some (.ref a1), some (.ref a2), some (.ref a3), some (.int x4), o5, o6] [] σ =
  aI σ 4 (.ref a0) (x4 + 1) fun x21 =>
  aI σ 4 (.ref a0) (x4 + 2) fun x22 =>
  onI (rn 353 [.ref a1, .int x21, .int x22, .ref a3] σ) (fun x25 σ23 =>
  aI σ23 4 (.ref a0) (x4 + 1) fun x26 =>
    aI σ23 4 (.ref a0) (x4 + 2) fun x27 =>
    if sT σ23 a2 = 112 then (onI (rn 284 [.ref a2, .int x26, .int x27] σ23) (fun x30 σ28 =>
    if sT σ28 a2 = 112 then (onI (rn 177 [.ref a2] σ28) (fun x33 σ31 =>
      if (x33 = x25 : Prop) then (exec PP 65 371 1994 [some (.ref a0), some (.ref a1), some (.ref a2), some (.ref a3), some (.int x4), some (.int x25), some (.int x30)] [] σ31)
        else (some (.inl (some (.int 0)), σ31))) (fun e32 σ31x => some (.inr e32, σ31x))) else none) (fun e29 σ28x => some (.inr e29, σ28x))) else none) (fun e24 σ23x => some (.inr e24, σ23x)) := (exec_eq PP 65 371 1946 _ _ σ).trans rfl
set_option maxRecDepth 200000 in
theorem e_371_2014 (a0 : Nat) (a1 : Nat) (a2 : Nat) (a3 : Nat) (x4 : Int32) (o5 : Option Value) (o6 : Option Value) (σ : SH) : exec PP 65 371 2014 [some (.ref a0), some (.ref a1), some (.ref a2), some (.ref a3), some (.int x4), o5, o6] [] σ =
  aI σ 4 (.ref a0) (x4 + 1) fun x21 =>
  onI (rn 354 [.ref a1, .int x21, .ref a3] σ) (fun x24 σ22 =>
  aI σ22 4 (.ref a0) (x4 + 1) fun x25 =>
    if sT σ22 a2 = 112 then (onI (rn 286 [.ref a2, .int x25] σ22) (fun x28 σ26 =>
    if sT σ26 a2 = 112 then (onI (rn 177 [.ref a2] σ26) (fun x31 σ29 =>
      if (x31 = x24 : Prop) then (exec PP 65 371 2050 [some (.ref a0), some (.ref a1), some (.ref a2), some (.ref a3), some (.int x4), some (.int x24), some (.int x28)] [] σ29)
        else (some (.inl (some (.int 0)), σ29))) (fun e30 σ29x => some (.inr e30, σ29x))) else none) (fun e27 σ26x => some (.inr e27, σ26x))) else none) (fun e23 σ22x => some (.inr e23, σ22x)) := (exec_eq PP 65 371 2014 _ _ σ).trans rfl
set_option maxRecDepth 200000 in
theorem e_371_2070 (a0 : Nat) (a1 : Nat) (a2 : Nat) (a3 : Nat) (x4 : Int32) (o5 : Option Value) (o6 : Option Value) (σ : SH) : exec PP 65 371 2070 [some (.ref a0), some (.ref a1), some (.ref a2), some (.ref a3), some (.int x4), o5, o6] [] σ =
  aI σ 4 (.ref a0) (x4 + 1) fun x21 =>
  aI σ 4 (.ref a0) (x4 + 2) fun x22 =>
  onI (rn 355 [.ref a1, .int x21, .int x22, .ref a3] σ) (fun x25 σ23 =>
  aI σ23 4 (.ref a0) (x4 + 1) fun x26 =>
    aI σ23 4 (.ref a0) (x4 + 2) fun x27 =>
    if sT σ23 a2 = 112 then (onI (rn 288 [.ref a2, .int x26, .int x27] σ23) (fun x30 σ28 =>
    if sT σ28 a2 = 112 then (onI (rn 177 [.ref a2] σ28) (fun x33 σ31 =>
      if (x33 = x25 : Prop) then (exec PP 65 371 2118 [some (.ref a0), some (.ref a1), some (.ref a2), some (.ref a3), some (.int x4), some (.int x25), some (.int x30)] [] σ31)
        else (some (.inl (some (.int 0)), σ31))) (fun e32 σ31x => some (.inr e32, σ31x))) else none) (fun e29 σ28x => some (.inr e29, σ28x))) else none) (fun e24 σ23x => some (.inr e24, σ23x)) := (exec_eq PP 65 371 2070 _ _ σ).trans rfl
set_option maxRecDepth 200000 in
theorem e_371_2138 (a0 : Nat) (a1 : Nat) (a2 : Nat) (a3 : Nat) (x4 : Int32) (o5 : Option Value) (o6 : Option Value) (σ : SH) : exec PP 65 371 2138 [some (.ref a0), some (.ref a1), some (.ref a2), some (.ref a3), some (.int x4), o5, o6] [] σ =
  aI σ 4 (.ref a0) (x4 + 1) fun x21 =>
  aI σ 4 (.ref a0) (x4 + 2) fun x22 =>
  if (x22 = 0 : Prop) then (exec PP 65 371 2158 [some (.ref a0), some (.ref a1), some (.ref a2), some (.ref a3), some (.int x4), none, none] [.int x21, .ref a1] σ)
  else (exec PP 65 371 2159 [some (.ref a0), some (.ref a1), some (.ref a2), some (.ref a3), some (.int x4), none, none] [.int 1, .int x21, .ref a1] σ) := (exec_eq PP 65 371 2138 _ _ σ).trans rfl
set_option maxRecDepth 200000 in
theorem e_371_2222 (a0 : Nat) (a1 : Nat) (a2 : Nat) (a3 : Nat) (x4 : Int32) (o5 : Option Value) (o6 : Option Value) (σ : SH) : exec PP 65 371 2222 [some (.ref a0), some (.ref a1), some (.ref a2), some (.ref a3), some (.int x4), o5, o6] [] σ =
  aI σ 4 (.ref a0) (x4 + 1) fun x21 =>
  aI σ 4 (.ref a0) (x4 + 2) fun x22 =>
  onI (rn 357 [.ref a1, .int x21, .int x22, .ref a3] σ) (fun x25 σ23 =>
  aI σ23 4 (.ref a0) (x4 + 1) fun x26 =>
    aI σ23 4 (.ref a0) (x4 + 2) fun x27 =>
    if sT σ23 a2 = 112 then (onI (rn 295 [.ref a2, .int x26, .int x27] σ23) (fun x30 σ28 =>
    if sT σ28 a2 = 112 then (onI (rn 177 [.ref a2] σ28) (fun x33 σ31 =>
      if (x33 = x25 : Prop) then (exec PP 65 371 2270 [some (.ref a0), some (.ref a1), some (.ref a2), some (.ref a3), some (.int x4), some (.int x25), some (.int x30)] [] σ31)
        else (some (.inl (some (.int 0)), σ31))) (fun e32 σ31x => some (.inr e32, σ31x))) else none) (fun e29 σ28x => some (.inr e29, σ28x))) else none) (fun e24 σ23x => some (.inr e24, σ23x)) := (exec_eq PP 65 371 2222 _ _ σ).trans rfl
set_option maxRecDepth 200000 in
theorem e_371_2290 (a0 : Nat) (a1 : Nat) (a2 : Nat) (a3 : Nat) (x4 : Int32) (o5 : Option Value) (o6 : Option Value) (σ : SH) : exec PP 65 371 2290 [some (.ref a0), some (.ref a1), some (.ref a2), some (.ref a3), some (.int x4), o5, o6] [] σ =
  aI σ 4 (.ref a0) (x4 + 1) fun x21 =>
  onI (rn 358 [.ref a1, .int x21, .ref a3] σ) (fun x24 σ22 =>
  aI σ22 4 (.ref a0) (x4 + 1) fun x25 =>
    if sT σ22 a2 = 112 then (onI (rn 298 [.ref a2, .int x25] σ22) (fun x28 σ26 =>
    if sT σ26 a2 = 112 then (onI (rn 177 [.ref a2] σ26) (fun x31 σ29 =>
      if (x31 = x24 : Prop) then (exec PP 65 371 2326 [some (.ref a0), some (.ref a1), some (.ref a2), some (.ref a3), some (.int x4), some (.int x24), some (.int x28)] [] σ29)
        else (some (.inl (some (.int 0)), σ29))) (fun e30 σ29x => some (.inr e30, σ29x))) else none) (fun e27 σ26x => some (.inr e27, σ26x))) else none) (fun e23 σ22x => some (.inr e23, σ22x)) := (exec_eq PP 65 371 2290 _ _ σ).trans rfl
set_option maxRecDepth 200000 in
theorem e_371_2346 (a0 : Nat) (a1 : Nat) (a2 : Nat) (a3 : Nat) (x4 : Int32) (o5 : Option Value) (o6 : Option Value) (σ : SH) : exec PP 65 371 2346 [some (.ref a0), some (.ref a1), some (.ref a2), some (.ref a3), some (.int x4), o5, o6] [] σ =
  aI σ 4 (.ref a0) (x4 + 1) fun x21 =>
  onI (rn 359 [.ref a1, .int x21, .ref a3] σ) (fun x24 σ22 =>
  aI σ22 4 (.ref a0) (x4 + 1) fun x25 =>
    if sT σ22 a2 = 112 then (onI (rn 297 [.ref a2, .int x25] σ22) (fun x28 σ26 =>
    if sT σ26 a2 = 112 then (onI (rn 177 [.ref a2] σ26) (fun x31 σ29 =>
      if (x31 = x24 : Prop) then (exec PP 65 371 2382 [some (.ref a0), some (.ref a1), some (.ref a2), some (.ref a3), some (.int x4), some (.int x24), some (.int x28)] [] σ29)
        else (some (.inl (some (.int 0)), σ29))) (fun e30 σ29x => some (.inr e30, σ29x))) else none) (fun e27 σ26x => some (.inr e27, σ26x))) else none) (fun e23 σ22x => some (.inr e23, σ22x)) := (exec_eq PP 65 371 2346 _ _ σ).trans rfl
set_option maxRecDepth 200000 in
theorem e_371_2402 (a0 : Nat) (a1 : Nat) (a2 : Nat) (a3 : Nat) (x4 : Int32) (o5 : Option Value) (o6 : Option Value) (σ : SH) : exec PP 65 371 2402 [some (.ref a0), some (.ref a1), some (.ref a2), some (.ref a3), some (.int x4), o5, o6] [] σ =
  aI σ 4 (.ref a0) (x4 + 1) fun x21 =>
  aI σ 4 (.ref a0) (x4 + 2) fun x22 =>
  if (x22 = 0 : Prop) then (exec PP 65 371 2422 [some (.ref a0), some (.ref a1), some (.ref a2), some (.ref a3), some (.int x4), none, none] [.int x21, .ref a1] σ)
  else (exec PP 65 371 2423 [some (.ref a0), some (.ref a1), some (.ref a2), some (.ref a3), some (.int x4), none, none] [.int 1, .int x21, .ref a1] σ) := (exec_eq PP 65 371 2402 _ _ σ).trans rfl
set_option maxRecDepth 200000 in
theorem e_371_2486 (a0 : Nat) (a1 : Nat) (a2 : Nat) (a3 : Nat) (x4 : Int32) (o5 : Option Value) (o6 : Option Value) (σ : SH) : exec PP 65 371 2486 [some (.ref a0), some (.ref a1), some (.ref a2), some (.ref a3), some (.int x4), o5, o6] [] σ =
  aI σ 4 (.ref a0) (x4 + 1) fun x21 =>
  onI (rn 361 [.ref a1, .int x21, .ref a3] σ) (fun x24 σ22 =>
  aI σ22 4 (.ref a0) (x4 + 1) fun x25 =>
    if sT σ22 a2 = 112 then (onI (rn 306 [.ref a2, .int x25] σ22) (fun x28 σ26 =>
    if sT σ26 a2 = 112 then (onI (rn 177 [.ref a2] σ26) (fun x31 σ29 =>
      if (x31 = x24 : Prop) then (exec PP 65 371 2522 [some (.ref a0), some (.ref a1), some (.ref a2), some (.ref a3), some (.int x4), some (.int x24), some (.int x28)] [] σ29)
        else (some (.inl (some (.int 0)), σ29))) (fun e30 σ29x => some (.inr e30, σ29x))) else none) (fun e27 σ26x => some (.inr e27, σ26x))) else none) (fun e23 σ22x => some (.inr e23, σ22x)) := (exec_eq PP 65 371 2486 _ _ σ).trans rfl
set_option maxRecDepth 200000 in
theorem e_371_2542 (a0 : Nat) (a1 : Nat) (a2 : Nat) (a3 : Nat) (x4 : Int32) (o5 : Option Value) (o6 : Option Value) (σ : SH) : exec PP 65 371 2542 [some (.ref a0), some (.ref a1), some (.ref a2), some (.ref a3), some (.int x4), o5, o6] [] σ =
  aI σ 4 (.ref a0) (x4 + 1) fun x21 =>
  onI (rn 362 [.ref a1, .int x21, .ref a3] σ) (fun x24 σ22 =>
  aI σ22 4 (.ref a0) (x4 + 1) fun x25 =>
    if sT σ22 a2 = 112 then (onI (rn 244 [.ref a2, .int x25] σ22) (fun x28 σ26 =>
    if sT σ26 a2 = 112 then (onI (rn 177 [.ref a2] σ26) (fun x31 σ29 =>
      if (x31 = x24 : Prop) then (exec PP 65 371 2578 [some (.ref a0), some (.ref a1), some (.ref a2), some (.ref a3), some (.int x4), some (.int x24), some (.int x28)] [] σ29)
        else (some (.inl (some (.int 0)), σ29))) (fun e30 σ29x => some (.inr e30, σ29x))) else none) (fun e27 σ26x => some (.inr e27, σ26x))) else none) (fun e23 σ22x => some (.inr e23, σ22x)) := (exec_eq PP 65 371 2542 _ _ σ).trans rfl
set_option maxRecDepth 200000 in
theorem e_371_2598 (a0 : Nat) (a1 : Nat) (a2 : Nat) (a3 : Nat) (x4 : Int32) (o5 : Option Value) (o6 : Option Value) (σ : SH) : exec PP 65 371 2598 [some (.ref a0), some (.ref a1), some (.ref a2), some (.ref a3), some (.int x4), o5, o6] [] σ =
  aI σ 4 (.ref a0) (x4 + 1) fun x21 =>
  aI σ 4 (.ref a0) (x4 + 2) fun x22 =>
  aI σ 4 (.ref a0) (x4 + 3) fun x23 =>
  aI σ 4 (.ref a0) (x4 + 4) fun x24 =>
  onI (rn 363 [.ref a1, .int x21, .int x22, .int x23, .int x24, .ref a3] σ) (fun x27 σ25 =>
  aI σ25 4 (.ref a0) (x4 + 1) fun x28 =>
    aI σ25 4 (.ref a0) (x4 + 2) fun x29 =>
    aI σ25 4 (.ref a0) (x4 + 3) fun x30 =>
    aI σ25 4 (.ref a0) (x4 + 4) fun x31 =>
    if sT σ25 a2 = 112 then (onI (rn 245 [.ref a2, .int x28, .int x29, .int x30, .int x31] σ25) (fun x34 σ32 =>
    if sT σ32 a2 = 112 then (onI (rn 177 [.ref a2] σ32) (fun x37 σ35 =>
      if (x37 = x27 : Prop) then (exec PP 65 371 2670 [some (.ref a0), some (.ref a1), some (.ref a2), some (.ref a3), some (.int x4), some (.int x27), some (.int x34)] [] σ35)
        else (some (.inl (some (.int 0)), σ35))) (fun e36 σ35x => some (.inr e36, σ35x))) else none) (fun e33 σ32x => some (.inr e33, σ32x))) else none) (fun e26 σ25x => some (.inr e26, σ25x)) := (exec_eq PP 65 371 2598 _ _ σ).trans rfl
set_option maxRecDepth 200000 in
theorem e_371_2690 (a0 : Nat) (a1 : Nat) (a2 : Nat) (a3 : Nat) (x4 : Int32) (o5 : Option Value) (o6 : Option Value) (σ : SH) : exec PP 65 371 2690 [some (.ref a0), some (.ref a1), some (.ref a2), some (.ref a3), some (.int x4), o5, o6] [] σ =
  aI σ 4 (.ref a0) (x4 + 1) fun x21 =>
  aI σ 4 (.ref a0) (x4 + 2) fun x22 =>
  aI σ 4 (.ref a0) (x4 + 3) fun x23 =>
  aI σ 4 (.ref a0) (x4 + 4) fun x24 =>
  onI (rn 364 [.ref a1, .int x21, .int x22, .int x23, .int x24, .ref a3] σ) (fun x27 σ25 =>
  aI σ25 4 (.ref a0) (x4 + 1) fun x28 =>
    aI σ25 4 (.ref a0) (x4 + 2) fun x29 =>
    aI σ25 4 (.ref a0) (x4 + 3) fun x30 =>
    aI σ25 4 (.ref a0) (x4 + 4) fun x31 =>
    if sT σ25 a2 = 112 then (onI (rn 293 [.ref a2, .int x28, .int x29, .int x30, .int x31] σ25) (fun x34 σ32 =>
    if sT σ32 a2 = 112 then (onI (rn 177 [.ref a2] σ32) (fun x37 σ35 =>
      if (x37 = x27 : Prop) then (exec PP 65 371 2762 [some (.ref a0), some (.ref a1), some (.ref a2), some (.ref a3), some (.int x4), some (.int x27), some (.int x34)] [] σ35)
        else (some (.inl (some (.int 0)), σ35))) (fun e36 σ35x => some (.inr e36, σ35x))) else none) (fun e33 σ32x => some (.inr e33, σ32x))) else none) (fun e26 σ25x => some (.inr e26, σ25x)) := (exec_eq PP 65 371 2690 _ _ σ).trans rfl
set_option maxRecDepth 200000 in
theorem e_371_2782 (a0 : Nat) (a1 : Nat) (a2 : Nat) (a3 : Nat) (x4 : Int32) (o5 : Option Value) (o6 : Option Value) (σ : SH) : exec PP 65 371 2782 [some (.ref a0), some (.ref a1), some (.ref a2), some (.ref a3), some (.int x4), o5, o6] [] σ =
  aI σ 4 (.ref a0) (x4 + 1) fun x21 =>
  aI σ 4 (.ref a0) (x4 + 2) fun x22 =>
  aI σ 4 (.ref a0) (x4 + 3) fun x23 =>
  onI (rn 365 [.ref a1, .int x21, .int x22, .int x23, .ref a3] σ) (fun x26 σ24 =>
  aI σ24 4 (.ref a0) (x4 + 1) fun x27 =>
    aI σ24 4 (.ref a0) (x4 + 2) fun x28 =>
    aI σ24 4 (.ref a0) (x4 + 3) fun x29 =>
    if sT σ24 a2 = 112 then (onI (rn 246 [.ref a2, .int x27, .int x28, .int x29] σ24) (fun x32 σ30 =>
    if sT σ30 a2 = 112 then (onI (rn 177 [.ref a2] σ30) (fun x35 σ33 =>
      if (x35 = x26 : Prop) then (exec PP 65 371 2842 [some (.ref a0), some (.ref a1), some (.ref a2), some (.ref a3), some (.int x4), some (.int x26), some (.int x32)] [] σ33)
        else (some (.inl (some (.int 0)), σ33))) (fun e34 σ33x => some (.inr e34, σ33x))) else none) (fun e31 σ30x => some (.inr e31, σ30x))) else none) (fun e25 σ24x => some (.inr e25, σ24x)) := (exec_eq PP 65 371 2782 _ _ σ).trans rfl
set_option maxRecDepth 200000 in
theorem e_371_2862 (a0 : Nat) (a1 : Nat) (a2 : Nat) (a3 : Nat) (x4 : Int32) (o5 : Option Value) (o6 : Option Value) (σ : SH) : exec PP 65 371 2862 [some (.ref a0), some (.ref a1), some (.ref a2), some (.ref a3), some (.int x4), o5, o6] [] σ =
  if sT σ a1 = 111 then (onI (rn 110 [.ref a1] σ) (fun x23 σ21 =>
  if sT σ21 a2 = 112 then (onI (rn 247 [.ref a2] σ21) (fun x26 σ24 =>
    if (x23 = x26 : Prop) then (exec PP 65 371 3376 [some (.ref a0), some (.ref a1), some (.ref a2), some (.ref a3), some (.int x4), none, none] [] σ24)
      else (some (.inl (some (.int 0)), σ24))) (fun e25 σ24x => some (.inr e25, σ24x))) else none) (fun e22 σ21x => some (.inr e22, σ21x))) else none := (exec_eq PP 65 371 2862 _ _ σ).trans rfl
set_option maxRecDepth 200000 in
theorem e_371_2875 (a0 : Nat) (a1 : Nat) (a2 : Nat) (a3 : Nat) (x4 : Int32) (o5 : Option Value) (o6 : Option Value) (σ : SH) : exec PP 65 371 2875 [some (.ref a0), some (.ref a1), some (.ref a2), some (.ref a3), some (.int x4), o5, o6] [] σ =
  if sT σ a1 = 111 then (onI (rn 111 [.ref a1] σ) (fun x23 σ21 =>
  if sT σ21 a2 = 112 then (onI (rn 307 [.ref a2] σ21) (fun x26 σ24 =>
    if (x23 = x26 : Prop) then (exec PP 65 371 3376 [some (.ref a0), some (.ref a1), some (.ref a2), some (.ref a3), some (.int x4), none, none] [] σ24)
      else (some (.inl (some (.int 0)), σ24))) (fun e25 σ24x => some (.inr e25, σ24x))) else none) (fun e22 σ21x => some (.inr e22, σ21x))) else none := (exec_eq PP 65 371 2875 _ _ σ).trans rfl
set_option maxRecDepth 200000 in
theorem e_371_2888 (a0 : Nat) (a1 : Nat) (a2 : Nat) (a3 : Nat) (x4 : Int32) (o5 : Option Value) (o6 : Option Value) (σ : SH) : exec PP 65 371 2888 [some (.ref a0), some (.ref a1), some (.ref a2), some (.ref a3), some (.int x4), o5, o6] [] σ =
  if sT σ a1 = 111 then (onI (rn 112 [.ref a1] σ) (fun x23 σ21 =>
  if sT σ21 a2 = 112 then (onI (rn 308 [.ref a2] σ21) (fun x26 σ24 =>
    if (x23 = x26 : Prop) then (exec PP 65 371 3376 [some (.ref a0), some (.ref a1), some (.ref a2), some (.ref a3), some (.int x4), none, none] [] σ24)
      else (some (.inl (some (.int 0)), σ24))) (fun e25 σ24x => some (.inr e25, σ24x))) else none) (fun e22 σ21x => some (.inr e22, σ21x))) else none := (exec_eq PP 65 371 2888 _ _ σ).trans rfl
set_option maxRecDepth 200000 in
theorem e_371_2901 (a0 : Nat) (a1 : Nat) (a2 : Nat) (a3 : Nat) (x4 : Int32) (o5 : Option Value) (o6 : Option Value) (σ : SH) : exec PP 65 371 2901 [some (.ref a0), some (.ref a1), some (.ref a2), some (.ref a3), some (.int x4), o5, o6] [] σ =
  aI σ 4 (.ref a0) (x4 + 1) fun x21 =>
  aI σ 4 (.ref a0) (x4 + 2) fun x22 =>
  onI (rn 366 [.ref a1, .int x21, .int x22, .ref a3] σ) (fun x25 σ23 =>
  aI σ23 4 (.ref a0) (x4 + 1) fun x26 =>
    aI σ23 4 (.ref a0) (x4 + 2) fun x27 =>
    if sT σ23 a2 = 112 then (onI (rn 281 [.ref a2, .int x26, .int x27] σ23) (fun x30 σ28 =>
    if sT σ28 a2 = 112 then (onI (rn 177 [.ref a2] σ28) (fun x33 σ31 =>
      if (x33 = x25 : Prop) then (exec PP 65 371 2949 [some (.ref a0), some (.ref a1), some (.ref a2), some (.ref a3), some (.int x4), some (.int x25), some (.int x30)] [] σ31)
        else (some (.inl (some (.int 0)), σ31))) (fun e32 σ31x => some (.inr e32, σ31x))) else none) (fun e29 σ28x => some (.inr e29, σ28x))) else none) (fun e24 σ23x => some (.inr e24, σ23x)) := (exec_eq PP 65 371 2901 _ _ σ).trans rfl
set_option maxRecDepth 200000 in
theorem e_371_2969 (a0 : Nat) (a1 : Nat) (a2 : Nat) (a3 : Nat) (x4 : Int32) (o5 : Option Value) (o6 : Option Value) (σ : SH) : exec PP 65 371 2969 [some (.ref a0), some (.ref a1), some (.ref a2), some (.ref a3), some (.int x4), o5, o6] [] σ =
  aI σ 4 (.ref a0) (x4 + 1) fun x21 =>
  aI σ 4 (.ref a0) (x4 + 2) fun x22 =>
  if (x22 = 0 : Prop) then (exec PP 65 371 2989 [some (.ref a0), some (.ref a1), some (.ref a2), some (.ref a3), some (.int x4), none, none] [.int x21, .ref a1] σ)
  else (exec PP 65 371 2990 [some (.ref a0), some (.ref a1), some (.ref a2), some (.ref a3), some (.int x4), none, none] [.int 1, .int x21, .ref a1] σ) := (exec_eq PP 65 371 2969 _ _ σ).trans rfl
set_option maxRecDepth 200000 in
theorem e_371_3053 (a0 : Nat) (a1 : Nat) (a2 : Nat) (a3 : Nat) (x4 : Int32) (o5 : Option Value) (o6 : Option Value) (σ : SH) : exec PP 65 371 3053 [some (.ref a0), some (.ref a1), some (.ref a2), some (.ref a3), some (.int x4), o5, o6] [] σ =
  aI σ 4 (.ref a0) (x4 + 1) fun x21 =>
  aI σ 4 (.ref a0) (x4 + 2) fun x22 =>
  if (x22 = 0 : Prop) then (exec PP 65 371 3073 [some (.ref a0), some (.ref a1), some (.ref a2), some (.ref a3), some (.int x4), none, none] [.int x21, .ref a1] σ)
  else (exec PP 65 371 3074 [some (.ref a0), some (.ref a1), some (.ref a2), some (.ref a3), some (.int x4), none, none] [.int 1, .int x21, .ref a1] σ) := (exec_eq PP 65 371 3053 _ _ σ).trans rfl
set_option maxRecDepth 200000 in
theorem e_371_3137 (a0 : Nat) (a1 : Nat) (a2 : Nat) (a3 : Nat) (x4 : Int32) (o5 : Option Value) (o6 : Option Value) (σ : SH) : exec PP 65 371 3137 [some (.ref a0), some (.ref a1), some (.ref a2), some (.ref a3), some (.int x4), o5, o6] [] σ =
  aI σ 4 (.ref a0) (x4 + 1) fun x21 =>
  aI σ 4 (.ref a0) (x4 + 2) fun x22 =>
  if (x22 = 0 : Prop) then (exec PP 65 371 3157 [some (.ref a0), some (.ref a1), some (.ref a2), some (.ref a3), some (.int x4), none, none] [.int x21, .ref a1] σ)
  else (exec PP 65 371 3158 [some (.ref a0), some (.ref a1), some (.ref a2), some (.ref a3), some (.int x4), none, none] [.int 1, .int x21, .ref a1] σ) := (exec_eq PP 65 371 3137 _ _ σ).trans rfl
set_option maxRecDepth 200000 in
theorem e_371_3221 (a0 : Nat) (a1 : Nat) (a2 : Nat) (a3 : Nat) (x4 : Int32) (o5 : Option Value) (o6 : Option Value) (σ : SH) : exec PP 65 371 3221 [some (.ref a0), some (.ref a1), some (.ref a2), some (.ref a3), some (.int x4), o5, o6] [] σ =
  aI σ 4 (.ref a0) (x4 + 1) fun x21 =>
  aI σ 4 (.ref a0) (x4 + 2) fun x22 =>
  onI (rn 370 [.ref a1, .int x21, .int x22, .ref a3] σ) (fun x25 σ23 =>
  aI σ23 4 (.ref a0) (x4 + 1) fun x26 =>
    aI σ23 4 (.ref a0) (x4 + 2) fun x27 =>
    if sT σ23 a2 = 112 then (onI (rn 314 [.ref a2, .int x26, .int x27] σ23) (fun x30 σ28 =>
    if sT σ28 a2 = 112 then (onI (rn 177 [.ref a2] σ28) (fun x33 σ31 =>
      if (x33 = x25 : Prop) then (exec PP 65 371 3269 [some (.ref a0), some (.ref a1), some (.ref a2), some (.ref a3), some (.int x4), some (.int x25), some (.int x30)] [] σ31)
        else (some (.inl (some (.int 0)), σ31))) (fun e32 σ31x => some (.inr e32, σ31x))) else none) (fun e29 σ28x => some (.inr e29, σ28x))) else none) (fun e24 σ23x => some (.inr e24, σ23x)) := (exec_eq PP 65 371 3221 _ _ σ).trans rfl
set_option maxRecDepth 200000 in
theorem e_371_3289 (a0 : Nat) (a1 : Nat) (a2 : Nat) (a3 : Nat) (x4 : Int32) (o5 : Option Value) (o6 : Option Value) (σ : SH) : exec PP 65 371 3289 [some (.ref a0), some (.ref a1), some (.ref a2), some (.ref a3), some (.int x4), o5, o6] [] σ =
  aI σ 4 (.ref a0) (x4 + 1) fun x21 =>
  if sT σ a1 = 111 then (onI (rn 113 [.ref a1, .int x21] σ) (fun x24 σ22 =>
  aI σ22 4 (.ref a0) (x4 + 1) fun x25 =>
    if sT σ22 a2 = 112 then (onI (rn 315 [.ref a2, .int x25] σ22) (fun x28 σ26 =>
    if (x24 = x28 : Prop) then (exec PP 65 371 3376 [some (.ref a0), some (.ref a1), some (.ref a2), some (.ref a3), some (.int x4), none, none] [] σ26)
      else (some (.inl (some (.int 0)), σ26))) (fun e27 σ26x => some (.inr e27, σ26x))) else none) (fun e23 σ22x => some (.inr e23, σ22x))) else none := (exec_eq PP 65 371 3289 _ _ σ).trans rfl
set_option maxRecDepth 200000 in
theorem e_371_3314 (a0 : Nat) (a1 : Nat) (a2 : Nat) (a3 : Nat) (x4 : Int32) (o5 : Option Value) (o6 : Option Value) (σ : SH) : exec PP 65 371 3314 [some (.ref a0), some (.ref a1), some (.ref a2), some (.ref a3), some (.int x4), o5, o6] [] σ =
  if sT σ a1 = 111 then (onI (rn 114 [.ref a1] σ) (fun x23 σ21 =>
  if sT σ21 a2 = 112 then (onI (rn 181 [.ref a2] σ21) (fun x26 σ24 =>
    if (x23 = x26 : Prop) then (exec PP 65 371 3376 [some (.ref a0), some (.ref a1), some (.ref a2), some (.ref a3), some (.int x4), none, none] [] σ24)
      else (some (.inl (some (.int 0)), σ24))) (fun e25 σ24x => some (.inr e25, σ24x))) else none) (fun e22 σ21x => some (.inr e22, σ21x))) else none := (exec_eq PP 65 371 3314 _ _ σ).trans rfl
set_option maxRecDepth 200000 in
theorem e_371_3327 (a0 : Nat) (a1 : Nat) (a2 : Nat) (a3 : Nat) (x4 : Int32) (o5 : Option Value) (o6 : Option Value) (σ : SH) : exec PP 65 371 3327 [some (.ref a0), some (.ref a1), some (.ref a2), some (.ref a3), some (.int x4), o5, o6] [] σ =
  if sT σ a1 = 111 then (onV (rn 115 [.ref a1] σ) (fun σ21 =>
  if sT σ21 a2 = 112 then (onV (rn 179 [.ref a2] σ21) (fun σ23 =>
    exec PP 65 371 3376 [some (.ref a0), some (.ref a1), some (.ref a2), some (.ref a3), some (.int x4), none, none] [] σ23) (fun e24 σ23x => some (.inr e24, σ23x))) else none) (fun e22 σ21x => some (.inr e22, σ21x))) else none := (exec_eq PP 65 371 3327 _ _ σ).trans rfl
set_option maxRecDepth 200000 in
theorem e_371_3338 (a0 : Nat) (a1 : Nat) (a2 : Nat) (a3 : Nat) (x4 : Int32) (o5 : Option Value) (o6 : Option Value) (σ : SH) : exec PP 65 371 3338 [some (.ref a0), some (.ref a1), some (.ref a2), some (.ref a3), some (.int x4), o5, o6] [] σ =
  if sT σ a1 = 111 then (onI (rn 116 [.ref a1] σ) (fun x23 σ21 =>
  if sT σ21 a2 = 112 then (onI (rn 180 [.ref a2] σ21) (fun x26 σ24 =>
    if (x23 = x26 : Prop) then (exec PP 65 371 3376 [some (.ref a0), some (.ref a1), some (.ref a2), some (.ref a3), some (.int x4), none, none] [] σ24)
      else (some (.inl (some (.int 0)), σ24))) (fun e25 σ24x => some (.inr e25, σ24x))) else none) (fun e22 σ21x => some (.inr e22, σ21x))) else none := (exec_eq PP 65 371 3338 _ _ σ).trans rfl
set_option maxRecDepth 200000 in
theorem e_371_3351 (a0 : Nat) (a1 : Nat) (a2 : Nat) (a3 : Nat) (x4 : Int32) (o5 : Option Value) (o6 : Option Value) (σ : SH) : exec PP 65 371 3351 [some (.ref a0), some (.ref a1), some (.ref a2), some (.ref a3), some (.int x4), o5, o6] [] σ =
  aI σ 4 (.ref a0) (x4 + 1) fun x21 =>
  if sT σ a1 = 111 then (onI (rn 118 [.ref a1, .int x21] σ) (fun x24 σ22 =>
  aI σ22 4 (.ref a0) (x4 + 1) fun x25 =>
    if sT σ22 a2 = 112 then (onI (rn 316 [.ref a2, .int x25] σ22) (fun x28 σ26 =>
    if (x24 = x28 : Prop) then (exec PP 65 371 3376 [some (.ref a0), some (.ref a1), some (.ref a2), some (.ref a3), some (.int x4), none, none] [] σ26)
      else (some (.inl (some (.int 0)), σ26))) (fun e27 σ26x => some (.inr e27, σ26x))) else none) (fun e23 σ22x => some (.inr e23, σ22x))) else none := (exec_eq PP 65 371 3351 _ _ σ).trans rfl
set_option maxRecDepth 200000 in
theorem e_371_390 (a0 : Nat) (a1 : Nat) (a2 : Nat) (a3 : Nat) (x4 : Int32) (x5 : Int32) (x6 : Int32) (σ : SH) : exec PP 65 371 390 [some (.ref a0), some (.ref a1), some (.ref a2), some (.ref a3), some (.int x4), some (.int x5), some (.int x6)] [] σ =
  if (x5 = 0 : Prop) then (aJ σ (.ref a3) 0 fun x21 =>
    if (((lcm x21 x6.toInt64) : Int32) = 0 : Prop) then (exec PP 65 371 407 [some (.ref a0), some (.ref a1), some (.ref a2), some (.ref a3), some (.int x4), some (.int x5), some (.int x6)] [] σ)
    else (some (.inl (some (.int 0)), σ)))
  else (exec PP 65 371 407 [some (.ref a0), some (.ref a1), some (.ref a2), some (.ref a3), some (.int x4), some (.int x5), some (.int x6)] [] σ) := (exec_eq PP 65 371 390 _ _ σ).trans rfl
set_option maxRecDepth 200000 in
theorem e_371_434 (a0 : Nat) (a1 : Nat) (a2 : Nat) (a3 : Nat) (x4 : Int32) (x5 : Int32) (x6 : Int32) (σ : SH) : exec PP 65 371 434 [some (.ref a0), some (.ref a1), some (.ref a2), some (.ref a3), some (.int x4), some (.int x5), some (.int x6)] [] σ =
  if (x5 = 0 : Prop) then (aJ σ (.ref a3) 0 fun x21 =>
    if (((lcm x21 x6.toInt64) : Int32) = 0 : Prop) then (exec PP 65 371 451 [some (.ref a0), some (.ref a1), some (.ref a2), some (.ref a3), some (.int x4), some (.int x5), some (.int x6)] [] σ)
    else (some (.inl (some (.int 0)), σ)))
  else (exec PP 65 371 451 [some (.ref a0), some (.ref a1), some (.ref a2), some (.ref a3), some (.int x4), some (.int x5), some (.int x6)] [] σ) := (exec_eq PP 65 371 434 _ _ σ).trans rfl
set_option maxRecDepth 200000 in
theorem e_371_515 (a0 : Nat) (a1 : Nat) (a2 : Nat) (a3 : Nat) (x4 : Int32) (x5 : Int32) (x6 : Int32) (σ : SH) : exec PP 65 371 515 [some (.ref a0), some (.ref a1), some (.ref a2), some (.ref a3), some (.int x4), some (.int x5), some (.int x6)] [] σ =
  if (x5 = 0 : Prop) then (aJ σ (.ref a3) 0 fun x21 =>
    if (((lcm x21 x6.toInt64) : Int32) = 0 : Prop) then (exec PP 65 371 532 [some (.ref a0), some (.ref a1), some (.ref a2), some (.ref a3), some (.int x4), some (.int x5), some (.int x6)] [] σ)
    else (some (.inl (some (.int 0)), σ)))
  else (exec PP 65 371 532 [some (.ref a0), some (.ref a1), some (.ref a2), some (.ref a3), some (.int x4), some (.int x5), some (.int x6)] [] σ) := (exec_eq PP 65 371 515 _ _ σ).trans rfl
set_option maxRecDepth 200000 in
theorem e_371_583 (a0 : Nat) (a1 : Nat) (a2 : Nat) (a3 : Nat) (x4 : Int32) (x5 : Int32) (x6 : Int32) (σ : SH) : exec PP 65 371 583 [some (.ref a0), some (.ref a1), some (.ref a2), some (.ref a3), some (.int x4), some (.int x5), some (.int x6)] [] σ =
  if (x5 = 0 : Prop) then (aJ σ (.ref a3) 0 fun x21 =>
    if (((lcm x21 x6.toInt64) : Int32) = 0 : Prop) then (exec PP 65 371 600 [some (.ref a0), some (.ref a1), some (.ref a2), some (.ref a3), some (.int x4), some (.int x5), some (.int x6)] [] σ)
    else (some (.inl (some (.int 0)), σ)))
  else (exec PP 65 371 600 [some (.ref a0), some (.ref a1), some (.ref a2), some (.ref a3), some (.int x4), some (.int x5), some (.int x6)] [] σ) := (exec_eq PP 65 371 583 _ _ σ).trans rfl
set_option maxRecDepth 200000 in
theorem e_371_651 (a0 : Nat) (a1 : Nat) (a2 : Nat) (a3 : Nat) (x4 : Int32) (x5 : Int32) (x6 : Int32) (σ : SH) : exec PP 65 371 651 [some (.ref a0), some (.ref a1), some (.ref a2), some (.ref a3), some (.int x4), some (.int x5), some (.int x6)] [] σ =
  if (x5 = 0 : Prop) then (aJ σ (.ref a3) 0 fun x21 =>
    if (((lcm x21 x6.toInt64) : Int32) = 0 : Prop) then (exec PP 65 371 668 [some (.ref a0), some (.ref a1), some (.ref a2), some (.ref a3), some (.int x4), some (.int x5), some (.int x6)] [] σ)
    else (some (.inl (some (.int 0)), σ)))
  else (exec PP 65 371 668 [some (.ref a0), some (.ref a1), some (.ref a2), some (.ref a3), some (.int x4), some (.int x5), some (.int x6)] [] σ) := (exec_eq PP 65 371 651 _ _ σ).trans rfl
set_option maxRecDepth 200000 in
theorem e_371_719 (a0 : Nat) (a1 : Nat) (a2 : Nat) (a3 : Nat) (x4 : Int32) (x5 : Int32) (x6 : Int32) (σ : SH) : exec PP 65 371 719 [some (.ref a0), some (.ref a1), some (.ref a2), some (.ref a3), some (.int x4), some (.int x5), some (.int x6)] [] σ =
  if (x5 = 0 : Prop) then (aJ σ (.ref a3) 0 fun x21 =>
    if (((lcm x21 x6.toInt64) : Int32) = 0 : Prop) then (exec PP 65 371 736 [some (.ref a0), some (.ref a1), some (.ref a2), some (.ref a3), some (.int x4), some (.int x5), some (.int x6)] [] σ)
    else (some (.inl (some (.int 0)), σ)))
  else (exec PP 65 371 736 [some (.ref a0), some (.ref a1), some (.ref a2), some (.ref a3), some (.int x4), some (.int x5), some (.int x6)] [] σ) := (exec_eq PP 65 371 719 _ _ σ).trans rfl
set_option maxRecDepth 200000 in
theorem e_371_799 (a0 : Nat) (a1 : Nat) (a2 : Nat) (a3 : Nat) (x4 : Int32) (x5 : Int32) (x6 : Int32) (σ : SH) : exec PP 65 371 799 [some (.ref a0), some (.ref a1), some (.ref a2), some (.ref a3), some (.int x4), some (.int x5), some (.int x6)] [] σ =
  if (x5 = 0 : Prop) then (aJ σ (.ref a3) 0 fun x21 =>
    if (((lcm x21 x6.toInt64) : Int32) = 0 : Prop) then (exec PP 65 371 816 [some (.ref a0), some (.ref a1), some (.ref a2), some (.ref a3), some (.int x4), some (.int x5), some (.int x6)] [] σ)
    else (some (.inl (some (.int 0)), σ)))
  else (exec PP 65 371 816 [some (.ref a0), some (.ref a1), some (.ref a2), some (.ref a3), some (.int x4), some (.int x5), some (.int x6)] [] σ) := (exec_eq PP 65 371 799 _ _ σ).trans rfl
set_option maxRecDepth 200000 in
theorem e_371_867 (a0 : Nat) (a1 : Nat) (a2 : Nat) (a3 : Nat) (x4 : Int32) (x5 : Int32) (x6 : Int32) (σ : SH) : exec PP 65 371 867 [some (.ref a0), some (.ref a1), some (.ref a2), some (.ref a3), some (.int x4), some (.int x5), some (.int x6)] [] σ =
  if (x5 = 0 : Prop) then (aJ σ (.ref a3) 0 fun x21 =>
    if (((lcm x21 x6.toInt64) : Int32) = 0 : Prop) then (exec PP 65 371 884 [some (.ref a0), some (.ref a1), some (.ref a2), some (.ref a3), some (.int x4), some (.int x5), some (.int x6)] [] σ)
    else (some (.inl (some (.int 0)), σ)))
  else (exec PP 65 371 884 [some (.ref a0), some (.ref a1), some (.ref a2), some (.ref a3), some (.int x4), some (.int x5), some (.int x6)] [] σ) := (exec_eq PP 65 371 867 _ _ σ).trans rfl
set_option maxRecDepth 200000 in
theorem e_371_935 (a0 : Nat) (a1 : Nat) (a2 : Nat) (a3 : Nat) (x4 : Int32) (x5 : Int32) (x6 : Int32) (σ : SH) : exec PP 65 371 935 [some (.ref a0), some (.ref a1), some (.ref a2), some (.ref a3), some (.int x4), some (.int x5), some (.int x6)] [] σ =
  if (x5 = 0 : Prop) then (aJ σ (.ref a3) 0 fun x21 =>
    if (((lcm x21 x6.toInt64) : Int32) = 0 : Prop) then (exec PP 65 371 952 [some (.ref a0), some (.ref a1), some (.ref a2), some (.ref a3), some (.int x4), some (.int x5), some (.int x6)] [] σ)
    else (some (.inl (some (.int 0)), σ)))
  else (exec PP 65 371 952 [some (.ref a0), some (.ref a1), some (.ref a2), some (.ref a3), some (.int x4), some (.int x5), some (.int x6)] [] σ) := (exec_eq PP 65 371 935 _ _ σ).trans rfl
set_option maxRecDepth 200000 in
theorem e_371_1003 (a0 : Nat) (a1 : Nat) (a2 : Nat) (a3 : Nat) (x4 : Int32) (x5 : Int32) (x6 : Int32) (σ : SH) : exec PP 65 371 1003 [some (.ref a0), some (.ref a1), some (.ref a2), some (.ref a3), some (.int x4), some (.int x5), some (.int x6)] [] σ =
  if (x5 = 0 : Prop) then (aJ σ (.ref a3) 0 fun x21 =>
    if (((lcm x21 x6.toInt64) : Int32) = 0 : Prop) then (exec PP 65 371 1020 [some (.ref a0), some (.ref a1), some (.ref a2), some (.ref a3), some (.int x4), some (.int x5), some (.int x6)] [] σ)
    else (some (.inl (some (.int 0)), σ)))
  else (exec PP 65 371 1020 [some (.ref a0), some (.ref a1), some (.ref a2), some (.ref a3), some (.int x4), some (.int x5), some (.int x6)] [] σ) := (exec_eq PP 65 371 1003 _ _ σ).trans rfl
set_option maxRecDepth 200000 in
theorem e_371_1071 (a0 : Nat) (a1 : Nat) (a2 : Nat) (a3 : Nat) (x4 : Int32) (x5 : Int32) (x6 : Int32) (σ : SH) : exec PP 65 371 1071 [some (.ref a0), some (.ref a1), some (.ref a2), some (.ref a3), some (.int x4), some (.int x5), some (.int x6)] [] σ =
  if (x5 = 0 : Prop) then (aJ σ (.ref a3) 0 fun x21 =>
    if (((lcm x21 x6.toInt64) : Int32) = 0 : Prop) then (exec PP 65 371 1088 [some (.ref a0), some (.ref a1), some (.ref a2), some (.ref a3), some (.int x4), some (.int x5), some (.int x6)] [] σ)
    else (some (.inl (some (.int 0)), σ)))
  else (exec PP 65 371 1088 [some (.ref a0), some (.ref a1), some (.ref a2), some (.ref a3), some (.int x4), some (.int x5), some (.int x6)] [] σ) := (exec_eq PP 65 371 1071 _ _ σ).trans rfl
set_option maxRecDepth 200000 in
theorem e_371_1127 (a0 : Nat) (a1 : Nat) (a2 : Nat) (a3 : Nat) (x4 : Int32) (x5 : Int32) (x6 : Int32) (σ : SH) : exec PP 65 371 1127 [some (.ref a0), some (.ref a1), some (.ref a2), some (.ref a3), some (.int x4), some (.int x5), some (.int x6)] [] σ =
  if (x5 = 0 : Prop) then (aJ σ (.ref a3) 0 fun x21 =>
    if (((lcm x21 x6.toInt64) : Int32) = 0 : Prop) then (exec PP 65 371 1144 [some (.ref a0), some (.ref a1), some (.ref a2), some (.ref a3), some (.int x4), some (.int x5), some (.int x6)] [] σ)
    else (some (.inl (some (.int 0)), σ)))
  else (exec PP 65 371 1144 [some (.ref a0), some (.ref a1), some (.ref a2), some (.ref a3), some (.int x4), some (.int x5), some (.int x6)] [] σ) := (exec_eq PP 65 371 1127 _ _ σ).trans rfl
set_option maxRecDepth 200000 in
theorem e_371_1183 (a0 : Nat) (a1 : Nat) (a2 : Nat) (a3 : Nat) (x4 : Int32) (x5 : Int32) (x6 : Int32) (σ : SH) : exec PP 65 371 1183 [some (.ref a0), some (.ref a1), some (.ref a2), some (.ref a3), some (.int x4), some (.int x5), some (.int x6)] [] σ =
  if (x5 = 0 : Prop) then (aJ σ (.ref a3) 0 fun x21 =>
    if (((lcm x21 x6.toInt64) : Int32) = 0 : Prop) then (exec PP 65 371 1200 [some (.ref a0), some (.ref a1), some (.ref a2), some (.ref a3), some (.int x4), some (.int x5), some (.int x6)] [] σ)
    else (some (.inl (some (.int 0)), σ)))
  else (exec PP 65 371 1200 [some (.ref a0), some (.ref a1), some (.ref a2), some (.ref a3), some (.int x4), some (.int x5), some (.int x6)] [] σ) := (exec_eq PP 65 371 1183 _ _ σ).trans rfl
set_option maxRecDepth 200000 in
theorem e_371_1239 (a0 : Nat) (a1 : Nat) (a2 : Nat) (a3 : Nat) (x4 : Int32) (x5 : Int32) (x6 : Int32) (σ : SH) : exec PP 65 371 1239 [some (.ref a0), some (.ref a1), some (.ref a2), some (.ref a3), some (.int x4), some (.int x5), some (.int x6)] [] σ =
  if (x5 = 0 : Prop) then (aJ σ (.ref a3) 0 fun x21 =>
    if (((lcm x21 x6.toInt64) : Int32) = 0 : Prop) then (exec PP 65 371 1256 [some (.ref a0), some (.ref a1), some (.ref a2), some (.ref a3), some (.int x4), some (.int x5), some (.int x6)] [] σ)
    else (some (.inl (some (.int 0)), σ)))
  else (exec PP 65 371 1256 [some (.ref a0), some (.ref a1), some (.ref a2), some (.ref a3), some (.int x4), some (.int x5), some (.int x6)] [] σ) := (exec_eq PP 65 371 1239 _ _ σ).trans rfl
set_option maxRecDepth 200000 in
theorem e_371_1295 (a0 : Nat) (a1 : Nat) (a2 : Nat) (a3 : Nat) (x4 : Int32) (x5 : Int32) (x6 : Int32) (σ : SH) : exec PP 65 371 1295 [some (.ref a0), some (.ref a1), some (.ref a2), some (.ref a3), some (.int x4), some (.int x5), some (.int x6)] [] σ =
  if (x5 = 0 : Prop) then (aJ σ (.ref a3) 0 fun x21 =>
    if (((lcm x21 x6.toInt64) : Int32) = 0 : Prop) then (exec PP 65 371 1312 [some (.ref a0), some (.ref a1), some (.ref a2), some (.ref a3), some (.int x4), some (.int x5), some (.int x6)] [] σ)
    else (some (.inl (some (.int 0)), σ)))
  else (exec PP 65 371 1312 [some (.ref a0), some (.ref a1), some (.ref a2), some (.ref a3), some (.int x4), some (.int x5), some (.int x6)] [] σ) := (exec_eq PP 65 371 1295 _ _ σ).trans rfl
set_option maxRecDepth 200000 in
theorem e_371_1351 (a0 : Nat) (a1 : Nat) (a2 : Nat) (a3 : Nat) (x4 : Int32) (x5 : Int32) (x6 : Int32) (σ : SH) : exec PP 65 371 1351 [some (.ref a0), some (.ref a1), some (.ref a2), some (.ref a3), some (.int x4), some (.int x5), some (.int x6)] [] σ =
  if (x5 = 0 : Prop) then (aJ σ (.ref a3) 0 fun x21 =>
    if (((lcm x21 x6.toInt64) : Int32) = 0 : Prop) then (exec PP 65 371 1368 [some (.ref a0), some (.ref a1), some (.ref a2), some (.ref a3), some (.int x4), some (.int x5), some (.int x6)] [] σ)
    else (some (.inl (some (.int 0)), σ)))
  else (exec PP 65 371 1368 [some (.ref a0), some (.ref a1), some (.ref a2), some (.ref a3), some (.int x4), some (.int x5), some (.int x6)] [] σ) := (exec_eq PP 65 371 1351 _ _ σ).trans rfl
set_option maxRecDepth 200000 in
theorem e_371_1419 (a0 : Nat) (a1 : Nat) (a2 : Nat) (a3 : Nat) (x4 : Int32) (x5 : Int32) (x6 : Int32) (σ : SH) : exec PP 65 371 1419 [some (.ref a0), some (.ref a1), some (.ref a2), some (.ref a3), some (.int x4), some (.int x5), some (.int x6)] [] σ =
  if (x5 = 0 : Prop) then (aJ σ (.ref a3) 0 fun x21 =>
    if (((lcm x21 x6.toInt64) : Int32) = 0 : Prop) then (exec PP 65 371 1436 [some (.ref a0), some (.ref a1), some (.ref a2), some (.ref a3), some (.int x4), some (.int x5), some (.int x6)] [] σ)
    else (some (.inl (some (.int 0)), σ)))
  else (exec PP 65 371 1436 [some (.ref a0), some (.ref a1), some (.ref a2), some (.ref a3), some (.int x4), some (.int x5), some (.int x6)] [] σ) := (exec_eq PP 65 371 1419 _ _ σ).trans rfl
set_option maxRecDepth 200000 in
theorem e_371_1487 (a0 : Nat) (a1 : Nat) (a2 : Nat) (a3 : Nat) (x4 : Int32) (x5 : Int32) (x6 : Int32) (σ : SH) : exec PP 65 371 1487 [some (.ref a0), some (.ref a1), some (.ref a2), some (.ref a3), some (.int x4), some (.int x5), some (.int x6)] [] σ =
  if (x5 = 0 : Prop) then (aJ σ (.ref a3) 0 fun x21 =>
    if (x6 = 0 : Prop) then (exec PP 65 371 1504 [some (.ref a0), some (.ref a1), some (.ref a2), some (.ref a3), some (.int x4), some (.int x5), some (.int x6)] [.long x21] σ)
    else (exec PP 65 371 1505 [some (.ref a0), some (.ref a1), some (.ref a2), some (.ref a3), some (.int x4), some (.int x5), some (.int x6)] [.long 1, .long x21] σ))
  else (exec PP 65 371 1511 [some (.ref a0), some (.ref a1), some (.ref a2), some (.ref a3), some (.int x4), some (.int x5), some (.int x6)] [] σ) := (exec_eq PP 65 371 1487 _ _ σ).trans rfl
set_option maxRecDepth 200000 in
theorem e_371_1562 (a0 : Nat) (a1 : Nat) (a2 : Nat) (a3 : Nat) (x4 : Int32) (x5 : Int32) (x6 : Int32) (σ : SH) : exec PP 65 371 1562 [some (.ref a0), some (.ref a1), some (.ref a2), some (.ref a3), some (.int x4), some (.int x5), some (.int x6)] [] σ =
  if (x5 = 0 : Prop) then (aJ σ (.ref a3) 0 fun x21 =>
    if (((lcm x21 x6.toInt64) : Int32) = 0 : Prop) then (exec PP 65 371 1579 [some (.ref a0), some (.ref a1), some (.ref a2), some (.ref a3), some (.int x4), some (.int x5), some (.int x6)] [] σ)
    else (some (.inl (some (.int 0)), σ)))
  else (exec PP 65 371 1579 [some (.ref a0), some (.ref a1), some (.ref a2), some (.ref a3), some (.int x4), some (.int x5), some (.int x6)] [] σ) := (exec_eq PP 65 371 1562 _ _ σ).trans rfl
set_option maxRecDepth 200000 in
theorem e_371_1630 (a0 : Nat) (a1 : Nat) (a2 : Nat) (a3 : Nat) (x4 : Int32) (x5 : Int32) (x6 : Int32) (σ : SH) : exec PP 65 371 1630 [some (.ref a0), some (.ref a1), some (.ref a2), some (.ref a3), some (.int x4), some (.int x5), some (.int x6)] [] σ =
  if (x5 = 0 : Prop) then (aJ σ (.ref a3) 0 fun x21 =>
    if (((lcm x21 x6.toInt64) : Int32) = 0 : Prop) then (exec PP 65 371 1647 [some (.ref a0), some (.ref a1), some (.ref a2), some (.ref a3), some (.int x4), some (.int x5), some (.int x6)] [] σ)
    else (some (.inl (some (.int 0)), σ)))
  else (exec PP 65 371 1647 [some (.ref a0), some (.ref a1), some (.ref a2), some (.ref a3), some (.int x4), some (.int x5), some (.int x6)] [] σ) := (exec_eq PP 65 371 1630 _ _ σ).trans rfl
set_option maxRecDepth 200000 in
theorem e_371_1710 (a0 : Nat) (a1 : Nat) (a2 : Nat) (a3 : Nat) (x4 : Int32) (x5 : Int32) (x6 : Int32) (σ : SH) : exec PP 65 371 1710 [some (.ref a0), some (.ref a1), some (.ref a2), some (.ref a3), some (.int x4), some (.int x5), some (.int x6)] [] σ =
  if (x5 = 0 : Prop) then (aJ σ (.ref a3) 0 fun x21 =>
    if (((lcm x21 x6.toInt64) : Int32) = 0 : Prop) then (exec PP 65 371 1727 [some (.ref a0), some (.ref a1), some (.ref a2), some (.ref a3), some (.int x4), some (.int x5), some (.int x6)] [] σ)
    else (some (.inl (some (.int 0)), σ)))
  else (exec PP 65 371 1727 [some (.ref a0), some (.ref a1), some (.ref a2), some (.ref a3), some (.int x4), some (.int x5), some (.int x6)] [] σ) := (exec_eq PP 65 371 1710 _ _ σ).trans rfl
set_option maxRecDepth 200000 in
theorem e_371_1778 (a0 : Nat) (a1 : Nat) (a2 : Nat) (a3 : Nat) (x4 : Int32) (x5 : Int32) (x6 : Int32) (σ : SH) : exec PP 65 371 1778 [some (.ref a0), some (.ref a1), some (.ref a2), some (.ref a3), some (.int x4), some (.int x5), some (.int x6)] [] σ =
  if (x5 = 0 : Prop) then (aJ σ (.ref a3) 0 fun x21 =>
    if (((lcm x21 x6.toInt64) : Int32) = 0 : Prop) then (exec PP 65 371 1795 [some (.ref a0), some (.ref a1), some (.ref a2), some (.ref a3), some (.int x4), some (.int x5), some (.int x6)] [] σ)
    else (some (.inl (some (.int 0)), σ)))
  else (exec PP 65 371 1795 [some (.ref a0), some (.ref a1), some (.ref a2), some (.ref a3), some (.int x4), some (.int x5), some (.int x6)] [] σ) := (exec_eq PP 65 371 1778 _ _ σ).trans rfl
set_option maxRecDepth 200000 in
theorem e_371_1846 (a0 : Nat) (a1 : Nat) (a2 : Nat) (a3 : Nat) (x4 : Int32) (x5 : Int32) (x6 : Int32) (σ : SH) : exec PP 65 371 1846 [some (.ref a0), some (.ref a1), some (.ref a2), some (.ref a3), some (.int x4), some (.int x5), some (.int x6)] [] σ =
  if (x5 = 0 : Prop) then (aJ σ (.ref a3) 0 fun x21 =>
    if (((lcm x21 x6.toInt64) : Int32) = 0 : Prop) then (exec PP 65 371 1863 [some (.ref a0), some (.ref a1), some (.ref a2), some (.ref a3), some (.int x4), some (.int x5), some (.int x6)] [] σ)
    else (some (.inl (some (.int 0)), σ)))
  else (exec PP 65 371 1863 [some (.ref a0), some (.ref a1), some (.ref a2), some (.ref a3), some (.int x4), some (.int x5), some (.int x6)] [] σ) := (exec_eq PP 65 371 1846 _ _ σ).trans rfl
set_option maxRecDepth 200000 in
theorem e_371_1926 (a0 : Nat) (a1 : Nat) (a2 : Nat) (a3 : Nat) (x4 : Int32) (x5 : Int32) (x6 : Int32) (σ : SH) : exec PP 65 371 1926 [some (.ref a0), some (.ref a1), some (.ref a2), some (.ref a3), some (.int x4), some (.int x5), some (.int x6)] [] σ =
  if (x5 = 0 : Prop) then (aJ σ (.ref a3) 0 fun x21 =>
    if (((lcm x21 x6.toInt64) : Int32) = 0 : Prop) then (exec PP 65 371 1943 [some (.ref a0), some (.ref a1), some (.ref a2), some (.ref a3), some (.int x4), some (.int x5), some (.int x6)] [] σ)
    else (some (.inl (some (.int 0)), σ)))
  else (exec PP 65 371 1943 [some (.ref a0), some (.ref a1), some (.ref a2), some (.ref a3), some (.int x4), some (.int x5), some (.int x6)] [] σ) := (exec_eq PP 65 371 1926 _ _ σ).trans rfl
set_option maxRecDepth 200000 in
theorem e_371_1994 (a0 : Nat) (a1 : Nat) (a2 : Nat) (a3 : Nat) (x4 : Int32) (x5 : Int32) (x6 : Int32) (σ : SH) : exec PP 65 371 1994 [some (.ref a0), some (.ref a1), some (.ref a2), some (.ref a3), some (.int x4), some (.int x5), some (.int x6)] [] σ =
  if (x5 = 0 : Prop) then (aJ σ (.ref a3) 0 fun x21 =>
    if (((lcm x21 x6.toInt64) : Int32) = 0 : Prop) then (exec PP 65 371 2011 [some (.ref a0), some (.ref a1), some (.ref a2), some (.ref a3), some (.int x4), some (.int x5), some (.int x6)] [] σ)
    else (some (.inl (some (.int 0)), σ)))
  else (exec PP 65 371 2011 [some (.ref a0), some (.ref a1), some (.ref a2), some (.ref a3), some (.int x4), some (.int x5), some (.int x6)] [] σ) := (exec_eq PP 65 371 1994 _ _ σ).trans rfl
set_option maxRecDepth 200000 in
theorem e_371_2050 (a0 : Nat) (a1 : Nat) (a2 : Nat) (a3 : Nat) (x4 : Int32) (x5 : Int32) (x6 : Int32) (σ : SH) : exec PP 65 371 2050 [some (.ref a0), some (.ref a1), some (.ref a2), some (.ref a3), some (.int x4), some (.int x5), some (.int x6)] [] σ =
  if (x5 = 0 : Prop) then (aJ σ (.ref a3) 0 fun x21 =>
    if (((lcm x21 x6.toInt64) : Int32) = 0 : Prop) then (exec PP 65 371 2067 [some (.ref a0), some (.ref a1), some (.ref a2), some (.ref a3), some (.int x4), some (.int x5), some (.int x6)] [] σ)
    else (some (.inl (some (.int 0)), σ)))
  else (exec PP 65 371 2067 [some (.ref a0), some (.ref a1), some (.ref a2), some (.ref a3), some (.int x4), some (.int x5), some (.int x6)] [] σ) := (exec_eq PP 65 371 2050 _ _ σ).trans rfl
set_option maxRecDepth 200000 in
theorem e_371_2118 (a0 : Nat) (a1 : Nat) (a2 : Nat) (a3 : Nat) (x4 : Int32) (x5 : Int32) (x6 : Int32) (σ : SH) : exec PP 65 371 2118 [some (.ref a0), some (.ref a1), some (.ref a2), some (.ref a3), some (.int x4), some (.int x5), some (.int x6)] [] σ =
  if (x5 = 0 : Prop) then (aJ σ (.ref a3) 0 fun x21 =>
    if (((lcm x21 x6.toInt64) : Int32) = 0 : Prop) then (exec PP 65 371 2135 [some (.ref a0), some (.ref a1), some (.ref a2), some (.ref a3), some (.int x4), some (.int x5), some (.int x6)] [] σ)
    else (some (.inl (some (.int 0)), σ)))
  else (exec PP 65 371 2135 [some (.ref a0), some (.ref a1), some (.ref a2), some (.ref a3), some (.int x4), some (.int x5), some (.int x6)] [] σ) := (exec_eq PP 65 371 2118 _ _ σ).trans rfl
set_option maxRecDepth 200000 in
theorem e_371_2158 (a0 : Nat) (a1 : Nat) (a2 : Nat) (a3 : Nat) (x4 : Int32) (o5 : Option Value) (o6 : Option Value) (w0 : Int32) (b1 : Nat) (σ : SH) : exec PP 65 371 2158 [some (.ref a0), some (.ref a1), some (.ref a2), some (.ref a3), some (.int x4), o5, o6] [.int w0, .ref b1] σ =
  onI (rn 356 [.ref b1, .int w0, .int 0, .ref a3] σ) (fun x23 σ21 =>
  aI σ21 4 (.ref a0) (x4 + 1) fun x24 =>
    aI σ21 4 (.ref a0) (x4 + 2) fun x25 =>
    if (x25 = 0 : Prop) then (exec PP 65 371 2185 [some (.ref a0), some (.ref a1), some (.ref a2), some (.ref a3), some (.int x4), some (.int x23), none] [.int x24, .ref a2] σ21)
    else (exec PP 65 371 2186 [some (.ref a0), some (.ref a1), some (.ref a2), some (.ref a3), some (.int x4), some (.int x23), none] [.int 1, .int x24, .ref a2] σ21)) (fun e22 σ21x => some (.inr e22, σ21x)) := (exec_eq PP 65 371 2158 _ _ σ).trans rfl
set_option maxRecDepth 200000 in
theorem e_371_2159 (a0 : Nat) (a1 : Nat) (a2 : Nat) (a3 : Nat) (x4 : Int32) (o5 : Option Value) (o6 : Option Value) (w0 : Int32) (w1 : Int32) (b2 : Nat) (σ : SH) : exec PP 65 371 2159 [some (.ref a0), some (.ref a1), some (.ref a2), some (.ref a3), some (.int x4), o5, o6] [.int w0, .int w1, .ref b2] σ =
  onI (rn 356 [.ref b2, .int w1, .int w0, .ref a3] σ) (fun x23 σ21 =>
  aI σ21 4 (.ref a0) (x4 + 1) fun x24 =>
    aI σ21 4 (.ref a0) (x4 + 2) fun x25 =>
    if (x25 = 0 : Prop) then (exec PP 65 371 2185 [some (.ref a0), some (.ref a1), some (.ref a2), some (.ref a3), some (.int x4), some (.int x23), none] [.int x24, .ref a2] σ21)
    else (exec PP 65 371 2186 [some (.ref a0), some (.ref a1), some (.ref a2), some (.ref a3), some (.int x4), some (.int x23), none] [.int 1, .int x24, .ref a2] σ21)) (fun e22 σ21x => some (.inr e22, σ21x)) := (exec_eq PP 65 371 2159 _ _ σ).trans rfl
set_option maxRecDepth 200000 in
theorem e_371_2270 (a0 : Nat) (a1 : Nat) (a2 : Nat) (a3 : Nat) (x4 : Int32) (x5 : Int32) (x6 : Int32) (σ : SH) : exec PP 65 371 2270 [some (.ref a0), some (.ref a1), some (.ref a2), some (.ref a3), some (.int x4), some (.int x5), some (.int x6)] [] σ =
  if (x5 = 0 : Prop) then (aJ σ (.ref a3) 0 fun x21 =>
    if (((lcm x21 x6.toInt64) : Int32) = 0 : Prop) then (exec PP 65 371 2287 [some (.ref a0), some (.ref a1), some (.ref a2), some (.ref a3), some (.int x4), some (.int x5), some (.int x6)] [] σ)
    else (some (.inl (some (.int 0)), σ)))
  else (exec PP 65 371 2287 [some (.ref a0), some (.ref a1), some (.ref a2), some (.ref a3), some (.int x4), some (.int x5), some (.int x6)] [] σ) := (exec_eq PP 65 371 2270 _ _ σ).trans rfl
set_option maxRecDepth 200000 in
theorem e_371_2326 (a0 : Nat) (a1 : Nat) (a2 : Nat) (a3 : Nat) (x4 : Int32) (x5 : Int32) (x6 : Int32) (σ : SH) : exec PP 65 371 2326 [some (.ref a0), some (.ref a1), some (.ref a2), some (.ref a3), some (.int x4), some (.int x5), some (.int x6)] [] σ =
  if (x5 = 0 : Prop) then (aJ σ (.ref a3) 0 fun x21 =>
    if (((lcm x21 x6.toInt64) : Int32) = 0 : Prop) then (exec PP 65 371 2343 [some (.ref a0), some (.ref a1), some (.ref a2), some (.ref a3), some (.int x4), some (.int x5), some (.int x6)] [] σ)
    else (some (.inl (some (.int 0)), σ)))
  else (exec PP 65 371 2343 [some (.ref a0), some (.ref a1), some (.ref a2), some (.ref a3), some (.int x4), some (.int x5), some (.int x6)] [] σ) := (exec_eq PP 65 371 2326 _ _ σ).trans rfl
set_option maxRecDepth 200000 in
theorem e_371_2382 (a0 : Nat) (a1 : Nat) (a2 : Nat) (a3 : Nat) (x4 : Int32) (x5 : Int32) (x6 : Int32) (σ : SH) : exec PP 65 371 2382 [some (.ref a0), some (.ref a1), some (.ref a2), some (.ref a3), some (.int x4), some (.int x5), some (.int x6)] [] σ =
  if (x5 = 0 : Prop) then (aJ σ (.ref a3) 0 fun x21 =>
    if (((lcm x21 x6.toInt64) : Int32) = 0 : Prop) then (exec PP 65 371 2399 [some (.ref a0), some (.ref a1), some (.ref a2), some (.ref a3), some (.int x4), some (.int x5), some (.int x6)] [] σ)
    else (some (.inl (some (.int 0)), σ)))
  else (exec PP 65 371 2399 [some (.ref a0), some (.ref a1), some (.ref a2), some (.ref a3), some (.int x4), some (.int x5), some (.int x6)] [] σ) := (exec_eq PP 65 371 2382 _ _ σ).trans rfl
set_option maxRecDepth 200000 in
theorem e_371_2422 (a0 : Nat) (a1 : Nat) (a2 : Nat) (a3 : Nat) (x4 : Int32) (o5 : Option Value) (o6 : Option Value) (w0 : Int32) (b1 : Nat) (σ : SH) : exec PP 65 371 2422 [some (.ref a0), some (.ref a1), some (.ref a2), some (.ref a3), some (.int x4), o5, o6] [.int w0, .ref b1] σ =
  onI (rn 360 [.ref b1, .int w0, .int 0, .ref a3] σ) (fun x23 σ21 =>
  aI σ21 4 (.ref a0) (x4 + 1) fun x24 =>
    aI σ21 4 (.ref a0) (x4 + 2) fun x25 =>
    if (x25 = 0 : Prop) then (exec PP 65 371 2449 [some (.ref a0), some (.ref a1), some (.ref a2), some (.ref a3), some (.int x4), some (.int x23), none] [.int x24, .ref a2] σ21)
    else (exec PP 65 371 2450 [some (.ref a0), some (.ref a1), some (.ref a2), some (.ref a3), some (.int x4), some (.int x23), none] [.int 1, .int x24, .ref a2] σ21)) (fun e22 σ21x => some (.inr e22, σ21x)) := (exec_eq PP 65 371 2422 _ _ σ).trans rfl
set_option maxRecDepth 200000 in
theorem e_371_2423 (a0 : Nat) (a1 : Nat) (a2 : Nat) (a3 : Nat) (x4 : Int32) (o5 : Option Value) (o6 : Option Value) (w0 : Int32) (w1 : Int32) (b2 : Nat) (σ : SH) : exec PP 65 371 2423 [some (.ref a0), some (.ref a1), some (.ref a2), some (.ref a3), some (.int x4), o5, o6] [.int w0, .int w1, .ref b2] σ =
  onI (rn 360 [.ref b2, .int w1, .int w0, .ref a3] σ) (fun x23 σ21 =>
  aI σ21 4 (.ref a0) (x4 + 1) fun x24 =>
    aI σ21 4 (.ref a0) (x4 + 2) fun x25 =>
    if (x25 = 0 : Prop) then (exec PP 65 371 2449 [some (.ref a0), some (.ref a1), some (.ref a2), some (.ref a3), some (.int x4), some (.int x23), none] [.int x24, .ref a2] σ21)
    else (exec PP 65 371 2450 [some (.ref a0), some (.ref a1), some (.ref a2), some (.ref a3), some (.int x4), some (.int x23), none] [.int 1, .int x24, .ref a2] σ21)) (fun e22 σ21x => some (.inr e22, σ21x)) := (exec_eq PP 65 371 2423 _ _ σ).trans rfl
set_option maxRecDepth 200000 in
theorem e_371_2522 (a0 : Nat) (a1 : Nat) (a2 : Nat) (a3 : Nat) (x4 : Int32) (x5 : Int32) (x6 : Int32) (σ : SH) : exec PP 65 371 2522 [some (.ref a0), some (.ref a1), some (.ref a2), some (.ref a3), some (.int x4), some (.int x5), some (.int x6)] [] σ =
  if (x5 = 0 : Prop) then (aJ σ (.ref a3) 0 fun x21 =>
    if (((lcm x21 x6.toInt64) : Int32) = 0 : Prop) then (exec PP 65 371 2539 [some (.ref a0), some (.ref a1), some (.ref a2), some (.ref a3), some (.int x4), some (.int x5), some (.int x6)] [] σ)
    else (some (.inl (some (.int 0)), σ)))
  else (exec PP 65 371 2539 [some (.ref a0), some (.ref a1), some (.ref a2), some (.ref a3), some (.int x4), some (.int x5), some (.int x6)] [] σ) := (exec_eq PP 65 371 2522 _ _ σ).trans rfl
set_option maxRecDepth 200000 in
theorem e_371_2578 (a0 : Nat) (a1 : Nat) (a2 : Nat) (a3 : Nat) (x4 : Int32) (x5 : Int32) (x6 : Int32) (σ : SH) : exec PP 65 371 2578 [some (.ref a0), some (.ref a1), some (.ref a2), some (.ref a3), some (.int x4), some (.int x5), some (.int x6)] [] σ =
  if (x5 = 0 : Prop) then (aJ σ (.ref a3) 0 fun x21 =>
    if (((lcm x21 x6.toInt64) : Int32) = 0 : Prop) then (exec PP 65 371 2595 [some (.ref a0), some (.ref a1), some (.ref a2), some (.ref a3), some (.int x4), some (.int x5), some (.int x6)] [] σ)
    else (some (.inl (some (.int 0)), σ)))
  else (exec PP 65 371 2595 [some (.ref a0), some (.ref a1), some (.ref a2), some (.ref a3), some (.int x4), some (.int x5), some (.int x6)] [] σ) := (exec_eq PP 65 371 2578 _ _ σ).trans rfl
set_option maxRecDepth 200000 in
theorem e_371_2670 (a0 : Nat) (a1 : Nat) (a2 : Nat) (a3 : Nat) (x4 : Int32) (x5 : Int32) (x6 : Int32) (σ : SH) : exec PP 65 371 2670 [some (.ref a0), some (.ref a1), some (.ref a2), some (.ref a3), some (.int x4), some (.int x5), some (.int x6)] [] σ =
  if (x5 = 0 : Prop) then (aJ σ (.ref a3) 0 fun x21 =>
    if (((lcm x21 x6.toInt64) : Int32) = 0 : Prop) then (exec PP 65 371 2687 [some (.ref a0), some (.ref a1), some (.ref a2), some (.ref a3), some (.int x4), some (.int x5), some (.int x6)] [] σ)
    else (some (.inl (some (.int 0)), σ)))
  else (exec PP 65 371 2687 [some (.ref a0), some (.ref a1), some (.ref a2), some (.ref a3), some (.int x4), some (.int x5), some (.int x6)] [] σ) := (exec_eq PP 65 371 2670 _ _ σ).trans rfl
set_option maxRecDepth 200000 in
theorem e_371_2762 (a0 : Nat) (a1 : Nat) (a2 : Nat) (a3 : Nat) (x4 : Int32) (x5 : Int32) (x6 : Int32) (σ : SH) : exec PP 65 371 2762 [some (.ref a0), some (.ref a1), some (.ref a2), some (.ref a3), some (.int x4), some (.int x5), some (.int x6)] [] σ =
  if (x5 = 0 : Prop) then (aJ σ (.ref a3) 0 fun x21 =>
    if (((lcm x21 x6.toInt64) : Int32) = 0 : Prop) then (exec PP 65 371 2779 [some (.ref a0), some (.ref a1), some (.ref a2), some (.ref a3), some (.int x4), some (.int x5), some (.int x6)] [] σ)
    else (some (.inl (some (.int 0)), σ)))
  else (exec PP 65 371 2779 [some (.ref a0), some (.ref a1), some (.ref a2), some (.ref a3), some (.int x4), some (.int x5), some (.int x6)] [] σ) := (exec_eq PP 65 371 2762 _ _ σ).trans rfl
set_option maxRecDepth 200000 in
theorem e_371_2842 (a0 : Nat) (a1 : Nat) (a2 : Nat) (a3 : Nat) (x4 : Int32) (x5 : Int32) (x6 : Int32) (σ : SH) : exec PP 65 371 2842 [some (.ref a0), some (.ref a1), some (.ref a2), some (.ref a3), some (.int x4), some (.int x5), some (.int x6)] [] σ =
  if (x5 = 0 : Prop) then (aJ σ (.ref a3) 0 fun x21 =>
    if (((lcm x21 x6.toInt64) : Int32) = 0 : Prop) then (exec PP 65 371 2859 [some (.ref a0), some (.ref a1), some (.ref a2), some (.ref a3), some (.int x4), some (.int x5), some (.int x6)] [] σ)
    else (some (.inl (some (.int 0)), σ)))
  else (exec PP 65 371 2859 [some (.ref a0), some (.ref a1), some (.ref a2), some (.ref a3), some (.int x4), some (.int x5), some (.int x6)] [] σ) := (exec_eq PP 65 371 2842 _ _ σ).trans rfl
set_option maxRecDepth 200000 in
theorem e_371_2949 (a0 : Nat) (a1 : Nat) (a2 : Nat) (a3 : Nat) (x4 : Int32) (x5 : Int32) (x6 : Int32) (σ : SH) : exec PP 65 371 2949 [some (.ref a0), some (.ref a1), some (.ref a2), some (.ref a3), some (.int x4), some (.int x5), some (.int x6)] [] σ =
  if (x5 = 0 : Prop) then (aJ σ (.ref a3) 0 fun x21 =>
    if (((lcm x21 x6.toInt64) : Int32) = 0 : Prop) then (exec PP 65 371 2966 [some (.ref a0), some (.ref a1), some (.ref a2), some (.ref a3), some (.int x4), some (.int x5), some (.int x6)] [] σ)
    else (some (.inl (some (.int 0)), σ)))
  else (exec PP 65 371 2966 [some (.ref a0), some (.ref a1), some (.ref a2), some (.ref a3), some (.int x4), some (.int x5), some (.int x6)] [] σ) := (exec_eq PP 65 371 2949 _ _ σ).trans rfl
set_option maxRecDepth 200000 in
theorem e_371_2989 (a0 : Nat) (a1 : Nat) (a2 : Nat) (a3 : Nat) (x4 : Int32) (o5 : Option Value) (o6 : Option Value) (w0 : Int32) (b1 : Nat) (σ : SH) : exec PP 65 371 2989 [some (.ref a0), some (.ref a1), some (.ref a2), some (.ref a3), some (.int x4), o5, o6] [.int w0, .ref b1] σ =
  onI (rn 367 [.ref b1, .int w0, .int 0, .ref a3] σ) (fun x23 σ21 =>
  aI σ21 4 (.ref a0) (x4 + 1) fun x24 =>
    aI σ21 4 (.ref a0) (x4 + 2) fun x25 =>
    if (x25 = 0 : Prop) then (exec PP 65 371 3016 [some (.ref a0), some (.ref a1), some (.ref a2), some (.ref a3), some (.int x4), some (.int x23), none] [.int x24, .ref a2] σ21)
    else (exec PP 65 371 3017 [some (.ref a0), some (.ref a1), some (.ref a2), some (.ref a3), some (.int x4), some (.int x23), none] [.int 1, .int x24, .ref a2] σ21)) (fun e22 σ21x => some (.inr e22, σ21x)) := (exec_eq PP 65 371 2989 _ _ σ).trans rfl
set_option maxRecDepth 200000 in
theorem e_371_2990 (a0 : Nat) (a1 : Nat) (a2 : Nat) (a3 : Nat) (x4 : Int32) (o5 : Option Value) (o6 : Option Value) (w0 : Int32) (w1 : Int32) (b2 : Nat) (σ : SH) : exec PP 65 371 2990 [some (.ref a0), some (.ref a1), some (.ref a2), some (.ref a3), some (.int x4), o5, o6] [.int w0, .int w1, .ref b2] σ =
  onI (rn 367 [.ref b2, .int w1, .int w0, .ref a3] σ) (fun x23 σ21 =>
  aI σ21 4 (.ref a0) (x4 + 1) fun x24 =>
    aI σ21 4 (.ref a0) (x4 + 2) fun x25 =>
    if (x25 = 0 : Prop) then (exec PP 65 371 3016 [some (.ref a0), some (.ref a1), some (.ref a2), some (.ref a3), some (.int x4), some (.int x23), none] [.int x24, .ref a2] σ21)
    else (exec PP 65 371 3017 [some (.ref a0), some (.ref a1), some (.ref a2), some (.ref a3), some (.int x4), some (.int x23), none] [.int 1, .int x24, .ref a2] σ21)) (fun e22 σ21x => some (.inr e22, σ21x)) := (exec_eq PP 65 371 2990 _ _ σ).trans rfl
set_option maxRecDepth 200000 in
theorem e_371_3073 (a0 : Nat) (a1 : Nat) (a2 : Nat) (a3 : Nat) (x4 : Int32) (o5 : Option Value) (o6 : Option Value) (w0 : Int32) (b1 : Nat) (σ : SH) : exec PP 65 371 3073 [some (.ref a0), some (.ref a1), some (.ref a2), some (.ref a3), some (.int x4), o5, o6] [.int w0, .ref b1] σ =
  onI (rn 368 [.ref b1, .int w0, .int 0, .ref a3] σ) (fun x23 σ21 =>
  aI σ21 4 (.ref a0) (x4 + 1) fun x24 =>
    aI σ21 4 (.ref a0) (x4 + 2) fun x25 =>
    if (x25 = 0 : Prop) then (exec PP 65 371 3100 [some (.ref a0), some (.ref a1), some (.ref a2), some (.ref a3), some (.int x4), some (.int x23), none] [.int x24, .ref a2] σ21)
    else (exec PP 65 371 3101 [some (.ref a0), some (.ref a1), some (.ref a2), some (.ref a3), some (.int x4), some (.int x23), none] [.int 1, .int x24, .ref a2] σ21)) (fun e22 σ21x => some (.inr e22, σ21x)) := (exec_eq PP 65 371 3073 _ _ σ).trans rfl
set_option maxRecDepth 200000 in
theorem e_371_3074 (a0 : Nat) (a1 : Nat) (a2 : Nat) (a3 : Nat) (x4 : Int32) (o5 : Option Value) (o6 : Option Value) (w0 : Int32) (w1 : Int32) (b2 : Nat) (σ : SH) : exec PP 65 371 3074 [some (.ref a0), some (.ref a1), some (.ref a2), some (.ref a3), some (.int x4), o5, o6] [.int w0, .int w1, .ref b2] σ =
  onI (rn 368 [.ref b2, .int w1, .int w0, .ref a3] σ) (fun x23 σ21 =>
  aI σ21 4 (.ref a0) (x4 + 1) fun x24 =>
    aI σ21 4 (.ref a0) (x4 + 2) fun x25 =>
    if (x25 = 0 : Prop) then (exec PP 65 371 3100 [some (.ref a0), some (.ref a1), some (.ref a2), some (.ref a3), some (.int x4), some (.int x23), none] [.int x24, .ref a2] σ21)
    else (exec PP 65 371 3101 [some (.ref a0), some (.ref a1), some (.ref a2), some (.ref a3), some (.int x4), some (.int x23), none] [.int 1, .int x24, .ref a2] σ21)) (fun e22 σ21x => some (.inr e22, σ21x)) := (exec_eq PP 65 371 3074 _ _ σ).trans rfl
set_option maxRecDepth 200000 in
theorem e_371_3157 (a0 : Nat) (a1 : Nat) (a2 : Nat) (a3 : Nat) (x4 : Int32) (o5 : Option Value) (o6 : Option Value) (w0 : Int32) (b1 : Nat) (σ : SH) : exec PP 65 371 3157 [some (.ref a0), some (.ref a1), some (.ref a2), some (.ref a3), some (.int x4), o5, o6] [.int w0, .ref b1] σ =
  onI (rn 369 [.ref b1, .int w0, .int 0, .ref a3] σ) (fun x23 σ21 =>
  aI σ21 4 (.ref a0) (x4 + 1) fun x24 =>
    aI σ21 4 (.ref a0) (x4 + 2) fun x25 =>
    if (x25 = 0 : Prop) then (exec PP 65 371 3184 [some (.ref a0), some (.ref a1), some (.ref a2), some (.ref a3), some (.int x4), some (.int x23), none] [.int x24, .ref a2] σ21)
    else (exec PP 65 371 3185 [some (.ref a0), some (.ref a1), some (.ref a2), some (.ref a3), some (.int x4), some (.int x23), none] [.int 1, .int x24, .ref a2] σ21)) (fun e22 σ21x => some (.inr e22, σ21x)) := (exec_eq PP 65 371 3157 _ _ σ).trans rfl
set_option maxRecDepth 200000 in
theorem e_371_3158 (a0 : Nat) (a1 : Nat) (a2 : Nat) (a3 : Nat) (x4 : Int32) (o5 : Option Value) (o6 : Option Value) (w0 : Int32) (w1 : Int32) (b2 : Nat) (σ : SH) : exec PP 65 371 3158 [some (.ref a0), some (.ref a1), some (.ref a2), some (.ref a3), some (.int x4), o5, o6] [.int w0, .int w1, .ref b2] σ =
  onI (rn 369 [.ref b2, .int w1, .int w0, .ref a3] σ) (fun x23 σ21 =>
  aI σ21 4 (.ref a0) (x4 + 1) fun x24 =>
    aI σ21 4 (.ref a0) (x4 + 2) fun x25 =>
    if (x25 = 0 : Prop) then (exec PP 65 371 3184 [some (.ref a0), some (.ref a1), some (.ref a2), some (.ref a3), some (.int x4), some (.int x23), none] [.int x24, .ref a2] σ21)
    else (exec PP 65 371 3185 [some (.ref a0), some (.ref a1), some (.ref a2), some (.ref a3), some (.int x4), some (.int x23), none] [.int 1, .int x24, .ref a2] σ21)) (fun e22 σ21x => some (.inr e22, σ21x)) := (exec_eq PP 65 371 3158 _ _ σ).trans rfl
set_option maxRecDepth 200000 in
theorem e_371_3269 (a0 : Nat) (a1 : Nat) (a2 : Nat) (a3 : Nat) (x4 : Int32) (x5 : Int32) (x6 : Int32) (σ : SH) : exec PP 65 371 3269 [some (.ref a0), some (.ref a1), some (.ref a2), some (.ref a3), some (.int x4), some (.int x5), some (.int x6)] [] σ =
  if (x5 = 0 : Prop) then (aJ σ (.ref a3) 0 fun x21 =>
    if (((lcm x21 x6.toInt64) : Int32) = 0 : Prop) then (exec PP 65 371 3286 [some (.ref a0), some (.ref a1), some (.ref a2), some (.ref a3), some (.int x4), some (.int x5), some (.int x6)] [] σ)
    else (some (.inl (some (.int 0)), σ)))
  else (exec PP 65 371 3286 [some (.ref a0), some (.ref a1), some (.ref a2), some (.ref a3), some (.int x4), some (.int x5), some (.int x6)] [] σ) := (exec_eq PP 65 371 3269 _ _ σ).trans rfl
set_option maxRecDepth 200000 in
theorem e_371_407 (a0 : Nat) (a1 : Nat) (a2 : Nat) (a3 : Nat) (x4 : Int32) (o5 : Option Value) (o6 : Option Value) (σ : SH) : exec PP 65 371 407 [some (.ref a0), some (.ref a1), some (.ref a2), some (.ref a3), some (.int x4), o5, o6] [] σ =
  exec PP 65 371 3376 [some (.ref a0), some (.ref a1), some (.ref a2), some (.ref a3), some (.int x4), none, none] [] σ := (exec_eq PP 65 371 407 _ _ σ).trans rfl
set_option maxRecDepth 200000 in
theorem e_371_451 (a0 : Nat) (a1 : Nat) (a2 : Nat) (a3 : Nat) (x4 : Int32) (o5 : Option Value) (o6 : Option Value) (σ : SH) : exec PP 65 371 451 [some (.ref a0), some (.ref a1), some (.ref a2), some (.ref a3), some (.int x4), o5, o6] [] σ =
  exec PP 65 371 3376 [some (.ref a0), some (.ref a1), some (.ref a2), some (.ref a3), some (.int x4), none, none] [] σ := (exec_eq PP 65 371 451 _ _ σ).trans rfl
set_option maxRecDepth 200000 in
theorem e_371_532 (a0 : Nat) (a1 : Nat) (a2 : Nat) (a3 : Nat) (x4 : Int32) (o5 : Option Value) (o6 : Option Value) (σ : SH) : exec PP 65 371 532 [some (.ref a0), some (.ref a1), some (.ref a2), some (.ref a3), some (.int x4), o5, o6] [] σ =
  exec PP 65 371 3376 [some (.ref a0), some (.ref a1), some (.ref a2), some (.ref a3), some (.int x4), none, none] [] σ := (exec_eq PP 65 371 532 _ _ σ).trans rfl
set_option maxRecDepth 200000 in
theorem e_371_600 (a0 : Nat) (a1 : Nat) (a2 : Nat) (a3 : Nat) (x4 : Int32) (o5 : Option Value) (o6 : Option Value) (σ : SH) : exec PP 65 371 600 [some (.ref a0), some (.ref a1), some (.ref a2), some (.ref a3), some (.int x4), o5, o6] [] σ =
  exec PP 65 371 3376 [some (.ref a0), some (.ref a1), some (.ref a2), some (.ref a3), some (.int x4), none, none] [] σ := (exec_eq PP 65 371 600 _ _ σ).trans rfl
set_option maxRecDepth 200000 in
theorem e_371_668 (a0 : Nat) (a1 : Nat) (a2 : Nat) (a3 : Nat) (x4 : Int32) (o5 : Option Value) (o6 : Option Value) (σ : SH) : exec PP 65 371 668 [some (.ref a0), some (.ref a1), some (.ref a2), some (.ref a3), some (.int x4), o5, o6] [] σ =
  exec PP 65 371 3376 [some (.ref a0), some (.ref a1), some (.ref a2), some (.ref a3), some (.int x4), none, none] [] σ := (exec_eq PP 65 371 668 _ _ σ).trans rfl
set_option maxRecDepth 200000 in
theorem e_371_736 (a0 : Nat) (a1 : Nat) (a2 : Nat) (a3 : Nat) (x4 : Int32) (o5 : Option Value) (o6 : Option Value) (σ : SH) : exec PP 65 371 736 [some (.ref a0), some (.ref a1), some (.ref a2), some (.ref a3), some (.int x4), o5, o6] [] σ =
  exec PP 65 371 3376 [some (.ref a0), some (.ref a1), some (.ref a2), some (.ref a3), some (.int x4), none, none] [] σ := (exec_eq PP 65 371 736 _ _ σ).trans rfl
set_option maxRecDepth 200000 in
theorem e_371_816 (a0 : Nat) (a1 : Nat) (a2 : Nat) (a3 : Nat) (x4 : Int32) (o5 : Option Value) (o6 : Option Value) (σ : SH) : exec PP 65 371 816 [some (.ref a0), some (.ref a1), some (.ref a2), some (.ref a3), some (.int x4), o5, o6] [] σ =
  exec PP 65 371 3376 [some (.ref a0), some (.ref a1), some (.ref a2), some (.ref a3), some (.int x4), none, none] [] σ := (exec_eq PP 65 371 816 _ _ σ).trans rfl
set_option maxRecDepth 200000 in
theorem e_371_884 (a0 : Nat) (a1 : Nat) (a2 : Nat) (a3 : Nat) (x4 : Int32) (o5 : Option Value) (o6 : Option Value) (σ : SH) : exec PP 65 371 884 [some (.ref a0), some (.ref a1), some (.ref a2), some (.ref a3), some (.int x4), o5, o6] [] σ =
  exec PP 65 371 3376 [some (.ref a0), some (.ref a1), some (.ref a2), some (.ref a3), some (.int x4), none, none] [] σ := (exec_eq PP 65 371 884 _ _ σ).trans rfl
set_option maxRecDepth 200000 in
theorem e_371_952 (a0 : Nat) (a1 : Nat) (a2 : Nat) (a3 : Nat) (x4 : Int32) (o5 : Option Value) (o6 : Option Value) (σ : SH) : exec PP 65 371 952 [some (.ref a0), some (.ref a1), some (.ref a2), some (.ref a3), some (.int x4), o5, o6] [] σ =
  exec PP 65 371 3376 [some (.ref a0), some (.ref a1), some (.ref a2), some (.ref a3), some (.int x4), none, none] [] σ := (exec_eq PP 65 371 952 _ _ σ).trans rfl
set_option maxRecDepth 200000 in
theorem e_371_1020 (a0 : Nat) (a1 : Nat) (a2 : Nat) (a3 : Nat) (x4 : Int32) (o5 : Option Value) (o6 : Option Value) (σ : SH) : exec PP 65 371 1020 [some (.ref a0), some (.ref a1), some (.ref a2), some (.ref a3), some (.int x4), o5, o6] [] σ =
  exec PP 65 371 3376 [some (.ref a0), some (.ref a1), some (.ref a2), some (.ref a3), some (.int x4), none, none] [] σ := (exec_eq PP 65 371 1020 _ _ σ).trans rfl
set_option maxRecDepth 200000 in
theorem e_371_1088 (a0 : Nat) (a1 : Nat) (a2 : Nat) (a3 : Nat) (x4 : Int32) (o5 : Option Value) (o6 : Option Value) (σ : SH) : exec PP 65 371 1088 [some (.ref a0), some (.ref a1), some (.ref a2), some (.ref a3), some (.int x4), o5, o6] [] σ =
  exec PP 65 371 3376 [some (.ref a0), some (.ref a1), some (.ref a2), some (.ref a3), some (.int x4), none, none] [] σ := (exec_eq PP 65 371 1088 _ _ σ).trans rfl
set_option maxRecDepth 200000 in
theorem e_371_1144 (a0 : Nat) (a1 : Nat) (a2 : Nat) (a3 : Nat) (x4 : Int32) (o5 : Option Value) (o6 : Option Value) (σ : SH) : exec PP 65 371 1144 [some (.ref a0), some (.ref a1), some (.ref a2), some (.ref a3), some (.int x4), o5, o6] [] σ =
  exec PP 65 371 3376 [some (.ref a0), some (.ref a1), some (.ref a2), some (.ref a3), some (.int x4), none, none] [] σ := (exec_eq PP 65 371 1144 _ _ σ).trans rfl
set_option maxRecDepth 200000 in
theorem e_371_1200 (a0 : Nat) (a1 : Nat) (a2 : Nat) (a3 : Nat) (x4 : Int32) (o5 : Option Value) (o6 : Option Value) (σ : SH) : exec PP 65 371 1200 [some (.ref a0), some (.ref a1), some (.ref a2), some (.ref a3), some (.int x4), o5, o6] [] σ =
  exec PP 65 371 3376 [some (.ref a0), some (.ref a1), some (.ref a2), some (.ref a3), some (.int x4), none, none] [] σ := (exec_eq PP 65 371 1200 _ _ σ).trans rfl
set_option maxRecDepth 200000 in
theorem e_371_1256 (a0 : Nat) (a1 : Nat) (a2 : Nat) (a3 : Nat) (x4 : Int32) (o5 : Option Value) (o6 : Option Value) (σ : SH) : exec PP 65 371 1256 [some (.ref a0), some (.ref a1), some (.ref a2), some (.ref a3), some (.int x4), o5, o6] [] σ =
  exec PP 65 371 3376 [some (.ref a0), some (.ref a1), some (.ref a2), some (.ref a3), some (.int x4), none, none] [] σ := (exec_eq PP 65 371 1256 _ _ σ).trans rfl
set_option maxRecDepth 200000 in
theorem e_371_1312 (a0 : Nat) (a1 : Nat) (a2 : Nat) (a3 : Nat) (x4 : Int32) (o5 : Option Value) (o6 : Option Value) (σ : SH) : exec PP 65 371 1312 [some (.ref a0), some (.ref a1), some (.ref a2), some (.ref a3), some (.int x4), o5, o6] [] σ =
  exec PP 65 371 3376 [some (.ref a0), some (.ref a1), some (.ref a2), some (.ref a3), some (.int x4), none, none] [] σ := (exec_eq PP 65 371 1312 _ _ σ).trans rfl
set_option maxRecDepth 200000 in
theorem e_371_1368 (a0 : Nat) (a1 : Nat) (a2 : Nat) (a3 : Nat) (x4 : Int32) (o5 : Option Value) (o6 : Option Value) (σ : SH) : exec PP 65 371 1368 [some (.ref a0), some (.ref a1), some (.ref a2), some (.ref a3), some (.int x4), o5, o6] [] σ =
  exec PP 65 371 3376 [some (.ref a0), some (.ref a1), some (.ref a2), some (.ref a3), some (.int x4), none, none] [] σ := (exec_eq PP 65 371 1368 _ _ σ).trans rfl
set_option maxRecDepth 200000 in
theorem e_371_1436 (a0 : Nat) (a1 : Nat) (a2 : Nat) (a3 : Nat) (x4 : Int32) (o5 : Option Value) (o6 : Option Value) (σ : SH) : exec PP 65 371 1436 [some (.ref a0), some (.ref a1), some (.ref a2), some (.ref a3), some (.int x4), o5, o6] [] σ =
  exec PP 65 371 3376 [some (.ref a0), some (.ref a1), some (.ref a2), some (.ref a3), some (.int x4), none, none] [] σ := (exec_eq PP 65 371 1436 _ _ σ).trans rfl
set_option maxRecDepth 200000 in
theorem e_371_1511 (a0 : Nat) (a1 : Nat) (a2 : Nat) (a3 : Nat) (x4 : Int32) (o5 : Option Value) (o6 : Option Value) (σ : SH) : exec PP 65 371 1511 [some (.ref a0), some (.ref a1), some (.ref a2), some (.ref a3), some (.int x4), o5, o6] [] σ =
  exec PP 65 371 3376 [some (.ref a0), some (.ref a1), some (.ref a2), some (.ref a3), some (.int x4), none, none] [] σ := (exec_eq PP 65 371 1511 _ _ σ).trans rfl
set_option maxRecDepth 200000 in
theorem e_371_1504 (a0 : Nat) (a1 : Nat) (a2 : Nat) (a3 : Nat) (x4 : Int32) (o5 : Option Value) (o6 : Option Value) (v0 : Int64) (σ : SH) : exec PP 65 371 1504 [some (.ref a0), some (.ref a1), some (.ref a2), some (.ref a3), some (.int x4), o5, o6] [.long v0] σ =
  if (((lcm v0 0) : Int32) = 0 : Prop) then (exec PP 65 371 1511 [some (.ref a0), some (.ref a1), some (.ref a2), some (.ref a3), some (.int x4), none, none] [] σ)
  else (some (.inl (some (.int 0)), σ)) := (exec_eq PP 65 371 1504 _ _ σ).trans rfl
set_option maxRecDepth 200000 in
theorem e_371_1505 (a0 : Nat) (a1 : Nat) (a2 : Nat) (a3 : Nat) (x4 : Int32) (o5 : Option Value) (o6 : Option Value) (v0 : Int64) (v1 : Int64) (σ : SH) : exec PP 65 371 1505 [some (.ref a0), some (.ref a1), some (.ref a2), some (.ref a3), some (.int x4), o5, o6] [.long v0, .long v1] σ =
  if (((lcm v1 v0) : Int32) = 0 : Prop) then (exec PP 65 371 1511 [some (.ref a0), some (.ref a1), some (.ref a2), some (.ref a3), some (.int x4), none, none] [] σ)
  else (some (.inl (some (.int 0)), σ)) := (exec_eq PP 65 371 1505 _ _ σ).trans rfl
set_option maxRecDepth 200000 in
theorem e_371_1579 (a0 : Nat) (a1 : Nat) (a2 : Nat) (a3 : Nat) (x4 : Int32) (o5 : Option Value) (o6 : Option Value) (σ : SH) : exec PP 65 371 1579 [some (.ref a0), some (.ref a1), some (.ref a2), some (.ref a3), some (.int x4), o5, o6] [] σ =
  exec PP 65 371 3376 [some (.ref a0), some (.ref a1), some (.ref a2), some (.ref a3), some (.int x4), none, none] [] σ := (exec_eq PP 65 371 1579 _ _ σ).trans rfl
set_option maxRecDepth 200000 in
theorem e_371_1647 (a0 : Nat) (a1 : Nat) (a2 : Nat) (a3 : Nat) (x4 : Int32) (o5 : Option Value) (o6 : Option Value) (σ : SH) : exec PP 65 371 1647 [some (.ref a0), some (.ref a1), some (.ref a2), some (.ref a3), some (.int x4), o5, o6] [] σ =
  exec PP 65 371 3376 [some (.ref a0), some (.ref a1), some (.ref a2), some (.ref a3), some (.int x4), none, none] [] σ := (exec_eq PP 65 371 1647 _ _ σ).trans rfl
set_option maxRecDepth 200000 in
theorem e_371_1727 (a0 : Nat) (a1 : Nat) (a2 : Nat) (a3 : Nat) (x4 : Int32) (o5 : Option Value) (o6 : Option Value) (σ : SH) : exec PP 65 371 1727 [some (.ref a0), some (.ref a1), some (.ref a2), some (.ref a3), some (.int x4), o5, o6] [] σ =
  exec PP 65 371 3376 [some (.ref a0), some (.ref a1), some (.ref a2), some (.ref a3), some (.int x4), none, none] [] σ := (exec_eq PP 65 371 1727 _ _ σ).trans rfl
set_option maxRecDepth 200000 in
theorem e_371_1795 (a0 : Nat) (a1 : Nat) (a2 : Nat) (a3 : Nat) (x4 : Int32) (o5 : Option Value) (o6 : Option Value) (σ : SH) : exec PP 65 371 1795 [some (.ref a0), some (.ref a1), some (.ref a2), some (.ref a3), some (.int x4), o5, o6] [] σ =
  exec PP 65 371 3376 [some (.ref a0), some (.ref a1), some (.ref a2), some (.ref a3), some (.int x4), none, none] [] σ := (exec_eq PP 65 371 1795 _ _ σ).trans rfl
set_option maxRecDepth 200000 in
theorem e_371_1863 (a0 : Nat) (a1 : Nat) (a2 : Nat) (a3 : Nat) (x4 : Int32) (o5 : Option Value) (o6 : Option Value) (σ : SH) : exec PP 65 371 1863 [some (.ref a0), some (.ref a1), some (.ref a2), some (.ref a3), some (.int x4), o5, o6] [] σ =
  exec PP 65 371 3376 [some (.ref a0), some (.ref a1), some (.ref a2), some (.ref a3), some (.int x4), none, none] [] σ := (exec_eq PP 65 371 1863 _ _ σ).trans rfl
set_option maxRecDepth 200000 in
theorem e_371_1943 (a0 : Nat) (a1 : Nat) (a2 : Nat) (a3 : Nat) (x4 : Int32) (o5 : Option Value) (o6 : Option Value) (σ : SH) : exec PP 65 371 1943 [some (.ref a0), some (.ref a1), some (.ref a2), some (.ref a3), some (.int x4), o5, o6] [] σ =
  exec PP 65 371 3376 [some (.ref a0), some (.ref a1), some (.ref a2), some (.ref a3), some (.int x4), none, none] [] σ := (exec_eq PP 65 371 1943 _ _ σ).trans rfl
set_option maxRecDepth 200000 in
theorem e_371_2011 (a0 : Nat) (a1 : Nat) (a2 : Nat) (a3 : Nat) (x4 : Int32) (o5 : Option Value) (o6 : Option Value) (σ : SH) : exec PP 65 371 2011 [some (.ref a0), some (.ref a1), some (.ref a2), some (.ref a3), some (.int x4), o5, o6] [] σ =
  exec PP 65 371 3376 [some (.ref a0), some (.ref a1), some (.ref a2), some (.ref a3), some (.int x4), none, none] [] σ := (exec_eq PP 65 371 2011 _ _ σ).trans rfl
set_option maxRecDepth 200000 in
theorem e_371_2067 (a0 : Nat) (a1 : Nat) (a2 : Nat) (a3 : Nat) (x4 : Int32) (o5 : Option Value) (o6 : Option Value) (σ : SH) : exec PP 65 371 2067 [some (.ref a0), some (.ref a1), some (.ref a2), some (.ref a3), some (.int x4), o5, o6] [] σ =
  exec PP 65 371 3376 [some (.ref a0), some (.ref a1), some (.ref a2), some (.ref a3), some (.int x4), none, none] [] σ := (exec_eq PP 65 371 2067 _ _ σ).trans rfl
set_option maxRecDepth 200000 in
theorem e_371_2135 (a0 : Nat) (a1 : Nat) (a2 : Nat) (a3 : Nat) (x4 : Int32) (o5 : Option Value) (o6 : Option Value) (σ : SH) : exec PP 65 371 2135 [some (.ref a0), some (.ref a1), some (.ref a2), some (.ref a3), some (.int x4), o5, o6] [] σ =
  exec PP 65 371 3376 [some (.ref a0), some (.ref a1), some (.ref a2), some (.ref a3), some (.int x4), none, none] [] σ := (exec_eq PP 65 371 2135 _ _ σ).trans rfl
set_option maxRecDepth 200000 in
theorem e_371_2185 (a0 : Nat) (a1 : Nat) (a2 : Nat) (a3 : Nat) (x4 : Int32) (x5 : Int32) (o6 : Option Value) (w0 : Int32) (b1 : Nat) (σ : SH) : exec PP 65 371 2185 [some (.ref a0), some (.ref a1), some (.ref a2), some (.ref a3), some (.int x4), some (.int x5), o6] [.int w0, .ref b1] σ =
  if sT σ b1 = 112 then (onI (rn 290 [.ref b1, .int w0, .int 0] σ) (fun x23 σ21 =>
  if sT σ21 a2 = 112 then (onI (rn 177 [.ref a2] σ21) (fun x26 σ24 =>
    if (x26 = x5 : Prop) then (exec PP 65 371 2202 [some (.ref a0), some (.ref a1), some (.ref a2), some (.ref a3), some (.int x4), some (.int x5), some (.int x23)] [] σ24)
      else (some (.inl (some (.int 0)), σ24))) (fun e25 σ24x => some (.inr e25, σ24x))) else none) (fun e22 σ21x => some (.inr e22, σ21x))) else none := (exec_eq PP 65 371 2185 _ _ σ).trans rfl
set_option maxRecDepth 200000 in
theorem e_371_2186 (a0 : Nat) (a1 : Nat) (a2 : Nat) (a3 : Nat) (x4 : Int32) (x5 : Int32) (o6 : Option Value) (w0 : Int32) (w1 : Int32) (b2 : Nat) (σ : SH) : exec PP 65 371 2186 [some (.ref a0), some (.ref a1), some (.ref a2), some (.ref a3), some (.int x4), some (.int x5), o6] [.int w0, .int w1, .ref b2] σ =
  if sT σ b2 = 112 then (onI (rn 290 [.ref b2, .int w1, .int w0] σ) (fun x23 σ21 =>
  if sT σ21 a2 = 112 then (onI (rn 177 [.ref a2] σ21) (fun x26 σ24 =>
    if (x26 = x5 : Prop) then (exec PP 65 371 2202 [some (.ref a0), some (.ref a1), some (.ref a2), some (.ref a3), some (.int x4), some (.int x5), some (.int x23)] [] σ24)
      else (some (.inl (some (.int 0)), σ24))) (fun e25 σ24x => some (.inr e25, σ24x))) else none) (fun e22 σ21x => some (.inr e22, σ21x))) else none := (exec_eq PP 65 371 2186 _ _ σ).trans rfl
set_option maxRecDepth 200000 in
theorem e_371_2287 (a0 : Nat) (a1 : Nat) (a2 : Nat) (a3 : Nat) (x4 : Int32) (o5 : Option Value) (o6 : Option Value) (σ : SH) : exec PP 65 371 2287 [some (.ref a0), some (.ref a1), some (.ref a2), some (.ref a3), some (.int x4), o5, o6] [] σ =
  exec PP 65 371 3376 [some (.ref a0), some (.ref a1), some (.ref a2), some (.ref a3), some (.int x4), none, none] [] σ := (exec_eq PP 65 371 2287 _ _ σ).trans rfl
set_option maxRecDepth 200000 in
theorem e_371_2343 (a0 : Nat) (a1 : Nat) (a2 : Nat) (a3 : Nat) (x4 : Int32) (o5 : Option Value) (o6 : Option Value) (σ : SH) : exec PP 65 371 2343 [some (.ref a0), some (.ref a1), some (.ref a2), some (.ref a3), some (.int x4), o5, o6] [] σ =
  exec PP 65 371 3376 [some (.ref a0), some (.ref a1), some (.ref a2), some (.ref a3), some (.int x4), none, none] [] σ := (exec_eq PP 65 371 2343 _ _ σ).trans rfl
set_option maxRecDepth 200000 in
theorem e_371_2399 (a0 : Nat) (a1 : Nat) (a2 : Nat) (a3 : Nat) (x4 : Int32) (o5 : Option Value) (o6 : Option Value) (σ : SH) : exec PP 65 371 2399 [some (.ref a0), some (.ref a1), some (.ref a2), some (.ref a3), some (.int x4), o5, o6] [] σ =
  exec PP 65 371 3376 [some (.ref a0), some (.ref a1), some (.ref a2), some (.ref a3), some (.int x4), none, none] [] σ := (exec_eq PP 65 371 2399 _ _ σ).trans rfl
set_option maxRecDepth 200000 in
theorem e_371_2449 (a0 : Nat) (a1 : Nat) (a2 : Nat) (a3 : Nat) (x4 : Int32) (x5 : Int32) (o6 : Option Value) (w0 : Int32) (b1 : Nat) (σ : SH) : exec PP 65 371 2449 [some (.ref a0), some (.ref a1), some (.ref a2), some (.ref a3), some (.int x4), some (.int x5), o6] [.int w0, .ref b1] σ =
  if sT σ b1 = 112 then (onI (rn 302 [.ref b1, .int w0, .int 0] σ) (fun x23 σ21 =>
  if sT σ21 a2 = 112 then (onI (rn 177 [.ref a2] σ21) (fun x26 σ24 =>
    if (x26 = x5 : Prop) then (exec PP 65 371 2466 [some (.ref a0), some (.ref a1), some (.ref a2), some (.ref a3), some (.int x4), some (.int x5), some (.int x23)] [] σ24)
      else (some (.inl (some (.int 0)), σ24))) (fun e25 σ24x => some (.inr e25, σ24x))) else none) (fun e22 σ21x => some (.inr e22, σ21x))) else none := (exec_eq PP 65 371 2449 _ _ σ).trans rfl
set_option maxRecDepth 200000 in
theorem e_371_2450 (a0 : Nat) (a1 : Nat) (a2 : Nat) (a3 : Nat) (x4 : Int32) (x5 : Int32) (o6 : Option Value) (w0 : Int32) (w1 : Int32) (b2 : Nat) (σ : SH) : exec PP 65 371 2450 [some (.ref a0), some (.ref a1), some (.ref a2), some (.ref a3), some (.int x4), some (.int x5), o6] [.int w0, .int w1, .ref b2] σ =
  if sT σ b2 = 112 then (onI (rn 302 [.ref b2, .int w1, .int w0] σ) (fun x23 σ21 =>
  if sT σ21 a2 = 112 then (onI (rn 177 [.ref a2] σ21) (fun x26 σ24 =>
    if (x26 = x5 : Prop) then (exec PP 65 371 2466 [some (.ref a0), some (.ref a1), some (.ref a2), some (.ref a3), some (.int x4), some (.int x5), some (.int x23)] [] σ24)
      else (some (.inl (some (.int 0)), σ24))) (fun e25 σ24x => some (.inr e25, σ24x))) else none) (fun e22 σ21x => some (.inr e22, σ21x))) else none := (exec_eq PP 65 371 2450 _ _ σ).trans rfl
set_option maxRecDepth 200000 in
theorem e_371_2539 (a0 : Nat) (a1 : Nat) (a2 : Nat) (a3 : Nat) (x4 : Int32) (o5 : Option Value) (o6 : Option Value) (σ : SH) : exec PP 65 371 2539 [some (.ref a0), some (.ref a1), some (.ref a2), some (.ref a3), some (.int x4), o5, o6] [] σ =
  exec PP 65 371 3376 [some (.ref a0), some (.ref a1), some (.ref a2), some (.ref a3), some (.int x4), none, none] [] σ := (exec_eq PP 65 371 2539 _ _ σ).trans rfl
set_option maxRecDepth 200000 in
theorem e_371_2595 (a0 : Nat) (a1 : Nat) (a2 : Nat) (a3 : Nat) (x4 : Int32) (o5 : Option Value) (o6 : Option Value) (σ : SH) : exec PP 65 371 2595 [some (.ref a0), some (.ref a1), some (.ref a2), some (.ref a3), some (.int x4), o5, o6] [] σ =
  exec PP 65 371 3376 [some (.ref a0), some (.ref a1), some (.ref a2), some (.ref a3), some (.int x4), none, none] [] σ := (exec_eq PP 65 371 2595 _ _ σ).trans rfl
set_option maxRecDepth 200000 in
theorem e_371_2687 (a0 : Nat) (a1 : Nat) (a2 : Nat) (a3 : Nat) (x4 : Int32) (o5 : Option Value) (o6 : Option Value) (σ : SH) : exec PP 65 371 2687 [some (.ref a0), some (.ref a1), some (.ref a2), some (.ref a3), some (.int x4), o5, o6] [] σ =
  exec PP 65 371 3376 [some (.ref a0), some (.ref a1), some (.ref a2), some (.ref a3), some (.int x4), none, none] [] σ := (exec_eq PP 65 371 2687 _ _ σ).trans rfl
set_option maxRecDepth 200000 in
theorem e_371_2779 (a0 : Nat) (a1 : Nat) (a2 : Nat) (a3 : Nat) (x4 : Int32) (o5 : Option Value) (o6 : Option Value) (σ : SH) : exec PP 65 371 2779 [some (.ref a0), some (.ref a1), some (.ref a2), some (.ref a3), some (.int x4), o5, o6] [] σ =
  exec PP 65 371 3376 [some (.ref a0), some (.ref a1), some (.ref a2), some (.ref a3), some (.int x4), none, none] [] σ := (exec_eq PP 65 371 2779 _ _ σ).trans rfl
set_option maxRecDepth 200000 in
theorem e_371_2859 (a0 : Nat) (a1 : Nat) (a2 : Nat) (a3 : Nat) (x4 : Int32) (o5 : Option Value) (o6 : Option Value) (σ : SH) : exec PP 65 371 2859 [some (.ref a0), some (.ref a1), some (.ref a2), some (.ref a3), some (.int x4), o5, o6] [] σ =
  exec PP 65 371 3376 [some (.ref a0), some (.ref a1), some (.ref a2), some (.ref a3), some (.int x4), none, none] [] σ := (exec_eq PP 65 371 2859 _ _ σ).trans rfl
set_option maxRecDepth 200000 in
theorem e_371_2966 (a0 : Nat) (a1 : Nat) (a2 : Nat) (a3 : Nat) (x4 : Int32) (o5 : Option Value) (o6 : Option Value) (σ : SH) : exec PP 65 371 2966 [some (.ref a0), some (.ref a1), some (.ref a2), some (.ref a3), some (.int x4), o5, o6] [] σ =
  exec PP 65 371 3376 [some (.ref a0), some (.ref a1), some (.ref a2), some (.ref a3), some (.int x4), none, none] [] σ := (exec_eq PP 65 371 2966 _ _ σ).trans rfl
set_option maxRecDepth 200000 in
theorem e_371_3016 (a0 : Nat) (a1 : Nat) (a2 : Nat) (a3 : Nat) (x4 : Int32) (x5 : Int32) (o6 : Option Value) (w0 : Int32) (b1 : Nat) (σ : SH) : exec PP 65 371 3016 [some (.ref a0), some (.ref a1), some (.ref a2), some (.ref a3), some (.int x4), some (.int x5), o6] [.int w0, .ref b1] σ =
  if sT σ b1 = 112 then (onI (rn 309 [.ref b1, .int w0, .int 0] σ) (fun x23 σ21 =>
  if sT σ21 a2 = 112 then (onI (rn 177 [.ref a2] σ21) (fun x26 σ24 =>
    if (x26 = x5 : Prop) then (exec PP 65 371 3033 [some (.ref a0), some (.ref a1), some (.ref a2), some (.ref a3), some (.int x4), some (.int x5), some (.int x23)] [] σ24)
      else (some (.inl (some (.int 0)), σ24))) (fun e25 σ24x => some (.inr e25, σ24x))) else none) (fun e22 σ21x => some (.inr e22, σ21x))) else none := (exec_eq PP 65 371 3016 _ _ σ).trans rfl
set_option maxRecDepth 200000 in
theorem e_371_3017 (a0 : Nat) (a1 : Nat) (a2 : Nat) (a3 : Nat) (x4 : Int32) (x5 : Int32) (o6 : Option Value) (w0 : Int32) (w1 : Int32) (b2 : Nat) (σ : SH) : exec PP 65 371 3017 [some (.ref a0), some (.ref a1), some (.ref a2), some (.ref a3), some (.int x4), some (.int x5), o6] [.int w0, .int w1, .ref b2] σ =
  if sT σ b2 = 112 then (onI (rn 309 [.ref b2, .int w1, .int w0] σ) (fun x23 σ21 =>
  if sT σ21 a2 = 112 then (onI (rn 177 [.ref a2] σ21) (fun x26 σ24 =>
    if (x26 = x5 : Prop) then (exec PP 65 371 3033 [some (.ref a0), some (.ref a1), some (.ref a2), some (.ref a3), some (.int x4), some (.int x5), some (.int x23)] [] σ24)
      else (some (.inl (some (.int 0)), σ24))) (fun e25 σ24x => some (.inr e25, σ24x))) else none) (fun e22 σ21x => some (.inr e22, σ21x))) else none := (exec_eq PP 65 371 3017 _ _ σ).trans rfl
set_option maxRecDepth 200000 in
theorem e_371_3100 (a0 : Nat) (a1 : Nat) (a2 : Nat) (a3 : Nat) (x4 : Int32) (x5 : Int32) (o6 : Option Value) (w0 : Int32) (b1 : Nat) (σ : SH) : exec PP 65 371 3100 [some (.ref a0), some (.ref a1), some (.ref a2), some (.ref a3), some (.int x4), some (.int x5), o6] [.int w0, .ref b1] σ =
  if sT σ b1 = 112 then (onI (rn 311 [.ref b1, .int w0, .int 0] σ) (fun x23 σ21 =>
  if sT σ21 a2 = 112 then (onI (rn 177 [.ref a2] σ21) (fun x26 σ24 =>
    if (x26 = x5 : Prop) then (exec PP 65 371 3117 [some (.ref a0), some (.ref a1), some (.ref a2), some (.ref a3), some (.int x4), some (.int x5), some (.int x23)] [] σ24)
      else (some (.inl (some (.int 0)), σ24))) (fun e25 σ24x => some (.inr e25, σ24x))) else none) (fun e22 σ21x => some (.inr e22, σ21x))) else none := (exec_eq PP 65 371 3100 _ _ σ).trans rfl
set_option maxRecDepth 200000 in
theorem e_371_3101 (a0 : Nat) (a1 : Nat) (a2 : Nat) (a3 : Nat) (x4 : Int32) (x5 : Int32) (o6 : Option Value) (w0 : Int32) (w1 : Int32) (b2 : Nat) (σ : SH) : exec PP 65 371 3101 [some (.ref a0), some (.ref a1), some (.ref a2), some (.ref a3), some (.int x4), some (.int x5), o6] [.int w0, .int w1, .ref b2] σ =
  if sT σ b2 = 112 then (onI (rn 311 [.ref b2, .int w1, .int w0] σ) (fun x23 σ21 =>
  if sT σ21 a2 = 112 then (onI (rn 177 [.ref a2] σ21) (fun x26 σ24 =>
    if (x26 = x5 : Prop) then (exec PP 65 371 3117 [some (.ref a0), some (.ref a1), some (.ref a2), some (.ref a3), some (.int x4), some (.int x5), some (.int x23)] [] σ24)
      else (some (.inl (some (.int 0)), σ24))) (fun e25 σ24x => some (.inr e25, σ24x))) else none) (fun e22 σ21x => some (.inr e22, σ21x))) else none := (exec_eq PP 65 371 3101 _ _ σ).trans rfl
set_option maxRecDepth 200000 in
theorem e_371_3184 (a0 : Nat) (a1 : Nat) (a2 : Nat) (a3 : Nat) (x4 : Int32) (x5 : Int32) (o6 : Option Value) (w0 : Int32) (b1 : Nat) (σ : SH) : exec PP 65 371 3184 [some (.ref a0), some (.ref a1), some (.ref a2), some (.ref a3), some (.int x4), some (.int x5), o6] [.int w0, .ref b1] σ =
  if sT σ b1 = 112 then (onI (rn 312 [.ref b1, .int w0, .int 0] σ) (fun x23 σ21 =>
  if sT σ21 a2 = 112 then (onI (rn 177 [.ref a2] σ21) (fun x26 σ24 =>
    if (x26 = x5 : Prop) then (exec PP 65 371 3201 [some (.ref a0), some (.ref a1), some (.ref a2), some (.ref a3), some (.int x4), some (.int x5), some (.int x23)] [] σ24)
      else (some (.inl (some (.int 0)), σ24))) (fun e25 σ24x => some (.inr e25, σ24x))) else none) (fun e22 σ21x => some (.inr e22, σ21x))) else none := (exec_eq PP 65 371 3184 _ _ σ).trans rfl
set_option maxRecDepth 200000 in
theorem e_371_3185 (a0 : Nat) (a1 : Nat) (a2 : Nat) (a3 : Nat) (x4 : Int32) (x5 : Int32) (o6 : Option Value) (w0 : Int32) (w1 : Int32) (b2 : Nat) (σ : SH) : exec PP 65 371 3185 [some (.ref a0), some (.ref a1), some (.ref a2), some (.ref a3), some (.int x4), some (.int x5), o6] [.int w0, .int w1, .ref b2] σ =
  if sT σ b2 = 112 then (onI (rn 312 [.ref b2, .int w1, .int w0] σ) (fun x23 σ21 =>
  if sT σ21 a2 = 112 then (onI (rn 177 [.ref a2] σ21) (fun x26 σ24 =>
    if (x26 = x5 : Prop) then (exec PP 65 371 3201 [some (.ref a0), some (.ref a1), some (.ref a2), some (.ref a3), some (.int x4), some (.int x5), some (.int x23)] [] σ24)
      else (some (.inl (some (.int 0)), σ24))) (fun e25 σ24x => some (.inr e25, σ24x))) else none) (fun e22 σ21x => some (.inr e22, σ21x))) else none := (exec_eq PP 65 371 3185 _ _ σ).trans rfl
set_option maxRecDepth 200000 in
theorem e_371_3286 (a0 : Nat) (a1 : Nat) (a2 : Nat) (a3 : Nat) (x4 : Int32) (o5 : Option Value) (o6 : Option Value) (σ : SH) : exec PP 65 371 3286 [some (.ref a0), some (.ref a1), some (.ref a2), some (.ref a3), some (.int x4), o5, o6] [] σ =
  exec PP 65 371 3376 [some (.ref a0), some (.ref a1), some (.ref a2), some (.ref a3), some (.int x4), none, none] [] σ := (exec_eq PP 65 371 3286 _ _ σ).trans rfl
set_option maxRecDepth 200000 in
theorem e_371_2202 (a0 : Nat) (a1 : Nat) (a2 : Nat) (a3 : Nat) (x4 : Int32) (x5 : Int32) (x6 : Int32) (σ : SH) : exec PP 65 371 2202 [some (.ref a0), some (.ref a1), some (.ref a2), some (.ref a3), some (.int x4), some (.int x5), some (.int x6)] [] σ =
  if (x5 = 0 : Prop) then (aJ σ (.ref a3) 0 fun x21 =>
    if (((lcm x21 x6.toInt64) : Int32) = 0 : Prop) then (exec PP 65 371 2219 [some (.ref a0), some (.ref a1), some (.ref a2), some (.ref a3), some (.int x4), some (.int x5), some (.int x6)] [] σ)
    else (some (.inl (some (.int 0)), σ)))
  else (exec PP 65 371 2219 [some (.ref a0), some (.ref a1), some (.ref a2), some (.ref a3), some (.int x4), some (.int x5), some (.int x6)] [] σ) := (exec_eq PP 65 371 2202 _ _ σ).trans rfl
set_option maxRecDepth 200000 in
theorem e_371_2466 (a0 : Nat) (a1 : Nat) (a2 : Nat) (a3 : Nat) (x4 : Int32) (x5 : Int32) (x6 : Int32) (σ : SH) : exec PP 65 371 2466 [some (.ref a0), some (.ref a1), some (.ref a2), some (.ref a3), some (.int x4), some (.int x5), some (.int x6)] [] σ =
  if (x5 = 0 : Prop) then (aJ σ (.ref a3) 0 fun x21 =>
    if (((lcm x21 x6.toInt64) : Int32) = 0 : Prop) then (exec PP 65 371 2483 [some (.ref a0), some (.ref a1), some (.ref a2), some (.ref a3), some (.int x4), some (.int x5), some (.int x6)] [] σ)
    else (some (.inl (some (.int 0)), σ)))
  else (exec PP 65 371 2483 [some (.ref a0), some (.ref a1), some (.ref a2), some (.ref a3), some (.int x4), some (.int x5), some (.int x6)] [] σ) := (exec_eq PP 65 371 2466 _ _ σ).trans rfl
set_option maxRecDepth 200000 in
theorem e_371_3033 (a0 : Nat) (a1 : Nat) (a2 : Nat) (a3 : Nat) (x4 : Int32) (x5 : Int32) (x6 : Int32) (σ : SH) : exec PP 65 371 3033 [some (.ref a0), some (.ref a1), some (.ref a2), some (.ref a3), some (.int x4), some (.int x5), some (.int x6)] [] σ =
  if (x5 = 0 : Prop) then (aJ σ (.ref a3) 0 fun x21 =>
    if (((lcm x21 x6.toInt64) : Int32) = 0 : Prop) then (exec PP 65 371 3050 [some (.ref a0), some (.ref a1), some (.ref a2), some (.ref a3), some (.int x4), some (.int x5), some (.int x6)] [] σ)
    else (some (.inl (some (.int 0)), σ)))
  else (exec PP 65 371 3050 [some (.ref a0), some (.ref a1), some (.ref a2), some (.ref a3), some (.int x4), some (.int x5), some (.int x6)] [] σ) := (exec_eq PP 65 371 3033 _ _ σ).trans rfl
set_option maxRecDepth 200000 in
theorem e_371_3117 (a0 : Nat) (a1 : Nat) (a2 : Nat) (a3 : Nat) (x4 : Int32) (x5 : Int32) (x6 : Int32) (σ : SH) : exec PP 65 371 3117 [some (.ref a0), some (.ref a1), some (.ref a2), some (.ref a3), some (.int x4), some (.int x5), some (.int x6)] [] σ =
  if (x5 = 0 : Prop) then (aJ σ (.ref a3) 0 fun x21 =>
    if (((lcm x21 x6.toInt64) : Int32) = 0 : Prop) then (exec PP 65 371 3134 [some (.ref a0), some (.ref a1), some (.ref a2), some (.ref a3), some (.int x4), some (.int x5), some (.int x6)] [] σ)
    else (some (.inl (some (.int 0)), σ)))
  else (exec PP 65 371 3134 [some (.ref a0), some (.ref a1), some (.ref a2), some (.ref a3), some (.int x4), some (.int x5), some (.int x6)] [] σ) := (exec_eq PP 65 371 3117 _ _ σ).trans rfl
set_option maxRecDepth 200000 in
theorem e_371_3201 (a0 : Nat) (a1 : Nat) (a2 : Nat) (a3 : Nat) (x4 : Int32) (x5 : Int32) (x6 : Int32) (σ : SH) : exec PP 65 371 3201 [some (.ref a0), some (.ref a1), some (.ref a2), some (.ref a3), some (.int x4), some (.int x5), some (.int x6)] [] σ =
  if (x5 = 0 : Prop) then (aJ σ (.ref a3) 0 fun x21 =>
    if (((lcm x21 x6.toInt64) : Int32) = 0 : Prop) then (exec PP 65 371 3218 [some (.ref a0), some (.ref a1), some (.ref a2), some (.ref a3), some (.int x4), some (.int x5), some (.int x6)] [] σ)
    else (some (.inl (some (.int 0)), σ)))
  else (exec PP 65 371 3218 [some (.ref a0), some (.ref a1), some (.ref a2), some (.ref a3), some (.int x4), some (.int x5), some (.int x6)] [] σ) := (exec_eq PP 65 371 3201 _ _ σ).trans rfl
set_option maxRecDepth 200000 in
theorem e_371_2219 (a0 : Nat) (a1 : Nat) (a2 : Nat) (a3 : Nat) (x4 : Int32) (o5 : Option Value) (o6 : Option Value) (σ : SH) : exec PP 65 371 2219 [some (.ref a0), some (.ref a1), some (.ref a2), some (.ref a3), some (.int x4), o5, o6] [] σ =
  exec PP 65 371 3376 [some (.ref a0), some (.ref a1), some (.ref a2), some (.ref a3), some (.int x4), none, none] [] σ := (exec_eq PP 65 371 2219 _ _ σ).trans rfl
set_option maxRecDepth 200000 in
theorem e_371_2483 (a0 : Nat) (a1 : Nat) (a2 : Nat) (a3 : Nat) (x4 : Int32) (o5 : Option Value) (o6 : Option Value) (σ : SH) : exec PP 65 371 2483 [some (.ref a0), some (.ref a1), some (.ref a2), some (.ref a3), some (.int x4), o5, o6] [] σ =
  exec PP 65 371 3376 [some (.ref a0), some (.ref a1), some (.ref a2), some (.ref a3), some (.int x4), none, none] [] σ := (exec_eq PP 65 371 2483 _ _ σ).trans rfl
set_option maxRecDepth 200000 in
theorem e_371_3050 (a0 : Nat) (a1 : Nat) (a2 : Nat) (a3 : Nat) (x4 : Int32) (o5 : Option Value) (o6 : Option Value) (σ : SH) : exec PP 65 371 3050 [some (.ref a0), some (.ref a1), some (.ref a2), some (.ref a3), some (.int x4), o5, o6] [] σ =
  exec PP 65 371 3376 [some (.ref a0), some (.ref a1), some (.ref a2), some (.ref a3), some (.int x4), none, none] [] σ := (exec_eq PP 65 371 3050 _ _ σ).trans rfl
set_option maxRecDepth 200000 in
theorem e_371_3134 (a0 : Nat) (a1 : Nat) (a2 : Nat) (a3 : Nat) (x4 : Int32) (o5 : Option Value) (o6 : Option Value) (σ : SH) : exec PP 65 371 3134 [some (.ref a0), some (.ref a1), some (.ref a2), some (.ref a3), some (.int x4), o5, o6] [] σ =
  exec PP 65 371 3376 [some (.ref a0), some (.ref a1), some (.ref a2), some (.ref a3), some (.int x4), none, none] [] σ := (exec_eq PP 65 371 3134 _ _ σ).trans rfl
set_option maxRecDepth 200000 in
theorem e_371_3218 (a0 : Nat) (a1 : Nat) (a2 : Nat) (a3 : Nat) (x4 : Int32) (o5 : Option Value) (o6 : Option Value) (σ : SH) : exec PP 65 371 3218 [some (.ref a0), some (.ref a1), some (.ref a2), some (.ref a3), some (.int x4), o5, o6] [] σ =
  exec PP 65 371 3376 [some (.ref a0), some (.ref a1), some (.ref a2), some (.ref a3), some (.int x4), none, none] [] σ := (exec_eq PP 65 371 3218 _ _ σ).trans rfl
