/-! 106: ArchEnds.<init>()V -/
set_option maxRecDepth 20000 in
theorem r_106 (a0 : Nat) (σ : SH) : rn 106 [.ref a0] σ =
  if (a0 : Nat) ≠ 39 ∧ 0 ≤ 8 then
  if ((sZ σ) : Nat) = 39 then none else (onV (rn 96 [.ref (sZ σ)] (mkC σ 110 0 8)) (fun σ21 =>
  pV σ21 111 0 (.ref a0) (.ref (sZ σ)) fun σ23 =>
    gR (mkC σ23 107 0 6) 111 0 (.ref a0) fun a24 =>
    if ((sZ σ23) : Nat) = 39 then none else (onV (rn 75 [.ref (sZ σ23), .ref a24] (mkC σ23 107 0 6)) (fun σ25 =>
    pV σ25 111 1 (.ref a0) (.ref (sZ σ23)) fun σ27 =>
      if ((sZ σ27) : Nat) = 39 then none else (onV (rn 4 [.ref (sZ σ27)] (mkC σ27 101 0 14)) (fun σ28 =>
      pV σ28 111 2 (.ref a0) (.ref (sZ σ27)) fun σ30 =>
        if ((sZ σ30) : Nat) = 39 then none else (onV (rn 4 [.ref (sZ σ30)] (mkC σ30 101 0 14)) (fun σ31 =>
        pV σ31 111 3 (.ref a0) (.ref (sZ σ30)) fun σ33 =>
          if ((sZ σ33) : Nat) = 39 then none else (onV (rn 4 [.ref (sZ σ33)] (mkC σ33 101 0 14)) (fun σ34 =>
          pV σ34 111 4 (.ref a0) (.ref (sZ σ33)) fun σ36 =>
            nwA σ36 11 12 fun a37 σ38 =>
            pV σ38 111 5 (.ref a0) (.ref a37) fun σ39 =>
            gR (mkC σ39 103 0 4) 111 2 (.ref a0) fun a40 =>
            if ((sZ σ39) : Nat) = 39 then none else (onV (rn 24 [.ref (sZ σ39), .ref a40] (mkC σ39 103 0 4)) (fun σ41 =>
            pV σ41 111 6 (.ref a0) (.ref (sZ σ39)) fun σ43 =>
              gR (mkC σ43 106 0 8) 111 2 (.ref a0) fun a44 =>
              gR (mkC σ43 106 0 8) 111 6 (.ref a0) fun a45 =>
              if ((sZ σ43) : Nat) = 39 then none else (onV (rn 56 [.ref (sZ σ43), .ref a44, .ref a45] (mkC σ43 106 0 8)) (fun σ46 =>
              pV σ46 111 7 (.ref a0) (.ref (sZ σ43)) fun σ48 =>
                pI σ48 111 11 (.ref a0) (-1) fun σ49 =>
                exec PP 3 106 113 [some (.ref a0), some (.int 0)] [] σ49) (fun _ _ => none))) (fun _ _ => none))) (fun _ _ => none))) (fun _ _ => none))) (fun _ _ => none))) (fun _ _ => none))) (fun _ _ => none))
  else none := (exec_eq PP 3 106 0 _ _ σ).trans rfl
set_option maxRecDepth 20000 in
theorem e_106_113 (a0 : Nat) (x1 : Int32) (σ : SH) : exec PP 3 106 113 [some (.ref a0), some (.int x1)] [] σ =
  gR σ 111 5 (.ref a0) fun a21 =>
  aN σ (.ref a21) fun x22 =>
  if (x1 < x22 : Prop) then (gR σ 111 5 (.ref a0) fun a23 =>
    if ((sZ σ) : Nat) = 39 then none else (onV (rn 4 [.ref (sZ σ)] (mkC σ 101 0 14)) (fun σ24 =>
    uR σ24 (.ref a23) x1 (.ref (sZ σ)) fun σ26 =>
      exec PP 3 106 113 [some (.ref a0), some (.int (x1 + 1))] [] σ26) (fun _ _ => none)))
  else (exec PP 3 106 141 [some (.ref a0), some (.int x1)] [] σ) := (exec_eq PP 3 106 113 _ _ σ).trans rfl
set_option maxRecDepth 20000 in
theorem e_106_141 (o0 : Option Value) (o1 : Option Value) (σ : SH) : exec PP 3 106 141 [o0, o1] [] σ =
  some (.inl none, σ) := (exec_eq PP 3 106 141 _ _ σ).trans rfl

/-! 107: ArchEnds.feed(IIIII)I -/
set_option maxRecDepth 20000 in
theorem r_107 (a0 : Nat) (x1 : Int32) (x2 : Int32) (x3 : Int32) (x4 : Int32) (x5 : Int32) (σ : SH) : rn 107 [.ref a0, .int x1, .int x2, .int x3, .int x4, .int x5] σ =
  gR σ 111 0 (.ref a0) fun a21 =>
  gI σ 110 1 (.ref a21) fun x22 =>
  if (400 < ((x22 + 20) : Int32) : Prop) then (some (.inl (some (.int (-1))), σ))
  else (exec PP 2 107 18 [some (.ref a0), some (.int x1), some (.int x2), some (.int x3), some (.int x4), some (.int x5)] [] σ) := (exec_eq PP 2 107 0 _ _ σ).trans rfl
set_option maxRecDepth 20000 in
theorem e_107_18 (a0 : Nat) (x1 : Int32) (x2 : Int32) (x3 : Int32) (x4 : Int32) (x5 : Int32) (σ : SH) : exec PP 2 107 18 [some (.ref a0), some (.int x1), some (.int x2), some (.int x3), some (.int x4), some (.int x5)] [] σ =
  gR σ 111 0 (.ref a0) fun a21 =>
  if sT σ a21 = 110 then (onV (rn 97 [.ref a21, .int x1] σ) (fun σ22 =>
  gR σ22 111 0 (.ref a0) fun a24 =>
    if sT σ22 a24 = 110 then (onV (rn 97 [.ref a24, .int x2] σ22) (fun σ25 =>
    gR σ25 111 0 (.ref a0) fun a27 =>
      if sT σ25 a27 = 110 then (onV (rn 97 [.ref a27, .int x3] σ25) (fun σ28 =>
      gR σ28 111 0 (.ref a0) fun a30 =>
        if sT σ28 a30 = 110 then (onV (rn 97 [.ref a30, .int x4] σ28) (fun σ31 =>
        gR σ31 111 0 (.ref a0) fun a33 =>
          if sT σ31 a33 = 110 then (onV (rn 97 [.ref a33, .int x5] σ31) (fun σ34 =>
          gR σ34 111 0 (.ref a0) fun a36 =>
            gI σ34 110 1 (.ref a36) fun x37 =>
            some (.inl (some (.int x37)), σ34)) (fun e35 σ34x => some (.inr e35, σ34x))) else none) (fun e32 σ31x => some (.inr e32, σ31x))) else none) (fun e29 σ28x => some (.inr e29, σ28x))) else none) (fun e26 σ25x => some (.inr e26, σ25x))) else none) (fun e23 σ22x => some (.inr e23, σ22x))) else none := (exec_eq PP 2 107 18 _ _ σ).trans rfl

/-! 108: ArchEnds.end(I)Z -/
set_option maxRecDepth 20000 in
theorem r_108 (a0 : Nat) (x1 : Int32) (σ : SH) : rn 108 [.ref a0, .int x1] σ =
  if (x1 < 0 : Prop) then (exec PP 1 108 15 [some (.ref a0), some (.int x1)] [] σ)
  else (gR σ 111 0 (.ref a0) fun a21 =>
    gI σ 110 1 (.ref a21) fun x22 =>
    if (x22 < x1 : Prop) then (some (.inl (some (.int 0)), σ))
    else (exec PP 1 108 17 [some (.ref a0), some (.int x1)] [] σ)) := (exec_eq PP 1 108 0 _ _ σ).trans rfl
set_option maxRecDepth 20000 in
theorem e_108_15 (o0 : Option Value) (o1 : Option Value) (σ : SH) : exec PP 1 108 15 [o0, o1] [] σ =
  some (.inl (some (.int 0)), σ) := (exec_eq PP 1 108 15 _ _ σ).trans rfl
set_option maxRecDepth 20000 in
theorem e_108_17 (a0 : Nat) (x1 : Int32) (σ : SH) : exec PP 1 108 17 [some (.ref a0), some (.int x1)] [] σ =
  gR σ 111 0 (.ref a0) fun a21 =>
  pI σ 110 1 (.ref a21) x1 fun σ22 =>
  some (.inl (some (.int 1)), σ22) := (exec_eq PP 1 108 17 _ _ σ).trans rfl

/-! 109: ArchEnds.fault()I -/
set_option maxRecDepth 20000 in
theorem r_109 (a0 : Nat) (σ : SH) : rn 109 [.ref a0] σ =
  gI σ 111 11 (.ref a0) fun x21 =>
  some (.inl (some (.int x21)), σ) := (exec_eq PP 1 109 0 _ _ σ).trans rfl

/-! 110: ArchEnds.dry()I -/
set_option maxRecDepth 20000 in
theorem r_110 (a0 : Nat) (σ : SH) : rn 110 [.ref a0] σ =
  gR σ 111 6 (.ref a0) fun a21 =>
  if sT σ a21 = 103 then (onI (rn 25 [.ref a21] σ) (fun x24 σ22 =>
  some (.inl (some (.int x24)), σ22)) (fun e23 σ22x => some (.inr e23, σ22x))) else none := (exec_eq PP 2 110 0 _ _ σ).trans rfl

/-! 111: ArchEnds.rich()I -/
set_option maxRecDepth 20000 in
theorem r_111 (a0 : Nat) (σ : SH) : rn 111 [.ref a0] σ =
  gR σ 111 7 (.ref a0) fun a21 =>
  if sT σ a21 = 106 then (onI (rn 57 [.ref a21] σ) (fun x24 σ22 =>
  some (.inl (some (.int x24)), σ22)) (fun e23 σ22x => some (.inr e23, σ22x))) else none := (exec_eq PP 3 111 0 _ _ σ).trans rfl

/-! 112: ArchEnds.clash()I -/
set_option maxRecDepth 20000 in
theorem r_112 (a0 : Nat) (σ : SH) : rn 112 [.ref a0] σ =
  gR σ 111 7 (.ref a0) fun a21 =>
  if sT σ a21 = 106 then (onI (rn 58 [.ref a21] σ) (fun x24 σ22 =>
  some (.inl (some (.int x24)), σ22)) (fun e23 σ22x => some (.inr e23, σ22x))) else none := (exec_eq PP 3 112 0 _ _ σ).trans rfl

/-! 113: ArchEnds.seed(I)I -/
set_option maxRecDepth 20000 in
theorem r_113 (a0 : Nat) (x1 : Int32) (σ : SH) : rn 113 [.ref a0, .int x1] σ =
  gR σ 111 2 (.ref a0) fun a21 =>
  gI σ 101 11 (.ref a21) fun x22 =>
  gR σ 111 2 (.ref a0) fun a23 =>
  pI σ 101 11 (.ref a23) x1 fun σ24 =>
  some (.inl (some (.int x22)), σ24) := (exec_eq PP 1 113 0 _ _ σ).trans rfl

/-! 114: ArchEnds.undo()Z -/
set_option maxRecDepth 20000 in
theorem r_114 (a0 : Nat) (σ : SH) : rn 114 [.ref a0] σ =
  gI σ 111 10 (.ref a0) fun x21 =>
  if (x21 = 0 : Prop) then (some (.inl (some (.int 0)), σ))
  else (exec PP 3 114 9 [some (.ref a0)] [] σ) := (exec_eq PP 3 114 0 _ _ σ).trans rfl
set_option maxRecDepth 20000 in
theorem e_114_9 (a0 : Nat) (σ : SH) : exec PP 3 114 9 [some (.ref a0)] [] σ =
  gI σ 111 10 (.ref a0) fun x21 =>
  pI σ 111 10 (.ref a0) (x21 - 1) fun σ22 =>
  gR σ22 111 2 (.ref a0) fun a23 =>
  gR σ22 111 5 (.ref a0) fun a24 =>
  gI σ22 111 9 (.ref a0) fun x25 =>
  gI σ22 111 10 (.ref a0) fun x26 =>
  aR σ22 (.ref a24) (irm (x25 + x26) 12) fun a27 =>
  if sT σ22 a23 = 101 then (onV (rn 6 [.ref a23, .ref a27] σ22) (fun σ28 =>
  some (.inl (some (.int 1)), σ28)) (fun e29 σ28x => some (.inr e29, σ28x))) else none := (exec_eq PP 3 114 9 _ _ σ).trans rfl

/-! 115: ArchEnds.image()V -/
set_option maxRecDepth 20000 in
theorem r_115 (a0 : Nat) (σ : SH) : rn 115 [.ref a0] σ =
  gR σ 111 4 (.ref a0) fun a21 =>
  gR σ 111 2 (.ref a0) fun a22 =>
  if sT σ a21 = 101 then (onV (rn 6 [.ref a21, .ref a22] σ) (fun σ23 =>
  pB σ23 111 8 (.ref a0) 1 fun σ25 =>
    some (.inl none, σ25)) (fun e24 σ23x => some (.inr e24, σ23x))) else none := (exec_eq PP 3 115 0 _ _ σ).trans rfl

/-! 116: ArchEnds.back()Z -/
set_option maxRecDepth 20000 in
theorem r_116 (a0 : Nat) (σ : SH) : rn 116 [.ref a0] σ =
  gI σ 111 8 (.ref a0) fun x21 =>
  if (x21 = 0 : Prop) then (some (.inl (some (.int 0)), σ))
  else (exec PP 3 116 9 [some (.ref a0)] [] σ) := (exec_eq PP 3 116 0 _ _ σ).trans rfl
set_option maxRecDepth 20000 in
theorem e_116_9 (a0 : Nat) (σ : SH) : exec PP 3 116 9 [some (.ref a0)] [] σ =
  gR σ 111 2 (.ref a0) fun a21 =>
  gR σ 111 4 (.ref a0) fun a22 =>
  if sT σ a21 = 101 then (onV (rn 6 [.ref a21, .ref a22] σ) (fun σ23 =>
  if sT σ23 a0 = 111 then (onV (rn 117 [.ref a0] σ23) (fun σ25 =>
    some (.inl (some (.int 1)), σ25)) (fun e26 σ25x => some (.inr e26, σ25x))) else none) (fun e24 σ23x => some (.inr e24, σ23x))) else none := (exec_eq PP 3 116 9 _ _ σ).trans rfl

/-! 117: ArchEnds.forgetActs()V -/
set_option maxRecDepth 20000 in
theorem r_117 (a0 : Nat) (σ : SH) : rn 117 [.ref a0] σ =
  pI σ 111 9 (.ref a0) 0 fun σ21 =>
  pI σ21 111 10 (.ref a0) 0 fun σ22 =>
  some (.inl none, σ22) := (exec_eq PP 1 117 0 _ _ σ).trans rfl

/-! 118: ArchEnds.count(I)I -/
set_option maxRecDepth 20000 in
theorem r_118 (a0 : Nat) (x1 : Int32) (σ : SH) : rn 118 [.ref a0, .int x1] σ =
  if x1 = 0 then (exec PP 2 118 64 [some (.ref a0), some (.int x1)] [] σ)
  else if x1 = 1 then (exec PP 2 118 72 [some (.ref a0), some (.int x1)] [] σ)
  else if x1 = 2 then (exec PP 2 118 80 [some (.ref a0), some (.int x1)] [] σ)
  else if x1 = 3 then (exec PP 2 118 88 [some (.ref a0), some (.int x1)] [] σ)
  else if x1 = 4 then (exec PP 2 118 96 [some (.ref a0), some (.int x1)] [] σ)
  else if x1 = 5 then (exec PP 2 118 121 [some (.ref a0), some (.int x1)] [] σ)
  else if x1 = 6 then (exec PP 2 118 129 [some (.ref a0), some (.int x1)] [] σ)
  else if x1 = 7 then (exec PP 2 118 137 [some (.ref a0), some (.int x1)] [] σ)
  else if x1 = 8 then (exec PP 2 118 145 [some (.ref a0), some (.int x1)] [] σ)
  else if x1 = 9 then (exec PP 2 118 153 [some (.ref a0), some (.int x1)] [] σ)
  else if x1 = 10 then (exec PP 2 118 161 [some (.ref a0), some (.int x1)] [] σ)
  else if x1 = 11 then (exec PP 2 118 172 [some (.ref a0), some (.int x1)] [] σ)
  else (exec PP 2 118 177 [some (.ref a0), some (.int x1)] [] σ) := (exec_eq PP 2 118 0 _ _ σ).trans rfl
set_option maxRecDepth 20000 in
theorem e_118_177 (o0 : Option Value) (o1 : Option Value) (σ : SH) : exec PP 2 118 177 [o0, o1] [] σ =
  some (.inl (some (.int (-1))), σ) := (exec_eq PP 2 118 177 _ _ σ).trans rfl
set_option maxRecDepth 20000 in
theorem e_118_64 (a0 : Nat) (o1 : Option Value) (σ : SH) : exec PP 2 118 64 [some (.ref a0), o1] [] σ =
  gR σ 111 2 (.ref a0) fun a21 =>
  gI σ 101 4 (.ref a21) fun x22 =>
  some (.inl (some (.int x22)), σ) := (exec_eq PP 2 118 64 _ _ σ).trans rfl
set_option maxRecDepth 20000 in
theorem e_118_72 (a0 : Nat) (o1 : Option Value) (σ : SH) : exec PP 2 118 72 [some (.ref a0), o1] [] σ =
  gR σ 111 2 (.ref a0) fun a21 =>
  gI σ 101 5 (.ref a21) fun x22 =>
  some (.inl (some (.int x22)), σ) := (exec_eq PP 2 118 72 _ _ σ).trans rfl
set_option maxRecDepth 20000 in
theorem e_118_80 (a0 : Nat) (o1 : Option Value) (σ : SH) : exec PP 2 118 80 [some (.ref a0), o1] [] σ =
  gR σ 111 2 (.ref a0) fun a21 =>
  gI σ 101 6 (.ref a21) fun x22 =>
  some (.inl (some (.int x22)), σ) := (exec_eq PP 2 118 80 _ _ σ).trans rfl
set_option maxRecDepth 20000 in
theorem e_118_88 (a0 : Nat) (o1 : Option Value) (σ : SH) : exec PP 2 118 88 [some (.ref a0), o1] [] σ =
  gR σ 111 2 (.ref a0) fun a21 =>
  gI σ 101 7 (.ref a21) fun x22 =>
  some (.inl (some (.int x22)), σ) := (exec_eq PP 2 118 88 _ _ σ).trans rfl
set_option maxRecDepth 20000 in
theorem e_118_96 (a0 : Nat) (o1 : Option Value) (σ : SH) : exec PP 2 118 96 [some (.ref a0), o1] [] σ =
  gR σ 111 2 (.ref a0) fun a21 =>
  gQ σ 101 12 (.ref a21) (exec PP 2 118 120 [some (.ref a0), none] [.int (-1)] σ)
  (fun a22 => if (a22 : Nat) = 39 then none else
    exec PP 2 118 110 [some (.ref a0), none] [] σ) := (exec_eq PP 2 118 96 _ _ σ).trans rfl
set_option maxRecDepth 20000 in
theorem e_118_121 (a0 : Nat) (o1 : Option Value) (σ : SH) : exec PP 2 118 121 [some (.ref a0), o1] [] σ =
  gR σ 111 2 (.ref a0) fun a21 =>
  gI σ 101 10 (.ref a21) fun x22 =>
  some (.inl (some (.int x22)), σ) := (exec_eq PP 2 118 121 _ _ σ).trans rfl
set_option maxRecDepth 20000 in
theorem e_118_129 (a0 : Nat) (o1 : Option Value) (σ : SH) : exec PP 2 118 129 [some (.ref a0), o1] [] σ =
  gR σ 111 2 (.ref a0) fun a21 =>
  gI σ 101 8 (.ref a21) fun x22 =>
  some (.inl (some (.int x22)), σ) := (exec_eq PP 2 118 129 _ _ σ).trans rfl
set_option maxRecDepth 20000 in
theorem e_118_137 (a0 : Nat) (o1 : Option Value) (σ : SH) : exec PP 2 118 137 [some (.ref a0), o1] [] σ =
  gR σ 111 2 (.ref a0) fun a21 =>
  gI σ 101 9 (.ref a21) fun x22 =>
  some (.inl (some (.int x22)), σ) := (exec_eq PP 2 118 137 _ _ σ).trans rfl
set_option maxRecDepth 20000 in
theorem e_118_145 (a0 : Nat) (o1 : Option Value) (σ : SH) : exec PP 2 118 145 [some (.ref a0), o1] [] σ =
  gR σ 111 2 (.ref a0) fun a21 =>
  if sT σ a21 = 101 then (onI (rn 7 [.ref a21] σ) (fun x24 σ22 =>
  some (.inl (some (.int x24)), σ22)) (fun e23 σ22x => some (.inr e23, σ22x))) else none := (exec_eq PP 2 118 145 _ _ σ).trans rfl
set_option maxRecDepth 20000 in
theorem e_118_153 (a0 : Nat) (o1 : Option Value) (σ : SH) : exec PP 2 118 153 [some (.ref a0), o1] [] σ =
  gR σ 111 2 (.ref a0) fun a21 =>
  if sT σ a21 = 101 then (onI (rn 8 [.ref a21] σ) (fun x24 σ22 =>
  some (.inl (some (.int x24)), σ22)) (fun e23 σ22x => some (.inr e23, σ22x))) else none := (exec_eq PP 2 118 153 _ _ σ).trans rfl
set_option maxRecDepth 20000 in
theorem e_118_161 (a0 : Nat) (o1 : Option Value) (σ : SH) : exec PP 2 118 161 [some (.ref a0), o1] [] σ =
  gR σ 111 2 (.ref a0) fun a21 =>
  gR σ 101 3 (.ref a21) fun a22 =>
  gI σ 105 0 (.ref a22) fun x23 =>
  some (.inl (some (.int x23)), σ) := (exec_eq PP 2 118 161 _ _ σ).trans rfl
set_option maxRecDepth 20000 in
theorem e_118_172 (a0 : Nat) (o1 : Option Value) (σ : SH) : exec PP 2 118 172 [some (.ref a0), o1] [] σ =
  gI σ 111 10 (.ref a0) fun x21 =>
  some (.inl (some (.int x21)), σ) := (exec_eq PP 2 118 172 _ _ σ).trans rfl
set_option maxRecDepth 20000 in
theorem e_118_120 (o0 : Option Value) (o1 : Option Value) (w0 : Int32) (σ : SH) : exec PP 2 118 120 [o0, o1] [.int w0] σ =
  some (.inl (some (.int w0)), σ) := (exec_eq PP 2 118 120 _ _ σ).trans rfl
set_option maxRecDepth 20000 in
theorem e_118_110 (a0 : Nat) (o1 : Option Value) (σ : SH) : exec PP 2 118 110 [some (.ref a0), o1] [] σ =
  gR σ 111 2 (.ref a0) fun a21 =>
  gQ σ 101 12 (.ref a21) (gI σ 104 0 (.null) fun x23 =>
    some (.inl (some (.int x23)), σ))
  (fun a22 => gI σ 104 0 (.ref a22) fun x24 =>
    some (.inl (some (.int x24)), σ)) := (exec_eq PP 2 118 110 _ _ σ).trans rfl

/-! 119: ArchEnds.county()I -/
set_option maxRecDepth 20000 in
theorem r_119 (a0 : Nat) (σ : SH) : rn 119 [.ref a0] σ =
  gR σ 111 3 (.ref a0) fun a21 =>
  gR σ 111 2 (.ref a0) fun a22 =>
  if sT σ a21 = 101 then (onV (rn 6 [.ref a21, .ref a22] σ) (fun σ23 =>
  gR σ23 111 0 (.ref a0) fun a25 =>
    if sT σ23 a25 = 110 then (onV (rn 98 [.ref a25] σ23) (fun σ26 =>
    gR σ26 111 1 (.ref a0) fun a28 =>
      gR σ26 111 3 (.ref a0) fun a29 =>
      if sT σ26 a28 = 107 then (onI (rn 76 [.ref a28, .ref a29] σ26) (fun x32 σ30 =>
      if sT σ30 a0 = 111 then (onV (rn 120 [.ref a0, .int x32] σ30) (fun σ33 =>
        if (x32 = 0 : Prop) then (some (.inr 0, mkC σ33 0 0 6))
          else (exec PP 8 119 49 [some (.ref a0), some (.int x32)] [] σ33)) (fun e34 σ33x => some (.inr e34, σ33x))) else none) (fun e31 σ30x => some (.inr e31, σ30x))) else none) (fun e27 σ26x => some (.inr e27, σ26x))) else none) (fun e24 σ23x => some (.inr e24, σ23x))) else none := (exec_eq PP 8 119 0 _ _ σ).trans rfl
set_option maxRecDepth 20000 in
theorem e_119_49 (a0 : Nat) (o1 : Option Value) (σ : SH) : exec PP 8 119 49 [some (.ref a0), o1] [] σ =
  gR σ 111 2 (.ref a0) fun a21 =>
  gI σ 101 7 (.ref a21) fun x22 =>
  if (x22 < 12 : Prop) then (exec PP 8 119 71 [some (.ref a0), none] [] σ)
  else (some (.inr 1, mkC σ 0 0 6)) := (exec_eq PP 8 119 49 _ _ σ).trans rfl
set_option maxRecDepth 20000 in
theorem e_119_71 (a0 : Nat) (o1 : Option Value) (σ : SH) : exec PP 8 119 71 [some (.ref a0), o1] [] σ =
  gR σ 111 3 (.ref a0) fun a21 =>
  gI σ 101 7 (.ref a21) fun x22 =>
  pI σ 101 7 (.ref a21) (x22 + 1) fun σ23 =>
  gR σ23 111 2 (.ref a0) fun a24 =>
  gR σ23 111 3 (.ref a0) fun a25 =>
  if sT σ23 a24 = 101 then (onV (rn 6 [.ref a24, .ref a25] σ23) (fun σ26 =>
  if sT σ26 a0 = 111 then (onV (rn 117 [.ref a0] σ26) (fun σ28 =>
    gR σ28 111 2 (.ref a0) fun a30 =>
      gI σ28 101 7 (.ref a30) fun x31 =>
      some (.inl (some (.int x31)), σ28)) (fun e29 σ28x => some (.inr e29, σ28x))) else none) (fun e27 σ26x => some (.inr e27, σ26x))) else none := (exec_eq PP 8 119 71 _ _ σ).trans rfl

/-! 120: ArchEnds.closeText(Z)V -/
set_option maxRecDepth 20000 in
theorem r_120 (a0 : Nat) (x1 : Int32) (σ : SH) : rn 120 [.ref a0, .int x1] σ =
  if (x1 = 0 : Prop) then (exec PP 2 120 9 [some (.ref a0), some (.int x1)] [.ref a0] σ)
  else (exec PP 2 120 16 [some (.ref a0), some (.int x1)] [.int (-1), .ref a0] σ) := (exec_eq PP 2 120 0 _ _ σ).trans rfl
set_option maxRecDepth 20000 in
theorem e_120_9 (a0 : Nat) (o1 : Option Value) (b0 : Nat) (σ : SH) : exec PP 2 120 9 [some (.ref a0), o1] [.ref b0] σ =
  gR σ 111 0 (.ref a0) fun a21 =>
  if sT σ a21 = 110 then (onI (rn 105 [.ref a21] σ) (fun x24 σ22 =>
  pI σ22 111 11 (.ref b0) x24 fun σ25 =>
    gR σ25 111 0 (.ref a0) fun a26 =>
    pI σ25 110 1 (.ref a26) 0 fun σ27 =>
    some (.inl none, σ27)) (fun e23 σ22x => some (.inr e23, σ22x))) else none := (exec_eq PP 2 120 9 _ _ σ).trans rfl
set_option maxRecDepth 20000 in
theorem e_120_16 (a0 : Nat) (o1 : Option Value) (w0 : Int32) (b1 : Nat) (σ : SH) : exec PP 2 120 16 [some (.ref a0), o1] [.int w0, .ref b1] σ =
  pI σ 111 11 (.ref b1) w0 fun σ21 =>
  gR σ21 111 0 (.ref a0) fun a22 =>
  pI σ21 110 1 (.ref a22) 0 fun σ23 =>
  some (.inl none, σ23) := (exec_eq PP 2 120 16 _ _ σ).trans rfl

/-! 121: ArchEnds.law()I -/
set_option maxRecDepth 20000 in
theorem r_121 (a0 : Nat) (σ : SH) : rn 121 [.ref a0] σ =
  gR σ 111 0 (.ref a0) fun a21 =>
  if sT σ a21 = 110 then (onV (rn 98 [.ref a21] σ) (fun σ22 =>
  gR σ22 111 1 (.ref a0) fun a24 =>
    if sT σ22 a24 = 107 then (onQ (rn 86 [.ref a24] σ22) (fun σ25 =>
    exec PP 63 121 24 [some (.ref a0), some (.null)] [.ref a0] σ25)
    (fun a27 σ28 =>
    if (a27 : Nat) = 39 then none else
      exec PP 63 121 25 [some (.ref a0), some (.ref a27)] [.int 1, .ref a0] σ28) (fun e26 σ25x => some (.inr e26, σ25x))) else none) (fun e23 σ22x => some (.inr e23, σ22x))) else none := (exec_eq PP 63 121 0 _ _ σ).trans rfl
set_option maxRecDepth 20000 in
theorem e_121_24 (a0 : Nat) (b0 : Nat) (σ : SH) : exec PP 63 121 24 [some (.ref a0), some (.null)] [.ref b0] σ =
  if sT σ b0 = 111 then (onV (rn 120 [.ref b0, .int 0] σ) (fun σ21 =>
  some (.inr 0, mkC σ21 0 0 6)) (fun e22 σ21x => some (.inr e22, σ21x))) else none := (exec_eq PP 63 121 24 _ _ σ).trans rfl
set_option maxRecDepth 20000 in
theorem e_121_25 (a0 : Nat) (a1 : Nat) (w0 : Int32) (b1 : Nat) (σ : SH) : exec PP 63 121 25 [some (.ref a0), some (.ref a1)] [.int w0, .ref b1] σ =
  if sT σ b1 = 111 then (onV (rn 120 [.ref b1, .int w0] σ) (fun σ21 =>
  if (a1 : Nat) = 39 then none else
    exec PP 63 121 42 [some (.ref a0), some (.ref a1)] [] σ21) (fun e22 σ21x => some (.inr e22, σ21x))) else none := (exec_eq PP 63 121 25 _ _ σ).trans rfl
set_option maxRecDepth 20000 in
theorem e_121_42 (a0 : Nat) (a1 : Nat) (σ : SH) : exec PP 63 121 42 [some (.ref a0), some (.ref a1)] [] σ =
  gR σ 111 2 (.ref a0) fun a21 =>
  pV σ 101 12 (.ref a21) (.ref a1) fun σ22 =>
  if sT σ22 a0 = 111 then (onV (rn 117 [.ref a0] σ22) (fun σ23 =>
  gI σ23 104 0 (.ref a1) fun x25 =>
    some (.inl (some (.int x25)), σ23)) (fun e24 σ23x => some (.inr e24, σ23x))) else none := (exec_eq PP 63 121 42 _ _ σ).trans rfl

/-! 122: ArchEnds.shower(II)I -/
set_option maxRecDepth 20000 in
theorem r_122 (a0 : Nat) (x1 : Int32) (x2 : Int32) (σ : SH) : rn 122 [.ref a0, .int x1, .int x2] σ =
  if sT σ a0 = 111 then (onV (rn 123 [.ref a0, .int x1] σ) (fun σ21 =>
  gR σ21 111 2 (.ref a0) fun a23 =>
    gR σ21 101 0 (.ref a23) fun a24 =>
    aR σ21 (.ref a24) x1 fun a25 =>
    if x2 = 0 then (exec PP 2 122 60 [some (.ref a0), some (.int x1), some (.int x2), some (.ref a25)] [] σ21)
    else if x2 = 1 then (exec PP 2 122 65 [some (.ref a0), some (.int x1), some (.int x2), some (.ref a25)] [] σ21)
    else if x2 = 2 then (exec PP 2 122 70 [some (.ref a0), some (.int x1), some (.int x2), some (.ref a25)] [] σ21)
    else if x2 = 3 then (exec PP 2 122 75 [some (.ref a0), some (.int x1), some (.int x2), some (.ref a25)] [] σ21)
    else if x2 = 4 then (exec PP 2 122 80 [some (.ref a0), some (.int x1), some (.int x2), some (.ref a25)] [] σ21)
    else if x2 = 5 then (exec PP 2 122 87 [some (.ref a0), some (.int x1), some (.int x2), some (.ref a25)] [] σ21)
    else if x2 = 6 then (exec PP 2 122 92 [some (.ref a0), some (.int x1), some (.int x2), some (.ref a25)] [] σ21)
    else (exec PP 2 122 97 [some (.ref a0), some (.int x1), some (.int x2), some (.ref a25)] [] σ21)) (fun e22 σ21x => some (.inr e22, σ21x))) else none := (exec_eq PP 2 122 0 _ _ σ).trans rfl
set_option maxRecDepth 20000 in
theorem e_122_97 (o0 : Option Value) (o1 : Option Value) (o2 : Option Value) (o3 : Option Value) (σ : SH) : exec PP 2 122 97 [o0, o1, o2, o3] [] σ =
  some (.inr 3, mkC σ 0 0 6) := (exec_eq PP 2 122 97 _ _ σ).trans rfl
set_option maxRecDepth 20000 in
theorem e_122_60 (o0 : Option Value) (o1 : Option Value) (o2 : Option Value) (a3 : Nat) (σ : SH) : exec PP 2 122 60 [o0, o1, o2, some (.ref a3)] [] σ =
  gI σ 108 0 (.ref a3) fun x21 =>
  some (.inl (some (.int x21)), σ) := (exec_eq PP 2 122 60 _ _ σ).trans rfl
set_option maxRecDepth 20000 in
theorem e_122_65 (o0 : Option Value) (o1 : Option Value) (o2 : Option Value) (a3 : Nat) (σ : SH) : exec PP 2 122 65 [o0, o1, o2, some (.ref a3)] [] σ =
  gI σ 108 1 (.ref a3) fun x21 =>
  some (.inl (some (.int x21)), σ) := (exec_eq PP 2 122 65 _ _ σ).trans rfl
set_option maxRecDepth 20000 in
theorem e_122_70 (o0 : Option Value) (o1 : Option Value) (o2 : Option Value) (a3 : Nat) (σ : SH) : exec PP 2 122 70 [o0, o1, o2, some (.ref a3)] [] σ =
  gI σ 108 2 (.ref a3) fun x21 =>
  some (.inl (some (.int x21)), σ) := (exec_eq PP 2 122 70 _ _ σ).trans rfl
set_option maxRecDepth 20000 in
theorem e_122_75 (o0 : Option Value) (o1 : Option Value) (o2 : Option Value) (a3 : Nat) (σ : SH) : exec PP 2 122 75 [o0, o1, o2, some (.ref a3)] [] σ =
  gI σ 108 3 (.ref a3) fun x21 =>
  some (.inl (some (.int x21)), σ) := (exec_eq PP 2 122 75 _ _ σ).trans rfl
set_option maxRecDepth 20000 in
theorem e_122_80 (o0 : Option Value) (o1 : Option Value) (o2 : Option Value) (a3 : Nat) (σ : SH) : exec PP 2 122 80 [o0, o1, o2, some (.ref a3)] [] σ =
  gI σ 108 4 (.ref a3) fun x21 =>
  some (.inl (some (.int (x21 + 2))), σ) := (exec_eq PP 2 122 80 _ _ σ).trans rfl
set_option maxRecDepth 20000 in
theorem e_122_87 (o0 : Option Value) (o1 : Option Value) (o2 : Option Value) (a3 : Nat) (σ : SH) : exec PP 2 122 87 [o0, o1, o2, some (.ref a3)] [] σ =
  gI σ 108 5 (.ref a3) fun x21 =>
  some (.inl (some (.int x21)), σ) := (exec_eq PP 2 122 87 _ _ σ).trans rfl
set_option maxRecDepth 20000 in
theorem e_122_92 (o0 : Option Value) (o1 : Option Value) (o2 : Option Value) (a3 : Nat) (σ : SH) : exec PP 2 122 92 [o0, o1, o2, some (.ref a3)] [] σ =
  gI σ 108 6 (.ref a3) fun x21 =>
  some (.inl (some (.int x21)), σ) := (exec_eq PP 2 122 92 _ _ σ).trans rfl

/-! 123: ArchEnds.checkShower(I)V -/
set_option maxRecDepth 20000 in
theorem r_123 (a0 : Nat) (x1 : Int32) (σ : SH) : rn 123 [.ref a0, .int x1] σ =
  if (x1 < 0 : Prop) then (exec PP 1 123 15 [some (.ref a0), some (.int x1)] [] σ)
  else (gR σ 111 2 (.ref a0) fun a21 =>
    gI σ 101 4 (.ref a21) fun x22 =>
    if (x1 < x22 : Prop) then (exec PP 1 123 26 [some (.ref a0), some (.int x1)] [] σ)
    else (some (.inr 2, mkC σ 0 0 6))) := (exec_eq PP 1 123 0 _ _ σ).trans rfl
set_option maxRecDepth 20000 in
theorem e_123_15 (o0 : Option Value) (o1 : Option Value) (σ : SH) : exec PP 1 123 15 [o0, o1] [] σ =
  some (.inr 2, mkC σ 0 0 6) := (exec_eq PP 1 123 15 _ _ σ).trans rfl
set_option maxRecDepth 20000 in
theorem e_123_26 (o0 : Option Value) (o1 : Option Value) (σ : SH) : exec PP 1 123 26 [o0, o1] [] σ =
  some (.inl none, σ) := (exec_eq PP 1 123 26 _ _ σ).trans rfl

/-! 124: ArchEnds.broker(II)I -/
set_option maxRecDepth 20000 in
theorem r_124 (a0 : Nat) (x1 : Int32) (x2 : Int32) (σ : SH) : rn 124 [.ref a0, .int x1, .int x2] σ =
  if sT σ a0 = 111 then (onV (rn 125 [.ref a0, .int x1] σ) (fun σ21 =>
  gR σ21 111 2 (.ref a0) fun a23 =>
    gR σ21 101 1 (.ref a23) fun a24 =>
    aR σ21 (.ref a24) x1 fun a25 =>
    if x2 = 0 then (exec PP 5 124 56 [some (.ref a0), some (.int x1), some (.int x2), some (.ref a25)] [] σ21)
    else if x2 = 1 then (exec PP 5 124 61 [some (.ref a0), some (.int x1), some (.int x2), some (.ref a25)] [] σ21)
    else if x2 = 2 then (exec PP 5 124 66 [some (.ref a0), some (.int x1), some (.int x2), some (.ref a25)] [] σ21)
    else if x2 = 3 then (exec PP 5 124 71 [some (.ref a0), some (.int x1), some (.int x2), some (.ref a25)] [] σ21)
    else if x2 = 4 then (exec PP 5 124 80 [some (.ref a0), some (.int x1), some (.int x2), some (.ref a25)] [] σ21)
    else if x2 = 5 then (exec PP 5 124 89 [some (.ref a0), some (.int x1), some (.int x2), some (.ref a25)] [] σ21)
    else (exec PP 5 124 98 [some (.ref a0), some (.int x1), some (.int x2), some (.ref a25)] [] σ21)) (fun e22 σ21x => some (.inr e22, σ21x))) else none := (exec_eq PP 5 124 0 _ _ σ).trans rfl
set_option maxRecDepth 20000 in
theorem e_124_98 (o0 : Option Value) (o1 : Option Value) (o2 : Option Value) (o3 : Option Value) (σ : SH) : exec PP 5 124 98 [o0, o1, o2, o3] [] σ =
  some (.inr 3, mkC σ 0 0 6) := (exec_eq PP 5 124 98 _ _ σ).trans rfl
set_option maxRecDepth 20000 in
theorem e_124_56 (o0 : Option Value) (o1 : Option Value) (o2 : Option Value) (a3 : Nat) (σ : SH) : exec PP 5 124 56 [o0, o1, o2, some (.ref a3)] [] σ =
  gI σ 100 0 (.ref a3) fun x21 =>
  some (.inl (some (.int x21)), σ) := (exec_eq PP 5 124 56 _ _ σ).trans rfl
set_option maxRecDepth 20000 in
theorem e_124_61 (o0 : Option Value) (o1 : Option Value) (o2 : Option Value) (a3 : Nat) (σ : SH) : exec PP 5 124 61 [o0, o1, o2, some (.ref a3)] [] σ =
  gI σ 100 1 (.ref a3) fun x21 =>
  some (.inl (some (.int x21)), σ) := (exec_eq PP 5 124 61 _ _ σ).trans rfl
set_option maxRecDepth 20000 in
theorem e_124_66 (o0 : Option Value) (o1 : Option Value) (o2 : Option Value) (a3 : Nat) (σ : SH) : exec PP 5 124 66 [o0, o1, o2, some (.ref a3)] [] σ =
  gI σ 100 2 (.ref a3) fun x21 =>
  some (.inl (some (.int x21)), σ) := (exec_eq PP 5 124 66 _ _ σ).trans rfl
set_option maxRecDepth 20000 in
theorem e_124_71 (a0 : Nat) (x1 : Int32) (o2 : Option Value) (o3 : Option Value) (σ : SH) : exec PP 5 124 71 [some (.ref a0), some (.int x1), o2, o3] [] σ =
  gR σ 111 2 (.ref a0) fun a21 =>
  if sT σ a21 = 101 then (onI (rn 9 [.ref a21, .int x1] σ) (fun x24 σ22 =>
  some (.inl (some (.int x24)), σ22)) (fun e23 σ22x => some (.inr e23, σ22x))) else none := (exec_eq PP 5 124 71 _ _ σ).trans rfl
set_option maxRecDepth 20000 in
theorem e_124_80 (a0 : Nat) (x1 : Int32) (o2 : Option Value) (o3 : Option Value) (σ : SH) : exec PP 5 124 80 [some (.ref a0), some (.int x1), o2, o3] [] σ =
  gR σ 111 2 (.ref a0) fun a21 =>
  if sT σ a21 = 101 then (onI (rn 13 [.ref a21, .int x1] σ) (fun x24 σ22 =>
  some (.inl (some (.int x24)), σ22)) (fun e23 σ22x => some (.inr e23, σ22x))) else none := (exec_eq PP 5 124 80 _ _ σ).trans rfl
set_option maxRecDepth 20000 in
theorem e_124_89 (a0 : Nat) (x1 : Int32) (o2 : Option Value) (o3 : Option Value) (σ : SH) : exec PP 5 124 89 [some (.ref a0), some (.int x1), o2, o3] [] σ =
  gR σ 111 2 (.ref a0) fun a21 =>
  if sT σ a21 = 101 then (onI (rn 5 [.ref a21, .int x1] σ) (fun x24 σ22 =>
  some (.inl (some (.int x24)), σ22)) (fun e23 σ22x => some (.inr e23, σ22x))) else none := (exec_eq PP 5 124 89 _ _ σ).trans rfl

/-! 125: ArchEnds.checkBroker(I)V -/
set_option maxRecDepth 20000 in
theorem r_125 (a0 : Nat) (x1 : Int32) (σ : SH) : rn 125 [.ref a0, .int x1] σ =
  if (x1 < 0 : Prop) then (exec PP 1 125 15 [some (.ref a0), some (.int x1)] [] σ)
  else (gR σ 111 2 (.ref a0) fun a21 =>
    gI σ 101 5 (.ref a21) fun x22 =>
    if (x1 < x22 : Prop) then (exec PP 1 125 26 [some (.ref a0), some (.int x1)] [] σ)
    else (some (.inr 2, mkC σ 0 0 6))) := (exec_eq PP 1 125 0 _ _ σ).trans rfl
set_option maxRecDepth 20000 in
theorem e_125_15 (o0 : Option Value) (o1 : Option Value) (σ : SH) : exec PP 1 125 15 [o0, o1] [] σ =
  some (.inr 2, mkC σ 0 0 6) := (exec_eq PP 1 125 15 _ _ σ).trans rfl
set_option maxRecDepth 20000 in
theorem e_125_26 (o0 : Option Value) (o1 : Option Value) (σ : SH) : exec PP 1 125 26 [o0, o1] [] σ =
  some (.inl none, σ) := (exec_eq PP 1 125 26 _ _ σ).trans rfl

/-! 126: ArchEnds.reachAt(I)I -/
set_option maxRecDepth 20000 in
theorem r_126 (x0 : Int32) (σ : SH) : rn 126 [.int x0] σ =
  onI (rn 127 [.int x0] σ) (fun x23 σ21 =>
  if (x23 = 0 : Prop) then (exec PP 2 126 15 [some (.int x0), some (.int x23)] [] σ21)
    else (if (42 < x23 : Prop) then (exec PP 2 126 26 [none, none] [.int (-1)] σ21)
      else (exec PP 2 126 19 [some (.int x0), some (.int x23)] [] σ21))) (fun e22 σ21x => some (.inr e22, σ21x)) := (exec_eq PP 2 126 0 _ _ σ).trans rfl
set_option maxRecDepth 20000 in
theorem e_126_15 (o0 : Option Value) (o1 : Option Value) (σ : SH) : exec PP 2 126 15 [o0, o1] [] σ =
  exec PP 2 126 26 [none, none] [.int (-1)] σ := (exec_eq PP 2 126 15 _ _ σ).trans rfl
set_option maxRecDepth 20000 in
theorem e_126_19 (o0 : Option Value) (x1 : Int32) (σ : SH) : exec PP 2 126 19 [o0, some (.int x1)] [] σ =
  some (.inl (some (.int ((42 - x1) / 6))), σ) := (exec_eq PP 2 126 19 _ _ σ).trans rfl
set_option maxRecDepth 20000 in
theorem e_126_26 (o0 : Option Value) (o1 : Option Value) (w0 : Int32) (σ : SH) : exec PP 2 126 26 [o0, o1] [.int w0] σ =
  some (.inl (some (.int w0)), σ) := (exec_eq PP 2 126 26 _ _ σ).trans rfl

/-! 127: ArchEnds.sunAt(I)I -/
set_option maxRecDepth 20000 in
theorem r_127 (x0 : Int32) (σ : SH) : rn 127 [.int x0] σ =
  if (((irm x0 96) : Int32) < 48 : Prop) then (exec PP 1 127 19 [some (.int x0), some (.int (irm x0 96))] [.int (irm x0 96)] σ)
  else (exec PP 1 127 15 [some (.int x0), some (.int (irm x0 96))] [] σ) := (exec_eq PP 1 127 0 _ _ σ).trans rfl
set_option maxRecDepth 20000 in
theorem e_127_15 (o0 : Option Value) (x1 : Int32) (σ : SH) : exec PP 1 127 15 [o0, some (.int x1)] [] σ =
  some (.inl (some (.int (96 - x1))), σ) := (exec_eq PP 1 127 15 _ _ σ).trans rfl
set_option maxRecDepth 20000 in
theorem e_127_19 (o0 : Option Value) (o1 : Option Value) (w0 : Int32) (σ : SH) : exec PP 1 127 19 [o0, o1] [.int w0] σ =
  some (.inl (some (.int w0)), σ) := (exec_eq PP 1 127 19 _ _ σ).trans rfl

/-! 128: ArchEnds.isIn(II)Z -/
set_option maxRecDepth 20000 in
theorem r_128 (x0 : Int32) (x1 : Int32) (σ : SH) : rn 128 [.int x0, .int x1] σ =
  if ((((shr x0 x1) &&& 1) : Int32) = 0 : Prop) then (exec PP 1 128 12 [some (.int x0), some (.int x1)] [] σ)
  else (exec PP 1 128 13 [some (.int x0), some (.int x1)] [.int 1] σ) := (exec_eq PP 1 128 0 _ _ σ).trans rfl
set_option maxRecDepth 20000 in
theorem e_128_12 (o0 : Option Value) (o1 : Option Value) (σ : SH) : exec PP 1 128 12 [o0, o1] [] σ =
  some (.inl (some (.int 0)), σ) := (exec_eq PP 1 128 12 _ _ σ).trans rfl
set_option maxRecDepth 20000 in
theorem e_128_13 (o0 : Option Value) (o1 : Option Value) (w0 : Int32) (σ : SH) : exec PP 1 128 13 [o0, o1] [.int w0] σ =
  if w0 = 0 ∨ w0 = 1 then some (.inl (some (.int w0)), σ) else none := (exec_eq PP 1 128 13 _ _ σ).trans rfl

/-! 129: ArchEnds.deed(II)I -/
set_option maxRecDepth 20000 in
theorem r_129 (a0 : Nat) (x1 : Int32) (x2 : Int32) (σ : SH) : rn 129 [.ref a0, .int x1, .int x2] σ =
  if sT σ a0 = 111 then (onV (rn 130 [.ref a0, .int x1] σ) (fun σ21 =>
  gR σ21 111 2 (.ref a0) fun a23 =>
    gR σ21 101 2 (.ref a23) fun a24 =>
    aR σ21 (.ref a24) x1 fun a25 =>
    if x2 = 0 then (exec PP 2 129 60 [some (.ref a0), some (.int x1), some (.int x2), some (.ref a25)] [] σ21)
    else if x2 = 1 then (exec PP 2 129 65 [some (.ref a0), some (.int x1), some (.int x2), some (.ref a25)] [] σ21)
    else if x2 = 2 then (exec PP 2 129 70 [some (.ref a0), some (.int x1), some (.int x2), some (.ref a25)] [] σ21)
    else if x2 = 3 then (exec PP 2 129 75 [some (.ref a0), some (.int x1), some (.int x2), some (.ref a25)] [] σ21)
    else if x2 = 4 then (exec PP 2 129 80 [some (.ref a0), some (.int x1), some (.int x2), some (.ref a25)] [] σ21)
    else if x2 = 5 then (exec PP 2 129 85 [some (.ref a0), some (.int x1), some (.int x2), some (.ref a25)] [] σ21)
    else if x2 = 6 then (exec PP 2 129 90 [some (.ref a0), some (.int x1), some (.int x2), some (.ref a25)] [] σ21)
    else (exec PP 2 129 103 [some (.ref a0), some (.int x1), some (.int x2), some (.ref a25)] [] σ21)) (fun e22 σ21x => some (.inr e22, σ21x))) else none := (exec_eq PP 2 129 0 _ _ σ).trans rfl
set_option maxRecDepth 20000 in
theorem e_129_103 (o0 : Option Value) (o1 : Option Value) (o2 : Option Value) (o3 : Option Value) (σ : SH) : exec PP 2 129 103 [o0, o1, o2, o3] [] σ =
  some (.inr 3, mkC σ 0 0 6) := (exec_eq PP 2 129 103 _ _ σ).trans rfl
set_option maxRecDepth 20000 in
theorem e_129_60 (o0 : Option Value) (o1 : Option Value) (o2 : Option Value) (a3 : Nat) (σ : SH) : exec PP 2 129 60 [o0, o1, o2, some (.ref a3)] [] σ =
  gI σ 102 0 (.ref a3) fun x21 =>
  some (.inl (some (.int x21)), σ) := (exec_eq PP 2 129 60 _ _ σ).trans rfl
set_option maxRecDepth 20000 in
theorem e_129_65 (o0 : Option Value) (o1 : Option Value) (o2 : Option Value) (a3 : Nat) (σ : SH) : exec PP 2 129 65 [o0, o1, o2, some (.ref a3)] [] σ =
  gI σ 102 1 (.ref a3) fun x21 =>
  some (.inl (some (.int x21)), σ) := (exec_eq PP 2 129 65 _ _ σ).trans rfl
set_option maxRecDepth 20000 in
theorem e_129_70 (o0 : Option Value) (o1 : Option Value) (o2 : Option Value) (a3 : Nat) (σ : SH) : exec PP 2 129 70 [o0, o1, o2, some (.ref a3)] [] σ =
  gI σ 102 2 (.ref a3) fun x21 =>
  some (.inl (some (.int x21)), σ) := (exec_eq PP 2 129 70 _ _ σ).trans rfl
set_option maxRecDepth 20000 in
theorem e_129_75 (o0 : Option Value) (o1 : Option Value) (o2 : Option Value) (a3 : Nat) (σ : SH) : exec PP 2 129 75 [o0, o1, o2, some (.ref a3)] [] σ =
  gI σ 102 3 (.ref a3) fun x21 =>
  some (.inl (some (.int x21)), σ) := (exec_eq PP 2 129 75 _ _ σ).trans rfl
set_option maxRecDepth 20000 in
theorem e_129_80 (o0 : Option Value) (o1 : Option Value) (o2 : Option Value) (a3 : Nat) (σ : SH) : exec PP 2 129 80 [o0, o1, o2, some (.ref a3)] [] σ =
  gI σ 102 4 (.ref a3) fun x21 =>
  some (.inl (some (.int x21)), σ) := (exec_eq PP 2 129 80 _ _ σ).trans rfl
set_option maxRecDepth 20000 in
theorem e_129_85 (o0 : Option Value) (o1 : Option Value) (o2 : Option Value) (a3 : Nat) (σ : SH) : exec PP 2 129 85 [o0, o1, o2, some (.ref a3)] [] σ =
  gI σ 102 5 (.ref a3) fun x21 =>
  some (.inl (some (.int x21)), σ) := (exec_eq PP 2 129 85 _ _ σ).trans rfl
set_option maxRecDepth 20000 in
theorem e_129_90 (o0 : Option Value) (o1 : Option Value) (o2 : Option Value) (a3 : Nat) (σ : SH) : exec PP 2 129 90 [o0, o1, o2, some (.ref a3)] [] σ =
  gI σ 102 6 (.ref a3) fun x21 =>
  if (x21 = 0 : Prop) then (exec PP 2 129 101 [none, none, none, some (.ref a3)] [] σ)
  else (exec PP 2 129 102 [none, none, none, some (.ref a3)] [.int 1] σ) := (exec_eq PP 2 129 90 _ _ σ).trans rfl
set_option maxRecDepth 20000 in
theorem e_129_101 (o0 : Option Value) (o1 : Option Value) (o2 : Option Value) (o3 : Option Value) (σ : SH) : exec PP 2 129 101 [o0, o1, o2, o3] [] σ =
  some (.inl (some (.int 0)), σ) := (exec_eq PP 2 129 101 _ _ σ).trans rfl
set_option maxRecDepth 20000 in
theorem e_129_102 (o0 : Option Value) (o1 : Option Value) (o2 : Option Value) (o3 : Option Value) (w0 : Int32) (σ : SH) : exec PP 2 129 102 [o0, o1, o2, o3] [.int w0] σ =
  some (.inl (some (.int w0)), σ) := (exec_eq PP 2 129 102 _ _ σ).trans rfl

/-! 130: ArchEnds.checkDeed(I)V -/
set_option maxRecDepth 20000 in
theorem r_130 (a0 : Nat) (x1 : Int32) (σ : SH) : rn 130 [.ref a0, .int x1] σ =
  if (x1 < 0 : Prop) then (exec PP 1 130 15 [some (.ref a0), some (.int x1)] [] σ)
  else (gR σ 111 2 (.ref a0) fun a21 =>
    gI σ 101 6 (.ref a21) fun x22 =>
    if (x1 < x22 : Prop) then (exec PP 1 130 26 [some (.ref a0), some (.int x1)] [] σ)
    else (some (.inr 2, mkC σ 0 0 6))) := (exec_eq PP 1 130 0 _ _ σ).trans rfl
set_option maxRecDepth 20000 in
theorem e_130_15 (o0 : Option Value) (o1 : Option Value) (σ : SH) : exec PP 1 130 15 [o0, o1] [] σ =
  some (.inr 2, mkC σ 0 0 6) := (exec_eq PP 1 130 15 _ _ σ).trans rfl
set_option maxRecDepth 20000 in
theorem e_130_26 (o0 : Option Value) (o1 : Option Value) (σ : SH) : exec PP 1 130 26 [o0, o1] [] σ =
  some (.inl none, σ) := (exec_eq PP 1 130 26 _ _ σ).trans rfl

/-! 131: ArchEnds.costs(II)I -/
set_option maxRecDepth 20000 in
theorem r_131 (a0 : Nat) (x1 : Int32) (x2 : Int32) (σ : SH) : rn 131 [.ref a0, .int x1, .int x2] σ =
  if sT σ a0 = 111 then (onV (rn 125 [.ref a0, .int x1] σ) (fun σ21 =>
  if sT σ21 a0 = 111 then (onV (rn 130 [.ref a0, .int x2] σ21) (fun σ23 =>
    gR σ23 111 2 (.ref a0) fun a25 =>
      if sT σ23 a25 = 101 then (onI (rn 14 [.ref a25, .int x1, .int x2] σ23) (fun x28 σ26 =>
      some (.inl (some (.int x28)), σ26)) (fun e27 σ26x => some (.inr e27, σ26x))) else none) (fun e24 σ23x => some (.inr e24, σ23x))) else none) (fun e22 σ21x => some (.inr e22, σ21x))) else none := (exec_eq PP 5 131 0 _ _ σ).trans rfl

/-! 132: ArchEnds.brings(III)I -/
set_option maxRecDepth 20000 in
theorem r_132 (a0 : Nat) (x1 : Int32) (x2 : Int32) (x3 : Int32) (σ : SH) : rn 132 [.ref a0, .int x1, .int x2, .int x3] σ =
  if sT σ a0 = 111 then (onV (rn 125 [.ref a0, .int x1] σ) (fun σ21 =>
  if sT σ21 a0 = 111 then (onV (rn 130 [.ref a0, .int x2] σ21) (fun σ23 =>
    onV (rn 133 [.int x3] σ23) (fun σ25 =>
      gR σ25 111 2 (.ref a0) fun a27 =>
        if sT σ25 a27 = 101 then (onI (rn 15 [.ref a27, .int x1, .int x2, .int x3] σ25) (fun x30 σ28 =>
        some (.inl (some (.int x30)), σ28)) (fun e29 σ28x => some (.inr e29, σ28x))) else none) (fun e26 σ25x => some (.inr e26, σ25x))) (fun e24 σ23x => some (.inr e24, σ23x))) else none) (fun e22 σ21x => some (.inr e22, σ21x))) else none := (exec_eq PP 5 132 0 _ _ σ).trans rfl

/-! 133: ArchEnds.checkMinute(I)V -/
set_option maxRecDepth 20000 in
theorem r_133 (x0 : Int32) (σ : SH) : rn 133 [.int x0] σ =
  onV (rn 134 [.int x0, .int 0, .int 9999] σ) (fun σ21 =>
  some (.inl none, σ21)) (fun e22 σ21x => some (.inr e22, σ21x)) := (exec_eq PP 2 133 0 _ _ σ).trans rfl

/-! 134: ArchEnds.checkNumber(III)V -/
set_option maxRecDepth 20000 in
theorem r_134 (x0 : Int32) (x1 : Int32) (x2 : Int32) (σ : SH) : rn 134 [.int x0, .int x1, .int x2] σ =
  if (x0 < x1 : Prop) then (exec PP 1 134 10 [some (.int x0), some (.int x1), some (.int x2)] [] σ)
  else (if (x2 < x0 : Prop) then (some (.inr 0, mkC σ 0 0 6))
    else (exec PP 1 134 21 [some (.int x0), some (.int x1), some (.int x2)] [] σ)) := (exec_eq PP 1 134 0 _ _ σ).trans rfl
set_option maxRecDepth 20000 in
theorem e_134_10 (o0 : Option Value) (o1 : Option Value) (o2 : Option Value) (σ : SH) : exec PP 1 134 10 [o0, o1, o2] [] σ =
  some (.inr 0, mkC σ 0 0 6) := (exec_eq PP 1 134 10 _ _ σ).trans rfl
set_option maxRecDepth 20000 in
theorem e_134_21 (o0 : Option Value) (o1 : Option Value) (o2 : Option Value) (σ : SH) : exec PP 1 134 21 [o0, o1, o2] [] σ =
  some (.inl none, σ) := (exec_eq PP 1 134 21 _ _ σ).trans rfl

/-! 135: ArchEnds.buy(II)I -/
set_option maxRecDepth 20000 in
theorem r_135 (a0 : Nat) (x1 : Int32) (x2 : Int32) (σ : SH) : rn 135 [.ref a0, .int x1, .int x2] σ =
  if sT σ a0 = 111 then (onV (rn 125 [.ref a0, .int x1] σ) (fun σ21 =>
  if sT σ21 a0 = 111 then (onV (rn 130 [.ref a0, .int x2] σ21) (fun σ23 =>
    gR σ23 111 2 (.ref a0) fun a25 =>
      gR σ23 101 2 (.ref a25) fun a26 =>
      aR σ23 (.ref a26) x2 fun a27 =>
      gR σ23 111 2 (.ref a0) fun a28 =>
      gR σ23 101 1 (.ref a28) fun a29 =>
      aR σ23 (.ref a29) x1 fun a30 =>
      gR σ23 111 2 (.ref a0) fun a31 =>
      if sT σ23 a31 = 101 then (onI (rn 14 [.ref a31, .int x1, .int x2] σ23) (fun x34 σ32 =>
      gI σ32 102 4 (.ref a27) fun x35 =>
        if (x35 = (-1) : Prop) then (gI σ32 100 0 (.ref a30) fun x36 =>
          if (x36 < x34 : Prop) then (some (.inr 4, mkC σ32 0 0 6))
          else (exec PP 5 135 70 [some (.ref a0), some (.int x1), some (.int x2), some (.ref a27), some (.ref a30), some (.int x34)] [] σ32))
        else (exec PP 5 135 60 [some (.ref a0), some (.int x1), some (.int x2), some (.ref a27), some (.ref a30), some (.int x34)] [] σ32)) (fun e33 σ32x => some (.inr e33, σ32x))) else none) (fun e24 σ23x => some (.inr e24, σ23x))) else none) (fun e22 σ21x => some (.inr e22, σ21x))) else none := (exec_eq PP 5 135 0 _ _ σ).trans rfl
set_option maxRecDepth 20000 in
theorem e_135_60 (o0 : Option Value) (o1 : Option Value) (o2 : Option Value) (o3 : Option Value) (o4 : Option Value) (o5 : Option Value) (σ : SH) : exec PP 5 135 60 [o0, o1, o2, o3, o4, o5] [] σ =
  some (.inr 4, mkC σ 0 0 6) := (exec_eq PP 5 135 60 _ _ σ).trans rfl
set_option maxRecDepth 20000 in
theorem e_135_70 (a0 : Nat) (x1 : Int32) (o2 : Option Value) (a3 : Nat) (a4 : Nat) (x5 : Int32) (σ : SH) : exec PP 5 135 70 [some (.ref a0), some (.int x1), o2, some (.ref a3), some (.ref a4), some (.int x5)] [] σ =
  if sT σ a0 = 111 then (onV (rn 136 [.ref a0] σ) (fun σ21 =>
  gI σ21 100 0 (.ref a4) fun x23 =>
    pI σ21 100 0 (.ref a4) (x23 - x5) fun σ24 =>
    pI σ24 102 4 (.ref a3) x1 fun σ25 =>
    pI σ25 102 5 (.ref a3) 0 fun σ26 =>
    pB σ26 102 6 (.ref a3) 0 fun σ27 =>
    gI σ27 100 0 (.ref a4) fun x28 =>
    some (.inl (some (.int x28)), σ27)) (fun e22 σ21x => some (.inr e22, σ21x))) else none := (exec_eq PP 5 135 70 _ _ σ).trans rfl

/-! 136: ArchEnds.remember()V -/
set_option maxRecDepth 20000 in
theorem r_136 (a0 : Nat) (σ : SH) : rn 136 [.ref a0] σ =
  gR σ 111 5 (.ref a0) fun a21 =>
  gI σ 111 9 (.ref a0) fun x22 =>
  gI σ 111 10 (.ref a0) fun x23 =>
  aR σ (.ref a21) (irm (x22 + x23) 12) fun a24 =>
  gR σ 111 2 (.ref a0) fun a25 =>
  if sT σ a24 = 101 then (onV (rn 6 [.ref a24, .ref a25] σ) (fun σ26 =>
  gI σ26 111 10 (.ref a0) fun x28 =>
    if (x28 < 12 : Prop) then (gI σ26 111 10 (.ref a0) fun x29 =>
      pI σ26 111 10 (.ref a0) (x29 + 1) fun σ30 =>
      exec PP 3 136 59 [some (.ref a0)] [] σ30)
    else (exec PP 3 136 46 [some (.ref a0)] [] σ26)) (fun e27 σ26x => some (.inr e27, σ26x))) else none := (exec_eq PP 3 136 0 _ _ σ).trans rfl
set_option maxRecDepth 20000 in
theorem e_136_46 (a0 : Nat) (σ : SH) : exec PP 3 136 46 [some (.ref a0)] [] σ =
  gI σ 111 9 (.ref a0) fun x21 =>
  pI σ 111 9 (.ref a0) (irm (x21 + 1) 12) fun σ22 =>
  some (.inl none, σ22) := (exec_eq PP 3 136 46 _ _ σ).trans rfl
set_option maxRecDepth 20000 in
theorem e_136_59 (o0 : Option Value) (σ : SH) : exec PP 3 136 59 [o0] [] σ =
  some (.inl none, σ) := (exec_eq PP 3 136 59 _ _ σ).trans rfl

/-! 137: ArchEnds.sell(II)I -/
set_option maxRecDepth 20000 in
theorem r_137 (a0 : Nat) (x1 : Int32) (x2 : Int32) (σ : SH) : rn 137 [.ref a0, .int x1, .int x2] σ =
  if sT σ a0 = 111 then (onV (rn 130 [.ref a0, .int x1] σ) (fun σ21 =>
  if sT σ21 a0 = 111 then (onV (rn 125 [.ref a0, .int x2] σ21) (fun σ23 =>
    gR σ23 111 2 (.ref a0) fun a25 =>
      gR σ23 101 2 (.ref a25) fun a26 =>
      aR σ23 (.ref a26) x1 fun a27 =>
      gI σ23 102 4 (.ref a27) fun x28 =>
      if (x28 = x2 : Prop) then (some (.inr 0, mkC σ23 0 0 6))
      else (exec PP 5 137 38 [some (.ref a0), some (.int x1), some (.int x2), some (.ref a27), none, none, none] [] σ23)) (fun e24 σ23x => some (.inr e24, σ23x))) else none) (fun e22 σ21x => some (.inr e22, σ21x))) else none := (exec_eq PP 5 137 0 _ _ σ).trans rfl
set_option maxRecDepth 20000 in
theorem e_137_38 (a0 : Nat) (x1 : Int32) (x2 : Int32) (a3 : Nat) (o4 : Option Value) (o5 : Option Value) (o6 : Option Value) (σ : SH) : exec PP 5 137 38 [some (.ref a0), some (.int x1), some (.int x2), some (.ref a3), o4, o5, o6] [] σ =
  gR σ 111 2 (.ref a0) fun a21 =>
  if sT σ a21 = 101 then (onQ (rn 16 [.ref a21, .ref a3] σ) (fun σ22 =>
  gR σ22 111 2 (.ref a0) fun a26 =>
    gR σ22 101 1 (.ref a26) fun a27 =>
    aR σ22 (.ref a27) x2 fun a28 =>
    gR σ22 111 2 (.ref a0) fun a29 =>
    if sT σ22 a29 = 101 then (onI (rn 14 [.ref a29, .int x2, .int x1] σ22) (fun x32 σ30 =>
    exec PP 5 137 85 [some (.ref a0), some (.int x1), some (.int x2), some (.ref a3), some (.null), some (.ref a28), some (.int x32)] [] σ30) (fun e31 σ30x => some (.inr e31, σ30x))) else none)
  (fun a24 σ25 =>
  gR σ25 111 2 (.ref a0) fun a33 =>
    gR σ25 101 1 (.ref a33) fun a34 =>
    aR σ25 (.ref a34) x2 fun a35 =>
    gR σ25 111 2 (.ref a0) fun a36 =>
    if sT σ25 a36 = 101 then (onI (rn 14 [.ref a36, .int x2, .int x1] σ25) (fun x39 σ37 =>
    if (a24 : Nat) = 39 then none else
      gI σ37 100 0 (.ref a35) fun x40 =>
      if (x40 < x39 : Prop) then (some (.inr 4, mkC σ37 0 0 6))
      else (exec PP 5 137 95 [some (.ref a0), some (.int x1), some (.int x2), some (.ref a3), some (.ref a24), some (.ref a35), some (.int x39)] [] σ37)) (fun e38 σ37x => some (.inr e38, σ37x))) else none) (fun e23 σ22x => some (.inr e23, σ22x))) else none := (exec_eq PP 5 137 38 _ _ σ).trans rfl
set_option maxRecDepth 20000 in
theorem e_137_85 (o0 : Option Value) (o1 : Option Value) (o2 : Option Value) (o3 : Option Value) (o4 : Option Value) (o5 : Option Value) (o6 : Option Value) (σ : SH) : exec PP 5 137 85 [o0, o1, o2, o3, o4, o5, o6] [] σ =
  some (.inr 4, mkC σ 0 0 6) := (exec_eq PP 5 137 85 _ _ σ).trans rfl
set_option maxRecDepth 20000 in
theorem e_137_95 (a0 : Nat) (o1 : Option Value) (x2 : Int32) (a3 : Nat) (a4 : Nat) (a5 : Nat) (x6 : Int32) (σ : SH) : exec PP 5 137 95 [some (.ref a0), o1, some (.int x2), some (.ref a3), some (.ref a4), some (.ref a5), some (.int x6)] [] σ =
  if sT σ a0 = 111 then (onV (rn 136 [.ref a0] σ) (fun σ21 =>
  gI σ21 100 0 (.ref a5) fun x23 =>
    pI σ21 100 0 (.ref a5) (x23 - x6) fun σ24 =>
    if sT σ24 a4 = 100 then (onV (rn 2 [.ref a4, .int x6] σ24) (fun σ25 =>
    pI σ25 102 4 (.ref a3) x2 fun σ27 =>
      some (.inl (some (.int x6)), σ27)) (fun e26 σ25x => some (.inr e26, σ25x))) else none) (fun e22 σ21x => some (.inr e22, σ21x))) else none := (exec_eq PP 5 137 95 _ _ σ).trans rfl

/-! 138: ArchEnds.go(II)I -/
set_option maxRecDepth 20000 in
theorem r_138 (a0 : Nat) (x1 : Int32) (x2 : Int32) (σ : SH) : rn 138 [.ref a0, .int x1, .int x2] σ =
  if sT σ a0 = 111 then (onV (rn 125 [.ref a0, .int x1] σ) (fun σ21 =>
  onV (rn 139 [.int x2] σ21) (fun σ23 =>
    gR σ23 111 2 (.ref a0) fun a25 =>
      gR σ23 101 1 (.ref a25) fun a26 =>
      aR σ23 (.ref a26) x1 fun a27 =>
      gI σ23 100 1 (.ref a27) fun x28 =>
      onI (rn 140 [.int x28, .int x2] σ23) (fun x31 σ29 =>
      gR σ29 111 2 (.ref a0) fun a32 =>
        if sT σ29 a32 = 101 then (onI (rn 9 [.ref a32, .int x1] σ29) (fun x35 σ33 =>
        if (x35 < x31 : Prop) then (some (.inr 0, mkC σ33 0 0 6))
          else (exec PP 5 138 52 [some (.ref a0), some (.int x1), some (.int x2), some (.ref a27), some (.int x31)] [] σ33)) (fun e34 σ33x => some (.inr e34, σ33x))) else none) (fun e30 σ29x => some (.inr e30, σ29x))) (fun e24 σ23x => some (.inr e24, σ23x))) (fun e22 σ21x => some (.inr e22, σ21x))) else none := (exec_eq PP 5 138 0 _ _ σ).trans rfl
set_option maxRecDepth 20000 in
theorem e_138_52 (a0 : Nat) (o1 : Option Value) (x2 : Int32) (a3 : Nat) (x4 : Int32) (σ : SH) : exec PP 5 138 52 [some (.ref a0), o1, some (.int x2), some (.ref a3), some (.int x4)] [] σ =
  if sT σ a0 = 111 then (onV (rn 136 [.ref a0] σ) (fun σ21 =>
  pI σ21 100 1 (.ref a3) x2 fun σ23 =>
    some (.inl (some (.int x4)), σ23)) (fun e22 σ21x => some (.inr e22, σ21x))) else none := (exec_eq PP 5 138 52 _ _ σ).trans rfl

/-! 139: ArchEnds.checkAcre(I)V -/
set_option maxRecDepth 20000 in
theorem r_139 (x0 : Int32) (σ : SH) : rn 139 [.int x0] σ =
  if (x0 < 0 : Prop) then (exec PP 1 139 10 [some (.int x0)] [] σ)
  else (if (x0 < 16 : Prop) then (exec PP 1 139 21 [some (.int x0)] [] σ)
    else (some (.inr 2, mkC σ 0 0 6))) := (exec_eq PP 1 139 0 _ _ σ).trans rfl
set_option maxRecDepth 20000 in
theorem e_139_10 (o0 : Option Value) (σ : SH) : exec PP 1 139 10 [o0] [] σ =
  some (.inr 2, mkC σ 0 0 6) := (exec_eq PP 1 139 10 _ _ σ).trans rfl
set_option maxRecDepth 20000 in
theorem e_139_21 (o0 : Option Value) (σ : SH) : exec PP 1 139 21 [o0] [] σ =
  some (.inl none, σ) := (exec_eq PP 1 139 21 _ _ σ).trans rfl

/-! 140: ArchEnds.apart(II)I -/
set_option maxRecDepth 20000 in
theorem r_140 (x0 : Int32) (x1 : Int32) (σ : SH) : rn 140 [.int x0, .int x1] σ =
  if (x0 < x1 : Prop) then (exec PP 1 140 14 [some (.int x0), some (.int x1)] [.int (x1 - x0)] σ)
  else (exec PP 1 140 11 [some (.int x0), some (.int x1)] [] σ) := (exec_eq PP 1 140 0 _ _ σ).trans rfl
set_option maxRecDepth 20000 in
theorem e_140_11 (x0 : Int32) (x1 : Int32) (σ : SH) : exec PP 1 140 11 [some (.int x0), some (.int x1)] [] σ =
  some (.inl (some (.int (x0 - x1))), σ) := (exec_eq PP 1 140 11 _ _ σ).trans rfl
set_option maxRecDepth 20000 in
theorem e_140_14 (o0 : Option Value) (o1 : Option Value) (w0 : Int32) (σ : SH) : exec PP 1 140 14 [o0, o1] [.int w0] σ =
  some (.inl (some (.int w0)), σ) := (exec_eq PP 1 140 14 _ _ σ).trans rfl

/-! 141: ArchEnds.tell(II)I -/
set_option maxRecDepth 20000 in
theorem r_141 (a0 : Nat) (x1 : Int32) (x2 : Int32) (σ : SH) : rn 141 [.ref a0, .int x1, .int x2] σ =
  if sT σ a0 = 111 then (onV (rn 123 [.ref a0, .int x1] σ) (fun σ21 =>
  if (x2 < 0 : Prop) then (exec PP 4 141 14 [some (.ref a0), some (.int x1), some (.int x2), none] [] σ21)
    else (if (2 < x2 : Prop) then (some (.inr 0, mkC σ21 0 0 6))
      else (exec PP 4 141 24 [some (.ref a0), some (.int x1), some (.int x2), none] [] σ21))) (fun e22 σ21x => some (.inr e22, σ21x))) else none := (exec_eq PP 4 141 0 _ _ σ).trans rfl
set_option maxRecDepth 20000 in
theorem e_141_14 (o0 : Option Value) (o1 : Option Value) (o2 : Option Value) (o3 : Option Value) (σ : SH) : exec PP 4 141 14 [o0, o1, o2, o3] [] σ =
  some (.inr 0, mkC σ 0 0 6) := (exec_eq PP 4 141 14 _ _ σ).trans rfl
set_option maxRecDepth 20000 in
theorem e_141_24 (a0 : Nat) (x1 : Int32) (x2 : Int32) (o3 : Option Value) (σ : SH) : exec PP 4 141 24 [some (.ref a0), some (.int x1), some (.int x2), o3] [] σ =
  if sT σ a0 = 111 then (onV (rn 136 [.ref a0] σ) (fun σ21 =>
  gR σ21 111 2 (.ref a0) fun a23 =>
    gR σ21 101 0 (.ref a23) fun a24 =>
    aR σ21 (.ref a24) x1 fun a25 =>
    gI σ21 108 6 (.ref a25) fun x26 =>
    gR σ21 111 2 (.ref a0) fun a27 =>
    gR σ21 101 0 (.ref a27) fun a28 =>
    aR σ21 (.ref a28) x1 fun a29 =>
    pI σ21 108 6 (.ref a29) x2 fun σ30 =>
    some (.inl (some (.int x26)), σ30)) (fun e22 σ21x => some (.inr e22, σ21x))) else none := (exec_eq PP 4 141 24 _ _ σ).trans rfl

/-! 142: ArchEnds.road(I)I -/
set_option maxRecDepth 20000 in
theorem r_142 (a0 : Nat) (x1 : Int32) (σ : SH) : rn 142 [.ref a0, .int x1] σ =
  onV (rn 139 [.int x1] σ) (fun σ21 =>
  if sT σ21 a0 = 111 then (onV (rn 136 [.ref a0] σ21) (fun σ23 =>
    gR σ23 111 2 (.ref a0) fun a25 =>
      gI σ23 101 8 (.ref a25) fun x26 =>
      gR σ23 111 2 (.ref a0) fun a27 =>
      pI σ23 101 8 (.ref a27) x1 fun σ28 =>
      some (.inl (some (.int x26)), σ28)) (fun e24 σ23x => some (.inr e24, σ23x))) else none) (fun e22 σ21x => some (.inr e22, σ21x)) := (exec_eq PP 4 142 0 _ _ σ).trans rfl

/-! 143: ArchEnds.insure(I)I -/
set_option maxRecDepth 20000 in
theorem r_143 (a0 : Nat) (x1 : Int32) (σ : SH) : rn 143 [.ref a0, .int x1] σ =
  if sT σ a0 = 111 then (onV (rn 130 [.ref a0, .int x1] σ) (fun σ21 =>
  gR σ21 111 2 (.ref a0) fun a23 =>
    gR σ21 101 2 (.ref a23) fun a24 =>
    aR σ21 (.ref a24) x1 fun a25 =>
    gR σ21 111 2 (.ref a0) fun a26 =>
    if sT σ21 a26 = 101 then (onQ (rn 16 [.ref a26, .ref a25] σ21) (fun σ27 =>
    exec PP 4 143 49 [some (.ref a0), some (.int x1), some (.ref a25), some (.null)] [] σ27)
    (fun a29 σ30 =>
    if (a29 : Nat) = 39 then none else
      gI σ30 102 6 (.ref a25) fun x31 =>
      if (x31 = 0 : Prop) then (gI σ30 100 0 (.ref a29) fun x32 =>
        gR σ30 111 2 (.ref a0) fun a33 =>
        gI σ30 101 9 (.ref a33) fun x34 =>
        if (x32 < x34 : Prop) then (some (.inr 4, mkC σ30 0 0 6))
        else (exec PP 4 143 60 [some (.ref a0), some (.int x1), some (.ref a25), some (.ref a29)] [] σ30))
      else (exec PP 4 143 49 [some (.ref a0), some (.int x1), some (.ref a25), some (.ref a29)] [] σ30)) (fun e28 σ27x => some (.inr e28, σ27x))) else none) (fun e22 σ21x => some (.inr e22, σ21x))) else none := (exec_eq PP 4 143 0 _ _ σ).trans rfl
set_option maxRecDepth 20000 in
theorem e_143_49 (o0 : Option Value) (o1 : Option Value) (o2 : Option Value) (o3 : Option Value) (σ : SH) : exec PP 4 143 49 [o0, o1, o2, o3] [] σ =
  some (.inr 4, mkC σ 0 0 6) := (exec_eq PP 4 143 49 _ _ σ).trans rfl
set_option maxRecDepth 20000 in
theorem e_143_60 (a0 : Nat) (o1 : Option Value) (a2 : Nat) (a3 : Nat) (σ : SH) : exec PP 4 143 60 [some (.ref a0), o1, some (.ref a2), some (.ref a3)] [] σ =
  if sT σ a0 = 111 then (onV (rn 136 [.ref a0] σ) (fun σ21 =>
  gI σ21 100 0 (.ref a3) fun x23 =>
    gR σ21 111 2 (.ref a0) fun a24 =>
    gI σ21 101 9 (.ref a24) fun x25 =>
    pI σ21 100 0 (.ref a3) (x23 - x25) fun σ26 =>
    pB σ26 102 6 (.ref a2) 1 fun σ27 =>
    gI σ27 100 0 (.ref a3) fun x28 =>
    some (.inl (some (.int x28)), σ27)) (fun e22 σ21x => some (.inr e22, σ21x))) else none := (exec_eq PP 4 143 60 _ _ σ).trans rfl

/-! 144: ArchEnds.minutes(I)I -/
set_option maxRecDepth 20000 in
theorem r_144 (a0 : Nat) (x1 : Int32) (σ : SH) : rn 144 [.ref a0, .int x1] σ =
  onV (rn 134 [.int x1, .int 1, .int 100] σ) (fun σ21 =>
  if sT σ21 a0 = 111 then (onV (rn 136 [.ref a0] σ21) (fun σ23 =>
    gR σ23 111 2 (.ref a0) fun a25 =>
      if sT σ23 a25 = 101 then (onI (rn 17 [.ref a25, .int x1, .int 1] σ23) (fun x28 σ26 =>
      some (.inl (some (.int x28)), σ26)) (fun e27 σ26x => some (.inr e27, σ26x))) else none) (fun e24 σ23x => some (.inr e24, σ23x))) else none) (fun e22 σ21x => some (.inr e22, σ21x)) := (exec_eq PP 7 144 0 _ _ σ).trans rfl

/-! 145: ArchEnds.footFrom(II)I -/
set_option maxRecDepth 20000 in
theorem r_145 (x0 : Int32) (x1 : Int32) (σ : SH) : rn 145 [.int x0, .int x1] σ =
  onI (rn 126 [.int x1] σ) (fun x23 σ21 =>
  if (x23 = (-1) : Prop) then (some (.inl (some (.int (-1))), σ21))
    else (exec PP 3 145 12 [some (.int x0), some (.int x1), some (.int x23), none] [] σ21)) (fun e22 σ21x => some (.inr e22, σ21x)) := (exec_eq PP 3 145 0 _ _ σ).trans rfl
set_option maxRecDepth 20000 in
theorem e_145_12 (x0 : Int32) (x1 : Int32) (x2 : Int32) (o3 : Option Value) (σ : SH) : exec PP 3 145 12 [some (.int x0), some (.int x1), some (.int x2), o3] [] σ =
  if (((irm x1 96) : Int32) < 48 : Prop) then (exec PP 3 145 30 [some (.int x0), some (.int x1), some (.int x2), none] [.int (x0 - x2)] σ)
  else (exec PP 3 145 27 [some (.int x0), some (.int x1), some (.int x2), none] [] σ) := (exec_eq PP 3 145 12 _ _ σ).trans rfl
set_option maxRecDepth 20000 in
theorem e_145_27 (x0 : Int32) (o1 : Option Value) (x2 : Int32) (o3 : Option Value) (σ : SH) : exec PP 3 145 27 [some (.int x0), o1, some (.int x2), o3] [] σ =
  if (((x0 + x2) : Int32) < 0 : Prop) then (exec PP 3 145 45 [none, none, none, some (.int (x0 + x2))] [] σ)
  else (if (((x0 + x2) : Int32) < 16 : Prop) then (exec PP 3 145 46 [none, none, none, some (.int (x0 + x2))] [.int (x0 + x2)] σ)
    else (exec PP 3 145 45 [none, none, none, some (.int (x0 + x2))] [] σ)) := (exec_eq PP 3 145 27 _ _ σ).trans rfl
set_option maxRecDepth 20000 in
theorem e_145_30 (o0 : Option Value) (o1 : Option Value) (o2 : Option Value) (o3 : Option Value) (w0 : Int32) (σ : SH) : exec PP 3 145 30 [o0, o1, o2, o3] [.int w0] σ =
  if (w0 < 0 : Prop) then (exec PP 3 145 45 [none, none, none, some (.int w0)] [] σ)
  else (if (w0 < 16 : Prop) then (exec PP 3 145 46 [none, none, none, some (.int w0)] [.int w0] σ)
    else (exec PP 3 145 45 [none, none, none, some (.int w0)] [] σ)) := (exec_eq PP 3 145 30 _ _ σ).trans rfl
set_option maxRecDepth 20000 in
theorem e_145_45 (o0 : Option Value) (o1 : Option Value) (o2 : Option Value) (o3 : Option Value) (σ : SH) : exec PP 3 145 45 [o0, o1, o2, o3] [] σ =
  some (.inl (some (.int (-1))), σ) := (exec_eq PP 3 145 45 _ _ σ).trans rfl
set_option maxRecDepth 20000 in
theorem e_145_46 (o0 : Option Value) (o1 : Option Value) (o2 : Option Value) (o3 : Option Value) (w0 : Int32) (σ : SH) : exec PP 3 145 46 [o0, o1, o2, o3] [.int w0] σ =
  some (.inl (some (.int w0)), σ) := (exec_eq PP 3 145 46 _ _ σ).trans rfl

/-! 146: ArchEnds.sun(I)I -/
set_option maxRecDepth 20000 in
theorem r_146 (a0 : Nat) (x1 : Int32) (σ : SH) : rn 146 [.ref a0, .int x1] σ =
  onV (rn 133 [.int x1] σ) (fun σ21 =>
  onI (rn 127 [.int x1] σ21) (fun x25 σ23 =>
    some (.inl (some (.int x25)), σ23)) (fun e24 σ23x => some (.inr e24, σ23x))) (fun e22 σ21x => some (.inr e22, σ21x)) := (exec_eq PP 3 146 0 _ _ σ).trans rfl

/-! 147: ArchEnds.reach(I)I -/
set_option maxRecDepth 20000 in
theorem r_147 (a0 : Nat) (x1 : Int32) (σ : SH) : rn 147 [.ref a0, .int x1] σ =
  onV (rn 133 [.int x1] σ) (fun σ21 =>
  onI (rn 126 [.int x1] σ21) (fun x25 σ23 =>
    some (.inl (some (.int x25)), σ23)) (fun e24 σ23x => some (.inr e24, σ23x))) (fun e22 σ21x => some (.inr e22, σ21x)) := (exec_eq PP 3 147 0 _ _ σ).trans rfl

/-! 148: ArchEnds.foot(II)I -/
set_option maxRecDepth 20000 in
theorem r_148 (a0 : Nat) (x1 : Int32) (x2 : Int32) (σ : SH) : rn 148 [.ref a0, .int x1, .int x2] σ =
  onV (rn 139 [.int x1] σ) (fun σ21 =>
  onV (rn 133 [.int x2] σ21) (fun σ23 =>
    onI (rn 145 [.int x1, .int x2] σ23) (fun x27 σ25 =>
      some (.inl (some (.int x27)), σ25)) (fun e26 σ25x => some (.inr e26, σ25x))) (fun e24 σ23x => some (.inr e24, σ23x))) (fun e22 σ21x => some (.inr e22, σ21x)) := (exec_eq PP 4 148 0 _ _ σ).trans rfl

/-! 149: ArchEnds.arch(II)Z -/
set_option maxRecDepth 20000 in
theorem r_149 (a0 : Nat) (x1 : Int32) (x2 : Int32) (σ : SH) : rn 149 [.ref a0, .int x1, .int x2] σ =
  onV (rn 139 [.int x1] σ) (fun σ21 =>
  onV (rn 133 [.int x2] σ21) (fun σ23 =>
    gR σ23 111 2 (.ref a0) fun a25 =>
      if sT σ23 a25 = 101 then (onI (rn 20 [.ref a25, .int x1, .int x2] σ23) (fun x28 σ26 =>
      if (x28 = (-1) : Prop) then (exec PP 5 149 25 [some (.ref a0), some (.int x1), some (.int x2)] [] σ26)
        else (exec PP 5 149 26 [some (.ref a0), some (.int x1), some (.int x2)] [.int 1] σ26)) (fun e27 σ26x => some (.inr e27, σ26x))) else none) (fun e24 σ23x => some (.inr e24, σ23x))) (fun e22 σ21x => some (.inr e22, σ21x)) := (exec_eq PP 5 149 0 _ _ σ).trans rfl
set_option maxRecDepth 20000 in
theorem e_149_25 (o0 : Option Value) (o1 : Option Value) (o2 : Option Value) (σ : SH) : exec PP 5 149 25 [o0, o1, o2] [] σ =
  some (.inl (some (.int 0)), σ) := (exec_eq PP 5 149 25 _ _ σ).trans rfl
set_option maxRecDepth 20000 in
theorem e_149_26 (o0 : Option Value) (o1 : Option Value) (o2 : Option Value) (w0 : Int32) (σ : SH) : exec PP 5 149 26 [o0, o1, o2] [.int w0] σ =
  if w0 = 0 ∨ w0 = 1 then some (.inl (some (.int w0)), σ) else none := (exec_eq PP 5 149 26 _ _ σ).trans rfl

/-! 150: ArchEnds.wets(II)I -/
set_option maxRecDepth 20000 in
theorem r_150 (a0 : Nat) (x1 : Int32) (x2 : Int32) (σ : SH) : rn 150 [.ref a0, .int x1, .int x2] σ =
  onV (rn 139 [.int x1] σ) (fun σ21 =>
  onV (rn 133 [.int x2] σ21) (fun σ23 =>
    gR σ23 111 2 (.ref a0) fun a25 =>
      if sT σ23 a25 = 101 then (onI (rn 11 [.ref a25, .int x1, .int x2] σ23) (fun x28 σ26 =>
      some (.inl (some (.int x28)), σ26)) (fun e27 σ26x => some (.inr e27, σ26x))) else none) (fun e24 σ23x => some (.inr e24, σ23x))) (fun e22 σ21x => some (.inr e22, σ21x)) := (exec_eq PP 3 150 0 _ _ σ).trans rfl

/-! 151: ArchEnds.looks(II)I -/
set_option maxRecDepth 20000 in
theorem r_151 (a0 : Nat) (x1 : Int32) (x2 : Int32) (σ : SH) : rn 151 [.ref a0, .int x1, .int x2] σ =
  onV (rn 139 [.int x1] σ) (fun σ21 =>
  onV (rn 133 [.int x2] σ21) (fun σ23 =>
    gR σ23 111 6 (.ref a0) fun a25 =>
      if sT σ23 a25 = 103 then (onI (rn 26 [.ref a25, .int x1, .int x2] σ23) (fun x28 σ26 =>
      some (.inl (some (.int x28)), σ26)) (fun e27 σ26x => some (.inr e27, σ26x))) else none) (fun e24 σ23x => some (.inr e24, σ23x))) (fun e22 σ21x => some (.inr e22, σ21x)) := (exec_eq PP 6 151 0 _ _ σ).trans rfl

/-! 152: ArchEnds.stands(III)I -/
set_option maxRecDepth 20000 in
theorem r_152 (a0 : Nat) (x1 : Int32) (x2 : Int32) (x3 : Int32) (σ : SH) : rn 152 [.ref a0, .int x1, .int x2, .int x3] σ =
  onV (rn 139 [.int x1] σ) (fun σ21 =>
  onV (rn 133 [.int x2] σ21) (fun σ23 =>
    onV (rn 134 [.int x3, .int 1, .int 96] σ23) (fun σ25 =>
      gR σ25 111 6 (.ref a0) fun a27 =>
        if sT σ25 a27 = 103 then (onI (rn 27 [.ref a27, .int x1, .int x2, .int x3] σ25) (fun x30 σ28 =>
        some (.inl (some (.int x30)), σ28)) (fun e29 σ28x => some (.inr e29, σ28x))) else none) (fun e26 σ25x => some (.inr e26, σ25x))) (fun e24 σ23x => some (.inr e24, σ23x))) (fun e22 σ21x => some (.inr e22, σ21x)) := (exec_eq PP 6 152 0 _ _ σ).trans rfl

/-! 153: ArchEnds.best(II)I -/
set_option maxRecDepth 20000 in
theorem r_153 (a0 : Nat) (x1 : Int32) (x2 : Int32) (σ : SH) : rn 153 [.ref a0, .int x1, .int x2] σ =
  onV (rn 133 [.int x1] σ) (fun σ21 =>
  onV (rn 134 [.int x2, .int 1, .int 96] σ21) (fun σ23 =>
    gR σ23 111 6 (.ref a0) fun a25 =>
      if sT σ23 a25 = 103 then (onI (rn 28 [.ref a25, .int x1, .int x2] σ23) (fun x28 σ26 =>
      some (.inl (some (.int x28)), σ26)) (fun e27 σ26x => some (.inr e27, σ26x))) else none) (fun e24 σ23x => some (.inr e24, σ23x))) (fun e22 σ21x => some (.inr e22, σ21x)) := (exec_eq PP 6 153 0 _ _ σ).trans rfl

/-! 154: ArchEnds.first(II)I -/
set_option maxRecDepth 20000 in
theorem r_154 (a0 : Nat) (x1 : Int32) (x2 : Int32) (σ : SH) : rn 154 [.ref a0, .int x1, .int x2] σ =
  onV (rn 139 [.int x1] σ) (fun σ21 =>
  onV (rn 133 [.int x2] σ21) (fun σ23 =>
    gR σ23 111 6 (.ref a0) fun a25 =>
      if sT σ23 a25 = 103 then (onI (rn 31 [.ref a25, .int x1, .int x2] σ23) (fun x28 σ26 =>
      some (.inl (some (.int x28)), σ26)) (fun e27 σ26x => some (.inr e27, σ26x))) else none) (fun e24 σ23x => some (.inr e24, σ23x))) (fun e22 σ21x => some (.inr e22, σ21x)) := (exec_eq PP 6 154 0 _ _ σ).trans rfl

/-! 155: ArchEnds.site(III)I -/
set_option maxRecDepth 20000 in
theorem r_155 (a0 : Nat) (x1 : Int32) (x2 : Int32) (x3 : Int32) (σ : SH) : rn 155 [.ref a0, .int x1, .int x2, .int x3] σ =
  onV (rn 139 [.int x1] σ) (fun σ21 =>
  onV (rn 133 [.int x2] σ21) (fun σ23 =>
    onV (rn 134 [.int x3, .int 1, .int 96] σ23) (fun σ25 =>
      gR σ25 111 6 (.ref a0) fun a27 =>
        if sT σ25 a27 = 103 then (onI (rn 32 [.ref a27, .int x1, .int x2, .int x3] σ25) (fun x30 σ28 =>
        some (.inl (some (.int x30)), σ28)) (fun e29 σ28x => some (.inr e29, σ28x))) else none) (fun e26 σ25x => some (.inr e26, σ25x))) (fun e24 σ23x => some (.inr e24, σ23x))) (fun e22 σ21x => some (.inr e22, σ21x)) := (exec_eq PP 6 155 0 _ _ σ).trans rfl

/-! 156: ArchEnds.odds(II)I -/
set_option maxRecDepth 20000 in
theorem r_156 (a0 : Nat) (x1 : Int32) (x2 : Int32) (σ : SH) : rn 156 [.ref a0, .int x1, .int x2] σ =
  onV (rn 139 [.int x1] σ) (fun σ21 =>
  onV (rn 133 [.int x2] σ21) (fun σ23 =>
    gR σ23 111 6 (.ref a0) fun a25 =>
      if sT σ23 a25 = 103 then (onI (rn 34 [.ref a25, .int x1, .int x2] σ23) (fun x28 σ26 =>
      some (.inl (some (.int x28)), σ26)) (fun e27 σ26x => some (.inr e27, σ26x))) else none) (fun e24 σ23x => some (.inr e24, σ23x))) (fun e22 σ21x => some (.inr e22, σ21x)) := (exec_eq PP 3 156 0 _ _ σ).trans rfl

/-! 157: ArchEnds.hope(I)I -/
set_option maxRecDepth 20000 in
theorem r_157 (a0 : Nat) (x1 : Int32) (σ : SH) : rn 157 [.ref a0, .int x1] σ =
  if sT σ a0 = 111 then (onV (rn 130 [.ref a0, .int x1] σ) (fun σ21 =>
  gR σ21 111 6 (.ref a0) fun a23 =>
    gR σ21 111 2 (.ref a0) fun a24 =>
    gR σ21 101 2 (.ref a24) fun a25 =>
    aR σ21 (.ref a25) x1 fun a26 =>
    if sT σ21 a23 = 103 then (onI (rn 35 [.ref a23, .ref a26] σ21) (fun x29 σ27 =>
    some (.inl (some (.int x29)), σ27)) (fun e28 σ27x => some (.inr e28, σ27x))) else none) (fun e22 σ21x => some (.inr e22, σ21x))) else none := (exec_eq PP 5 157 0 _ _ σ).trans rfl

/-! 158: ArchEnds.gain(II)I -/
set_option maxRecDepth 20000 in
theorem r_158 (a0 : Nat) (x1 : Int32) (x2 : Int32) (σ : SH) : rn 158 [.ref a0, .int x1, .int x2] σ =
  if sT σ a0 = 111 then (onV (rn 125 [.ref a0, .int x1] σ) (fun σ21 =>
  if sT σ21 a0 = 111 then (onV (rn 130 [.ref a0, .int x2] σ21) (fun σ23 =>
    gR σ23 111 7 (.ref a0) fun a25 =>
      if sT σ23 a25 = 106 then (onI (rn 60 [.ref a25, .int x1, .int x2] σ23) (fun x28 σ26 =>
      some (.inl (some (.int x28)), σ26)) (fun e27 σ26x => some (.inr e27, σ26x))) else none) (fun e24 σ23x => some (.inr e24, σ23x))) else none) (fun e22 σ21x => some (.inr e22, σ21x))) else none := (exec_eq PP 6 158 0 _ _ σ).trans rfl

/-! 159: ArchEnds.deals(IZ)I -/
set_option maxRecDepth 20000 in
theorem r_159 (a0 : Nat) (x1 : Int32) (x2 : Int32) (σ : SH) : rn 159 [.ref a0, .int x1, .int x2] σ =
  if sT σ a0 = 111 then (onV (rn 125 [.ref a0, .int x1] σ) (fun σ21 =>
  gR σ21 111 7 (.ref a0) fun a23 =>
    if sT σ21 a23 = 106 then (onI (rn 61 [.ref a23, .int x1] σ21) (fun x26 σ24 =>
    if (x2 = 0 : Prop) then (exec PP 7 159 29 [some (.ref a0), some (.int x1), some (.int x2), some (.int x26)] [] σ24)
      else (gR σ24 111 7 (.ref a0) fun a27 =>
        if sT σ24 a27 = 106 then (onI (rn 63 [.ref a27, .int x26] σ24) (fun x30 σ28 =>
        exec PP 7 159 30 [some (.ref a0), some (.int x1), some (.int x2), some (.int x26)] [.int x30] σ28) (fun e29 σ28x => some (.inr e29, σ28x))) else none)) (fun e25 σ24x => some (.inr e25, σ24x))) else none) (fun e22 σ21x => some (.inr e22, σ21x))) else none := (exec_eq PP 7 159 0 _ _ σ).trans rfl
set_option maxRecDepth 20000 in
theorem e_159_29 (o0 : Option Value) (o1 : Option Value) (o2 : Option Value) (x3 : Int32) (σ : SH) : exec PP 7 159 29 [o0, o1, o2, some (.int x3)] [] σ =
  some (.inl (some (.int x3)), σ) := (exec_eq PP 7 159 29 _ _ σ).trans rfl
set_option maxRecDepth 20000 in
theorem e_159_30 (o0 : Option Value) (o1 : Option Value) (o2 : Option Value) (o3 : Option Value) (w0 : Int32) (σ : SH) : exec PP 7 159 30 [o0, o1, o2, o3] [.int w0] σ =
  some (.inl (some (.int w0)), σ) := (exec_eq PP 7 159 30 _ _ σ).trans rfl

/-! 160: ArchEnds.meet(II)I -/
set_option maxRecDepth 20000 in
theorem r_160 (a0 : Nat) (x1 : Int32) (x2 : Int32) (σ : SH) : rn 160 [.ref a0, .int x1, .int x2] σ =
  if sT σ a0 = 111 then (onV (rn 125 [.ref a0, .int x1] σ) (fun σ21 =>
  if sT σ21 a0 = 111 then (onV (rn 125 [.ref a0, .int x2] σ21) (fun σ23 =>
    onV (rn 161 [.int x1, .int x2] σ23) (fun σ25 =>
      gR σ25 111 7 (.ref a0) fun a27 =>
        gR σ25 111 2 (.ref a0) fun a28 =>
        gR σ25 101 1 (.ref a28) fun a29 =>
        aR σ25 (.ref a29) x1 fun a30 =>
        gR σ25 111 2 (.ref a0) fun a31 =>
        gR σ25 101 1 (.ref a31) fun a32 =>
        aR σ25 (.ref a32) x2 fun a33 =>
        if sT σ25 a27 = 106 then (onI (rn 64 [.ref a27, .ref a30, .ref a33] σ25) (fun x36 σ34 =>
        some (.inl (some (.int x36)), σ34)) (fun e35 σ34x => some (.inr e35, σ34x))) else none) (fun e26 σ25x => some (.inr e26, σ25x))) (fun e24 σ23x => some (.inr e24, σ23x))) else none) (fun e22 σ21x => some (.inr e22, σ21x))) else none := (exec_eq PP 4 160 0 _ _ σ).trans rfl

/-! 161: ArchEnds.checkTwo(II)V -/
set_option maxRecDepth 20000 in
theorem r_161 (x0 : Int32) (x1 : Int32) (σ : SH) : rn 161 [.int x0, .int x1] σ =
  if (x0 = x1 : Prop) then (some (.inr 0, mkC σ 0 0 6))
  else (exec PP 1 161 16 [some (.int x0), some (.int x1)] [] σ) := (exec_eq PP 1 161 0 _ _ σ).trans rfl
set_option maxRecDepth 20000 in
theorem e_161_16 (o0 : Option Value) (o1 : Option Value) (σ : SH) : exec PP 1 161 16 [o0, o1] [] σ =
  some (.inl none, σ) := (exec_eq PP 1 161 16 _ _ σ).trans rfl

/-! 162: ArchEnds.send(I)I -/
set_option maxRecDepth 20000 in
theorem r_162 (a0 : Nat) (x1 : Int32) (σ : SH) : rn 162 [.ref a0, .int x1] σ =
  gR σ 111 7 (.ref a0) fun a21 =>
  gR σ 111 0 (.ref a0) fun a22 =>
  if sT σ a21 = 106 then (onI (rn 65 [.ref a21, .ref a22] σ) (fun x25 σ23 =>
  gR σ23 111 0 (.ref a0) fun a26 =>
    pI σ23 110 1 (.ref a26) 0 fun σ27 =>
    if (x1 = (-1) : Prop) then (exec PP 6 162 30 [some (.ref a0), some (.int x1), some (.int x25)] [] σ27)
    else (if sT σ27 a0 = 111 then (onV (rn 125 [.ref a0, .int x1] σ27) (fun σ28 =>
      if (x25 = 0 : Prop) then (some (.inr 0, mkC σ28 0 0 6))
        else (exec PP 6 162 45 [some (.ref a0), some (.int x1), some (.int x25)] [] σ28)) (fun e29 σ28x => some (.inr e29, σ28x))) else none)) (fun e24 σ23x => some (.inr e24, σ23x))) else none := (exec_eq PP 6 162 0 _ _ σ).trans rfl
set_option maxRecDepth 20000 in
theorem e_162_30 (a0 : Nat) (x1 : Int32) (x2 : Int32) (σ : SH) : exec PP 6 162 30 [some (.ref a0), some (.int x1), some (.int x2)] [] σ =
  if (x2 = 0 : Prop) then (some (.inr 0, mkC σ 0 0 6))
  else (exec PP 6 162 45 [some (.ref a0), some (.int x1), some (.int x2)] [] σ) := (exec_eq PP 6 162 30 _ _ σ).trans rfl
set_option maxRecDepth 20000 in
theorem e_162_45 (a0 : Nat) (x1 : Int32) (o2 : Option Value) (σ : SH) : exec PP 6 162 45 [some (.ref a0), some (.int x1), o2] [] σ =
  gR σ 111 7 (.ref a0) fun a21 =>
  if sT σ a21 = 106 then (onV (rn 66 [.ref a21] σ) (fun σ22 =>
  if (x1 = (-1) : Prop) then (gR σ22 111 7 (.ref a0) fun a24 =>
      if sT σ22 a24 = 106 then (onI (rn 68 [.ref a24] σ22) (fun x27 σ25 =>
      exec PP 6 162 75 [some (.ref a0), some (.int x1), none] [.int x27] σ25) (fun e26 σ25x => some (.inr e26, σ25x))) else none)
    else (exec PP 6 162 67 [some (.ref a0), some (.int x1), none] [] σ22)) (fun e23 σ22x => some (.inr e23, σ22x))) else none := (exec_eq PP 6 162 45 _ _ σ).trans rfl
set_option maxRecDepth 20000 in
theorem e_162_67 (a0 : Nat) (x1 : Int32) (o2 : Option Value) (σ : SH) : exec PP 6 162 67 [some (.ref a0), some (.int x1), o2] [] σ =
  gR σ 111 7 (.ref a0) fun a21 =>
  if sT σ a21 = 106 then (onI (rn 69 [.ref a21, .int x1] σ) (fun x24 σ22 =>
  some (.inl (some (.int x24)), σ22)) (fun e23 σ22x => some (.inr e23, σ22x))) else none := (exec_eq PP 6 162 67 _ _ σ).trans rfl
set_option maxRecDepth 20000 in
theorem e_162_75 (o0 : Option Value) (o1 : Option Value) (o2 : Option Value) (w0 : Int32) (σ : SH) : exec PP 6 162 75 [o0, o1, o2] [.int w0] σ =
  some (.inl (some (.int w0)), σ) := (exec_eq PP 6 162 75 _ _ σ).trans rfl

/-! 163: ArchEnds.rush(I)I -/
set_option maxRecDepth 20000 in
theorem r_163 (a0 : Nat) (x1 : Int32) (σ : SH) : rn 163 [.ref a0, .int x1] σ =
  onV (rn 139 [.int x1] σ) (fun σ21 =>
  gR σ21 111 7 (.ref a0) fun a23 =>
    if sT σ21 a23 = 106 then (onI (rn 71 [.ref a23, .int x1] σ21) (fun x26 σ24 =>
    some (.inl (some (.int x26)), σ24)) (fun e25 σ24x => some (.inr e25, σ24x))) else none) (fun e22 σ21x => some (.inr e22, σ21x)) := (exec_eq PP 4 163 0 _ _ σ).trans rfl

/-! 164: ArchEnds.seen(IZ)I -/
set_option maxRecDepth 20000 in
theorem r_164 (a0 : Nat) (x1 : Int32) (x2 : Int32) (σ : SH) : rn 164 [.ref a0, .int x1, .int x2] σ =
  if sT σ a0 = 111 then (onV (rn 165 [.ref a0, .int x1] σ) (fun σ21 =>
  if (x2 = 0 : Prop) then (exec PP 5 164 20 [some (.ref a0), some (.int x1), some (.int x2)] [] σ21)
    else (gR σ21 111 6 (.ref a0) fun a23 =>
      if sT σ21 a23 = 103 then (onI (rn 37 [.ref a23, .int x1] σ21) (fun x26 σ24 =>
      exec PP 5 164 28 [some (.ref a0), some (.int x1), some (.int x2)] [.int x26] σ24) (fun e25 σ24x => some (.inr e25, σ24x))) else none)) (fun e22 σ21x => some (.inr e22, σ21x))) else none := (exec_eq PP 5 164 0 _ _ σ).trans rfl
set_option maxRecDepth 20000 in
theorem e_164_20 (a0 : Nat) (x1 : Int32) (o2 : Option Value) (σ : SH) : exec PP 5 164 20 [some (.ref a0), some (.int x1), o2] [] σ =
  gR σ 111 6 (.ref a0) fun a21 =>
  if sT σ a21 = 103 then (onI (rn 40 [.ref a21, .int x1] σ) (fun x24 σ22 =>
  some (.inl (some (.int x24)), σ22)) (fun e23 σ22x => some (.inr e23, σ22x))) else none := (exec_eq PP 5 164 20 _ _ σ).trans rfl
set_option maxRecDepth 20000 in
theorem e_164_28 (o0 : Option Value) (o1 : Option Value) (o2 : Option Value) (w0 : Int32) (σ : SH) : exec PP 5 164 28 [o0, o1, o2] [.int w0] σ =
  some (.inl (some (.int w0)), σ) := (exec_eq PP 5 164 28 _ _ σ).trans rfl

/-! 165: ArchEnds.takeSights(I)V -/
set_option maxRecDepth 20000 in
theorem r_165 (a0 : Nat) (x1 : Int32) (σ : SH) : rn 165 [.ref a0, .int x1] σ =
  gR σ 111 6 (.ref a0) fun a21 =>
  gR σ 111 0 (.ref a0) fun a22 =>
  if sT σ a21 = 103 then (onI (rn 36 [.ref a21, .ref a22] σ) (fun x25 σ23 =>
  gR σ23 111 0 (.ref a0) fun a26 =>
    pI σ23 110 1 (.ref a26) 0 fun σ27 =>
    if (x25 = 0 : Prop) then (some (.inr 0, mkC σ27 0 0 6))
    else (exec PP 3 165 35 [some (.ref a0), some (.int x1), some (.int x25)] [] σ27)) (fun e24 σ23x => some (.inr e24, σ23x))) else none := (exec_eq PP 3 165 0 _ _ σ).trans rfl
set_option maxRecDepth 20000 in
theorem e_165_35 (o0 : Option Value) (x1 : Int32) (o2 : Option Value) (σ : SH) : exec PP 3 165 35 [o0, some (.int x1), o2] [] σ =
  onV (rn 133 [.int x1] σ) (fun σ21 =>
  some (.inl none, σ21)) (fun e22 σ21x => some (.inr e22, σ21x)) := (exec_eq PP 3 165 35 _ _ σ).trans rfl

/-! 166: ArchEnds.ask(I)I -/
set_option maxRecDepth 20000 in
theorem r_166 (a0 : Nat) (x1 : Int32) (σ : SH) : rn 166 [.ref a0, .int x1] σ =
  if sT σ a0 = 111 then (onV (rn 165 [.ref a0, .int x1] σ) (fun σ21 =>
  gR σ21 111 6 (.ref a0) fun a23 =>
    if sT σ21 a23 = 103 then (onI (rn 41 [.ref a23, .int x1] σ21) (fun x26 σ24 =>
    some (.inl (some (.int x26)), σ24)) (fun e25 σ24x => some (.inr e25, σ24x))) else none) (fun e22 σ21x => some (.inr e22, σ21x))) else none := (exec_eq PP 5 166 0 _ _ σ).trans rfl

/-! 167: ArchEnds.spray(I)I -/
set_option maxRecDepth 20000 in
theorem r_167 (a0 : Nat) (x1 : Int32) (σ : SH) : rn 167 [.ref a0, .int x1] σ =
  onV (rn 133 [.int x1] σ) (fun σ21 =>
  gR σ21 111 6 (.ref a0) fun a23 =>
    if sT σ21 a23 = 103 then (onI (rn 44 [.ref a23, .int x1] σ21) (fun x26 σ24 =>
    some (.inl (some (.int x26)), σ24)) (fun e25 σ24x => some (.inr e25, σ24x))) else none) (fun e22 σ21x => some (.inr e22, σ21x)) := (exec_eq PP 5 167 0 _ _ σ).trans rfl

/-! 168: ArchEnds.both(IIII)I -/
set_option maxRecDepth 20000 in
theorem r_168 (a0 : Nat) (x1 : Int32) (x2 : Int32) (x3 : Int32) (x4 : Int32) (σ : SH) : rn 168 [.ref a0, .int x1, .int x2, .int x3, .int x4] σ =
  onV (rn 139 [.int x1] σ) (fun σ21 =>
  onV (rn 139 [.int x2] σ21) (fun σ23 =>
    onV (rn 161 [.int x1, .int x2] σ23) (fun σ25 =>
      onV (rn 133 [.int x3] σ25) (fun σ27 =>
        onV (rn 134 [.int x4, .int 1, .int 96] σ27) (fun σ29 =>
          gR σ29 111 6 (.ref a0) fun a31 =>
            if sT σ29 a31 = 103 then (onI (rn 45 [.ref a31, .int x1, .int x2, .int x3, .int x4] σ29) (fun x34 σ32 =>
            some (.inl (some (.int x34)), σ32)) (fun e33 σ32x => some (.inr e33, σ32x))) else none) (fun e30 σ29x => some (.inr e30, σ29x))) (fun e28 σ27x => some (.inr e28, σ27x))) (fun e26 σ25x => some (.inr e26, σ25x))) (fun e24 σ23x => some (.inr e24, σ23x))) (fun e22 σ21x => some (.inr e22, σ21x)) := (exec_eq PP 6 168 0 _ _ σ).trans rfl

/-! 169: ArchEnds.rests(IIII)I -/
set_option maxRecDepth 20000 in
theorem r_169 (a0 : Nat) (x1 : Int32) (x2 : Int32) (x3 : Int32) (x4 : Int32) (σ : SH) : rn 169 [.ref a0, .int x1, .int x2, .int x3, .int x4] σ =
  if sT σ a0 = 111 then (onV (rn 125 [.ref a0, .int x1] σ) (fun σ21 =>
  if sT σ21 a0 = 111 then (onV (rn 125 [.ref a0, .int x2] σ21) (fun σ23 =>
    if sT σ23 a0 = 111 then (onV (rn 130 [.ref a0, .int x3] σ23) (fun σ25 =>
      if sT σ25 a0 = 111 then (onV (rn 130 [.ref a0, .int x4] σ25) (fun σ27 =>
        onV (rn 161 [.int x1, .int x2] σ27) (fun σ29 =>
          onV (rn 161 [.int x3, .int x4] σ29) (fun σ31 =>
            gR σ31 111 7 (.ref a0) fun a33 =>
              if sT σ31 a33 = 106 then (onI (rn 72 [.ref a33, .int x1, .int x2, .int x3, .int x4] σ31) (fun x36 σ34 =>
              some (.inl (some (.int x36)), σ34)) (fun e35 σ34x => some (.inr e35, σ34x))) else none) (fun e32 σ31x => some (.inr e32, σ31x))) (fun e30 σ29x => some (.inr e30, σ29x))) (fun e28 σ27x => some (.inr e28, σ27x))) else none) (fun e26 σ25x => some (.inr e26, σ25x))) else none) (fun e24 σ23x => some (.inr e24, σ23x))) else none) (fun e22 σ21x => some (.inr e22, σ21x))) else none := (exec_eq PP 6 169 0 _ _ σ).trans rfl

/-! 170: ArchEnds.row(III)I -/
set_option maxRecDepth 20000 in
theorem r_170 (a0 : Nat) (x1 : Int32) (x2 : Int32) (x3 : Int32) (σ : SH) : rn 170 [.ref a0, .int x1, .int x2, .int x3] σ =
  onV (rn 134 [.int x1, .int 1, .int 20] σ) (fun σ21 =>
  onV (rn 133 [.int x2] σ21) (fun σ23 =>
    gR σ23 111 6 (.ref a0) fun a25 =>
      if sT σ23 a25 = 103 then (onI (rn 46 [.ref a25, .int x1, .int x2, .int x3] σ23) (fun x28 σ26 =>
      some (.inl (some (.int x28)), σ26)) (fun e27 σ26x => some (.inr e27, σ26x))) else none) (fun e24 σ23x => some (.inr e24, σ23x))) (fun e22 σ21x => some (.inr e22, σ21x)) := (exec_eq PP 6 170 0 _ _ σ).trans rfl

/-! 171: ArchEnds.ahead(II)I -/
set_option maxRecDepth 20000 in
theorem r_171 (a0 : Nat) (x1 : Int32) (x2 : Int32) (σ : SH) : rn 171 [.ref a0, .int x1, .int x2] σ =
  if sT σ a0 = 111 then (onV (rn 125 [.ref a0, .int x1] σ) (fun σ21 =>
  onV (rn 134 [.int x2, .int 0, .int 200] σ21) (fun σ23 =>
    gR σ23 111 3 (.ref a0) fun a25 =>
      gR σ23 111 2 (.ref a0) fun a26 =>
      if sT σ23 a25 = 101 then (onV (rn 6 [.ref a25, .ref a26] σ23) (fun σ27 =>
      gR σ27 111 3 (.ref a0) fun a29 =>
        if sT σ27 a29 = 101 then (onI (rn 17 [.ref a29, .int x2, .int 0] σ27) (fun x32 σ30 =>
        gR σ30 111 3 (.ref a0) fun a33 =>
          gR σ30 101 1 (.ref a33) fun a34 =>
          aR σ30 (.ref a34) x1 fun a35 =>
          gI σ30 100 0 (.ref a35) fun x36 =>
          some (.inl (some (.int x36)), σ30)) (fun e31 σ30x => some (.inr e31, σ30x))) else none) (fun e28 σ27x => some (.inr e28, σ27x))) else none) (fun e24 σ23x => some (.inr e24, σ23x))) (fun e22 σ21x => some (.inr e22, σ21x))) else none := (exec_eq PP 7 171 0 _ _ σ).trans rfl

/-! 172: ArchEnds.trial(IZ)I -/
set_option maxRecDepth 20000 in
theorem r_172 (a0 : Nat) (x1 : Int32) (x2 : Int32) (σ : SH) : rn 172 [.ref a0, .int x1, .int x2] σ =
  onV (rn 134 [.int x1, .int 0, .int 100] σ) (fun σ21 =>
  gR σ21 111 2 (.ref a0) fun a23 =>
    gI σ21 101 11 (.ref a23) fun x24 =>
    if sT σ21 a0 = 111 then (onI (rn 173 [.ref a0, .int x1, .int x24] σ21) (fun x27 σ25 =>
    if (x2 = 0 : Prop) then (exec PP 8 172 34 [some (.ref a0), some (.int x1), some (.int x2), some (.int x27)] [] σ25)
      else (gR σ25 111 3 (.ref a0) fun a28 =>
        if sT σ25 a28 = 101 then (onI (rn 7 [.ref a28] σ25) (fun x31 σ29 =>
        exec PP 8 172 35 [some (.ref a0), some (.int x1), some (.int x2), some (.int x27)] [.int x31] σ29) (fun e30 σ29x => some (.inr e30, σ29x))) else none)) (fun e26 σ25x => some (.inr e26, σ25x))) else none) (fun e22 σ21x => some (.inr e22, σ21x)) := (exec_eq PP 8 172 0 _ _ σ).trans rfl
set_option maxRecDepth 20000 in
theorem e_172_34 (o0 : Option Value) (o1 : Option Value) (o2 : Option Value) (x3 : Int32) (σ : SH) : exec PP 8 172 34 [o0, o1, o2, some (.int x3)] [] σ =
  some (.inl (some (.int x3)), σ) := (exec_eq PP 8 172 34 _ _ σ).trans rfl
set_option maxRecDepth 20000 in
theorem e_172_35 (o0 : Option Value) (o1 : Option Value) (o2 : Option Value) (o3 : Option Value) (w0 : Int32) (σ : SH) : exec PP 8 172 35 [o0, o1, o2, o3] [.int w0] σ =
  some (.inl (some (.int w0)), σ) := (exec_eq PP 8 172 35 _ _ σ).trans rfl

/-! 173: ArchEnds.tryOut(II)I -/
set_option maxRecDepth 20000 in
theorem r_173 (a0 : Nat) (x1 : Int32) (x2 : Int32) (σ : SH) : rn 173 [.ref a0, .int x1, .int x2] σ =
  gR σ 111 3 (.ref a0) fun a21 =>
  gR σ 111 2 (.ref a0) fun a22 =>
  if sT σ a21 = 101 then (onV (rn 6 [.ref a21, .ref a22] σ) (fun σ23 =>
  gR σ23 111 3 (.ref a0) fun a25 =>
    pI σ23 101 11 (.ref a25) x2 fun σ26 =>
    gR σ26 111 3 (.ref a0) fun a27 =>
    if sT σ26 a27 = 101 then (onI (rn 17 [.ref a27, .int x1, .int 1] σ26) (fun x30 σ28 =>
    some (.inl (some (.int x30)), σ28)) (fun e29 σ28x => some (.inr e29, σ28x))) else none) (fun e24 σ23x => some (.inr e24, σ23x))) else none := (exec_eq PP 7 173 0 _ _ σ).trans rfl

/-! 174: ArchEnds.span(IZ)I -/
set_option maxRecDepth 20000 in
theorem r_174 (a0 : Nat) (x1 : Int32) (x2 : Int32) (σ : SH) : rn 174 [.ref a0, .int x1, .int x2] σ =
  onV (rn 134 [.int x1, .int 0, .int 100] σ) (fun σ21 =>
  if sT σ21 a0 = 111 then (onI (rn 173 [.ref a0, .int x1, .int 1] σ21) (fun x25 σ23 =>
    exec PP 8 174 17 [some (.ref a0), some (.int x1), some (.int x2), some (.int x25), some (.int 2), none] [] σ23) (fun e24 σ23x => some (.inr e24, σ23x))) else none) (fun e22 σ21x => some (.inr e22, σ21x)) := (exec_eq PP 8 174 0 _ _ σ).trans rfl
set_option maxRecDepth 20000 in
theorem e_174_17 (a0 : Nat) (x1 : Int32) (x2 : Int32) (x3 : Int32) (x4 : Int32) (o5 : Option Value) (σ : SH) : exec PP 8 174 17 [some (.ref a0), some (.int x1), some (.int x2), some (.int x3), some (.int x4), o5] [] σ =
  if (6 < x4 : Prop) then (exec PP 8 174 61 [some (.ref a0), some (.int x1), some (.int x2), some (.int x3), some (.int x4), none] [] σ)
  else (if sT σ a0 = 111 then (onI (rn 173 [.ref a0, .int x1, .int x4] σ) (fun x23 σ21 =>
    if (x2 = 0 : Prop) then (exec PP 8 174 46 [some (.ref a0), some (.int x1), some (.int x2), some (.int x3), some (.int x4), some (.int x23)] [] σ21)
      else (if (x3 < x23 : Prop) then (exec PP 8 174 52 [some (.ref a0), some (.int x1), some (.int x2), some (.int x3), some (.int x4), some (.int x23)] [] σ21)
        else (exec PP 8 174 55 [some (.ref a0), some (.int x1), some (.int x2), some (.int x3), some (.int x4), some (.int x23)] [] σ21))) (fun e22 σ21x => some (.inr e22, σ21x))) else none) := (exec_eq PP 8 174 17 _ _ σ).trans rfl
set_option maxRecDepth 20000 in
theorem e_174_61 (o0 : Option Value) (o1 : Option Value) (o2 : Option Value) (x3 : Int32) (o4 : Option Value) (o5 : Option Value) (σ : SH) : exec PP 8 174 61 [o0, o1, o2, some (.int x3), o4, o5] [] σ =
  some (.inl (some (.int x3)), σ) := (exec_eq PP 8 174 61 _ _ σ).trans rfl
set_option maxRecDepth 20000 in
theorem e_174_46 (a0 : Nat) (x1 : Int32) (x2 : Int32) (x3 : Int32) (x4 : Int32) (x5 : Int32) (σ : SH) : exec PP 8 174 46 [some (.ref a0), some (.int x1), some (.int x2), some (.int x3), some (.int x4), some (.int x5)] [] σ =
  if (x5 < x3 : Prop) then (exec PP 8 174 17 [some (.ref a0), some (.int x1), some (.int x2), some (.int x5), some (.int (x4 + 1)), none] [] σ)
  else (exec PP 8 174 55 [some (.ref a0), some (.int x1), some (.int x2), some (.int x3), some (.int x4), some (.int x5)] [] σ) := (exec_eq PP 8 174 46 _ _ σ).trans rfl
set_option maxRecDepth 20000 in
theorem e_174_55 (a0 : Nat) (x1 : Int32) (x2 : Int32) (x3 : Int32) (x4 : Int32) (o5 : Option Value) (σ : SH) : exec PP 8 174 55 [some (.ref a0), some (.int x1), some (.int x2), some (.int x3), some (.int x4), o5] [] σ =
  exec PP 8 174 17 [some (.ref a0), some (.int x1), some (.int x2), some (.int x3), some (.int (x4 + 1)), none] [] σ := (exec_eq PP 8 174 55 _ _ σ).trans rfl
set_option maxRecDepth 20000 in
theorem e_174_52 (a0 : Nat) (x1 : Int32) (x2 : Int32) (o3 : Option Value) (x4 : Int32) (x5 : Int32) (σ : SH) : exec PP 8 174 52 [some (.ref a0), some (.int x1), some (.int x2), o3, some (.int x4), some (.int x5)] [] σ =
  exec PP 8 174 17 [some (.ref a0), some (.int x1), some (.int x2), some (.int x5), some (.int (x4 + 1)), none] [] σ := (exec_eq PP 8 174 52 _ _ σ).trans rfl

/-! 175: ArchEnds.led(IZ)I -/
set_option maxRecDepth 20000 in
theorem r_175 (a0 : Nat) (x1 : Int32) (x2 : Int32) (σ : SH) : rn 175 [.ref a0, .int x1, .int x2] σ =
  onV (rn 139 [.int x1] σ) (fun σ21 =>
  if (x2 = 0 : Prop) then (exec PP 3 175 22 [some (.ref a0), some (.int x1), some (.int x2)] [] σ21)
    else (gR σ21 111 2 (.ref a0) fun a23 =>
      gR σ21 101 3 (.ref a23) fun a24 =>
      if sT σ21 a24 = 105 then (onI (rn 53 [.ref a24, .int x1] σ21) (fun x27 σ25 =>
      exec PP 3 175 33 [some (.ref a0), some (.int x1), some (.int x2)] [.int x27] σ25) (fun e26 σ25x => some (.inr e26, σ25x))) else none)) (fun e22 σ21x => some (.inr e22, σ21x)) := (exec_eq PP 3 175 0 _ _ σ).trans rfl
set_option maxRecDepth 20000 in
theorem e_175_22 (a0 : Nat) (x1 : Int32) (o2 : Option Value) (σ : SH) : exec PP 3 175 22 [some (.ref a0), some (.int x1), o2] [] σ =
  gR σ 111 2 (.ref a0) fun a21 =>
  gR σ 101 3 (.ref a21) fun a22 =>
  if sT σ a22 = 105 then (onI (rn 55 [.ref a22, .int x1] σ) (fun x25 σ23 =>
  some (.inl (some (.int x25)), σ23)) (fun e24 σ23x => some (.inr e24, σ23x))) else none := (exec_eq PP 3 175 22 _ _ σ).trans rfl
set_option maxRecDepth 20000 in
theorem e_175_33 (o0 : Option Value) (o1 : Option Value) (o2 : Option Value) (w0 : Int32) (σ : SH) : exec PP 3 175 33 [o0, o1, o2] [.int w0] σ =
  some (.inl (some (.int w0)), σ) := (exec_eq PP 3 175 33 _ _ σ).trans rfl

/-! 176: ArchEnds.log(II)I -/
set_option maxRecDepth 20000 in
theorem r_176 (a0 : Nat) (x1 : Int32) (x2 : Int32) (σ : SH) : rn 176 [.ref a0, .int x1, .int x2] σ =
  if (x2 < 0 : Prop) then (exec PP 2 176 9 [some (.ref a0), some (.int x1), some (.int x2)] [] σ)
  else (if (x2 < 4 : Prop) then (exec PP 2 176 20 [some (.ref a0), some (.int x1), some (.int x2)] [] σ)
    else (some (.inr 3, mkC σ 0 0 6))) := (exec_eq PP 2 176 0 _ _ σ).trans rfl
set_option maxRecDepth 20000 in
theorem e_176_9 (o0 : Option Value) (o1 : Option Value) (o2 : Option Value) (σ : SH) : exec PP 2 176 9 [o0, o1, o2] [] σ =
  some (.inr 3, mkC σ 0 0 6) := (exec_eq PP 2 176 9 _ _ σ).trans rfl
set_option maxRecDepth 20000 in
theorem e_176_20 (a0 : Nat) (x1 : Int32) (x2 : Int32) (σ : SH) : exec PP 2 176 20 [some (.ref a0), some (.int x1), some (.int x2)] [] σ =
  gR σ 111 2 (.ref a0) fun a21 =>
  gR σ 101 3 (.ref a21) fun a22 =>
  if sT σ a22 = 105 then (onI (rn 54 [.ref a22, .int x1, .int x2] σ) (fun x25 σ23 =>
  some (.inl (some (.int x25)), σ23)) (fun e24 σ23x => some (.inr e24, σ23x))) else none := (exec_eq PP 2 176 20 _ _ σ).trans rfl
