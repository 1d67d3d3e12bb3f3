/-! 329: ArchEndsLaw.county(LArchEnds;[J)I -/
set_option maxRecDepth 20000 in
theorem r_329 (a0 : Nat) (a1 : Nat) (σ : SH) : rn 329 [.ref a0, .ref a1] σ =
  if sT σ a0 = 111 then (onI (rn 119 [.ref a0] σ) (fun x23 σ21 =>
  uJ σ21 (.ref a1) 0 x23.toInt64 fun σ24 =>
    exec PP 9 329 17 [some (.ref a0), some (.ref a1), none] [] σ24) (fun e22 σ21x => kxc (hndOf 329 3 e22) e22 σ21x)) else none := (exec_eq PP 9 329 0 _ _ σ).trans rfl
set_option maxRecDepth 20000 in
theorem e_329_17 (o0 : Option Value) (o1 : Option Value) (o2 : Option Value) (σ : SH) : exec PP 9 329 17 [o0, o1, o2] [] σ =
  some (.inl (some (.int 0)), σ) := (exec_eq PP 9 329 17 _ _ σ).trans rfl

/-! 330: ArchEndsLaw.law(LArchEnds;[J)I -/
set_option maxRecDepth 20000 in
theorem r_330 (a0 : Nat) (a1 : Nat) (σ : SH) : rn 330 [.ref a0, .ref a1] σ =
  if sT σ a0 = 111 then (onI (rn 121 [.ref a0] σ) (fun x23 σ21 =>
  uJ σ21 (.ref a1) 0 x23.toInt64 fun σ24 =>
    exec PP 64 330 14 [some (.ref a0), some (.ref a1), none] [] σ24) (fun e22 σ21x => kxc (hndOf 330 3 e22) e22 σ21x)) else none := (exec_eq PP 64 330 0 _ _ σ).trans rfl
set_option maxRecDepth 20000 in
theorem e_330_14 (o0 : Option Value) (o1 : Option Value) (o2 : Option Value) (σ : SH) : exec PP 64 330 14 [o0, o1, o2] [] σ =
  some (.inl (some (.int 0)), σ) := (exec_eq PP 64 330 14 _ _ σ).trans rfl

/-! 331: ArchEndsLaw.shower(LArchEnds;II[J)I -/
set_option maxRecDepth 20000 in
theorem r_331 (a0 : Nat) (x1 : Int32) (x2 : Int32) (a3 : Nat) (σ : SH) : rn 331 [.ref a0, .int x1, .int x2, .ref a3] σ =
  if sT σ a0 = 111 then (onI (rn 122 [.ref a0, .int x1, .int x2] σ) (fun x23 σ21 =>
  uJ σ21 (.ref a3) 0 x23.toInt64 fun σ24 =>
    exec PP 3 331 21 [some (.ref a0), some (.int x1), some (.int x2), some (.ref a3), none] [] σ24) (fun e22 σ21x => kxc (hndOf 331 5 e22) e22 σ21x)) else none := (exec_eq PP 3 331 0 _ _ σ).trans rfl
set_option maxRecDepth 20000 in
theorem e_331_21 (o0 : Option Value) (o1 : Option Value) (o2 : Option Value) (o3 : Option Value) (o4 : Option Value) (σ : SH) : exec PP 3 331 21 [o0, o1, o2, o3, o4] [] σ =
  some (.inl (some (.int 0)), σ) := (exec_eq PP 3 331 21 _ _ σ).trans rfl

/-! 332: ArchEndsLaw.broker(LArchEnds;II[J)I -/
set_option maxRecDepth 20000 in
theorem r_332 (a0 : Nat) (x1 : Int32) (x2 : Int32) (a3 : Nat) (σ : SH) : rn 332 [.ref a0, .int x1, .int x2, .ref a3] σ =
  if sT σ a0 = 111 then (onI (rn 124 [.ref a0, .int x1, .int x2] σ) (fun x23 σ21 =>
  uJ σ21 (.ref a3) 0 x23.toInt64 fun σ24 =>
    exec PP 6 332 21 [some (.ref a0), some (.int x1), some (.int x2), some (.ref a3), none] [] σ24) (fun e22 σ21x => kxc (hndOf 332 5 e22) e22 σ21x)) else none := (exec_eq PP 6 332 0 _ _ σ).trans rfl
set_option maxRecDepth 20000 in
theorem e_332_21 (o0 : Option Value) (o1 : Option Value) (o2 : Option Value) (o3 : Option Value) (o4 : Option Value) (σ : SH) : exec PP 6 332 21 [o0, o1, o2, o3, o4] [] σ =
  some (.inl (some (.int 0)), σ) := (exec_eq PP 6 332 21 _ _ σ).trans rfl

/-! 333: ArchEndsLaw.deed(LArchEnds;II[J)I -/
set_option maxRecDepth 20000 in
theorem r_333 (a0 : Nat) (x1 : Int32) (x2 : Int32) (a3 : Nat) (σ : SH) : rn 333 [.ref a0, .int x1, .int x2, .ref a3] σ =
  if sT σ a0 = 111 then (onI (rn 129 [.ref a0, .int x1, .int x2] σ) (fun x23 σ21 =>
  uJ σ21 (.ref a3) 0 x23.toInt64 fun σ24 =>
    exec PP 3 333 21 [some (.ref a0), some (.int x1), some (.int x2), some (.ref a3), none] [] σ24) (fun e22 σ21x => kxc (hndOf 333 5 e22) e22 σ21x)) else none := (exec_eq PP 3 333 0 _ _ σ).trans rfl
set_option maxRecDepth 20000 in
theorem e_333_21 (o0 : Option Value) (o1 : Option Value) (o2 : Option Value) (o3 : Option Value) (o4 : Option Value) (σ : SH) : exec PP 3 333 21 [o0, o1, o2, o3, o4] [] σ =
  some (.inl (some (.int 0)), σ) := (exec_eq PP 3 333 21 _ _ σ).trans rfl

/-! 334: ArchEndsLaw.costs(LArchEnds;II[J)I -/
set_option maxRecDepth 20000 in
theorem r_334 (a0 : Nat) (x1 : Int32) (x2 : Int32) (a3 : Nat) (σ : SH) : rn 334 [.ref a0, .int x1, .int x2, .ref a3] σ =
  if sT σ a0 = 111 then (onI (rn 131 [.ref a0, .int x1, .int x2] σ) (fun x23 σ21 =>
  uJ σ21 (.ref a3) 0 x23.toInt64 fun σ24 =>
    exec PP 6 334 17 [some (.ref a0), some (.int x1), some (.int x2), some (.ref a3), none] [] σ24) (fun e22 σ21x => kxc (hndOf 334 5 e22) e22 σ21x)) else none := (exec_eq PP 6 334 0 _ _ σ).trans rfl
set_option maxRecDepth 20000 in
theorem e_334_17 (o0 : Option Value) (o1 : Option Value) (o2 : Option Value) (o3 : Option Value) (o4 : Option Value) (σ : SH) : exec PP 6 334 17 [o0, o1, o2, o3, o4] [] σ =
  some (.inl (some (.int 0)), σ) := (exec_eq PP 6 334 17 _ _ σ).trans rfl

/-! 335: ArchEndsLaw.brings(LArchEnds;III[J)I -/
set_option maxRecDepth 20000 in
theorem r_335 (a0 : Nat) (x1 : Int32) (x2 : Int32) (x3 : Int32) (a4 : Nat) (σ : SH) : rn 335 [.ref a0, .int x1, .int x2, .int x3, .ref a4] σ =
  if sT σ a0 = 111 then (onI (rn 132 [.ref a0, .int x1, .int x2, .int x3] σ) (fun x23 σ21 =>
  uJ σ21 (.ref a4) 0 x23.toInt64 fun σ24 =>
    exec PP 6 335 23 [some (.ref a0), some (.int x1), some (.int x2), some (.int x3), some (.ref a4), none] [] σ24) (fun e22 σ21x => kxc (hndOf 335 7 e22) e22 σ21x)) else none := (exec_eq PP 6 335 0 _ _ σ).trans rfl
set_option maxRecDepth 20000 in
theorem e_335_23 (o0 : Option Value) (o1 : Option Value) (o2 : Option Value) (o3 : Option Value) (o4 : Option Value) (o5 : Option Value) (σ : SH) : exec PP 6 335 23 [o0, o1, o2, o3, o4, o5] [] σ =
  some (.inl (some (.int 0)), σ) := (exec_eq PP 6 335 23 _ _ σ).trans rfl

/-! 336: ArchEndsLaw.buy(LArchEnds;II[J)I -/
set_option maxRecDepth 20000 in
theorem r_336 (a0 : Nat) (x1 : Int32) (x2 : Int32) (a3 : Nat) (σ : SH) : rn 336 [.ref a0, .int x1, .int x2, .ref a3] σ =
  if sT σ a0 = 111 then (onI (rn 135 [.ref a0, .int x1, .int x2] σ) (fun x23 σ21 =>
  uJ σ21 (.ref a3) 0 x23.toInt64 fun σ24 =>
    exec PP 6 336 21 [some (.ref a0), some (.int x1), some (.int x2), some (.ref a3), none] [] σ24) (fun e22 σ21x => kxc (hndOf 336 5 e22) e22 σ21x)) else none := (exec_eq PP 6 336 0 _ _ σ).trans rfl
set_option maxRecDepth 20000 in
theorem e_336_21 (o0 : Option Value) (o1 : Option Value) (o2 : Option Value) (o3 : Option Value) (o4 : Option Value) (σ : SH) : exec PP 6 336 21 [o0, o1, o2, o3, o4] [] σ =
  some (.inl (some (.int 0)), σ) := (exec_eq PP 6 336 21 _ _ σ).trans rfl

/-! 337: ArchEndsLaw.sell(LArchEnds;II[J)I -/
set_option maxRecDepth 20000 in
theorem r_337 (a0 : Nat) (x1 : Int32) (x2 : Int32) (a3 : Nat) (σ : SH) : rn 337 [.ref a0, .int x1, .int x2, .ref a3] σ =
  if sT σ a0 = 111 then (onI (rn 137 [.ref a0, .int x1, .int x2] σ) (fun x23 σ21 =>
  uJ σ21 (.ref a3) 0 x23.toInt64 fun σ24 =>
    exec PP 6 337 25 [some (.ref a0), some (.int x1), some (.int x2), some (.ref a3), none] [] σ24) (fun e22 σ21x => kxc (hndOf 337 5 e22) e22 σ21x)) else none := (exec_eq PP 6 337 0 _ _ σ).trans rfl
set_option maxRecDepth 20000 in
theorem e_337_25 (o0 : Option Value) (o1 : Option Value) (o2 : Option Value) (o3 : Option Value) (o4 : Option Value) (σ : SH) : exec PP 6 337 25 [o0, o1, o2, o3, o4] [] σ =
  some (.inl (some (.int 0)), σ) := (exec_eq PP 6 337 25 _ _ σ).trans rfl

/-! 338: ArchEndsLaw.go(LArchEnds;II[J)I -/
set_option maxRecDepth 20000 in
theorem r_338 (a0 : Nat) (x1 : Int32) (x2 : Int32) (a3 : Nat) (σ : SH) : rn 338 [.ref a0, .int x1, .int x2, .ref a3] σ =
  if sT σ a0 = 111 then (onI (rn 138 [.ref a0, .int x1, .int x2] σ) (fun x23 σ21 =>
  uJ σ21 (.ref a3) 0 x23.toInt64 fun σ24 =>
    exec PP 6 338 21 [some (.ref a0), some (.int x1), some (.int x2), some (.ref a3), none] [] σ24) (fun e22 σ21x => kxc (hndOf 338 5 e22) e22 σ21x)) else none := (exec_eq PP 6 338 0 _ _ σ).trans rfl
set_option maxRecDepth 20000 in
theorem e_338_21 (o0 : Option Value) (o1 : Option Value) (o2 : Option Value) (o3 : Option Value) (o4 : Option Value) (σ : SH) : exec PP 6 338 21 [o0, o1, o2, o3, o4] [] σ =
  some (.inl (some (.int 0)), σ) := (exec_eq PP 6 338 21 _ _ σ).trans rfl

/-! 339: ArchEndsLaw.tell(LArchEnds;II[J)I -/
set_option maxRecDepth 20000 in
theorem r_339 (a0 : Nat) (x1 : Int32) (x2 : Int32) (a3 : Nat) (σ : SH) : rn 339 [.ref a0, .int x1, .int x2, .ref a3] σ =
  if sT σ a0 = 111 then (onI (rn 141 [.ref a0, .int x1, .int x2] σ) (fun x23 σ21 =>
  uJ σ21 (.ref a3) 0 x23.toInt64 fun σ24 =>
    exec PP 5 339 21 [some (.ref a0), some (.int x1), some (.int x2), some (.ref a3), none] [] σ24) (fun e22 σ21x => kxc (hndOf 339 5 e22) e22 σ21x)) else none := (exec_eq PP 5 339 0 _ _ σ).trans rfl
set_option maxRecDepth 20000 in
theorem e_339_21 (o0 : Option Value) (o1 : Option Value) (o2 : Option Value) (o3 : Option Value) (o4 : Option Value) (σ : SH) : exec PP 5 339 21 [o0, o1, o2, o3, o4] [] σ =
  some (.inl (some (.int 0)), σ) := (exec_eq PP 5 339 21 _ _ σ).trans rfl

/-! 340: ArchEndsLaw.road(LArchEnds;I[J)I -/
set_option maxRecDepth 20000 in
theorem r_340 (a0 : Nat) (x1 : Int32) (a2 : Nat) (σ : SH) : rn 340 [.ref a0, .int x1, .ref a2] σ =
  if sT σ a0 = 111 then (onI (rn 142 [.ref a0, .int x1] σ) (fun x23 σ21 =>
  uJ σ21 (.ref a2) 0 x23.toInt64 fun σ24 =>
    exec PP 5 340 15 [some (.ref a0), some (.int x1), some (.ref a2), none] [] σ24) (fun e22 σ21x => kxc (hndOf 340 4 e22) e22 σ21x)) else none := (exec_eq PP 5 340 0 _ _ σ).trans rfl
set_option maxRecDepth 20000 in
theorem e_340_15 (o0 : Option Value) (o1 : Option Value) (o2 : Option Value) (o3 : Option Value) (σ : SH) : exec PP 5 340 15 [o0, o1, o2, o3] [] σ =
  some (.inl (some (.int 0)), σ) := (exec_eq PP 5 340 15 _ _ σ).trans rfl

/-! 341: ArchEndsLaw.insure(LArchEnds;I[J)I -/
set_option maxRecDepth 20000 in
theorem r_341 (a0 : Nat) (x1 : Int32) (a2 : Nat) (σ : SH) : rn 341 [.ref a0, .int x1, .ref a2] σ =
  if sT σ a0 = 111 then (onI (rn 143 [.ref a0, .int x1] σ) (fun x23 σ21 =>
  uJ σ21 (.ref a2) 0 x23.toInt64 fun σ24 =>
    exec PP 5 341 18 [some (.ref a0), some (.int x1), some (.ref a2), none] [] σ24) (fun e22 σ21x => kxc (hndOf 341 4 e22) e22 σ21x)) else none := (exec_eq PP 5 341 0 _ _ σ).trans rfl
set_option maxRecDepth 20000 in
theorem e_341_18 (o0 : Option Value) (o1 : Option Value) (o2 : Option Value) (o3 : Option Value) (σ : SH) : exec PP 5 341 18 [o0, o1, o2, o3] [] σ =
  some (.inl (some (.int 0)), σ) := (exec_eq PP 5 341 18 _ _ σ).trans rfl

/-! 342: ArchEndsLaw.minutes(LArchEnds;I[J)I -/
set_option maxRecDepth 20000 in
theorem r_342 (a0 : Nat) (x1 : Int32) (a2 : Nat) (σ : SH) : rn 342 [.ref a0, .int x1, .ref a2] σ =
  if sT σ a0 = 111 then (onI (rn 144 [.ref a0, .int x1] σ) (fun x23 σ21 =>
  uJ σ21 (.ref a2) 0 x23.toInt64 fun σ24 =>
    exec PP 8 342 15 [some (.ref a0), some (.int x1), some (.ref a2), none] [] σ24) (fun e22 σ21x => kxc (hndOf 342 4 e22) e22 σ21x)) else none := (exec_eq PP 8 342 0 _ _ σ).trans rfl
set_option maxRecDepth 20000 in
theorem e_342_15 (o0 : Option Value) (o1 : Option Value) (o2 : Option Value) (o3 : Option Value) (σ : SH) : exec PP 8 342 15 [o0, o1, o2, o3] [] σ =
  some (.inl (some (.int 0)), σ) := (exec_eq PP 8 342 15 _ _ σ).trans rfl

/-! 343: ArchEndsLaw.sun(LArchEnds;I[J)I -/
set_option maxRecDepth 20000 in
theorem r_343 (a0 : Nat) (x1 : Int32) (a2 : Nat) (σ : SH) : rn 343 [.ref a0, .int x1, .ref a2] σ =
  if sT σ a0 = 111 then (onI (rn 146 [.ref a0, .int x1] σ) (fun x23 σ21 =>
  uJ σ21 (.ref a2) 0 x23.toInt64 fun σ24 =>
    exec PP 4 343 15 [some (.ref a0), some (.int x1), some (.ref a2), none] [] σ24) (fun e22 σ21x => kxc (hndOf 343 4 e22) e22 σ21x)) else none := (exec_eq PP 4 343 0 _ _ σ).trans rfl
set_option maxRecDepth 20000 in
theorem e_343_15 (o0 : Option Value) (o1 : Option Value) (o2 : Option Value) (o3 : Option Value) (σ : SH) : exec PP 4 343 15 [o0, o1, o2, o3] [] σ =
  some (.inl (some (.int 0)), σ) := (exec_eq PP 4 343 15 _ _ σ).trans rfl

/-! 344: ArchEndsLaw.reach(LArchEnds;I[J)I -/
set_option maxRecDepth 20000 in
theorem r_344 (a0 : Nat) (x1 : Int32) (a2 : Nat) (σ : SH) : rn 344 [.ref a0, .int x1, .ref a2] σ =
  if sT σ a0 = 111 then (onI (rn 147 [.ref a0, .int x1] σ) (fun x23 σ21 =>
  uJ σ21 (.ref a2) 0 x23.toInt64 fun σ24 =>
    exec PP 4 344 15 [some (.ref a0), some (.int x1), some (.ref a2), none] [] σ24) (fun e22 σ21x => kxc (hndOf 344 4 e22) e22 σ21x)) else none := (exec_eq PP 4 344 0 _ _ σ).trans rfl
set_option maxRecDepth 20000 in
theorem e_344_15 (o0 : Option Value) (o1 : Option Value) (o2 : Option Value) (o3 : Option Value) (σ : SH) : exec PP 4 344 15 [o0, o1, o2, o3] [] σ =
  some (.inl (some (.int 0)), σ) := (exec_eq PP 4 344 15 _ _ σ).trans rfl

/-! 345: ArchEndsLaw.foot(LArchEnds;II[J)I -/
set_option maxRecDepth 20000 in
theorem r_345 (a0 : Nat) (x1 : Int32) (x2 : Int32) (a3 : Nat) (σ : SH) : rn 345 [.ref a0, .int x1, .int x2, .ref a3] σ =
  if sT σ a0 = 111 then (onI (rn 148 [.ref a0, .int x1, .int x2] σ) (fun x23 σ21 =>
  uJ σ21 (.ref a3) 0 x23.toInt64 fun σ24 =>
    exec PP 5 345 21 [some (.ref a0), some (.int x1), some (.int x2), some (.ref a3), none] [] σ24) (fun e22 σ21x => kxc (hndOf 345 5 e22) e22 σ21x)) else none := (exec_eq PP 5 345 0 _ _ σ).trans rfl
set_option maxRecDepth 20000 in
theorem e_345_21 (o0 : Option Value) (o1 : Option Value) (o2 : Option Value) (o3 : Option Value) (o4 : Option Value) (σ : SH) : exec PP 5 345 21 [o0, o1, o2, o3, o4] [] σ =
  some (.inl (some (.int 0)), σ) := (exec_eq PP 5 345 21 _ _ σ).trans rfl

/-! 346: ArchEndsLaw.arch(LArchEnds;II[J)I -/
set_option maxRecDepth 20000 in
theorem r_346 (a0 : Nat) (x1 : Int32) (x2 : Int32) (a3 : Nat) (σ : SH) : rn 346 [.ref a0, .int x1, .int x2, .ref a3] σ =
  if sT σ a0 = 111 then (onI (rn 149 [.ref a0, .int x1, .int x2] σ) (fun x23 σ21 =>
  if (x23 = 0 : Prop) then (exec PP 6 346 15 [some (.ref a0), some (.int x1), some (.int x2), some (.ref a3), none] [.int 0, .ref a3] σ21)
    else (exec PP 6 346 16 [some (.ref a0), some (.int x1), some (.int x2), some (.ref a3), none] [.long 1, .int 0, .ref a3] σ21)) (fun e22 σ21x => kxc (hndOf 346 5 e22) e22 σ21x)) else none := (exec_eq PP 6 346 0 _ _ σ).trans rfl
set_option maxRecDepth 20000 in
theorem e_346_15 (o0 : Option Value) (o1 : Option Value) (o2 : Option Value) (o3 : Option Value) (o4 : Option Value) (w0 : Int32) (b1 : Nat) (σ : SH) : exec PP 6 346 15 [o0, o1, o2, o3, o4] [.int w0, .ref b1] σ =
  uJ σ (.ref b1) w0 0 fun σ21 =>
  exec PP 6 346 28 [none, none, none, none, none] [] σ21 := (exec_eq PP 6 346 15 _ _ σ).trans rfl
set_option maxRecDepth 20000 in
theorem e_346_16 (o0 : Option Value) (o1 : Option Value) (o2 : Option Value) (o3 : Option Value) (o4 : Option Value) (v0 : Int64) (w1 : Int32) (b2 : Nat) (σ : SH) : exec PP 6 346 16 [o0, o1, o2, o3, o4] [.long v0, .int w1, .ref b2] σ =
  uJ σ (.ref b2) w1 v0 fun σ21 =>
  exec PP 6 346 28 [none, none, none, none, none] [] σ21 := (exec_eq PP 6 346 16 _ _ σ).trans rfl
set_option maxRecDepth 20000 in
theorem e_346_28 (o0 : Option Value) (o1 : Option Value) (o2 : Option Value) (o3 : Option Value) (o4 : Option Value) (σ : SH) : exec PP 6 346 28 [o0, o1, o2, o3, o4] [] σ =
  some (.inl (some (.int 0)), σ) := (exec_eq PP 6 346 28 _ _ σ).trans rfl

/-! 347: ArchEndsLaw.wets(LArchEnds;II[J)I -/
set_option maxRecDepth 20000 in
theorem r_347 (a0 : Nat) (x1 : Int32) (x2 : Int32) (a3 : Nat) (σ : SH) : rn 347 [.ref a0, .int x1, .int x2, .ref a3] σ =
  if sT σ a0 = 111 then (onI (rn 150 [.ref a0, .int x1, .int x2] σ) (fun x23 σ21 =>
  uJ σ21 (.ref a3) 0 x23.toInt64 fun σ24 =>
    exec PP 4 347 21 [some (.ref a0), some (.int x1), some (.int x2), some (.ref a3), none] [] σ24) (fun e22 σ21x => kxc (hndOf 347 5 e22) e22 σ21x)) else none := (exec_eq PP 4 347 0 _ _ σ).trans rfl
set_option maxRecDepth 20000 in
theorem e_347_21 (o0 : Option Value) (o1 : Option Value) (o2 : Option Value) (o3 : Option Value) (o4 : Option Value) (σ : SH) : exec PP 4 347 21 [o0, o1, o2, o3, o4] [] σ =
  some (.inl (some (.int 0)), σ) := (exec_eq PP 4 347 21 _ _ σ).trans rfl

/-! 348: ArchEndsLaw.looks(LArchEnds;II[J)I -/
set_option maxRecDepth 20000 in
theorem r_348 (a0 : Nat) (x1 : Int32) (x2 : Int32) (a3 : Nat) (σ : SH) : rn 348 [.ref a0, .int x1, .int x2, .ref a3] σ =
  if sT σ a0 = 111 then (onI (rn 151 [.ref a0, .int x1, .int x2] σ) (fun x23 σ21 =>
  uJ σ21 (.ref a3) 0 x23.toInt64 fun σ24 =>
    exec PP 7 348 21 [some (.ref a0), some (.int x1), some (.int x2), some (.ref a3), none] [] σ24) (fun e22 σ21x => kxc (hndOf 348 5 e22) e22 σ21x)) else none := (exec_eq PP 7 348 0 _ _ σ).trans rfl
set_option maxRecDepth 20000 in
theorem e_348_21 (o0 : Option Value) (o1 : Option Value) (o2 : Option Value) (o3 : Option Value) (o4 : Option Value) (σ : SH) : exec PP 7 348 21 [o0, o1, o2, o3, o4] [] σ =
  some (.inl (some (.int 0)), σ) := (exec_eq PP 7 348 21 _ _ σ).trans rfl

/-! 349: ArchEndsLaw.stands(LArchEnds;III[J)I -/
set_option maxRecDepth 20000 in
theorem r_349 (a0 : Nat) (x1 : Int32) (x2 : Int32) (x3 : Int32) (a4 : Nat) (σ : SH) : rn 349 [.ref a0, .int x1, .int x2, .int x3, .ref a4] σ =
  if sT σ a0 = 111 then (onI (rn 152 [.ref a0, .int x1, .int x2, .int x3] σ) (fun x23 σ21 =>
  uJ σ21 (.ref a4) 0 x23.toInt64 fun σ24 =>
    exec PP 7 349 23 [some (.ref a0), some (.int x1), some (.int x2), some (.int x3), some (.ref a4), none] [] σ24) (fun e22 σ21x => kxc (hndOf 349 7 e22) e22 σ21x)) else none := (exec_eq PP 7 349 0 _ _ σ).trans rfl
set_option maxRecDepth 20000 in
theorem e_349_23 (o0 : Option Value) (o1 : Option Value) (o2 : Option Value) (o3 : Option Value) (o4 : Option Value) (o5 : Option Value) (σ : SH) : exec PP 7 349 23 [o0, o1, o2, o3, o4, o5] [] σ =
  some (.inl (some (.int 0)), σ) := (exec_eq PP 7 349 23 _ _ σ).trans rfl

/-! 350: ArchEndsLaw.best(LArchEnds;II[J)I -/
set_option maxRecDepth 20000 in
theorem r_350 (a0 : Nat) (x1 : Int32) (x2 : Int32) (a3 : Nat) (σ : SH) : rn 350 [.ref a0, .int x1, .int x2, .ref a3] σ =
  if sT σ a0 = 111 then (onI (rn 153 [.ref a0, .int x1, .int x2] σ) (fun x23 σ21 =>
  uJ σ21 (.ref a3) 0 x23.toInt64 fun σ24 =>
    exec PP 7 350 17 [some (.ref a0), some (.int x1), some (.int x2), some (.ref a3), none] [] σ24) (fun e22 σ21x => kxc (hndOf 350 5 e22) e22 σ21x)) else none := (exec_eq PP 7 350 0 _ _ σ).trans rfl
set_option maxRecDepth 20000 in
theorem e_350_17 (o0 : Option Value) (o1 : Option Value) (o2 : Option Value) (o3 : Option Value) (o4 : Option Value) (σ : SH) : exec PP 7 350 17 [o0, o1, o2, o3, o4] [] σ =
  some (.inl (some (.int 0)), σ) := (exec_eq PP 7 350 17 _ _ σ).trans rfl

/-! 351: ArchEndsLaw.first(LArchEnds;II[J)I -/
set_option maxRecDepth 20000 in
theorem r_351 (a0 : Nat) (x1 : Int32) (x2 : Int32) (a3 : Nat) (σ : SH) : rn 351 [.ref a0, .int x1, .int x2, .ref a3] σ =
  if sT σ a0 = 111 then (onI (rn 154 [.ref a0, .int x1, .int x2] σ) (fun x23 σ21 =>
  uJ σ21 (.ref a3) 0 x23.toInt64 fun σ24 =>
    exec PP 7 351 21 [some (.ref a0), some (.int x1), some (.int x2), some (.ref a3), none] [] σ24) (fun e22 σ21x => kxc (hndOf 351 5 e22) e22 σ21x)) else none := (exec_eq PP 7 351 0 _ _ σ).trans rfl
set_option maxRecDepth 20000 in
theorem e_351_21 (o0 : Option Value) (o1 : Option Value) (o2 : Option Value) (o3 : Option Value) (o4 : Option Value) (σ : SH) : exec PP 7 351 21 [o0, o1, o2, o3, o4] [] σ =
  some (.inl (some (.int 0)), σ) := (exec_eq PP 7 351 21 _ _ σ).trans rfl

/-! 352: ArchEndsLaw.site(LArchEnds;III[J)I -/
set_option maxRecDepth 20000 in
theorem r_352 (a0 : Nat) (x1 : Int32) (x2 : Int32) (x3 : Int32) (a4 : Nat) (σ : SH) : rn 352 [.ref a0, .int x1, .int x2, .int x3, .ref a4] σ =
  if sT σ a0 = 111 then (onI (rn 155 [.ref a0, .int x1, .int x2, .int x3] σ) (fun x23 σ21 =>
  uJ σ21 (.ref a4) 0 x23.toInt64 fun σ24 =>
    exec PP 7 352 23 [some (.ref a0), some (.int x1), some (.int x2), some (.int x3), some (.ref a4), none] [] σ24) (fun e22 σ21x => kxc (hndOf 352 7 e22) e22 σ21x)) else none := (exec_eq PP 7 352 0 _ _ σ).trans rfl
set_option maxRecDepth 20000 in
theorem e_352_23 (o0 : Option Value) (o1 : Option Value) (o2 : Option Value) (o3 : Option Value) (o4 : Option Value) (o5 : Option Value) (σ : SH) : exec PP 7 352 23 [o0, o1, o2, o3, o4, o5] [] σ =
  some (.inl (some (.int 0)), σ) := (exec_eq PP 7 352 23 _ _ σ).trans rfl

/-! 353: ArchEndsLaw.odds(LArchEnds;II[J)I -/
set_option maxRecDepth 20000 in
theorem r_353 (a0 : Nat) (x1 : Int32) (x2 : Int32) (a3 : Nat) (σ : SH) : rn 353 [.ref a0, .int x1, .int x2, .ref a3] σ =
  if sT σ a0 = 111 then (onI (rn 156 [.ref a0, .int x1, .int x2] σ) (fun x23 σ21 =>
  uJ σ21 (.ref a3) 0 x23.toInt64 fun σ24 =>
    exec PP 4 353 21 [some (.ref a0), some (.int x1), some (.int x2), some (.ref a3), none] [] σ24) (fun e22 σ21x => kxc (hndOf 353 5 e22) e22 σ21x)) else none := (exec_eq PP 4 353 0 _ _ σ).trans rfl
set_option maxRecDepth 20000 in
theorem e_353_21 (o0 : Option Value) (o1 : Option Value) (o2 : Option Value) (o3 : Option Value) (o4 : Option Value) (σ : SH) : exec PP 4 353 21 [o0, o1, o2, o3, o4] [] σ =
  some (.inl (some (.int 0)), σ) := (exec_eq PP 4 353 21 _ _ σ).trans rfl

/-! 354: ArchEndsLaw.hope(LArchEnds;I[J)I -/
set_option maxRecDepth 20000 in
theorem r_354 (a0 : Nat) (x1 : Int32) (a2 : Nat) (σ : SH) : rn 354 [.ref a0, .int x1, .ref a2] σ =
  if sT σ a0 = 111 then (onI (rn 157 [.ref a0, .int x1] σ) (fun x23 σ21 =>
  uJ σ21 (.ref a2) 0 x23.toInt64 fun σ24 =>
    exec PP 6 354 15 [some (.ref a0), some (.int x1), some (.ref a2), none] [] σ24) (fun e22 σ21x => kxc (hndOf 354 4 e22) e22 σ21x)) else none := (exec_eq PP 6 354 0 _ _ σ).trans rfl
set_option maxRecDepth 20000 in
theorem e_354_15 (o0 : Option Value) (o1 : Option Value) (o2 : Option Value) (o3 : Option Value) (σ : SH) : exec PP 6 354 15 [o0, o1, o2, o3] [] σ =
  some (.inl (some (.int 0)), σ) := (exec_eq PP 6 354 15 _ _ σ).trans rfl

/-! 355: ArchEndsLaw.gain(LArchEnds;II[J)I -/
set_option maxRecDepth 20000 in
theorem r_355 (a0 : Nat) (x1 : Int32) (x2 : Int32) (a3 : Nat) (σ : SH) : rn 355 [.ref a0, .int x1, .int x2, .ref a3] σ =
  if sT σ a0 = 111 then (onI (rn 158 [.ref a0, .int x1, .int x2] σ) (fun x23 σ21 =>
  uJ σ21 (.ref a3) 0 x23.toInt64 fun σ24 =>
    exec PP 7 355 17 [some (.ref a0), some (.int x1), some (.int x2), some (.ref a3), none] [] σ24) (fun e22 σ21x => kxc (hndOf 355 5 e22) e22 σ21x)) else none := (exec_eq PP 7 355 0 _ _ σ).trans rfl
set_option maxRecDepth 20000 in
theorem e_355_17 (o0 : Option Value) (o1 : Option Value) (o2 : Option Value) (o3 : Option Value) (o4 : Option Value) (σ : SH) : exec PP 7 355 17 [o0, o1, o2, o3, o4] [] σ =
  some (.inl (some (.int 0)), σ) := (exec_eq PP 7 355 17 _ _ σ).trans rfl

/-! 356: ArchEndsLaw.deals(LArchEnds;IZ[J)I -/
set_option maxRecDepth 20000 in
theorem r_356 (a0 : Nat) (x1 : Int32) (x2 : Int32) (a3 : Nat) (σ : SH) : rn 356 [.ref a0, .int x1, .int x2, .ref a3] σ =
  if sT σ a0 = 111 then (onI (rn 159 [.ref a0, .int x1, .int x2] σ) (fun x23 σ21 =>
  uJ σ21 (.ref a3) 0 x23.toInt64 fun σ24 =>
    exec PP 8 356 17 [some (.ref a0), some (.int x1), some (.int x2), some (.ref a3), none] [] σ24) (fun e22 σ21x => kxc (hndOf 356 5 e22) e22 σ21x)) else none := (exec_eq PP 8 356 0 _ _ σ).trans rfl
set_option maxRecDepth 20000 in
theorem e_356_17 (o0 : Option Value) (o1 : Option Value) (o2 : Option Value) (o3 : Option Value) (o4 : Option Value) (σ : SH) : exec PP 8 356 17 [o0, o1, o2, o3, o4] [] σ =
  some (.inl (some (.int 0)), σ) := (exec_eq PP 8 356 17 _ _ σ).trans rfl

/-! 357: ArchEndsLaw.meet(LArchEnds;II[J)I -/
set_option maxRecDepth 20000 in
theorem r_357 (a0 : Nat) (x1 : Int32) (x2 : Int32) (a3 : Nat) (σ : SH) : rn 357 [.ref a0, .int x1, .int x2, .ref a3] σ =
  if sT σ a0 = 111 then (onI (rn 160 [.ref a0, .int x1, .int x2] σ) (fun x23 σ21 =>
  uJ σ21 (.ref a3) 0 x23.toInt64 fun σ24 =>
    exec PP 5 357 21 [some (.ref a0), some (.int x1), some (.int x2), some (.ref a3), none] [] σ24) (fun e22 σ21x => kxc (hndOf 357 5 e22) e22 σ21x)) else none := (exec_eq PP 5 357 0 _ _ σ).trans rfl
set_option maxRecDepth 20000 in
theorem e_357_21 (o0 : Option Value) (o1 : Option Value) (o2 : Option Value) (o3 : Option Value) (o4 : Option Value) (σ : SH) : exec PP 5 357 21 [o0, o1, o2, o3, o4] [] σ =
  some (.inl (some (.int 0)), σ) := (exec_eq PP 5 357 21 _ _ σ).trans rfl

/-! 358: ArchEndsLaw.send(LArchEnds;I[J)I -/
set_option maxRecDepth 20000 in
theorem r_358 (a0 : Nat) (x1 : Int32) (a2 : Nat) (σ : SH) : rn 358 [.ref a0, .int x1, .ref a2] σ =
  if sT σ a0 = 111 then (onI (rn 162 [.ref a0, .int x1] σ) (fun x23 σ21 =>
  uJ σ21 (.ref a2) 0 x23.toInt64 fun σ24 =>
    exec PP 7 358 18 [some (.ref a0), some (.int x1), some (.ref a2), none] [] σ24) (fun e22 σ21x => kxc (hndOf 358 4 e22) e22 σ21x)) else none := (exec_eq PP 7 358 0 _ _ σ).trans rfl
set_option maxRecDepth 20000 in
theorem e_358_18 (o0 : Option Value) (o1 : Option Value) (o2 : Option Value) (o3 : Option Value) (σ : SH) : exec PP 7 358 18 [o0, o1, o2, o3] [] σ =
  some (.inl (some (.int 0)), σ) := (exec_eq PP 7 358 18 _ _ σ).trans rfl

/-! 359: ArchEndsLaw.rush(LArchEnds;I[J)I -/
set_option maxRecDepth 20000 in
theorem r_359 (a0 : Nat) (x1 : Int32) (a2 : Nat) (σ : SH) : rn 359 [.ref a0, .int x1, .ref a2] σ =
  if sT σ a0 = 111 then (onI (rn 163 [.ref a0, .int x1] σ) (fun x23 σ21 =>
  uJ σ21 (.ref a2) 0 x23.toInt64 fun σ24 =>
    exec PP 5 359 15 [some (.ref a0), some (.int x1), some (.ref a2), none] [] σ24) (fun e22 σ21x => kxc (hndOf 359 4 e22) e22 σ21x)) else none := (exec_eq PP 5 359 0 _ _ σ).trans rfl
set_option maxRecDepth 20000 in
theorem e_359_15 (o0 : Option Value) (o1 : Option Value) (o2 : Option Value) (o3 : Option Value) (σ : SH) : exec PP 5 359 15 [o0, o1, o2, o3] [] σ =
  some (.inl (some (.int 0)), σ) := (exec_eq PP 5 359 15 _ _ σ).trans rfl

/-! 360: ArchEndsLaw.seen(LArchEnds;IZ[J)I -/
set_option maxRecDepth 20000 in
theorem r_360 (a0 : Nat) (x1 : Int32) (x2 : Int32) (a3 : Nat) (σ : SH) : rn 360 [.ref a0, .int x1, .int x2, .ref a3] σ =
  if sT σ a0 = 111 then (onI (rn 164 [.ref a0, .int x1, .int x2] σ) (fun x23 σ21 =>
  uJ σ21 (.ref a3) 0 x23.toInt64 fun σ24 =>
    exec PP 6 360 17 [some (.ref a0), some (.int x1), some (.int x2), some (.ref a3), none] [] σ24) (fun e22 σ21x => kxc (hndOf 360 5 e22) e22 σ21x)) else none := (exec_eq PP 6 360 0 _ _ σ).trans rfl
set_option maxRecDepth 20000 in
theorem e_360_17 (o0 : Option Value) (o1 : Option Value) (o2 : Option Value) (o3 : Option Value) (o4 : Option Value) (σ : SH) : exec PP 6 360 17 [o0, o1, o2, o3, o4] [] σ =
  some (.inl (some (.int 0)), σ) := (exec_eq PP 6 360 17 _ _ σ).trans rfl

/-! 361: ArchEndsLaw.ask(LArchEnds;I[J)I -/
set_option maxRecDepth 20000 in
theorem r_361 (a0 : Nat) (x1 : Int32) (a2 : Nat) (σ : SH) : rn 361 [.ref a0, .int x1, .ref a2] σ =
  if sT σ a0 = 111 then (onI (rn 166 [.ref a0, .int x1] σ) (fun x23 σ21 =>
  uJ σ21 (.ref a2) 0 x23.toInt64 fun σ24 =>
    exec PP 6 361 15 [some (.ref a0), some (.int x1), some (.ref a2), none] [] σ24) (fun e22 σ21x => kxc (hndOf 361 4 e22) e22 σ21x)) else none := (exec_eq PP 6 361 0 _ _ σ).trans rfl
set_option maxRecDepth 20000 in
theorem e_361_15 (o0 : Option Value) (o1 : Option Value) (o2 : Option Value) (o3 : Option Value) (σ : SH) : exec PP 6 361 15 [o0, o1, o2, o3] [] σ =
  some (.inl (some (.int 0)), σ) := (exec_eq PP 6 361 15 _ _ σ).trans rfl

/-! 362: ArchEndsLaw.spray(LArchEnds;I[J)I -/
set_option maxRecDepth 20000 in
theorem r_362 (a0 : Nat) (x1 : Int32) (a2 : Nat) (σ : SH) : rn 362 [.ref a0, .int x1, .ref a2] σ =
  if sT σ a0 = 111 then (onI (rn 167 [.ref a0, .int x1] σ) (fun x23 σ21 =>
  uJ σ21 (.ref a2) 0 x23.toInt64 fun σ24 =>
    exec PP 6 362 15 [some (.ref a0), some (.int x1), some (.ref a2), none] [] σ24) (fun e22 σ21x => kxc (hndOf 362 4 e22) e22 σ21x)) else none := (exec_eq PP 6 362 0 _ _ σ).trans rfl
set_option maxRecDepth 20000 in
theorem e_362_15 (o0 : Option Value) (o1 : Option Value) (o2 : Option Value) (o3 : Option Value) (σ : SH) : exec PP 6 362 15 [o0, o1, o2, o3] [] σ =
  some (.inl (some (.int 0)), σ) := (exec_eq PP 6 362 15 _ _ σ).trans rfl

/-! 363: ArchEndsLaw.both(LArchEnds;IIII[J)I -/
set_option maxRecDepth 20000 in
theorem r_363 (a0 : Nat) (x1 : Int32) (x2 : Int32) (x3 : Int32) (x4 : Int32) (a5 : Nat) (σ : SH) : rn 363 [.ref a0, .int x1, .int x2, .int x3, .int x4, .ref a5] σ =
  if sT σ a0 = 111 then (onI (rn 168 [.ref a0, .int x1, .int x2, .int x3, .int x4] σ) (fun x23 σ21 =>
  uJ σ21 (.ref a5) 0 x23.toInt64 fun σ24 =>
    exec PP 7 363 25 [some (.ref a0), some (.int x1), some (.int x2), some (.int x3), some (.int x4), some (.ref a5), none] [] σ24) (fun e22 σ21x => kxc (hndOf 363 9 e22) e22 σ21x)) else none := (exec_eq PP 7 363 0 _ _ σ).trans rfl
set_option maxRecDepth 20000 in
theorem e_363_25 (o0 : Option Value) (o1 : Option Value) (o2 : Option Value) (o3 : Option Value) (o4 : Option Value) (o5 : Option Value) (o6 : Option Value) (σ : SH) : exec PP 7 363 25 [o0, o1, o2, o3, o4, o5, o6] [] σ =
  some (.inl (some (.int 0)), σ) := (exec_eq PP 7 363 25 _ _ σ).trans rfl

/-! 364: ArchEndsLaw.rests(LArchEnds;IIII[J)I -/
set_option maxRecDepth 20000 in
theorem r_364 (a0 : Nat) (x1 : Int32) (x2 : Int32) (x3 : Int32) (x4 : Int32) (a5 : Nat) (σ : SH) : rn 364 [.ref a0, .int x1, .int x2, .int x3, .int x4, .ref a5] σ =
  if sT σ a0 = 111 then (onI (rn 169 [.ref a0, .int x1, .int x2, .int x3, .int x4] σ) (fun x23 σ21 =>
  uJ σ21 (.ref a5) 0 x23.toInt64 fun σ24 =>
    exec PP 7 364 25 [some (.ref a0), some (.int x1), some (.int x2), some (.int x3), some (.int x4), some (.ref a5), none] [] σ24) (fun e22 σ21x => kxc (hndOf 364 9 e22) e22 σ21x)) else none := (exec_eq PP 7 364 0 _ _ σ).trans rfl
set_option maxRecDepth 20000 in
theorem e_364_25 (o0 : Option Value) (o1 : Option Value) (o2 : Option Value) (o3 : Option Value) (o4 : Option Value) (o5 : Option Value) (o6 : Option Value) (σ : SH) : exec PP 7 364 25 [o0, o1, o2, o3, o4, o5, o6] [] σ =
  some (.inl (some (.int 0)), σ) := (exec_eq PP 7 364 25 _ _ σ).trans rfl

/-! 365: ArchEndsLaw.row(LArchEnds;III[J)I -/
set_option maxRecDepth 20000 in
theorem r_365 (a0 : Nat) (x1 : Int32) (x2 : Int32) (x3 : Int32) (a4 : Nat) (σ : SH) : rn 365 [.ref a0, .int x1, .int x2, .int x3, .ref a4] σ =
  if sT σ a0 = 111 then (onI (rn 170 [.ref a0, .int x1, .int x2, .int x3] σ) (fun x23 σ21 =>
  uJ σ21 (.ref a4) 0 x23.toInt64 fun σ24 =>
    exec PP 7 365 19 [some (.ref a0), some (.int x1), some (.int x2), some (.int x3), some (.ref a4), none] [] σ24) (fun e22 σ21x => kxc (hndOf 365 7 e22) e22 σ21x)) else none := (exec_eq PP 7 365 0 _ _ σ).trans rfl
set_option maxRecDepth 20000 in
theorem e_365_19 (o0 : Option Value) (o1 : Option Value) (o2 : Option Value) (o3 : Option Value) (o4 : Option Value) (o5 : Option Value) (σ : SH) : exec PP 7 365 19 [o0, o1, o2, o3, o4, o5] [] σ =
  some (.inl (some (.int 0)), σ) := (exec_eq PP 7 365 19 _ _ σ).trans rfl

/-! 366: ArchEndsLaw.ahead(LArchEnds;II[J)I -/
set_option maxRecDepth 20000 in
theorem r_366 (a0 : Nat) (x1 : Int32) (x2 : Int32) (a3 : Nat) (σ : SH) : rn 366 [.ref a0, .int x1, .int x2, .ref a3] σ =
  if sT σ a0 = 111 then (onI (rn 171 [.ref a0, .int x1, .int x2] σ) (fun x23 σ21 =>
  uJ σ21 (.ref a3) 0 x23.toInt64 fun σ24 =>
    exec PP 8 366 21 [some (.ref a0), some (.int x1), some (.int x2), some (.ref a3), none] [] σ24) (fun e22 σ21x => kxc (hndOf 366 5 e22) e22 σ21x)) else none := (exec_eq PP 8 366 0 _ _ σ).trans rfl
set_option maxRecDepth 20000 in
theorem e_366_21 (o0 : Option Value) (o1 : Option Value) (o2 : Option Value) (o3 : Option Value) (o4 : Option Value) (σ : SH) : exec PP 8 366 21 [o0, o1, o2, o3, o4] [] σ =
  some (.inl (some (.int 0)), σ) := (exec_eq PP 8 366 21 _ _ σ).trans rfl

/-! 367: ArchEndsLaw.trial(LArchEnds;IZ[J)I -/
set_option maxRecDepth 20000 in
theorem r_367 (a0 : Nat) (x1 : Int32) (x2 : Int32) (a3 : Nat) (σ : SH) : rn 367 [.ref a0, .int x1, .int x2, .ref a3] σ =
  if sT σ a0 = 111 then (onI (rn 172 [.ref a0, .int x1, .int x2] σ) (fun x23 σ21 =>
  uJ σ21 (.ref a3) 0 x23.toInt64 fun σ24 =>
    exec PP 9 367 17 [some (.ref a0), some (.int x1), some (.int x2), some (.ref a3), none] [] σ24) (fun e22 σ21x => kxc (hndOf 367 5 e22) e22 σ21x)) else none := (exec_eq PP 9 367 0 _ _ σ).trans rfl
set_option maxRecDepth 20000 in
theorem e_367_17 (o0 : Option Value) (o1 : Option Value) (o2 : Option Value) (o3 : Option Value) (o4 : Option Value) (σ : SH) : exec PP 9 367 17 [o0, o1, o2, o3, o4] [] σ =
  some (.inl (some (.int 0)), σ) := (exec_eq PP 9 367 17 _ _ σ).trans rfl

/-! 368: ArchEndsLaw.span(LArchEnds;IZ[J)I -/
set_option maxRecDepth 20000 in
theorem r_368 (a0 : Nat) (x1 : Int32) (x2 : Int32) (a3 : Nat) (σ : SH) : rn 368 [.ref a0, .int x1, .int x2, .ref a3] σ =
  if sT σ a0 = 111 then (onI (rn 174 [.ref a0, .int x1, .int x2] σ) (fun x23 σ21 =>
  uJ σ21 (.ref a3) 0 x23.toInt64 fun σ24 =>
    exec PP 9 368 17 [some (.ref a0), some (.int x1), some (.int x2), some (.ref a3), none] [] σ24) (fun e22 σ21x => kxc (hndOf 368 5 e22) e22 σ21x)) else none := (exec_eq PP 9 368 0 _ _ σ).trans rfl
set_option maxRecDepth 20000 in
theorem e_368_17 (o0 : Option Value) (o1 : Option Value) (o2 : Option Value) (o3 : Option Value) (o4 : Option Value) (σ : SH) : exec PP 9 368 17 [o0, o1, o2, o3, o4] [] σ =
  some (.inl (some (.int 0)), σ) := (exec_eq PP 9 368 17 _ _ σ).trans rfl

/-! 369: ArchEndsLaw.led(LArchEnds;IZ[J)I -/
set_option maxRecDepth 20000 in
theorem r_369 (a0 : Nat) (x1 : Int32) (x2 : Int32) (a3 : Nat) (σ : SH) : rn 369 [.ref a0, .int x1, .int x2, .ref a3] σ =
  if sT σ a0 = 111 then (onI (rn 175 [.ref a0, .int x1, .int x2] σ) (fun x23 σ21 =>
  uJ σ21 (.ref a3) 0 x23.toInt64 fun σ24 =>
    exec PP 4 369 17 [some (.ref a0), some (.int x1), some (.int x2), some (.ref a3), none] [] σ24) (fun e22 σ21x => kxc (hndOf 369 5 e22) e22 σ21x)) else none := (exec_eq PP 4 369 0 _ _ σ).trans rfl
set_option maxRecDepth 20000 in
theorem e_369_17 (o0 : Option Value) (o1 : Option Value) (o2 : Option Value) (o3 : Option Value) (o4 : Option Value) (σ : SH) : exec PP 4 369 17 [o0, o1, o2, o3, o4] [] σ =
  some (.inl (some (.int 0)), σ) := (exec_eq PP 4 369 17 _ _ σ).trans rfl

/-! 370: ArchEndsLaw.log(LArchEnds;II[J)I -/
set_option maxRecDepth 20000 in
theorem r_370 (a0 : Nat) (x1 : Int32) (x2 : Int32) (a3 : Nat) (σ : SH) : rn 370 [.ref a0, .int x1, .int x2, .ref a3] σ =
  if sT σ a0 = 111 then (onI (rn 176 [.ref a0, .int x1, .int x2] σ) (fun x23 σ21 =>
  uJ σ21 (.ref a3) 0 x23.toInt64 fun σ24 =>
    exec PP 3 370 17 [some (.ref a0), some (.int x1), some (.int x2), some (.ref a3), none] [] σ24) (fun e22 σ21x => kxc (hndOf 370 5 e22) e22 σ21x)) else none := (exec_eq PP 3 370 0 _ _ σ).trans rfl
set_option maxRecDepth 20000 in
theorem e_370_17 (o0 : Option Value) (o1 : Option Value) (o2 : Option Value) (o3 : Option Value) (o4 : Option Value) (σ : SH) : exec PP 3 370 17 [o0, o1, o2, o3, o4] [] σ =
  some (.inl (some (.int 0)), σ) := (exec_eq PP 3 370 17 _ _ σ).trans rfl
