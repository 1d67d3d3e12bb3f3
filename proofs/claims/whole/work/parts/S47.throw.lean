/-! 'throw new E(text)', E one of five classes whose constructor hands its text on: the first by a place of its own in its class's pool, the others by 7 -/
def tx_b (X : String) (ix : Nat) (rx : ByteArray) (Y : String) (r : List String) : List Cond :=
  Bundle.throwableAtoms ++ (Bundle.throwableSAtoms ++ (Bundle.passSAtoms X Y ix rx ++ (Bundle.chainSAtoms Y r ++
  [.instantiable X 6, .selects X Bundle.tFill0 Bundle.tFill0, .selects X Bundle.tFill Bundle.tFill,
   .lays X Bundle.tN "cause" "Ljava/lang/Throwable;", .lays X Bundle.tN "stackTrace" Bundle.steD, .lays X Bundle.tN "suppressedExceptions" Bundle.listD, .lays X Bundle.tN "detailMessage" "Ljava/lang/String;",
   .isRef (.static Bundle.tN "UNASSIGNED_STACK" Bundle.steD), .isRef (.static Bundle.tN "SUPPRESSED_SENTINEL" Bundle.listD),
   .fieldLink Bundle.tN 198 Bundle.tN "backtrace" "Ljava/lang/Object;", .lays Bundle.tN Bundle.tN "backtrace" "Ljava/lang/Object;", .lays X Bundle.tN "backtrace" "Ljava/lang/Object;"])))
def tex_at (own : String) (ic : Nat) (X : String) (ix : Nat) (rx : ByteArray) (Y : String) (r : List String) : List Cond := .methodLink own ic (Bundle.initS X) :: tx_b X ix rx Y r
def sx : ByteArray := ⟨#[0x2a, 0x2b, 0xb7, 0x00, 0x0d, 0xb1]⟩
def ixOf (x : Nat) : Nat := if x = 3 then 13 else 7
def rxOf (x : Nat) : ByteArray := if x = 3 then sx else Bundle.six
def tx_w (x : Nat) : List Cond := (tx_b (eN x) (ixOf x) (rxOf x) "java/lang/RuntimeException" ["java/lang/Exception"]).filter vx_no
/-- a good word, or one of a declared method -/
def gdW (w : Cond) : Bool := match w with
  | .declares _ => true
  | w => goodWord w
theorem gd_at {l : Launch} {D : SD} {s : State} {args : Array Value} {w : Cond} (hW : Wld l D) (hs : D.1.WarmedH s.vm) (hm : w ∈ lw_tbl) (hg : gdW w = true) : w.before args s = true := by
  have h := hW.2.1 w hm
  unfold gdW at hg
  split at hg
  · exact va_Nw.use rfl (va_Nw.warmD hs (va_Nw.of rfl h))
  · exact word_at hs (good_of_word hg) h
theorem tx_0 : (tx_w 0).all (fun w => lw_tbl.contains w && gdW w) = true := by decide +kernel
theorem tx_1 : (tx_w 1).all (fun w => lw_tbl.contains w && gdW w) = true := by decide +kernel
theorem tx_2 : (tx_w 2).all (fun w => lw_tbl.contains w && gdW w) = true := by decide +kernel
theorem tx_3 : (tx_w 3).all (fun w => lw_tbl.contains w && gdW w) = true := by decide +kernel
theorem tx_4 : (tx_w 4).all (fun w => lw_tbl.contains w && gdW w) = true := by decide +kernel
theorem tx_all {l : Launch} {D : SD} {s : State} {args : Array Value} {x : Nat} (hW : Wld l D) (hs : D.1.WarmedH s.vm) (hx : x < 5) : ∀ w ∈ tx_w x, w.before args s = true := by
  have go : (tx_w x).all (fun w => lw_tbl.contains w && gdW w) = true := by
    match x, hx with
    | 0, _ => exact tx_0
    | 1, _ => exact tx_1
    | 2, _ => exact tx_2
    | 3, _ => exact tx_3
    | 4, _ => exact tx_4
  intro w hw
  have h := List.all_eq_true.mp go w hw
  rw [Bool.and_eq_true] at h
  exact gd_at hW hs (List.contains_iff_mem.mp h.1) h.2
