/-! SM's first heap -/
def g0T (a : Nat) : Nat := if a < 38 then 109 else if a = 38 then 6 else if a < 40 then 0 else if a < 78 then 113 else if a < 80 then 0 else if a < 118 then 5 else if a < 120 then 0 else if a < 149 then 113 else if a < 150 then 0 else if a < 179 then 5 else if a = 199 then 4 else 0
def g0N (L a : Nat) : Nat := if a = 38 then 38 else if a < 118 then (stE (a - 80)).2.2.length else if a < 179 then (stE (38 + (a - 150))).2.2.length else L
def g0I (xs : Nat → Int32) (a k : Nat) : Int32 := if a < 38 then (if k = 1 then nthD sgC a 0 else 0) else if a < 80 then 0 else if a < 118 then nthD (stE (a - 80)).2.2 k 0 else if a < 150 then 0 else if a < 179 then nthD (stE (38 + (a - 150))).2.2 k 0 else if a = 199 then xs k else 0
def g0V (a k : Nat) : Value := if a < 38 then .ref (40 + a) else if a = 38 then .ref k else if a < 40 then .null else if a < 78 then .ref (a + 40) else if a < 120 then .null else if a < 149 then .ref (a + 30) else .null
def g0 (L : Nat) (xs : Nat → Int32) : SH := (g0I xs, g0V, fun _ _ => 0, g0T, g0N L, 200, 0)
