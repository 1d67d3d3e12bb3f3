theorem okRs_ap2 {mi z : Nat} {nx : Option Nat} {a b : List (Nat × Instr)} {pa pb : List Nat} (hb : okRs mi nx b pb = true) (hz : b.head?.map (fun q => q.1 % 100000) = some z) (hl : pa.length = a.length) (ha : okRs mi (some z) a pa = true) : okRs mi nx (a ++ b) (pa ++ pb) = true := by
  cases b with
  | nil => cases hz
  | cons q b =>
    have hq : q.1 % 100000 = z := Option.some.inj hz
    exact okRs_app mi nx q b pb hb a pa hl (by rw [hq]; exact ha)
def ps_43 : List Nat := po_371_43
theorem lwr_43 : okRs 371 none cs_43 ps_43 = true := okl_43
def ps_42 : List Nat := po_371_42 ++ ps_43
theorem lwr_42 : okRs 371 none cs_42 ps_42 = true := okRs_ap2 lwr_43 rfl rfl okl_42
def ps_41 : List Nat := po_371_41 ++ ps_42
theorem lwr_41 : okRs 371 none cs_41 ps_41 = true := okRs_ap2 lwr_42 rfl rfl okl_41
def ps_40 : List Nat := po_371_40 ++ ps_41
theorem lwr_40 : okRs 371 none cs_40 ps_40 = true := okRs_ap2 lwr_41 rfl rfl okl_40
def ps_39 : List Nat := po_371_39 ++ ps_40
theorem lwr_39 : okRs 371 none cs_39 ps_39 = true := okRs_ap2 lwr_40 rfl rfl okl_39
def ps_38 : List Nat := po_371_38 ++ ps_39
theorem lwr_38 : okRs 371 none cs_38 ps_38 = true := okRs_ap2 lwr_39 rfl rfl okl_38
def ps_37 : List Nat := po_371_37 ++ ps_38
theorem lwr_37 : okRs 371 none cs_37 ps_37 = true := okRs_ap2 lwr_38 rfl rfl okl_37
def ps_36 : List Nat := po_371_36 ++ ps_37
theorem lwr_36 : okRs 371 none cs_36 ps_36 = true := okRs_ap2 lwr_37 rfl rfl okl_36
def ps_35 : List Nat := po_371_35 ++ ps_36
theorem lwr_35 : okRs 371 none cs_35 ps_35 = true := okRs_ap2 lwr_36 rfl rfl okl_35
def ps_34 : List Nat := po_371_34 ++ ps_35
theorem lwr_34 : okRs 371 none cs_34 ps_34 = true := okRs_ap2 lwr_35 rfl rfl okl_34
def ps_33 : List Nat := po_371_33 ++ ps_34
theorem lwr_33 : okRs 371 none cs_33 ps_33 = true := okRs_ap2 lwr_34 rfl rfl okl_33
def ps_32 : List Nat := po_371_32 ++ ps_33
theorem lwr_32 : okRs 371 none cs_32 ps_32 = true := okRs_ap2 lwr_33 rfl rfl okl_32
def ps_31 : List Nat := po_371_31 ++ ps_32
theorem lwr_31 : okRs 371 none cs_31 ps_31 = true := okRs_ap2 lwr_32 rfl rfl okl_31
def ps_30 : List Nat := po_371_30 ++ ps_31
theorem lwr_30 : okRs 371 none cs_30 ps_30 = true := okRs_ap2 lwr_31 rfl rfl okl_30
def ps_29 : List Nat := po_371_29 ++ ps_30
theorem lwr_29 : okRs 371 none cs_29 ps_29 = true := okRs_ap2 lwr_30 rfl rfl okl_29
def ps_28 : List Nat := po_371_28 ++ ps_29
theorem lwr_28 : okRs 371 none cs_28 ps_28 = true := okRs_ap2 lwr_29 rfl rfl okl_28
def ps_27 : List Nat := po_371_27 ++ ps_28
theorem lwr_27 : okRs 371 none cs_27 ps_27 = true := okRs_ap2 lwr_28 rfl rfl okl_27
def ps_26 : List Nat := po_371_26 ++ ps_27
theorem lwr_26 : okRs 371 none cs_26 ps_26 = true := okRs_ap2 lwr_27 rfl rfl okl_26
def ps_25 : List Nat := po_371_25 ++ ps_26
theorem lwr_25 : okRs 371 none cs_25 ps_25 = true := okRs_ap2 lwr_26 rfl rfl okl_25
def ps_24 : List Nat := po_371_24 ++ ps_25
theorem lwr_24 : okRs 371 none cs_24 ps_24 = true := okRs_ap2 lwr_25 rfl rfl okl_24
def ps_23 : List Nat := po_371_23 ++ ps_24
theorem lwr_23 : okRs 371 none cs_23 ps_23 = true := okRs_ap2 lwr_24 rfl rfl okl_23
def ps_22 : List Nat := po_371_22 ++ ps_23
theorem lwr_22 : okRs 371 none cs_22 ps_22 = true := okRs_ap2 lwr_23 rfl rfl okl_22
def ps_21 : List Nat := po_371_21 ++ ps_22
theorem lwr_21 : okRs 371 none cs_21 ps_21 = true := okRs_ap2 lwr_22 rfl rfl okl_21
def ps_20 : List Nat := po_371_20 ++ ps_21
theorem lwr_20 : okRs 371 none cs_20 ps_20 = true := okRs_ap2 lwr_21 rfl rfl okl_20
def ps_19 : List Nat := po_371_19 ++ ps_20
theorem lwr_19 : okRs 371 none cs_19 ps_19 = true := okRs_ap2 lwr_20 rfl rfl okl_19
def ps_18 : List Nat := po_371_18 ++ ps_19
theorem lwr_18 : okRs 371 none cs_18 ps_18 = true := okRs_ap2 lwr_19 rfl rfl okl_18
def ps_17 : List Nat := po_371_17 ++ ps_18
theorem lwr_17 : okRs 371 none cs_17 ps_17 = true := okRs_ap2 lwr_18 rfl rfl okl_17
def ps_16 : List Nat := po_371_16 ++ ps_17
theorem lwr_16 : okRs 371 none cs_16 ps_16 = true := okRs_ap2 lwr_17 rfl rfl okl_16
def ps_15 : List Nat := po_371_15 ++ ps_16
theorem lwr_15 : okRs 371 none cs_15 ps_15 = true := okRs_ap2 lwr_16 rfl rfl okl_15
def ps_14 : List Nat := po_371_14 ++ ps_15
theorem lwr_14 : okRs 371 none cs_14 ps_14 = true := okRs_ap2 lwr_15 rfl rfl okl_14
def ps_13 : List Nat := po_371_13 ++ ps_14
theorem lwr_13 : okRs 371 none cs_13 ps_13 = true := okRs_ap2 lwr_14 rfl rfl okl_13
def ps_12 : List Nat := po_371_12 ++ ps_13
theorem lwr_12 : okRs 371 none cs_12 ps_12 = true := okRs_ap2 lwr_13 rfl rfl okl_12
def ps_11 : List Nat := po_371_11 ++ ps_12
theorem lwr_11 : okRs 371 none cs_11 ps_11 = true := okRs_ap2 lwr_12 rfl rfl okl_11
def ps_10 : List Nat := po_371_10 ++ ps_11
theorem lwr_10 : okRs 371 none cs_10 ps_10 = true := okRs_ap2 lwr_11 rfl rfl okl_10
def ps_9 : List Nat := po_371_9 ++ ps_10
theorem lwr_9 : okRs 371 none cs_9 ps_9 = true := okRs_ap2 lwr_10 rfl rfl okl_9
def ps_8 : List Nat := po_371_8 ++ ps_9
theorem lwr_8 : okRs 371 none cs_8 ps_8 = true := okRs_ap2 lwr_9 rfl rfl okl_8
def ps_7 : List Nat := po_371_7 ++ ps_8
theorem lwr_7 : okRs 371 none cs_7 ps_7 = true := okRs_ap2 lwr_8 rfl rfl okl_7
def ps_6 : List Nat := po_371_6 ++ ps_7
theorem lwr_6 : okRs 371 none cs_6 ps_6 = true := okRs_ap2 lwr_7 rfl rfl okl_6
def ps_5 : List Nat := po_371_5 ++ ps_6
theorem lwr_5 : okRs 371 none cs_5 ps_5 = true := okRs_ap2 lwr_6 rfl rfl okl_5
def ps_4 : List Nat := po_371_4 ++ ps_5
theorem lwr_4 : okRs 371 none cs_4 ps_4 = true := okRs_ap2 lwr_5 rfl rfl okl_4
def ps_3 : List Nat := po_371_3 ++ ps_4
theorem lwr_3 : okRs 371 none cs_3 ps_3 = true := okRs_ap2 lwr_4 rfl rfl okl_3
def ps_2 : List Nat := po_371_2 ++ ps_3
theorem lwr_2 : okRs 371 none cs_2 ps_2 = true := okRs_ap2 lwr_3 rfl rfl okl_2
def ps_1 : List Nat := po_371_1 ++ ps_2
theorem lwr_1 : okRs 371 none cs_1 ps_1 = true := okRs_ap2 lwr_2 rfl rfl okl_1
def ps_0 : List Nat := po_371_0 ++ ps_1
theorem lwr_0 : okRs 371 none cs_0 ps_0 = true := okRs_ap2 lwr_1 rfl rfl okl_0
set_option maxRecDepth 100000 in
theorem okA_lw : okMs 371 = true := by
  show okRs 371 none (nthD cdTab 371 []) (nthD poTab 371 []) = true
  rw [show nthD cdTab 371 [] = cs_0 from rfl, show nthD poTab 371 [] = ps_0 from rfl]
  exact lwr_0
theorem okM_all {k : Nat} (hk : k < 372) : okMs k = true := by
  rcases Nat.lt_or_ge k 371 with h | h
  · exact okA_371 k h
  · rw [show k = 371 by omega]; exact okA_lw
