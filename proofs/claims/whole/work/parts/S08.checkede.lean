set_option maxRecDepth 100000 in
theorem okl_22 : okRs 371 (some 1895) cd_371_22 po_371_22 = true := by decide +kernel
set_option maxRecDepth 100000 in
theorem okl_23 : okRs 371 (some 1966) cd_371_23 po_371_23 = true := by decide +kernel
set_option maxRecDepth 100000 in
theorem okl_24 : okRs 371 (some 2040) cd_371_24 po_371_24 = true := by decide +kernel
set_option maxRecDepth 100000 in
theorem okl_25 : okRs 371 (some 2116) cd_371_25 po_371_25 = true := by decide +kernel
set_option maxRecDepth 100000 in
theorem okl_26 : okRs 371 (some 2185) cd_371_26 po_371_26 = true := by decide +kernel
set_option maxRecDepth 100000 in
theorem okl_27 : okRs 371 (some 2254) cd_371_27 po_371_27 = true := by decide +kernel
set_option maxRecDepth 100000 in
theorem okl_28 : okRs 371 (some 2334) cd_371_28 po_371_28 = true := by decide +kernel
set_option maxRecDepth 100000 in
theorem okl_29 : okRs 371 (some 2407) cd_371_29 po_371_29 = true := by decide +kernel
set_option maxRecDepth 100000 in
theorem okl_30 : okRs 371 (some 2481) cd_371_30 po_371_30 = true := by decide +kernel
set_option maxRecDepth 100000 in
theorem okl_31 : okRs 371 (some 2553) cd_371_31 po_371_31 = true := by decide +kernel
set_option maxRecDepth 100000 in
theorem okl_32 : okRs 371 (some 2623) cd_371_32 po_371_32 = true := by decide +kernel
set_option maxRecDepth 100000 in
theorem okl_33 : okRs 371 (some 2695) cd_371_33 po_371_33 = true := by decide +kernel
set_option maxRecDepth 100000 in
theorem okl_34 : okRs 371 (some 2764) cd_371_34 po_371_34 = true := by decide +kernel
set_option maxRecDepth 100000 in
theorem okl_35 : okRs 371 (some 2831) cd_371_35 po_371_35 = true := by decide +kernel
set_option maxRecDepth 100000 in
theorem okl_36 : okRs 371 (some 2908) cd_371_36 po_371_36 = true := by decide +kernel
set_option maxRecDepth 100000 in
theorem okl_37 : okRs 371 (some 2980) cd_371_37 po_371_37 = true := by decide +kernel
set_option maxRecDepth 100000 in
theorem okl_38 : okRs 371 (some 3053) cd_371_38 po_371_38 = true := by decide +kernel
set_option maxRecDepth 100000 in
theorem okl_39 : okRs 371 (some 3125) cd_371_39 po_371_39 = true := by decide +kernel
set_option maxRecDepth 100000 in
theorem okl_40 : okRs 371 (some 3194) cd_371_40 po_371_40 = true := by decide +kernel
set_option maxRecDepth 100000 in
theorem okl_41 : okRs 371 (some 3268) cd_371_41 po_371_41 = true := by decide +kernel
set_option maxRecDepth 100000 in
theorem okl_42 : okRs 371 (some 3343) cd_371_42 po_371_42 = true := by decide +kernel
set_option maxRecDepth 100000 in
theorem okl_43 : okRs 371 (none) cd_371_43 po_371_43 = true := by decide +kernel
