set_option maxRecDepth 100000 in
theorem okl_0 : okRs 371 (some 294) cd_371_0 po_371_0 = true := by decide +kernel
set_option maxRecDepth 100000 in
theorem okl_1 : okRs 371 (some 361) cd_371_1 po_371_1 = true := by decide +kernel
set_option maxRecDepth 100000 in
theorem okl_2 : okRs 371 (some 444) cd_371_2 po_371_2 = true := by decide +kernel
set_option maxRecDepth 100000 in
theorem okl_3 : okRs 371 (some 517) cd_371_3 po_371_3 = true := by decide +kernel
set_option maxRecDepth 100000 in
theorem okl_4 : okRs 371 (some 590) cd_371_4 po_371_4 = true := by decide +kernel
set_option maxRecDepth 100000 in
theorem okl_5 : okRs 371 (some 662) cd_371_5 po_371_5 = true := by decide +kernel
set_option maxRecDepth 100000 in
theorem okl_6 : okRs 371 (some 735) cd_371_6 po_371_6 = true := by decide +kernel
set_option maxRecDepth 100000 in
theorem okl_7 : okRs 371 (some 805) cd_371_7 po_371_7 = true := by decide +kernel
set_option maxRecDepth 100000 in
theorem okl_8 : okRs 371 (some 877) cd_371_8 po_371_8 = true := by decide +kernel
set_option maxRecDepth 100000 in
theorem okl_9 : okRs 371 (some 950) cd_371_9 po_371_9 = true := by decide +kernel
set_option maxRecDepth 100000 in
theorem okl_10 : okRs 371 (some 1020) cd_371_10 po_371_10 = true := by decide +kernel
set_option maxRecDepth 100000 in
theorem okl_11 : okRs 371 (some 1092) cd_371_11 po_371_11 = true := by decide +kernel
set_option maxRecDepth 100000 in
theorem okl_12 : okRs 371 (some 1166) cd_371_12 po_371_12 = true := by decide +kernel
set_option maxRecDepth 100000 in
theorem okl_13 : okRs 371 (some 1246) cd_371_13 po_371_13 = true := by decide +kernel
set_option maxRecDepth 100000 in
theorem okl_14 : okRs 371 (some 1319) cd_371_14 po_371_14 = true := by decide +kernel
set_option maxRecDepth 100000 in
theorem okl_15 : okRs 371 (some 1392) cd_371_15 po_371_15 = true := by decide +kernel
set_option maxRecDepth 100000 in
theorem okl_16 : okRs 371 (some 1464) cd_371_16 po_371_16 = true := by decide +kernel
set_option maxRecDepth 100000 in
theorem okl_17 : okRs 371 (some 1537) cd_371_17 po_371_17 = true := by decide +kernel
set_option maxRecDepth 100000 in
theorem okl_18 : okRs 371 (some 1608) cd_371_18 po_371_18 = true := by decide +kernel
set_option maxRecDepth 100000 in
theorem okl_19 : okRs 371 (some 1680) cd_371_19 po_371_19 = true := by decide +kernel
set_option maxRecDepth 100000 in
theorem okl_20 : okRs 371 (some 1751) cd_371_20 po_371_20 = true := by decide +kernel
set_option maxRecDepth 100000 in
theorem okl_21 : okRs 371 (some 1823) cd_371_21 po_371_21 = true := by decide +kernel
