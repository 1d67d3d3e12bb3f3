/-! THE TOP: SM runs the law to 1 -/
section I0
variable {Lx : Nat} {xs : Nat → Int32}
theorem Ti.up {n : Nat} {σ : SH} (h : Ti Lx xs n σ) : Ti Lx xs (n + 1) σ := ⟨h.1, h.2.1, h.2.2.1, by have := h.2.2.2.1; omega, by have := h.2.2.2.2; omega⟩
theorem run_step (hL : Lx ≤ 3072) {σ : SH} {i n : Nat} (hi : i + 6 ≤ Lx) (ti : Ti Lx xs n σ) : ∃ σ', exec PP 65 371 23 (LL i) [] σ = exec PP 65 371 3376 (LL i) [] σ' ∧ Ti Lx xs (n + 1) σ' := by
  have sc := ti.2.2.1
  have e6 : (6 : Int32).toInt = 6 := by decide
  have s6 : (nI Lx - 6).toInt = (Lx : Int) - 6 := by rw [tS] <;> rw [tnI (by omega), e6] <;> omega
  have nlt : ¬ nI Lx - 6 < nI i := by rw [tlt, s6, tnI (by omega)]; omega
  have r0 : ∀ c : Int32 → SR, aI σ 4 (.ref 199) (nI i) c = c (xs i) := fun c => by rw [aI_r sc.1 (by rw [sc.2.1]; omega) (by rw [sc.2.1]; omega), sc.2.2]
  unfold LL
  rw [e_371_23, aN_r (n := Lx) (by rw [sc.1]; decide) sc.2.1, if_neg nlt, r0]
  by_cases z0 : (xs i &&& 63) = 0
  · rw [if_pos z0]; exact c_268 hL σ i n hi ti
  rw [if_neg z0]
  by_cases z1 : (xs i &&& 63) = 1
  · rw [if_pos z1]; exact c_341 hL σ i n hi ti
  rw [if_neg z1]
  by_cases z2 : (xs i &&& 63) = 2
  · rw [if_pos z2]; exact c_366 hL σ i n hi ti
  rw [if_neg z2]
  by_cases z3 : (xs i &&& 63) = 3
  · rw [if_pos z3]; exact c_410 hL σ i n hi ti
  rw [if_neg z3]
  by_cases z4 : (xs i &&& 63) = 4
  · rw [if_pos z4]; exact c_454 hL σ i n hi ti
  rw [if_neg z4]
  by_cases z5 : (xs i &&& 63) = 5
  · rw [if_pos z5]; exact c_467 hL σ i n hi ti
  rw [if_neg z5]
  by_cases z6 : (xs i &&& 63) = 6
  · rw [if_pos z6]; exact c_535 hL σ i n hi ti
  rw [if_neg z6]
  by_cases z7 : (xs i &&& 63) = 7
  · rw [if_pos z7]; exact c_603 hL σ i n hi ti
  rw [if_neg z7]
  by_cases z8 : (xs i &&& 63) = 8
  · rw [if_pos z8]; exact c_671 hL σ i n hi ti
  rw [if_neg z8]
  by_cases z9 : (xs i &&& 63) = 9
  · rw [if_pos z9]; exact c_739 hL σ i n hi ti
  rw [if_neg z9]
  by_cases z10 : (xs i &&& 63) = 10
  · rw [if_pos z10]; exact c_819 hL σ i n hi ti
  rw [if_neg z10]
  by_cases z11 : (xs i &&& 63) = 11
  · rw [if_pos z11]; exact c_887 hL σ i n hi ti
  rw [if_neg z11]
  by_cases z12 : (xs i &&& 63) = 12
  · rw [if_pos z12]; exact c_955 hL σ i n hi ti
  rw [if_neg z12]
  by_cases z13 : (xs i &&& 63) = 13
  · rw [if_pos z13]; exact c_1023 hL σ i n hi ti
  rw [if_neg z13]
  by_cases z14 : (xs i &&& 63) = 14
  · rw [if_pos z14]; exact c_1091 hL σ i n hi ti
  rw [if_neg z14]
  by_cases z15 : (xs i &&& 63) = 15
  · rw [if_pos z15]; exact c_1147 hL σ i n hi ti
  rw [if_neg z15]
  by_cases z16 : (xs i &&& 63) = 16
  · rw [if_pos z16]; exact c_1203 hL σ i n hi ti
  rw [if_neg z16]
  by_cases z17 : (xs i &&& 63) = 17
  · rw [if_pos z17]; exact c_1259 hL σ i n hi ti
  rw [if_neg z17]
  by_cases z18 : (xs i &&& 63) = 18
  · rw [if_pos z18]; exact c_1315 hL σ i n hi ti
  rw [if_neg z18]
  by_cases z19 : (xs i &&& 63) = 19
  · rw [if_pos z19]; exact c_1371 hL σ i n hi ti
  rw [if_neg z19]
  by_cases z20 : (xs i &&& 63) = 20
  · rw [if_pos z20]; exact c_1439 hL σ i n hi ti
  rw [if_neg z20]
  by_cases z21 : (xs i &&& 63) = 21
  · rw [if_pos z21]; exact c_1514 hL σ i n hi ti
  rw [if_neg z21]
  by_cases z22 : (xs i &&& 63) = 22
  · rw [if_pos z22]; exact c_1582 hL σ i n hi ti
  rw [if_neg z22]
  by_cases z23 : (xs i &&& 63) = 23
  · rw [if_pos z23]; exact c_1650 hL σ i n hi ti
  rw [if_neg z23]
  by_cases z24 : (xs i &&& 63) = 24
  · rw [if_pos z24]; exact c_1730 hL σ i n hi ti
  rw [if_neg z24]
  by_cases z25 : (xs i &&& 63) = 25
  · rw [if_pos z25]; exact c_1798 hL σ i n hi ti
  rw [if_neg z25]
  by_cases z26 : (xs i &&& 63) = 26
  · rw [if_pos z26]; exact c_1866 hL σ i n hi ti
  rw [if_neg z26]
  by_cases z27 : (xs i &&& 63) = 27
  · rw [if_pos z27]; exact c_1946 hL σ i n hi ti
  rw [if_neg z27]
  by_cases z28 : (xs i &&& 63) = 28
  · rw [if_pos z28]; exact c_2014 hL σ i n hi ti
  rw [if_neg z28]
  by_cases z29 : (xs i &&& 63) = 29
  · rw [if_pos z29]; exact c_2070 hL σ i n hi ti
  rw [if_neg z29]
  by_cases z30 : (xs i &&& 63) = 30
  · rw [if_pos z30]; exact c_2138 hL σ i n hi ti
  rw [if_neg z30]
  by_cases z31 : (xs i &&& 63) = 31
  · rw [if_pos z31]; exact c_2222 hL σ i n hi ti
  rw [if_neg z31]
  by_cases z32 : (xs i &&& 63) = 32
  · rw [if_pos z32]; exact c_2290 hL σ i n hi ti
  rw [if_neg z32]
  by_cases z33 : (xs i &&& 63) = 33
  · rw [if_pos z33]; exact c_2346 hL σ i n hi ti
  rw [if_neg z33]
  by_cases z34 : (xs i &&& 63) = 34
  · rw [if_pos z34]; exact c_2402 hL σ i n hi ti
  rw [if_neg z34]
  by_cases z35 : (xs i &&& 63) = 35
  · rw [if_pos z35]; exact c_2486 hL σ i n hi ti
  rw [if_neg z35]
  by_cases z36 : (xs i &&& 63) = 36
  · rw [if_pos z36]; exact c_2542 hL σ i n hi ti
  rw [if_neg z36]
  by_cases z37 : (xs i &&& 63) = 37
  · rw [if_pos z37]; exact c_2598 hL σ i n hi ti
  rw [if_neg z37]
  by_cases z38 : (xs i &&& 63) = 38
  · rw [if_pos z38]; exact c_2690 hL σ i n hi ti
  rw [if_neg z38]
  by_cases z39 : (xs i &&& 63) = 39
  · rw [if_pos z39]; exact c_2782 hL σ i n hi ti
  rw [if_neg z39]
  by_cases z40 : (xs i &&& 63) = 40
  · rw [if_pos z40]; exact c_2862 hL σ i n hi ti
  rw [if_neg z40]
  by_cases z41 : (xs i &&& 63) = 41
  · rw [if_pos z41]; exact c_2875 hL σ i n hi ti
  rw [if_neg z41]
  by_cases z42 : (xs i &&& 63) = 42
  · rw [if_pos z42]; exact c_2888 hL σ i n hi ti
  rw [if_neg z42]
  by_cases z43 : (xs i &&& 63) = 43
  · rw [if_pos z43]; exact c_2901 hL σ i n hi ti
  rw [if_neg z43]
  by_cases z44 : (xs i &&& 63) = 44
  · rw [if_pos z44]; exact c_2969 hL σ i n hi ti
  rw [if_neg z44]
  by_cases z45 : (xs i &&& 63) = 45
  · rw [if_pos z45]; exact c_3053 hL σ i n hi ti
  rw [if_neg z45]
  by_cases z46 : (xs i &&& 63) = 46
  · rw [if_pos z46]; exact c_3137 hL σ i n hi ti
  rw [if_neg z46]
  by_cases z47 : (xs i &&& 63) = 47
  · rw [if_pos z47]; exact c_3221 hL σ i n hi ti
  rw [if_neg z47]
  by_cases z48 : (xs i &&& 63) = 48
  · rw [if_pos z48]; exact c_3289 hL σ i n hi ti
  rw [if_neg z48]
  by_cases z49 : (xs i &&& 63) = 49
  · rw [if_pos z49]; exact c_3314 hL σ i n hi ti
  rw [if_neg z49]
  by_cases z50 : (xs i &&& 63) = 50
  · rw [if_pos z50]; exact c_3327 hL σ i n hi ti
  rw [if_neg z50]
  by_cases z51 : (xs i &&& 63) = 51
  · rw [if_pos z51]; exact c_3338 hL σ i n hi ti
  rw [if_neg z51]
  by_cases z52 : (xs i &&& 63) = 52
  · rw [if_pos z52]; exact c_3351 hL σ i n hi ti
  rw [if_neg z52]
  exact ⟨σ, rfl, ti.up⟩
theorem run_end (hL : Lx ≤ 3072) {σ : SH} {i n : Nat} (hi : Lx < i + 6) (hi2 : i ≤ 3072) (ti : Ti Lx xs n σ) : exec PP 65 371 23 (LL i) [] σ = some (.inl (some (.int 1)), σ) := by
  have sc := ti.2.2.1
  have e6 : (6 : Int32).toInt = 6 := by decide
  have s6 : (nI Lx - 6).toInt = (Lx : Int) - 6 := by rw [tS] <;> rw [tnI (by omega), e6] <;> omega
  have lt : nI Lx - 6 < nI i := by rw [tlt, s6, tnI (by omega)]; omega
  unfold LL
  rw [e_371_23, aN_r (n := Lx) (by rw [sc.1]; decide) sc.2.1, if_pos lt, e_371_3382]
theorem run_all (hL : Lx ≤ 3072) : ∀ (m n : Nat) (σ : SH), Lx < 6 * n + 6 * m + 6 → n ≤ 512 → Ti Lx xs n σ → ∃ σf, exec PP 65 371 23 (LL (6 * n)) [] σ = some (.inl (some (.int 1)), σf) ∧ sZ σf ≤ 624 + 6 * 512 ∧ sS σf ≤ 18361 + 900 * 512
  | 0, n, σ, h, hn, ti => ⟨σ, run_end hL (by omega) (by omega) ti, by have := ti.2.2.2.1; omega, by have := ti.2.2.2.2; omega⟩
  | m + 1, n, σ, h, hn, ti => by
    by_cases z : Lx < 6 * n + 6
    · exact ⟨σ, run_end hL z (by omega) ti, by have := ti.2.2.2.1; omega, by have := ti.2.2.2.2; omega⟩
    · obtain ⟨σ', e, ti'⟩ := run_step hL (i := 6 * n) (by omega) ti
      obtain ⟨σf, e2, b⟩ := run_all hL m (n + 1) σ' (by omega) (by omega) ti'
      refine ⟨σf, ?_, b⟩
      rw [e]
      unfold LL
      rw [e_371_3376, show nI (6 * n) + 6 = nI (6 * (n + 1)) from nI_add (6 * n) 6]
      exact e2
theorem g0_sta : StA (g0 Lx xs) := by
  have T : ∀ a, sT (g0 Lx xs) a = g0T a := fun _ => rfl
  have N : ∀ a, sN (g0 Lx xs) a = g0N Lx a := fun _ => rfl
  have V : ∀ a k, sV (g0 Lx xs) a k = g0V a k := fun _ _ => rfl
  have I : ∀ a k, sI (g0 Lx xs) a k = g0I xs a k := fun _ _ => rfl
  refine ⟨⟨rfl, rfl, fun i hi => ?_⟩, fun i hi => ⟨⟨?_, ?_, ?_⟩, ?_, ?_, ?_, ?_, ?_, fun k => ?_⟩, fun i hi => ⟨?_, ?_, ?_, ?_, ?_, fun k => ?_⟩⟩
  · rw [V]; unfold g0V; rw [if_neg (by omega), if_pos rfl]
  · rw [T]; unfold g0T; rw [if_pos hi]
  · rw [I]; unfold g0I; rw [if_pos hi, if_pos rfl]
  · rw [V]; unfold g0V; rw [if_pos hi]
  · rw [T]; unfold g0T; rw [if_neg (by omega), if_neg (by omega), if_neg (by omega), if_pos (by omega)]
  · rw [V]; unfold g0V; rw [if_neg (by omega), if_neg (by omega), if_neg (by omega), if_pos (by omega), show 40 + i + 40 = 80 + i by omega]
  · rw [I]; unfold g0I; rw [if_neg (by omega), if_pos (by omega)]
  · rw [T]; unfold g0T; rw [if_neg (by omega), if_neg (by omega), if_neg (by omega), if_neg (by omega), if_neg (by omega), if_pos (by omega)]
  · rw [N]; unfold g0N; rw [if_neg (by omega), if_pos (by omega), show 80 + i - 80 = i by omega]; rfl
  · rw [I]; unfold g0I; rw [if_neg (by omega), if_neg (by omega), if_pos (by omega), show 80 + i - 80 = i by omega]; rfl
  · rw [T]; unfold g0T; rw [if_neg (by omega), if_neg (by omega), if_neg (by omega), if_neg (by omega), if_neg (by omega), if_neg (by omega), if_neg (by omega), if_pos (by omega)]
  · rw [V]; unfold g0V; rw [if_neg (by omega), if_neg (by omega), if_neg (by omega), if_neg (by omega), if_neg (by omega), if_pos (by omega), show 120 + i + 30 = 150 + i by omega]
  · rw [I]; unfold g0I; rw [if_neg (by omega), if_neg (by omega), if_neg (by omega), if_pos (by omega)]
  · rw [T]; unfold g0T; rw [if_neg (by omega), if_neg (by omega), if_neg (by omega), if_neg (by omega), if_neg (by omega), if_neg (by omega), if_neg (by omega), if_neg (by omega), if_neg (by omega), if_pos (by omega)]
  · rw [N]; unfold g0N; rw [if_neg (by omega), if_neg (by omega), if_pos (by omega), show 38 + (150 + i - 150) = 38 + i by omega]; rfl
  · rw [I]; unfold g0I; rw [if_neg (by omega), if_neg (by omega), if_neg (by omega), if_neg (by omega), if_pos (by omega), show 38 + (150 + i - 150) = 38 + i by omega]; rfl
theorem g0_sc : Sc Lx xs (g0 Lx xs) := ⟨rfl, rfl, fun k => rfl⟩
theorem sm_run (hL : Lx ≤ 3072) : ∃ σf : SH, rn 371 [.ref 199] (g0 Lx xs) = some (.inl (some (.int 1)), σf) ∧ sZ σf ≤ 200 + 690594 ∧ sS σf ≤ 7024322 := by
  have sta := g0_sta (Lx := Lx) (xs := xs)
  have Z0 : sZ (g0 Lx xs) = 200 := rfl
  have S0 : sS (g0 Lx xs) = 0 := rfl
  obtain ⟨F1, F2, e1, z1, e2, z2, c, r, lo, z3, s3⟩ := begin0 (σ := g0 Lx xs) Z0 (fun s hs => ⟨(sta.2.1 s hs).1.1, (sta.2.1 s hs).1.2.1⟩)
  have ti : Ti Lx xs 0 (mkC F2 3 1 1) := ⟨⟨W0, L0, X0, c, r⟩, sta.lo lo, g0_sc.lo lo, by omega, by rw [s3, S0]; omega⟩
  obtain ⟨σf, e3, b1, b2⟩ := run_all hL 512 0 _ (by omega) (by omega) ti
  refine ⟨σf, ?_, by omega, by omega⟩
  rw [r_371, Z0, if_neg (by omega), e1, onV_i, z1, if_neg (by omega), e2, onV_i, show (1 : Int32) = nI 1 from rfl, nwA_r (by omega), z2]
  exact e3
end I0
