section H9
variable {Lx : Nat} {xs : Nat → Int32}
theorem c_1866 (hL : Lx ≤ 3072) : Cs Lx xs 1866 := fun σ i n hi ti => by
  obtain ⟨⟨W, L, x, hc, hr⟩, st, sc, -⟩ := id ti
  obtain ⟨k, v, σ1, τ2, e1, s1, t1, e2, t2, i2, hk, hj, ti2⟩ := OpT.w (fun y => y.toInt64) 352 7 (OpQ.op (op_site (hc.qq hr) (xs (i + 1)) (xs (i + 2)) (xs (i + 3))) hc hr).t ti (by omega) rfl
  refine ⟨τ2, ?_, ti2⟩
  have w : rn 352 [.ref 200, .int (xs (i + 1)), .int (xs (i + 2)), .int (xs (i + 3)), .ref 623] σ = some (.inl (some (.int (nI k))), σ1) := by
    rw [r_352, if_pos (tX hc.1.1)]
    simp only [e_352_23]
    exact e1
  try dsimp only at e2
  unfold LL
  rw [e_371_1866, sc.r 1 hL hi (by omega), sc.r 2 hL hi (by omega), sc.r 3 hL hi (by omega), w, onI_i, s1.r 1 hL hi (by omega), s1.r 2 hL hi (by omega), s1.r 3 hL hi (by omega), if_pos t1, e2, onI_i, if_pos t2, m_177 t2 i2, onI_i, if_pos rfl, e_371_1926]
  by_cases y : k = 0
  · rw [if_pos (nk0 y), hj y, if_pos (lcm_s _), e_371_1943]
  · rw [if_neg (nkn y hk), e_371_1943]
theorem c_1946 (hL : Lx ≤ 3072) : Cs Lx xs 1946 := fun σ i n hi ti => by
  obtain ⟨⟨W, L, x, hc, hr⟩, st, sc, -⟩ := id ti
  obtain ⟨k, v, σ1, τ2, e1, s1, t1, e2, t2, i2, hk, hj, ti2⟩ := OpT.w (fun y => y.toInt64) 353 5 (OpQ.op (op_odds (hc.qq hr) (xs (i + 1)) (xs (i + 2))) hc hr).t ti (by omega) rfl
  refine ⟨τ2, ?_, ti2⟩
  have w : rn 353 [.ref 200, .int (xs (i + 1)), .int (xs (i + 2)), .ref 623] σ = some (.inl (some (.int (nI k))), σ1) := by
    rw [r_353, if_pos (tX hc.1.1)]
    simp only [e_353_21]
    exact e1
  try dsimp only at e2
  unfold LL
  rw [e_371_1946, sc.r 1 hL hi (by omega), sc.r 2 hL hi (by omega), w, onI_i, s1.r 1 hL hi (by omega), s1.r 2 hL hi (by omega), if_pos t1, e2, onI_i, if_pos t2, m_177 t2 i2, onI_i, if_pos rfl, e_371_1994]
  by_cases y : k = 0
  · rw [if_pos (nk0 y), hj y, if_pos (lcm_s _), e_371_2011]
  · rw [if_neg (nkn y hk), e_371_2011]
theorem c_2014 (hL : Lx ≤ 3072) : Cs Lx xs 2014 := fun σ i n hi ti => by
  obtain ⟨⟨W, L, x, hc, hr⟩, st, sc, -⟩ := id ti
  obtain ⟨k, v, σ1, τ2, e1, s1, t1, e2, t2, i2, hk, hj, ti2⟩ := OpT.w (fun y => y.toInt64) 354 4 (OpQ.op (op_hope (hc.qq hr) (xs (i + 1))) hc hr).t ti (by omega) rfl
  refine ⟨τ2, ?_, ti2⟩
  have w : rn 354 [.ref 200, .int (xs (i + 1)), .ref 623] σ = some (.inl (some (.int (nI k))), σ1) := by
    rw [r_354, if_pos (tX hc.1.1)]
    simp only [e_354_15]
    exact e1
  try dsimp only at e2
  unfold LL
  rw [e_371_2014, sc.r 1 hL hi (by omega), w, onI_i, s1.r 1 hL hi (by omega), if_pos t1, e2, onI_i, if_pos t2, m_177 t2 i2, onI_i, if_pos rfl, e_371_2050]
  by_cases y : k = 0
  · rw [if_pos (nk0 y), hj y, if_pos (lcm_s _), e_371_2067]
  · rw [if_neg (nkn y hk), e_371_2067]
theorem c_2070 (hL : Lx ≤ 3072) : Cs Lx xs 2070 := fun σ i n hi ti => by
  obtain ⟨⟨W, L, x, hc, hr⟩, st, sc, -⟩ := id ti
  obtain ⟨k, v, σ1, τ2, e1, s1, t1, e2, t2, i2, hk, hj, ti2⟩ := OpT.w (fun y => y.toInt64) 355 5 (OpQ.op (op_gain (hc.qq hr) (xs (i + 1)) (xs (i + 2))) hc hr).t ti (by omega) rfl
  refine ⟨τ2, ?_, ti2⟩
  have w : rn 355 [.ref 200, .int (xs (i + 1)), .int (xs (i + 2)), .ref 623] σ = some (.inl (some (.int (nI k))), σ1) := by
    rw [r_355, if_pos (tX hc.1.1)]
    simp only [e_355_17]
    exact e1
  try dsimp only at e2
  unfold LL
  rw [e_371_2070, sc.r 1 hL hi (by omega), sc.r 2 hL hi (by omega), w, onI_i, s1.r 1 hL hi (by omega), s1.r 2 hL hi (by omega), if_pos t1, e2, onI_i, if_pos t2, m_177 t2 i2, onI_i, if_pos rfl, e_371_2118]
  by_cases y : k = 0
  · rw [if_pos (nk0 y), hj y, if_pos (lcm_s _), e_371_2135]
  · rw [if_neg (nkn y hk), e_371_2135]
theorem c_2138 (hL : Lx ≤ 3072) : Cs Lx xs 2138 := fun σ i n hi ti => by
  obtain ⟨⟨W, L, x, hc, hr⟩, st, sc, -⟩ := id ti
  by_cases z : xs (i + 2) = 0
  · obtain ⟨k, v, σ1, τ2, e1, s1, t1, e2, t2, i2, hk, hj, ti2⟩ := OpT.w (fun y => y.toInt64) 356 5 (OpQ.op (op_deals (hc.qq hr) (xs (i + 1)) 0) hc hr).t ti (by omega) rfl
    refine ⟨τ2, ?_, ti2⟩
    have w : rn 356 [.ref 200, .int (xs (i + 1)), .int 0, .ref 623] σ = some (.inl (some (.int (nI k))), σ1) := by
      rw [r_356, if_pos (tX hc.1.1)]
      simp only [e_356_17]
      exact e1
    try dsimp only at e2
    unfold LL
    rw [e_371_2138, sc.r 1 hL hi (by omega), sc.r 2 hL hi (by omega), if_pos z, e_371_2158, w, onI_i, s1.r 1 hL hi (by omega), s1.r 2 hL hi (by omega), if_pos z, e_371_2185, if_pos t1, e2, onI_i, if_pos t2, m_177 t2 i2, onI_i, if_pos rfl, e_371_2202]
    by_cases y : k = 0
    · rw [if_pos (nk0 y), hj y, if_pos (lcm_s _), e_371_2219]
    · rw [if_neg (nkn y hk), e_371_2219]
  · obtain ⟨k, v, σ1, τ2, e1, s1, t1, e2, t2, i2, hk, hj, ti2⟩ := OpT.w (fun y => y.toInt64) 356 5 (OpQ.op (op_deals (hc.qq hr) (xs (i + 1)) 1) hc hr).t ti (by omega) rfl
    refine ⟨τ2, ?_, ti2⟩
    have w : rn 356 [.ref 200, .int (xs (i + 1)), .int 1, .ref 623] σ = some (.inl (some (.int (nI k))), σ1) := by
      rw [r_356, if_pos (tX hc.1.1)]
      simp only [e_356_17]
      exact e1
    try dsimp only at e2
    unfold LL
    rw [e_371_2138, sc.r 1 hL hi (by omega), sc.r 2 hL hi (by omega), if_neg z, e_371_2159, w, onI_i, s1.r 1 hL hi (by omega), s1.r 2 hL hi (by omega), if_neg z, e_371_2186, if_pos t1, e2, onI_i, if_pos t2, m_177 t2 i2, onI_i, if_pos rfl, e_371_2202]
    by_cases y : k = 0
    · rw [if_pos (nk0 y), hj y, if_pos (lcm_s _), e_371_2219]
    · rw [if_neg (nkn y hk), e_371_2219]
theorem c_2222 (hL : Lx ≤ 3072) : Cs Lx xs 2222 := fun σ i n hi ti => by
  obtain ⟨⟨W, L, x, hc, hr⟩, st, sc, -⟩ := id ti
  obtain ⟨k, v, σ1, τ2, e1, s1, t1, e2, t2, i2, hk, hj, ti2⟩ := OpT.w (fun y => y.toInt64) 357 5 (OpQ.op (op_meet (hc.qq hr) (xs (i + 1)) (xs (i + 2))) hc hr).t ti (by omega) rfl
  refine ⟨τ2, ?_, ti2⟩
  have w : rn 357 [.ref 200, .int (xs (i + 1)), .int (xs (i + 2)), .ref 623] σ = some (.inl (some (.int (nI k))), σ1) := by
    rw [r_357, if_pos (tX hc.1.1)]
    simp only [e_357_21]
    exact e1
  try dsimp only at e2
  unfold LL
  rw [e_371_2222, sc.r 1 hL hi (by omega), sc.r 2 hL hi (by omega), w, onI_i, s1.r 1 hL hi (by omega), s1.r 2 hL hi (by omega), if_pos t1, e2, onI_i, if_pos t2, m_177 t2 i2, onI_i, if_pos rfl, e_371_2270]
  by_cases y : k = 0
  · rw [if_pos (nk0 y), hj y, if_pos (lcm_s _), e_371_2287]
  · rw [if_neg (nkn y hk), e_371_2287]
theorem c_2290 (hL : Lx ≤ 3072) : Cs Lx xs 2290 := fun σ i n hi ti => by
  obtain ⟨⟨W, L, x, hc, hr⟩, st, sc, -⟩ := id ti
  obtain ⟨k, v, σ1, τ2, e1, s1, t1, e2, t2, i2, hk, hj, ti2⟩ := OpT.w (fun y => y.toInt64) 358 4 (op_send hc hr (xs (i + 1))).t ti (by omega) rfl
  refine ⟨τ2, ?_, ti2⟩
  have w : rn 358 [.ref 200, .int (xs (i + 1)), .ref 623] σ = some (.inl (some (.int (nI k))), σ1) := by
    rw [r_358, if_pos (tX hc.1.1)]
    simp only [e_358_18]
    exact e1
  try dsimp only at e2
  unfold LL
  rw [e_371_2290, sc.r 1 hL hi (by omega), w, onI_i, s1.r 1 hL hi (by omega), if_pos t1, e2, onI_i, if_pos t2, m_177 t2 i2, onI_i, if_pos rfl, e_371_2326]
  by_cases y : k = 0
  · rw [if_pos (nk0 y), hj y, if_pos (lcm_s _), e_371_2343]
  · rw [if_neg (nkn y hk), e_371_2343]
theorem c_2346 (hL : Lx ≤ 3072) : Cs Lx xs 2346 := fun σ i n hi ti => by
  obtain ⟨⟨W, L, x, hc, hr⟩, st, sc, -⟩ := id ti
  obtain ⟨k, v, σ1, τ2, e1, s1, t1, e2, t2, i2, hk, hj, ti2⟩ := OpT.w (fun y => y.toInt64) 359 4 (OpQ.op (op_rush (hc.qq hr) (xs (i + 1))) hc hr).t ti (by omega) rfl
  refine ⟨τ2, ?_, ti2⟩
  have w : rn 359 [.ref 200, .int (xs (i + 1)), .ref 623] σ = some (.inl (some (.int (nI k))), σ1) := by
    rw [r_359, if_pos (tX hc.1.1)]
    simp only [e_359_15]
    exact e1
  try dsimp only at e2
  unfold LL
  rw [e_371_2346, sc.r 1 hL hi (by omega), w, onI_i, s1.r 1 hL hi (by omega), if_pos t1, e2, onI_i, if_pos t2, m_177 t2 i2, onI_i, if_pos rfl, e_371_2382]
  by_cases y : k = 0
  · rw [if_pos (nk0 y), hj y, if_pos (lcm_s _), e_371_2399]
  · rw [if_neg (nkn y hk), e_371_2399]
theorem c_2402 (hL : Lx ≤ 3072) : Cs Lx xs 2402 := fun σ i n hi ti => by
  obtain ⟨⟨W, L, x, hc, hr⟩, st, sc, -⟩ := id ti
  by_cases z : xs (i + 2) = 0
  · obtain ⟨k, v, σ1, τ2, e1, s1, t1, e2, t2, i2, hk, hj, ti2⟩ := OpT.w (fun y => y.toInt64) 360 5 (op_seen hc hr (xs (i + 1)) 0).t ti (by omega) rfl
    refine ⟨τ2, ?_, ti2⟩
    have w : rn 360 [.ref 200, .int (xs (i + 1)), .int 0, .ref 623] σ = some (.inl (some (.int (nI k))), σ1) := by
      rw [r_360, if_pos (tX hc.1.1)]
      simp only [e_360_17]
      exact e1
    try dsimp only at e2
    unfold LL
    rw [e_371_2402, sc.r 1 hL hi (by omega), sc.r 2 hL hi (by omega), if_pos z, e_371_2422, w, onI_i, s1.r 1 hL hi (by omega), s1.r 2 hL hi (by omega), if_pos z, e_371_2449, if_pos t1, e2, onI_i, if_pos t2, m_177 t2 i2, onI_i, if_pos rfl, e_371_2466]
    by_cases y : k = 0
    · rw [if_pos (nk0 y), hj y, if_pos (lcm_s _), e_371_2483]
    · rw [if_neg (nkn y hk), e_371_2483]
  · obtain ⟨k, v, σ1, τ2, e1, s1, t1, e2, t2, i2, hk, hj, ti2⟩ := OpT.w (fun y => y.toInt64) 360 5 (op_seen hc hr (xs (i + 1)) 1).t ti (by omega) rfl
    refine ⟨τ2, ?_, ti2⟩
    have w : rn 360 [.ref 200, .int (xs (i + 1)), .int 1, .ref 623] σ = some (.inl (some (.int (nI k))), σ1) := by
      rw [r_360, if_pos (tX hc.1.1)]
      simp only [e_360_17]
      exact e1
    try dsimp only at e2
    unfold LL
    rw [e_371_2402, sc.r 1 hL hi (by omega), sc.r 2 hL hi (by omega), if_neg z, e_371_2423, w, onI_i, s1.r 1 hL hi (by omega), s1.r 2 hL hi (by omega), if_neg z, e_371_2450, if_pos t1, e2, onI_i, if_pos t2, m_177 t2 i2, onI_i, if_pos rfl, e_371_2466]
    by_cases y : k = 0
    · rw [if_pos (nk0 y), hj y, if_pos (lcm_s _), e_371_2483]
    · rw [if_neg (nkn y hk), e_371_2483]
theorem c_2486 (hL : Lx ≤ 3072) : Cs Lx xs 2486 := fun σ i n hi ti => by
  obtain ⟨⟨W, L, x, hc, hr⟩, st, sc, -⟩ := id ti
  obtain ⟨k, v, σ1, τ2, e1, s1, t1, e2, t2, i2, hk, hj, ti2⟩ := OpT.w (fun y => y.toInt64) 361 4 (op_ask hc hr (xs (i + 1))).t ti (by omega) rfl
  refine ⟨τ2, ?_, ti2⟩
  have w : rn 361 [.ref 200, .int (xs (i + 1)), .ref 623] σ = some (.inl (some (.int (nI k))), σ1) := by
    rw [r_361, if_pos (tX hc.1.1)]
    simp only [e_361_15]
    exact e1
  try dsimp only at e2
  unfold LL
  rw [e_371_2486, sc.r 1 hL hi (by omega), w, onI_i, s1.r 1 hL hi (by omega), if_pos t1, e2, onI_i, if_pos t2, m_177 t2 i2, onI_i, if_pos rfl, e_371_2522]
  by_cases y : k = 0
  · rw [if_pos (nk0 y), hj y, if_pos (lcm_s _), e_371_2539]
  · rw [if_neg (nkn y hk), e_371_2539]
theorem c_2542 (hL : Lx ≤ 3072) : Cs Lx xs 2542 := fun σ i n hi ti => by
  obtain ⟨⟨W, L, x, hc, hr⟩, st, sc, -⟩ := id ti
  obtain ⟨k, v, σ1, τ2, e1, s1, t1, e2, t2, i2, hk, hj, ti2⟩ := OpT.w (fun y => y.toInt64) 362 4 (OpQ.op (op_spray (hc.qq hr) (xs (i + 1))) hc hr).t ti (by omega) rfl
  refine ⟨τ2, ?_, ti2⟩
  have w : rn 362 [.ref 200, .int (xs (i + 1)), .ref 623] σ = some (.inl (some (.int (nI k))), σ1) := by
    rw [r_362, if_pos (tX hc.1.1)]
    simp only [e_362_15]
    exact e1
  try dsimp only at e2
  unfold LL
  rw [e_371_2542, sc.r 1 hL hi (by omega), w, onI_i, s1.r 1 hL hi (by omega), if_pos t1, e2, onI_i, if_pos t2, m_177 t2 i2, onI_i, if_pos rfl, e_371_2578]
  by_cases y : k = 0
  · rw [if_pos (nk0 y), hj y, if_pos (lcm_s _), e_371_2595]
  · rw [if_neg (nkn y hk), e_371_2595]
theorem c_2598 (hL : Lx ≤ 3072) : Cs Lx xs 2598 := fun σ i n hi ti => by
  obtain ⟨⟨W, L, x, hc, hr⟩, st, sc, -⟩ := id ti
  obtain ⟨k, v, σ1, τ2, e1, s1, t1, e2, t2, i2, hk, hj, ti2⟩ := OpT.w (fun y => y.toInt64) 363 9 (OpQ.op (op_both (hc.qq hr) (xs (i + 1)) (xs (i + 2)) (xs (i + 3)) (xs (i + 4))) hc hr).t ti (by omega) rfl
  refine ⟨τ2, ?_, ti2⟩
  have w : rn 363 [.ref 200, .int (xs (i + 1)), .int (xs (i + 2)), .int (xs (i + 3)), .int (xs (i + 4)), .ref 623] σ = some (.inl (some (.int (nI k))), σ1) := by
    rw [r_363, if_pos (tX hc.1.1)]
    simp only [e_363_25]
    exact e1
  try dsimp only at e2
  unfold LL
  rw [e_371_2598, sc.r 1 hL hi (by omega), sc.r 2 hL hi (by omega), sc.r 3 hL hi (by omega), sc.r 4 hL hi (by omega), w, onI_i, s1.r 1 hL hi (by omega), s1.r 2 hL hi (by omega), s1.r 3 hL hi (by omega), s1.r 4 hL hi (by omega), if_pos t1, e2, onI_i, if_pos t2, m_177 t2 i2, onI_i, if_pos rfl, e_371_2670]
  by_cases y : k = 0
  · rw [if_pos (nk0 y), hj y, if_pos (lcm_s _), e_371_2687]
  · rw [if_neg (nkn y hk), e_371_2687]
theorem c_2690 (hL : Lx ≤ 3072) : Cs Lx xs 2690 := fun σ i n hi ti => by
  obtain ⟨⟨W, L, x, hc, hr⟩, st, sc, -⟩ := id ti
  obtain ⟨k, v, σ1, τ2, e1, s1, t1, e2, t2, i2, hk, hj, ti2⟩ := OpT.w (fun y => y.toInt64) 364 9 (OpQ.op (op_rests (hc.qq hr) (xs (i + 1)) (xs (i + 2)) (xs (i + 3)) (xs (i + 4))) hc hr).t ti (by omega) rfl
  refine ⟨τ2, ?_, ti2⟩
  have w : rn 364 [.ref 200, .int (xs (i + 1)), .int (xs (i + 2)), .int (xs (i + 3)), .int (xs (i + 4)), .ref 623] σ = some (.inl (some (.int (nI k))), σ1) := by
    rw [r_364, if_pos (tX hc.1.1)]
    simp only [e_364_25]
    exact e1
  try dsimp only at e2
  unfold LL
  rw [e_371_2690, sc.r 1 hL hi (by omega), sc.r 2 hL hi (by omega), sc.r 3 hL hi (by omega), sc.r 4 hL hi (by omega), w, onI_i, s1.r 1 hL hi (by omega), s1.r 2 hL hi (by omega), s1.r 3 hL hi (by omega), s1.r 4 hL hi (by omega), if_pos t1, e2, onI_i, if_pos t2, m_177 t2 i2, onI_i, if_pos rfl, e_371_2762]
  by_cases y : k = 0
  · rw [if_pos (nk0 y), hj y, if_pos (lcm_s _), e_371_2779]
  · rw [if_neg (nkn y hk), e_371_2779]
theorem c_2782 (hL : Lx ≤ 3072) : Cs Lx xs 2782 := fun σ i n hi ti => by
  obtain ⟨⟨W, L, x, hc, hr⟩, st, sc, -⟩ := id ti
  obtain ⟨k, v, σ1, τ2, e1, s1, t1, e2, t2, i2, hk, hj, ti2⟩ := OpT.w (fun y => y.toInt64) 365 7 (OpQ.op (op_row (hc.qq hr) (xs (i + 1)) (xs (i + 2)) (xs (i + 3))) hc hr).t ti (by omega) rfl
  refine ⟨τ2, ?_, ti2⟩
  have w : rn 365 [.ref 200, .int (xs (i + 1)), .int (xs (i + 2)), .int (xs (i + 3)), .ref 623] σ = some (.inl (some (.int (nI k))), σ1) := by
    rw [r_365, if_pos (tX hc.1.1)]
    simp only [e_365_19]
    exact e1
  try dsimp only at e2
  unfold LL
  rw [e_371_2782, sc.r 1 hL hi (by omega), sc.r 2 hL hi (by omega), sc.r 3 hL hi (by omega), w, onI_i, s1.r 1 hL hi (by omega), s1.r 2 hL hi (by omega), s1.r 3 hL hi (by omega), if_pos t1, e2, onI_i, if_pos t2, m_177 t2 i2, onI_i, if_pos rfl, e_371_2842]
  by_cases y : k = 0
  · rw [if_pos (nk0 y), hj y, if_pos (lcm_s _), e_371_2859]
  · rw [if_neg (nkn y hk), e_371_2859]
theorem c_2862 (hL : Lx ≤ 3072) : Cs Lx xs 2862 := fun σ i n hi ti => by
  obtain ⟨⟨W, L, x, hc, hr⟩, st, sc, -⟩ := id ti
  obtain ⟨v, σ1, τ2, e1, s1, t1, e2, ti2⟩ := OpT.d (OpQ.op (op_dry (hc.qq hr)) hc hr).t ti
  refine ⟨τ2, ?_, ti2⟩
  try dsimp only at e2
  unfold LL
  rw [e_371_2862, if_pos (tX hc.1.1), e1, onI_i, if_pos t1, e2, onI_i, if_pos rfl]
theorem c_2875 (hL : Lx ≤ 3072) : Cs Lx xs 2875 := fun σ i n hi ti => by
  obtain ⟨⟨W, L, x, hc, hr⟩, st, sc, -⟩ := id ti
  obtain ⟨v, σ1, τ2, e1, s1, t1, e2, ti2⟩ := OpT.d (OpQ.op (op_rich (hc.qq hr)) hc hr).t ti
  refine ⟨τ2, ?_, ti2⟩
  try dsimp only at e2
  unfold LL
  rw [e_371_2875, if_pos (tX hc.1.1), e1, onI_i, if_pos t1, e2, onI_i, if_pos rfl]
theorem c_2888 (hL : Lx ≤ 3072) : Cs Lx xs 2888 := fun σ i n hi ti => by
  obtain ⟨⟨W, L, x, hc, hr⟩, st, sc, -⟩ := id ti
  obtain ⟨v, σ1, τ2, e1, s1, t1, e2, ti2⟩ := OpT.d (OpQ.op (op_clash (hc.qq hr)) hc hr).t ti
  refine ⟨τ2, ?_, ti2⟩
  try dsimp only at e2
  unfold LL
  rw [e_371_2888, if_pos (tX hc.1.1), e1, onI_i, if_pos t1, e2, onI_i, if_pos rfl]
theorem c_2901 (hL : Lx ≤ 3072) : Cs Lx xs 2901 := fun σ i n hi ti => by
  obtain ⟨⟨W, L, x, hc, hr⟩, st, sc, -⟩ := id ti
  obtain ⟨k, v, σ1, τ2, e1, s1, t1, e2, t2, i2, hk, hj, ti2⟩ := OpT.w (fun y => y.toInt64) 366 5 (op_ahead hc hr (xs (i + 1)) (xs (i + 2))).t ti (by omega) rfl
  refine ⟨τ2, ?_, ti2⟩
  have w : rn 366 [.ref 200, .int (xs (i + 1)), .int (xs (i + 2)), .ref 623] σ = some (.inl (some (.int (nI k))), σ1) := by
    rw [r_366, if_pos (tX hc.1.1)]
    simp only [e_366_21]
    exact e1
  try dsimp only at e2
  unfold LL
  rw [e_371_2901, sc.r 1 hL hi (by omega), sc.r 2 hL hi (by omega), w, onI_i, s1.r 1 hL hi (by omega), s1.r 2 hL hi (by omega), if_pos t1, e2, onI_i, if_pos t2, m_177 t2 i2, onI_i, if_pos rfl, e_371_2949]
  by_cases y : k = 0
  · rw [if_pos (nk0 y), hj y, if_pos (lcm_s _), e_371_2966]
  · rw [if_neg (nkn y hk), e_371_2966]
theorem c_2969 (hL : Lx ≤ 3072) : Cs Lx xs 2969 := fun σ i n hi ti => by
  obtain ⟨⟨W, L, x, hc, hr⟩, st, sc, -⟩ := id ti
  by_cases z : xs (i + 2) = 0
  · obtain ⟨k, v, σ1, τ2, e1, s1, t1, e2, t2, i2, hk, hj, ti2⟩ := OpT.w (fun y => y.toInt64) 367 5 (op_trial hc hr (xs (i + 1)) 0).t ti (by omega) rfl
    refine ⟨τ2, ?_, ti2⟩
    have w : rn 367 [.ref 200, .int (xs (i + 1)), .int 0, .ref 623] σ = some (.inl (some (.int (nI k))), σ1) := by
      rw [r_367, if_pos (tX hc.1.1)]
      simp only [e_367_17]
      exact e1
    try dsimp only at e2
    unfold LL
    rw [e_371_2969, sc.r 1 hL hi (by omega), sc.r 2 hL hi (by omega), if_pos z, e_371_2989, w, onI_i, s1.r 1 hL hi (by omega), s1.r 2 hL hi (by omega), if_pos z, e_371_3016, if_pos t1, e2, onI_i, if_pos t2, m_177 t2 i2, onI_i, if_pos rfl, e_371_3033]
    by_cases y : k = 0
    · rw [if_pos (nk0 y), hj y, if_pos (lcm_s _), e_371_3050]
    · rw [if_neg (nkn y hk), e_371_3050]
  · obtain ⟨k, v, σ1, τ2, e1, s1, t1, e2, t2, i2, hk, hj, ti2⟩ := OpT.w (fun y => y.toInt64) 367 5 (op_trial hc hr (xs (i + 1)) 1).t ti (by omega) rfl
    refine ⟨τ2, ?_, ti2⟩
    have w : rn 367 [.ref 200, .int (xs (i + 1)), .int 1, .ref 623] σ = some (.inl (some (.int (nI k))), σ1) := by
      rw [r_367, if_pos (tX hc.1.1)]
      simp only [e_367_17]
      exact e1
    try dsimp only at e2
    unfold LL
    rw [e_371_2969, sc.r 1 hL hi (by omega), sc.r 2 hL hi (by omega), if_neg z, e_371_2990, w, onI_i, s1.r 1 hL hi (by omega), s1.r 2 hL hi (by omega), if_neg z, e_371_3017, if_pos t1, e2, onI_i, if_pos t2, m_177 t2 i2, onI_i, if_pos rfl, e_371_3033]
    by_cases y : k = 0
    · rw [if_pos (nk0 y), hj y, if_pos (lcm_s _), e_371_3050]
    · rw [if_neg (nkn y hk), e_371_3050]
theorem c_3053 (hL : Lx ≤ 3072) : Cs Lx xs 3053 := fun σ i n hi ti => by
  obtain ⟨⟨W, L, x, hc, hr⟩, st, sc, -⟩ := id ti
  by_cases z : xs (i + 2) = 0
  · obtain ⟨k, v, σ1, τ2, e1, s1, t1, e2, t2, i2, hk, hj, ti2⟩ := OpT.w (fun y => y.toInt64) 368 5 (op_span hc hr (xs (i + 1)) 0).t ti (by omega) rfl
    refine ⟨τ2, ?_, ti2⟩
    have w : rn 368 [.ref 200, .int (xs (i + 1)), .int 0, .ref 623] σ = some (.inl (some (.int (nI k))), σ1) := by
      rw [r_368, if_pos (tX hc.1.1)]
      simp only [e_368_17]
      exact e1
    try dsimp only at e2
    unfold LL
    rw [e_371_3053, sc.r 1 hL hi (by omega), sc.r 2 hL hi (by omega), if_pos z, e_371_3073, w, onI_i, s1.r 1 hL hi (by omega), s1.r 2 hL hi (by omega), if_pos z, e_371_3100, if_pos t1, e2, onI_i, if_pos t2, m_177 t2 i2, onI_i, if_pos rfl, e_371_3117]
    by_cases y : k = 0
    · rw [if_pos (nk0 y), hj y, if_pos (lcm_s _), e_371_3134]
    · rw [if_neg (nkn y hk), e_371_3134]
  · obtain ⟨k, v, σ1, τ2, e1, s1, t1, e2, t2, i2, hk, hj, ti2⟩ := OpT.w (fun y => y.toInt64) 368 5 (op_span hc hr (xs (i + 1)) 1).t ti (by omega) rfl
    refine ⟨τ2, ?_, ti2⟩
    have w : rn 368 [.ref 200, .int (xs (i + 1)), .int 1, .ref 623] σ = some (.inl (some (.int (nI k))), σ1) := by
      rw [r_368, if_pos (tX hc.1.1)]
      simp only [e_368_17]
      exact e1
    try dsimp only at e2
    unfold LL
    rw [e_371_3053, sc.r 1 hL hi (by omega), sc.r 2 hL hi (by omega), if_neg z, e_371_3074, w, onI_i, s1.r 1 hL hi (by omega), s1.r 2 hL hi (by omega), if_neg z, e_371_3101, if_pos t1, e2, onI_i, if_pos t2, m_177 t2 i2, onI_i, if_pos rfl, e_371_3117]
    by_cases y : k = 0
    · rw [if_pos (nk0 y), hj y, if_pos (lcm_s _), e_371_3134]
    · rw [if_neg (nkn y hk), e_371_3134]
theorem c_3137 (hL : Lx ≤ 3072) : Cs Lx xs 3137 := fun σ i n hi ti => by
  obtain ⟨⟨W, L, x, hc, hr⟩, st, sc, -⟩ := id ti
  by_cases z : xs (i + 2) = 0
  · obtain ⟨k, v, σ1, τ2, e1, s1, t1, e2, t2, i2, hk, hj, ti2⟩ := OpT.w (fun y => y.toInt64) 369 5 (OpQ.op (op_led (hc.qq hr) hc.2.1.1.2.2.2.2.1 (xs (i + 1)) 0) hc hr).t ti (by omega) rfl
    refine ⟨τ2, ?_, ti2⟩
    have w : rn 369 [.ref 200, .int (xs (i + 1)), .int 0, .ref 623] σ = some (.inl (some (.int (nI k))), σ1) := by
      rw [r_369, if_pos (tX hc.1.1)]
      simp only [e_369_17]
      exact e1
    try dsimp only at e2
    unfold LL
    rw [e_371_3137, sc.r 1 hL hi (by omega), sc.r 2 hL hi (by omega), if_pos z, e_371_3157, w, onI_i, s1.r 1 hL hi (by omega), s1.r 2 hL hi (by omega), if_pos z, e_371_3184, if_pos t1, e2, onI_i, if_pos t2, m_177 t2 i2, onI_i, if_pos rfl, e_371_3201]
    by_cases y : k = 0
    · rw [if_pos (nk0 y), hj y, if_pos (lcm_s _), e_371_3218]
    · rw [if_neg (nkn y hk), e_371_3218]
  · obtain ⟨k, v, σ1, τ2, e1, s1, t1, e2, t2, i2, hk, hj, ti2⟩ := OpT.w (fun y => y.toInt64) 369 5 (OpQ.op (op_led (hc.qq hr) hc.2.1.1.2.2.2.2.1 (xs (i + 1)) 1) hc hr).t ti (by omega) rfl
    refine ⟨τ2, ?_, ti2⟩
    have w : rn 369 [.ref 200, .int (xs (i + 1)), .int 1, .ref 623] σ = some (.inl (some (.int (nI k))), σ1) := by
      rw [r_369, if_pos (tX hc.1.1)]
      simp only [e_369_17]
      exact e1
    try dsimp only at e2
    unfold LL
    rw [e_371_3137, sc.r 1 hL hi (by omega), sc.r 2 hL hi (by omega), if_neg z, e_371_3158, w, onI_i, s1.r 1 hL hi (by omega), s1.r 2 hL hi (by omega), if_neg z, e_371_3185, if_pos t1, e2, onI_i, if_pos t2, m_177 t2 i2, onI_i, if_pos rfl, e_371_3201]
    by_cases y : k = 0
    · rw [if_pos (nk0 y), hj y, if_pos (lcm_s _), e_371_3218]
    · rw [if_neg (nkn y hk), e_371_3218]
theorem c_3221 (hL : Lx ≤ 3072) : Cs Lx xs 3221 := fun σ i n hi ti => by
  obtain ⟨⟨W, L, x, hc, hr⟩, st, sc, -⟩ := id ti
  obtain ⟨k, v, σ1, τ2, e1, s1, t1, e2, t2, i2, hk, hj, ti2⟩ := OpT.w (fun y => y.toInt64) 370 5 (OpQ.op (op_log (hc.qq hr) hc.2.1.1.2.2.2.2.1 (xs (i + 1)) (xs (i + 2))) hc hr).t ti (by omega) rfl
  refine ⟨τ2, ?_, ti2⟩
  have w : rn 370 [.ref 200, .int (xs (i + 1)), .int (xs (i + 2)), .ref 623] σ = some (.inl (some (.int (nI k))), σ1) := by
    rw [r_370, if_pos (tX hc.1.1)]
    simp only [e_370_17]
    exact e1
  try dsimp only at e2
  unfold LL
  rw [e_371_3221, sc.r 1 hL hi (by omega), sc.r 2 hL hi (by omega), w, onI_i, s1.r 1 hL hi (by omega), s1.r 2 hL hi (by omega), if_pos t1, e2, onI_i, if_pos t2, m_177 t2 i2, onI_i, if_pos rfl, e_371_3269]
  by_cases y : k = 0
  · rw [if_pos (nk0 y), hj y, if_pos (lcm_s _), e_371_3286]
  · rw [if_neg (nkn y hk), e_371_3286]
theorem c_3289 (hL : Lx ≤ 3072) : Cs Lx xs 3289 := fun σ i n hi ti => by
  obtain ⟨⟨W, L, x, hc, hr⟩, st, sc, -⟩ := id ti
  obtain ⟨v, σ1, τ2, e1, s1, t1, e2, ti2⟩ := OpT.d (op_seed hc hr (xs (i + 1))).t ti
  refine ⟨τ2, ?_, ti2⟩
  try dsimp only at e2
  unfold LL
  rw [e_371_3289, sc.r 1 hL hi (by omega), if_pos (tX hc.1.1), e1, onI_i, s1.r 1 hL hi (by omega), if_pos t1, e2, onI_i, if_pos rfl]
theorem c_3314 (hL : Lx ≤ 3072) : Cs Lx xs 3314 := fun σ i n hi ti => by
  obtain ⟨⟨W, L, x, hc, hr⟩, st, sc, -⟩ := id ti
  obtain ⟨v, σ1, τ2, e1, s1, t1, e2, ti2⟩ := OpT.d (op_undo hc hr ).t ti
  refine ⟨τ2, ?_, ti2⟩
  try dsimp only at e2
  unfold LL
  rw [e_371_3314, if_pos (tX hc.1.1), e1, onI_i, if_pos t1, e2, onI_i, if_pos rfl]
theorem c_3338 (hL : Lx ≤ 3072) : Cs Lx xs 3338 := fun σ i n hi ti => by
  obtain ⟨⟨W, L, x, hc, hr⟩, st, sc, -⟩ := id ti
  obtain ⟨v, σ1, τ2, e1, s1, t1, e2, ti2⟩ := OpT.d (op_back hc hr ).t ti
  refine ⟨τ2, ?_, ti2⟩
  try dsimp only at e2
  unfold LL
  rw [e_371_3338, if_pos (tX hc.1.1), e1, onI_i, if_pos t1, e2, onI_i, if_pos rfl]
theorem c_3351 (hL : Lx ≤ 3072) : Cs Lx xs 3351 := fun σ i n hi ti => by
  obtain ⟨⟨W, L, x, hc, hr⟩, st, sc, -⟩ := id ti
  obtain ⟨v, σ1, τ2, e1, s1, t1, e2, ti2⟩ := OpT.d (op_count hc hr (xs (i + 1))).t ti
  refine ⟨τ2, ?_, ti2⟩
  try dsimp only at e2
  unfold LL
  rw [e_371_3351, sc.r 1 hL hi (by omega), if_pos (tX hc.1.1), e1, onI_i, s1.r 1 hL hi (by omega), if_pos t1, e2, onI_i, if_pos rfl]
theorem c_3327 (hL : Lx ≤ 3072) : Cs Lx xs 3327 := fun σ i n hi ti => by
  obtain ⟨⟨W, L, x, hc, hr⟩, st, sc, -⟩ := id ti
  obtain ⟨W', L', x', σ1, e1, c, r, lo, bu, f⟩ := op_image hc hr
  obtain ⟨τ2, e2, c2, r2, ⟨e3, e4⟩, -⟩ := f σ1 c r
  refine ⟨τ2, ?_, ti.nx lo bu c2 r2 e3 e4⟩
  try dsimp only at e2
  unfold LL
  rw [e_371_3327, if_pos (tX hc.1.1), e1, onV_i, if_pos r.t, e2, onV_i]
end H9
