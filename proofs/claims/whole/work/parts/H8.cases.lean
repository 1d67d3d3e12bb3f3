section H8
variable {Lx : Nat} {xs : Nat → Int32}
theorem c_268 (hL : Lx ≤ 3072) : Cs Lx xs 268 := fun σ i n hi ti => by
  obtain ⟨⟨W, L, x, hc, hr⟩, st, sc, -⟩ := id ti
  obtain ⟨v, σ1, τ2, e1, s1, t1, e2, ti2⟩ := OpT.d (op_feed hc hr (xs (i + 1)) (xs (i + 2)) (xs (i + 3)) (xs (i + 4)) (xs (i + 5))).t ti
  refine ⟨τ2, ?_, ti2⟩
  try dsimp only at e2
  unfold LL
  rw [e_371_268, sc.r 1 hL hi (by omega), sc.r 2 hL hi (by omega), sc.r 3 hL hi (by omega), sc.r 4 hL hi (by omega), sc.r 5 hL hi (by omega), if_pos (tX hc.1.1), e1, onI_i, s1.r 1 hL hi (by omega), s1.r 2 hL hi (by omega), s1.r 3 hL hi (by omega), s1.r 4 hL hi (by omega), s1.r 5 hL hi (by omega), if_pos t1, e2, onI_i, if_pos rfl]
theorem c_341 (hL : Lx ≤ 3072) : Cs Lx xs 341 := fun σ i n hi ti => by
  obtain ⟨⟨W, L, x, hc, hr⟩, st, sc, -⟩ := id ti
  obtain ⟨v, σ1, τ2, e1, s1, t1, e2, ti2⟩ := OpT.d (op_end hc hr (xs (i + 1))).t ti
  refine ⟨τ2, ?_, ti2⟩
  try dsimp only at e2
  unfold LL
  rw [e_371_341, sc.r 1 hL hi (by omega), if_pos (tX hc.1.1), e1, onI_i, s1.r 1 hL hi (by omega), if_pos t1, e2, onI_i, if_pos rfl]
theorem c_366 (hL : Lx ≤ 3072) : Cs Lx xs 366 := fun σ i n hi ti => by
  obtain ⟨⟨W, L, x, hc, hr⟩, st, sc, -⟩ := id ti
  obtain ⟨k, v, σ1, τ2, e1, s1, t1, e2, t2, i2, hk, hj, ti2⟩ := OpT.w (fun y => y.toInt64) 329 3 (op_county hc hr st).t ti (by omega) rfl
  refine ⟨τ2, ?_, ti2⟩
  have w : rn 329 [.ref 200, .ref 623] σ = some (.inl (some (.int (nI k))), σ1) := by
    rw [r_329, if_pos (tX hc.1.1)]
    simp only [e_329_17]
    exact e1
  try dsimp only at e2
  unfold LL
  rw [e_371_366, w, onI_i, if_pos t1, e2, onI_i, if_pos t2, m_177 t2 i2, onI_i, if_pos rfl, e_371_390]
  by_cases y : k = 0
  · rw [if_pos (nk0 y), hj y, if_pos (lcm_s _), e_371_407]
  · rw [if_neg (nkn y hk), e_371_407]
theorem c_410 (hL : Lx ≤ 3072) : Cs Lx xs 410 := fun σ i n hi ti => by
  obtain ⟨⟨W, L, x, hc, hr⟩, st, sc, -⟩ := id ti
  obtain ⟨k, v, σ1, τ2, e1, s1, t1, e2, t2, i2, hk, hj, ti2⟩ := OpT.w (fun y => y.toInt64) 330 3 (op_law hc hr st) ti (by omega) rfl
  refine ⟨τ2, ?_, ti2⟩
  have w : rn 330 [.ref 200, .ref 623] σ = some (.inl (some (.int (nI k))), σ1) := by
    rw [r_330, if_pos (tX hc.1.1)]
    simp only [e_330_14]
    exact e1
  try dsimp only at e2
  unfold LL
  rw [e_371_410, w, onI_i, if_pos t1, e2, onI_i, if_pos t2, m_177 t2 i2, onI_i, if_pos rfl, e_371_434]
  by_cases y : k = 0
  · rw [if_pos (nk0 y), hj y, if_pos (lcm_s _), e_371_451]
  · rw [if_neg (nkn y hk), e_371_451]
theorem c_454 (hL : Lx ≤ 3072) : Cs Lx xs 454 := fun σ i n hi ti => by
  obtain ⟨⟨W, L, x, hc, hr⟩, st, sc, -⟩ := id ti
  obtain ⟨v, σ1, τ2, e1, s1, t1, e2, ti2⟩ := OpT.d (op_fault hc hr ).t ti
  refine ⟨τ2, ?_, ti2⟩
  try dsimp only at e2
  unfold LL
  rw [e_371_454, if_pos (tX hc.1.1), e1, onI_i, if_pos t1, e2, onI_i, if_pos rfl]
theorem c_467 (hL : Lx ≤ 3072) : Cs Lx xs 467 := fun σ i n hi ti => by
  obtain ⟨⟨W, L, x, hc, hr⟩, st, sc, -⟩ := id ti
  obtain ⟨k, v, σ1, τ2, e1, s1, t1, e2, t2, i2, hk, hj, ti2⟩ := OpT.w (fun y => y.toInt64) 331 5 (OpQ.op (op_shower (hc.qq hr) (xs (i + 1)) (xs (i + 2))) hc hr).t ti (by omega) rfl
  refine ⟨τ2, ?_, ti2⟩
  have w : rn 331 [.ref 200, .int (xs (i + 1)), .int (xs (i + 2)), .ref 623] σ = some (.inl (some (.int (nI k))), σ1) := by
    rw [r_331, if_pos (tX hc.1.1)]
    simp only [e_331_21]
    exact e1
  try dsimp only at e2
  unfold LL
  rw [e_371_467, sc.r 1 hL hi (by omega), sc.r 2 hL hi (by omega), w, onI_i, s1.r 1 hL hi (by omega), s1.r 2 hL hi (by omega), if_pos t1, e2, onI_i, if_pos t2, m_177 t2 i2, onI_i, if_pos rfl, e_371_515]
  by_cases y : k = 0
  · rw [if_pos (nk0 y), hj y, if_pos (lcm_s _), e_371_532]
  · rw [if_neg (nkn y hk), e_371_532]
theorem c_535 (hL : Lx ≤ 3072) : Cs Lx xs 535 := fun σ i n hi ti => by
  obtain ⟨⟨W, L, x, hc, hr⟩, st, sc, -⟩ := id ti
  obtain ⟨k, v, σ1, τ2, e1, s1, t1, e2, t2, i2, hk, hj, ti2⟩ := OpT.w (fun y => y.toInt64) 332 5 (OpQ.op (op_broker (hc.qq hr) (xs (i + 1)) (xs (i + 2))) hc hr).t ti (by omega) rfl
  refine ⟨τ2, ?_, ti2⟩
  have w : rn 332 [.ref 200, .int (xs (i + 1)), .int (xs (i + 2)), .ref 623] σ = some (.inl (some (.int (nI k))), σ1) := by
    rw [r_332, if_pos (tX hc.1.1)]
    simp only [e_332_21]
    exact e1
  try dsimp only at e2
  unfold LL
  rw [e_371_535, sc.r 1 hL hi (by omega), sc.r 2 hL hi (by omega), w, onI_i, s1.r 1 hL hi (by omega), s1.r 2 hL hi (by omega), if_pos t1, e2, onI_i, if_pos t2, m_177 t2 i2, onI_i, if_pos rfl, e_371_583]
  by_cases y : k = 0
  · rw [if_pos (nk0 y), hj y, if_pos (lcm_s _), e_371_600]
  · rw [if_neg (nkn y hk), e_371_600]
theorem c_603 (hL : Lx ≤ 3072) : Cs Lx xs 603 := fun σ i n hi ti => by
  obtain ⟨⟨W, L, x, hc, hr⟩, st, sc, -⟩ := id ti
  obtain ⟨k, v, σ1, τ2, e1, s1, t1, e2, t2, i2, hk, hj, ti2⟩ := OpT.w (fun y => y.toInt64) 333 5 (OpQ.op (op_deed (hc.qq hr) (xs (i + 1)) (xs (i + 2))) hc hr).t ti (by omega) rfl
  refine ⟨τ2, ?_, ti2⟩
  have w : rn 333 [.ref 200, .int (xs (i + 1)), .int (xs (i + 2)), .ref 623] σ = some (.inl (some (.int (nI k))), σ1) := by
    rw [r_333, if_pos (tX hc.1.1)]
    simp only [e_333_21]
    exact e1
  try dsimp only at e2
  unfold LL
  rw [e_371_603, sc.r 1 hL hi (by omega), sc.r 2 hL hi (by omega), w, onI_i, s1.r 1 hL hi (by omega), s1.r 2 hL hi (by omega), if_pos t1, e2, onI_i, if_pos t2, m_177 t2 i2, onI_i, if_pos rfl, e_371_651]
  by_cases y : k = 0
  · rw [if_pos (nk0 y), hj y, if_pos (lcm_s _), e_371_668]
  · rw [if_neg (nkn y hk), e_371_668]
theorem c_671 (hL : Lx ≤ 3072) : Cs Lx xs 671 := fun σ i n hi ti => by
  obtain ⟨⟨W, L, x, hc, hr⟩, st, sc, -⟩ := id ti
  obtain ⟨k, v, σ1, τ2, e1, s1, t1, e2, t2, i2, hk, hj, ti2⟩ := OpT.w (fun y => y.toInt64) 334 5 (OpQ.op (op_costs (hc.qq hr) (xs (i + 1)) (xs (i + 2))) hc hr).t ti (by omega) rfl
  refine ⟨τ2, ?_, ti2⟩
  have w : rn 334 [.ref 200, .int (xs (i + 1)), .int (xs (i + 2)), .ref 623] σ = some (.inl (some (.int (nI k))), σ1) := by
    rw [r_334, if_pos (tX hc.1.1)]
    simp only [e_334_17]
    exact e1
  try dsimp only at e2
  unfold LL
  rw [e_371_671, sc.r 1 hL hi (by omega), sc.r 2 hL hi (by omega), w, onI_i, s1.r 1 hL hi (by omega), s1.r 2 hL hi (by omega), if_pos t1, e2, onI_i, if_pos t2, m_177 t2 i2, onI_i, if_pos rfl, e_371_719]
  by_cases y : k = 0
  · rw [if_pos (nk0 y), hj y, if_pos (lcm_s _), e_371_736]
  · rw [if_neg (nkn y hk), e_371_736]
theorem c_739 (hL : Lx ≤ 3072) : Cs Lx xs 739 := fun σ i n hi ti => by
  obtain ⟨⟨W, L, x, hc, hr⟩, st, sc, -⟩ := id ti
  obtain ⟨k, v, σ1, τ2, e1, s1, t1, e2, t2, i2, hk, hj, ti2⟩ := OpT.w (fun y => y.toInt64) 335 7 (OpQ.op (op_brings (hc.qq hr) (xs (i + 1)) (xs (i + 2)) (xs (i + 3))) hc hr).t ti (by omega) rfl
  refine ⟨τ2, ?_, ti2⟩
  have w : rn 335 [.ref 200, .int (xs (i + 1)), .int (xs (i + 2)), .int (xs (i + 3)), .ref 623] σ = some (.inl (some (.int (nI k))), σ1) := by
    rw [r_335, if_pos (tX hc.1.1)]
    simp only [e_335_23]
    exact e1
  try dsimp only at e2
  unfold LL
  rw [e_371_739, sc.r 1 hL hi (by omega), sc.r 2 hL hi (by omega), sc.r 3 hL hi (by omega), w, onI_i, s1.r 1 hL hi (by omega), s1.r 2 hL hi (by omega), s1.r 3 hL hi (by omega), if_pos t1, e2, onI_i, if_pos t2, m_177 t2 i2, onI_i, if_pos rfl, e_371_799]
  by_cases y : k = 0
  · rw [if_pos (nk0 y), hj y, if_pos (lcm_s _), e_371_816]
  · rw [if_neg (nkn y hk), e_371_816]
theorem c_819 (hL : Lx ≤ 3072) : Cs Lx xs 819 := fun σ i n hi ti => by
  obtain ⟨⟨W, L, x, hc, hr⟩, st, sc, -⟩ := id ti
  obtain ⟨k, v, σ1, τ2, e1, s1, t1, e2, t2, i2, hk, hj, ti2⟩ := OpT.w (fun y => y.toInt64) 336 5 (op_buy hc hr (xs (i + 1)) (xs (i + 2))).t ti (by omega) rfl
  refine ⟨τ2, ?_, ti2⟩
  have w : rn 336 [.ref 200, .int (xs (i + 1)), .int (xs (i + 2)), .ref 623] σ = some (.inl (some (.int (nI k))), σ1) := by
    rw [r_336, if_pos (tX hc.1.1)]
    simp only [e_336_21]
    exact e1
  try dsimp only at e2
  unfold LL
  rw [e_371_819, sc.r 1 hL hi (by omega), sc.r 2 hL hi (by omega), w, onI_i, s1.r 1 hL hi (by omega), s1.r 2 hL hi (by omega), if_pos t1, e2, onI_i, if_pos t2, m_177 t2 i2, onI_i, if_pos rfl, e_371_867]
  by_cases y : k = 0
  · rw [if_pos (nk0 y), hj y, if_pos (lcm_s _), e_371_884]
  · rw [if_neg (nkn y hk), e_371_884]
theorem c_887 (hL : Lx ≤ 3072) : Cs Lx xs 887 := fun σ i n hi ti => by
  obtain ⟨⟨W, L, x, hc, hr⟩, st, sc, -⟩ := id ti
  obtain ⟨k, v, σ1, τ2, e1, s1, t1, e2, t2, i2, hk, hj, ti2⟩ := OpT.w (fun y => y.toInt64) 337 5 (op_sell hc hr (xs (i + 1)) (xs (i + 2))).t ti (by omega) rfl
  refine ⟨τ2, ?_, ti2⟩
  have w : rn 337 [.ref 200, .int (xs (i + 1)), .int (xs (i + 2)), .ref 623] σ = some (.inl (some (.int (nI k))), σ1) := by
    rw [r_337, if_pos (tX hc.1.1)]
    simp only [e_337_25]
    exact e1
  try dsimp only at e2
  unfold LL
  rw [e_371_887, sc.r 1 hL hi (by omega), sc.r 2 hL hi (by omega), w, onI_i, s1.r 1 hL hi (by omega), s1.r 2 hL hi (by omega), if_pos t1, e2, onI_i, if_pos t2, m_177 t2 i2, onI_i, if_pos rfl, e_371_935]
  by_cases y : k = 0
  · rw [if_pos (nk0 y), hj y, if_pos (lcm_s _), e_371_952]
  · rw [if_neg (nkn y hk), e_371_952]
theorem c_955 (hL : Lx ≤ 3072) : Cs Lx xs 955 := fun σ i n hi ti => by
  obtain ⟨⟨W, L, x, hc, hr⟩, st, sc, -⟩ := id ti
  obtain ⟨k, v, σ1, τ2, e1, s1, t1, e2, t2, i2, hk, hj, ti2⟩ := OpT.w (fun y => y.toInt64) 338 5 (op_go hc hr (xs (i + 1)) (xs (i + 2))).t ti (by omega) rfl
  refine ⟨τ2, ?_, ti2⟩
  have w : rn 338 [.ref 200, .int (xs (i + 1)), .int (xs (i + 2)), .ref 623] σ = some (.inl (some (.int (nI k))), σ1) := by
    rw [r_338, if_pos (tX hc.1.1)]
    simp only [e_338_21]
    exact e1
  try dsimp only at e2
  unfold LL
  rw [e_371_955, sc.r 1 hL hi (by omega), sc.r 2 hL hi (by omega), w, onI_i, s1.r 1 hL hi (by omega), s1.r 2 hL hi (by omega), if_pos t1, e2, onI_i, if_pos t2, m_177 t2 i2, onI_i, if_pos rfl, e_371_1003]
  by_cases y : k = 0
  · rw [if_pos (nk0 y), hj y, if_pos (lcm_s _), e_371_1020]
  · rw [if_neg (nkn y hk), e_371_1020]
theorem c_1023 (hL : Lx ≤ 3072) : Cs Lx xs 1023 := fun σ i n hi ti => by
  obtain ⟨⟨W, L, x, hc, hr⟩, st, sc, -⟩ := id ti
  obtain ⟨k, v, σ1, τ2, e1, s1, t1, e2, t2, i2, hk, hj, ti2⟩ := OpT.w (fun y => y.toInt64) 339 5 (op_tell hc hr (xs (i + 1)) (xs (i + 2))).t ti (by omega) rfl
  refine ⟨τ2, ?_, ti2⟩
  have w : rn 339 [.ref 200, .int (xs (i + 1)), .int (xs (i + 2)), .ref 623] σ = some (.inl (some (.int (nI k))), σ1) := by
    rw [r_339, if_pos (tX hc.1.1)]
    simp only [e_339_21]
    exact e1
  try dsimp only at e2
  unfold LL
  rw [e_371_1023, sc.r 1 hL hi (by omega), sc.r 2 hL hi (by omega), w, onI_i, s1.r 1 hL hi (by omega), s1.r 2 hL hi (by omega), if_pos t1, e2, onI_i, if_pos t2, m_177 t2 i2, onI_i, if_pos rfl, e_371_1071]
  by_cases y : k = 0
  · rw [if_pos (nk0 y), hj y, if_pos (lcm_s _), e_371_1088]
  · rw [if_neg (nkn y hk), e_371_1088]
theorem c_1091 (hL : Lx ≤ 3072) : Cs Lx xs 1091 := fun σ i n hi ti => by
  obtain ⟨⟨W, L, x, hc, hr⟩, st, sc, -⟩ := id ti
  obtain ⟨k, v, σ1, τ2, e1, s1, t1, e2, t2, i2, hk, hj, ti2⟩ := OpT.w (fun y => y.toInt64) 340 4 (op_road hc hr (xs (i + 1))).t ti (by omega) rfl
  refine ⟨τ2, ?_, ti2⟩
  have w : rn 340 [.ref 200, .int (xs (i + 1)), .ref 623] σ = some (.inl (some (.int (nI k))), σ1) := by
    rw [r_340, if_pos (tX hc.1.1)]
    simp only [e_340_15]
    exact e1
  try dsimp only at e2
  unfold LL
  rw [e_371_1091, sc.r 1 hL hi (by omega), w, onI_i, s1.r 1 hL hi (by omega), if_pos t1, e2, onI_i, if_pos t2, m_177 t2 i2, onI_i, if_pos rfl, e_371_1127]
  by_cases y : k = 0
  · rw [if_pos (nk0 y), hj y, if_pos (lcm_s _), e_371_1144]
  · rw [if_neg (nkn y hk), e_371_1144]
theorem c_1147 (hL : Lx ≤ 3072) : Cs Lx xs 1147 := fun σ i n hi ti => by
  obtain ⟨⟨W, L, x, hc, hr⟩, st, sc, -⟩ := id ti
  obtain ⟨k, v, σ1, τ2, e1, s1, t1, e2, t2, i2, hk, hj, ti2⟩ := OpT.w (fun y => y.toInt64) 341 4 (op_insure hc hr (xs (i + 1))).t ti (by omega) rfl
  refine ⟨τ2, ?_, ti2⟩
  have w : rn 341 [.ref 200, .int (xs (i + 1)), .ref 623] σ = some (.inl (some (.int (nI k))), σ1) := by
    rw [r_341, if_pos (tX hc.1.1)]
    simp only [e_341_18]
    exact e1
  try dsimp only at e2
  unfold LL
  rw [e_371_1147, sc.r 1 hL hi (by omega), w, onI_i, s1.r 1 hL hi (by omega), if_pos t1, e2, onI_i, if_pos t2, m_177 t2 i2, onI_i, if_pos rfl, e_371_1183]
  by_cases y : k = 0
  · rw [if_pos (nk0 y), hj y, if_pos (lcm_s _), e_371_1200]
  · rw [if_neg (nkn y hk), e_371_1200]
theorem c_1203 (hL : Lx ≤ 3072) : Cs Lx xs 1203 := fun σ i n hi ti => by
  obtain ⟨⟨W, L, x, hc, hr⟩, st, sc, -⟩ := id ti
  obtain ⟨k, v, σ1, τ2, e1, s1, t1, e2, t2, i2, hk, hj, ti2⟩ := OpT.w (fun y => y.toInt64) 342 4 (op_minutes hc hr (xs (i + 1))).t ti (by omega) rfl
  refine ⟨τ2, ?_, ti2⟩
  have w : rn 342 [.ref 200, .int (xs (i + 1)), .ref 623] σ = some (.inl (some (.int (nI k))), σ1) := by
    rw [r_342, if_pos (tX hc.1.1)]
    simp only [e_342_15]
    exact e1
  try dsimp only at e2
  unfold LL
  rw [e_371_1203, sc.r 1 hL hi (by omega), w, onI_i, s1.r 1 hL hi (by omega), if_pos t1, e2, onI_i, if_pos t2, m_177 t2 i2, onI_i, if_pos rfl, e_371_1239]
  by_cases y : k = 0
  · rw [if_pos (nk0 y), hj y, if_pos (lcm_s _), e_371_1256]
  · rw [if_neg (nkn y hk), e_371_1256]
theorem c_1259 (hL : Lx ≤ 3072) : Cs Lx xs 1259 := fun σ i n hi ti => by
  obtain ⟨⟨W, L, x, hc, hr⟩, st, sc, -⟩ := id ti
  obtain ⟨k, v, σ1, τ2, e1, s1, t1, e2, t2, i2, hk, hj, ti2⟩ := OpT.w (fun y => y.toInt64) 343 4 (OpQ.op (op_sun (hc.qq hr) (xs (i + 1))) hc hr).t ti (by omega) rfl
  refine ⟨τ2, ?_, ti2⟩
  have w : rn 343 [.ref 200, .int (xs (i + 1)), .ref 623] σ = some (.inl (some (.int (nI k))), σ1) := by
    rw [r_343, if_pos (tX hc.1.1)]
    simp only [e_343_15]
    exact e1
  try dsimp only at e2
  unfold LL
  rw [e_371_1259, sc.r 1 hL hi (by omega), w, onI_i, s1.r 1 hL hi (by omega), if_pos t1, e2, onI_i, if_pos t2, m_177 t2 i2, onI_i, if_pos rfl, e_371_1295]
  by_cases y : k = 0
  · rw [if_pos (nk0 y), hj y, if_pos (lcm_s _), e_371_1312]
  · rw [if_neg (nkn y hk), e_371_1312]
theorem c_1315 (hL : Lx ≤ 3072) : Cs Lx xs 1315 := fun σ i n hi ti => by
  obtain ⟨⟨W, L, x, hc, hr⟩, st, sc, -⟩ := id ti
  obtain ⟨k, v, σ1, τ2, e1, s1, t1, e2, t2, i2, hk, hj, ti2⟩ := OpT.w (fun y => y.toInt64) 344 4 (OpQ.op (op_reach (hc.qq hr) (xs (i + 1))) hc hr).t ti (by omega) rfl
  refine ⟨τ2, ?_, ti2⟩
  have w : rn 344 [.ref 200, .int (xs (i + 1)), .ref 623] σ = some (.inl (some (.int (nI k))), σ1) := by
    rw [r_344, if_pos (tX hc.1.1)]
    simp only [e_344_15]
    exact e1
  try dsimp only at e2
  unfold LL
  rw [e_371_1315, sc.r 1 hL hi (by omega), w, onI_i, s1.r 1 hL hi (by omega), if_pos t1, e2, onI_i, if_pos t2, m_177 t2 i2, onI_i, if_pos rfl, e_371_1351]
  by_cases y : k = 0
  · rw [if_pos (nk0 y), hj y, if_pos (lcm_s _), e_371_1368]
  · rw [if_neg (nkn y hk), e_371_1368]
theorem c_1371 (hL : Lx ≤ 3072) : Cs Lx xs 1371 := fun σ i n hi ti => by
  obtain ⟨⟨W, L, x, hc, hr⟩, st, sc, -⟩ := id ti
  obtain ⟨k, v, σ1, τ2, e1, s1, t1, e2, t2, i2, hk, hj, ti2⟩ := OpT.w (fun y => y.toInt64) 345 5 (OpQ.op (op_foot (hc.qq hr) (xs (i + 1)) (xs (i + 2))) hc hr).t ti (by omega) rfl
  refine ⟨τ2, ?_, ti2⟩
  have w : rn 345 [.ref 200, .int (xs (i + 1)), .int (xs (i + 2)), .ref 623] σ = some (.inl (some (.int (nI k))), σ1) := by
    rw [r_345, if_pos (tX hc.1.1)]
    simp only [e_345_21]
    exact e1
  try dsimp only at e2
  unfold LL
  rw [e_371_1371, sc.r 1 hL hi (by omega), sc.r 2 hL hi (by omega), w, onI_i, s1.r 1 hL hi (by omega), s1.r 2 hL hi (by omega), if_pos t1, e2, onI_i, if_pos t2, m_177 t2 i2, onI_i, if_pos rfl, e_371_1419]
  by_cases y : k = 0
  · rw [if_pos (nk0 y), hj y, if_pos (lcm_s _), e_371_1436]
  · rw [if_neg (nkn y hk), e_371_1436]
theorem c_1439 (hL : Lx ≤ 3072) : Cs Lx xs 1439 := fun σ i n hi ti => by
  obtain ⟨⟨W, L, x, hc, hr⟩, st, sc, -⟩ := id ti
  obtain ⟨k, v, σ1, τ2, e1, s1, t1, e2, t2, i2, hk, hj, ti2⟩ := OpT.w (fun y => if y = 0 then 0 else 1) 346 5 (OpQ.op (op_arch (hc.qq hr) (xs (i + 1)) (xs (i + 2))) hc hr).t ti (by omega) rfl
  refine ⟨τ2, ?_, ti2⟩
  have w : rn 346 [.ref 200, .int (xs (i + 1)), .int (xs (i + 2)), .ref 623] σ = some (.inl (some (.int (nI k))), σ1) := by
    rw [r_346, if_pos (tX hc.1.1)]
    simp only [e_346_15, e_346_16, e_346_28]
    refine Eq.trans ?_ e1
    unfold wrpG
    congr 1
    funext y ρ
    try dsimp only
    by_cases z : y = 0
    · rw [if_pos z, if_pos z]
    · rw [if_neg z, if_neg z]
  try dsimp only at e2 hj
  unfold LL
  rw [e_371_1439, sc.r 1 hL hi (by omega), sc.r 2 hL hi (by omega), w, onI_i, s1.r 1 hL hi (by omega), s1.r 2 hL hi (by omega), if_pos t1, e2, onI_i, if_pos t2, m_177 t2 i2, onI_i, if_pos rfl, e_371_1487]
  by_cases y : k = 0
  · rw [if_pos (nk0 y), hj y]
    by_cases z : v = 0
    · rw [if_pos z, if_pos z, e_371_1504, if_pos (lcm_s _), e_371_1511]
    · rw [if_neg z, if_neg z, e_371_1505, if_pos (lcm_s _), e_371_1511]
  · rw [if_neg (nkn y hk), e_371_1511]
theorem c_1514 (hL : Lx ≤ 3072) : Cs Lx xs 1514 := fun σ i n hi ti => by
  obtain ⟨⟨W, L, x, hc, hr⟩, st, sc, -⟩ := id ti
  obtain ⟨k, v, σ1, τ2, e1, s1, t1, e2, t2, i2, hk, hj, ti2⟩ := OpT.w (fun y => y.toInt64) 347 5 (OpQ.op (op_wets (hc.qq hr) (xs (i + 1)) (xs (i + 2))) hc hr).t ti (by omega) rfl
  refine ⟨τ2, ?_, ti2⟩
  have w : rn 347 [.ref 200, .int (xs (i + 1)), .int (xs (i + 2)), .ref 623] σ = some (.inl (some (.int (nI k))), σ1) := by
    rw [r_347, if_pos (tX hc.1.1)]
    simp only [e_347_21]
    exact e1
  try dsimp only at e2
  unfold LL
  rw [e_371_1514, sc.r 1 hL hi (by omega), sc.r 2 hL hi (by omega), w, onI_i, s1.r 1 hL hi (by omega), s1.r 2 hL hi (by omega), if_pos t1, e2, onI_i, if_pos t2, m_177 t2 i2, onI_i, if_pos rfl, e_371_1562]
  by_cases y : k = 0
  · rw [if_pos (nk0 y), hj y, if_pos (lcm_s _), e_371_1579]
  · rw [if_neg (nkn y hk), e_371_1579]
theorem c_1582 (hL : Lx ≤ 3072) : Cs Lx xs 1582 := fun σ i n hi ti => by
  obtain ⟨⟨W, L, x, hc, hr⟩, st, sc, -⟩ := id ti
  obtain ⟨k, v, σ1, τ2, e1, s1, t1, e2, t2, i2, hk, hj, ti2⟩ := OpT.w (fun y => y.toInt64) 348 5 (OpQ.op (op_looks (hc.qq hr) (xs (i + 1)) (xs (i + 2))) hc hr).t ti (by omega) rfl
  refine ⟨τ2, ?_, ti2⟩
  have w : rn 348 [.ref 200, .int (xs (i + 1)), .int (xs (i + 2)), .ref 623] σ = some (.inl (some (.int (nI k))), σ1) := by
    rw [r_348, if_pos (tX hc.1.1)]
    simp only [e_348_21]
    exact e1
  try dsimp only at e2
  unfold LL
  rw [e_371_1582, sc.r 1 hL hi (by omega), sc.r 2 hL hi (by omega), w, onI_i, s1.r 1 hL hi (by omega), s1.r 2 hL hi (by omega), if_pos t1, e2, onI_i, if_pos t2, m_177 t2 i2, onI_i, if_pos rfl, e_371_1630]
  by_cases y : k = 0
  · rw [if_pos (nk0 y), hj y, if_pos (lcm_s _), e_371_1647]
  · rw [if_neg (nkn y hk), e_371_1647]
theorem c_1650 (hL : Lx ≤ 3072) : Cs Lx xs 1650 := fun σ i n hi ti => by
  obtain ⟨⟨W, L, x, hc, hr⟩, st, sc, -⟩ := id ti
  obtain ⟨k, v, σ1, τ2, e1, s1, t1, e2, t2, i2, hk, hj, ti2⟩ := OpT.w (fun y => y.toInt64) 349 7 (OpQ.op (op_stands (hc.qq hr) (xs (i + 1)) (xs (i + 2)) (xs (i + 3))) hc hr).t ti (by omega) rfl
  refine ⟨τ2, ?_, ti2⟩
  have w : rn 349 [.ref 200, .int (xs (i + 1)), .int (xs (i + 2)), .int (xs (i + 3)), .ref 623] σ = some (.inl (some (.int (nI k))), σ1) := by
    rw [r_349, if_pos (tX hc.1.1)]
    simp only [e_349_23]
    exact e1
  try dsimp only at e2
  unfold LL
  rw [e_371_1650, sc.r 1 hL hi (by omega), sc.r 2 hL hi (by omega), sc.r 3 hL hi (by omega), w, onI_i, s1.r 1 hL hi (by omega), s1.r 2 hL hi (by omega), s1.r 3 hL hi (by omega), if_pos t1, e2, onI_i, if_pos t2, m_177 t2 i2, onI_i, if_pos rfl, e_371_1710]
  by_cases y : k = 0
  · rw [if_pos (nk0 y), hj y, if_pos (lcm_s _), e_371_1727]
  · rw [if_neg (nkn y hk), e_371_1727]
theorem c_1730 (hL : Lx ≤ 3072) : Cs Lx xs 1730 := fun σ i n hi ti => by
  obtain ⟨⟨W, L, x, hc, hr⟩, st, sc, -⟩ := id ti
  obtain ⟨k, v, σ1, τ2, e1, s1, t1, e2, t2, i2, hk, hj, ti2⟩ := OpT.w (fun y => y.toInt64) 350 5 (OpQ.op (op_best (hc.qq hr) (xs (i + 1)) (xs (i + 2))) hc hr).t ti (by omega) rfl
  refine ⟨τ2, ?_, ti2⟩
  have w : rn 350 [.ref 200, .int (xs (i + 1)), .int (xs (i + 2)), .ref 623] σ = some (.inl (some (.int (nI k))), σ1) := by
    rw [r_350, if_pos (tX hc.1.1)]
    simp only [e_350_17]
    exact e1
  try dsimp only at e2
  unfold LL
  rw [e_371_1730, sc.r 1 hL hi (by omega), sc.r 2 hL hi (by omega), w, onI_i, s1.r 1 hL hi (by omega), s1.r 2 hL hi (by omega), if_pos t1, e2, onI_i, if_pos t2, m_177 t2 i2, onI_i, if_pos rfl, e_371_1778]
  by_cases y : k = 0
  · rw [if_pos (nk0 y), hj y, if_pos (lcm_s _), e_371_1795]
  · rw [if_neg (nkn y hk), e_371_1795]
theorem c_1798 (hL : Lx ≤ 3072) : Cs Lx xs 1798 := fun σ i n hi ti => by
  obtain ⟨⟨W, L, x, hc, hr⟩, st, sc, -⟩ := id ti
  obtain ⟨k, v, σ1, τ2, e1, s1, t1, e2, t2, i2, hk, hj, ti2⟩ := OpT.w (fun y => y.toInt64) 351 5 (OpQ.op (op_first (hc.qq hr) (xs (i + 1)) (xs (i + 2))) hc hr).t ti (by omega) rfl
  refine ⟨τ2, ?_, ti2⟩
  have w : rn 351 [.ref 200, .int (xs (i + 1)), .int (xs (i + 2)), .ref 623] σ = some (.inl (some (.int (nI k))), σ1) := by
    rw [r_351, if_pos (tX hc.1.1)]
    simp only [e_351_21]
    exact e1
  try dsimp only at e2
  unfold LL
  rw [e_371_1798, sc.r 1 hL hi (by omega), sc.r 2 hL hi (by omega), w, onI_i, s1.r 1 hL hi (by omega), s1.r 2 hL hi (by omega), if_pos t1, e2, onI_i, if_pos t2, m_177 t2 i2, onI_i, if_pos rfl, e_371_1846]
  by_cases y : k = 0
  · rw [if_pos (nk0 y), hj y, if_pos (lcm_s _), e_371_1863]
  · rw [if_neg (nkn y hk), e_371_1863]
end H8
