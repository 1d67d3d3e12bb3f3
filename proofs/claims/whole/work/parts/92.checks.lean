/-! what a call may be told -/
def inR (x : Int32) (lo hi : Int) : Prop := lo ≤ x.toInt ∧ x.toInt ≤ hi
theorem inR_n {x : Int32} {lo hi : Int} (h : inR x lo hi) (h0 : 0 ≤ lo) : ∃ n : Nat, (n : Int) ≤ hi ∧ lo ≤ n ∧ x = nI n := by
  unfold inR at h
  exact ⟨x.toInt.toNat, by omega, by omega, nI_nI (by omega)⟩
section CK
variable {σ : SH} {W L : WW}
theorem m_134y {x lo hi : Int32} (h : inR x lo.toInt hi.toInt) : rn 134 [.int x, .int lo, .int hi] σ = some (.inl none, σ) := by
  unfold inR at h
  rw [r_134, if_neg (by rw [tlt]; omega), if_neg (by rw [tlt]; omega), e_134_21]
theorem m_134n {x lo hi : Int32} (h : ¬ inR x lo.toInt hi.toInt) : rn 134 [.int x, .int lo, .int hi] σ = some (.inr 0, mkC σ 0 0 6) := by
  unfold inR at h
  rw [r_134]
  by_cases c : x < lo
  · rw [if_pos c, e_134_10]
  · rw [if_neg c, if_pos (by rw [tlt] at c ⊢; omega)]
theorem m_133y {x : Int32} (h : inR x 0 9999) : rn 133 [.int x] σ = some (.inl none, σ) := by
  rw [r_133, m_134y h, onV_i]
theorem m_133n {x : Int32} (h : ¬ inR x 0 9999) : rn 133 [.int x] σ = some (.inr 0, mkC σ 0 0 6) := by
  rw [r_133, m_134n h, onV_x]
theorem m_139y {x : Int32} (h : inR x 0 15) : rn 139 [.int x] σ = some (.inl none, σ) := by
  unfold inR at h
  have z0 : (0 : Int32).toInt = 0 := by decide
  have z16 : (16 : Int32).toInt = 16 := by decide
  rw [r_139, if_neg (by rw [tlt, z0]; omega), if_pos (by rw [tlt, z16]; omega), e_139_21]
theorem m_139n {x : Int32} (h : ¬ inR x 0 15) : rn 139 [.int x] σ = some (.inr 2, mkC σ 0 0 6) := by
  unfold inR at h
  have z0 : (0 : Int32).toInt = 0 := by decide
  have z16 : (16 : Int32).toInt = 16 := by decide
  rw [r_139]
  by_cases c : x < 0
  · rw [if_pos c, e_139_10]
  · rw [if_neg c, if_neg (by rw [tlt, z0] at c; rw [tlt, z16]; omega)]
theorem m_161y {x y : Int32} (h : ¬ x = y) : rn 161 [.int x, .int y] σ = some (.inl none, σ) := by rw [r_161, if_neg h, e_161_16]
theorem m_161n {x y : Int32} (h : x = y) : rn 161 [.int x, .int y] σ = some (.inr 0, mkC σ 0 0 6) := by rw [r_161, if_pos h]
theorem m_125y (h : QQ σ W L) {x : Int32} (hx : inR x 0 (nB W - 1)) : rn 125 [.ref 200, .int x] σ = some (.inl none, σ) := by
  have h5 := (WF_nB h.w).2
  unfold inR at hx
  have z0 : (0 : Int32).toInt = 0 := by decide
  rw [r_125, if_neg (by rw [tlt, z0]; omega), x2 h.x, c5 h, if_pos (by rw [tlt, tnI (by omega)]; omega), e_125_26]
theorem m_125n (h : QQ σ W L) {x : Int32} (hx : ¬ inR x 0 (nB W - 1)) : rn 125 [.ref 200, .int x] σ = some (.inr 2, mkC σ 0 0 6) := by
  have h5 := (WF_nB h.w).2
  unfold inR at hx
  have z0 : (0 : Int32).toInt = 0 := by decide
  rw [r_125]
  by_cases c : x < 0
  · rw [if_pos c, e_125_15]
  · rw [if_neg c, x2 h.x, c5 h, if_neg (by rw [tlt, z0] at c; rw [tlt, tnI (by omega)]; omega)]
theorem m_130y (h : QQ σ W L) {x : Int32} (hx : inR x 0 (nD W - 1)) : rn 130 [.ref 200, .int x] σ = some (.inl none, σ) := by
  have h5 := (WF_nD h.w).2
  unfold inR at hx
  have z0 : (0 : Int32).toInt = 0 := by decide
  rw [r_130, if_neg (by rw [tlt, z0]; omega), x2 h.x, c6 h, if_pos (by rw [tlt, tnI (by omega)]; omega), e_130_26]
theorem m_130n (h : QQ σ W L) {x : Int32} (hx : ¬ inR x 0 (nD W - 1)) : rn 130 [.ref 200, .int x] σ = some (.inr 2, mkC σ 0 0 6) := by
  have h5 := (WF_nD h.w).2
  unfold inR at hx
  have z0 : (0 : Int32).toInt = 0 := by decide
  rw [r_130]
  by_cases c : x < 0
  · rw [if_pos c, e_130_15]
  · rw [if_neg c, x2 h.x, c6 h, if_neg (by rw [tlt, z0] at c; rw [tlt, tnI (by omega)]; omega)]
theorem m_123y (h : QQ σ W L) {x : Int32} (hx : inR x 0 (nS W - 1)) : rn 123 [.ref 200, .int x] σ = some (.inl none, σ) := by
  have h5 := (WF_nS h.w).2
  unfold inR at hx
  have z0 : (0 : Int32).toInt = 0 := by decide
  rw [r_123, if_neg (by rw [tlt, z0]; omega), x2 h.x, c4 h, if_pos (by rw [tlt, tnI (by omega)]; omega), e_123_26]
theorem m_123n (h : QQ σ W L) {x : Int32} (hx : ¬ inR x 0 (nS W - 1)) : rn 123 [.ref 200, .int x] σ = some (.inr 2, mkC σ 0 0 6) := by
  have h5 := (WF_nS h.w).2
  unfold inR at hx
  have z0 : (0 : Int32).toInt = 0 := by decide
  rw [r_123]
  by_cases c : x < 0
  · rw [if_pos c, e_123_15]
  · rw [if_neg c, x2 h.x, c4 h, if_neg (by rw [tlt, z0] at c; rw [tlt, tnI (by omega)]; omega)]
/-! in the reference -/
theorem m_216_0 (c : Int32) : rn 216 [.ref 611, .int 0, .int c] σ = some (.inl (some (.int 0)), σ) := by
  rw [r_216, if_pos rfl, e_216_9, if_pos (Or.inl rfl)]
theorem m_216_1 (h : sT σ 611 = 112) (c : Int32) : rn 216 [.ref 611, .int 1, .int c] σ = some (.inl (some (.int 1)), wI σ 611 0 c) := by
  rw [r_216, if_neg (by decide), pI_r h, if_pos (Or.inr rfl)]
theorem m_220y {x lo hi : Int32} (h : inR x lo.toInt hi.toInt) : rn 220 [.int x, .int lo, .int hi] σ = some (.inl (some (.int 1)), σ) := by
  unfold inR at h
  rw [m_220, decide_eq_true h]; rfl
theorem m_220n {x lo hi : Int32} (h : ¬ inR x lo.toInt hi.toInt) : rn 220 [.int x, .int lo, .int hi] σ = some (.inl (some (.int 0)), σ) := by
  unfold inR at h
  rw [m_220, decide_eq_false h]; rfl
theorem m_229y {x : Int32} (h : inR x 0 15) : rn 229 [.int x] σ = some (.inl (some (.int 0)), σ) := by
  unfold inR at h
  rw [m_229, decide_eq_true h]; rfl
theorem m_229n {x : Int32} (h : ¬ inR x 0 15) : rn 229 [.int x] σ = some (.inl (some (.int 1)), σ) := by
  unfold inR at h
  rw [m_229, decide_eq_false h]; rfl
theorem m_223y {x : Int32} (h : inR x 0 9999) : rn 223 [.int x] σ = some (.inl (some (.int 0)), σ) := by
  unfold inR at h
  rw [m_223, decide_eq_true h]; rfl
theorem m_223n {x : Int32} (h : ¬ inR x 0 9999) : rn 223 [.int x] σ = some (.inl (some (.int 1)), σ) := by
  unfold inR at h
  rw [m_223, decide_eq_false h]; rfl
theorem m_239y {x y : Int32} (hx : inR x 0 9999) (hy : inR y 1 96) : rn 239 [.int x, .int y] σ = some (.inl (some (.int 0)), σ) := by
  rw [r_239, m_223y hx, onI_i, if_pos rfl, m_220y (lo := 1) (hi := 96) hy, onI_i, if_neg (by decide), e_239_21]
theorem m_239a {x y : Int32} (hx : ¬ inR x 0 9999) : rn 239 [.int x, .int y] σ = some (.inl (some (.int 1)), σ) := by
  rw [r_239, m_223n hx, onI_i, if_neg (by decide), e_239_17, e_239_22, if_pos (Or.inr rfl)]
theorem m_239b {x y : Int32} (hx : inR x 0 9999) (hy : ¬ inR y 1 96) : rn 239 [.int x, .int y] σ = some (.inl (some (.int 1)), σ) := by
  rw [r_239, m_223y hx, onI_i, if_pos rfl, m_220n (lo := 1) (hi := 96) hy, onI_i, if_pos rfl, e_239_22, if_pos (Or.inr rfl)]
theorem cnt_1 {n : Nat} (hn : n < 2147483648) : (nI n - 1).toInt = n - 1 := by
  have z1 : (1 : Int32).toInt = 1 := by decide
  rw [tS] <;> rw [tnI hn, z1] <;> omega
theorem m_249y (h : QQ σ W L) {x : Int32} (hx : inR x 0 (nB W - 1)) : rn 249 [.ref 611, .int x] σ = some (.inl (some (.int 0)), σ) := by
  have h5 := (WF_nB h.w).2
  rw [r_249, if_pos h.tM, q201 h, onI_i, m_220y (by rw [cnt_1 (by omega)]; exact hx), onI_i, if_neg (by decide), e_249_18]
theorem m_249n (h : QQ σ W L) {x : Int32} (hx : ¬ inR x 0 (nB W - 1)) : rn 249 [.ref 611, .int x] σ = some (.inl (some (.int 1)), σ) := by
  have h5 := (WF_nB h.w).2
  rw [r_249, if_pos h.tM, q201 h, onI_i, m_220n (by rw [cnt_1 (by omega)]; exact hx), onI_i, if_pos rfl, e_249_19, if_pos (Or.inr rfl)]
theorem m_262y (h : QQ σ W L) {x : Int32} (hx : inR x 0 (nD W - 1)) : rn 262 [.ref 611, .int x] σ = some (.inl (some (.int 0)), σ) := by
  have h5 := (WF_nD h.w).2
  rw [r_262, if_pos h.tM, q204 h, onI_i, m_220y (by rw [cnt_1 (by omega)]; exact hx), onI_i, if_neg (by decide), e_262_18]
theorem m_262n (h : QQ σ W L) {x : Int32} (hx : ¬ inR x 0 (nD W - 1)) : rn 262 [.ref 611, .int x] σ = some (.inl (some (.int 1)), σ) := by
  have h5 := (WF_nD h.w).2
  rw [r_262, if_pos h.tM, q204 h, onI_i, m_220n (by rw [cnt_1 (by omega)]; exact hx), onI_i, if_pos rfl, e_262_19, if_pos (Or.inr rfl)]
theorem m_219y (h : QQ σ W L) {x : Int32} (hx : inR x 0 (nS W - 1)) : rn 219 [.ref 611, .int x] σ = some (.inl (some (.int 0)), σ) := by
  have h5 := (WF_nS h.w).2
  rw [r_219, if_pos h.tM, q195 h, onI_i, m_220y (by rw [cnt_1 (by omega)]; exact hx), onI_i, if_neg (by decide), e_219_18]
theorem m_219n (h : QQ σ W L) {x : Int32} (hx : ¬ inR x 0 (nS W - 1)) : rn 219 [.ref 611, .int x] σ = some (.inl (some (.int 1)), σ) := by
  have h5 := (WF_nS h.w).2
  rw [r_219, if_pos h.tM, q195 h, onI_i, m_220n (by rw [cnt_1 (by omega)]; exact hx), onI_i, if_pos rfl, e_219_19, if_pos (Or.inr rfl)]
theorem m_228y (h : sT σ 611 = 112) {x y : Int32} (hx : inR x 0 15) (hy : inR y 0 9999) : rn 228 [.ref 611, .int x, .int y] σ = some (.inl (some (.int 0)), wI σ 611 0 0) := by
  have h' : sT (wI σ 611 0 0) 611 = 112 := h
  rw [r_228, pI_r h, m_229y hx, onI_i, if_pos h', m_216_0, onI_i, if_pos rfl, m_223y hy, onI_i, if_pos h', m_216_0, onI_i, if_pos rfl, e_228_33]
theorem m_228a (h : sT σ 611 = 112) {x y : Int32} (hx : ¬ inR x 0 15) : rn 228 [.ref 611, .int x, .int y] σ = some (.inl (some (.int 1)), wI (wI σ 611 0 0) 611 0 1) := by
  have h' : sT (wI σ 611 0 0) 611 = 112 := h
  rw [r_228, pI_r h, m_229n hx, onI_i, if_pos h', m_216_1 h', onI_i, if_neg (by decide), e_228_29, e_228_34, if_pos (Or.inr rfl)]
theorem m_228m (h : sT σ 611 = 112) {x y : Int32} (hx : inR x 0 15) (hy : ¬ inR y 0 9999) : rn 228 [.ref 611, .int x, .int y] σ = some (.inl (some (.int 1)), wI (wI σ 611 0 0) 611 0 2) := by
  have h' : sT (wI σ 611 0 0) 611 = 112 := h
  rw [r_228, pI_r h, m_229y hx, onI_i, if_pos h', m_216_0, onI_i, if_pos rfl, m_223n hy, onI_i, if_pos h', m_216_1 h', onI_i, if_neg (by decide), e_228_34, if_pos (Or.inr rfl)]
/-! the reference's own questions, behind their checks -/
theorem m_236' (h : QQ σ W L) {a j : Nat} (ha : a < 16) (hj : j < 2147483648) (o3 o4 : Option Value) : exec PP 6 236 11 [some (.ref 611), some (.int (nI a)), some (.int (nI j)), o3, o4] [] σ = some (.inl (some (.int (bs (fun f => decide (arN W f j = some a)) 16))), σ) := by
  rw [e_236_11]
  refine lp0 (F := fun f b => exec PP 6 236 16 [some (.ref 611), some (.int (nI a)), some (.int (nI j)), some (.int b), some (.int (nI f))] [] σ) (g := bsg (fun f => decide (arN W f j = some a))) (K := fun b => some (.inl (some (.int b)), σ)) (n := 16) ?_ ?_ 16 0 0 (by omega)
  · intro f b hf
    try dsimp only
    rw [e_236_16, if_pos (nI_ltl hf (by decide)), if_pos h.tM, q237 h ha hf hj, onI_i, iB]
    unfold bsg
    by_cases c : arN W f j = some a
    · rw [if_neg (by simp [c]), e_236_43, if_pos (by simp [c]), nI_1]
    · rw [if_pos (by simp [c]), e_236_42, if_neg (by simp [c]), nI_1, or_0]
  · intro b
    try dsimp only
    rw [e_236_16, if_neg (nI_nltl (Nat.le_refl 16) (by decide)), e_236_51]
theorem m_241' (h : QQ σ W L) {j n : Nat} (hj : j ≤ 9999) (hn : n ≤ 96) (o3 o4 : Option Value) : exec PP 7 241 20 [some (.ref 611), some (.int (nI j)), some (.int (nI n)), o3, o4] [] σ = some (.inl (some (.int (nI (bestG (fun a => stN W (rdN W) a j n))))), σ) := by
  rw [e_241_20]
  refine lpI (F := fun a b => exec PP 7 241 25 [some (.ref 611), some (.int (nI j)), some (.int (nI n)), some (.int (nI b)), some (.int (nI a))] [] σ) (g := fun i b => if stN W (rdN W) b j n < stN W (rdN W) i j n then i else b) (K := fun b => some (.inl (some (.int (nI b))), σ)) (I := fun a b => b < a) (n := 16) ?_ ?_ 15 1 0 (by omega) (by omega)
  · intro a b ha hb
    try dsimp only
    refine ⟨?_, by split <;> omega⟩
    rw [e_241_25, if_pos (nI_ltl ha (by decide)), gw h, aw6 h, if_pos h.tM, m_240 h ha h.rd.2 hj hn, onI_i, gw h, aw6 h, if_pos h.tM, m_240 h (by omega) h.rd.2 hj hn, onI_i]
    by_cases c : stN W (rdN W) b j n < stN W (rdN W) a j n
    · rw [if_pos c, e_241_70, if_pos c, nI_1]
    · rw [if_neg c, e_241_69, if_neg c, nI_1]
  · intro b hb
    try dsimp only
    rw [e_241_25, if_neg (nI_nltl (Nat.le_refl 16) (by decide)), e_241_77]
theorem m_242' (h : QQ σ W L) {a j : Nat} (ha : a < 16) (hj : j ≤ 9999) (o3 : Option Value) : exec PP 6 242 11 [some (.ref 611), some (.int (nI a)), some (.int (nI j)), o3] [] σ = some (.inl (some (.int (match fi (fun i => decide (arN W (rdN W) (j + i) = some a)) 0 200 with
    | some i => nI (j + i)
    | none => -1))), σ) := by
  rw [e_242_11]
  have key := lpE (F := fun i => exec PP 6 242 13 [some (.ref 611), some (.int (nI a)), some (.int (nI j)), some (.int (nI i))] [] σ) (p := fun i => decide (arN W (rdN W) (j + i) = some a)) (R := fun i => some (.inl (some (.int (nI (j + i)))), σ)) (K := some (.inl (some (.int (-1))), σ)) (n := 200) ?_ ?_ 200 0 (by omega)
  · refine key.trans ?_
    cases fi (fun i => decide (arN W (rdN W) (j + i) = some a)) 0 200 <;> rfl
  · intro i hi
    try dsimp only
    rw [e_242_13, if_pos (nI_ltl hi (by decide)), gw h, aw6 h, if_pos h.tM, nI_add, q237 h ha h.rd.2 (by omega), onI_i, iB]
    by_cases c : arN W (rdN W) (j + i) = some a
    · rw [if_neg (by simp [c]), if_pos (by simp [c])]
    · rw [if_pos (by simp [c]), e_242_42, if_neg (by simp [c]), nI_1]
  · try dsimp only
    rw [e_242_13, if_neg (nI_nltl (Nat.le_refl 200) (by decide)), e_242_48]
theorem m_243' (h : QQ σ W L) {a j n : Nat} (ha : a < 16) (hj : j ≤ 9999) (hn : n ≤ 96) (o4 o5 : Option Value) : exec PP 7 243 32 [some (.ref 611), some (.int (nI a)), some (.int (nI j)), some (.int (nI n)), o4, o5] [] σ = some (.inl (some (.int (nI (bestG (fun r => stN W r a j n))))), σ) := by
  rw [e_243_32]
  refine lpI (F := fun r b => exec PP 7 243 38 [some (.ref 611), some (.int (nI a)), some (.int (nI j)), some (.int (nI n)), some (.int (nI b)), some (.int (nI r))] [] σ) (g := fun i b => if stN W b a j n < stN W i a j n then i else b) (K := fun b => some (.inl (some (.int (nI b))), σ)) (I := fun r b => b < r) (n := 16) ?_ ?_ 15 1 0 (by omega) (by omega)
  · intro r b hr hb
    try dsimp only
    refine ⟨?_, by split <;> omega⟩
    rw [e_243_38, if_pos (nI_ltl hr (by decide)), if_pos h.tM, m_240 h ha hr hj hn, onI_i, if_pos h.tM, m_240 h ha (by omega) hj hn, onI_i]
    by_cases c : stN W b a j n < stN W r a j n
    · rw [if_pos c, e_243_73, if_pos c, nI_1]
    · rw [if_neg c, e_243_71, if_neg c, nI_1]
  · intro b hb
    try dsimp only
    rw [e_243_38, if_neg (nI_nltl (Nat.le_refl 16) (by decide)), e_243_81]
theorem m_244' (h : QQ σ W L) {j : Nat} (hj : j < 2147483648) (o2 o3 : Option Value) : exec PP 5 244 19 [some (.ref 611), some (.int (nI j)), o2, o3] [] σ = some (.inl (some (.int (sprN W j))), σ) := by
  have l1 := lp0 (F := fun a b => exec PP 5 244 23 [some (.ref 611), some (.int (nI j)), some (.int b), some (.int (nI a))] [] σ) (g := bsg (fun a => decide (wetB W a j ≠ 0))) (K := fun b => exec PP 5 244 56 [none, some (.int (nI j)), some (.int b), some (.int 0)] [] σ) (n := 16) (by
    intro a b ha
    try dsimp only
    rw [e_244_23, if_pos (nI_ltl ha (by decide)), if_pos h.tM, q233 h ha hj, onI_i]
    unfold bsg
    by_cases z : wetB W a j = 0
    · rw [if_pos z, e_244_45, if_neg (by simp [z]), nI_1, or_0]
    · rw [if_neg z, e_244_46, if_pos (by simp [z]), nI_1]) (by
    intro b
    try dsimp only
    rw [e_244_23, if_neg (nI_nltl (Nat.le_refl 16) (by decide)), e_244_54]) 16 0 0 (by omega)
  have l2 := lp0 (F := fun f b => exec PP 5 244 56 [none, some (.int (nI j)), some (.int b), some (.int (nI f))] [] σ) (g := fun f b => match ftN f j with
  | none => b
  | some g => b &&& (shl 1 (nI g) ^^^ (-1))) (K := fun b => some (.inl (some (.int b)), σ)) (n := 16) (by
    intro f b hf
    try dsimp only
    rw [e_244_56, if_pos (nI_ltl hf (by decide)), m_230 hf hj, onI_i]
    cases c : ftN f j with
    | none => rw [if_pos (show oI none = -1 from rfl), e_244_85, nI_1, show b &&& b = b from Int32.and_self]
    | some g =>
      have hg := ftN_lt hf c
      rw [if_neg (show ¬ oI (some g) = -1 from nI_neg (by omega)), e_244_76, m_230 hf hj, onI_i, c, nI_1]; rfl) (by
    intro b
    try dsimp only
    rw [e_244_56, if_neg (nI_nltl (Nat.le_refl 16) (by decide)), e_244_93]) 16 0 (bs (fun a => decide (wetB W a j ≠ 0)) 16) (by omega)
  rw [e_244_19]
  exact l1.trans l2
theorem m_245' (h : QQ σ W L) {a b j n : Nat} (ha : a < 16) (hb : b < 16) (hj : j ≤ 9999) (hn : n ≤ 96) (o5 o6 : Option Value) : exec PP 6 245 61 [some (.ref 611), some (.int (nI a)), some (.int (nI b)), some (.int (nI j)), some (.int (nI n)), o5, o6] [] σ = some (.inl (some (.int (bothN W a b j n))), σ) := by
  rw [e_245_61]
  refine lp0 (F := fun i s => exec PP 6 245 67 [some (.ref 611), some (.int (nI a)), some (.int (nI b)), some (.int (nI j)), some (.int (nI n)), some (.int s), some (.int (nI i))] [] σ) (g := ctg (fun i => (arN W a (j + i)).isSome && (arN W b (j + i)).isSome)) (K := fun s => some (.inl (some (.int s)), σ)) (n := n) ?_ ?_ n 0 0 (by omega)
  · intro i s hi
    try dsimp only
    rw [e_245_67, if_pos (nI_lt hi (by omega)), if_pos h.tM, nI_add, q232 h ha (by omega), onI_i, iB]
    unfold ctg
    cases c : (arN W a (j + i)).isSome
    · rw [if_pos rfl, e_245_104, if_neg (by simp [c]), nI_1, Int32.add_zero]
    · rw [if_neg (by decide), if_pos h.tM, q232 h hb (by omega), onI_i, iB]
      cases c2 : (arN W b (j + i)).isSome
      · rw [if_pos rfl, e_245_104, if_neg (by simp [c2]), nI_1, Int32.add_zero]
      · rw [if_neg (by decide), e_245_105, if_pos (by simp [c, c2]), nI_1]
  · intro b
    try dsimp only
    rw [e_245_67, if_neg (nI_nlt (Nat.le_refl _) (by omega)), e_245_114]
end CK
