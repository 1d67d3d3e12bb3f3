section QF
variable {σ : SH} {W L : WW}
theorem w293 (h : ShX σ) {j : Nat} (hj : j < 8) (x : Int32) (k : SH → SR) : uI σ (.ref 293) (nI j) x k = k (wI σ 293 j x) := uI_r h.2.2.2.2.2.2.1.1 (by rw [h.2.2.2.2.2.2.1.2.2.2.2.2.2.1]; exact hj) (by rw [h.2.2.2.2.2.2.1.2.2.2.2.2.2.1]; decide)
theorem w294 (h : ShX σ) {j : Nat} (hj : j < 8) (x : Int32) (k : SH → SR) : uI σ (.ref 294) (nI j) x k = k (wI σ 294 j x) := uI_r h.2.2.2.2.2.2.1.2.1 (by rw [h.2.2.2.2.2.2.1.2.2.2.2.2.2.2.1]; exact hj) (by rw [h.2.2.2.2.2.2.1.2.2.2.2.2.2.2.1]; decide)
theorem w620 (h : ShM σ) {j : Nat} (hj : j < 8) (x : Int32) (k : SH → SR) : uI σ (.ref 620) (nI j) x k = k (wI σ 620 j x) := uI_r h.2.1.2.2.2.2.2.2.2.2.1 (by rw [h.2.2.2.2.2.2.2.2.2.2.1]; exact hj) (by rw [h.2.2.2.2.2.2.2.2.2.2.1]; decide)
theorem w621 (h : ShM σ) {j : Nat} (hj : j < 8) (x : Int32) (k : SH → SR) : uI σ (.ref 621) (nI j) x k = k (wI σ 621 j x) := uI_r h.2.1.2.2.2.2.2.2.2.2.2.1 (by rw [h.2.2.2.2.2.2.2.2.2.2.2.1]; exact hj) (by rw [h.2.2.2.2.2.2.2.2.2.2.2.1]; decide)
theorem g21 (h : ShM σ) (k : Nat → SR) : gR σ 112 21 (.ref 611) k = k 620 := gR_r h.1.1 h.1.2.2.2.2.2.2.2.2.2.1
theorem g22 (h : ShM σ) (k : Nat → SR) : gR σ 112 22 (.ref 611) k = k 621 := gR_r h.1.1 h.1.2.2.2.2.2.2.2.2.2.2.1
/-- the class's gains -/
def gC (W L : WW) (b : Nat) (i : Nat) : Int32 := if de W i 4 = -1 then gaN W L b i else 0
theorem mkR.j {σ' : SH} {a n : Nat} {f : Nat → Int32} (h : mkR σ a f n) (k : Kp (Jr σ) σ σ') (ha : 292 < a ∧ a < 299) : mkR σ' a f n := fun i hi => by
  rw [k.2 a i (fun z => by unfold Jr at z; omega)]
  exact h i hi
theorem mkR.j6 {σ' : SH} {a n : Nat} {f : Nat → Int32} (h : mkR σ a f n) (k : Kp (Jr σ) σ σ') (ha : a = 620 ∨ a = 621) : mkR σ' a f n := fun i hi => by
  rw [k.2 a i (fun z => by unfold Jr at z; omega)]
  exact h i hi
theorem mkR.w {a b n j : Nat} {f : Nat → Int32} {x : Int32} (h : mkR σ a f n) (hb : b ≠ a) : mkR (wI σ b j x) a f n := fun i hi => by
  rw [sI_wIn (by omega)]; exact h i hi
theorem mkR.s {a n : Nat} {f : Nat → Int32} (h : mkR σ a f n) : mkR (wI σ a n (f n)) a f (n + 1) := fun i hi => by
  by_cases e : i = n
  · subst e; exact sI_wIs _ _ _ _
  · rw [sI_wIn (by omega)]; exact h i (by omega)
theorem ow_bt (hW : WF W) {i : Nat} (hi : i < nD W) : bt (owS W) i = decide (de W i 4 ≠ -1) := by
  have := (WF_nD hW).2
  unfold owS
  rw [b_bs _ (by omega) (by omega), decide_eq_true hi, Bool.true_and]
theorem m_61 (h : QQ σ W L) {b : Nat} (hb : b < nB W) : ∃ σ', rn 61 [.ref 292, .int (nI b)] σ = some (.inl (some (.int (nI (deN W L b)))), σ') ∧ Kp (Scr σ) σ σ' ∧ mkR σ' 294 (gC W L b) (nD W) := by
  have h8 := (WF_nD h.w).2
  rw [r_61, mk0 h.x, if_pos h.tC, m_8 h, onI_i]
  obtain ⟨σ', k1, k2, k3, k4⟩ := lpS (F := fun i (_ : Unit) σ => exec PP 6 61 10 [some (.ref 292), some (.int (nI b)), some (.int (owS W)), some (.int (nI i)), none, none] [] σ) (g := fun _ u => u) (K := fun _ σ => exec PP 6 61 74 [some (.ref 292), some (.int (nI b)), some (.int (owS W)), some (.int 0), some (.int 0), some (.int 1)] [] σ) (I := fun i _ σ2 => Kp (Scr σ) σ σ2 ∧ mkR σ2 293 (cost W L b) i ∧ mkR σ2 294 (gC W L b) i) (n := nD W) (by
    rintro i u σ2 hi ⟨hk, hc, hg⟩
    have h2 := h.k hk
    obtain ⟨σ3, p1, p2⟩ := q14 h2 (b := b) hi
    have h3 := h2.j p2
    have w3 : Kp (Scr σ) σ (wI σ3 293 i (cost W L b i)) := (hk.sc (p2.mono Jr_scr)).wr (by unfold Scr; omega)
    have h4 := h.k w3
    have hc4 : mkR (wI σ3 293 i (cost W L b i)) 293 (cost W L b) (i + 1) := (hc.j p2 (by omega)).s
    have hg4 : mkR (wI σ3 293 i (cost W L b i)) 294 (gC W L b) i := (hg.j p2 (by omega)).w (by omega)
    have base : exec PP 6 61 10 [some (.ref 292), some (.int (nI b)), some (.int (owS W)), some (.int (nI i)), none, none] [] σ2 = (if decide (de W i 4 ≠ -1) = false then exec PP 6 61 53 [some (.ref 292), some (.int (nI b)), some (.int (owS W)), some (.int (nI i)), none, none] [.int (nI i), .ref 294] (wI σ3 293 i (cost W L b i)) else exec PP 6 61 59 [some (.ref 292), some (.int (nI b)), some (.int (owS W)), some (.int (nI i)), none, none] [.int 0, .int (nI i), .ref 294] (wI σ3 293 i (cost W L b i))) := by
      rw [e_61_10, mk0 h2.x, c6 h2, if_pos (nI_lt hi (by omega)), mk2 h2.x, mk0 h2.x, if_pos h2.tC, p1, onI_i, w293 h3.x (by omega), mk3 h4.x, m_128 _ (by omega), onI_i, iB, ow_bt h.w hi]
    rw [base]
    by_cases c : de W i 4 = -1
    · obtain ⟨σ5, q1, q2⟩ := m_60 h4 (b := b) hi
      have h5 := h4.j q2
      have ge : gC W L b i = gaN W L b i := if_pos c
      refine ⟨wI σ5 294 i (gC W L b i), ?_, (w3.sc (q2.mono Jr_scr)).wr (by unfold Scr; omega), (hc4.j q2 (by omega)).w (by omega), (hg4.j q2 (by omega)).s⟩
      rw [if_pos (by simp [c]), e_61_53, if_pos (tMk h4.x), q1, onI_i, w294 h5.x (by omega), nI_1, ge]
    · have ge : gC W L b i = 0 := if_neg c
      refine ⟨wI (wI σ3 293 i (cost W L b i)) 294 i (gC W L b i), ?_, w3.wr (by unfold Scr; omega), hc4.w (by omega), hg4.s⟩
      rw [if_neg (by simp [c]), e_61_59, w294 h4.x (by omega), nI_1, ge]) (by
    rintro u σ2 ⟨hk, -, -⟩
    have h2 := h.k hk
    rw [e_61_10, mk0 h2.x, c6 h2, if_neg (nI_nlt (Nat.le_refl _) (by omega)), e_61_66]) (nD W) 0 () σ (by omega) ⟨Kp.rf _, fun i hi => by omega, fun i hi => by omega⟩
  have h' := h.k k2
  refine ⟨σ', k1.trans ?_, k2, k4⟩
  have P256 : 2 ^ nD W ≤ 256 := Nat.pow_le_pow_right (n := 2) (by omega) (by omega : nD W ≤ 8)
  have P1 : 1 ≤ 2 ^ nD W := Nat.one_le_two_pow
  have gop : ∀ m, opB W m = true → smS (gC W L b) (nD W) m = smS (gaN W L b) (nD W) m := fun m ho => smS_open h.w ho fun i _ e => if_pos e
  have z0 : smS (gC W L b) (nD W) 0 = 0 := fo_id _ _ _ fun j s _ _ => by rw [if_neg (by rw [Nat.zero_testBit]; decide)]
  have key := lpI (F := fun m x => exec PP 6 61 74 [some (.ref 292), some (.int (nI b)), some (.int (owS W)), some (.int (nI x)), some (.int (smS (gC W L b) (nD W) x)), some (.int (nI m))] [] σ') (g := deg W L b) (K := fun x => some (.inl (some (.int (nI x))), σ')) (I := fun _ x => opB W x = true) (n := 2 ^ nD W) (by
    intro m x hm hx
    have hx' : opB W (deg W L b m x) = true := deg_op h.w 1 m x hx
    refine ⟨?_, hx'⟩
    try dsimp only
    rw [e_61_74, mk0 h'.x, c6 h', shl1N _ (by omega), if_pos (nI_lt hm (by omega))]
    have d0 : ¬ (opB W m = true ∧ ¬ br W b 0 < smS (cost W L b) (nD W) m ∧ smS (gaN W L b) (nD W) x < smS (gaN W L b) (nD W) m) → deg W L b m x = x := fun z => if_neg z
    have d1 : (opB W m = true ∧ ¬ br W b 0 < smS (cost W L b) (nD W) m ∧ smS (gaN W L b) (nD W) x < smS (gaN W L b) (nD W) m) → deg W L b m x = m := fun z => if_pos z
    by_cases c1 : nI m &&& owS W = 0
    · have ho : opB W m = true := decide_eq_true c1
      rw [if_pos c1, if_pos (tMk h'.x), m_62 h' k3, onI_i, mk0 h'.x, cs1 h', cB' h' hb, gB h' hb (by omega)]
      by_cases c2 : br W b 0 < smS (cost W L b) (nD W) m
      · rw [if_pos c2, e_61_138, nI_1, d0 (fun z => z.2.1 c2)]
      · rw [if_neg c2, if_pos (tMk h'.x), m_63 h' k4, onI_i, gop m ho, gop x hx]
        by_cases c3 : smS (gaN W L b) (nD W) x < smS (gaN W L b) (nD W) m
        · rw [if_pos c3, if_pos (tMk h'.x), m_63 h' k4, onI_i, nI_1, d1 ⟨ho, c2, c3⟩]
        · rw [if_neg c3, e_61_138, nI_1, d0 (fun z => c3 z.2.2), gop x hx]
    · have ho : ¬ opB W m = true := fun z => c1 (of_decide_eq_true z)
      rw [if_neg c1, e_61_138, nI_1, d0 (fun z => ho z.1)]) (by
    intro x hx
    try dsimp only
    rw [e_61_74, mk0 h'.x, c6 h', shl1N _ (by omega), if_neg (nI_nlt (Nat.le_refl _) (by omega)), e_61_144]) (2 ^ nD W - 1) 1 0 (by omega) (op_0 W)
  rw [z0] at key
  exact key
/-! in the reference -/
theorem opS_bits (hW : WF W) : ∃ o, o < 2 ^ nD W ∧ bs (fun d => decide (de W d 4 = -1)) (nD W) = nI o ∧ ∀ m, m < 2 ^ nD W → (nI m &&& (nI o ^^^ (-1)) = 0 ↔ opB W m = true) ∧ (opB W m = true → m ≤ o) := by
  have h8 := (WF_nD hW).2
  obtain ⟨o, o1, o2, o3⟩ := bsN (p := fun d => decide (de W d 4 = -1)) (n := nD W) (by omega)
  have P256 : 2 ^ nD W ≤ 256 := Nat.pow_le_pow_right (n := 2) (by omega) (by omega : nD W ≤ 8)
  have tl : ∀ m, m < 2 ^ nD W → ∀ i, m.testBit i = true → i < nD W := fun m hm i e => by
    by_cases hlt : i < nD W
    · exact hlt
    · have : m < 2 ^ i := Nat.lt_of_lt_of_le hm (Nat.pow_le_pow_right (by omega) (by omega))
      rw [Nat.testBit_lt_two_pow this] at e
      cases e
  refine ⟨o, o1, o2, fun m hm => ⟨?_, fun ho => ?_⟩⟩
  · rw [op_bits hW]
    refine ⟨fun e i hi hb => ?_, fun e => b_ext fun i hi => ?_⟩
    · have := congrArg (fun x => bt x i) e
      try dsimp only at this
      rw [b_and, b_xor, b_0, bt_nI _ (by omega), bt_nI _ (by omega), hb, b_m1 i (by omega), Bool.true_and, o3 i, decide_eq_true hi, Bool.true_and] at this
      simpa using this
    · rw [b_and, b_xor, b_0, bt_nI _ hi, bt_nI _ hi, b_m1 i hi, o3 i]
      cases hb : m.testBit i
      · rfl
      · have hd := tl m hm i hb
        rw [decide_eq_true hd, e i hd hb]; simp
  · refine tb_le fun i hb => ?_
    have hd := tl m hm i hb
    rw [o3 i, decide_eq_true hd, (op_bits hW).mp ho i hd hb]; simp
theorem m_290' (h : QQ σ W L) {b : Nat} (hb : b < nB W) {mu : Int32} (o3 o4 o5 : Option Value) : ∃ σ', exec PP 10 290 20 [some (.ref 611), some (.int (nI b)), some (.int mu), o3, o4, o5] [] σ = some (.inl (some (.int (if mu = 0 then nI (deN W L b) else smS (gaN W L b) (nD W) (deN W L b)))), σ') ∧ Kp (Sq σ) σ σ' := by
  have h8 := (WF_nD h.w).2
  have h5 := (WF_nB h.w).2
  obtain ⟨o, o1, o2, o3'⟩ := opS_bits h.w
  rw [e_290_20]
  obtain ⟨σ', k1, k2, k3, k4⟩ := lpS (F := fun i s σ => exec PP 10 290 25 [some (.ref 611), some (.int (nI b)), some (.int mu), some (.int s), some (.int (nI i)), none] [] σ) (g := bsg (fun d => decide (de W d 4 = -1))) (K := fun s σ => exec PP 10 290 94 [some (.ref 611), some (.int (nI b)), some (.int mu), some (.int s), some (.int 0), some (.int 1)] [] σ) (I := fun i _ σ2 => Kp (Sq σ) σ σ2 ∧ mkR σ2 620 (cost W L b) i ∧ mkR σ2 621 (gaN W L b) i) (n := nD W) (by
    rintro i s σ2 hi ⟨hk, hc, hg⟩
    have h2 := h.kq hk
    obtain ⟨σ3, p1, p2⟩ := q264 h2 (b := b) (by omega) hi
    have h3 := h2.j p2
    have w3 : Kp (Sq σ) σ (wI σ3 620 i (cost W L b i)) := (hk.sq (p2.mono Jr_sq)).wr (by unfold Sq Scr; omega)
    have h4 := h.kq w3
    have hc4 : mkR (wI σ3 620 i (cost W L b i)) 620 (cost W L b) (i + 1) := (hc.j6 p2 (by omega)).s
    have hg4 : mkR (wI σ3 620 i (cost W L b i)) 621 (gaN W L b) i := (hg.j6 p2 (by omega)).w (by omega)
    obtain ⟨σ5, q1, q2⟩ := m_289 h4 (b := b) (by omega) hi
    have h5 := h4.j q2
    have w5 : Kp (Sq σ) σ (wI σ5 621 i (gaN W L b i)) := (w3.sq (q2.mono Jr_sq)).wr (by unfold Sq Scr; omega)
    have h6 := h.kq w5
    refine ⟨wI σ5 621 i (gaN W L b i), ?_, w5, (hc4.j6 q2 (by omega)).w (by omega), (hg4.j6 q2 (by omega)).s⟩
    rw [e_290_25, if_pos h2.tM, q204 h2, onI_i, if_pos (nI_lt hi (by omega)), g21 h2.m, if_pos h2.tM, p1, onI_i, w620 h3.m (by omega), g22 h4.m, if_pos h4.tM, q1, onI_i, w621 h5.m (by omega), if_pos h6.tM, q256 h6 (by omega), onI_i, iB]
    have n0 : ¬ de W i 4 = -1 → bsg (fun d => decide (de W d 4 = -1)) i s = s := fun z => if_neg (by simp [z])
    have n1 : de W i 4 = -1 → bsg (fun d => decide (de W d 4 = -1)) i s = s ||| shl 1 (nI i) := fun z => if_pos (by simp [z])
    by_cases c : de W i 4 = -1
    · rw [if_pos (by simp [c]), e_290_76, n1 c, nI_1]
    · rw [if_neg (by simp [c]), e_290_80, n0 c, nI_1, or_0]) (by
    rintro s σ2 ⟨hk, -, -⟩
    have h2 := h.kq hk
    rw [e_290_25, if_pos h2.tM, q204 h2, onI_i, if_neg (nI_nlt (Nat.le_refl _) (by omega)), e_290_88]) (nD W) 0 0 σ (by omega) ⟨Kp.rf _, fun i hi => by omega, fun i hi => by omega⟩
  have h' := h.kq k2
  have P256 : 2 ^ nD W ≤ 256 := Nat.pow_le_pow_right (n := 2) (by omega) (by omega : nD W ≤ 8)
  have P1 : 1 ≤ 2 ^ nD W := Nat.one_le_two_pow
  have e0 : fo (bsg (fun d => decide (de W d 4 = -1))) 0 (nD W) 0 = nI o := o2
  rw [e0] at k1
  have sC : ∀ m, m < 2 ^ nD W → rn 291 [.ref 620, .int (nI m)] σ' = some (.inl (some (.int (smS (cost W L b) (nD W) m))), σ') := fun m hm => by
    rw [m_291 (f := cost W L b) h'.m.2.1.2.2.2.2.2.2.2.2.1 h'.m.2.2.2.2.2.2.2.2.2.2.1 (fun i hi e => k3 i (by
      by_cases hlt : i < nD W
      · exact hlt
      · have : m < 2 ^ i := Nat.lt_of_lt_of_le hm (Nat.pow_le_pow_right (by omega) (by omega))
        rw [Nat.testBit_lt_two_pow this] at e
        cases e)), smS_8 h8 hm]
  have sG : ∀ m, m < 2 ^ nD W → rn 291 [.ref 621, .int (nI m)] σ' = some (.inl (some (.int (smS (gaN W L b) (nD W) m))), σ') := fun m hm => by
    rw [m_291 (f := gaN W L b) h'.m.2.1.2.2.2.2.2.2.2.2.2.1 h'.m.2.2.2.2.2.2.2.2.2.2.2.1 (fun i hi e => k4 i (by
      by_cases hlt : i < nD W
      · exact hlt
      · have : m < 2 ^ i := Nat.lt_of_lt_of_le hm (Nat.pow_le_pow_right (by omega) (by omega))
        rw [Nat.testBit_lt_two_pow this] at e
        cases e)), smS_8 h8 hm]
  have key := lpI (F := fun m x => exec PP 10 290 94 [some (.ref 611), some (.int (nI b)), some (.int mu), some (.int (nI o)), some (.int (nI x)), some (.int (nI m))] [] σ') (g := deg W L b) (K := fun x => exec PP 10 290 158 [some (.ref 611), some (.int (nI b)), some (.int mu), some (.int (nI o)), some (.int (nI x)), some (.int (nI (o + 1)))] [] σ') (I := fun _ x => x < 2 ^ nD W) (n := o + 1) (by
    intro m x hm hx
    have hm2 : m < 2 ^ nD W := by omega
    have hx' : deg W L b m x < 2 ^ nD W := deg_lt 1 m x _ (by omega) hx
    refine ⟨?_, hx'⟩
    try dsimp only
    obtain ⟨i1, i2⟩ := o3' m hm2
    rw [e_290_94, if_neg (nI_nlt (by omega) (by omega))]
    have d0 : ¬ (opB W m = true ∧ ¬ br W b 0 < smS (cost W L b) (nD W) m ∧ smS (gaN W L b) (nD W) x < smS (gaN W L b) (nD W) m) → deg W L b m x = x := fun z => if_neg z
    have d1 : (opB W m = true ∧ ¬ br W b 0 < smS (cost W L b) (nD W) m ∧ smS (gaN W L b) (nD W) x < smS (gaN W L b) (nD W) m) → deg W L b m x = m := fun z => if_pos z
    by_cases c1 : nI m &&& (nI o ^^^ (-1)) = 0
    · have ho := i1.mp c1
      rw [if_pos c1, g21 h'.m, sC m hm2, onI_i, if_pos h'.tM, q251 (f := 0) h' (by omega), onI_i]
      by_cases c2 : br W b 0 < smS (cost W L b) (nD W) m
      · rw [if_pos c2, e_290_152, nI_1, d0 (fun z => z.2.1 c2)]
      · rw [if_neg c2, g22 h'.m, sG m hm2, onI_i, g22 h'.m, sG x hx, onI_i]
        by_cases c3 : smS (gaN W L b) (nD W) x < smS (gaN W L b) (nD W) m
        · rw [if_pos c3, nI_1, d1 ⟨ho, c2, c3⟩]
        · rw [if_neg c3, e_290_152, nI_1, d0 (fun z => c3 z.2.2)]
    · rw [if_neg c1, e_290_152, nI_1, d0 (fun z => c1 (i1.mpr z.1))]) (by
    intro x hx
    try dsimp only
    rw [e_290_94, if_pos (nI_lt (by omega) (by omega))]) o 1 0 (by omega) (by omega)
  have dd : fo (deg W L b) 1 o 0 = deN W L b := by
    unfold deN
    rw [show 2 ^ nD W - 1 = o + (2 ^ nD W - 1 - o) by omega, fo_add]
    refine (fo_id _ _ _ fun m x h1 h2 => if_neg fun z => ?_).symm
    have := (o3' m (by omega)).2 z.1
    omega
  rw [dd] at key
  have hdn : deN W L b < 2 ^ nD W := deg_lt _ _ _ _ (by omega) (by omega)
  refine ⟨σ', k1.trans (key.trans ?_), k2⟩
  rw [e_290_158]
  by_cases c : mu = 0
  · rw [if_pos c, if_pos c, e_290_174]
  · rw [if_neg c, if_neg c, g22 h'.m, sG _ hdn, onI_i, e_290_176]
end QF
