/-! acts -/
section A1
variable {σ τ : SH} {W L : WW} {x : XX}
theorem InvR.t (h : InvR τ W L x) : sT τ 611 = 112 := h.1.1.1.1
theorem r249y (h : InvR τ W L x) {b : Int32} (hx : inR b 0 (nB W - 1)) : rn 249 [.ref 611, .int b] τ = some (.inl (some (.int 0)), τ) := by
  have h5 := (WF_nB h.1.2.1).2
  rw [r_249, if_pos h.t, m_201 h.1.1, onI_i, h.2.1.1, (WF_nB h.1.2.1).1, m_220y (by rw [cnt_1 (by omega)]; exact hx), onI_i, if_neg (by decide), e_249_18]
theorem r262y (h : InvR τ W L x) {b : Int32} (hx : inR b 0 (nD W - 1)) : rn 262 [.ref 611, .int b] τ = some (.inl (some (.int 0)), τ) := by
  have h5 := (WF_nD h.1.2.1).2
  rw [r_262, if_pos h.t, m_204 h.1.1, onI_i, h.2.1.1, (WF_nD h.1.2.1).1, m_220y (by rw [cnt_1 (by omega)]; exact hx), onI_i, if_neg (by decide), e_262_18]
theorem r219y (h : InvR τ W L x) {b : Int32} (hx : inR b 0 (nS W - 1)) : rn 219 [.ref 611, .int b] τ = some (.inl (some (.int 0)), τ) := by
  have h5 := (WF_nS h.1.2.1).2
  rw [r_219, if_pos h.t, m_195 h.1.1, onI_i, h.2.1.1, (WF_nS h.1.2.1).1, m_220y (by rw [cnt_1 (by omega)]; exact hx), onI_i, if_neg (by decide), e_219_18]
theorem g612 (h : InvR τ W L x) (k : Nat → SR) : gR τ 112 1 (.ref 611) k = k 612 := gR_r h.t h.1.1.1.2.1
theorem w612 (h : ShM τ) {j : Nat} (hj : j < 2061) (v : Int32) (k : SH → SR) : uI τ (.ref 612) (nI j) v k = k (wI τ 612 j v) := uI_r h.2.1.1 (by rw [h.2.2.1]; exact hj) (by rw [h.2.2.1]; decide)
theorem r612_5 (h : ShM τ) (k : Int32 → SR) : aI τ 1 (.ref 612) 5 k = k (sI τ 612 5) := m_w (j := 5) h (by omega)
theorem w612_5 (h : ShM τ) (v : Int32) (k : SH → SR) : uI τ (.ref 612) 5 v k = k (wI τ 612 5 v) := w612 (j := 5) h (by omega) v k
theorem r612_6 (h : ShM τ) (k : Int32 → SR) : aI τ 1 (.ref 612) 6 k = k (sI τ 612 6) := m_w (j := 6) h (by omega)
theorem w612_6 (h : ShM τ) (v : Int32) (k : SH → SR) : uI τ (.ref 612) 6 v k = k (wI τ 612 6 v) := w612 (j := 6) h (by omega) v k
theorem r612_7 (h : ShM τ) (k : Int32 → SR) : aI τ 1 (.ref 612) 7 k = k (sI τ 612 7) := m_w (j := 7) h (by omega)
theorem w612_7 (h : ShM τ) (v : Int32) (k : SH → SR) : uI τ (.ref 612) 7 v k = k (wI τ 612 7 v) := w612 (j := 7) h (by omega) v k
theorem r612_8 (h : ShM τ) (k : Int32 → SR) : aI τ 1 (.ref 612) 8 k = k (sI τ 612 8) := m_w (j := 8) h (by omega)
theorem w612_8 (h : ShM τ) (v : Int32) (k : SH → SR) : uI τ (.ref 612) 8 v k = k (wI τ 612 8 v) := w612 (j := 8) h (by omega) v k
theorem r612_9 (h : ShM τ) (k : Int32 → SR) : aI τ 1 (.ref 612) 9 k = k (sI τ 612 9) := m_w (j := 9) h (by omega)
theorem w612_9 (h : ShM τ) (v : Int32) (k : SH → SR) : uI τ (.ref 612) 9 v k = k (wI τ 612 9 v) := w612 (j := 9) h (by omega) v k
theorem r612_123 (h : ShM τ) (k : Int32 → SR) : aI τ 1 (.ref 612) 123 k = k (sI τ 612 123) := m_w (j := 123) h (by omega)
theorem w612_123 (h : ShM τ) (v : Int32) (k : SH → SR) : uI τ (.ref 612) 123 v k = k (wI τ 612 123 v) := w612 (j := 123) h (by omega) v k
theorem r612_124 (h : ShM τ) (k : Int32 → SR) : aI τ 1 (.ref 612) 124 k = k (sI τ 612 124) := m_w (j := 124) h (by omega)
theorem w612_124 (h : ShM τ) (v : Int32) (k : SH → SR) : uI τ (.ref 612) 124 v k = k (wI τ 612 124 v) := w612 (j := 124) h (by omega) v k
theorem r612_125 (h : ShM τ) (k : Int32 → SR) : aI τ 1 (.ref 612) 125 k = k (sI τ 612 125) := m_w (j := 125) h (by omega)
theorem w612_125 (h : ShM τ) (v : Int32) (k : SH → SR) : uI τ (.ref 612) 125 v k = k (wI τ 612 125 v) := w612 (j := 125) h (by omega) v k
theorem r612_126 (h : ShM τ) (k : Int32 → SR) : aI τ 1 (.ref 612) 126 k = k (sI τ 612 126) := m_w (j := 126) h (by omega)
theorem w612_126 (h : ShM τ) (v : Int32) (k : SH → SR) : uI τ (.ref 612) 126 v k = k (wI τ 612 126 v) := w612 (j := 126) h (by omega) v k
/-- the end of an act: what is left to show -/
theorem Opr.act {cl : SR} {rf : SH → SR} {ex : List (Nat × Int32)} {v : Int32} {W' : WW} {σa σb σ1 : SH} (hc : InvC σ W L x) (hr : InvR σ W L x) (ho : cl = some (.inl (some (.int v)), σ1)) (ha : QS σ σa) (hb : InvC σb W L (remX x W)) (hab : Fr PC RC σa σb) (zb : sZ σb = sZ σa ∧ sS σb = sS σa) (k : Kp (fun a _ => 211 ≤ a ∧ a < 237) σb σ1) (cv : CV σ1 211 W' L) (hw : WF W')
    (href : ∀ τ, InvR τ W L x → ∃ τ2, rf τ = some (.inl (some (.int v)), τ2) ∧ InvR τ2 W' L (remX x W) ∧ Kp RP τ τ2 ∧ sI τ2 611 0 = 0) : Opr cl σ rf ex W L x := by
  obtain ⟨c1, f1⟩ := hb.now k cv hw
  have za := (hc.qs ha).1.2.1
  have fr := hab.tr f1
  refine ⟨0, v, W', L, remX x W, σ1, Or.inl ⟨rfl, ho⟩, c1, (hr.qs hc.1.2 ha).pc za fr, (ha.lo hc.1.2.1).tr (Lo.pc fr za), ⟨?_, ?_, ?_⟩, fun τ c r => ?_⟩
  · have := ha.1; have := fr.1; omega
  · rw [k.Z, zb.1]; have := ha.1; omega
  · rw [k.S, zb.2]; have := ha.1; omega
  · obtain ⟨τ2, e1, e2, e3, e4⟩ := href τ r
    exact RfA.mk' e1 c e2 e3 e4
theorem Opr.no {cl : SR} {rf : SH → SR} {ex : List (Nat × Int32)} {e k : Nat} {σa : SH} (hc : InvC σ W L x) (hr : InvR σ W L x) (ha : QS σ σa) (ho : cl = some (.inr e, σa)) (he : lkH ex e = some (nI k)) (hk : 0 < k ∧ k < 10) (href : ∀ τ, InvR τ W L x → ∃ τ2, rf τ = some (.inl (some (.int 0)), τ2) ∧ InvR τ2 W L x ∧ Kp RP τ τ2 ∧ sI τ2 611 0 = nI k) : Opr cl σ rf ex W L x := by
  refine ⟨k, 0, W, L, x, σa, Or.inr ⟨hk, e, ho, he⟩, hc.qs ha, hr.qs hc.1.2 ha, ha.lo hc.1.2.1, ⟨ha.1.1, by have := ha.1; omega, by have := ha.1; omega⟩, fun τ c r => ?_⟩
  obtain ⟨τ2, e1, e2, e3, e4⟩ := href τ r
  exact RfA.mk' e1 c e2 e3 e4
theorem InvC.r12 (h : InvC σ W L x) : x.1.1 ≤ 12 := by
  obtain ⟨o, z, _⟩ := h.2.2.1
  exact z.1
theorem rp268 : ∀ a k, (a = 616 ∨ (a = 611 ∧ k = 7)) → RP a k := fun a k z => by unfold RP; omega
theorem rp0 (τ : SH) (v : Int32) : Kp RP τ (wI τ 611 0 v) := Kp.w (by unfold RP; omega)
theorem rpMJ : ∀ a k, MJ a k → RP a k := fun a k z => by unfold MJ at z; unfold RP; omega
theorem op_road (hc : InvC σ W L x) (hr : InvR σ W L x) (x0 : Int32) : Opr (rn 142 [.ref 200, .int x0] σ) σ (fun τ => rn 273 [.ref 611, .int x0] τ) [(2, 1)] W L x := by
  have h := hc.qq hr
  by_cases c1 : inR x0 0 15
  case neg =>
    refine OpQ.op (OpQ.fail (e := 2) (k := 1) (by simp only [r_142, m_139n c1, onV_i, onV_x, onI_i]) rfl (by decide) fun τ ht => ?_) hc hr
    have t0 := ht.tM
    have h0 := ht.z
    have t1 := h0.tM
    simp only [r_273, pI_r t0, if_pos t0, if_pos t1, m_229n c1, onI_i, m_216_0, m_216_1 t1, i00, i10, i1o, i0o, if_true, if_false]
    rfl
  obtain ⟨σ1, e1, c2, f1, z1, s1⟩ := m_136 hc
  have t1 := tX hc.1.1
  have hx := c2.1.1
  have cw := c2.2.1.1.2.1
  refine Opr.act (v := W 6) (W' := uW W 6 x0) (σa := σ) (σb := σ1) (σ1 := wI σ1 211 8 x0) hc hr ?_ (QS.rf σ) c2 f1 ⟨z1, s1⟩ (Kp.w (by omega)) (c2.2.1.1.z (by omega)) (c2.2.1.2.h (Or.inr (Or.inl ⟨rfl, c1⟩))) fun τ r => ?_
  · simp only [r_142, m_139y c1, onV_i, if_pos t1, e1, x2 hx, gI_r (tCo hx isC_now), pI_r (tCo hx isC_now), cw.1.2.2.2.2.1]
  · have r0 := r.z 0
    obtain ⟨τ1, p1, p2, p3⟩ := m_268 r0 hc.r12
    refine ⟨wI τ1 612 6 x0, ?_, p2.now (Kp.w ⟨rfl, by omega⟩) (by rw [sI_upd, p2.2.1.1]) (p2.1.2.1.h (Or.inr (Or.inl ⟨rfl, c1⟩))) (uW_n (by omega)), ((rp0 τ 0).tr (p3.mono rp268)).wr (by unfold RP; omega), ?_⟩
    · simp only [r_273, e_273_19, pI_r r.t, if_pos r0.t, m_229y c1, onI_i, onV_i, m_216_0, i00, if_true, if_false, p1, g612 p2, r612_6 p2.1.1, w612_6 p2.1.1, p2.2.1.1]
    · rw [sI_wIn (by omega), p3.2 _ _ (by omega), sI_wIs]
theorem op_tell (hc : InvC σ W L x) (hr : InvR σ W L x) (x0 x1 : Int32) : Opr (rn 141 [.ref 200, .int x0, .int x1] σ) σ (fun τ => rn 272 [.ref 611, .int x0, .int x1] τ) [(2, 1), (0, 2)] W L x := by
  have h := hc.qq hr
  by_cases c1 : inR x0 0 (nS W - 1)
  case neg =>
    refine OpQ.op (OpQ.fail (e := 2) (k := 1) (by simp only [r_141, if_pos (tX h.x), m_123n h c1, onV_i, onV_x, onI_i]) rfl (by decide) fun τ ht => ?_) hc hr
    have t0 := ht.tM
    have h0 := ht.z
    have t1 := h0.tM
    simp only [r_272, e_272_40, pI_r t0, if_pos t0, if_pos t1, m_219n h0 c1, onI_i, m_216_0, m_216_1 t1, i00, i10, i1o, i0o, if_true, if_false]
    rfl
  by_cases c2 : inR x1 0 2
  case neg =>
    refine OpQ.op (OpQ.fail (e := 0) (k := 2) ?_ rfl (by decide) fun τ ht => ?_) hc hr
    · simp only [r_141, if_pos (tX h.x), m_123y h c1, onV_i, e_141_14]
      unfold inR at c2
      have z0 : (0 : Int32).toInt = 0 := by decide
      have z2 : (2 : Int32).toInt = 2 := by decide
      by_cases q : x1 < 0
      · rw [if_pos q]
      · rw [if_neg q, if_pos (by rw [tlt, z0] at q; rw [tlt, z2]; omega)]
    · have t0 := ht.tM
      have h0 := ht.z
      have t1 := h0.tM
      simp only [r_272, e_272_33, pI_r t0, if_pos t0, if_pos t1, m_219y h0 c1, m_220n (lo := 0) (hi := 2) c2, onI_i, m_216_0, m_216_1 t1, i00, i10, i1o, i0o, if_true, if_false]
      rfl
  obtain ⟨s, us, -, rfl⟩ := inR_n c1 (Int.le_refl 0)
  have hs : s < nS W := by omega
  have l6 := (WF_nS h.w).2
  have l5 := (WF_nB h.w).2
  have n1 : ¬ x1 < 0 := by
    have z0 : (0 : Int32).toInt = 0 := by decide
    unfold inR at c2
    rw [tlt, z0]; omega
  have n2 : ¬ (2 : Int32) < x1 := by
    have z0 : (2 : Int32).toInt = 2 := by decide
    unfold inR at c2
    rw [tlt, z0]; omega
  obtain ⟨σ1, e1, c3, f1, z1, s1⟩ := m_136 hc
  have hx := c3.1.1
  have hS := hx.2.2.2.2.2.2.2.2 211 isC_now
  have cw := c3.2.1.1.2.1
  have ts := (hS.2.2.2.1 s (by omega)).2
  refine Opr.act (v := sh W s 6) (W' := uW W (10 + 7 * s + 6) x1) (σa := σ) (σb := σ1) (σ1 := wI σ1 (211 + 7 + s) 6 x1) hc hr ?_ (QS.rf σ) c3 f1 ⟨z1, s1⟩ (Kp.w (by omega)) (c3.2.1.1.s (by omega) (by omega)) (c3.2.1.2.s6 (by omega) c2 l6 l5) fun τ r => ?_
  · simp only [r_141, e_141_24, if_pos (tX h.x), m_123y h c1, onV_i, if_neg n1, if_neg n2, e1, x2 hx, gR_r hS.1.1 hS.1.2.1, cS hS (show s < 6 by omega), gI_r ts, pI_r ts, cw.2.1 s 6 hs (by omega)]
  · have r0 := r.z 0
    obtain ⟨τ1, p1, p2, p3⟩ := m_268 r0 hc.r12
    have ei : ((10 : Int32) + 7 * nI s) + 6 = nI (10 + 7 * s + 6) := ix_3 10 7 s 6
    refine ⟨wI τ1 612 (10 + 7 * s + 6) x1, ?_, p2.now (Kp.w ⟨rfl, by omega⟩) (by rw [sI_upd, p2.2.1.1]) (p2.1.2.1.s6 (by omega) c2 l6 l5) (uW_n (by omega)), ((rp0 τ 0).tr (p3.mono rp268)).wr (by unfold RP; omega), ?_⟩
    · simp only [r_272, e_272_32, e_272_42, pI_r r.t, if_pos r.t, if_pos r0.t, if_pos p2.t, r219y r0 c1, m_220y (lo := 0) (hi := 2) c2, onI_i, onV_i, m_216_0, i00, i10, if_true, if_false, p1, g612 p2, m_221 (s := s) (f := 6) p2.1.1 (by omega), ei, w612 p2.1.1 (show 10 + 7 * s + 6 < 2061 by omega), p2.2.1.1]
    · rw [sI_wIn (by omega), p3.2 _ _ (by omega), sI_wIs]
theorem op_go (hc : InvC σ W L x) (hr : InvR σ W L x) (x0 x1 : Int32) : Opr (rn 138 [.ref 200, .int x0, .int x1] σ) σ (fun τ => rn 271 [.ref 611, .int x0, .int x1] τ) [(2, 1), (0, 2)] W L x := by
  have h := hc.qq hr
  by_cases c1 : inR x0 0 (nB W - 1)
  case neg =>
    refine OpQ.op (OpQ.fail (e := 2) (k := 1) (by simp only [r_138, if_pos (tX h.x), m_125n h c1, onV_i, onV_x, onI_i]) rfl (by decide) fun τ ht => ?_) hc hr
    have t0 := ht.tM
    have h0 := ht.z
    have t1 := h0.tM
    simp only [r_271, e_271_21, e_271_26, pI_r t0, if_pos t0, if_pos t1, m_249n h0 c1, onI_i, m_216_0, m_216_1 t1, i00, i10, i1o, i0o, if_true, if_false]
    rfl
  by_cases c2 : inR x1 0 15
  case neg =>
    refine OpQ.op (OpQ.fail (e := 2) (k := 1) (by simp only [r_138, if_pos (tX h.x), m_125y h c1, m_139n c2, onV_i, onV_x, onI_i]) rfl (by decide) fun τ ht => ?_) hc hr
    have t0 := ht.tM
    have h0 := ht.z
    have t1 := h0.tM
    simp only [r_271, e_271_21, e_271_26, pI_r t0, if_pos t0, if_pos t1, m_249y h0 c1, m_229n c2, onI_i, m_216_0, m_216_1 t1, i00, i10, i1o, i0o, if_true, if_false]
    rfl
  obtain ⟨b, ub, -, rfl⟩ := inR_n c1 (Int.le_refl 0)
  have hb : b < nB W := by omega
  obtain ⟨g, ug, -, rfl⟩ := inR_n c2 (Int.le_refl 0)
  have hg : g < 16 := by omega
  have l5 := (WF_nB h.w).2
  have hS := h.s
  have tb := (hS.2.2.2.2.1 b (by omega)).2
  have cw := h.c
  have wb := (h.w.2.2.1 b hb).2.1
  obtain ⟨w1, w2⟩ := btw_nI wb
  obtain ⟨σ1, p1, p2⟩ := q9 h hb
  have far : rn 140 [.int (br W b 1), .int (nI g)] σ = some (.inl (some (.int (nI (farN (br W b 1).toInt.toNat g)))), σ) := by
    rw [w1, ← w1]
    have := m_140 (x := (br W b 1).toInt.toNat) (y := g) (by omega) hg σ
    rw [← w1] at this
    exact this
  have head : rn 138 [.ref 200, .int (nI b), .int (nI g)] σ = (if (walk W L b < nI (farN (br W b 1).toInt.toNat g) : Prop) then (some (.inr 0, mkC σ1 0 0 6)) else (exec PP 5 138 52 [some (.ref 200), some (.int (nI b)), some (.int (nI g)), some (.ref (211 + 13 + b)), some (.int (nI (farN (br W b 1).toInt.toNat g)))] [] σ1)) := by
    simp only [r_138, if_pos (tX h.x), m_125y h c1, m_139y c2, onV_i, x2 h.x, gR_r hS.1.1 hS.1.2.2.1, cB hS (show b < 5 by omega), gI_r tb, cw.2.2.1 b 1 hb (by omega), far, onI_i, if_pos hS.1.1, p1]
  have rhead : ∀ (τ : SH) (x' : XX), InvR τ W L x' → ∃ τ1, rn 271 [.ref 611, .int (nI b), .int (nI g)] τ = (if (walk W L b < nI (farN (br W b 1).toInt.toNat g) : Prop) then (some (.inl (some (.int 0)), wI τ1 611 0 2)) else (exec PP 9 271 71 [some (.ref 611), some (.int (nI b)), some (.int (nI g)), some (.int (nI (farN (br W b 1).toInt.toNat g)))] [] τ1)) ∧ Kp MJ (wI τ 611 0 0) τ1 ∧ InvR τ1 W L x' := by
    intro τ x' r
    have r0 := r.z 0
    obtain ⟨τ1, q1, q2⟩ := m_250 r0.mt (b := b) (by rw [r0.2.1.1]; exact hb)
    rw [r0.2.1.1, r0.2.1.2] at q1
    have r1 := r0.mj q2
    refine ⟨τ1, ?_, q2, r1⟩
    have ab : rn 326 [.int (br W b 1 - nI g)] (wI τ 611 0 0) = some (.inl (some (.int (nI (farN (br W b 1).toInt.toNat g)))), wI τ 611 0 0) := by
      have := abs_far (show (br W b 1).toInt.toNat < 16 by omega) hg
      rw [← w1] at this
      rw [m_326, this]
    simp only [r_271, e_271_25, e_271_35, pI_r r.t, if_pos r0.t, r249y r0 c1, m_229y c2, onI_i, m_216_0, i00, if_true, m_251 (b := b) (f := 1) r0.1.1 (by omega), r0.2.1.1, ab, q1]
    by_cases z : walk W L b < nI (farN (br W b 1).toInt.toNat g)
    · simp only [z, if_true, e_271_62, if_pos r1.t, m_216_1 r1.t, onI_i, i10]
    · simp only [z, if_true, if_false, e_271_61, if_pos r1.t, m_216_0, onI_i, i00]
  have k1 := (p2.mono Jr_scr).qs
  by_cases z : walk W L b < nI (farN (br W b 1).toInt.toNat g)
  · refine Opr.no (e := 0) (k := 2) hc hr (k1.tr p2.Z p2.S (QS.mk σ1)) (by rw [head, if_pos z]) rfl (by decide) fun τ r => ?_
    obtain ⟨τ1, q1, q2, q3⟩ := rhead τ x r
    exact ⟨_, by show rn 271 _ τ = _; rw [q1, if_pos z], q3.z 2, ((rp0 τ 0).tr (q2.mono rpMJ)).tr (rp0 τ1 2), sI_wIs _ _ _ _⟩
  · have c3 := hc.qs k1
    obtain ⟨σ2, e1, c4, f1, z1, s1⟩ := m_136 c3
    have hS2 := c4.1.1.2.2.2.2.2.2.2.2 211 isC_now
    have tb2 := (hS2.2.2.2.2.1 b (by omega)).2
    have l6 := (WF_nS h.w).2
    refine Opr.act (v := nI (farN (br W b 1).toInt.toNat g)) (W' := uW W (52 + 3 * b + 1) (nI g)) (σa := σ1) (σb := σ2) (σ1 := wI σ2 (211 + 13 + b) 1 (nI g)) hc hr ?_ k1 c4 f1 ⟨z1, s1⟩ (Kp.w (by omega)) (c4.2.1.1.b (by omega) (by omega) l6) (c4.2.1.2.b1 (by omega) c2) fun τ r => ?_
    · rw [head, if_neg z]
      simp only [e_138_52, if_pos (tX c3.1.1), e1, onV_i, pI_r tb2]
    · obtain ⟨τ1, q1, q2, q3⟩ := rhead τ x r
      obtain ⟨τ2, q4, q5, q6⟩ := m_268 q3 hc.r12
      refine ⟨wI τ2 612 (52 + 3 * b + 1) (nI g), ?_, q5.now (Kp.w ⟨rfl, by omega⟩) (by rw [sI_upd, q5.2.1.1]) (q5.1.2.1.b1 (by omega) c2) (uW_n (by omega)), (((rp0 τ 0).tr (q2.mono rpMJ)).tr (q6.mono rp268)).wr (by unfold RP; omega), ?_⟩
      · show rn 271 _ τ = _
        rw [q1, if_neg z]
        simp only [e_271_71, if_pos q3.t, q4, onV_i, g612 q5, m_202 (b := b) (f := 1), onI_i, w612 q5.1.1 (show 52 + 3 * b + 1 < 2061 by omega)]
      · rw [sI_wIn (by omega), q6.2 _ _ (by omega), q2.2 _ _ (by unfold MJ; omega), sI_wIs]
end A1
