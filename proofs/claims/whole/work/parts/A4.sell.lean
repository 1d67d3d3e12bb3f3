section A4
variable {σ τ : SH} {W L : WW} {x : XX}
theorem m257' {ρ : SH} (h : ShM τ) (e : ρ.2 = τ.2) {d f : Nat} (hj : 67 + 7 * d + f < 2061) : rn 257 [.ref 611, .int (nI d), .int (OfNat.ofNat f)] ρ = some (.inl (some (.int (de (sI ρ 612) d f))), ρ) := m_257 (h.e e) hj
theorem m270' {ρ : SH} (h : ShM τ) (e : ρ.2 = τ.2) {b : Nat} (hb : b < 5) (v : Int32) : rn 270 [.ref 611, .int (nI b), .int v] ρ = some (.inl none, wI ρ 612 (52 + 3 * b + 0) (ern (br (sI ρ 612) b 0) v)) := m_270 (h.e e) hb v
/-- the world when b has bought d of o for c -/
def selW (W : WW) (d b o : Nat) (c : Int32) : WW := uW (uW (uW W (52 + 3 * b + 0) (br W b 0 - c)) (52 + 3 * o + 0) (ern (br W o 0) c)) (67 + 7 * d + 4) (nI b)
theorem op_sell (hc : InvC σ W L x) (hr : InvR σ W L x) (x0 x1 : Int32) : Opr (rn 137 [.ref 200, .int x0, .int x1] σ) σ (fun τ => rn 269 [.ref 611, .int x0, .int x1] τ) [(2, 1), (0, 2), (4, 3)] W L x := by
  have h := hc.qq hr
  by_cases c2 : inR x0 0 (nD W - 1)
  case neg =>
    refine OpQ.op (OpQ.fail (e := 2) (k := 1) (by simp only [r_137, if_pos (tX h.x), m_130n h c2, onV_i, onV_x, onI_i]) rfl (by decide) fun τ ht => ?_) hc hr
    have t0 := ht.tM
    have h0 := ht.z
    have t1 := h0.tM
    by_cases c1 : inR x1 0 (nB W - 1)
    · simp only [r_269, e_269_22, e_269_27, e_269_93, pI_r t0, if_pos t0, if_pos t1, m_249y h0 c1, m_262n h0 c2, onI_i, m_216_0, m_216_1 t1, i00, i10, i1o, i0o, if_true, if_false]
      rfl
    · simp only [r_269, e_269_22, e_269_27, e_269_93, pI_r t0, if_pos t0, if_pos t1, m_249n h0 c1, onI_i, m_216_0, m_216_1 t1, i00, i10, i1o, i0o, if_true, if_false]
      rfl
  by_cases c1 : inR x1 0 (nB W - 1)
  case neg =>
    refine OpQ.op (OpQ.fail (e := 2) (k := 1) (by simp only [r_137, if_pos (tX h.x), m_130y h c2, m_125n h c1, onV_i, onV_x, onI_i]) rfl (by decide) fun τ ht => ?_) hc hr
    have t0 := ht.tM
    have h0 := ht.z
    have t1 := h0.tM
    simp only [r_269, e_269_22, e_269_27, e_269_93, pI_r t0, if_pos t0, if_pos t1, m_249n h0 c1, onI_i, m_216_0, m_216_1 t1, i00, i10, i1o, i0o, if_true, if_false]
    rfl
  obtain ⟨b, ub, -, rfl⟩ := inR_n c1 (Int.le_refl 0)
  have hb : b < nB W := by omega
  obtain ⟨d, ud, -, rfl⟩ := inR_n c2 (Int.le_refl 0)
  have hd : d < nD W := by omega
  have l5 := (WF_nB h.w).2
  have l8 := (WF_nD h.w).2
  have l6 := (WF_nS h.w).2
  have hS := h.s
  have td := (hS.2.2.2.2.2 d (by omega)).2
  have own := m_16 hc.2.1.1 h.w hd
  obtain ⟨σ1, p1, p2⟩ := q14 h (b := b) hd
  have k1 := (p2.mono Jr_scr).qs
  have c3 := hc.qs k1
  have hS1 := c3.2.1.1.1.1
  have cw1 := c3.2.1.1.2.1
  have tb1 := (hS1.2.2.2.2.1 b (by omega)).2
  have k2 := k1.tr p2.Z p2.S (QS.mk σ1)
  have k0 : QS σ (mkC σ 0 0 6) := QS.mk σ
  have head : rn 137 [.ref 200, .int (nI d), .int (nI b)] σ = (if (de W d 4 = nI b : Prop) then some (.inr 0, mkC σ 0 0 6) else (if (de W d 4 = -1 : Prop) then some (.inr 4, mkC σ1 0 0 6) else (if (br W b 0 < cost W L b d : Prop) then (some (.inr 4, mkC σ1 0 0 6)) else (exec PP 5 137 95 [some (.ref 200), some (.int (nI d)), some (.int (nI b)), some (.ref (211 + 18 + d)), some (.ref (211 + 13 + (de W d 4).toInt.toNat)), some (.ref (211 + 13 + b)), some (.int (cost W L b d))] [] σ1)))) := by
    simp only [r_137, if_pos (tX h.x), m_125y h c1, m_130y h c2, onV_i, x2 h.x, gR_r hS.1.1 hS.1.2.2.2.1, cD hS (show d < 8 by omega), gI_r td, h.c.2.2.2 d 4 hd (by omega)]
    by_cases z0 : de W d 4 = nI b
    · rw [if_pos z0, if_pos z0]
    · rw [if_neg z0, if_neg z0, e_137_38, x2 h.x, if_pos hS.1.1, own]
      by_cases z1 : de W d 4 = -1
      · rw [if_pos z1, if_pos z1, onQ_n, x2 h.x, gR_r hS.1.1 hS.1.2.2.1, cB hS (show b < 5 by omega), x2 h.x, if_pos hS.1.1, p1, onI_i, e_137_85]
      · have ho := (own_b h.w hd z1).2
        rw [if_neg z1, if_neg z1, onQ_i, x2 h.x, gR_r hS.1.1 hS.1.2.2.1, cB hS (show b < 5 by omega), x2 h.x, if_pos hS.1.1, p1, onI_i, if_neg (show ¬ (211 + 13 + (de W d 4).toInt.toNat : Nat) = 39 by omega), gI_r tb1, cw1.2.2.1 b 0 hb (by omega)]
  have rhead : ∀ (τ : SH) (x' : XX), InvR τ W L x' → ∃ τ1, rn 269 [.ref 611, .int (nI d), .int (nI b)] τ = (if (de W d 4 = nI b : Prop) then some (.inl (some (.int 0)), wI (wI τ 611 0 0) 611 0 2) else (if (de W d 4 = -1 : Prop) then some (.inl (some (.int 0)), wI (wI τ 611 0 0) 611 0 3) else (if (br W b 0 < cost W L b d : Prop) then (some (.inl (some (.int 0)), wI τ1 611 0 3)) else (exec PP 9 269 95 [some (.ref 611), some (.int (nI d)), some (.int (nI b)), none] [] τ1)))) ∧ Kp MJ (wI τ 611 0 0) τ1 ∧ InvR τ1 W L x' := by
    intro τ x' r
    have r0 := r.z 0
    obtain ⟨τ1, q1, q2⟩ := m_264 r0.mt (b := b) (d := d) (by omega) (by rw [r0.2.1.1]; exact hd)
    rw [r0.2.1.1, r0.2.1.2] at q1
    have r1 := r0.mj q2
    refine ⟨τ1, ?_, q2, r1⟩
    simp only [r_269, e_269_26, pI_r r.t, if_pos r0.t, r249y r0 c1, r262y r0 c2, onI_i, m_216_0, i00, if_true, m_257 (d := d) (f := 4) r0.1.1 (by omega), r0.2.1.1]
    by_cases z0 : de W d 4 = nI b
    · simp only [z0, if_true, e_269_50, if_pos r0.t, m_216_1 r0.t, onI_i, i10, if_false, e_269_93]
    · rw [if_neg z0, if_neg z0]
      simp only [e_269_49, if_pos r0.t, m_216_0, onI_i, i00, if_true, m_256 (d := d) r0.1.1 (by omega), m_251 (b := b) (f := 0) r0.1.1 (by omega), r0.2.1.1, q1]
      by_cases z1 : de W d 4 = -1
      · rw [if_pos z1]
        simp only [z1, ne_eq, not_true_eq_false, decide_false, bI, i00, if_true, if_false, Bool.false_eq_true, e_269_81, e_269_86, if_pos r0.t, m_216_1 r0.t, onI_i, i10]
      · rw [if_neg z1]
        simp only [z1, ne_eq, not_false_eq_true, decide_true, bI, i10, if_true, if_false]
        by_cases z : br W b 0 < cost W L b d
        · simp only [z, if_true, e_269_86, if_pos r1.t, m_216_1 r1.t, onI_i, i10, if_false]
        · simp only [z, if_true, if_false, e_269_85, if_pos r1.t, m_216_0, onI_i, i00]
  by_cases z0 : de W d 4 = nI b
  · refine Opr.no (e := 0) (k := 2) hc hr k0 (by rw [head, if_pos z0]) rfl (by decide) fun τ r => ?_
    obtain ⟨τ1, q1, q2, q3⟩ := rhead τ x r
    exact ⟨_, by show rn 269 _ τ = _; rw [q1, if_pos z0], (r.z 0).z 2, (rp0 τ 0).tr (rp0 _ 2), sI_wIs _ _ _ _⟩
  by_cases z1 : de W d 4 = -1
  · refine Opr.no (e := 4) (k := 3) hc hr k2 (by rw [head, if_neg z0, if_pos z1]) rfl (by decide) fun τ r => ?_
    obtain ⟨τ1, q1, q2, q3⟩ := rhead τ x r
    exact ⟨_, by show rn 269 _ τ = _; rw [q1, if_neg z0, if_pos z1], (r.z 0).z 3, (rp0 τ 0).tr (rp0 _ 3), sI_wIs _ _ _ _⟩
  by_cases z : br W b 0 < cost W L b d
  · refine Opr.no (e := 4) (k := 3) hc hr k2 (by rw [head, if_neg z0, if_neg z1, if_pos z]) rfl (by decide) fun τ r => ?_
    obtain ⟨τ1, q1, q2, q3⟩ := rhead τ x r
    exact ⟨_, by show rn 269 _ τ = _; rw [q1, if_neg z0, if_neg z1, if_pos z], q3.z 3, ((rp0 τ 0).tr (q2.mono rpMJ)).tr (rp0 τ1 3), sI_wIs _ _ _ _⟩
  · obtain ⟨eo, ho⟩ := own_b h.w hd z1
    generalize hO : (de W d 4).toInt.toNat = o at eo ho head
    have ob : o ≠ b := fun e => z0 (by rw [eo, e])
    obtain ⟨σ2, e1, c4, f1, y1, s1⟩ := m_136 c3
    have cv2 := c4.2.1.1
    have hS2 := cv2.1.1
    have tb2 := (hS2.2.2.2.2.1 b (by omega)).2
    have to2 : sT (wI σ2 (211 + 13 + b) 0 (br W b 0 - cost W L b d)) (211 + 13 + o) = 100 := (hS2.2.2.2.2.1 o (by omega)).2
    have bp := cost_b h.w cv2.lw cv2.2.2.1.2 (b := b) hd
    have bb := (h.w.2.2.1 b hb).1
    have bo := (h.w.2.2.1 o ho).1
    have hv : btw (br W b 0 - cost W L b d) 0 9999 := sub_b bb bp z
    have wf1 := h.w.b0 (b := b) (by omega) hv
    have wf2 := wf1.b0 (b := o) (by omega) (ern_b bo bp)
    have wf3 : WF (selW W d b o (cost W L b d)) := wf2.d4 (by omega) (by rw [nB_u (by omega), nB_u (by omega)]; exact c1)
    have eo2 : sI (wI σ2 (211 + 13 + b) 0 (br W b 0 - cost W L b d)) (211 + 13 + o) 0 = br W o 0 := by
      rw [sI_wIn (by omega)]; exact cv2.2.1.2.2.1 o 0 ho (by omega)
    refine Opr.act (v := cost W L b d) (W' := selW W d b o (cost W L b d)) (σa := σ1) (σb := σ2) (σ1 := wI (wI (wI σ2 (211 + 13 + b) 0 (br W b 0 - cost W L b d)) (211 + 13 + o) 0 (ern (br W o 0) (cost W L b d))) (211 + 18 + d) 4 (nI b)) hc hr ?_ k1 c4 f1 ⟨y1, s1⟩ (((Kp.w (by omega)).wr (by omega)).wr (by omega)) ?_ wf3 fun τ r => ?_
    · rw [head, if_neg z0, if_neg z1, if_neg z]
      have pd : ∀ (τ' : SH) f v (k : SH → SR), τ'.2 = σ2.2 → pI τ' 102 f (.ref (211 + 18 + d)) v k = k (wI τ' (211 + 18 + d) f v) := fun τ' f v k e => pI_r (by unfold sT; rw [e]; exact (hS2.2.2.2.2.2 d (by omega)).2)
      rw [e_137_95, if_pos (tX c3.1.1), e1, onV_i, gI_r tb2, cv2.2.1.2.2.1 b 0 hb (by omega), pI_r tb2, if_pos to2, m_2 to2, eo2, onV_i, pd _ _ _ _ (by rfl)]
    · have v1 := cv2.b (s := b) (f := 0) (v := br W b 0 - cost W L b d) (by omega) (by omega) l6
      have v2 := v1.b (s := o) (f := 0) (v := ern (br W o 0) (cost W L b d)) (by omega) (by omega) (by rw [nS_u (by omega)]; exact l6)
      exact v2.d (s := d) (f := 4) (v := nI b) (by omega) (by omega) ⟨by rw [nS_u (by omega), nS_u (by omega)]; exact l6, by rw [nB_u (by omega), nB_u (by omega)]; exact l5⟩ (by omega)
    · obtain ⟨τ1, q1, q2, q3⟩ := rhead τ x r
      obtain ⟨τ2, q4, q5, q6⟩ := m_268 q3 hc.r12
      obtain ⟨τ3, q7, q8⟩ := m_264 q5.mt (b := b) (d := d) (by omega) (by rw [q5.2.1.1]; exact hd)
      rw [q5.2.1.1, q5.2.1.2] at q7
      have r3 := q5.mj q8
      have m3 := r3.1.1
      have i3 := r3.2.1.1
      have fin : Kp (fun a j => a = 612 ∧ j < 363) τ3 (wI (wI (wI τ3 612 (52 + 3 * b + 0) (br W b 0 - cost W L b d)) 612 (52 + 3 * o + 0) (ern (br W o 0) (cost W L b d))) 612 (67 + 7 * d + 4) (nI b)) := ((Kp.w ⟨rfl, by omega⟩).wr ⟨rfl, by omega⟩).wr ⟨rfl, by omega⟩
      have eow : de (sI (wI τ3 612 (52 + 3 * b + 0) (br W b 0 - cost W L b d)) 612) d 4 = nI o := by
        rw [sI_upd, de_u (by omega), i3, eo]
      have eop : br (sI (wI τ3 612 (52 + 3 * b + 0) (br W b 0 - cost W L b d)) 612) o 0 = br W o 0 := by
        rw [sI_upd, br_u (by omega), i3]
      refine ⟨_, ?_, r3.now fin ?_ wf3 ?_, (((((rp0 τ 0).tr (q2.mono rpMJ)).tr (q6.mono rp268)).tr (q8.mono rpMJ))).tr (fin.mono fun a j z => by unfold RP; omega), ?_⟩
      · show rn 269 _ τ = _
        rw [q1, if_neg z0, if_neg z1, if_neg z]
        rw [e_269_95, if_pos q3.t, q4, onV_i, if_pos q5.t, q7, onI_i, g612 r3, m_202 (b := b) (f := 0), onI_i, m_w m3 (show 52 + 3 * b + 0 < 2061 by omega), w612 m3 (show 52 + 3 * b + 0 < 2061 by omega), i3, if_pos (t611' m3 (by rfl)), m257' (d := d) (f := 4) m3 (by rfl) (by omega)]
        show onI (some (.inl (some (.int (de (sI (wI τ3 612 (52 + 3 * b + 0) (br W b 0 - cost W L b d)) 612) d 4))), wI τ3 612 (52 + 3 * b + 0) (br W b 0 - cost W L b d))) _ _ = _
        rw [eow, onI_i, if_pos (t611' m3 (by rfl)), m270' m3 (by rfl) (show o < 5 by omega), eop, onV_i, g612' m3 (by rfl), m_205 (d := d) (f := 4), onI_i, w612' m3 (by rfl) (show 67 + 7 * d + 4 < 2061 by omega)]
      · rw [sI_upd, sI_upd, sI_upd, i3]; rfl
      · unfold selW; rw [uW_n (by omega), uW_n (by omega), uW_n (by omega)]
      · rw [fin.2 _ _ (by omega), q8.2 _ _ (by unfold MJ; omega), q6.2 _ _ (by omega), q2.2 _ _ (by unfold MJ; omega), sI_wIs]
end A4
