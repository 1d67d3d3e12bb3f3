section A3
variable {σ τ : SH} {W L : WW} {x : XX}
theorem ShM.e {ρ : SH} (h : ShM τ) (e : ρ.2 = τ.2) : ShM ρ := h.kp (P := fun _ _ => True) ⟨e, fun _ _ n => absurd trivial n⟩
theorem g612' {ρ : SH} (h : ShM τ) (e : ρ.2 = τ.2) (k : Nat → SR) : gR ρ 112 1 (.ref 611) k = k 612 := gR_r (h.e e).1.1 (h.e e).1.2.1
theorem w612' {ρ : SH} (h : ShM τ) (e : ρ.2 = τ.2) {j : Nat} (hj : j < 2061) (v : Int32) (k : SH → SR) : uI ρ (.ref 612) (nI j) v k = k (wI ρ 612 j v) := w612 (h.e e) hj v k
theorem t611' {ρ : SH} (h : ShM τ) (e : ρ.2 = τ.2) : sT ρ 611 = 112 := (h.e e).1.1
theorem m251' {ρ : SH} (h : ShM τ) (e : ρ.2 = τ.2) {b f : Nat} (hj : 52 + 3 * b + f < 2061) : rn 251 [.ref 611, .int (nI b), .int (OfNat.ofNat f)] ρ = some (.inl (some (.int (br (sI ρ 612) b f))), ρ) := m_251 (h.e e) hj
/-- the world when b has bought d for c -/
def buyW (W : WW) (b d : Nat) (c : Int32) : WW := uW (uW (uW W (52 + 3 * b + 0) (br W b 0 - c)) (67 + 7 * d + 4) (nI b)) (67 + 7 * d + 5) 0
theorem op_buy (hc : InvC σ W L x) (hr : InvR σ W L x) (x0 x1 : Int32) : Opr (rn 135 [.ref 200, .int x0, .int x1] σ) σ (fun τ => rn 267 [.ref 611, .int x0, .int x1] τ) [(2, 1), (4, 2)] W L x := by
  have h := hc.qq hr
  by_cases c1 : inR x0 0 (nB W - 1)
  case neg =>
    refine OpQ.op (OpQ.fail (e := 2) (k := 1) (by simp only [r_135, if_pos (tX h.x), m_125n h c1, onV_i, onV_x, onI_i]) rfl (by decide) fun τ ht => ?_) hc hr
    have t0 := ht.tM
    have h0 := ht.z
    have t1 := h0.tM
    simp only [r_267, e_267_22, e_267_27, e_267_70, pI_r t0, if_pos t0, if_pos t1, m_249n h0 c1, onI_i, m_216_0, m_216_1 t1, i00, i10, i1o, i0o, if_true, if_false]
    rfl
  by_cases c2 : inR x1 0 (nD W - 1)
  case neg =>
    refine OpQ.op (OpQ.fail (e := 2) (k := 1) (by simp only [r_135, if_pos (tX h.x), m_125y h c1, m_130n h c2, onV_i, onV_x, onI_i]) rfl (by decide) fun τ ht => ?_) hc hr
    have t0 := ht.tM
    have h0 := ht.z
    have t1 := h0.tM
    simp only [r_267, e_267_22, e_267_27, e_267_70, pI_r t0, if_pos t0, if_pos t1, m_249y h0 c1, m_262n h0 c2, onI_i, m_216_0, m_216_1 t1, i00, i10, i1o, i0o, if_true, if_false]
    rfl
  obtain ⟨b, ub, -, rfl⟩ := inR_n c1 (Int.le_refl 0)
  have hb : b < nB W := by omega
  obtain ⟨d, ud, -, rfl⟩ := inR_n c2 (Int.le_refl 0)
  have hd : d < nD W := by omega
  have l5 := (WF_nB h.w).2
  have l8 := (WF_nD h.w).2
  have l6 := (WF_nS h.w).2
  have hS := h.s
  obtain ⟨σ1, p1, p2⟩ := q14 h (b := b) hd
  have k1 := (p2.mono Jr_scr).qs
  have c3 := hc.qs k1
  have hS1 := c3.2.1.1.1.1
  have cw1 := c3.2.1.1.2.1
  have tb1 := (hS1.2.2.2.2.1 b (by omega)).2
  have td1 := (hS1.2.2.2.2.2 d (by omega)).2
  have head : rn 135 [.ref 200, .int (nI b), .int (nI d)] σ = (if (de W d 4 = -1 : Prop) then (if (br W b 0 < cost W L b d : Prop) then (some (.inr 4, mkC σ1 0 0 6)) else (exec PP 5 135 70 [some (.ref 200), some (.int (nI b)), some (.int (nI d)), some (.ref (211 + 18 + d)), some (.ref (211 + 13 + b)), some (.int (cost W L b d))] [] σ1)) else some (.inr 4, mkC σ1 0 0 6)) := by
    simp only [r_135, e_135_60, if_pos (tX h.x), m_125y h c1, m_130y h c2, onV_i, x2 h.x, gR_r hS.1.1 hS.1.2.2.1, gR_r hS.1.1 hS.1.2.2.2.1, cB hS (show b < 5 by omega), cD hS (show d < 8 by omega), if_pos hS.1.1, p1, onI_i, gI_r td1, gI_r tb1, cw1.2.2.2 d 4 hd (by omega), cw1.2.2.1 b 0 hb (by omega)]
  have rhead : ∀ (τ : SH) (x' : XX), InvR τ W L x' → ∃ τ1, rn 267 [.ref 611, .int (nI b), .int (nI d)] τ = (if (de W d 4 = -1 : Prop) then (if (br W b 0 < cost W L b d : Prop) then (some (.inl (some (.int 0)), wI τ1 611 0 2)) else (exec PP 9 267 72 [some (.ref 611), some (.int (nI b)), some (.int (nI d))] [] τ1)) else some (.inl (some (.int 0)), wI (wI τ 611 0 0) 611 0 2)) ∧ Kp MJ (wI τ 611 0 0) τ1 ∧ InvR τ1 W L x' := by
    intro τ x' r
    have r0 := r.z 0
    obtain ⟨τ1, q1, q2⟩ := m_264 r0.mt (b := b) (d := d) (by omega) (by rw [r0.2.1.1]; exact hd)
    rw [r0.2.1.1, r0.2.1.2] at q1
    have r1 := r0.mj q2
    refine ⟨τ1, ?_, q2, r1⟩
    simp only [r_267, e_267_26, pI_r r.t, if_pos r0.t, r249y r0 c1, r262y r0 c2, onI_i, m_216_0, i00, if_true, m_256 (d := d) r0.1.1 (by omega), m_251 (b := b) (f := 0) r0.1.1 (by omega), r0.2.1.1, q1]
    by_cases z1 : de W d 4 = -1
    · rw [if_pos z1]
      simp only [z1, ne_eq, not_true_eq_false, decide_false, bI, i00, if_true, if_false, Bool.false_eq_true]
      by_cases z : br W b 0 < cost W L b d
      · simp only [z, if_true, e_267_63, if_pos r1.t, m_216_1 r1.t, onI_i, i10]
      · simp only [z, if_true, if_false, e_267_62, if_pos r1.t, m_216_0, onI_i, i00]
    · rw [if_neg z1]
      simp only [z1, ne_eq, not_false_eq_true, decide_true, bI, i10, if_true, if_false, e_267_58, e_267_63, if_pos r0.t, m_216_1 r0.t, onI_i]
  have k2 := k1.tr p2.Z p2.S (QS.mk σ1)
  by_cases z1 : de W d 4 = -1
  case neg =>
    refine Opr.no (e := 4) (k := 2) hc hr k2 (by rw [head, if_neg z1]) rfl (by decide) fun τ r => ?_
    obtain ⟨τ1, q1, q2, q3⟩ := rhead τ x r
    exact ⟨_, by show rn 267 _ τ = _; rw [q1, if_neg z1], (r.z 0).z 2, (rp0 τ 0).tr (rp0 _ 2), sI_wIs _ _ _ _⟩
  by_cases z : br W b 0 < cost W L b d
  · refine Opr.no (e := 4) (k := 2) hc hr k2 (by rw [head, if_pos z1, if_pos z]) rfl (by decide) fun τ r => ?_
    obtain ⟨τ1, q1, q2, q3⟩ := rhead τ x r
    exact ⟨_, by show rn 267 _ τ = _; rw [q1, if_pos z1, if_pos z], q3.z 2, ((rp0 τ 0).tr (q2.mono rpMJ)).tr (rp0 τ1 2), sI_wIs _ _ _ _⟩
  · obtain ⟨σ2, e1, c4, f1, y1, s1⟩ := m_136 c3
    have cv2 := c4.2.1.1
    have hS2 := cv2.1.1
    have tb2 : ∀ τ' : SH, τ'.2 = σ2.2 → sT τ' (211 + 13 + b) = 100 := fun τ' e => by unfold sT; rw [e]; exact (hS2.2.2.2.2.1 b (by omega)).2
    have td2 : ∀ τ' : SH, τ'.2 = σ2.2 → sT τ' (211 + 18 + d) = 102 := fun τ' e => by unfold sT; rw [e]; exact (hS2.2.2.2.2.2 d (by omega)).2
    have bp := cost_b h.w cv2.lw cv2.2.2.1.2 (b := b) hd
    have bb := (h.w.2.2.1 b hb).1
    have hv : btw (br W b 0 - cost W L b d) 0 9999 := sub_b bb bp z
    have wf1 := h.w.b0 (b := b) (by omega) hv
    have wf2 := wf1.d4 (d := d) (v := nI b) (by omega) (by rw [nB_u (by omega)]; exact c1)
    have wf3 : WF (buyW W b d (cost W L b d)) := wf2.d5 (by omega)
    have z6 : buyW W b d (cost W L b d) (67 + 7 * d + 6) = 0 := by
      unfold buyW
      rw [uW_n (by omega), uW_n (by omega), uW_n (by omega)]
      exact (h.w.2.2.2 d hd).2.2.2.2.2.2 z1
    have wlast : ∀ v : Int32, sI (wI (wI (wI (wI σ2 (211 + 13 + b) 0 v) (211 + 18 + d) 4 (nI b)) (211 + 18 + d) 5 0) (211 + 18 + d) 6 0) (211 + 13 + b) 0 = v := fun v => by
      rw [sI_wIn (by omega), sI_wIn (by omega), sI_wIn (by omega), sI_wIs]
    refine Opr.act (v := br W b 0 - cost W L b d) (W' := buyW W b d (cost W L b d)) (σa := σ1) (σb := σ2) (σ1 := wI (wI (wI (wI σ2 (211 + 13 + b) 0 (br W b 0 - cost W L b d)) (211 + 18 + d) 4 (nI b)) (211 + 18 + d) 5 0) (211 + 18 + d) 6 0) hc hr ?_ k1 c4 f1 ⟨y1, s1⟩ ((((Kp.w (by omega)).wr (by omega)).wr (by omega)).wr (by omega)) ?_ wf3 fun τ r => ?_
    · rw [head, if_pos z1, if_neg z]
      have pb : ∀ (τ' : SH) v (k : SH → SR), τ'.2 = σ2.2 → (v = 0 ∨ v = 1) → pB τ' 102 6 (.ref (211 + 18 + d)) v k = k (wI τ' (211 + 18 + d) 6 v) := fun τ' v k e hv => pB_r (td2 τ' e) hv
      have pd : ∀ (τ' : SH) f v (k : SH → SR), τ'.2 = σ2.2 → pI τ' 102 f (.ref (211 + 18 + d)) v k = k (wI τ' (211 + 18 + d) f v) := fun τ' f v k e => pI_r (td2 τ' e)
      have gb : ∀ (τ' : SH) f (k : Int32 → SR), τ'.2 = σ2.2 → gI τ' 100 f (.ref (211 + 13 + b)) k = k (sI τ' (211 + 13 + b) f) := fun τ' f k e => gI_r (tb2 τ' e)
      rw [e_135_70, if_pos (tX c3.1.1), e1, onV_i, gb _ _ _ (by rfl), cv2.2.1.2.2.1 b 0 hb (by omega), pI_r (tb2 σ2 rfl), pd _ _ _ _ (by rfl), pd _ _ _ _ (by rfl), pb _ _ _ (by rfl) (Or.inl rfl), gb _ _ _ (by rfl), wlast]
    · have v1 := cv2.b (s := b) (f := 0) (v := br W b 0 - cost W L b d) (by omega) (by omega) l6
      have v2 := v1.d (s := d) (f := 4) (v := nI b) (by omega) (by omega) ⟨by rw [nS_u (by omega)]; exact l6, by rw [nB_u (by omega)]; exact l5⟩ (by omega)
      have v3 := v2.d (s := d) (f := 5) (v := 0) (by omega) (by omega) ⟨by rw [nS_u (by omega), nS_u (by omega)]; exact l6, by rw [nB_u (by omega), nB_u (by omega)]; exact l5⟩ (by omega)
      have v4 := v3.d (s := d) (f := 6) (v := 0) (by omega) (by omega) ⟨by rw [nS_u (by omega), nS_u (by omega), nS_u (by omega)]; exact l6, by rw [nB_u (by omega), nB_u (by omega), nB_u (by omega)]; exact l5⟩ (fun _ => Or.inl rfl)
      have e9 := uW_id z6
      unfold buyW at e9 ⊢
      rw [e9] at v4
      exact v4
    · obtain ⟨τ1, q1, q2, q3⟩ := rhead τ x r
      obtain ⟨τ2, q4, q5, q6⟩ := m_268 q3 hc.r12
      obtain ⟨τ3, q7, q8⟩ := m_264 q5.mt (b := b) (d := d) (by omega) (by rw [q5.2.1.1]; exact hd)
      rw [q5.2.1.1, q5.2.1.2] at q7
      have r3 := q5.mj q8
      have m3 := r3.1.1
      have i3 := r3.2.1.1
      have fin : Kp (fun a j => a = 612 ∧ j < 363) τ3 (wI (wI (wI τ3 612 (52 + 3 * b + 0) (br W b 0 - cost W L b d)) 612 (67 + 7 * d + 4) (nI b)) 612 (67 + 7 * d + 5) 0) := ((Kp.w ⟨rfl, by omega⟩).wr ⟨rfl, by omega⟩).wr ⟨rfl, by omega⟩
      refine ⟨_, ?_, r3.now fin ?_ wf3 ?_, (((((rp0 τ 0).tr (q2.mono rpMJ)).tr (q6.mono rp268)).tr (q8.mono rpMJ))).tr (fin.mono fun a j z => by unfold RP; omega), ?_⟩
      · show rn 267 _ τ = _
        rw [q1, if_pos z1, if_neg z]
        rw [e_267_72, if_pos q3.t, q4, onV_i, g612 q5, m_202 (b := b) (f := 0), onI_i, m_w q5.1.1 (show 52 + 3 * b + 0 < 2061 by omega), if_pos q5.t, q7, onI_i, w612 m3 (show 52 + 3 * b + 0 < 2061 by omega), g612' m3 (by rfl), m_205 (d := d) (f := 4), onI_i, w612' m3 (by rfl) (show 67 + 7 * d + 4 < 2061 by omega), g612' m3 (by rfl), m_205 (d := d) (f := 5), onI_i, w612' m3 (by rfl) (show 67 + 7 * d + 5 < 2061 by omega), if_pos (t611' m3 (by rfl)), m251' (b := b) (f := 0) m3 (by rfl) (by omega), onI_i, q5.2.1.1]
        unfold br
        rw [sI_wIn (by omega), sI_wIn (by omega), sI_wIs]
      · rw [sI_upd, sI_upd, sI_upd, i3]; rfl
      · unfold buyW; rw [uW_n (by omega), uW_n (by omega), uW_n (by omega)]
      · rw [fin.2 _ _ (by omega), q8.2 _ _ (by unfold MJ; omega), q6.2 _ _ (by omega), q2.2 _ _ (by unfold MJ; omega), sI_wIs]
end A3
