section A5
variable {σ τ : SH} {W L : WW} {x : XX}
def insW (W : WW) (d o : Nat) : WW := uW (uW W (52 + 3 * o + 0) (br W o 0 - W 7)) (67 + 7 * d + 6) 1
theorem op_insure (hc : InvC σ W L x) (hr : InvR σ W L x) (x0 : Int32) : Opr (rn 143 [.ref 200, .int x0] σ) σ (fun τ => rn 274 [.ref 611, .int x0] τ) [(2, 1), (4, 2)] W L x := by
  have h := hc.qq hr
  by_cases c2 : inR x0 0 (nD W - 1)
  case neg =>
    refine OpQ.op (OpQ.fail (e := 2) (k := 1) (by simp only [r_143, if_pos (tX h.x), m_130n h c2, onV_i, onV_x, onI_i]) rfl (by decide) fun τ ht => ?_) hc hr
    have t0 := ht.tM
    have h0 := ht.z
    have t1 := h0.tM
    simp only [r_274, pI_r t0, if_pos t0, if_pos t1, m_262n h0 c2, onI_i, m_216_0, m_216_1 t1, i00, i10, i1o, i0o, if_true, if_false]
    rfl
  obtain ⟨d, ud, -, rfl⟩ := inR_n c2 (Int.le_refl 0)
  have hd : d < nD W := by omega
  have l5 := (WF_nB h.w).2
  have l8 := (WF_nD h.w).2
  have l6 := (WF_nS h.w).2
  have hS := h.s
  have td := (hS.2.2.2.2.2 d (by omega)).2
  have own := m_16 hc.2.1.1 h.w hd
  have k0 : QS σ (mkC σ 0 0 6) := QS.mk σ
  have wd6 := (h.w.2.2.2 d hd).2.2.2.2.2.1
  have d01 : de W d 6 = 0 ∨ de W d 6 = 1 := by
    unfold btw at wd6
    have z0 : (0 : Int32).toInt = 0 := by decide
    have z1 : (1 : Int32).toInt = 1 := by decide
    rcases (by omega : (de W d 6).toInt = 0 ∨ (de W d 6).toInt = 1) with e | e
    · exact Or.inl (Int32.toInt_inj.mp (by rw [e, z0]))
    · exact Or.inr (Int32.toInt_inj.mp (by rw [e, z1]))
  have head : rn 143 [.ref 200, .int (nI d)] σ = (if (de W d 4 = -1 : Prop) then some (.inr 4, mkC σ 0 0 6) else (if (de W d 6 = 0 : Prop) then (if (br W (de W d 4).toInt.toNat 0 < W 7 : Prop) then some (.inr 4, mkC σ 0 0 6) else (exec PP 4 143 60 [some (.ref 200), some (.int (nI d)), some (.ref (211 + 18 + d)), some (.ref (211 + 13 + (de W d 4).toInt.toNat))] [] σ)) else some (.inr 4, mkC σ 0 0 6))) := by
    rw [r_143, if_pos (tX h.x), m_130y h c2, onV_i, x2 h.x, gR_r hS.1.1 hS.1.2.2.2.1, cD hS (show d < 8 by omega), x2 h.x, if_pos hS.1.1, own]
    by_cases z1 : de W d 4 = -1
    · rw [if_pos z1, if_pos z1, onQ_n, e_143_49]
    · have ho := (own_b h.w hd z1).2
      have tb := (hS.2.2.2.2.1 (de W d 4).toInt.toNat (by omega)).2
      rw [if_neg z1, if_neg z1, onQ_i, if_neg (show ¬ (211 + 13 + (de W d 4).toInt.toNat : Nat) = 39 by omega), gI_r td, h.c.2.2.2 d 6 hd (by omega), gI_r tb, x2 h.x, gI_r hS.1.1, h.c.2.2.1 _ 0 ho (by omega), h.c.1.2.2.2.2.2.1, e_143_49]
  have rhead : ∀ (τ : SH) (x' : XX), InvR τ W L x' → rn 274 [.ref 611, .int (nI d)] τ = (if (de W d 4 = -1 : Prop) then some (.inl (some (.int 0)), wI (wI τ 611 0 0) 611 0 2) else (if (de W d 6 = 0 : Prop) then (if (br W (de W d 4).toInt.toNat 0 < W 7 : Prop) then some (.inl (some (.int 0)), wI (wI τ 611 0 0) 611 0 2) else (exec PP 3 274 74 [some (.ref 611), some (.int (nI d)), some (.int (de W d 4))] [] (wI τ 611 0 0))) else some (.inl (some (.int 0)), wI (wI τ 611 0 0) 611 0 2))) := by
    intro τ x' r
    have r0 := r.z 0
    simp only [r_274, e_274_20, pI_r r.t, if_pos r0.t, r262y r0 c2, onI_i, m_216_0, i00, if_true, m_257 (d := d) (f := 4) r0.1.1 (by omega), r0.2.1.1]
    by_cases z1 : de W d 4 = -1
    · simp only [z1, if_true, e_274_60, e_274_65, if_pos r0.t, m_216_1 r0.t, onI_i, i10]
    · obtain ⟨eo, ho⟩ := own_b h.w hd z1
      rw [if_neg z1, if_neg z1]
      simp only [m_257 (d := d) (f := 6) r0.1.1 (by omega), onI_i, r0.2.1.1]
      rcases d01 with e | e
      · rw [if_neg (show ¬ de W d 6 = 1 by rw [e]; decide), if_pos e]
        have q251 := m_251 (b := (de W d 4).toInt.toNat) (f := 0) r0.1.1 (by omega)
        rw [← eo] at q251
        simp only [q251, onI_i, g612 r0, r612_7 r0.1.1, r0.2.1.1]
        by_cases z : br W (de W d 4).toInt.toNat 0 < W 7
        · simp only [z, if_true, e_274_65, if_pos r0.t, m_216_1 r0.t, onI_i, i10]
        · simp only [z, if_false, e_274_64, if_pos r0.t, m_216_0, onI_i, i00, if_true]
      · rw [if_pos e, if_neg (show ¬ de W d 6 = 0 by rw [e]; decide)]
        simp only [e_274_60, e_274_65, if_pos r0.t, m_216_1 r0.t, onI_i, i10]
  have no : rn 143 [.ref 200, .int (nI d)] σ = some (.inr 4, mkC σ 0 0 6) → (∀ τ, InvR τ W L x → rn 274 [.ref 611, .int (nI d)] τ = some (.inl (some (.int 0)), wI (wI τ 611 0 0) 611 0 2)) → Opr (rn 143 [.ref 200, .int (nI d)] σ) σ (fun τ => rn 274 [.ref 611, .int (nI d)] τ) [(2, 1), (4, 2)] W L x := fun a1 a2 => Opr.no (e := 4) (k := 2) hc hr k0 a1 rfl (by decide) fun τ r => ⟨_, a2 τ r, (r.z 0).z 2, (rp0 τ 0).tr (rp0 _ 2), sI_wIs _ _ _ _⟩
  by_cases z1 : de W d 4 = -1
  · exact no (by rw [head, if_pos z1]) fun τ r => by rw [rhead τ x r, if_pos z1]
  by_cases z6 : de W d 6 = 0
  case neg => exact no (by rw [head, if_neg z1, if_neg z6]) fun τ r => by rw [rhead τ x r, if_neg z1, if_neg z6]
  by_cases z : br W (de W d 4).toInt.toNat 0 < W 7
  · exact no (by rw [head, if_neg z1, if_pos z6, if_pos z]) fun τ r => by rw [rhead τ x r, if_neg z1, if_pos z6, if_pos z]
  · obtain ⟨eo, ho⟩ := own_b h.w hd z1
    generalize hO : (de W d 4).toInt.toNat = o at eo ho head rhead z
    obtain ⟨σ2, e1, c4, f1, y1, s1⟩ := m_136 hc
    have cv2 := c4.2.1.1
    have hS2 := cv2.1.1
    have w7 := h.w.1.2.2.2.2.2.2.2.1
    have bo := (h.w.2.2.1 o ho).1
    have hv : btw (br W o 0 - W 7) 0 9999 := sub_b bo (by unfold btw at w7 ⊢; omega) z
    have wf1 := h.w.b0 (b := o) (by omega) hv
    have wf3 : WF (insW W d o) := wf1.d6 (by omega) (by rw [de_u (by omega)]; exact z1)
    have gb : ∀ (τ' : SH) f (k : Int32 → SR), τ'.2 = σ2.2 → gI τ' 100 f (.ref (211 + 13 + o)) k = k (sI τ' (211 + 13 + o) f) := fun τ' f k e => gI_r (by unfold sT; rw [e]; exact (hS2.2.2.2.2.1 o (by omega)).2)
    have pb : ∀ (τ' : SH) v (k : SH → SR), τ'.2 = σ2.2 → (v = 0 ∨ v = 1) → pB τ' 102 6 (.ref (211 + 18 + d)) v k = k (wI τ' (211 + 18 + d) 6 v) := fun τ' v k e hv => pB_r (by unfold sT; rw [e]; exact (hS2.2.2.2.2.2 d (by omega)).2) hv
    refine Opr.act (v := br W o 0 - W 7) (W' := insW W d o) (σa := σ) (σb := σ2) (σ1 := wI (wI σ2 (211 + 13 + o) 0 (br W o 0 - W 7)) (211 + 18 + d) 6 1) hc hr ?_ (QS.rf σ) c4 f1 ⟨y1, s1⟩ ((Kp.w (by omega)).wr (by omega)) ?_ wf3 fun τ r => ?_
    · rw [head, if_neg z1, if_pos z6, if_neg z]
      rw [e_143_60, if_pos (tX hc.1.1), e1, onV_i, gb _ _ _ (by rfl), cv2.2.1.2.2.1 o 0 ho (by omega), x2 c4.1.1, gI_r hS2.1.1, cv2.2.1.1.2.2.2.2.2.1, pI_r (hS2.2.2.2.2.1 o (by omega)).2, pb _ _ _ (by rfl) (Or.inr rfl), gb _ _ _ (by rfl), sI_wIn (by omega), sI_wIs]
    · have v1 := cv2.b (s := o) (f := 0) (v := br W o 0 - W 7) (by omega) (by omega) l6
      exact v1.d (s := d) (f := 6) (v := 1) (by omega) (by omega) ⟨by rw [nS_u (by omega)]; exact l6, by rw [nB_u (by omega)]; exact l5⟩ (fun _ => Or.inr rfl)
    · have r0 := r.z 0
      obtain ⟨τ2, q4, q5, q6⟩ := m_268 r0 hc.r12
      have m3 := q5.1.1
      have i3 := q5.2.1.1
      have fin : Kp (fun a j => a = 612 ∧ j < 363) τ2 (wI (wI τ2 612 (52 + 3 * o + 0) (br W o 0 - W 7)) 612 (67 + 7 * d + 6) 1) := (Kp.w ⟨rfl, by omega⟩).wr ⟨rfl, by omega⟩
      refine ⟨_, ?_, q5.now fin ?_ wf3 ?_, ((rp0 τ 0).tr (q6.mono rp268)).tr (fin.mono fun a j z => by unfold RP; omega), ?_⟩
      · show rn 274 _ τ = _
        rw [rhead τ x r, if_neg z1, if_pos z6, if_neg z, eo]
        rw [e_274_74, if_pos r0.t, q4, onV_i, g612 q5, m_202 (b := o) (f := 0), onI_i, m_w m3 (show 52 + 3 * o + 0 < 2061 by omega), g612 q5, r612_7 m3, w612 m3 (show 52 + 3 * o + 0 < 2061 by omega), i3, g612' m3 (by rfl), m_205 (d := d) (f := 6), onI_i, w612' m3 (by rfl) (show 67 + 7 * d + 6 < 2061 by omega), if_pos (t611' m3 (by rfl)), m251' (b := o) (f := 0) m3 (by rfl) (by omega), onI_i]
        unfold br
        rw [sI_wIn (by omega), sI_wIs]
      · rw [sI_upd, sI_upd, i3]; rfl
      · unfold insW; rw [uW_n (by omega), uW_n (by omega)]
      · rw [fin.2 _ _ (by omega), q6.2 _ _ (by omega), sI_wIs]
end A5
