section B4
variable {σ σ' τ : SH} {W L : WW} {x : XX}
def PS7 (a _k : Nat) : Prop := 237 ≤ a ∧ a < 263
def SR7 (a : Nat) : Prop := a = 237
theorem okS : okR SR7 := fun a z => Or.inl (by rw [show a = 237 from z]; exact isC_sp)
theorem PS7_qp : ∀ a k, PS7 a k → QP a k := fun a k z => by unfold PS7 at z; unfold QP; omega
theorem Fr.spc (f : Fr PS7 SR7 σ σ') : Fr PC RC σ σ' := f.mono (fun a k _ z => by unfold PS7 at z; unfold PC; omega) (fun a z => okS a z)
/-- the spare county filled -/
theorem spare (h : InvC σ W L x) : ∃ σ', rn 6 [.ref 237, .ref 211] σ = some (.inl none, σ') ∧ InvC σ' W L x ∧ CV σ' 237 W L ∧ Fr PS7 SR7 σ σ' ∧ sZ σ' = sZ σ ∧ sS σ' = sS σ := by
  obtain ⟨⟨a1, a2⟩, ⟨a3, a4⟩, _⟩ := id h
  have hv : sV σ 211 12 = .null ∨ ∃ q, sV σ 211 12 = .ref q := by
    rcases a3.2.2.1.1 with ⟨z, _⟩ | ⟨q, _, z, _⟩
    · exact Or.inl z
    · exact Or.inr ⟨q, z⟩
  obtain ⟨σ1, e1, k1⟩ := m_6 (σ := σ) (a := 237) (b := 211) isC_sp isC_now (by omega) a1 a3.2.2.2.2.2 hv
  have f1 : Fr PS7 SR7 σ σ1 := k1.fr isC_sp (fun q _ z1 z2 => ⟨z1, by omega⟩) rfl
  exact ⟨σ1, e1, h.fr f1 (fun a z => Or.inl z) PS7_qp (a2.fr f1 k1.Z), k1.cv a3 a4 isC_sp isC_now (a1.2.2.2.2.2.2.2.2 _ isC_sp) a2, f1, k1.Z, k1.S⟩
theorem InvC.sp (h : InvC σ W L x) (k : Kp (JS 237 σ) σ σ') : InvC σ' W L x ∧ Fr PS7 SR7 σ σ' := by
  have f : Fr PS7 SR7 σ σ' := k.fr (fun a _ z1 z => by unfold JS Stq at z; unfold PS7; omega) (fun a j z1 z2 => by
    rcases z2 with z2 | z2
    · omega
    · exact z2)
  exact ⟨h.fr f (fun a z => Or.inl z) PS7_qp (h.1.2.fr f k.Z), f⟩
theorem m_173 (h : InvC σ W L x) {n : Nat} (hn : n ≤ 200) (s : Int32) : ∃ σ', rn 173 [.ref 200, .int (nI n), .int s] σ = some (.inl (some (.int (mnF L drW n (uW W 9 s)).2)), σ') ∧ InvC σ' W L x ∧ CV σ' 237 (mnF L drW n (uW W 9 s)).1 L ∧ WF (mnF L drW n (uW W 9 s)).1 ∧ Fr PS7 SR7 σ σ' ∧ sZ σ' = sZ σ ∧ sS σ' = sS σ := by
  obtain ⟨σ1, e1, c1, v1, f1, z1, s1⟩ := spare h
  have kw : Kp (JS 237 σ1) σ1 (wI σ1 237 11 s) := Kp.w (Or.inl (by omega))
  obtain ⟨c2, f2⟩ := c1.sp kw
  have v2 := v1.z (f := 11) (k := 9) (v := s) (by omega)
  obtain ⟨σ2, p1, p2, p3, p4⟩ := m_17 (x1 := 1) v2 (c1.2.1.2.r9 (v := s)) (f := drW) (by rw [if_neg (by decide)]) hn
  obtain ⟨c3, f3⟩ := c2.sp p4
  refine ⟨σ2, ?_, c3, p2, p3, (f1.tr f2).tr f3, p4.Z.trans z1, p4.S.trans s1⟩
  rw [r_173, x3 h.1.1, x2 h.1.1, if_pos (tCo h.1.1 isC_sp), e1, onV_i, x3 c1.1.1, pI_r (tCo c1.1.1 isC_sp), x3 c2.1.1, if_pos (tCo c2.1.1 isC_sp), p1, onI_i]
/-- the reference's numbers kept and brought back -/
theorem m_282 (h : InvR τ W L x) : ∃ τ', rn 282 [.ref 611] τ = some (.inl none, τ') ∧ Kp (fun a _ => a = 615) τ τ' ∧ ∀ k, k < 363 → sI τ' 615 k = W k := by
  have m0 := h.1.1
  rw [r_282]
  obtain ⟨τ2, q1, q2, q3⟩ := cpy (ρ := τ) (F := fun i τ => exec PP 1 282 2 [some (.ref 611), some (.int (nI i))] [] τ) (K := fun τ => some (.inl none, τ)) (q := 615) (n := 363) (f := W) (p := 363) (by
    intro i ρ hi hk
    have mρ := m0.e hk.1
    have e6 : sI ρ 612 i = W i := by rw [hk.2 _ _ (by omega), h.2.1.1]
    show exec PP 1 282 2 _ _ ρ = _
    rw [e_282_2, if_pos (nI_ltl (n := 363) hi (by decide)), gR_r mρ.1.1 mρ.1.2.2.2.2.1, gR_r mρ.1.1 mρ.1.2.1, m_w mρ (by omega), e6, uI_r mρ.2.1.2.2.2.1 (by rw [mρ.2.2.2.2.2.1]; omega) (by rw [mρ.2.2.2.2.2.1]; decide), nI_1]) (by
    intro ρ hk
    show exec PP 1 282 2 _ _ ρ = _
    rw [e_282_2, if_neg (nI_nltl (n := 363) (by omega) (by decide)), e_282_27]) rfl
  exact ⟨τ2, q1, q2.mono fun a k z => z.1, q3⟩
theorem m_283 (hM : ShM τ) (h5 : ∀ k, k < 363 → sI τ 615 k = W k) (h3 : ∀ k, 363 ≤ k → sI τ 612 k = W k) : ∃ τ', rn 283 [.ref 611] τ = some (.inl none, τ') ∧ Kp (fun a k => a = 612 ∧ k < 363) τ τ' ∧ sI τ' 612 = W := by
  rw [r_283]
  obtain ⟨τ2, q1, q2, q3⟩ := cpy (ρ := τ) (F := fun i τ => exec PP 1 283 2 [some (.ref 611), some (.int (nI i))] [] τ) (K := fun τ => some (.inl none, τ)) (q := 612) (n := 363) (f := W) (p := 363) (by
    intro i ρ hi hk
    have mρ := hM.e hk.1
    have e6 : sI ρ 615 i = W i := by rw [hk.2 _ _ (by omega)]; exact h5 i hi
    show exec PP 1 283 2 _ _ ρ = _
    rw [e_283_2, if_pos (nI_ltl (n := 363) hi (by decide)), gR_r mρ.1.1 mρ.1.2.1, gR_r mρ.1.1 mρ.1.2.2.2.2.1, aI_r mρ.2.1.2.2.2.1 (by rw [mρ.2.2.2.2.2.1]; omega) (by rw [mρ.2.2.2.2.2.1]; decide), e6, w612 mρ (by omega), nI_1]) (by
    intro ρ hk
    show exec PP 1 283 2 _ _ ρ = _
    rw [e_283_2, if_neg (nI_nltl (n := 363) (by omega) (by decide)), e_283_27]) rfl
  refine ⟨τ2, q1, q2, funext fun k => ?_⟩
  by_cases hk : k < 363
  · exact q3 k hk
  · rw [q2.2 _ _ (by omega)]; exact h3 k (by omega)
theorem m310' (hM : ShM τ) (he : sI τ 612 = W) (hw : WF W) : rn 310 [.ref 611] τ = some (.inl (some (.int (puN W))), τ) := by
  obtain ⟨n1, h5⟩ := WF_nB hw
  have q := m_201 hM
  rw [he, n1] at q
  rw [r_310]
  refine lp0 (F := fun b s => exec PP 3 310 4 [some (.ref 611), some (.int s), some (.int (nI b))] [] τ) (g := fun b s => s + br W b 0) (K := fun s => some (.inl (some (.int s)), τ)) (n := nB W) ?_ ?_ (nB W) 0 0 (by omega)
  · intro b s hb
    have q2 := m_251 (b := b) (f := 0) hM (by omega)
    rw [he] at q2
    try dsimp only
    rw [e_310_4, if_pos hM.1.1, q, onI_i, if_pos (nI_lt hb (by omega)), if_pos hM.1.1, q2, onI_i, nI_1]
  · intro s
    try dsimp only
    rw [e_310_4, if_pos hM.1.1, q, onI_i, if_neg (nI_nlt (Nat.le_refl _) (by omega)), e_310_27]
/-- minutes tried in the reference -/
theorem tried (h : InvR τ W L x) (h5 : ∀ k, k < 363 → sI τ 615 k = W k) {W1 : WW} (ha : W 4 = 1 → LWA L) {x1 : Int32} {f : WW → WW} (hf : f = if x1 = 0 then drW else stW) {n : Nat} (hn : n ≤ 200) {τ1 : SH} (k1 : Kp (fun a k => a = 612 ∧ k < 363) τ τ1) (e1 : sI τ1 612 = W1) (w1 : WF W1) (w4 : W1 4 = W 4) : ∃ τ2 τ3, rn 276 [.ref 611, .int (nI n), .int x1] τ1 = some (.inl (some (.int (mnF L f n W1).2)), τ2) ∧ sI τ2 612 = (mnF L f n W1).1 ∧ WF (mnF L f n W1).1 ∧ ShM τ2 ∧ rn 283 [.ref 611] τ2 = some (.inl none, τ3) ∧ InvR τ3 W L x ∧ (∀ k, k < 363 → sI τ3 615 k = W k) ∧ Kp RS τ τ3 := by
  have m1 := h.1.1.kp k1
  have l1 : tx τ1 = L := (tx_kp k1 (fun j => by omega)).trans h.2.1.2
  obtain ⟨τ2, q4, q5, q6, q7, q8⟩ := m_276 (x1 := x1) m1 e1 l1 w1 (by rw [w4]; exact h.1.2.2) (by rw [w4]; exact ha) hf hn
  have m2 := m1.kp q5
  have kk : Kp RS τ τ2 := (k1.mono fun a k z => Or.inr z).tr q5
  obtain ⟨τ3, p1, p2, p3⟩ := m_283 (W := W) m2 (fun k hk => by rw [kk.2 _ _ (fun z => by unfold RS MJ at z; omega)]; exact h5 k hk) (fun k hk => by rw [kk.2 _ _ (fun z => by unfold RS MJ at z; omega), h.2.1.1])
  have k3 : Kp RS τ τ3 := kk.tr (p2.mono fun a k z => Or.inr z)
  exact ⟨τ2, τ3, q4, q6, q7, m2, p1, h.rs k3 p3 h.1.2.1 rfl, fun k hk => by rw [k3.2 _ _ (fun z => by unfold RS MJ at z; omega)]; exact h5 k hk, k3⟩
theorem op_ahead (hc : InvC σ W L x) (hr : InvR σ W L x) (x0 x1 : Int32) : Opr (rn 171 [.ref 200, .int x0, .int x1] σ) σ (fun τ => rn 281 [.ref 611, .int x0, .int x1] τ) [(2, 1), (0, 2)] W L x := by
  have h := hc.qq hr
  by_cases c1 : inR x0 0 (nB W - 1)
  case neg =>
    refine OpQ.op (OpQ.fail (e := 2) (k := 1) (by rw [r_171, if_pos (tX h.x), m_125n h c1, onV_x]) rfl (by decide) fun τ ht => ?_) hc hr
    have t0 := ht.tM
    have h0 := ht.z
    have t1 := h0.tM
    simp only [r_281, e_281_42, pI_r t0, if_pos t0, if_pos t1, m_249n h0 c1, onI_i, m_216_0, m_216_1 t1, i00, i10, i1o, i0o, if_true, if_false]
    rfl
  by_cases c2 : inR x1 0 200
  case neg =>
    refine OpQ.op (OpQ.fail (e := 0) (k := 2) (by rw [r_171, if_pos (tX h.x), m_125y h c1, onV_i, m_134n (lo := 0) (hi := 200) c2, onV_x]) rfl (by decide) fun τ ht => ?_) hc hr
    have t0 := ht.tM
    have h0 := ht.z
    have t1 := h0.tM
    simp only [r_281, e_281_35, pI_r t0, if_pos t0, if_pos t1, m_249y h0 c1, m_220n (lo := 0) (hi := 200) c2, onI_i, m_216_0, m_216_1 t1, i00, i10, i1o, i0o, if_true, if_false]
    rfl
  obtain ⟨b, ub, -, rfl⟩ := inR_n c1 (Int.le_refl 0)
  have hb : b < nB W := by omega
  have l5 := (WF_nB h.w).2
  have l6 := (WF_nS h.w).2
  obtain ⟨n, un, -, rfl⟩ := inR_n c2 (Int.le_refl 0)
  have hn : n ≤ 200 := by omega
  obtain ⟨σ1, e1, c3, v1, f1, z1, s1⟩ := spare hc
  obtain ⟨σ2, p1, p2, p3, p4⟩ := m_17 (x1 := 0) v1 h.w (f := id) (by rw [if_pos rfl]) hn
  obtain ⟨c4, f2⟩ := c3.sp p4
  obtain ⟨rw1, rw2⟩ := mnF_st (V := W) (L := L) l6 n
  have nb : nB (mnF L id n W).1 = nB W := by
    have := fo_inv (I := fun _ (p : WW × Int32) => nB p.1 = nB W) n 0 (W, (0 : Int32)) (g := mnG L id) rfl (fun i p _ _ hp => by
      show nB (tkW (seF p.1 L).1) = _
      unfold tkW
      rw [nB_u (by omega), (seF_k p.1 L).n.2.1]; exact hp)
    exact this
  have S2 := p2.1.1
  refine Opr.gen (v := br (mnF L id n W).1 b 0) (W' := W) (L' := L) (x' := x) (σ1 := σ2) hc hr ?_ c4 (f1.tr f2).spc ⟨p4.Z.trans z1, p4.S.trans s1⟩ fun τ r => ?_
  · rw [r_171, if_pos (tX h.x), m_125y h c1, onV_i, m_134y (lo := 0) (hi := 200) c2, onV_i, x3 h.x, x2 h.x, if_pos (tCo h.x isC_sp), e1, onV_i, x3 c3.1.1, if_pos (tCo c3.1.1 isC_sp), p1, onI_i, x3 c4.1.1, gR_r S2.1.1 S2.1.2.2.1, cB S2 (show b < 5 by omega), gI_r (S2.2.2.2.2.1 b (by omega)).2, p2.2.1.2.2.1 b 0 (by rw [nb]; exact hb) (by omega)]
  · have r0 := r.z 0
    obtain ⟨τ1, q1, q2, q3⟩ := m_282 r0
    have r1 := r0.kp q2 (fun a j z => by unfold QR; omega)
    obtain ⟨τ2, τ3, t1, t2, t3, t4, t5, t6, t7, t8⟩ := tried r1 q3 hc.2.1.1.2.2.1.2 (x1 := 1) (f := stW) (by rw [if_neg (by decide)]) hn (Kp.rf τ1) r1.2.1.1 h.w rfl
    have q251 := m_251 (b := b) (f := 0) t4 (by omega)
    rw [t2, rw1.b] at q251
    refine ⟨τ3, ?_, t6, (((rp0 τ 0).tr (q2.mono fun a k z => by unfold RP; omega)).tr (t8.mono rpRS)), ?_⟩
    · show rn 281 _ τ = _
      rw [r_281, pI_r r.t, if_pos r0.t, r249y r0 c1, onI_i, if_pos r0.t, m_216_0, onI_i, if_pos rfl, m_220y (lo := 0) (hi := 200) c2, onI_i, if_neg (by decide), e_281_34, if_pos r0.t, m_216_0, onI_i, if_pos rfl, e_281_44, if_pos r0.t, q1, onV_i, if_pos r1.t, t1, onI_i, if_pos t4.1.1, q251, onI_i, if_pos t4.1.1, t5, onV_i]
    · rw [t8.2 _ _ (fun z => by unfold RS MJ at z; omega), q2.2 _ _ (by omega), sI_wIs]
theorem op_trial (hc : InvC σ W L x) (hr : InvR σ W L x) (x0 x1 : Int32) : Opr (rn 172 [.ref 200, .int x0, .int x1] σ) σ (fun τ => rn 309 [.ref 611, .int x0, .int x1] τ) [(0, 1)] W L x := by
  have h := hc.qq hr
  by_cases c2 : inR x0 0 100
  case neg =>
    refine OpQ.op (OpQ.fail (e := 0) (k := 1) (by rw [r_172, m_134n (lo := 0) (hi := 100) c2, onV_x]) rfl (by decide) fun τ ht => ?_) hc hr
    have t0 := ht.tM
    have h0 := ht.z
    have t1 := h0.tM
    simp only [r_309, e_309_21, pI_r t0, if_pos t0, if_pos t1, m_220n (lo := 0) (hi := 100) c2, onI_i, m_216_0, m_216_1 t1, i00, i10, i1o, i0o, if_true, if_false]
    rfl
  obtain ⟨n, un, -, rfl⟩ := inR_n c2 (Int.le_refl 0)
  have hn : n ≤ 200 := by omega
  obtain ⟨σ1, e1, c3, v1, w1, f1, z1, s1⟩ := m_173 hc hn (W 9)
  have e9 : uW W 9 (W 9) = W := uW_id rfl
  rw [e9] at e1 v1 w1
  have tc := tCo h.x isC_now
  have q7 := m_7 v1.1.1 v1.2.1 w1
  refine Opr.gen (v := if x1 = 0 then (mnF L drW n W).2 else puN (mnF L drW n W).1) (W' := W) (L' := L) (x' := x) (σ1 := σ1) hc hr ?_ c3 f1.spc ⟨z1, s1⟩ fun τ r => ?_
  · rw [r_172, m_134y (lo := 0) (hi := 100) c2, onV_i, x2 h.x, gI_r tc, h.c.1.2.2.2.2.2.2.2, if_pos (tX h.x), e1, onI_i]
    by_cases y : x1 = 0
    · rw [if_pos y, if_pos y, e_172_34]
    · rw [if_neg y, if_neg y, x3 c3.1.1, if_pos (tCo c3.1.1 isC_sp), q7, onI_i, e_172_35]
  · have r0 := r.z 0
    obtain ⟨τ1, q1, q2, q3⟩ := m_282 r0
    have r1 := r0.kp q2 (fun a j z => by unfold QR; omega)
    obtain ⟨τ2, τ3, t1, t2, t3, t4, t5, t6, t7, t8⟩ := tried r1 q3 hc.2.1.1.2.2.1.2 (x1 := 0) (f := drW) (by rw [if_pos rfl]) hn (Kp.rf τ1) r1.2.1.1 h.w rfl
    refine ⟨τ3, ?_, t6, (((rp0 τ 0).tr (q2.mono fun a k z => by unfold RP; omega)).tr (t8.mono rpRS)), ?_⟩
    · show rn 309 _ τ = _
      rw [r_309, pI_r r.t, m_220y (lo := 0) (hi := 100) c2, onI_i, if_neg (by decide), e_309_20, if_pos r0.t, m_216_0, onI_i, if_pos rfl, e_309_30, if_pos r0.t, q1, onV_i, if_pos r1.t, t1, onI_i]
      by_cases y : x1 = 0
      · rw [if_pos y, if_pos y, e_309_52, if_pos t4.1.1, t5, onV_i]
      · rw [if_neg y, if_neg y, if_pos t4.1.1, m310' t4 t2 t3, onI_i, e_309_53, if_pos t4.1.1, t5, onV_i]
    · rw [t8.2 _ _ (fun z => by unfold RS MJ at z; omega), q2.2 _ _ (by omega), sI_wIs]
end B4
