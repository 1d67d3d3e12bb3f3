section B2
variable {σ σ' τ : SH} {W L : WW} {x : XX}
theorem InvC.js {W' : WW} (h : InvC σ W L x) (k : Kp (JS 211 σ) σ σ') (hc : CV σ' 211 W' L) (hw : WF W') : InvC σ' W' L x ∧ Fr PC RC σ σ' := by
  obtain ⟨⟨a1, a2⟩, ⟨a3, a4⟩, a5, a6, a7, a8⟩ := h
  have hz := a2.1
  have f : Fr (fun a _ => 211 ≤ a ∧ a < 237) (fun _ => False) σ σ' := k.fr (fun a _ z1 z => by unfold JS Stq at z; omega) (fun a j z1 z2 => by
    rcases z2 with z2 | z2
    · omega
    · exact z2)
  have ok : okR (fun _ : Nat => False) := fun a z => z.elim
  refine ⟨⟨⟨a1.fr f hz ok, a2.fr f k.Z⟩, ⟨hc, hw⟩, a5.fr a2 f ok (by omega) (fun a _ z => z) (fun a j _ _ z => by omega) (fun a j _ z => by omega), a6.fr a2 f ok (by omega) (fun z => z) (fun a j _ _ z => by omega) (fun a j _ z => by omega), a7.fr a2 f (by omega) (fun j z => by omega), ?_⟩, f.mono (fun a j _ z => by unfold PC; omega) (fun a z => z.elim)⟩
  rw [f.I (by omega) (by omega) (by omega)]; exact a8
theorem InvR.rs {W' : WW} (h : InvR τ W L x) {τ' : SH} (k : Kp RS τ τ') (e : sI τ' 612 = W') (hw : WF W') (h4 : W' 4 = W 4) : InvR τ' W' L x := by
  obtain ⟨⟨a1, a2, a2b⟩, ⟨a3, a4⟩, ⟨a5, a5b⟩, ⟨a6, a6b⟩, ⟨a7, a7b⟩, a8⟩ := h
  have I : ∀ a j, (a = 613 ∨ a = 616 ∨ a = 617 ∨ (a = 611 ∧ (j = 6 ∨ j = 7 ∨ j = 9 ∨ j = 14)) ∨ (a = 612 ∧ 363 ≤ j)) → sI τ' a j = sI τ a j := fun a j z => k.2 a j (fun q => by unfold RS MJ at q; omega)
  refine ⟨⟨a1.kp k, hw, by rw [h4]; exact a2b⟩, ⟨e, ?_⟩, ⟨?_, fun i j z1 z2 => ?_⟩, ⟨?_, fun z => ⟨fun j hj => ?_, fun j hj => ?_⟩⟩, ⟨?_, fun j hj => ?_⟩, ?_⟩
  · rw [← a4]; funext j; exact I 612 (363 + j) (by omega)
  · rw [I _ _ (by omega)]; exact a5
  · rw [I _ _ (by omega)]; exact a5b i j z1 z2
  · rw [I _ _ (by omega)]; exact a6
  · rw [I _ _ (by omega)]; exact (a6b z).1 j hj
  · rw [I _ _ (by omega)]; exact (a6b z).2 j hj
  · rw [I _ _ (by omega)]; exact a7
  · rw [I _ _ (by omega)]; exact a7b j hj
  · rw [I _ _ (by omega)]; exact a8
theorem rpRS : ∀ a k, RS a k → RP a k := fun a k z => by unfold RS MJ at z; unfold RP; omega
theorem op_minutes (hc : InvC σ W L x) (hr : InvR σ W L x) (x0 : Int32) : Opr (rn 144 [.ref 200, .int x0] σ) σ (fun τ => rn 275 [.ref 611, .int x0] τ) [(0, 1)] W L x := by
  have h := hc.qq hr
  by_cases c1 : inR x0 1 100
  case neg =>
    refine OpQ.op (OpQ.fail (e := 0) (k := 1) (by rw [r_144, m_134n (lo := 1) (hi := 100) c1, onV_x]) rfl (by decide) fun τ ht => ?_) hc hr
    have t0 := ht.tM
    have h0 := ht.z
    have t1 := h0.tM
    simp only [r_275, e_275_21, pI_r t0, if_pos t0, if_pos t1, m_220n (lo := 1) (hi := 100) c1, onI_i, m_216_0, m_216_1 t1, i00, i10, i1o, i0o, if_true, if_false]
    rfl
  obtain ⟨n, un, -, rfl⟩ := inR_n c1 (by decide)
  have hn : n ≤ 200 := by omega
  obtain ⟨σ1, e1, c2, f1, z1, s1⟩ := m_136 hc
  obtain ⟨σ2, p1, p2, p3, p4⟩ := m_17 (x1 := 1) c2.2.1.1 c2.2.1.2 (f := drW) (by rw [if_neg (by decide)]) hn
  obtain ⟨c3, f2⟩ := c2.js p4 p2 p3
  refine Opr.gen (v := (mnF L drW n W).2) (W' := (mnF L drW n W).1) (L' := L) (x' := remX x W) (σ1 := σ2) hc hr ?_ c3 (f1.tr f2) ⟨p4.Z.trans z1, p4.S.trans s1⟩ fun τ r => ?_
  · rw [r_144, m_134y (lo := 1) (hi := 100) c1, onV_i, if_pos (tX hc.1.1), e1, onV_i, x2 c2.1.1, if_pos (tCo c2.1.1 isC_now), p1, onI_i]
  · have r0 := r.z 0
    obtain ⟨τ1, q1, q2, q3⟩ := m_268 r0 hc.r12
    obtain ⟨τ2, q4, q5, q6, q7, q8⟩ := m_276 (x1 := 0) q2.1.1 q2.2.1.1 q2.2.1.2 q2.1.2.1 q2.1.2.2 hc.2.1.1.2.2.1.2 (f := drW) (by rw [if_pos rfl]) hn
    refine ⟨τ2, ?_, q2.rs q5 q6 q7 q8, ((rp0 τ 0).tr (q3.mono rp268)).tr (q5.mono rpRS), ?_⟩
    · show rn 275 _ τ = _
      rw [r_275, pI_r r.t, m_220y (lo := 1) (hi := 100) c1, onI_i, if_neg (by decide), e_275_20, if_pos r0.t, m_216_0, onI_i, if_pos rfl, e_275_30, if_pos r0.t, q1, onV_i, if_pos q2.t, q4, onI_i]
    · rw [q5.2 _ _ (fun z => by unfold RS MJ at z; omega), q3.2 _ _ (by omega), sI_wIs]
end B2
