section B5
variable {σ σ' τ : SH} {W L : WW} {x : XX}
def spT (W L : WW) (n s : Nat) : Int32 := (mnF L drW n (uW W 9 (nI s))).2
def spG (W L : WW) (n : Nat) (x1 : Int32) : Nat → Int32 → Int32 := fun s m => if x1 = 0 then (if (spT W L n s < m : Prop) then spT W L n s else m) else (if (m < spT W L n s : Prop) then spT W L n s else m)
theorem op_span (hc : InvC σ W L x) (hr : InvR σ W L x) (x0 x1 : Int32) : Opr (rn 174 [.ref 200, .int x0, .int x1] σ) σ (fun τ => rn 311 [.ref 611, .int x0, .int x1] τ) [(0, 1)] W L x := by
  have h := hc.qq hr
  by_cases c2 : inR x0 0 100
  case neg =>
    refine OpQ.op (OpQ.fail (e := 0) (k := 1) (by rw [r_174, m_134n (lo := 0) (hi := 100) c2, onV_x]) rfl (by decide) fun τ ht => ?_) hc hr
    have t0 := ht.tM
    have h0 := ht.z
    have t1 := h0.tM
    simp only [r_311, e_311_21, pI_r t0, if_pos t0, if_pos t1, m_220n (lo := 0) (hi := 100) c2, onI_i, m_216_0, m_216_1 t1, i00, i10, i1o, i0o, if_true, if_false]
    rfl
  obtain ⟨n, un, -, rfl⟩ := inR_n c2 (Int.le_refl 0)
  have hn : n ≤ 200 := by omega
  have l6 := (WF_nS h.w).2
  have l8 := (WF_nD h.w).2
  have pos : ∀ s, 0 ≤ (spT W L n s).toInt := fun s => mnF_b (by rw [nS_u (by omega)]; exact l6) (by rw [nD_u (by omega)]; exact l8) hn
  obtain ⟨σ1, e1, c3, v1, w1, f1, z1, s1⟩ := m_173 hc hn 1
  have z0 : (0 : Int32).toInt = 0 := by decide
  have z6 : (6 : Int32).toInt = 6 := by decide
  have n6 : ∀ i, i < 7 → ¬ (6 : Int32) < nI i := fun i hi => by rw [tlt, tnI (by omega), z6]; omega
  obtain ⟨σ2, d1, d2, d3, d4, d5⟩ := lpS (F := fun i (m : Int32) σ => exec PP 8 174 17 [some (.ref 200), some (.int (nI n)), some (.int x1), some (.int m), some (.int (nI i)), none] [] σ) (g := spG W L n x1) (K := fun m σ => some (.inl (some (.int m)), σ)) (I := fun i m ρ => InvC ρ W L x ∧ Fr PS7 SR7 σ ρ ∧ sZ ρ = sZ σ ∧ sS ρ = sS σ) (n := 7) (by
    rintro i m ρ hi ⟨q1, q2, q3, q4⟩
    obtain ⟨ρ1, p1, p2, p3, p4, p5, p6, p7⟩ := m_173 q1 hn (nI i)
    refine ⟨ρ1, ?_, p2, q2.tr p5, p6.trans q3, p7.trans q4⟩
    have p1' : rn 173 [.ref 200, .int (nI n), .int (nI i)] ρ = some (.inl (some (.int (spT W L n i))), ρ1) := p1
    show exec PP 8 174 17 _ _ ρ = exec PP 8 174 17 [_, _, _, some (.int (spG W L n x1 i m)), _, none] _ ρ1
    rw [e_174_17, if_neg (n6 i hi), if_pos (tX q1.1.1), p1', onI_i]
    unfold spG
    by_cases y : x1 = 0
    · rw [if_pos y, if_pos y, e_174_46]
      by_cases u : spT W L n i < m
      · rw [if_pos u, if_pos u, nI_1]
      · rw [if_neg u, if_neg u, e_174_55, nI_1]
    · rw [if_neg y, if_neg y]
      by_cases u : m < spT W L n i
      · rw [if_pos u, if_pos u, e_174_52, nI_1]
      · rw [if_neg u, if_neg u, e_174_55, nI_1]) (by
    rintro m ρ ⟨q1, q2, q3, q4⟩
    show exec PP 8 174 17 _ _ ρ = _
    rw [e_174_17, if_pos (show (6 : Int32) < nI 7 by decide), e_174_61]) 5 2 (spT W L n 1) σ1 (by omega) ⟨c3, f1, z1, s1⟩
  refine Opr.gen (v := fo (spG W L n x1) 2 5 (spT W L n 1)) (W' := W) (L' := L) (x' := x) (σ1 := σ2) hc hr ?_ d2 d3.spc ⟨d4, d5⟩ fun τ r => ?_
  · rw [r_174, m_134y (lo := 0) (hi := 100) c2, onV_i, if_pos (tX h.x), e1, onI_i]
    exact d1
  · have r0 := r.z 0
    obtain ⟨τ1, q1, q2, q3⟩ := m_282 r0
    have r1 := r0.kp q2 (fun a j z => by unfold QR; omega)
    have ha := hc.2.1.1.2.2.1.2
    -- one round of the reference
    have one : ∀ (ρ : SH) (m : Int32) (i : Nat), i < 7 → InvR ρ W L x → (∀ k, k < 363 → sI ρ 615 k = W k) → ∃ ρ3, exec PP 12 311 39 [some (.ref 611), some (.int (nI n)), some (.int x1), some (.int m), some (.int (nI i)), none] [] ρ = (if (m < 0 : Prop) then (exec PP 12 311 95 [some (.ref 611), some (.int (nI n)), some (.int x1), some (.int m), some (.int (nI i)), some (.int (spT W L n i))] [.int (spT W L n i)] ρ3) else (exec PP 12 311 76 [some (.ref 611), some (.int (nI n)), some (.int x1), some (.int m), some (.int (nI i)), some (.int (spT W L n i))] [] ρ3)) ∧ InvR ρ3 W L x ∧ (∀ k, k < 363 → sI ρ3 615 k = W k) ∧ Kp RS ρ ρ3 := by
      intro ρ m i hi rρ h5
      have mρ := rρ.1.1
      obtain ⟨τ2, τ3, t1, t2, t3, t4, t5, t6, t7, t8⟩ := tried rρ h5 ha (x1 := 0) (f := drW) (by rw [if_pos rfl]) hn (W1 := uW W 9 (nI i)) (τ1 := wI ρ 612 9 (nI i)) (Kp.w ⟨rfl, by omega⟩) (by rw [sI_upd, rρ.2.1.1]) h.w.r9 (uW_n (by omega))
      refine ⟨τ3, ?_, t6, t7, t8⟩
      have t1' : rn 276 [.ref 611, .int (nI n), .int 0] (wI ρ 612 9 (nI i)) = some (.inl (some (.int (spT W L n i))), τ2) := t1
      rw [e_311_39, if_neg (n6 i hi), g612 rρ, w612_9 mρ, if_pos (show sT (wI ρ 612 9 (nI i)) 611 = 112 from mρ.1.1), t1', onI_i, if_pos t4.1.1, t5, onV_i]
    obtain ⟨ρ1, o1, o2, o3, o4⟩ := one τ1 (-1) 1 (by omega) r1 q3
    obtain ⟨ρ2, g1, g2, g3, g4, g5⟩ := lpS (F := fun i (m : Int32) σ => exec PP 12 311 39 [some (.ref 611), some (.int (nI n)), some (.int x1), some (.int m), some (.int (nI i)), none] [] σ) (g := spG W L n x1) (K := fun m σ => some (.inl (some (.int m)), σ)) (I := fun i m ρ => InvR ρ W L x ∧ (∀ k, k < 363 → sI ρ 615 k = W k) ∧ Kp RS τ1 ρ ∧ 0 ≤ m.toInt) (n := 7) (by
      rintro i m ρ hi ⟨u1, u2, u3, u4⟩
      obtain ⟨ρ', y1, y2, y3, y4⟩ := one ρ m i hi u1 u2
      refine ⟨ρ', ?_, y2, y3, u3.tr y4, ?_⟩
      · show exec PP 12 311 39 _ _ ρ = exec PP 12 311 39 [_, _, _, some (.int (spG W L n x1 i m)), _, none] _ ρ'
        rw [y1, if_neg (by rw [tlt, z0]; omega), e_311_76]
        unfold spG
        by_cases y : x1 = 0
        · rw [if_pos y, if_pos y, e_311_89, m_328, onI_i, nI_1]
        · rw [if_neg y, if_neg y, m_327, onI_i, e_311_95, nI_1]
      · show 0 ≤ (spG W L n x1 i m).toInt
        have := pos i
        unfold spG
        split
        · split <;> assumption
        · split <;> assumption) (by
      rintro m ρ ⟨u1, u2, u3, u4⟩
      show exec PP 12 311 39 _ _ ρ = _
      rw [e_311_39, if_pos (show (6 : Int32) < nI 7 by decide), e_311_102]) 5 2 (spT W L n 1) ρ1 (by omega) ⟨o2, o3, o4, pos 1⟩
    refine ⟨ρ2, ?_, g2, (((rp0 τ 0).tr (q2.mono fun a k z => by unfold RP; omega)).tr (g4.mono rpRS)), ?_⟩
    · show rn 311 _ τ = _
      rw [r_311, pI_r r.t, m_220y (lo := 0) (hi := 100) c2, onI_i, if_neg (by decide), e_311_20, if_pos r0.t, m_216_0, onI_i, if_pos rfl, e_311_30, if_pos r0.t, q1, onV_i]
      rw [if_pos (by decide), e_311_95] at o1
      exact o1.trans g1
    · rw [g4.2 _ _ (fun z => by unfold RS MJ at z; omega), q2.2 _ _ (by omega), sI_wIs]
end B5
