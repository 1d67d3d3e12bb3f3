section A7
variable {σ τ : SH} {W L : WW} {x : XX}
/-- .. of a call without an answer -/
def OpV (cl : SR) (σ : SH) (rf : SH → SR) (W L : WW) (x : XX) : Prop := ∃ (W' L' : WW) (x' : XX) (σ1 : SH), cl = some (.inl none, σ1) ∧ InvC σ1 W' L' x' ∧ InvR σ1 W L x ∧ Lo σ σ1 ∧ Bu σ σ1 ∧ ∀ τ, InvC τ W' L' x' → InvR τ W L x → ∃ τ2, rf τ = some (.inl none, τ2) ∧ InvC τ2 W' L' x' ∧ InvR τ2 W' L' x' ∧ (τ2.2 = τ.2 ∧ ∀ a j, a < 200 → sI τ2 a j = sI τ a j) ∧ sI τ2 611 0 = 0
theorem op_image (hc : InvC σ W L x) (hr : InvR σ W L x) : OpV (rn 115 [.ref 200] σ) σ (fun τ => rn 179 [.ref 611] τ) W L x := by
  obtain ⟨xp, ⟨g, V, M⟩, xr⟩ := x
  obtain ⟨⟨a1, a2⟩, ⟨a3, a4⟩, a5, a6, a7, a8⟩ := id hc
  have hz := a2.1
  have hv : sV σ 211 12 = .null ∨ ∃ q, sV σ 211 12 = .ref q := by
    rcases a3.2.2.1.1 with ⟨z, _⟩ | ⟨q, _, z, _⟩
    · exact Or.inl z
    · exact Or.inr ⟨q, z⟩
  obtain ⟨σ1, e1, k1⟩ := m_6 (σ := σ) (a := 263) (b := 211) isC_kp isC_now (by omega) a1 a3.2.2.2.2.2 hv
  have f1 : Fr (fun a k => (263 ≤ a ∧ a < 289) ∨ (a = 200 ∧ k = 8)) (fun a => a = 263) σ σ1 := k1.fr isC_kp (fun q _ z1 z2 => Or.inl ⟨z1, z2⟩) rfl
  have ok1 : okR (fun a => a = 263) := fun a z => Or.inl (by rw [z]; exact isC_kp)
  have s1 := a1.fr f1 hz ok1
  have t1 := a2.fr f1 k1.Z
  have cnew := k1.cv a3 a4 isC_kp isC_now (a1.2.2.2.2.2.2.2.2 _ isC_kp) a2
  have f2 : Fr (fun a k => a = 200 ∧ k = 8) (fun _ => False) σ1 (wI σ1 200 8 1) := Kp.fr (Q := fun a k => a = 200 ∧ k = 8) (Kp.w ⟨rfl, rfl⟩) (fun _ _ _ z => z) (fun a k z1 z2 => by omega)
  have okF : okR (fun _ : Nat => False) := fun a z => z.elim
  have f12 := f1.tr (f2.mono (P' := fun a k => (263 ≤ a ∧ a < 289) ∨ (a = 200 ∧ k = 8)) (R' := fun a => a = 263) (fun _ _ _ z => Or.inr z) (fun _ z => z.elim))
  have fpc : Fr PC RC σ (wI σ1 200 8 1) := f12.mono (fun a k _ z => by unfold PC; omega) (fun a z => Or.inl (by rw [z]; exact isC_kp))
  refine ⟨W, L, (xp, (true, W, L), xr), wI σ1 200 8 1, ?_, ⟨⟨a1.fr f12 hz ok1, t1.fr f2 rfl⟩, ⟨a3.fr a4 isC_now a2 f12 ok1 (by omega) (fun i j _ _ z => by omega) (fun a j _ z => by omega), a4⟩, a5.fr a2 f12 ok1 (by omega) (fun a _ z => by omega) (fun a j _ _ z => by omega) (fun a j _ z => by omega), ⟨sI_wIs _ _ _ _, fun _ => ⟨cnew.fr a4 isC_kp t1 f2 okF (fun z => z) (fun i j _ _ z => by omega) (fun a j _ z => by omega), a4⟩⟩, a7.fr a2 f12 (by omega) (fun j z => by omega), ?_⟩, hr.pc hz fpc, Lo.pc fpc hz, ⟨by rw [show sZ (wI σ1 200 8 1) = sZ σ from k1.Z]; omega, by rw [show sZ (wI σ1 200 8 1) = sZ σ from k1.Z]; omega, by rw [show sS (wI σ1 200 8 1) = sS σ from k1.S]; omega⟩, fun τ c r => ?_⟩
  · rw [r_115, x4 a1, x2 a1, if_pos (tCo a1 isC_kp), e1, onV_i, pB_r (tX s1) (Or.inr rfl)]
  · rw [f12.I (by omega) (by omega) (by omega)]; exact a8
  · have r0 := r.z 0
    have m0 := r0.1.1
    obtain ⟨τ2, q1, q2, q3⟩ := cpy (ρ := wI τ 611 0 0) (F := fun i τ => exec PP 1 179 7 [some (.ref 611), some (.int (nI i))] [] τ) (K := fun τ => some (.inl none, wI τ 611 6 1)) (q := 613) (n := 1212) (f := W) (p := 1212) (by
      intro i ρ hi hk
      have mρ := m0.e hk.1
      have e6 : sI ρ 612 i = W i := by
        rw [hk.2 _ _ (by omega), r0.2.1.1]
      show exec PP 1 179 7 _ _ ρ = _
      rw [e_179_7, if_pos (nI_ltl (n := 1212) hi (by decide)), gR_r mρ.1.1 mρ.1.2.2.1, gR_r mρ.1.1 mρ.1.2.1, m_w mρ (by omega), e6, uI_r mρ.2.1.2.1 (by rw [mρ.2.2.2.1]; omega) (by rw [mρ.2.2.2.1]; decide), nI_1]) (by
      intro ρ hk
      have mρ := m0.e hk.1
      show exec PP 1 179 7 _ _ ρ = _
      rw [e_179_7, if_neg (nI_nltl (n := 1212) (by omega) (by decide)), e_179_32, pB_r mρ.1.1 (Or.inr rfl)]) rfl
    have kk : Kp (fun a k => a = 613 ∨ (a = 611 ∧ k = 6)) (wI τ 611 0 0) (wI τ2 611 6 1) := (q2.mono fun a k z => Or.inl z.1).wr (Or.inr ⟨rfl, rfl⟩)
    have kr : Kp RP τ (wI τ2 611 6 1) := (rp0 τ 0).tr (kk.mono fun a k z => by unfold RP; omega)
    obtain ⟨g1, ⟨g3, g4⟩, ⟨g5, g5b⟩, ⟨g6, g6b⟩, ⟨g7, g7b⟩, g8⟩ := r0
    have e612 : sI (wI τ2 611 6 1) 612 = sI (wI τ 611 0 0) 612 := funext fun k => kk.2 _ _ (by omega)
    refine ⟨wI τ2 611 6 1, ?_, c.rp kr, ⟨⟨m0.kp kk, g1.2⟩, ⟨e612.trans g3, ?_⟩, ⟨?_, fun i j z1 z2 => ?_⟩, ⟨sI_wIs _ _ _ _, fun z => ⟨fun j hj => ?_, fun j hj => ?_⟩⟩, ⟨?_, fun j hj => ?_⟩, ?_⟩, ⟨kr.1, fun a j ha => kr.2 a j (fun z => by unfold RP at z; omega)⟩, ?_⟩
    · show rn 179 _ τ = _
      rw [r_179, pI_r r.t]
      exact q1
    · unfold tx at g4 ⊢; rw [e612]; exact g4
    · rw [kk.2 _ _ (by omega)]; exact g5
    · rw [kk.2 _ _ (by omega)]; exact g5b i j z1 z2
    · rw [sI_wIn (by omega)]; exact q3 j (by omega)
    · rw [sI_wIn (by omega), q3 _ (by omega)]
      have := congrFun g4 j
      unfold tx at this
      rw [g3] at this
      exact this
    · rw [kk.2 _ _ (by omega)]; exact g7
    · rw [kk.2 _ _ (by omega)]; exact g7b j hj
    · rw [kk.2 _ _ (by omega)]; exact g8
    · rw [kk.2 _ _ (by omega), sI_wIs]
theorem op_back (hc : InvC σ W L x) (hr : InvR σ W L x) : Opr (rn 116 [.ref 200] σ) σ (fun τ => rn 180 [.ref 611] τ) [] W L x := by
  obtain ⟨⟨r, P⟩, ⟨g, V, M⟩, xr⟩ := x
  obtain ⟨⟨a1, a2⟩, ⟨a3, a4⟩, ⟨o, ⟨o1, o2⟩, ⟨o3, o4⟩, o5⟩, ⟨a6, a6b⟩, a7, a8⟩ := id hc
  try dsimp only at a6 a6b
  have hz := a2.1
  cases g with
  | false =>
    refine Opr.gen (v := 0) (W' := W) (L' := L) (x' := ((r, P), (false, V, M), xr)) (σ1 := σ) hc hr ?_ hc (Fr.rf σ) ⟨rfl, rfl⟩ fun τ r => ?_
    · rw [r_116, xI a1, a6, if_pos (show bI false = (0 : Int32) from rfl)]
    · have r0 := r.z 0
      refine ⟨wI τ 611 0 0, ?_, r0, rp0 τ 0, sI_wIs _ _ _ _⟩
      show rn 180 _ τ = _
      rw [r_180, pI_r r.t, gI_r r0.t, r0.2.2.2.1.1, if_pos (show bI false = (0 : Int32) from rfl)]
  | true =>
    obtain ⟨b1, b2⟩ := a6b rfl
    have hv : sV σ 263 12 = .null ∨ ∃ q, sV σ 263 12 = .ref q := by
      rcases b1.2.2.1.1 with ⟨z, _⟩ | ⟨q, _, z, _⟩
      · exact Or.inl z
      · exact Or.inr ⟨q, z⟩
    obtain ⟨σ1, e1, k1⟩ := m_6 (σ := σ) (a := 211) (b := 263) isC_now isC_kp (by omega) a1 b1.2.2.2.2.2 hv
    have f1 : Fr (fun a k => (211 ≤ a ∧ a < 237) ∨ (a = 200 ∧ (k = 9 ∨ k = 10))) (fun a => a = 211) σ σ1 := k1.fr isC_now (fun q _ z1 z2 => Or.inl ⟨z1, z2⟩) rfl
    have ok1 : okR (fun a => a = 211) := fun a z => Or.inl (by rw [z]; exact isC_now)
    have s1 := a1.fr f1 hz ok1
    have t1 := a2.fr f1 k1.Z
    have cnew := k1.cv b1 b2 isC_now isC_kp (a1.2.2.2.2.2.2.2.2 _ isC_now) a2
    have kw : Kp (fun a k => a = 200 ∧ (k = 9 ∨ k = 10)) σ1 (wI (wI σ1 200 9 0) 200 10 0) := (Kp.w ⟨rfl, Or.inl rfl⟩).wr ⟨rfl, Or.inr rfl⟩
    have f2 : Fr (fun a k => a = 200 ∧ (k = 9 ∨ k = 10)) (fun _ => False) σ1 (wI (wI σ1 200 9 0) 200 10 0) := Kp.fr kw (fun _ _ _ z => z) (fun a k z1 z2 => by omega)
    have okF : okR (fun _ : Nat => False) := fun a z => z.elim
    have f12 := f1.tr (f2.mono (P' := fun a k => (211 ≤ a ∧ a < 237) ∨ (a = 200 ∧ (k = 9 ∨ k = 10))) (R' := fun a => a = 211) (fun _ _ _ z => Or.inr z) (fun _ z => z.elim))
    have fpc : Fr PC RC σ (wI (wI σ1 200 9 0) 200 10 0) := f12.mono (fun a k _ z => by unfold PC; omega) (fun a z => Or.inl (by rw [z]; exact isC_now))
    have c2 := cnew.fr b2 isC_now t1 f2 okF (fun z => z) (fun i j _ _ z => by omega) (fun a j _ z => by omega)
    have eW : ∀ k, k < 363 → (fun k => if k < 363 then V k else if k < 1212 then M (k - 363) else W k) k = V k := fun k hk => if_pos hk
    have eL : ∀ k, k < 849 → (fun k => if k < 849 then M k else L k) k = M k := fun k hk => if_pos hk
    have wf' := WF_cg b2 eW
    have c3 := c2.cg b2 eW eL
    refine Opr.gen (v := 1) (W' := fun k => if k < 363 then V k else if k < 1212 then M (k - 363) else W k) (L' := fun k => if k < 849 then M k else L k) (x' := ((0, P), (true, V, M), xr)) (σ1 := wI (wI σ1 200 9 0) 200 10 0) hc hr ?_ ⟨⟨a1.fr f12 hz ok1, t1.fr f2 rfl⟩, ⟨c3, wf'⟩, ⟨0, ⟨show 0 ≤ 12 by omega, by omega⟩, ⟨sI_wIs _ _ _ _, by rw [sI_wIn (by omega), sI_wIs]; rfl⟩, fun i hi => absurd hi (Nat.not_lt_zero i)⟩, ?_, a7.fr a2 f12 (by omega) (fun j z => by omega), ?_⟩ fpc ⟨k1.Z, k1.S⟩ fun τ r' => ?_
    · rw [r_116, xI a1, a6, if_neg (show ¬ bI true = (0 : Int32) by decide), e_116_9, x2 a1, x4 a1, if_pos (tCo a1 isC_now), e1, onV_i, if_pos (tX s1), r_117, pI_r (tX s1), pI_r (show sT (wI σ1 200 9 0) 200 = 111 from tX s1), onV_i]
    · exact ImC.fr (show ImC σ true V M from ⟨a6, a6b⟩) a2 f12 ok1 (by omega) (by omega) (fun a j _ _ z => by omega) (fun a j _ z => by omega)
    · rw [f12.I (by omega) (by omega) (by omega)]; exact a8
    · have r0 := r'.z 0
      have m0 := r0.1.1
      obtain ⟨g1, ⟨g3, g4⟩, ⟨g5, g5b⟩, ⟨g6, g6b⟩, ⟨g7, g7b⟩, g8⟩ := id r0
      obtain ⟨τ2, q1, q2, q3⟩ := cpy (ρ := wI τ 611 0 0) (F := fun i τ => exec PP 1 180 16 [some (.ref 611), some (.int (nI i))] [] τ) (K := fun τ => some (.inl (some (.int 1)), wI τ 611 7 0)) (q := 612) (n := 1212) (f := sI τ 613) (p := 1212) (by
        intro i ρ hi hk
        have mρ := m0.e hk.1
        have e6 : sI ρ 613 i = sI τ 613 i := by rw [hk.2 _ _ (by omega), sI_wIn (by omega)]
        show exec PP 1 180 16 _ _ ρ = _
        rw [e_180_16, if_pos (nI_ltl (n := 1212) hi (by decide)), gR_r mρ.1.1 mρ.1.2.1, gR_r mρ.1.1 mρ.1.2.2.1, aI_r mρ.2.1.2.1 (by rw [mρ.2.2.2.1]; omega) (by rw [mρ.2.2.2.1]; decide), e6, w612 mρ (by omega), nI_1]) (by
        intro ρ hk
        have mρ := m0.e hk.1
        show exec PP 1 180 16 _ _ ρ = _
        rw [e_180_16, if_neg (nI_nltl (n := 1212) (by omega) (by decide)), e_180_41, pI_r mρ.1.1]) rfl
      have kk : Kp (fun a k => (a = 612 ∧ k < 1212) ∨ (a = 611 ∧ k = 7)) (wI τ 611 0 0) (wI τ2 611 7 0) := (q2.mono fun a k z => Or.inl z).wr (Or.inr ⟨rfl, rfl⟩)
      have e613 : ∀ k, sI τ 613 k = sI (wI τ 611 0 0) 613 k := fun k => (sI_wIn (by omega)).symm
      have lo : ∀ k, k < 363 → sI (wI τ2 611 7 0) 612 k = V k := fun k hk => by
        rw [sI_wIn (by omega), q3 k (by omega), e613]; exact (g6b rfl).1 k hk
      have hi : ∀ k, k < 849 → sI (wI τ2 611 7 0) 612 (363 + k) = M k := fun k hk => by
        rw [sI_wIn (by omega), q3 _ (by omega), e613]; exact (g6b rfl).2 k hk
      have up : ∀ k, 1212 ≤ k → sI (wI τ2 611 7 0) 612 k = W k := fun k hk => by
        rw [kk.2 _ _ (by omega), g3]
      refine ⟨wI τ2 611 7 0, ?_, ⟨⟨m0.kp kk, wf', fun z => (law_cg (b1.lw z) eL).1⟩, ⟨?_, ?_⟩, ⟨sI_wIs _ _ _ _, fun i j z1 z2 => absurd z1 (Nat.not_lt_zero i)⟩, ⟨?_, fun z => ⟨fun j hj => ?_, fun j hj => ?_⟩⟩, ⟨?_, fun j hj => ?_⟩, ?_⟩, (rp0 τ 0).tr (kk.mono fun a k z => by unfold RP; omega), ?_⟩
      · show rn 180 _ τ = _
        rw [r_180, pI_r r'.t, gI_r (show sT (wI τ 611 0 0) 611 = 112 from r'.t), g6, if_neg (show ¬ bI true = (0 : Int32) by decide), e_180_14]
        exact q1
      · funext k
        by_cases h1 : k < 363
        · rw [lo k h1]; exact (if_pos h1).symm
        · by_cases h2 : k < 1212
          · show _ = (if k < 363 then V k else if k < 1212 then M (k - 363) else W k)
            rw [if_neg h1, if_pos h2]
            have := hi (k - 363) (by omega)
            rw [show 363 + (k - 363) = k by omega] at this
            exact this
          · show _ = (if k < 363 then V k else if k < 1212 then M (k - 363) else W k)
            rw [if_neg h1, if_neg h2, up k (by omega)]
      · funext k
        show sI (wI τ2 611 7 0) 612 (363 + k) = (if k < 849 then M k else L k)
        by_cases h1 : k < 849
        · rw [if_pos h1]; exact hi k h1
        · rw [if_neg h1, up _ (by omega), ← g4, ← g3]; rfl
      · rw [kk.2 _ _ (by omega)]; exact g6
      · rw [kk.2 _ _ (by omega)]; exact (g6b z).1 j hj
      · rw [kk.2 _ _ (by omega)]; exact (g6b z).2 j hj
      · rw [kk.2 _ _ (by omega)]; exact g7
      · rw [kk.2 _ _ (by omega)]; exact g7b j hj
      · rw [kk.2 _ _ (by omega)]; exact g8
      · rw [kk.2 _ _ (by omega), sI_wIs]
end A7
