section B6
variable {σ σ' τ τ' : SH} {W L : WW} {x : XX}
theorem gT0 (h : ShX σ) (k : Nat → SR) : gR σ 111 0 (.ref 200) k = k 201 := gR_r h.1.1 h.1.2.1
def xT (x : XX) (T : Nat) (B : Nat → Nat) : XX := (x.1, x.2.1, (T, B), x.2.2.2)
theorem InvC.tp (h : InvC σ W L x) (k : Kp (fun a k => (a = 201 ∧ k = 1) ∨ a = 202) σ σ') {T : Nat} {B : Nat → Nat} (ht : TpC σ' T B) : InvC σ' W L (xT x T B) ∧ Fr PC RC σ σ' := by
  obtain ⟨⟨a1, a2⟩, ⟨a3, a4⟩, a5, a6, a7, a8⟩ := h
  have hz := a2.1
  have f : Fr (fun a k => (a = 201 ∧ k = 1) ∨ a = 202) (fun _ => False) σ σ' := k.fr (fun _ _ _ z => z) (fun a j z1 z2 => by omega)
  have ok : okR (fun _ : Nat => False) := fun a z => z.elim
  refine ⟨⟨⟨a1.fr f hz ok, a2.fr f k.Z⟩, ⟨a3.fr a4 isC_now a2 f ok (fun z => z) (fun i j _ _ z => by omega) (fun a j _ z => by omega), a4⟩, a5.fr a2 f ok (by omega) (fun a _ z => z) (fun a j _ _ z => by omega) (fun a j _ z => by omega), a6.fr a2 f ok (by omega) (fun z => z) (fun a j _ _ z => by omega) (fun a j _ z => by omega), ht, ?_⟩, f.mono (fun a j _ z => by unfold PC; omega) (fun a z => z.elim)⟩
  rw [k.2 _ _ (by omega)]; exact a8
theorem InvR.tp {Q : Nat → Nat → Prop} (h : InvR τ W L x) (k : Kp Q τ τ') (hQ : ∀ a j, Q a j → QR a j ∨ (a = 611 ∧ j = 9) ∨ a = 617) {T : Nat} {B : Nat → Nat} (ht : TpR τ' T B) : InvR τ' W L (xT x T B) := by
  obtain ⟨⟨a1, a2⟩, ⟨a3, a4⟩, ⟨a5, a5b⟩, ⟨a6, a6b⟩, _, a8⟩ := h
  have I : ∀ a j, (a = 612 ∨ a = 613 ∨ a = 616 ∨ (a = 611 ∧ (j = 6 ∨ j = 7 ∨ j = 14))) → sI τ' a j = sI τ a j := fun a j z => k.2 a j (fun q => by
    have := hQ a j q
    unfold QR at this
    omega)
  have e : sI τ' 612 = sI τ 612 := funext fun j => I 612 j (by omega)
  refine ⟨⟨a1.kp k, a2⟩, ⟨e.trans a3, ?_⟩, ⟨?_, fun i j z1 z2 => ?_⟩, ⟨?_, fun z => ⟨fun j hj => ?_, fun j hj => ?_⟩⟩, ht, ?_⟩
  · unfold tx at a4 ⊢; rw [e]; exact a4
  · rw [I _ _ (by omega)]; exact a5
  · rw [I _ _ (by omega)]; exact a5b i j z1 z2
  · rw [I _ _ (by omega)]; exact a6
  · rw [I _ _ (by omega)]; exact (a6b z).1 j hj
  · rw [I _ _ (by omega)]; exact (a6b z).2 j hj
  · rw [I _ _ (by omega)]; exact a8
theorem op_fault (hc : InvC σ W L x) (hr : InvR σ W L x) : Opr (rn 109 [.ref 200] σ) σ (fun τ => rn 184 [.ref 611] τ) [] W L x := by
  refine Opr.gen (v := x.2.2.2) (W' := W) (L' := L) (x' := x) (σ1 := σ) hc hr ?_ hc (Fr.rf σ) ⟨rfl, rfl⟩ fun τ r => ⟨wI τ 611 0 0, ?_, r.z 0, rp0 τ 0, sI_wIs _ _ _ _⟩
  · rw [r_109, xI hc.1.1, hc.2.2.2.2.2]
  · show rn 184 _ τ = _
    rw [r_184, pI_r r.t, gI_r (r.z 0).t, (r.z 0).2.2.2.2.2]
theorem op_end (hc : InvC σ W L x) (hr : InvR σ W L x) (x0 : Int32) : Opr (rn 108 [.ref 200, .int x0] σ) σ (fun τ => rn 183 [.ref 611, .int x0] τ) [] W L x := by
  have hx := hc.1.1
  obtain ⟨t1, t2, t3⟩ := hc.2.2.2.2.1
  have z0 : (0 : Int32).toInt = 0 := by decide
  have no : (x0 < 0 ∨ nI x.2.2.1.1 < x0) → Opr (rn 108 [.ref 200, .int x0] σ) σ (fun τ => rn 183 [.ref 611, .int x0] τ) [] W L x := fun hno => by
    refine Opr.gen (v := 0) (W' := W) (L' := L) (x' := x) (σ1 := σ) hc hr ?_ hc (Fr.rf σ) ⟨rfl, rfl⟩ fun τ r => ⟨wI τ 611 0 0, ?_, r.z 0, rp0 τ 0, sI_wIs _ _ _ _⟩
    · rw [r_108]
      by_cases y : x0 < 0
      · rw [if_pos y, e_108_15]
      · rw [if_neg y, gT0 hx, tpI hx, t1, if_pos (hno.resolve_left y)]
    · show rn 183 _ τ = _
      rw [r_183, pI_r r.t]
      by_cases y : x0 < 0
      · rw [if_pos y, e_183_17]
      · rw [if_neg y, gI_r (r.z 0).t, (r.z 0).2.2.2.2.1.1, if_pos (hno.resolve_left y)]
  by_cases y1 : x0 < 0
  · exact no (Or.inl y1)
  by_cases y2 : nI x.2.2.1.1 < x0
  · exact no (Or.inr y2)
  have p0 : 0 ≤ x0.toInt := by rw [tlt, z0] at y1; omega
  have en := nI_nI p0
  have nle : x0.toInt.toNat ≤ x.2.2.1.1 := by rw [tlt, tnI (by omega)] at y2; omega
  obtain ⟨c1, f1⟩ := hc.tp (σ' := wI σ 201 1 x0) (Kp.w (Or.inl ⟨rfl, rfl⟩)) (T := x0.toInt.toNat) (B := x.2.2.1.2) ⟨by rw [sI_wIs]; exact en, by omega, fun k hk => by rw [sI_wIn (by omega)]; exact t3 k (by omega)⟩
  refine Opr.gen (v := 1) (W' := W) (L' := L) (x' := xT x x0.toInt.toNat x.2.2.1.2) (σ1 := wI σ 201 1 x0) hc hr ?_ c1 f1 ⟨rfl, rfl⟩ fun τ r => ?_
  · rw [r_108, if_neg y1, gT0 hx, tpI hx, t1, if_neg y2, e_108_17, gT0 hx, pI_r (tTp hx)]
  · have r0 := r.z 0
    refine ⟨wI (wI τ 611 0 0) 611 9 x0, ?_, r0.tp (Q := fun a k => a = 611 ∧ k = 9) (Kp.w ⟨rfl, rfl⟩) (fun a j z => Or.inr (Or.inl z)) ⟨by rw [sI_wIs]; exact en, fun k hk => by rw [sI_wIn (by omega)]; exact r0.2.2.2.2.1.2 k (by omega)⟩, (rp0 τ 0).wr (by unfold RP; omega), ?_⟩
    · show rn 183 _ τ = _
      rw [r_183, pI_r r.t, if_neg y1, gI_r r0.t, r0.2.2.2.2.1.1, if_neg y2, e_183_19, pI_r r0.t]
    · rw [sI_wIn (by omega), sI_wIs]
theorem op_dry (h : QQ σ W L) : OpQ (rn 110 [.ref 200] σ) σ (fun τ => rn 247 [.ref 611] τ) [] W L := OpQ.ok0 (v := drN W) (σ1 := σ) (by rw [r_110, x6 h.x, if_pos (tFc h.x), m_25 h, onI_i]) (QS.rf σ) fun τ ht => m_247 ht
theorem op_rich (h : QQ σ W L) : OpQ (rn 111 [.ref 200] σ) σ (fun τ => rn 307 [.ref 611] τ) [] W L := OpQ.ok0 (v := oI (riN W)) (σ1 := σ) (by rw [r_111, x7 h.x, if_pos (tMk h.x), m_57 h, onI_i]) (QS.rf σ) fun τ ht => m_307 ht
theorem op_clash (h : QQ σ W L) : OpQ (rn 112 [.ref 200] σ) σ (fun τ => rn 308 [.ref 611] τ) [] W L := OpQ.ok0 (v := clN W) (σ1 := σ) (by rw [r_112, x7 h.x, if_pos (tMk h.x), m_58 h, onI_i]) (QS.rf σ) fun τ ht => m_308 ht
theorem op_count (hc : InvC σ W L x) (hr : InvR σ W L x) (x0 : Int32) : Opr (rn 118 [.ref 200, .int x0] σ) σ (fun τ => rn 316 [.ref 611, .int x0] τ) [] W L x := by
  have h := hc.qq hr
  have hx := hc.1.1
  have tc := tCo hx isC_now
  have cw := h.c
  have fin : ∀ v : Int32, rn 118 [.ref 200, .int x0] σ = some (.inl (some (.int v)), σ) → (∀ τ, InvR τ W L x → rn 316 [.ref 611, .int x0] τ = some (.inl (some (.int v)), wI τ 611 0 0)) → Opr (rn 118 [.ref 200, .int x0] σ) σ (fun τ => rn 316 [.ref 611, .int x0] τ) [] W L x := fun v e1 e2 => Opr.gen (v := v) (W' := W) (L' := L) (x' := x) (σ1 := σ) hc hr e1 hc (Fr.rf σ) ⟨rfl, rfl⟩ fun τ r => ⟨wI τ 611 0 0, e2 τ r, r.z 0, rp0 τ 0, sI_wIs _ _ _ _⟩
  have lowR : ∀ (j : Nat), j ≤ 7 → j ≠ 4 → ∀ τ, InvR τ W L x → rn 316 [.ref 611, .int (nI j)] τ = some (.inl (some (.int (W j))), wI τ 611 0 0) := fun j hj h4 τ r => by
    have r0 := r.z 0
    have ne : ∀ k, k ≠ j → k < 12 → ¬ nI j = nI k := fun k h1 h2 e => h1 ((nI_eq (by omega) (by omega)).mp e).symm
    have e98 : exec PP 5 316 98 [some (.ref 611), some (.int (nI j))] [] (wI τ 611 0 0) = some (.inl (some (.int (W j))), wI τ 611 0 0) := by
      have i7 : inR (nI j) (Int32.toInt 0) (Int32.toInt 7) := by
        unfold inR
        rw [tnI (by omega), show Int32.toInt 0 = 0 from by decide, show Int32.toInt 7 = 7 from by decide]; omega
      rw [e_316_98, m_220y i7, onI_i, if_neg (by decide), g612 r0, m_w r0.1.1 (by omega), r0.2.1.1, e_316_118]
    have p : ∀ (c : Prop) [Decidable c] (a b : SR), a = b → (if c then a else b) = b := fun c _ a b e => by split; exact e; rfl
    rw [r_316, pI_r r.t]
    rw [if_neg (show ¬ nI j = 4 from ne 4 (by omega) (by omega))]
    by_cases j5 : j = 5
    · subst j5; rw [if_pos (show nI 5 = (5 : Int32) from rfl)]; exact e98
    rw [if_neg (show ¬ nI j = 5 from ne 5 (by omega) (by omega))]
    by_cases j6 : j = 6
    · subst j6; rw [if_pos (show nI 6 = (6 : Int32) from rfl)]; exact e98
    rw [if_neg (show ¬ nI j = 6 from ne 6 (by omega) (by omega))]
    by_cases j7 : j = 7
    · subst j7; rw [if_pos (show nI 7 = (7 : Int32) from rfl)]; exact e98
    rw [if_neg (show ¬ nI j = 7 from ne 7 (by omega) (by omega)), if_neg (show ¬ nI j = 8 from ne 8 (by omega) (by omega)), if_neg (show ¬ nI j = 9 from ne 9 (by omega) (by omega)), if_neg (show ¬ nI j = 10 from ne 10 (by omega) (by omega)), if_neg (show ¬ nI j = 11 from ne 11 (by omega) (by omega))]
    exact e98
  by_cases k0 : x0 = 0
  · subst k0; exact fin (W 0) (by rw [r_118, if_pos rfl, e_118_64, x2 hx, gI_r tc, cw.1.1]) (lowR 0 (by omega) (by omega))
  by_cases k1 : x0 = 1
  · subst k1; exact fin (W 1) (by rw [r_118, if_neg (by decide), if_pos rfl, e_118_72, x2 hx, gI_r tc, cw.1.2.1]) (lowR 1 (by omega) (by omega))
  by_cases k2 : x0 = 2
  · subst k2; exact fin (W 2) (by rw [r_118, if_neg (by decide), if_neg (by decide), if_pos rfl, e_118_80, x2 hx, gI_r tc, cw.1.2.2.1]) (lowR 2 (by omega) (by omega))
  by_cases k3 : x0 = 3
  · subst k3; exact fin (W 3) (by rw [r_118, if_neg (by decide), if_neg (by decide), if_neg (by decide), if_pos rfl, e_118_88, x2 hx, gI_r tc, cw.1.2.2.2.1]) (lowR 3 (by omega) (by omega))
  by_cases k4 : x0 = 4
  · subst k4
    have rr : ∀ τ, InvR τ W L x → rn 316 [.ref 611, .int 4] τ = (if (W 4 = 1 : Prop) then some (.inl (some (.int (L 0))), wI τ 611 0 0) else some (.inl (some (.int (-1))), wI τ 611 0 0)) := fun τ r => by
      have r0 := r.z 0
      have l0 : sI (wI τ 611 0 0) 612 363 = L 0 := by rw [← r0.2.1.2]; rfl
      have w4 : aI (wI τ 611 0 0) 1 (.ref 612) 4 = fun k => k (W 4) := by
        funext k
        have := m_w (j := 4) r0.1.1 (by omega) (k := k)
        rw [r0.2.1.1] at this
        exact this
      have w363 : aI (wI τ 611 0 0) 1 (.ref 612) 363 = fun k => k (L 0) := by
        funext k
        have := m_w (j := 363) r0.1.1 (by omega) (k := k)
        rw [l0] at this
        exact this
      rw [r_316, pI_r r.t, if_pos rfl, e_316_52, g612 r0, w4, g612 r0, w363, e_316_73]
      try dsimp only
      rw [e_316_74]
    rcases hc.2.1.1.2.2.1.1 with ⟨l1, l2⟩ | ⟨q, l1, l2, l3, l4, l5⟩
    · refine fin (-1) ?_ (fun τ r => by rw [rr τ r, if_neg (by rw [l2]; decide)])
      rw [r_118, if_neg (by decide), if_neg (by decide), if_neg (by decide), if_neg (by decide), if_pos rfl, e_118_96, x2 hx, gQ_n tc l1, e_118_120]
    · refine fin (L 0) ?_ (fun τ r => by rw [rr τ r, if_pos l5])
      rw [r_118, if_neg (by decide), if_neg (by decide), if_neg (by decide), if_neg (by decide), if_pos rfl, e_118_96, x2 hx, gQ_r tc l2, if_neg (show ¬ (q : Nat) = 39 by omega), e_118_110, x2 hx, gQ_r tc l2, gI_r l3.1.1, l3.2.2.2.1]
  by_cases k5 : x0 = 5
  · subst k5; exact fin (W 5) (by rw [r_118, if_neg (by decide), if_neg (by decide), if_neg (by decide), if_neg (by decide), if_neg (by decide), if_pos rfl, e_118_121, x2 hx, gI_r tc, cw.1.2.2.2.2.2.2.1]) (lowR 5 (by omega) (by omega))
  by_cases k6 : x0 = 6
  · subst k6; exact fin (W 6) (by rw [r_118, if_neg (by decide), if_neg (by decide), if_neg (by decide), if_neg (by decide), if_neg (by decide), if_neg (by decide), if_pos rfl, e_118_129, x2 hx, gI_r tc, cw.1.2.2.2.2.1]) (lowR 6 (by omega) (by omega))
  by_cases k7 : x0 = 7
  · subst k7; exact fin (W 7) (by rw [r_118, if_neg (by decide), if_neg (by decide), if_neg (by decide), if_neg (by decide), if_neg (by decide), if_neg (by decide), if_neg (by decide), if_pos rfl, e_118_137, x2 hx, gI_r tc, cw.1.2.2.2.2.2.1]) (lowR 7 (by omega) (by omega))
  by_cases k8 : x0 = 8
  · subst k8
    refine fin (puN W) ?_ (fun τ r => ?_)
    · rw [r_118, if_neg (by decide), if_neg (by decide), if_neg (by decide), if_neg (by decide), if_neg (by decide), if_neg (by decide), if_neg (by decide), if_neg (by decide), if_pos rfl, e_118_145, x2 hx, if_pos tc, m_7 h.s h.c h.w, onI_i]
    · have r0 := r.z 0
      rw [r_316, pI_r r.t, if_neg (by decide), if_neg (by decide), if_neg (by decide), if_neg (by decide), if_pos rfl, e_316_75, if_pos r0.t, m310' r0.1.1 r0.2.1.1 r0.1.2.1, onI_i]
  by_cases k9 : x0 = 9
  · subst k9
    refine OpQ.op (OpQ.ok0 (v := owS W) (σ1 := σ) ?_ (QS.rf σ) fun τ ht => ?_) hc hr
    · rw [r_118, if_neg (by decide), if_neg (by decide), if_neg (by decide), if_neg (by decide), if_neg (by decide), if_neg (by decide), if_neg (by decide), if_neg (by decide), if_neg (by decide), if_pos rfl, e_118_153, x2 hx, if_pos tc, m_8 h, onI_i]
    · have h0 := ht.z
      rw [r_316, pI_r ht.tM, if_neg (by decide), if_neg (by decide), if_neg (by decide), if_neg (by decide), if_neg (by decide), if_pos rfl, e_316_80, if_pos h0.tM, m_317 h0, onI_i]
  by_cases k10 : x0 = 10
  · subst k10
    obtain ⟨nx, l1, l2, l3, l4⟩ := hc.2.1.1.2.2.2.2.1
    refine fin (W 8) ?_ (fun τ r => ?_)
    · rw [r_118, if_neg (by decide), if_neg (by decide), if_neg (by decide), if_neg (by decide), if_neg (by decide), if_neg (by decide), if_neg (by decide), if_neg (by decide), if_neg (by decide), if_neg (by decide), if_pos rfl, e_118_161, x2 hx, gR_r tc h.s.1.2.2.2.2.1, gI_r h.s.2.2.1.1, l3]
    · have r0 := r.z 0
      rw [r_316, pI_r r.t, if_neg (by decide), if_neg (by decide), if_neg (by decide), if_neg (by decide), if_neg (by decide), if_neg (by decide), if_pos rfl, e_316_85, g612 r0, r612_8 r0.1.1, r0.2.1.1]
  by_cases k11 : x0 = 11
  · subst k11
    obtain ⟨o, _, ⟨o3, _⟩, _⟩ := hc.2.2.1
    refine fin (nI x.1.1) ?_ (fun τ r => ?_)
    · rw [r_118, if_neg (by decide), if_neg (by decide), if_neg (by decide), if_neg (by decide), if_neg (by decide), if_neg (by decide), if_neg (by decide), if_neg (by decide), if_neg (by decide), if_neg (by decide), if_neg (by decide), if_pos rfl, e_118_172, xI hx, o3]
    · have r0 := r.z 0
      rw [r_316, pI_r r.t, if_neg (by decide), if_neg (by decide), if_neg (by decide), if_neg (by decide), if_neg (by decide), if_neg (by decide), if_neg (by decide), if_pos rfl, e_316_93, gI_r r0.t, r0.2.2.1.1]
  refine fin (-1) ?_ (fun τ r => ?_)
  · rw [r_118, if_neg k0, if_neg k1, if_neg k2, if_neg k3, if_neg k4, if_neg k5, if_neg k6, if_neg k7, if_neg k8, if_neg k9, if_neg k10, if_neg k11, e_118_177]
  · have n7 : ¬ inR x0 (Int32.toInt 0) (Int32.toInt 7) := fun q => by
      unfold inR at q
      rw [show Int32.toInt 0 = 0 from by decide, show Int32.toInt 7 = 7 from by decide] at q
      have e := nI_nI q.1
      rcases (by omega : x0.toInt.toNat = 0 ∨ x0.toInt.toNat = 1 ∨ x0.toInt.toNat = 2 ∨ x0.toInt.toNat = 3 ∨ x0.toInt.toNat = 4 ∨ x0.toInt.toNat = 5 ∨ x0.toInt.toNat = 6 ∨ x0.toInt.toNat = 7) with z | z | z | z | z | z | z | z <;> rw [z] at e
      · exact k0 e
      · exact k1 e
      · exact k2 e
      · exact k3 e
      · exact k4 e
      · exact k5 e
      · exact k6 e
      · exact k7 e
    rw [r_316, pI_r r.t, if_neg k4, if_neg k5, if_neg k6, if_neg k7, if_neg k8, if_neg k9, if_neg k10, if_neg k11, e_316_98, m_220n n7, onI_i, if_pos rfl, e_316_117]
end B6
