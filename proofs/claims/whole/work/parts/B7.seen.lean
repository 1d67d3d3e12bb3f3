section B7
variable {σ σ' τ τ' : SH} {W L : WW} {x x' : XX}
theorem InvC.qq' (h : InvC σ W L x) (g : InvR σ W L x') : QQ σ W L := ⟨h.1.1, h.2.1.1.ct h.2.1.2, g.1.imp id (fun z => z.2), g.2.1, h.1.2⟩
theorem TP_of {T T' T2 : Nat} {B : Nat → Nat} (h : TpC σ T' B) (g : TpR σ T2 B) (hT : T ≤ 400) : TP σ T B := ⟨hT, fun k hk => ⟨(h.2.2 k (by omega)).1, (h.2.2 k (by omega)).2, g.2 k (by omega)⟩⟩
/-- the tape emptied -/
theorem InvC.e0 (h : InvC σ W L x) : InvC (wI σ 201 1 0) W L (xT x 0 x.2.2.1.2) ∧ Fr PC RC σ (wI σ 201 1 0) := h.tp (Kp.w (Or.inl ⟨rfl, rfl⟩)) ⟨sI_wIs _ _ _ _, by omega, fun k hk => by rw [sI_wIn (by omega)]; exact h.2.2.2.2.1.2.2 k hk⟩
/-- the reference's tape taken -/
theorem m_187 (h : InvR τ W L x) : ∃ τ', rn 187 [.ref 611] τ = some (.inl none, τ') ∧ InvR τ' W L (xT x 0 x.2.2.1.2) ∧ Kp (fun a k => a = 611 ∧ (k = 0 ∨ k = 9 ∨ k = 10 ∨ k = 11)) τ τ' ∧ sI τ' 611 11 = nI x.2.2.1.1 ∧ sI τ' 611 0 = 0 ∧ sI τ' 611 10 = 0 := by
  have t : ∀ ρ : SH, ρ.2 = τ.2 → sT ρ 611 = 112 := fun ρ e => by unfold sT; rw [e]; exact h.t
  have g : ∀ (ρ : SH) f (k : Int32 → SR), ρ.2 = τ.2 → gI ρ 112 f (.ref 611) k = k (sI ρ 611 f) := fun ρ f k e => gI_r (t ρ e)
  have p : ∀ (ρ : SH) f v (k : SH → SR), ρ.2 = τ.2 → pI ρ 112 f (.ref 611) v k = k (wI ρ 611 f v) := fun ρ f v k e => pI_r (t ρ e)
  have kk : Kp (fun a k => a = 611 ∧ (k = 0 ∨ k = 9 ∨ k = 10 ∨ k = 11)) τ (wI (wI (wI (wI τ 611 0 0) 611 11 (nI x.2.2.1.1)) 611 9 0) 611 10 0) := (((Kp.w ⟨rfl, by omega⟩).wr ⟨rfl, by omega⟩).wr ⟨rfl, by omega⟩).wr ⟨rfl, by omega⟩
  refine ⟨wI (wI (wI (wI τ 611 0 0) 611 11 (nI x.2.2.1.1)) 611 9 0) 611 10 0, ?_, h.tp kk (fun a j z => by unfold QR; omega) ⟨by rw [sI_wIn (by omega), sI_wIs]; rfl, fun k hk => by rw [kk.2 _ _ (by omega)]; exact h.2.2.2.2.1.2 k hk⟩, kk, ?_, ?_, sI_wIs _ _ _ _⟩
  · rw [r_187, p _ _ _ _ (by rfl), g _ _ _ (by rfl), sI_wIn (by omega), h.2.2.2.2.1.1, p _ _ _ _ (by rfl), p _ _ _ _ (by rfl), p _ _ _ _ (by rfl)]
  · rw [sI_wIn (by omega), sI_wIn (by omega), sI_wIs]
  · rw [sI_wIn (by omega), sI_wIn (by omega), sI_wIn (by omega), sI_wIs]
theorem rp187 : ∀ a k, (a = 611 ∧ (k = 0 ∨ k = 9 ∨ k = 10 ∨ k = 11)) → RP a k := fun a k z => by unfold RP; omega
/-- a call that empties the tape and asks -/
theorem Opr.tk {cl : SR} {rf : SH → SR} {ex : List (Nat × Int32)} {k : Nat} {v : Int32} {σ1 σ2 : SH} (hc : InvC σ W L x) (hr : InvR σ W L x) (q1 : QS σ σ1) (q2 : QS (wI σ1 201 1 0) σ2) (zz : sZ σ1 = sZ σ ∧ sS σ1 = sS σ) (ho : Out cl k v σ2 ex) (href : ∀ τ, InvC τ W L (xT x 0 x.2.2.1.2) → InvR τ W L x → ∃ τ2, rf τ = some (.inl (some (.int v)), τ2) ∧ InvR τ2 W L (xT x 0 x.2.2.1.2) ∧ Kp RP τ τ2 ∧ sI τ2 611 0 = nI k) : Opr cl σ rf ex W L x := by
  have c1 := hc.qs q1
  obtain ⟨c2, f2⟩ := c1.e0
  have r1 := (hr.qs hc.1.2 q1).pc c1.1.2.1 f2
  have c3 := c2.qs q2
  refine ⟨k, v, W, L, xT x 0 x.2.2.1.2, σ2, ho, c3, r1.qs c2.1.2 q2, ((q1.lo hc.1.2.1).tr (Lo.pc f2 c1.1.2.1)).tr (q2.lo c2.1.2.1), ⟨?_, ?_, ?_⟩, fun τ c r => ?_⟩
  · have := q2.1.1; have : sZ (wI σ1 201 1 0) = sZ σ1 := rfl; omega
  · have := q2.1.2.1; have : sZ (wI σ1 201 1 0) = sZ σ1 := rfl; omega
  · have := q2.1.2.2; have : sS (wI σ1 201 1 0) = sS σ1 := rfl; omega
  · obtain ⟨τ2, e1, e2, e3, e4⟩ := href τ c r
    exact RfA.mk' e1 c e2 e3 e4
theorem K2_scr : ∀ a k, K2 a k → Scr σ a k := fun a k z => by unfold K2 at z; unfold Scr; omega
/-- what seen and ask share -/
theorem sights (hc : InvC σ W L x) (hr : InvR σ W L x) (x0 : Int32) : ∃ σ1, QS σ σ1 ∧ (sZ σ1 = sZ σ ∧ sS σ1 = sS σ) ∧ QQ (wI σ1 201 1 0) W L ∧ ((toldB x.2.2.1.2 x.2.2.1.1 = true ∧ inR x0 0 9999 → rn 165 [.ref 200, .int x0] σ = some (.inl none, wI σ1 201 1 0)) ∧ (¬ (toldB x.2.2.1.2 x.2.2.1.1 = true ∧ inR x0 0 9999) → rn 165 [.ref 200, .int x0] σ = some (.inr 0, mkC (wI σ1 201 1 0) 0 0 6))) ∧ (toldB x.2.2.1.2 x.2.2.1.1 = true → TD (wI σ1 201 1 0) x.2.2.1.2 x.2.2.1.1) := by
  have h := hc.qq hr
  have tp := TP_of hc.2.2.2.2.1 hr.2.2.2.2.1 hc.2.2.2.2.1.2.1
  obtain ⟨σ1, e1, k1, t1⟩ := m_36 h tp hc.2.2.2.2.1.1
  have q1 : QS σ σ1 := (k1.mono K2_scr).qs
  have c1 := hc.qs q1
  obtain ⟨c2, f2⟩ := c1.e0
  have r1 := (hr.qs hc.1.2 q1).pc c1.1.2.1 f2
  refine ⟨σ1, q1, ⟨k1.Z, k1.S⟩, c2.qq' r1, ?_, fun z => ⟨by rw [sI_wIn (by omega)]; exact (t1 z).1, by rw [sI_wIn (by omega)]; exact (t1 z).2, z⟩⟩
  have base : rn 165 [.ref 200, .int x0] σ = (if (bI (toldB x.2.2.1.2 x.2.2.1.1) = 0 : Prop) then (some (.inr 0, mkC (wI σ1 201 1 0) 0 0 6)) else (exec PP 3 165 35 [some (.ref 200), some (.int x0), some (.int (bI (toldB x.2.2.1.2 x.2.2.1.1)))] [] (wI σ1 201 1 0))) := by
    rw [r_165, x6 hc.1.1, gT0 hc.1.1, if_pos (tFc hc.1.1), e1, onI_i, gT0 c1.1.1, pI_r (tTp c1.1.1)]
  refine ⟨fun ok => ?_, fun no => ?_⟩
  · rw [base, ok.1, if_neg (show ¬ bI true = 0 by decide), e_165_35, m_133y ok.2, onV_i]
  · rw [base]
    cases z : toldB x.2.2.1.2 x.2.2.1.1 with
    | false => rw [if_pos (show bI false = 0 from rfl)]
    | true => rw [if_neg (show ¬ bI true = 0 by decide), e_165_35, m_133n (fun y => no ⟨z, y⟩), onV_x]
theorem op_seen (hc : InvC σ W L x) (hr : InvR σ W L x) (x0 x1 : Int32) : Opr (rn 164 [.ref 200, .int x0, .int x1] σ) σ (fun τ => rn 302 [.ref 611, .int x0, .int x1] τ) [(0, 1)] W L x := by
  obtain ⟨σ1, q1, zz, h1, e1, td⟩ := sights hc hr x0
  have hT := hc.2.2.2.2.1.2.1
  have href : ∀ τ, InvC τ W L (xT x 0 x.2.2.1.2) → InvR τ W L x → ∃ τ1, rn 187 [.ref 611] τ = some (.inl none, τ1) ∧ InvR τ1 W L (xT x 0 x.2.2.1.2) ∧ Kp RP τ τ1 ∧ sI τ1 611 0 = 0 ∧ QQ τ1 W L ∧ TP τ1 x.2.2.1.1 x.2.2.1.2 ∧ sI τ1 611 11 = nI x.2.2.1.1 := fun τ c r => by
    obtain ⟨τ1, p1, p2, p3, p4, p5, p6⟩ := m_187 r
    have c1 := c.rp (p3.mono rp187)
    exact ⟨τ1, p1, p2, p3.mono rp187, p5, c1.qq' p2, TP_of c1.2.2.2.2.1 p2.2.2.2.2.1 hT, p4⟩
  by_cases ok : toldB x.2.2.1.2 x.2.2.1.1 = true ∧ inR x0 0 9999
  · obtain ⟨j, uj, -, rfl⟩ := inR_n ok.2 (Int.le_refl 0)
    have hj : j < 2147483648 := by omega
    have d := td ok.1
    refine Opr.tk (k := 0) (v := if x1 = 0 then nI (cnt (fitN W x.2.2.1.2 x.2.2.1.1 j) (2 ^ nS W)) else suN W x.2.2.1.2 x.2.2.1.1 j) hc hr q1 (QS.rf _) zz (Or.inl ⟨rfl, ?_⟩) fun τ c r => ?_
    · rw [r_164, if_pos (tX hc.1.1), e1.1 ok, onV_i]
      by_cases y : x1 = 0
      · rw [if_pos y, if_pos y, e_164_20, x6 h1.x, if_pos (tFc h1.x), m_40 h1 d hj, onI_i]
      · rw [if_neg y, if_neg y, x6 h1.x, if_pos (tFc h1.x), m_37 h1 d hj, onI_i, e_164_28]
    · obtain ⟨τ1, p1, p2, p3, p4, p5, p6, p7⟩ := href τ c r
      refine ⟨τ1, ?_, p2, p3, p4⟩
      show rn 302 _ τ = _
      rw [r_302, if_pos r.t, p1, onV_i, if_pos p2.t, m_303 p5 p6 p7, ok.1, onI_i, show bI true = (1 : Int32) from rfl, if_neg (by decide), m_223y ok.2, onI_i, if_pos rfl, e_302_23, if_pos p2.t, m_216_0, onI_i, if_pos rfl, m_302' p5 p6 p7 ok.1 hj]
  · refine Opr.tk (k := 1) (v := 0) hc hr q1 (QS.mk _) zz (Or.inr ⟨by decide, 0, ?_, rfl⟩) fun τ c r => ?_
    · rw [r_164, if_pos (tX hc.1.1), e1.2 ok, onV_x]
    · obtain ⟨τ1, p1, p2, p3, p4, p5, p6, p7⟩ := href τ c r
      refine ⟨wI τ1 611 0 1, ?_, p2.z 1, p3.tr (rp0 τ1 1), sI_wIs _ _ _ _⟩
      show rn 302 _ τ = _
      rw [r_302, if_pos r.t, p1, onV_i, if_pos p2.t, m_303 p5 p6 p7, onI_i]
      cases z : toldB x.2.2.1.2 x.2.2.1.1 with
      | false => rw [show bI false = (0 : Int32) from rfl, if_pos rfl, e_302_19, e_302_24, if_pos p2.t, m_216_1 p2.t, onI_i, if_neg (by decide)]
      | true => rw [show bI true = (1 : Int32) from rfl, if_neg (by decide), m_223n (fun q => ok ⟨z, q⟩), onI_i, if_neg (by decide), e_302_24, if_pos p2.t, m_216_1 p2.t, onI_i, if_neg (by decide)]
theorem op_ask (hc : InvC σ W L x) (hr : InvR σ W L x) (x0 : Int32) : Opr (rn 166 [.ref 200, .int x0] σ) σ (fun τ => rn 306 [.ref 611, .int x0] τ) [(0, 1)] W L x := by
  obtain ⟨σ1, q1, zz, h1, e1, td⟩ := sights hc hr x0
  have hT := hc.2.2.2.2.1.2.1
  have href : ∀ τ, InvC τ W L (xT x 0 x.2.2.1.2) → InvR τ W L x → ∃ τ1, rn 187 [.ref 611] τ = some (.inl none, τ1) ∧ InvR τ1 W L (xT x 0 x.2.2.1.2) ∧ Kp RP τ τ1 ∧ sI τ1 611 0 = 0 ∧ QQ τ1 W L ∧ TP τ1 x.2.2.1.1 x.2.2.1.2 ∧ sI τ1 611 11 = nI x.2.2.1.1 := fun τ c r => by
    obtain ⟨τ1, p1, p2, p3, p4, p5, p6⟩ := m_187 r
    have c1 := c.rp (p3.mono rp187)
    exact ⟨τ1, p1, p2, p3.mono rp187, p5, c1.qq' p2, TP_of c1.2.2.2.2.1 p2.2.2.2.2.1 hT, p4⟩
  by_cases ok : toldB x.2.2.1.2 x.2.2.1.1 = true ∧ inR x0 0 9999
  · obtain ⟨j, uj, -, rfl⟩ := inR_n ok.2 (Int.le_refl 0)
    have hj : j < 2147483648 := by omega
    have d := td ok.1
    obtain ⟨σ3, g1, g2⟩ := m_41 h1 d hj
    refine Opr.tk (k := 0) (v := asN (cnt (fitN W x.2.2.1.2 x.2.2.1.1 j) (2 ^ nS W)) (wtN W x.2.2.1.2 x.2.2.1.1 j)) (σ2 := σ3) hc hr q1 (K1.scr g2).qs zz (Or.inl ⟨rfl, ?_⟩) fun τ c r => ?_
    · rw [r_166, if_pos (tX hc.1.1), e1.1 ok, onV_i, x6 h1.x, if_pos (tFc h1.x), g1, onI_i]
    · obtain ⟨τ1, p1, p2, p3, p4, p5, p6, p7⟩ := href τ c r
      refine ⟨τ1, ?_, p2, p3, p4⟩
      show rn 306 _ τ = _
      rw [r_306, if_pos r.t, p1, onV_i, if_pos p2.t, m_303 p5 p6 p7, ok.1, onI_i, show bI true = (1 : Int32) from rfl, if_neg (by decide), m_223y ok.2, onI_i, if_pos rfl, e_306_23, if_pos p2.t, m_216_0, onI_i, if_pos rfl, m_306' p5 p6 p7 ok.1 hj]
  · refine Opr.tk (k := 1) (v := 0) hc hr q1 (QS.mk _) zz (Or.inr ⟨by decide, 0, ?_, rfl⟩) fun τ c r => ?_
    · rw [r_166, if_pos (tX hc.1.1), e1.2 ok, onV_x]
    · obtain ⟨τ1, p1, p2, p3, p4, p5, p6, p7⟩ := href τ c r
      refine ⟨wI τ1 611 0 1, ?_, p2.z 1, p3.tr (rp0 τ1 1), sI_wIs _ _ _ _⟩
      show rn 306 _ τ = _
      rw [r_306, if_pos r.t, p1, onV_i, if_pos p2.t, m_303 p5 p6 p7, onI_i]
      cases z : toldB x.2.2.1.2 x.2.2.1.1 with
      | false => rw [show bI false = (0 : Int32) from rfl, if_pos rfl, e_306_19, e_306_24, if_pos p2.t, m_216_1 p2.t, onI_i, if_neg (by decide)]
      | true => rw [show bI true = (1 : Int32) from rfl, if_neg (by decide), m_223n (fun q => ok ⟨z, q⟩), onI_i, if_neg (by decide), e_306_24, if_pos p2.t, m_216_1 p2.t, onI_i, if_neg (by decide)]
end B7
