section B8
variable {σ σ' τ τ' : SH} {W L : WW} {x x' : XX}
theorem m_298p (h : QQ τ W L) {T : Nat} {B : Nat → Nat} (ht : TP τ T B) (hl : sI τ 611 11 = nI T) (y : Int32) (o2 o3 o4 o5 : Option Value) : exec PP 6 298 32 [some (.ref 611), some (.int y), o2, o3, o4, o5] [] τ = if placeB W B T = true then exec PP 6 298 106 [some (.ref 611), some (.int y), none, none, none, none] [] τ else some (.inl (some (.int 0)), wI τ 611 0 2) := by
  have h5 := (WF_nB h.w).2
  have hM := h.m
  have hT := ht.1
  have yes : ∀ (o3 o4 o5 : Option Value), exec PP 6 298 87 [some (.ref 611), some (.int y), some (.int 1), o3, o4, o5] [] τ = exec PP 6 298 106 [some (.ref 611), some (.int y), none, none, none, none] [] τ := fun o3 o4 o5 => by
    rw [e_298_87, if_neg (by decide), e_298_96, if_pos h.tM, m_216_0, onI_i, if_pos rfl]
  have no : ∀ (o3 o4 o5 : Option Value), exec PP 6 298 87 [some (.ref 611), some (.int y), some (.int 0), o3, o4, o5] [] τ = some (.inl (some (.int 0)), wI τ 611 0 2) := fun o3 o4 o5 => by
    rw [e_298_87, if_pos rfl, e_298_97, if_pos h.tM, m_216_1 h.tM, onI_i, if_neg (by decide)]
  have no51 : ∀ (i : Nat) (o4 o5 : Option Value), exec PP 6 298 51 [some (.ref 611), some (.int y), some (.int 0), some (.int (nI i)), o4, o5] [] τ = some (.inl (some (.int 0)), wI τ 611 0 2) := fun i o4 o5 => by
    rw [e_298_51, gI_r h.tM, hl]
    by_cases z : nI i < nI T
    · rw [if_pos z, if_pos rfl, no]
    · rw [if_neg z, no]
  have lp : ∀ (k i : Nat), i + k = T → exec PP 6 298 51 [some (.ref 611), some (.int y), some (.int 1), some (.int (nI i)), none, none] [] τ = if (fi (fun k => !decide (B k < 16)) i k).isNone = true then exec PP 6 298 106 [some (.ref 611), some (.int y), none, none, none, none] [] τ else some (.inl (some (.int 0)), wI τ 611 0 2) := by
    intro k
    induction k with
    | zero =>
      intro i hi
      rw [e_298_51, gI_r h.tM, hl, if_neg (nI_nlt (by omega) (by omega)), yes, if_pos (show (fi (fun k => !decide (B k < 16)) i 0).isNone = true from rfl)]
    | succ k ih =>
      intro i hi
      obtain ⟨b1, b2, b3⟩ := ht.2 i (by omega)
      have fs : fi (fun k => !decide (B k < 16)) i (k + 1) = if (!decide (B i < 16)) = true then some i else fi (fun k => !decide (B k < 16)) (i + 1) k := rfl
      rw [e_298_51, gI_r h.tM, hl, if_pos (nI_lt (by omega) (by omega)), if_neg (by decide), gR_r h.tM hM.1.2.2.2.2.2.2.1, aI_r hM.2.1.2.2.2.2.2.1 (by rw [hM.2.2.2.2.2.2.2.1]; omega) (by rw [hM.2.2.2.2.2.2.2.1]; decide), b3, m_229, onI_i, sb_16 b1, fs]
      by_cases z : B i < 16
      · rw [decide_eq_true z, if_pos (by decide), if_neg (show ¬ (!true) = true by decide), e_298_80, nI_1, ih (i + 1) (by omega)]
      · rw [decide_eq_false z, if_neg (show ¬ bI (!false) = 0 by decide), if_pos (show (!false) = true from rfl), e_298_79, nI_1, no51, if_neg (show ¬ (some i).isNone = true by simp)]
  rw [e_298_32, gI_r h.tM, hl, if_pos h.tM, q201 h, onI_i]
  by_cases z : T = nB W
  · rw [if_pos (by rw [z]), e_298_48, show (0 : Int32) = nI 0 from rfl, lp T 0 (by omega)]
    unfold placeB
    rw [decide_eq_true z, Bool.true_and, ← z]
    rfl
  · rw [if_neg (fun e => z ((nI_eq (by omega) (by omega)).mp e)), e_298_47]
    have np : ¬ placeB W B T = true := fun u => z (placeB_iff.mp u).1
    rw [if_neg np]
    exact no51 0 none none
theorem op_send (hc : InvC σ W L x) (hr : InvR σ W L x) (x0 : Int32) : Opr (rn 162 [.ref 200, .int x0] σ) σ (fun τ => rn 298 [.ref 611, .int x0] τ) [(2, 1), (0, 2)] W L x := by
  have h := hc.qq hr
  have hT := hc.2.2.2.2.1.2.1
  have h5 := (WF_nB h.w).2
  have tp := TP_of hc.2.2.2.2.1 hr.2.2.2.2.1 hT
  obtain ⟨σ1, e1, k1, t1⟩ := m_65 h tp hc.2.2.2.2.1.1
  have q1 : QS σ σ1 := (k1.mono fun a k z => by unfold K3 at z; unfold Scr; omega).qs
  have zz : sZ σ1 = sZ σ ∧ sS σ1 = sS σ := ⟨k1.Z, k1.S⟩
  have c1 := hc.qs q1
  obtain ⟨c2, f2⟩ := c1.e0
  have r1 := (hr.qs hc.1.2 q1).pc c1.1.2.1 f2
  have h2 := c2.qq' r1
  have base : rn 162 [.ref 200, .int x0] σ = (if (x0 = -1 : Prop) then (exec PP 6 162 30 [some (.ref 200), some (.int x0), some (.int (bI (placeB W x.2.2.1.2 x.2.2.1.1)))] [] (wI σ1 201 1 0)) else (onV (rn 125 [.ref 200, .int x0] (wI σ1 201 1 0)) (fun σ28 => if (bI (placeB W x.2.2.1.2 x.2.2.1.1) = 0 : Prop) then (some (.inr 0, mkC σ28 0 0 6)) else (exec PP 6 162 45 [some (.ref 200), some (.int x0), some (.int (bI (placeB W x.2.2.1.2 x.2.2.1.1)))] [] σ28)) (fun e s => some (.inr e, s)))) := by
    rw [r_162, x7 hc.1.1, gT0 hc.1.1, if_pos (tMk hc.1.1), e1, onI_i, gT0 c1.1.1, pI_r (tTp c1.1.1), if_pos (tX h2.x)]
  have href : ∀ τ, InvC τ W L (xT x 0 x.2.2.1.2) → InvR τ W L x → ∃ τ1, rn 187 [.ref 611] τ = some (.inl none, τ1) ∧ InvR τ1 W L (xT x 0 x.2.2.1.2) ∧ Kp RP τ τ1 ∧ sI τ1 611 0 = 0 ∧ QQ τ1 W L ∧ TP τ1 x.2.2.1.1 x.2.2.1.2 ∧ sI τ1 611 11 = nI x.2.2.1.1 := fun τ c r => by
    obtain ⟨τ1, p1, p2, p3, p4, p5, p6⟩ := m_187 r
    have c1 := c.rp (p3.mono rp187)
    exact ⟨τ1, p1, p2, p3.mono rp187, p5, c1.qq' p2, TP_of c1.2.2.2.2.1 p2.2.2.2.2.1 hT, p4⟩
  by_cases bad : x0 ≠ -1 ∧ ¬ inR x0 0 (nB W - 1)
  · refine Opr.tk (k := 1) (v := 0) hc hr q1 (QS.mk _) zz (Or.inr ⟨by decide, 2, ?_, rfl⟩) fun τ c r => ?_
    · rw [base, if_neg bad.1, m_125n h2 bad.2, onV_x]
    · obtain ⟨τ1, p1, p2, p3, p4, p5, p6, p7⟩ := href τ c r
      refine ⟨wI τ1 611 0 1, ?_, p2.z 1, p3.tr (rp0 τ1 1), sI_wIs _ _ _ _⟩
      show rn 298 _ τ = _
      rw [r_298, if_pos r.t, p1, onV_i, if_neg bad.1, if_pos p2.t, m_249n p5 bad.2, onI_i, if_neg (by decide), e_298_23, if_pos p2.t, m_216_1 p2.t, onI_i, if_neg (by decide)]
  have rgo : ∀ τ1, InvR τ1 W L (xT x 0 x.2.2.1.2) → QQ τ1 W L → (if (x0 = -1 : Prop) then (exec PP 6 298 22 [some (.ref 611), some (.int x0), none, none, none, none] [.ref 611] τ1) else (if sT τ1 611 = 112 then (onI (rn 249 [.ref 611, .int x0] τ1) (fun x25 σ23 => if (x25 = 0 : Prop) then (exec PP 6 298 22 [some (.ref 611), some (.int x0), none, none, none, none] [.ref 611] σ23) else (exec PP 6 298 23 [some (.ref 611), some (.int x0), none, none, none, none] [.int 1, .ref 611] σ23)) (fun e s => some (.inr e, s))) else none)) = exec PP 6 298 32 [some (.ref 611), some (.int x0), none, none, none, none] [] τ1 := fun τ1 p2 p5 => by
    by_cases y : x0 = -1
    · rw [if_pos y, e_298_22, if_pos p2.t, m_216_0, onI_i, if_pos rfl]
    · have iy : inR x0 0 (nB W - 1) := by
        by_cases i : inR x0 0 (nB W - 1)
        · exact i
        · exact absurd ⟨y, i⟩ bad
      rw [if_neg y, if_pos p2.t, m_249y p5 iy, onI_i, if_pos rfl, e_298_22, if_pos p2.t, m_216_0, onI_i, if_pos rfl]
  have cgo : rn 162 [.ref 200, .int x0] σ = (if (bI (placeB W x.2.2.1.2 x.2.2.1.1) = 0 : Prop) then (some (.inr 0, mkC (wI σ1 201 1 0) 0 0 6)) else (exec PP 6 162 45 [some (.ref 200), some (.int x0), some (.int (bI (placeB W x.2.2.1.2 x.2.2.1.1)))] [] (wI σ1 201 1 0))) := by
    rw [base]
    by_cases y : x0 = -1
    · rw [if_pos y, e_162_30]
    · have iy : inR x0 0 (nB W - 1) := by
        by_cases i : inR x0 0 (nB W - 1)
        · exact i
        · exact absurd ⟨y, i⟩ bad
      rw [if_neg y, m_125y h2 iy, onV_i]
  cases pl : placeB W x.2.2.1.2 x.2.2.1.1 with
  | false =>
    refine Opr.tk (k := 2) (v := 0) hc hr q1 (QS.mk _) zz (Or.inr ⟨by decide, 0, ?_, rfl⟩) fun τ c r => ?_
    · rw [cgo, pl, if_pos (show bI false = 0 from rfl)]
    · obtain ⟨τ1, p1, p2, p3, p4, p5, p6, p7⟩ := href τ c r
      refine ⟨wI τ1 611 0 2, ?_, p2.z 2, p3.tr (rp0 τ1 2), sI_wIs _ _ _ _⟩
      show rn 298 _ τ = _
      rw [r_298, if_pos r.t, p1, onV_i, rgo τ1 p2 p5, m_298p p5 p6 p7, pl, if_neg (by decide)]
  | true =>
    obtain ⟨pT, pB⟩ := placeB_iff.mp pl
    have hP : ∀ k, k < nB W → sI (wI σ1 201 1 0) 297 k = nI (x.2.2.1.2 k) := fun k hk => by rw [sI_wIn (by omega)]; exact t1 pl k hk
    obtain ⟨σ3, g1, g2, g3⟩ := m_66 h2 pB hP
    have q3 : QS (wI σ1 201 1 0) σ3 := (g2.mono fun a k z => by unfold Scr; omega).qs
    have h3 := h2.qs q3
    have hP3 : ∀ k, k < nB W → sI σ3 297 k = nI (x.2.2.1.2 k) := fun k hk => by rw [g2.2 _ _ (by omega)]; exact hP k hk
    have hx0 : x0 = -1 ∨ ∃ b, b < nB W ∧ x0 = nI b := by
      by_cases y : x0 = -1
      · exact Or.inl y
      · have iy : inR x0 0 (nB W - 1) := by
          by_cases i : inR x0 0 (nB W - 1)
          · exact i
          · exact absurd ⟨y, i⟩ bad
        obtain ⟨b, ub, -, e⟩ := inR_n iy (Int.le_refl 0)
        exact Or.inr ⟨b, by omega, e⟩
    refine Opr.tk (k := 0) (v := if x0 = -1 then nI (lsN (nB W) (wkN W x.2.2.1.2) (nB W) 0) else nI (plN (nB W) (wkN W x.2.2.1.2) x0.toInt.toNat)) (σ2 := σ3) hc hr q1 q3 zz (Or.inl ⟨rfl, ?_⟩) fun τ c r => ?_
    · rw [cgo, pl, if_neg (show ¬ bI true = 0 by decide), e_162_45, x7 h2.x, if_pos (tMk h2.x), g1, onV_i]
      rcases hx0 with y | ⟨b, hb, y⟩
      · have f0 := g3 0 (Nat.le_refl _) (Nat.pos_of_ne_zero (by simp))
        have p0 : pc 0 = 0 := by decide
        rw [p0] at f0
        have a0 : ∀ k : Int32 → SR, aI σ3 1 (.ref 298) 0 k = k (sI σ3 298 0) := fun k => aI_r (j := 0) h3.x.2.2.2.2.2.2.1.2.2.2.2.2.1 (by rw [h3.x.2.2.2.2.2.2.1.2.2.2.2.2.2.2.2.2.2.2]; decide) (by rw [h3.x.2.2.2.2.2.2.1.2.2.2.2.2.2.2.2.2.2.2]; decide)
        rw [if_pos y, if_pos y, x7 h3.x, if_pos (tMk h3.x), r_68, mk7 h3.x, a0, f0, onI_i, e_162_75]
        rfl
      · have ny : ¬ x0 = -1 := by rw [y]; exact nI_neg (by omega)
        rw [if_neg ny, if_neg ny, e_162_67, x7 h3.x, if_pos (tMk h3.x), y, m_69 h3 pB hP3 g3 hb, onI_i, tnI (by omega)]
        rfl
    · obtain ⟨τ1, p1, p2, p3, p4, p5, p6, p7⟩ := href τ c r
      obtain ⟨τ2, u1, u2⟩ := m_298' p5 p6 pl hx0 none none none none
      refine ⟨τ2, ?_, p2.kp u2 (fun a j z => by unfold K4 at z; unfold QR; omega), p3.tr (u2.mono fun a k z => by unfold K4 at z; unfold RP; omega), ?_⟩
      · show rn 298 _ τ = _
        rw [r_298, if_pos r.t, p1, onV_i, rgo τ1 p2 p5, m_298p p5 p6 p7, pl, if_pos rfl, u1]
      · rw [u2.2 _ _ (by unfold K4; omega)]; exact p4
end B8
