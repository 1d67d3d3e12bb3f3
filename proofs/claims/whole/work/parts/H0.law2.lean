/-! the call law -/
def OpT (cl : SR) (σ : SH) (rf : SH → SR) (ex : List (Nat × Int32)) (W L : WW) (x : XX) : Prop := ∃ (k : Nat) (v : Int32) (W' L' : WW) (x' : XX) (σ1 : SH), Out cl k v σ1 ex ∧ InvC σ1 W' L' x' ∧ InvR σ1 W L x ∧ Lo σ σ1 ∧ Bu σ σ1 ∧ ∀ τ, StA τ → InvC τ W' L' x' → InvR τ W L x → ∃ W2 L2, RfA (rf τ) τ v W2 L2 x' k
section H0
variable {σ τ : SH} {W W' L L' : WW} {x : XX} {t : TXT}
theorem InvC.cg (h : InvC σ W L x) (hW : ∀ k, k < 363 → W' k = W k) (hL : ∀ k, k < 849 → L' k = L k) : InvC σ W' L' x := by
  obtain ⟨a1, ⟨a3, a4⟩, ⟨o, o1, o2, o3⟩, a6⟩ := h
  exact ⟨a1, ⟨a3.cg a4 hW hL, WF_cg a4 hW⟩, ⟨o, o1, o2, fun i hi => ⟨(o3 i hi).1.cg (o3 i hi).2 (fun _ _ => rfl) hL, (o3 i hi).2⟩⟩, a6⟩
theorem law_2 (hr : InvR τ W L x) (hs : StA τ) (ht : TxO t) (ht1 : t.1 = x.2.2.1.2) (ht2 : t.2.1 = x.2.2.1.1) : ∃ τb W' p b st dp y, InvR τb W L (xT x 0 x.2.2.1.2) ∧ Kp RP τ τb ∧ sI τb 611 0 = 0 ∧ (∀ j, j < 1212 → W' j = W j) ∧ ((lawP t W).2 = none → y = -1 ∧ b = tkE t (lawP t W).1) ∧ (∀ V s n, (lawP t W).2 = some (V, s, n) → W' = V ∧ y = nI n) ∧
    rn 217 [.ref 611] τ = (if (y < 0 : Prop) then (gI (Rst τb W' p b st dp) 112 12 (.ref 611) fun x24 => exec PP 64 217 19 [some (.ref 611), some (.int y), none] [.int x24, .ref 611] (Rst τb W' p b st dp)) else (exec PP 64 217 18 [some (.ref 611), some (.int y), none] [.ref 611] (Rst τb W' p b st dp))) := by
  obtain ⟨τb, q1, q2, q3, q4, q5, q6⟩ := m_187 hr
  have kb : Kp RP τ τb := q3.mono rp187
  have sb' : StA τb := hs.lo (Lo.e kb.1 fun a j ha => kb.2 _ _ (by unfold RP; omega))
  have tr : TkR τb t := ⟨q2.1.1, ht, sb', by rw [ht2]; exact q4, fun k hk => by rw [ht1]; exact q2.2.2.2.2.1.2 k hk⟩
  obtain ⟨b0, hb0⟩ := nI_any (sI τb 611 12)
  obtain ⟨d0, hd0⟩ := nI_any (sI τb 611 13)
  obtain ⟨s0, hs0⟩ := nI_any (sI τb 611 16)
  have ee : wI τb 611 16 0 = Rst τb W 0 b0 0 d0 := by
    have := Rst_e (p := 0) q6 hb0 hd0 hs0 q2.2.1.1
    have h2 := Rst_s (σ := τb) (W := W) (p := 0) (b := b0) (st := s0) (dp := d0) 0
    rw [this] at h2
    exact h2
  obtain ⟨W', p, b, st, dp, y, e, f1, f2, f3⟩ := m_186x (W := W) (b := b0) (dp := d0) tr
  refine ⟨τb, W', p, b, st, dp, y, q2, kb, q5, f1, f2, f3, ?_⟩
  rw [r_217, if_pos hr.t, r_186, if_pos hr.t, q1, onV_i, pI_r q2.t, ee, if_pos (show sT (Rst τb W 0 b0 0 d0) 611 = 112 from q2.t), e, onI_i]
/-- the law told is copied -/
theorem law_3 {ρ : SH} {n : Nat} (hM : ShM ρ) : ∃ τz, exec PP 64 217 41 [some (.ref 611), some (.int (nI n)), none] [] ρ = some (.inl (some (.int (nI n))), τz) ∧ Kp (fun a j => a = 612 ∨ (a = 611 ∧ j = 7)) ρ τz ∧ sI τz 611 7 = 0 ∧ sI τz 612 = uW (fun k => if 363 ≤ k ∧ k < 1212 then uW (sI ρ 612) 1212 (nI n) (k + 849) else uW (sI ρ 612) 1212 (nI n) k) 4 1 := by
  have m1 : ShM (wI ρ 612 1212 (nI n)) := hM.e rfl
  obtain ⟨τ, p1, p2, p3⟩ := lpS (F := fun i (_ : Unit) σ => exec PP 64 217 52 [some (.ref 611), some (.int (nI n)), some (.int (nI i))] [] σ) (g := fun _ u => u) (K := fun _ σ => exec PP 64 217 85 [some (.ref 611), some (.int (nI n)), some (.int (nI 849))] [] σ) (I := fun i _ τ => Kp (fun a k => a = 612 ∧ 363 ≤ k ∧ k < 1212) (wI ρ 612 1212 (nI n)) τ ∧ ∀ k, k < i → sI τ 612 (363 + k) = sI (wI ρ 612 1212 (nI n)) 612 (1212 + k)) (n := 849) (by
    rintro i u τ hi ⟨hk, hc⟩
    have mρ := m1.e hk.1
    have e6 : sI τ 612 (1212 + i) = sI (wI ρ 612 1212 (nI n)) 612 (1212 + i) := hk.2 _ _ (by omega)
    refine ⟨wI τ 612 (363 + i) (sI (wI ρ 612 1212 (nI n)) 612 (1212 + i)), ?_, hk.wr ⟨rfl, by omega, by omega⟩, fun k hk' => ?_⟩
    · try dsimp only
      rw [e_217_52, if_pos (nI_ltl (n := 849) hi (by decide)), gR_r mρ.1.1 mρ.1.2.1, gR_r mρ.1.1 mρ.1.2.1, show (1212 + nI i : Int32) = nI (1212 + i) from nI_add 1212 i, m_w mρ (by omega), e6, show (363 + nI i : Int32) = nI (363 + i) from nI_add 363 i, w612 mρ (by omega), nI_1]
    · by_cases z : k = i
      · rw [z, sI_wIs]
      · rw [sI_wIn (by omega)]; exact hc k (by omega)) (by
    rintro u τ ⟨hk, hc⟩
    try dsimp only
    rw [e_217_52, if_neg (nI_nltl (n := 849) (by omega) (by decide))]) 849 0 () (wI ρ 612 1212 (nI n)) (by omega) ⟨Kp.rf _, fun k hk => by omega⟩
  have m2 := m1.e p2.1
  have m3 : ShM (wI τ 612 4 1) := m2.e rfl
  have k1 : Kp (fun a j => a = 612 ∨ (a = 611 ∧ j = 7)) ρ τ := (Kp.w (Or.inl rfl)).tr (p2.mono fun a j z => Or.inl z.1)
  refine ⟨wI (wI τ 612 4 1) 611 7 0, ?_, (k1.wr (Or.inl rfl)).wr (Or.inr ⟨rfl, rfl⟩), sI_wIs _ _ _ _, ?_⟩
  · rw [e_217_41, gR_r hM.1.1 hM.1.2.1]
    have u12 : uI ρ (.ref 612) 1212 (nI n) = fun c => c (wI ρ 612 1212 (nI n)) := funext fun c => w612 (j := 1212) hM (by omega) (nI n) c
    have u4 : uI τ (.ref 612) 4 1 = fun c => c (wI τ 612 4 1) := funext fun c => w612 (j := 4) m2 (by omega) 1 c
    rw [u12]
    refine p1.trans ?_
    try dsimp only
    rw [e_217_85, gR_r m2.1.1 m2.1.2.1, u4]
    try dsimp only
    rw [pI_r m3.1.1]
  · funext k
    rw [sI_wIn (by omega), congrFun (sI_upd τ 612 4 1) k]
    unfold uW
    by_cases z : k = 4
    · rw [if_pos z, if_pos z]
    · rw [if_neg z, if_neg z]
      try dsimp only
      by_cases y : 363 ≤ k ∧ k < 1212
      · rw [if_pos y]
        have := p3 (k - 363) (by omega)
        rw [show 363 + (k - 363) = k by omega, show 1212 + (k - 363) = k + 849 by omega] at this
        rw [this, congrFun (sI_upd ρ 612 1212 (nI n)) (k + 849)]
        rfl
      · rw [if_neg y, p2.2 _ _ (by omega), congrFun (sI_upd ρ 612 1212 (nI n)) k]
        rfl
theorem WF.u4 (h : WF W) : WF (uW W 4 1) := by
  obtain ⟨⟨h0, h1, h2, h3, h4, h5, h6, h7, h8⟩, g1, g2, g3⟩ := h
  refine ⟨⟨by rw [uW_n (by omega)]; exact h0, by rw [uW_n (by omega)]; exact h1, by rw [uW_n (by omega)]; exact h2, by rw [uW_n (by omega)]; exact h3, by rw [uW_s]; exact btw_n (n := 1) (by omega) (by omega), by rw [uW_n (by omega)]; exact h5, by rw [uW_n (by omega)]; exact h6, by rw [uW_n (by omega)]; exact h7, by rw [uW_n (by omega)]; exact h8⟩, fun s hs => ?_, fun s hs => ?_, fun s hs => ?_⟩
  · rw [nS_u (by omega)] at hs
    have := g1 s hs
    unfold WFs at this ⊢
    rw [sh_u (by omega), sh_u (by omega), sh_u (by omega), sh_u (by omega), sh_u (by omega), sh_u (by omega), sh_u (by omega)]; exact this
  · rw [nB_u (by omega)] at hs
    have := g2 s hs
    unfold WFb at this ⊢
    rw [br_u (by omega), br_u (by omega), br_u (by omega)]; exact this
  · rw [nD_u (by omega)] at hs
    have := g3 s hs
    unfold WFd at this ⊢
    rw [de_u (by omega), de_u (by omega), de_u (by omega), de_u (by omega), de_u (by omega), de_u (by omega), nB_u (by omega)]; exact this
/-- another law for a county -/
theorem CV.nl {c q : Nat} (h : CV σ c W L) (hq : 624 ≤ q ∧ q + 6 ≤ sZ σ) (hl : LR σ q L') (hw : LWF L') (ha : LWA L') : CV (wV σ c 12 (.ref q)) c (uW W 4 1) L' := by
  obtain ⟨⟨g1, g2, g3⟩, ⟨⟨c1, d2, d3, d4, d5, d6, d7, e8⟩, c2, c3, c4⟩, ⟨g5, g6⟩, g7, ⟨nx, l1, l2, l3, l4⟩, g9⟩ := h
  have V : ∀ a k, ¬ (a = c ∧ k = 12) → sV (wV σ c 12 (.ref q)) a k = sV σ a k := fun a k h => if_neg h
  obtain ⟨⟨p1, p2, p3, p4, p5, p6⟩, q0, ⟨r1, r2, r3, r4, r5, r6⟩, s1, s2, s3⟩ := g1
  refine ⟨⟨⟨⟨p1, (V _ _ (by omega)).trans p2, (V _ _ (by omega)).trans p3, (V _ _ (by omega)).trans p4, (V _ _ (by omega)).trans p5, (V _ _ (by omega)).trans p6⟩, q0, ⟨r1, (V _ _ (by omega)).trans r2, r3, r4, r5, r6⟩, fun i hi => ⟨(V _ _ (by omega)).trans (s1 i hi).1, (s1 i hi).2⟩, fun i hi => ⟨(V _ _ (by omega)).trans (s2 i hi).1, (s2 i hi).2⟩, fun i hi => ⟨(V _ _ (by omega)).trans (s3 i hi).1, (s3 i hi).2⟩⟩, g2, g3⟩, ⟨?_, fun s f x y => ?_, fun s f x y => ?_, fun s f x y => ?_⟩, ⟨Or.inr ⟨q, hq, if_pos ⟨rfl, rfl⟩, ?_, hw, uW_s _ _ _⟩, fun _ => ha⟩, g7, ⟨nx, l1, l2, l3.trans (uW_n (by omega)).symm, fun ago col x y => ?_⟩, g9⟩
  · rw [uW_n (by omega), uW_n (by omega), uW_n (by omega), uW_n (by omega), uW_n (by omega), uW_n (by omega), uW_n (by omega), uW_n (by omega)]
    exact ⟨c1, d2, d3, d4, d5, d6, d7, e8⟩
  · rw [nS_u (by omega)] at x
    rw [sh_u (by omega)]; exact c2 s f x y
  · rw [nB_u (by omega)] at x
    rw [br_u (by omega)]; exact c3 s f x y
  · rw [nD_u (by omega)] at x
    rw [de_u (by omega)]; exact c4 s f x y
  · obtain ⟨⟨u1, u2, u3, u4, u5, u6⟩, v0, w0, x0', y0, z0⟩ := hl
    exact ⟨⟨u1, (V _ _ (by omega)).trans u2, (V _ _ (by omega)).trans u3, (V _ _ (by omega)).trans u4, (V _ _ (by omega)).trans u5, (V _ _ (by omega)).trans u6⟩, v0, w0, x0', fun i hi => ⟨(V _ _ (by omega)).trans (y0 i hi).1, (y0 i hi).2⟩, z0⟩
  · rw [uW_n (by omega)]
    exact l4 ago col (by unfold lgN at x ⊢; rw [uW_n (by omega)] at x; exact x) y
end H0
