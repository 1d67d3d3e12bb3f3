/-! the class's judge; SgC: the signs' codes, the same from the start -/
def SgC (σ : SH) : Prop := ∀ s, s < 38 → sT σ s = 109 ∧ sI σ s 1 = nthD sgC s 0
theorem SgC.kp {σ σ' : SH} {P : Nat → Nat → Prop} (h : SgC σ) (k : Kp P σ σ') (hP : ∀ a j, a < 38 → ¬ P a j) : SgC σ' := fun s hs => by
  rw [k.T, k.2 s 1 (hP s 1 hs)]
  exact h s hs
/-- a county's law -/
def LawC (σ : SH) (c : Nat) (W L : WW) : Prop := (sV σ c 12 = .null ∧ W 4 = 0) ∨ ∃ q, (624 ≤ q ∧ q + 6 ≤ sZ σ) ∧ sV σ c 12 = .ref q ∧ LR σ q L ∧ LWF L ∧ W 4 = 1
/-- where the class writes while it judges: the county's facts, its law's stack -/
def CJ (σ : SH) (c : Nat) (a _k : Nat) : Prop := a = c + 6 ∨ (624 ≤ a ∧ sV σ c 12 = .ref (a - 5))
theorem CJ_V {σ σ' : SH} {P : Nat → Nat → Prop} (k : Kp P σ σ') (c : Nat) : CJ σ' c = CJ σ c := by
  funext a j
  unfold CJ
  rw [k.V]
theorem LawC.kp {σ σ' : SH} {c : Nat} {W L : WW} (h : LawC σ c W L) (k : Kp (CJ σ c) σ σ') (hc : c + 6 < 624) : LawC σ' c W L := by
  rcases h with ⟨h1, h2⟩ | ⟨q, h1, h2, h3, h4, h5⟩
  · exact Or.inl ⟨by rw [k.V]; exact h1, h2⟩
  · refine Or.inr ⟨q, by rw [k.Z]; exact h1, by rw [k.V]; exact h2, h3.kp k (fun a j z1 z2 z3 => ?_), h4, h5⟩
    rcases z3 with z3 | ⟨z3, z4⟩
    · omega
    · rw [h2] at z4
      have h9 : (q : Nat) = a - 5 := Value.ref.inj z4
      omega
theorem CW.kp {σ σ' : SH} {c : Nat} {W : WW} {P : Nat → Nat → Prop} (h : CW σ c W) (hW : WF W) (k : Kp P σ σ') (hP : ∀ a j, (a = c ∨ (c + 7 ≤ a ∧ a < c + 26)) → ¬ P a j) : CW σ' c W := by
  obtain ⟨n1, n2⟩ := WF_nS hW
  obtain ⟨m1, m2⟩ := WF_nB hW
  obtain ⟨d1, d2⟩ := WF_nD hW
  obtain ⟨h1, h2, h3, h4⟩ := h
  refine ⟨?_, fun s f hs hf => ?_, fun b f hb hf => ?_, fun d f hd hf => ?_⟩
  · simp only [k.2 c _ (hP c _ (Or.inl rfl))]; exact h1
  · rw [k.2 _ f (hP _ _ (Or.inr (by omega)))]; exact h2 s f hs hf
  · rw [k.2 _ f (hP _ _ (Or.inr (by omega)))]; exact h3 b f hb hf
  · rw [k.2 _ f (hP _ _ (Or.inr (by omega)))]; exact h4 d f hd hf
theorem CW.cj {σ σ' : SH} {c : Nat} {W : WW} (h : CW σ c W) (hW : WF W) (k : Kp (CJ σ c) σ σ') (hc : c + 26 ≤ 624) : CW σ' c W := h.kp hW k fun a j z1 z2 => by
  rcases z2 with z2 | ⟨z2, _⟩ <;> omega
theorem m_10 {σ : SH} {c : Nat} {W L : WW} (hS : ShC σ c) (hC : CW σ c W) (hW : WF W) (hl : LawC σ c W L) (hg : SgC σ) (hc : 38 ≤ c ∧ c + 26 ≤ 624) {kd a j w : Nat} (hkd : kd < 3) (ha : a < 16) (hj : j < 2147483648) :
    ∃ σ', rn 10 [.ref c, .ref (14 + kd), .int (nI a), .int (nI j), .int (nI w)] σ = some (.inl (some (.int (jdg W L kd a j w))), σ') ∧ Kp (CJ σ c) σ σ' := by
  rw [r_10]
  rcases hl with ⟨h1, h2⟩ | ⟨q, q0, h2, h3, h4, h5⟩
  · refine ⟨σ, ?_, Kp.rf _⟩
    rw [gQ_n hS.1.1 h1]
    unfold jdg
    rw [if_neg (by rw [h2]; decide)]
  · rw [gQ_r hS.1.1 h2, if_neg (show ¬ (q : Nat) = 39 by omega)]
    have fct : ∀ (k : Nat) (x : Int32) (σ2 : SH), σ2.2 = σ.2 → k < 8 → ∀ kk : SH → SR, uI σ2 (.ref (c + 6)) (nI (1000 + k) - 1000) x kk = kk (wI σ2 (c + 6) k x) := fun k x σ2 h9 hk kk => by
      have e9 : nI (1000 + k) - 1000 = nI k := by
        have := pk_sub (a := 1000 + k) (b := 1000) (by omega)
        rw [Nat.add_sub_cancel_left] at this
        exact this
      rw [e9]
      have t1 : sT σ2 (c + 6) = 1 := by unfold sT; rw [h9]; exact hS.2.2.1.2.2.2.2.1
      have t2 : sN σ2 (c + 6) = 8 := by unfold sN; rw [h9]; exact hS.2.2.1.2.2.2.2.2
      exact uI_r t1 (by omega) (by omega)
    have g13 : ∀ σ2 : SH, σ2.2 = σ.2 → ∀ kk : Nat → SR, gR σ2 101 13 (.ref c) kk = kk (c + 6) := fun σ2 h9 kk => gR_r (by unfold sT; rw [h9]; exact hS.1.1) (by unfold sV; rw [h9]; exact hS.1.2.2.2.2.2)
    have gs : ∀ (s : Nat) (σ2 : SH), s < 38 → Kp (CJ σ c) σ σ2 → ∀ kk : Int32 → SR, gI σ2 109 1 (.ref s) kk = kk (nthD sgC s 0) := fun s σ2 hs h9 kk => by
      have := hg.kp h9 (fun a j z1 z2 => by rcases z2 with z2 | ⟨z2, _⟩ <;> omega) s hs
      rw [gI_r this.1, this.2]
    have hcj : ∀ k, CJ σ c (c + 6) k := fun k => Or.inl rfl
    -- the eight writes
    have hC2 := fun (σ2 : SH) (h9 : Kp (CJ σ c) σ σ2) => hC.cj hW h9 hc.2
    have hS2 := fun (σ2 : SH) (h9 : Kp (CJ σ c) σ σ2) => hS.kp h9
    let σ1 := wI σ (c + 6) 0 (nI a)
    have k1 : Kp (CJ σ c) σ σ1 := Kp.w (hcj 0)
    let σ2 := wI σ1 (c + 6) 1 (nI (sunN j))
    have k2 : Kp (CJ σ c) σ σ2 := k1.wr (hcj 1)
    let σ3 := wI σ2 (c + 6) 2 (nI ((reN j).getD 0))
    have k3 : Kp (CJ σ c) σ σ3 := k2.wr (hcj 2)
    let σ4 := wI σ3 (c + 6) 3 (nI (j % 96))
    have k4 : Kp (CJ σ c) σ σ4 := k3.wr (hcj 3)
    let σ5 := wI σ4 (c + 6) 4 (bc (wetB W a j))
    have k5 : Kp (CJ σ c) σ σ5 := k4.wr (hcj 4)
    let σ6 := wI σ5 (c + 6) 5 (nI w)
    have k6 : Kp (CJ σ c) σ σ6 := k5.wr (hcj 5)
    let σ7 := wI σ6 (c + 6) 6 (bI (decide (wetB W a j ≠ 0)))
    have k7 : Kp (CJ σ c) σ σ7 := k6.wr (hcj 6)
    let σ8 := wI σ7 (c + 6) 7 (bI (ownB W a j))
    have k8 : Kp (CJ σ c) σ σ8 := k7.wr (hcj 7)
    have fin : ∃ σ', (gQ σ8 101 12 (.ref c) (gR σ8 101 13 (.ref c) fun _ => none) (fun a22 => gR σ8 101 13 (.ref c) fun a26 => if sT σ8 a22 = 104 then (onI (rn 48 [.ref a22, .ref (14 + kd), .ref a26] σ8) (fun x29 σ27 => some (.inl (some (.int x29)), σ27)) (fun e28 σ27x => some (.inr e28, σ27x))) else none)) = some (.inl (some (.int (jdg W L kd a j w))), σ') ∧ Kp (CJ σ c) σ σ' := by
      have hL8 : LR σ8 q L := h3.kp k8 (fun a j z1 z2 z3 => by
        rcases z3 with z3 | ⟨z3, z4⟩
        · omega
        · rw [h2] at z4
          have h9 : (q : Nat) = a - 5 := Value.ref.inj z4
          omega)
      obtain ⟨σ', g1, g2⟩ := m_48 (F := FC W a j w) (kd := kd) (fa := c + 6) hL8 h4 (by rw [k8.T]; exact hS.2.2.1.2.2.2.2.1) (by rw [k8.N]; exact hS.2.2.1.2.2.2.2.2) (fun k hk => by
        rcases (by omega : k = 0 ∨ k = 1 ∨ k = 2 ∨ k = 3 ∨ k = 4 ∨ k = 5 ∨ k = 6 ∨ k = 7) with e | e | e | e | e | e | e | e <;> subst e
        · exact ((sI_wIn (by omega)).trans ((sI_wIn (by omega)).trans ((sI_wIn (by omega)).trans ((sI_wIn (by omega)).trans ((sI_wIn (by omega)).trans ((sI_wIn (by omega)).trans ((sI_wIn (by omega)).trans (sI_wIs _ _ _ _))))))))
        · exact ((sI_wIn (by omega)).trans ((sI_wIn (by omega)).trans ((sI_wIn (by omega)).trans ((sI_wIn (by omega)).trans ((sI_wIn (by omega)).trans ((sI_wIn (by omega)).trans (sI_wIs _ _ _ _)))))))
        · exact ((sI_wIn (by omega)).trans ((sI_wIn (by omega)).trans ((sI_wIn (by omega)).trans ((sI_wIn (by omega)).trans ((sI_wIn (by omega)).trans (sI_wIs _ _ _ _))))))
        · exact ((sI_wIn (by omega)).trans ((sI_wIn (by omega)).trans ((sI_wIn (by omega)).trans ((sI_wIn (by omega)).trans (sI_wIs _ _ _ _)))))
        · exact ((sI_wIn (by omega)).trans ((sI_wIn (by omega)).trans ((sI_wIn (by omega)).trans (sI_wIs _ _ _ _))))
        · exact ((sI_wIn (by omega)).trans ((sI_wIn (by omega)).trans (sI_wIs _ _ _ _)))
        · exact ((sI_wIn (by omega)).trans (sI_wIs _ _ _ _))
        · exact sI_wIs _ _ _ _) (by omega) (FC_01 W a j w) hkd
      refine ⟨σ', ?_, k8.tr (g2.mono fun a _ z => ?_)⟩
      · rw [gQ_r (hS2 _ k8).1.1 (by rw [k8.V]; exact h2), g13 _ k8.1, if_pos hL8.1.1, g1, onI_i]
        unfold jdg
        rw [if_pos h5]
      · refine Or.inr ⟨by omega, ?_⟩
        rw [z, Nat.add_sub_cancel]; exact h2
    rw [e_10_9, m_126 hj, onI_i, if_pos hS.1.1, m_11 hS hC hW ha hj, onI_i, m_325, onI_i, g13 σ rfl, gs 18 σ (by omega) (Kp.rf _), show nthD sgC 18 0 = nI (1000 + 0) from rfl, fct 0 _ σ rfl (by omega)]
    show ∃ σ', (gR σ1 101 13 (.ref c) _) = _ ∧ _
    rw [g13 σ1 rfl, gs 19 σ1 (by omega) k1, m_127 hj, onI_i, show nthD sgC 19 0 = nI (1000 + 1) from rfl, fct 1 _ σ1 rfl (by omega)]
    show ∃ σ', (gR σ2 101 13 (.ref c) _) = _ ∧ _
    rw [g13 σ2 rfl, gs 20 σ2 (by omega) k2, show nthD sgC 20 0 = nI (1000 + 2) from rfl]
    have b193 : ∀ (o2 o3 o4 o5 o6 : Option Value), ownB W a j = false → ∃ σ', exec PP 3 10 193 [some (.ref c), some (.ref (14 + kd)), o2, o3, o4, o5, o6] [.int (nI (1000 + 7) - 1000), .ref (c + 6)] σ7 = some (.inl (some (.int (jdg W L kd a j w))), σ') ∧ Kp (CJ σ c) σ σ' := fun o2 o3 o4 o5 o6 ho => by
      rw [e_10_193, fct 7 _ σ7 k7.1 (by omega)]
      have : wI σ7 (c + 6) 7 0 = σ8 := by show _ = wI σ7 (c + 6) 7 (bI (ownB W a j)); rw [ho]; rfl
      rw [this]
      exact fin
    have b194 : ∀ (o2 o3 o4 o5 o6 : Option Value), ownB W a j = true → ∃ σ', exec PP 3 10 194 [some (.ref c), some (.ref (14 + kd)), o2, o3, o4, o5, o6] [.int 1, .int (nI (1000 + 7) - 1000), .ref (c + 6)] σ7 = some (.inl (some (.int (jdg W L kd a j w))), σ') ∧ Kp (CJ σ c) σ σ' := fun o2 o3 o4 o5 o6 ho => by
      rw [e_10_194, fct 7 _ σ7 k7.1 (by omega)]
      have : wI σ7 (c + 6) 7 1 = σ8 := by show _ = wI σ7 (c + 6) 7 (bI (ownB W a j)); rw [ho]; rfl
      rw [this]
      exact fin
    have own : ∃ σ', (if sT σ7 c = 101 then (onI (rn 12 [.ref c, .int (nI a), .int (nI j)] σ7) (fun x26 σ24 =>
        if (x26 = 0 : Prop) then (exec PP 3 10 193 [some (.ref c), some (.ref (14 + kd)), some (.int (nI a)), some (.int (nI j)), none, none, none] [.int (nI (1000 + 7) - 1000), .ref (c + 6)] σ24)
          else (exec PP 3 10 194 [some (.ref c), some (.ref (14 + kd)), some (.int (nI a)), some (.int (nI j)), none, none, none] [.int 1, .int (nI (1000 + 7) - 1000), .ref (c + 6)] σ24)) (fun e25 σ24x => some (.inr e25, σ24x))) else none) = some (.inl (some (.int (jdg W L kd a j w))), σ') ∧ Kp (CJ σ c) σ σ' := by
      rw [if_pos (hS2 _ k7).1.1, m_12 (hS2 _ k7) (hC2 _ k7) hW hj, onI_i, iB]
      cases ho : ownB W a j
      · rw [if_pos rfl]; exact b193 _ _ _ _ _ ho
      · rw [if_neg (by decide)]; exact b194 _ _ _ _ _ ho
    have tail : ∀ (x5 : Option Value), ∃ σ', (uI σ3 (.ref (c + 6)) (nI (1000 + 3) - 1000) (irm (nI j) 96) fun σ24 =>
        gR σ24 101 13 (.ref c) fun a25 =>
        gI σ24 109 1 (.ref 22) fun x26 =>
        uI σ24 (.ref a25) (x26 - 1000) (bc (wetB W a j)) fun σ27 =>
        gR σ27 101 13 (.ref c) fun a28 =>
        gI σ27 109 1 (.ref 23) fun x29 =>
        uI σ27 (.ref a28) (x29 - 1000) (nI w) fun σ30 =>
        gR σ30 101 13 (.ref c) fun a31 =>
        gI σ30 109 1 (.ref 24) fun x32 =>
        if ((0 : Int32) < bc (wetB W a j) : Prop) then (exec PP 3 10 165 [some (.ref c), some (.ref (14 + kd)), some (.int (nI a)), some (.int (nI j)), some (.int (nI w)), none, some (.int (bc (wetB W a j)))] [.int 1, .int (x32 - 1000), .ref a31] σ30)
        else (exec PP 3 10 164 [some (.ref c), some (.ref (14 + kd)), some (.int (nI a)), some (.int (nI j)), some (.int (nI w)), none, some (.int (bc (wetB W a j)))] [.int (x32 - 1000), .ref a31] σ30)) = some (.inl (some (.int (jdg W L kd a j w))), σ') ∧ Kp (CJ σ c) σ σ' := fun x5 => by
      rw [irm_nI hj, fct 3 _ σ3 k3.1 (by omega)]
      show ∃ σ', (gR σ4 101 13 (.ref c) _) = _ ∧ _
      rw [g13 σ4 k4.1, gs 22 σ4 (by omega) k4, show nthD sgC 22 0 = nI (1000 + 4) from rfl, fct 4 _ σ4 k4.1 (by omega)]
      show ∃ σ', (gR σ5 101 13 (.ref c) _) = _ ∧ _
      rw [g13 σ5 k5.1, gs 23 σ5 (by omega) k5, show nthD sgC 23 0 = nI (1000 + 5) from rfl, fct 5 _ σ5 k5.1 (by omega)]
      show ∃ σ', (gR σ6 101 13 (.ref c) _) = _ ∧ _
      rw [g13 σ6 k6.1, gs 24 σ6 (by omega) k6, show nthD sgC 24 0 = nI (1000 + 6) from rfl]
      by_cases hwet : wetB W a j = 0
      · rw [if_neg (fun z => (wet_bc hW a j).mp z hwet), e_10_164, fct 6 _ σ6 k6.1 (by omega)]
        have : wI σ6 (c + 6) 6 0 = σ7 := by show _ = wI σ6 (c + 6) 6 (bI (decide (wetB W a j ≠ 0))); rw [hwet]; rfl
        rw [this, g13 σ7 k7.1, gs 25 σ7 (by omega) k7, show nthD sgC 25 0 = nI (1000 + 7) from rfl]
        exact own
      · rw [if_pos ((wet_bc hW a j).mpr hwet), e_10_165, fct 6 _ σ6 k6.1 (by omega)]
        have : wI σ6 (c + 6) 6 1 = σ7 := by show _ = wI σ6 (c + 6) 6 (bI (decide (wetB W a j ≠ 0))); rw [decide_eq_true hwet]; rfl
        rw [this, g13 σ7 k7.1, gs 25 σ7 (by omega) k7, show nthD sgC 25 0 = nI (1000 + 7) from rfl]
        exact own
    cases hr : reN j with
    | none =>
      rw [if_pos (show oI none = -1 from rfl), e_10_87, fct 2 _ σ2 k2.1 (by omega)]
      have : wI σ2 (c + 6) 2 0 = σ3 := by show _ = wI σ2 (c + 6) 2 (nI ((reN j).getD 0)); rw [hr]; rfl
      rw [this, g13 σ3 k3.1, gs 21 σ3 (by omega) k3, show nthD sgC 21 0 = nI (1000 + 3) from rfl]
      exact tail none
    | some r =>
      have hr7 := reN_le hr
      rw [if_neg (show ¬ oI (some r) = -1 from nI_neg (by omega)), e_10_85, fct 2 _ σ2 k2.1 (by omega)]
      have : wI σ2 (c + 6) 2 (oI (some r)) = σ3 := by show _ = wI σ2 (c + 6) 2 (nI ((reN j).getD 0)); rw [hr]; rfl
      rw [this, g13 σ3 k3.1, gs 21 σ3 (by omega) k3, show nthD sgC 21 0 = nI (1000 + 3) from rfl]
      exact tail none
