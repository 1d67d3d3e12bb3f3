def RfC (σ : SH) (t : TXT) (st dp : Nat) (W : WW) (r : PR) (X : SR) : Prop := ∃ W' p b x, X = some (.inl (some (.int x)), Rst σ W' p b st dp) ∧ (∀ j, 363 ≤ j → W' j = W j) ∧ (r.2 = none → x = -1 ∧ b = tkE t r.1) ∧ ∀ V, r.2 = some V → W' = V ∧ ∃ n, n < 100 ∧ x = nI n
theorem nI_any (x : Int32) : ∃ n, x = nI n := ⟨x.toBitVec.toNat, Int32.toBitVec_inj.mp (by
  show x.toBitVec = BitVec.ofNat 32 x.toBitVec.toNat
  simp)⟩
theorem Rst_e {ρ : SH} {W : WW} {p b st dp : Nat} (h10 : sI ρ 611 10 = nI p) (h12 : sI ρ 611 12 = nI b) (h13 : sI ρ 611 13 = nI dp) (h16 : sI ρ 611 16 = nI st) (hW : sI ρ 612 = W) : Rst ρ W p b st dp = ρ := by
  refine Prod.ext ?_ rfl
  funext a k
  show (if a = 612 then W k else if a = 611 then (if k = 10 then nI p else if k = 12 then nI b else if k = 13 then nI dp else if k = 16 then nI st else ρ.1 a k) else ρ.1 a k) = ρ.1 a k
  by_cases h1 : a = 612
  · rw [if_pos h1, h1, ← hW]; rfl
  rw [if_neg h1]
  by_cases h2 : a = 611
  · subst h2
    rw [if_pos rfl]
    by_cases k1 : k = 10
    · subst k1; rw [if_pos rfl]; exact h10.symm
    rw [if_neg k1]
    by_cases k2 : k = 12
    · subst k2; rw [if_pos rfl]; exact h12.symm
    rw [if_neg k2]
    by_cases k3 : k = 13
    · subst k3; rw [if_pos rfl]; exact h13.symm
    rw [if_neg k3]
    by_cases k4 : k = 16
    · subst k4; rw [if_pos rfl]; exact h16.symm
    rw [if_neg k4]
  · rw [if_neg h2]
section F2
variable {σ : SH} {t : TXT} {W W0 : WW} {p b st dp k : Nat}
theorem sg_at (h : TxO t) {i c : Nat} (hi : i < 35) (hc : (chL i).length = 1 ∧ chN i 0 = c) (hk : k ≤ tkN t) : (tkE t k < t.2.1 ∧ c ≤ t.1 (tkE t k) ∧ t.1 (tkE t k) ≤ c) ↔ tkG t k = i := by
  have f := ch_fst i hi
  constructor
  · intro w
    by_cases z : k < tkN t
    · obtain ⟨⟨a1, a2, a3⟩, a4, a5, a6, a7, a8⟩ := h.k z
      have eb : t.1 (tkE t k) = chN i 0 := by omega
      rw [tkG_lt z, sgN_w a1 hi]
      have s1 := a7 (by rw [eb]; exact f.2.2.2.2.mp hc.1)
      exact ⟨s1.trans hc.1.symm, fun j hj => by rw [show j = 0 by omega, Nat.add_zero]; exact eb⟩
    · have := tkE_ge (t := t) (k := k) (by omega)
      omega
  · intro e
    have z := h.lt e (by omega)
    obtain ⟨⟨a1, a2, a3⟩, -⟩ := h.k z
    rw [tkG_lt z, sgN_w a1 hi] at e
    have y := e.2 0 (by omega)
    rw [Nat.add_zero] at y
    omega
theorem sg_1 (h : TxO t) {i : Nat} (hi : i < 35) (hc : (chL i).length = 1) (e : tkG t k = i) : tkS t k = 1 := by
  have z := h.lt e (by omega)
  rw [tkG_lt z, sgN_w (h.k z).1.1 hi] at e
  exact e.1.trans hc
theorem end_at (h : TxO t) (hk : k ≤ tkN t) : nI (tkE t k) = nI t.2.1 ↔ tkG t k = 37 := by
  have hT := h.2.1
  have le := h.le hk
  rw [nI_eq (by omega) (by omega), h.e37]
  constructor
  · intro e
    rcases Nat.lt_or_ge k (tkN t) with z | z
    · have := (h.k z).1; omega
    · exact z
  · exact tkE_ge
theorem m_190c (h : TkR σ t) (hW : WF W) (ha : tAt t k p) {n : Nat} (hn : n < 14) : RfR σ t st dp W (lnP t W k) (rn 190 [.ref 611, .int 1, .int (nI n)] (Rst σ W p b st dp)) := by
  rw [r_190, if_pos (Rst_tt h), m_191 h ha, onV_i, if_neg n10, e_190_16, if_pos (nI_ltl (n := 14) hn (by decide)), if_neg n10, if_pos (Rst_tt h)]
  exact (m_192 h hW ha.1).tr (fun ρ => (if_pos n00).trans (e_190_45 _ _ _ _)) (fun ρ => (if_neg n10).trans ((e_190_41 _ _ _ _).trans ((e_190_46 _ _ _ _ _).trans (if_pos n01))))
theorem m_190d (h : TkR σ t) (ha : tAt t k p) : rn 190 [.ref 611, .int 1, .int (nI 14)] (Rst σ W p b st dp) = some (.inl (some (.int 0)), Rst σ W (tkL t k) (tkE t k) st dp) := by
  rw [r_190, if_pos (Rst_tt h), m_191 h ha, onV_i, if_neg n10, e_190_16, if_neg (show ¬ nI 14 < 14 by decide), e_190_45]
theorem m_186' (h : TkR σ t) : ∀ (m n : Nat) (W : WW) (k p b : Nat), n + m = 14 → tAt t k p → WF W → (∀ j, 363 ≤ j → W j = W0 j) → RfC σ t st dp W0 (ctL t m W k) (exec PP 63 186 28 [some (.ref 611), some (.int 1), some (.int (nI n))] [] (Rst σ W p b st dp))
  | 0, n, W, k, p, b, hn, ha, hW, hw => by
    have : n = 14 := by omega
    subst this
    rw [e_186_28, if_pos (Rst_tt h), m_190d h ha, onI_i, if_pos n00]
    exact ⟨W, _, _, _, rfl, hw, fun _ => ⟨rfl, rfl⟩, fun V z => by cases z⟩
  | m + 1, n, W, k, p, b, hn, ha, hW, hw => by
    obtain ⟨W1, p1, b1, e, f1, f2, f3, f4⟩ := m_190c (b := b) (st := st) (dp := dp) h hW ha (show n < 14 by omega)
    rw [e_186_28, if_pos (Rst_tt h), e, onI_i]
    unfold ctL
    cases hr : lnP t W k with
    | mk k' o =>
      rw [hr] at f2 f3 f4
      cases o with
      | none =>
        try dsimp only
        rw [if_pos (show bI (none : Option WW).isSome = 0 from rfl)]
        exact ⟨W1, p1, b1, _, rfl, fun j hj => (f1 j hj).trans (hw j hj), fun _ => ⟨rfl, f2 rfl⟩, fun V z => by cases z⟩
      | some W' =>
        obtain ⟨rfl, a1⟩ := f4 W' rfl
        have w1 := WF_ln hW hr
        have hw1 : ∀ j, 363 ≤ j → W1 j = W0 j := fun j hj => (f1 j hj).trans (hw j hj)
        try dsimp only at a1 ⊢
        rw [if_neg (show ¬ bI (some W1).isSome = 0 from (by decide : ¬ bI true = 0)), e_186_39, if_pos (Rst_tt h), m_188 h a1, onV_i, gI_r (Rst_tt h), gI_r (Rst_tt h), Rst_10, Rst_11, h.2.2.2.1]
        by_cases z : tkG t k' = 37
        · rw [if_pos ((end_at h.2.1 a1.1).mpr z), if_pos z, nI_1]
          exact ⟨W1, _, _, _, rfl, hw1, fun y => (by cases y), fun V y => by cases y; exact ⟨rfl, n + 1, by omega, rfl⟩⟩
        rw [if_neg (fun y => z ((end_at h.2.1 a1.1).mp y)), if_neg z, e_186_58, if_pos (Rst_tt h), show (.int 59 : Value) = .int (nI 59) from rfl, m_189 h (h.2.1.le a1.1) (by omega) (by omega), onI_i, iB]
        unfold pW
        by_cases y : tkG t k' = 34
        · rw [if_pos y, decide_eq_true ((sg_at (i := 34) (c := 59) h.2.1 (by omega) (by decide) a1.1).mpr y), if_neg (show ¬ (true = false) by decide), e_186_71, gI_r (Rst_tt h), Rst_10, nI_1, pI_r (Rst_tt h), Rst_p, nI_1]
          have s1 := sg_1 (i := 34) h.2.1 (by omega) (by decide) y
          have a2 := h.2.1.ats (h.2.1.lt y (by omega))
          rw [s1] at a2
          exact m_186' h m (n + 1) W1 (k' + 1) _ _ (by omega) a2 w1 hw1
        · rw [if_neg y, decide_eq_false (fun w => y ((sg_at (i := 34) (c := 59) h.2.1 (by omega) (by decide) a1.1).mp w)), if_pos (show false = false from rfl)]
          exact ⟨W1, _, _, _, rfl, hw1, fun _ => ⟨rfl, rfl⟩, fun V q => by cases q⟩
/-- behind the tape's taking -/
theorem m_186b (h : TkR σ t) (hW : WF W) : RfC σ t st dp W (ctP t W) (onV (rn 188 [.ref 611] (Rst σ W 0 b st dp)) (fun σ24 =>
    gI σ24 112 10 (.ref 611) fun x26 =>
      gI σ24 112 11 (.ref 611) fun x27 =>
      if (x26 = x27 : Prop) then (some (.inl (some (.int 0)), σ24))
      else (exec PP 63 186 26 [some (.ref 611), some (.int 1), none] [] σ24)) (fun e24 σ24x => some (.inr e24, σ24x))) := by
  rw [m_188 h h.2.1.at0, onV_i, gI_r (Rst_tt h), gI_r (Rst_tt h), Rst_10, Rst_11, h.2.2.2.1]
  unfold ctP
  by_cases z : tkG t 0 = 37
  · rw [if_pos ((end_at h.2.1 (by omega)).mpr z), if_pos z]
    exact ⟨W, _, _, _, rfl, fun _ _ => rfl, fun y => (by cases y), fun V y => by cases y; exact ⟨rfl, 0, by omega, rfl⟩⟩
  rw [if_neg (fun y => z ((end_at h.2.1 (by omega)).mp y)), if_neg z, e_186_26]
  exact m_186' h 14 0 W 0 _ _ (by omega) (TxO.ate (by omega)) hW (fun _ _ => rfl)
end F2
