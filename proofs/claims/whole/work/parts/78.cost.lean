/-! what a deed costs, brings; how far one walks -/
def cost (W L : WW) (b d : Nat) : Int32 := de W d 3 + jdg W L 0 (de W d 0).toInt.toNat (W 5).toInt.toNat b
def pay (W L : WW) (b d j : Nat) : Int32 := W 7 + jdg W L 1 (de W d 0).toInt.toNat j b
def walk (W L : WW) (b : Nat) : Int32 := if (0 < br W b 2 - jdg W L 2 (br W b 1).toInt.toNat (W 5).toInt.toNat b : Prop) then br W b 2 - jdg W L 2 (br W b 1).toInt.toNat (W 5).toInt.toNat b else 0
theorem btw_nI {x : Int32} {n : Int} (h : btw x 0 n) : x = nI x.toInt.toNat ∧ (x.toInt.toNat : Int) ≤ n := by
  unfold btw at h
  exact ⟨nI_nI h.1, by omega⟩
theorem WF_m {W : WW} (h : WF W) : W 5 = nI (W 5).toInt.toNat ∧ (W 5).toInt.toNat ≤ 9999 := by
  obtain ⟨h1, h2⟩ := btw_nI h.1.2.2.2.2.2.1
  exact ⟨h1, by omega⟩
theorem WF_rd {W : WW} (h : WF W) : W 6 = nI (W 6).toInt.toNat ∧ (W 6).toInt.toNat ≤ 15 := by
  obtain ⟨h1, h2⟩ := btw_nI h.1.2.2.2.2.2.2.1
  exact ⟨h1, by omega⟩
section CC
variable {σ : SH} {c : Nat} {W L : WW}
/-- the class's county, whole: shape, numbers, law, signs -/
def CT (σ : SH) (c : Nat) (W L : WW) : Prop := ShC σ c ∧ CW σ c W ∧ WF W ∧ LawC σ c W L ∧ SgC σ ∧ (38 ≤ c ∧ c + 26 ≤ 624)
theorem CT.kp {σ' : SH} (h : CT σ c W L) (k : Kp (CJ σ c) σ σ') : CT σ' c W L := ⟨h.1.kp k, h.2.1.cj h.2.2.1 k h.2.2.2.2.2.2, h.2.2.1, h.2.2.2.1.kp k (by have := h.2.2.2.2.2; omega), h.2.2.2.2.1.kp k (fun a j z1 z2 => by
  have := h.2.2.2.2.2
  rcases z2 with z2 | ⟨z2, _⟩ <;> omega), h.2.2.2.2.2⟩
theorem m_14 (h : CT σ c W L) {b d : Nat} (hd : d < nD W) : ∃ σ', rn 14 [.ref c, .int (nI b), .int (nI d)] σ = some (.inl (some (.int (cost W L b d))), σ') ∧ Kp (CJ σ c) σ σ' := by
  obtain ⟨hS, hC, hW, hl, hg, hc⟩ := h
  have hd8 := (WF_nD hW).2
  obtain ⟨m1, m2⟩ := WF_m hW
  obtain ⟨a1, a2⟩ := btw_nI (hW.2.2.2 d hd).1
  have ht := (hS.2.2.2.2.2 d (by omega)).2
  obtain ⟨σ', g1, g2⟩ := m_10 (kd := 0) (a := (de W d 0).toInt.toNat) (j := (W 5).toInt.toNat) (w := b) hS hC hW hl hg hc (by omega) (by omega) (by omega)
  refine ⟨σ', ?_, g2⟩
  rw [r_14, gR_r hS.1.1 hS.1.2.2.2.1, cD hS (by omega), gI_r ht, hC.2.2.2 d 3 hd (by omega), gR_r hS.1.1 hS.1.2.2.2.1, cD hS (by omega), gI_r ht, hC.2.2.2 d 0 hd (by omega), gI_r hS.1.1, hC.1.2.2.2.2.2.2.1, if_pos hS.1.1, a1, m1, show (14 : Nat) = 14 + 0 from rfl, g1, onI_i]
  rfl
theorem m_15 (h : CT σ c W L) {b d j : Nat} (hd : d < nD W) (hj : j < 2147483648) : ∃ σ', rn 15 [.ref c, .int (nI b), .int (nI d), .int (nI j)] σ = some (.inl (some (.int (pay W L b d j))), σ') ∧ Kp (CJ σ c) σ σ' := by
  obtain ⟨hS, hC, hW, hl, hg, hc⟩ := h
  have hd8 := (WF_nD hW).2
  obtain ⟨a1, a2⟩ := btw_nI (hW.2.2.2 d hd).1
  have ht := (hS.2.2.2.2.2 d (by omega)).2
  obtain ⟨σ', g1, g2⟩ := m_10 (kd := 1) (a := (de W d 0).toInt.toNat) (j := j) (w := b) hS hC hW hl hg hc (by omega) (by omega) hj
  refine ⟨σ', ?_, g2⟩
  rw [r_15, gI_r hS.1.1, hC.1.2.2.2.2.2.1, gR_r hS.1.1 hS.1.2.2.2.1, cD hS (by omega), gI_r ht, hC.2.2.2 d 0 hd (by omega), if_pos hS.1.1, a1, show (15 : Nat) = 14 + 1 from rfl, g1, onI_i]
  rfl
theorem m_9 (h : CT σ c W L) {b : Nat} (hb : b < nB W) : ∃ σ', rn 9 [.ref c, .int (nI b)] σ = some (.inl (some (.int (walk W L b))), σ') ∧ Kp (CJ σ c) σ σ' := by
  obtain ⟨hS, hC, hW, hl, hg, hc⟩ := h
  have hb5 := (WF_nB hW).2
  obtain ⟨m1, m2⟩ := WF_m hW
  obtain ⟨a1, a2⟩ := btw_nI (hW.2.2.1 b hb).2.1
  have ht := (hS.2.2.2.2.1 b (by omega)).2
  obtain ⟨σ', g1, g2⟩ := m_10 (kd := 2) (a := (br W b 1).toInt.toNat) (j := (W 5).toInt.toNat) (w := b) hS hC hW hl hg hc (by omega) (by omega) (by omega)
  refine ⟨σ', ?_, g2⟩
  rw [r_9, gR_r hS.1.1 hS.1.2.2.1, cB hS (by omega), gI_r ht, hC.2.2.1 b 2 hb (by omega), gR_r hS.1.1 hS.1.2.2.1, cB hS (by omega), gI_r ht, hC.2.2.1 b 1 hb (by omega), gI_r hS.1.1, hC.1.2.2.2.2.2.2.1, if_pos hS.1.1, a1, m1, show (16 : Nat) = 14 + 2 from rfl, g1, onI_i]
  unfold walk
  generalize br W b 2 - jdg W L 2 (br W b 1).toInt.toNat (W 5).toInt.toNat b = z
  have z0 : (0 : Int32).toInt = 0 := by decide
  by_cases h1 : z < 0
  · rw [if_pos h1, e_9_41, if_neg (by rw [tlt] at h1 ⊢; omega)]
  · rw [if_neg h1, e_9_40]
    by_cases h2 : 0 < z
    · rw [if_pos h2]
    · rw [if_neg h2]
      have : z = 0 := by rw [teq]; rw [tlt] at h1 h2; omega
      rw [this]
end CC
/-! in the reference -/
section RR
variable {σ : SH}
/-- the reference, whole: shape, numbers, law -/
def MT (σ : SH) : Prop := ShM σ ∧ WF (sI σ 612) ∧ (sI σ 612 4 = 1 → LWF (tx σ))
theorem MT.kp {σ' : SH} {P : Nat → Nat → Prop} (h : MT σ) (k : Kp P σ σ') (hP : ∀ j, ¬ P 612 j) : MT σ' := by
  have e : sI σ' 612 = sI σ 612 := funext fun j => k.2 612 j (hP j)
  refine ⟨h.1.kp k, by rw [e]; exact h.2.1, ?_⟩
  unfold tx
  rw [e]
  exact h.2.2
theorem MT.mj {σ' : SH} (h : MT σ) (k : Kp MJ σ σ') : MT σ' ∧ sI σ' 612 = sI σ 612 ∧ tx σ' = tx σ := by
  have e : sI σ' 612 = sI σ 612 := funext fun j => k.2 612 j (by unfold MJ; omega)
  exact ⟨h.kp k (by unfold MJ; omega), e, by unfold tx; rw [e]⟩
theorem m_264 (h : MT σ) {b d : Nat} (hb : b < 5) (hd : d < nD (sI σ 612)) : ∃ σ', rn 264 [.ref 611, .int (nI b), .int (nI d)] σ = some (.inl (some (.int (cost (sI σ 612) (tx σ) b d))), σ') ∧ Kp MJ σ σ' := by
  obtain ⟨hM, hW, hw⟩ := h
  have hd8 := (WF_nD hW).2
  obtain ⟨m1, m2⟩ := WF_m hW
  obtain ⟨a1, a2⟩ := btw_nI (hW.2.2.2 d hd).1
  obtain ⟨σ', g1, g2⟩ := m_252 (kd := 0) (a := (de (sI σ 612) d 0).toInt.toNat) (j := (sI σ 612 5).toInt.toNat) (w := b) hM hW hw (by omega) (by omega) (by omega) hb
  rw [show nI 0 = (0 : Int32) from rfl] at g1
  refine ⟨σ', ?_, g2⟩
  rw [r_264, if_pos hM.1.1, m_257 (f := 3) hM (by omega), onI_i, if_pos hM.1.1, m_257 (f := 0) hM (by omega), onI_i, gR_r hM.1.1 hM.1.2.1, show (5 : Int32) = nI 5 from rfl, m_w hM (by omega), if_pos hM.1.1, a1, m1, g1, onI_i]
  rfl
theorem m_266 (h : MT σ) {b d j : Nat} (hb : b < 5) (hd : d < nD (sI σ 612)) (hj : j < 2147483648) : ∃ σ', rn 266 [.ref 611, .int (nI b), .int (nI d), .int (nI j)] σ = some (.inl (some (.int (pay (sI σ 612) (tx σ) b d j))), σ') ∧ Kp MJ σ σ' := by
  obtain ⟨hM, hW, hw⟩ := h
  have hd8 := (WF_nD hW).2
  obtain ⟨a1, a2⟩ := btw_nI (hW.2.2.2 d hd).1
  obtain ⟨σ', g1, g2⟩ := m_252 (kd := 1) (a := (de (sI σ 612) d 0).toInt.toNat) (j := j) (w := b) hM hW hw (by omega) (by omega) hj hb
  refine ⟨σ', ?_, g2⟩
  rw [r_266, gR_r hM.1.1 hM.1.2.1, show (7 : Int32) = nI 7 from rfl, m_w hM (by omega), if_pos hM.1.1, m_257 (f := 0) hM (by omega), onI_i, if_pos hM.1.1, a1, show (1 : Int32) = nI 1 from rfl, g1, onI_i]
  rfl
theorem m_250 (h : MT σ) {b : Nat} (hb : b < nB (sI σ 612)) : ∃ σ', rn 250 [.ref 611, .int (nI b)] σ = some (.inl (some (.int (walk (sI σ 612) (tx σ) b))), σ') ∧ Kp MJ σ σ' := by
  obtain ⟨hM, hW, hw⟩ := h
  have hb5 := (WF_nB hW).2
  obtain ⟨m1, m2⟩ := WF_m hW
  obtain ⟨a1, a2⟩ := btw_nI (hW.2.2.1 b hb).2.1
  obtain ⟨σ', g1, g2⟩ := m_252 (kd := 2) (a := (br (sI σ 612) b 1).toInt.toNat) (j := (sI σ 612 5).toInt.toNat) (w := b) hM hW hw (by omega) (by omega) (by omega) (by omega)
  rw [show nI 2 = (2 : Int32) from rfl] at g1
  refine ⟨σ', ?_, g2⟩
  rw [r_250, if_pos hM.1.1, m_251 (f := 2) hM (by omega), onI_i, if_pos hM.1.1, m_251 (f := 1) hM (by omega), onI_i, gR_r hM.1.1 hM.1.2.1, show (5 : Int32) = nI 5 from rfl, m_w hM (by omega), if_pos hM.1.1, a1, m1, g1, onI_i, m_327, onI_i]
  rfl
end RR
