/-! deeds bought, sold, insured -/
section A2
variable {σ τ : SH} {W L : WW} {x : XX}
theorem InvC.la {c : Nat} (h : CV σ c W L) : W 4 = 1 → LWA L := h.2.2.1.2
/-- a purse a cost lower -/
theorem sub_b {p c : Int32} (hp : btw p 0 9999) (hc : btw c 0 12987) (h : ¬ p < c) : btw (p - c) 0 9999 := by
  unfold btw at hp hc ⊢
  rw [tlt] at h
  rw [tS (by omega) (by omega)]
  omega
/-- a purse a pay higher -/
def ern (p v : Int32) : Int32 := if (9999 < p + v : Prop) then 9999 else p + v
theorem ern_b {p v : Int32} (hp : btw p 0 9999) (hv : btw v 0 12987) : btw (ern p v) 0 9999 := by
  unfold ern
  have z : (9999 : Int32).toInt = 9999 := by decide
  unfold btw at hp hv
  by_cases h : (9999 : Int32) < p + v
  · rw [if_pos h]; unfold btw; decide
  · rw [if_neg h]
    rw [tlt, z] at h
    unfold btw
    rw [tA (by omega) (by omega)] at h ⊢
    omega
theorem m_2 {a : Nat} (h : sT σ a = 100) (v : Int32) : rn 2 [.ref a, .int v] σ = some (.inl none, wI σ a 0 (ern (sI σ a 0) v)) := by
  rw [r_2, gI_r h]
  unfold ern
  by_cases c : (9999 : Int32) < sI σ a 0 + v
  · rw [if_pos c, if_pos c, e_2_25, pI_r h]
  · rw [if_neg c, if_neg c, e_2_19, gI_r h, pI_r h]
/-- in the reference -/
theorem m_270 (h : ShM τ) {b : Nat} (hb : b < 5) (v : Int32) : rn 270 [.ref 611, .int (nI b), .int v] τ = some (.inl none, wI τ 612 (52 + 3 * b + 0) (ern (br (sI τ 612) b 0) v)) := by
  have e : (if (br (sI τ 612) b 0 + v < 9999 : Prop) then br (sI τ 612) b 0 + v else 9999) = ern (br (sI τ 612) b 0) v := by
    unfold ern
    by_cases c : (9999 : Int32) < br (sI τ 612) b 0 + v
    · rw [if_pos c, if_neg (by rw [tlt] at c ⊢; omega)]
    · rw [if_neg c]
      by_cases d : br (sI τ 612) b 0 + v < 9999
      · rw [if_pos d]
      · rw [if_neg d]
        exact (Int32.toInt_inj.mp (by rw [tlt] at c d; omega))
  rw [r_270, gR_r h.1.1 h.1.2.1, show (0 : Int32) = OfNat.ofNat 0 from rfl, m_202 (b := b) (f := 0), onI_i, if_pos h.1.1, m_251 (b := b) (f := 0) h (by omega), onI_i, m_328, onI_i, e, w612 h (by omega)]
theorem m_16 {c d : Nat} (h : CV σ c W L) (hw : WF W) (hd : d < nD W) : rn 16 [.ref c, .ref (c + 18 + d)] σ = some (.inl (some (if de W d 4 = -1 then .null else .ref (c + 13 + (de W d 4).toInt.toNat))), σ) := by
  have hS := h.1.1
  have l8 := (WF_nD hw).2
  have l5 := (WF_nB hw).2
  have td := (hS.2.2.2.2.2 d (by omega)).2
  have w4 := (hw.2.2.2 d hd).2.2.2.2.1
  have e4 := h.2.1.2.2.2 d 4 hd (by omega)
  have z0 : (0 : Int32).toInt = 0 := by decide
  have m1 : (-1 : Int32).toInt = -1 := by decide
  unfold btw at w4
  rw [r_16, gI_r td, e4]
  by_cases c0 : de W d 4 = -1
  · rw [if_pos (by rw [tlt, z0, c0, m1]; omega), if_pos c0, e_16_18, e_16_31]
  · have p0 : 0 ≤ (de W d 4).toInt := by
      have : (de W d 4).toInt ≠ -1 := fun z => c0 (Int32.toInt_inj.mp (by rw [z, m1]))
      omega
    have eb : de W d 4 = nI (de W d 4).toInt.toNat := nI_nI p0
    rw [if_neg (by rw [tlt, z0]; omega), if_neg c0, gI_r td, e4, gI_r hS.1.1, h.2.1.1.2.1, (WF_nB hw).1, if_pos (by rw [tlt, tnI (by omega)]; omega), e_16_22, gR_r hS.1.1 hS.1.2.2.1, gI_r td, e4, eb, cB hS (show (de W d 4).toInt.toNat < 5 by omega), ← eb]
/-- who owns a deed -/
theorem own_b (hw : WF W) {d : Nat} (hd : d < nD W) (h : de W d 4 ≠ -1) : de W d 4 = nI (de W d 4).toInt.toNat ∧ (de W d 4).toInt.toNat < nB W := by
  have w4 := (hw.2.2.2 d hd).2.2.2.2.1
  have m1 : (-1 : Int32).toInt = -1 := by decide
  unfold btw at w4
  have : (de W d 4).toInt ≠ -1 := fun z => h (Int32.toInt_inj.mp (by rw [z, m1]))
  exact ⟨nI_nI (by omega), by omega⟩
end A2
