/-! worlds stay well formed -/
theorem uW_id {W : WW} {k : Nat} {v : Int32} (h : W k = v) : uW W k v = W := by
  funext j
  unfold uW
  by_cases e : j = k
  · rw [if_pos e, e, h]
  · rw [if_neg e]
section WU
variable {W L : WW}
/-- a write at k ≥ 9, told by what it does to showers, brokers, deeds -/
theorem WF.u {k : Nat} {v : Int32} (h : WF W) (hk : 9 ≤ k) (hs : ∀ s, s < nS W → 10 + 7 * s ≤ k → k < 10 + 7 * s + 7 → WFs (uW W k v) s) (hb : ∀ b, b < nB W → 52 + 3 * b ≤ k → k < 52 + 3 * b + 3 → WFb (uW W k v) b) (hd : ∀ d, d < nD W → 67 + 7 * d ≤ k → k < 67 + 7 * d + 7 → WFd (uW W k v) d) : WF (uW W k v) := by
  obtain ⟨h1, h2, h3, h4⟩ := h
  refine ⟨?_, fun s z => ?_, fun s z => ?_, fun s z => ?_⟩
  · rw [uW_n (by omega), uW_n (by omega), uW_n (by omega), uW_n (by omega), uW_n (by omega), uW_n (by omega), uW_n (by omega), uW_n (by omega), uW_n (by omega)]; exact h1
  · rw [nS_u (by omega)] at z
    by_cases e : 10 + 7 * s ≤ k ∧ k < 10 + 7 * s + 7
    · exact hs s z e.1 e.2
    · have := h2 s z
      unfold WFs at this ⊢
      rw [sh_u (by omega), sh_u (by omega), sh_u (by omega), sh_u (by omega), sh_u (by omega), sh_u (by omega), sh_u (by omega)]; exact this
  · rw [nB_u (by omega)] at z
    by_cases e : 52 + 3 * s ≤ k ∧ k < 52 + 3 * s + 3
    · exact hb s z e.1 e.2
    · have := h3 s z
      unfold WFb at this ⊢
      rw [br_u (by omega), br_u (by omega), br_u (by omega)]; exact this
  · rw [nD_u (by omega)] at z
    by_cases e : 67 + 7 * s ≤ k ∧ k < 67 + 7 * s + 7
    · exact hd s z e.1 e.2
    · have := h4 s z
      unfold WFd at this ⊢
      rw [de_u (by omega), de_u (by omega), de_u (by omega), de_u (by omega), de_u (by omega), de_u (by omega), nB_u (by omega)]; exact this
theorem sh_s {s f : Nat} {v : Int32} : sh (uW W (10 + 7 * s + f) v) s f = v := uW_s _ _ _
theorem br_s {s f : Nat} {v : Int32} : br (uW W (52 + 3 * s + f) v) s f = v := uW_s _ _ _
theorem de_s {s f : Nat} {v : Int32} : de (uW W (67 + 7 * s + f) v) s f = v := uW_s _ _ _
theorem WF.s6 (h : WF W) {s : Nat} {v : Int32} (hs : s < 6) (hv : btw v 0 2) (hS : nS W ≤ 6) (hB : nB W ≤ 5) : WF (uW W (10 + 7 * s + 6) v) := by
  refine h.u (by omega) (fun s' z z1 z2 => ?_) (fun b z z1 z2 => by omega) (fun d z z1 z2 => by omega)
  have e : s' = s := by omega
  subst e
  have := h.2.1 s' z
  unfold WFs at this ⊢
  rw [sh_u (by omega), sh_u (by omega), sh_u (by omega), sh_u (by omega), sh_u (by omega), sh_u (by omega), sh_s]
  exact ⟨this.1, this.2.1, this.2.2.1, this.2.2.2.1, this.2.2.2.2.1, this.2.2.2.2.2.1, hv⟩
theorem WF.b0 (h : WF W) {b : Nat} {v : Int32} (hb : b < 5) (hv : btw v 0 9999) : WF (uW W (52 + 3 * b + 0) v) := by
  have hS := (WF_nS h).2
  refine h.u (by omega) (fun s' z z1 z2 => by omega) (fun b' z z1 z2 => ?_) (fun d z z1 z2 => by omega)
  have e : b' = b := by omega
  subst e
  have := h.2.2.1 b' z
  unfold WFb at this ⊢
  rw [br_s, br_u (by omega), br_u (by omega)]
  exact ⟨hv, this.2⟩
theorem WF.b1 (h : WF W) {b : Nat} {v : Int32} (hb : b < 5) (hv : btw v 0 15) : WF (uW W (52 + 3 * b + 1) v) := by
  have hS := (WF_nS h).2
  refine h.u (by omega) (fun s' z z1 z2 => by omega) (fun b' z z1 z2 => ?_) (fun d z z1 z2 => by omega)
  have e : b' = b := by omega
  subst e
  have := h.2.2.1 b' z
  unfold WFb at this ⊢
  rw [br_s, br_u (by omega), br_u (by omega)]
  exact ⟨this.1, hv, this.2.2⟩
theorem WF.d4 (h : WF W) {d : Nat} {v : Int32} (hd : d < 8) (hv : btw v 0 (nB W - 1)) : WF (uW W (67 + 7 * d + 4) v) := by
  have hS := (WF_nS h).2
  have hB := (WF_nB h).2
  refine h.u (by omega) (fun s' z z1 z2 => by omega) (fun b z z1 z2 => by omega) (fun d' z z1 z2 => ?_)
  have e : d' = d := by omega
  subst e
  have := h.2.2.2 d' z
  unfold WFd at this ⊢
  rw [de_s, de_u (by omega), de_u (by omega), de_u (by omega), de_u (by omega), de_u (by omega), nB_u (by omega)]
  unfold btw at hv
  refine ⟨this.1, this.2.1, this.2.2.1, this.2.2.2.1, ⟨by omega, hv.2⟩, this.2.2.2.2.2.1, fun z => ?_⟩
  rw [z] at hv
  have m1 : (-1 : Int32).toInt = -1 := by decide
  rw [m1] at hv
  omega
theorem WF.d5 (h : WF W) {d : Nat} {v : Int32} (hd : d < 8) : WF (uW W (67 + 7 * d + 5) v) := by
  have hS := (WF_nS h).2
  have hB := (WF_nB h).2
  refine h.u (by omega) (fun s' z z1 z2 => by omega) (fun b z z1 z2 => by omega) (fun d' z z1 z2 => ?_)
  have e : d' = d := by omega
  subst e
  have := h.2.2.2 d' z
  unfold WFd at this ⊢
  rw [de_u (by omega), de_u (by omega), de_u (by omega), de_u (by omega), de_u (by omega), de_u (by omega), nB_u (by omega)]
  exact this
theorem WF.d6 (h : WF W) {d : Nat} (hd : d < 8) (ho : de W d 4 ≠ -1) : WF (uW W (67 + 7 * d + 6) 1) := by
  have hS := (WF_nS h).2
  have hB := (WF_nB h).2
  refine h.u (by omega) (fun s' z z1 z2 => by omega) (fun b z z1 z2 => by omega) (fun d' z z1 z2 => ?_)
  have e : d' = d := by omega
  subst e
  have := h.2.2.2 d' z
  unfold WFd at this ⊢
  rw [de_s, de_u (by omega), de_u (by omega), de_u (by omega), de_u (by omega), de_u (by omega), nB_u (by omega)]
  exact ⟨this.1, this.2.1, this.2.2.1, this.2.2.2.1, this.2.2.2.2.1, by unfold btw; decide, fun z => absurd z ho⟩
theorem WF.r9 (h : WF W) {v : Int32} : WF (uW W 9 v) := h.u (by omega) (fun s' z z1 z2 => by omega) (fun b z z1 z2 => by omega) (fun d z z1 z2 => by omega)
theorem WF.l {k : Nat} (h : WF W) {v : Int32} (hk : 123 ≤ k) : WF (uW W k v) := by
  have hS := (WF_nS h).2
  have hB := (WF_nB h).2
  have hD := (WF_nD h).2
  exact h.u (by omega) (fun s' z z1 z2 => by omega) (fun b z z1 z2 => by omega) (fun d z z1 z2 => by omega)
/-- road, minute, log's size -/
theorem WF.h {k : Nat} (h : WF W) {v : Int32} (hk : (k = 5 ∧ btw v 0 9999) ∨ (k = 6 ∧ btw v 0 15) ∨ (k = 8 ∧ btw v 0 60)) : WF (uW W k v) := by
  obtain ⟨⟨p0, p1, p2, p3, p4, p5, p6, p7, p8⟩, h2, h3, h4⟩ := h
  refine ⟨⟨?_, ?_, ?_, ?_, ?_, ?_, ?_, ?_, ?_⟩, fun s z => ?_, fun s z => ?_, fun s z => ?_⟩
  · rw [uW_n (by omega)]; exact p0
  · rw [uW_n (by omega)]; exact p1
  · rw [uW_n (by omega)]; exact p2
  · rw [uW_n (by omega)]; exact p3
  · rw [uW_n (by omega)]; exact p4
  · by_cases e : 5 = k
    · rw [e, uW_s]; rcases hk with z | z | z <;> first | exact z.2 | omega
    · rw [uW_n e]; exact p5
  · by_cases e : 6 = k
    · rw [e, uW_s]; rcases hk with z | z | z <;> first | omega | exact z.2
    · rw [uW_n e]; exact p6
  · rw [uW_n (by omega)]; exact p7
  · by_cases e : 8 = k
    · rw [e, uW_s]; rcases hk with z | z | z <;> first | omega | exact z.2
    · rw [uW_n e]; exact p8
  · rw [nS_u (by omega)] at z
    have := h2 s z
    unfold WFs at this ⊢
    rw [sh_u (by omega), sh_u (by omega), sh_u (by omega), sh_u (by omega), sh_u (by omega), sh_u (by omega), sh_u (by omega)]; exact this
  · rw [nB_u (by omega)] at z
    have := h3 s z
    unfold WFb at this ⊢
    rw [br_u (by omega), br_u (by omega), br_u (by omega)]; exact this
  · rw [nD_u (by omega)] at z
    have := h4 s z
    unfold WFd at this ⊢
    rw [de_u (by omega), de_u (by omega), de_u (by omega), de_u (by omega), de_u (by omega), de_u (by omega), nB_u (by omega)]; exact this
end WU
/-! what a law adds is small -/
theorem jdg_b {W L : WW} (hl : W 4 = 1 → LWF L) (ha : W 4 = 1 → LWA L) (kd a j w : Nat) : btw (jdg W L kd a j w) 0 11988 := by
  unfold jdg
  by_cases h : W 4 = 1
  · rw [if_pos h]
    have n12 := (LWF_n (hl h)).2
    have key : (fun i (s : Int32) => btw s 0 (999 * i)) (0 + lnN L) (fo (smg L (FC W a j w) kd) 0 (lnN L) 0) := fo_inv (I := fun i s => btw s 0 (999 * i)) (lnN L) 0 (0 : Int32) (by unfold btw; decide) (fun i s h1 h2 hs => by
      have hl2 := ha h i (by omega)
      unfold smg
      unfold btw at hs hl2 ⊢
      split
      · rw [tA (by omega) (by omega)]; omega
      · omega)
    unfold smL
    unfold btw at key ⊢
    try dsimp only at key
    omega
  · rw [if_neg h]; unfold btw; decide
theorem cost_b {W L : WW} (hw : WF W) (hl : W 4 = 1 → LWF L) (ha : W 4 = 1 → LWA L) {b d : Nat} (hd : d < nD W) : btw (cost W L b d) 0 12987 := by
  have h1 := (hw.2.2.2 d hd).2.2.2.1
  have h2 := jdg_b hl ha 0 (de W d 0).toInt.toNat (W 5).toInt.toNat b
  unfold cost
  unfold btw at h1 h2 ⊢
  rw [tA (by omega) (by omega)]
  omega
theorem pay_b {W L : WW} (hw : WF W) (hl : W 4 = 1 → LWF L) (ha : W 4 = 1 → LWA L) (b d j : Nat) : btw (pay W L b d j) 0 12087 := by
  have h1 := hw.1.2.2.2.2.2.2.2.1
  have h2 := jdg_b hl ha 1 (de W d 0).toInt.toNat j b
  unfold pay
  unfold btw at h1 h2 ⊢
  rw [tA (by omega) (by omega)]
  omega
