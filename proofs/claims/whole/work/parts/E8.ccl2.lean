section E8
variable {σ τ : SH} {t : TXT} {W L : WW} {k v : Nat}
theorem cw_s {s j : Nat} (h : s < 6) : CwP (244 + s) j := by unfold CwP; omega
theorem m_78 (hX : ShX σ) (hT : TkC σ t) (hC : CV σ 237 W L) (hW : WF W) (hs : nS W < 6) (e : tkG t k = 0) : ClR σ t L (shP t W k) (rn 78 [.ref 206, .ref 237] (TS σ k v)) := by
  have hS := hC.1.1
  have kn := hT.2.1.lt e (by omega)
  have ta : sT σ (244 + nS W) = 108 := (hS.2.2.2.1 (nS W) hs).2
  have ne : 244 + nS W ≠ 201 := by omega
  have r0 : ∀ (f : Nat) (x : Int32) (ρ : SH), Kp CwP σ ρ → Kp CwP σ (wI ρ (244 + nS W) f x) := fun f x ρ h => h.wr (cw_s hs)
  have st : ∀ (ρ : SH) (i w : Nat), Kp CwP σ ρ → Stay σ (TS ρ i w) := fun ρ i w h => h.1
  have c0 : sI σ 237 4 = nI (nS W) := by rw [hC.2.1.1.1]; exact (WF_nS hW).1
  rw [r_78, gR_r (show sT (TS σ k v) 237 = 101 from hS.1.1) (show sV (TS σ k v) 237 0 = .ref 238 from hS.1.2.1), gTS hS.1.1 (by omega) (by rfl), c0, cS (σ := TS σ k v) (c := 237) hS hs, g107 hX (by rfl), if_pos (t110 hX (by rfl)), m_103y hT e (by omega), onI_i, if_neg n10, g107 hX (by rfl), if_pos (t110 hX (by rfl))]
  unfold shP
  refine ClR.n hT (Kp.rf σ) kn (by omega) (by omega) (if_pos n00) fun q1 q2 q3 kn1 => ?_
  try dsimp only
  have K1 := r0 0 (nI (tkV t (k + 1))) σ (Kp.rf σ)
  rw [if_neg n10, e_78_38, g107 hX (by rfl), gnum hX (by rfl), show 237 + 7 + nS W = 244 + nS W from rfl, pTS ta ne (by rfl), g107 hX (by rfl), if_pos (t110 hX (by rfl))]
  refine ClR.w hT K1 kn1 (by omega) ((if_pos n00).trans (e_78_78 _ _ _ _)) fun p1 kn2 => ?_
  try dsimp only
  rw [if_neg n10, g107 hX (by rfl), gTS ta ne (by rfl), sI_wIs, if_pos (t110 hX (by rfl))]
  refine ClR.n hT K1 kn2 (by omega) (by omega) (if_pos n00) fun q4 q5 q6 kn3 => ?_
  try dsimp only
  have K2 := r0 1 (nI (tkV t (k + 3))) _ K1
  rw [if_neg n10, e_78_80, g107 hX (by rfl), gnum hX (by rfl), pTS ta ne (by rfl), g107 hX (by rfl), if_pos (t110 hX (by rfl))]
  refine ClR.w hT K2 kn3 (by omega) ((if_pos n00).trans (e_78_118 _ _ _ _)) fun p2 kn4 => ?_
  try dsimp only
  rw [if_neg n10, g107 hX (by rfl), if_pos (t110 hX (by rfl))]
  refine ClR.n hT K2 kn4 (by omega) (by omega) (if_pos n00) fun q7 q8 q9 kn5 => ?_
  try dsimp only
  have K3 := r0 2 (nI (tkV t (k + 5))) _ K2
  rw [if_neg n10, e_78_120, g107 hX (by rfl), gnum hX (by rfl), pTS ta ne (by rfl), g107 hX (by rfl), if_pos (t110 hX (by rfl))]
  refine ClR.w hT K3 kn5 (by omega) ((if_pos n00).trans (e_78_161 _ _ _ _)) fun p3 kn6 => ?_
  try dsimp only
  rw [if_neg n10, g107 hX (by rfl), gTS ta ne (by rfl), sI_wIs, if_pos (t110 hX (by rfl))]
  refine ClR.n hT K3 kn6 (by omega) (by omega) (if_pos n00) fun q10 q11 q12 kn7 => ?_
  try dsimp only
  have K4 := r0 6 0 _ (r0 3 (nI (tkV t (k + 7))) _ K3)
  rw [if_neg n10, e_78_163, g107 hX (by rfl), gnum hX (by rfl), pTS ta ne (by rfl), pTS ta ne (by rfl), if_pos (t107 hX (by rfl))]
  refine ClR.dr hX hT K4 kn7 ta (cw_s hs) (fun ρ k v => (if_pos n00).trans (e_78_195 _ _ _ _)) fun k1 d v1 kn8 hd => ?_
  try dsimp only
  rw [if_neg n10, if_pos (t107 hX (by rfl))]
  refine ClR.ch hX hT (r0 4 d _ K4) kn8 ta (cw_s hs) (fun ρ k v => if_pos n00) fun k2 x v2 kn9 hx => ?_
  try dsimp only
  have K5 := r0 5 (nI x) _ (r0 4 d _ K4)
  have c1 : ∀ (ρ : SH) (f : Nat) (x : Int32), sI (wI ρ (244 + nS W) f x) 237 4 = sI ρ 237 4 := fun ρ f x => sI_wIn (by omega)
  rw [if_neg n10, e_78_197, gTS hS.1.1 (by omega) (by rfl), c1, c1, c1, c1, c1, c1, c1, c0, nI_1, pTS hS.1.1 (by omega) (by rfl)]
  refine ⟨_, v2, rfl, K5.wr (by unfold CwP; omega), kn9, fun W' z => ?_⟩
  cases z
  refine ⟨hC.ns hW hs ?_ (sI_wIs _ _ _ _) ?_, WF_seS hW hs q3 q6 q9 q12 hd hx⟩
  · exact ((((((((Kp.w (Or.inl rfl)).wr (Or.inl rfl)).wr (Or.inl rfl)).wr (Or.inl rfl)).wr (Or.inl rfl)).wr (Or.inl rfl)).wr (Or.inl rfl))).wr (Or.inr ⟨rfl, rfl⟩)
  · show sI _ (244 + nS W) 0 = _ ∧ sI _ (244 + nS W) 1 = _ ∧ sI _ (244 + nS W) 2 = _ ∧ sI _ (244 + nS W) 3 = _ ∧ sI _ (244 + nS W) 4 = _ ∧ sI _ (244 + nS W) 5 = _ ∧ sI _ (244 + nS W) 6 = _
    have n237 : ¬ 244 + nS W = 237 := by omega
    simp [sI_wI, n237]
theorem m_81 (hX : ShX σ) (hT : TkC σ t) (hC : CV σ 237 W L) (hW : WF W) (hs : nB W < 5) (e : tkG t k = 1) : ClR σ t L (brP t W k) (rn 81 [.ref 206, .ref 237] (TS σ k v)) := by
  have hS := hC.1.1
  have kn := hT.2.1.lt e (by omega)
  have ta : sT σ (250 + nB W) = 100 := (hS.2.2.2.2.1 (nB W) hs).2
  have ne : 250 + nB W ≠ 201 := by omega
  have r0 : ∀ (f : Nat) (x : Int32) (ρ : SH), Kp CwP σ ρ → Kp CwP σ (wI ρ (250 + nB W) f x) := fun f x ρ h => h.wr (by unfold CwP; omega)
  have c0 : sI σ 237 5 = nI (nB W) := by rw [hC.2.1.1.2.1]; exact (WF_nB hW).1
  rw [r_81, gR_r (show sT (TS σ k v) 237 = 101 from hS.1.1) (show sV (TS σ k v) 237 1 = .ref 239 from hS.1.2.2.1), gTS hS.1.1 (by omega) (by rfl), c0, cB (σ := TS σ k v) (c := 237) hS hs, g107 hX (by rfl), if_pos (t110 hX (by rfl)), m_103y hT e (by omega), onI_i, if_neg n10, g107 hX (by rfl), if_pos (t110 hX (by rfl))]
  unfold brP
  refine ClR.n hT (Kp.rf σ) kn (by omega) (by omega) (if_pos n00) fun q1 q2 q3 kn1 => ?_
  try dsimp only
  have K1 := r0 0 (nI (tkV t (k + 1))) σ (Kp.rf σ)
  rw [if_neg n10, e_81_39, g107 hX (by rfl), gnum hX (by rfl), show 237 + 13 + nB W = 250 + nB W from rfl, pTS ta ne (by rfl), g107 hX (by rfl), if_pos (t110 hX (by rfl))]
  refine ClR.w hT K1 kn1 (by omega) ((if_pos n00).trans (e_81_76 _ _ _ _)) fun p1 kn2 => ?_
  try dsimp only
  rw [if_neg n10, g107 hX (by rfl), if_pos (t110 hX (by rfl))]
  refine ClR.n hT K1 kn2 (by omega) (by omega) (if_pos n00) fun q4 q5 q6 kn3 => ?_
  try dsimp only
  have K2 := r0 1 (nI (tkV t (k + 3))) _ K1
  rw [if_neg n10, e_81_78, g107 hX (by rfl), gnum hX (by rfl), pTS ta ne (by rfl), g107 hX (by rfl), if_pos (t110 hX (by rfl))]
  refine ClR.w hT K2 kn3 (by omega) ((if_pos n00).trans (e_81_114 _ _ _ _)) fun p2 kn4 => ?_
  try dsimp only
  rw [if_neg n10, g107 hX (by rfl), if_pos (t110 hX (by rfl))]
  refine ClR.n hT K2 kn4 (by omega) (by omega) (if_pos n00) fun q7 q8 q9 kn5 => ?_
  try dsimp only
  have K3 := r0 2 (nI (tkV t (k + 5))) _ K2
  have c1 : ∀ (ρ : SH) (f : Nat) (x : Int32), sI (wI ρ (250 + nB W) f x) 237 5 = sI ρ 237 5 := fun ρ f x => sI_wIn (by omega)
  rw [if_neg n10, e_81_116, g107 hX (by rfl), gnum hX (by rfl), pTS ta ne (by rfl), gTS hS.1.1 (by omega) (by rfl), c1, c1, c1, c0, nI_1, pTS hS.1.1 (by omega) (by rfl)]
  refine ⟨_, _, rfl, K3.wr (by unfold CwP; omega), kn5, fun W' z => ?_⟩
  cases z
  refine ⟨hC.nb hW hs ?_ (sI_wIs _ _ _ _) ?_, WF_seB hW hs q3 q6 ⟨q8, q9⟩⟩
  · exact (((Kp.w (Or.inl rfl)).wr (Or.inl rfl)).wr (Or.inl rfl)).wr (Or.inr ⟨rfl, rfl⟩)
  · show sI _ (250 + nB W) 0 = _ ∧ sI _ (250 + nB W) 1 = _ ∧ sI _ (250 + nB W) 2 = _
    have n237 : ¬ 250 + nB W = 237 := by omega
    simp [sI_wI, n237]
theorem m_82 (hX : ShX σ) (hT : TkC σ t) (hC : CV σ 237 W L) (hW : WF W) (hs : nD W < 8) (e : tkG t k = 2) : ClR σ t L (deP t W k) (rn 82 [.ref 206, .ref 237] (TS σ k v)) := by
  have hS := hC.1.1
  have kn := hT.2.1.lt e (by omega)
  have ta : sT σ (255 + nD W) = 102 := (hS.2.2.2.2.2 (nD W) hs).2
  have ne : 255 + nD W ≠ 201 := by omega
  have r0 : ∀ (f : Nat) (x : Int32) (ρ : SH), Kp CwP σ ρ → Kp CwP σ (wI ρ (255 + nD W) f x) := fun f x ρ h => h.wr (by unfold CwP; omega)
  have c0 : sI σ 237 6 = nI (nD W) := by rw [hC.2.1.1.2.2.1]; exact (WF_nD hW).1
  rw [r_82, gR_r (show sT (TS σ k v) 237 = 101 from hS.1.1) (show sV (TS σ k v) 237 2 = .ref 240 from hS.1.2.2.2.1), gTS hS.1.1 (by omega) (by rfl), c0, cD (σ := TS σ k v) (c := 237) hS hs, g107 hX (by rfl), if_pos (t110 hX (by rfl)), m_103y hT e (by omega), onI_i, if_neg n10, g107 hX (by rfl), if_pos (t110 hX (by rfl))]
  unfold deP
  refine ClR.n hT (Kp.rf σ) kn (by omega) (by omega) (if_pos n00) fun q1 q2 q3 kn1 => ?_
  try dsimp only
  have K1 := r0 0 (nI (tkV t (k + 1))) σ (Kp.rf σ)
  rw [if_neg n10, e_82_38, g107 hX (by rfl), gnum hX (by rfl), show 237 + 18 + nD W = 255 + nD W from rfl, pTS ta ne (by rfl), g107 hX (by rfl), if_pos (t110 hX (by rfl))]
  refine ClR.w hT K1 kn1 (by omega) ((if_pos n00).trans (e_82_76 _ _ _ _)) fun p1 kn2 => ?_
  try dsimp only
  rw [if_neg n10, g107 hX (by rfl), if_pos (t110 hX (by rfl))]
  refine ClR.n hT K1 kn2 (by omega) (by omega) (if_pos n00) fun q4 q5 q6 kn3 => ?_
  try dsimp only
  have K2 := r0 1 (nI (tkV t (k + 3))) _ K1
  rw [if_neg n10, e_82_78, g107 hX (by rfl), gnum hX (by rfl), pTS ta ne (by rfl), g107 hX (by rfl), if_pos (t110 hX (by rfl))]
  refine ClR.w hT K2 kn3 (by omega) ((if_pos n00).trans (e_82_119 _ _ _ _)) fun p2 kn4 => ?_
  try dsimp only
  rw [if_neg n10, g107 hX (by rfl), gTS ta ne (by rfl), sI_wIs, if_pos (t110 hX (by rfl))]
  refine ClR.n hT K2 kn4 (by omega) (by omega) (if_pos n00) fun q7 q8 q9 kn5 => ?_
  try dsimp only
  have K3 := r0 2 (nI (tkV t (k + 5))) _ K2
  rw [if_neg n10, e_82_121, g107 hX (by rfl), gnum hX (by rfl), pTS ta ne (by rfl), g107 hX (by rfl), if_pos (t110 hX (by rfl))]
  refine ClR.w hT K3 kn5 (by omega) ((if_pos n00).trans (e_82_159 _ _ _ _)) fun p3 kn6 => ?_
  try dsimp only
  rw [if_neg n10, g107 hX (by rfl), if_pos (t110 hX (by rfl))]
  refine ClR.n hT K3 kn6 (by omega) (by omega) (if_pos n00) fun q10 q11 q12 kn7 => ?_
  try dsimp only
  have K4 := r0 6 0 _ (r0 5 0 _ (r0 4 (-1) _ (r0 3 (nI (tkV t (k + 7))) _ K3)))
  have c1 : ∀ (ρ : SH) (f : Nat) (x : Int32), sI (wI ρ (255 + nD W) f x) 237 6 = sI ρ 237 6 := fun ρ f x => sI_wIn (by omega)
  have pb : ∀ (ρ : SH) (i w : Nat) (q : SH → SR), Stay σ ρ → pB (TS ρ i w) 102 6 (.ref (255 + nD W)) 0 q = q (TS (wI ρ (255 + nD W) 6 0) i w) := fun ρ i w q h => (pB_r (by show sT ρ _ = _; unfold sT; rw [h]; exact ta) (Or.inl rfl)).trans (by rw [TS_w ne])
  rw [if_neg n10, e_82_161, g107 hX (by rfl), gnum hX (by rfl), pTS ta ne (by rfl), pTS ta ne (by rfl), pTS ta ne (by rfl), pb _ _ _ _ (by rfl), gTS hS.1.1 (by omega) (by rfl), c1, c1, c1, c1, c1, c1, c1, c0, nI_1, pTS hS.1.1 (by omega) (by rfl)]
  refine ⟨_, _, rfl, K4.wr (by unfold CwP; omega), kn7, fun W' z => ?_⟩
  cases z
  refine ⟨hC.nd hW hs ?_ (sI_wIs _ _ _ _) ?_, WF_seD hW hs q3 q6 q9 q12⟩
  · exact (((((((Kp.w (Or.inl rfl)).wr (Or.inl rfl)).wr (Or.inl rfl)).wr (Or.inl rfl)).wr (Or.inl rfl)).wr (Or.inl rfl)).wr (Or.inl rfl)).wr (Or.inr ⟨rfl, rfl⟩)
  · show sI _ (255 + nD W) 0 = _ ∧ sI _ (255 + nD W) 1 = _ ∧ sI _ (255 + nD W) 2 = _ ∧ sI _ (255 + nD W) 3 = _ ∧ sI _ (255 + nD W) 4 = _ ∧ sI _ (255 + nD W) 5 = _ ∧ sI _ (255 + nD W) 6 = _
    have n237 : ¬ 255 + nD W = 237 := by omega
    simp [sI_wI, n237]
end E8
