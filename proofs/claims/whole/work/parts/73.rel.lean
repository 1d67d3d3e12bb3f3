/-! the objects' shapes. 200 the class's object, 201 its tape, 206 its reader, counties at 211, 237, 263 and 299 + 26 i, 289 the past ones' row, 290 the forecast, 292 the market; 611 the reference, 612 its rows to 622, 623 the law's row -/
def ShC (σ : SH) (c : Nat) : Prop :=
  (sT σ c = 101 ∧ sV σ c 0 = .ref (c + 1) ∧ sV σ c 1 = .ref (c + 2) ∧ sV σ c 2 = .ref (c + 3) ∧ sV σ c 3 = .ref (c + 4) ∧ sV σ c 13 = .ref (c + 6)) ∧
  (sT σ (c + 1) = 18 ∧ sN σ (c + 1) = 6 ∧ sT σ (c + 2) = 10 ∧ sN σ (c + 2) = 5 ∧ sT σ (c + 3) = 12 ∧ sN σ (c + 3) = 8) ∧
  (sT σ (c + 4) = 105 ∧ sV σ (c + 4) 2 = .ref (c + 5) ∧ sT σ (c + 5) = 1 ∧ sN σ (c + 5) = 240 ∧ sT σ (c + 6) = 1 ∧ sN σ (c + 6) = 8) ∧
  (∀ i, i < 6 → sV σ (c + 1) i = .ref (c + 7 + i) ∧ sT σ (c + 7 + i) = 108) ∧ (∀ i, i < 5 → sV σ (c + 2) i = .ref (c + 13 + i) ∧ sT σ (c + 13 + i) = 100) ∧ ∀ i, i < 8 → sV σ (c + 3) i = .ref (c + 18 + i) ∧ sT σ (c + 18 + i) = 102
def ShM (σ : SH) : Prop :=
  (sT σ 611 = 112 ∧ sV σ 611 1 = .ref 612 ∧ sV σ 611 2 = .ref 613 ∧ sV σ 611 3 = .ref 614 ∧ sV σ 611 4 = .ref 615 ∧ sV σ 611 5 = .ref 616 ∧ sV σ 611 8 = .ref 617 ∧ sV σ 611 15 = .ref 618 ∧ sV σ 611 17 = .ref 619 ∧ sV σ 611 21 = .ref 620 ∧ sV σ 611 22 = .ref 621 ∧ sV σ 611 23 = .ref 622) ∧
  (sT σ 612 = 1 ∧ sT σ 613 = 1 ∧ sT σ 614 = 1 ∧ sT σ 615 = 1 ∧ sT σ 616 = 1 ∧ sT σ 617 = 2 ∧ sT σ 618 = 1 ∧ sT σ 619 = 1 ∧ sT σ 620 = 1 ∧ sT σ 621 = 1 ∧ sT σ 622 = 1) ∧
  (sN σ 612 = 2061 ∧ sN σ 613 = 1212 ∧ sN σ 614 = 1212 ∧ sN σ 615 = 363 ∧ sN σ 616 = 4356 ∧ sN σ 617 = 400 ∧ sN σ 618 = 5 ∧ sN σ 619 = 400 ∧ sN σ 620 = 8 ∧ sN σ 621 = 8 ∧ sN σ 622 = 192)
theorem ShC.kp {σ σ' : SH} {c : Nat} {P : Nat → Nat → Prop} (h : ShC σ c) (k : Kp P σ σ') : ShC σ' c := by
  unfold ShC at h ⊢
  simp only [k.T, k.N, k.V]
  exact h
theorem ShM.kp {σ σ' : SH} {P : Nat → Nat → Prop} (h : ShM σ) (k : Kp P σ σ') : ShM σ' := by
  unfold ShM at h ⊢
  simp only [k.T, k.N, k.V]
  exact h
section CR
variable {σ : SH} {c : Nat}
theorem cD (hS : ShC σ c) {d : Nat} (hd : d < 8) (k : Nat → SR) : aR σ (.ref (c + 3)) (nI d) k = k (c + 18 + d) := aR_r (by rw [hS.2.1.2.2.2.2.1]; decide) (by rw [hS.2.1.2.2.2.2.2]; exact hd) (by rw [hS.2.1.2.2.2.2.2]; decide) (hS.2.2.2.2.2 d hd).1
theorem cB (hS : ShC σ c) {b : Nat} (hb : b < 5) (k : Nat → SR) : aR σ (.ref (c + 2)) (nI b) k = k (c + 13 + b) := aR_r (by rw [hS.2.1.2.2.1]; decide) (by rw [hS.2.1.2.2.2.1]; exact hb) (by rw [hS.2.1.2.2.2.1]; decide) (hS.2.2.2.2.1 b hb).1
theorem cS (hS : ShC σ c) {s : Nat} (hs : s < 6) (k : Nat → SR) : aR σ (.ref (c + 1)) (nI s) k = k (c + 7 + s) := aR_r (by rw [hS.2.1.1]; decide) (by rw [hS.2.1.2.1]; exact hs) (by rw [hS.2.1.2.1]; decide) (hS.2.2.2.1 s hs).1
end CR
/-! the class's county c holds the numbers W -/
def CW (σ : SH) (c : Nat) (W : WW) : Prop :=
  (sI σ c 4 = W 0 ∧ sI σ c 5 = W 1 ∧ sI σ c 6 = W 2 ∧ sI σ c 7 = W 3 ∧ sI σ c 8 = W 6 ∧ sI σ c 9 = W 7 ∧ sI σ c 10 = W 5 ∧ sI σ c 11 = W 9) ∧
  (∀ s f, s < nS W → f < 7 → sI σ (c + 7 + s) f = sh W s f) ∧ (∀ b f, b < nB W → f < 3 → sI σ (c + 13 + b) f = br W b f) ∧ (∀ d f, d < nD W → f < 7 → sI σ (c + 18 + d) f = de W d f)
/-! the reference's small readers -/
theorem m_195 {σ : SH} (hM : ShM σ) : rn 195 [.ref 611] σ = some (.inl (some (.int (sI σ 612 0))), σ) := by
  rw [r_195, gR_r hM.1.1 hM.1.2.1]
  exact aI_r (j := 0) hM.2.1.1 (by rw [hM.2.2.1]; decide) (by rw [hM.2.2.1]; decide)
theorem m_201 {σ : SH} (hM : ShM σ) : rn 201 [.ref 611] σ = some (.inl (some (.int (sI σ 612 1))), σ) := by
  rw [r_201, gR_r hM.1.1 hM.1.2.1]
  exact aI_r (j := 1) hM.2.1.1 (by rw [hM.2.2.1]; decide) (by rw [hM.2.2.1]; decide)
theorem m_204 {σ : SH} (hM : ShM σ) : rn 204 [.ref 611] σ = some (.inl (some (.int (sI σ 612 2))), σ) := by
  rw [r_204, gR_r hM.1.1 hM.1.2.1]
  exact aI_r (j := 2) hM.2.1.1 (by rw [hM.2.2.1]; decide) (by rw [hM.2.2.1]; decide)
theorem ix_3 (a m s f : Nat) : (nI a + nI m * nI s) + nI f = nI (a + m * s + f) := by rw [pk_mul, nI_add, nI_add]
theorem m_w {σ : SH} (hM : ShM σ) {j : Nat} (hj : j < 2061) {k : Int32 → SR} : aI σ 1 (.ref 612) (nI j) k = k (sI σ 612 j) := aI_r hM.2.1.1 (by rw [hM.2.2.1]; exact hj) (by rw [hM.2.2.1]; decide)
theorem m_221 {σ : SH} (hM : ShM σ) {s f : Nat} (h : 10 + 7 * s + f < 2061) : rn 221 [.ref 611, .int (nI s), .int (OfNat.ofNat f)] σ = some (.inl (some (.int (sh (sI σ 612) s f))), σ) := by
  rw [r_221, gR_r hM.1.1 hM.1.2.1, show (10 + 7 * nI s + OfNat.ofNat f : Int32) = nI (10 + 7 * s + f) from ix_3 10 7 s f, m_w hM h]
  rfl
theorem m_202 {b f : Nat} {σ : SH} : rn 202 [.int (nI b), .int (OfNat.ofNat f)] σ = some (.inl (some (.int (nI (52 + 3 * b + f)))), σ) := by
  rw [r_202, show (52 + 3 * nI b + OfNat.ofNat f : Int32) = nI (52 + 3 * b + f) from ix_3 52 3 b f]
theorem m_205 {d f : Nat} {σ : SH} : rn 205 [.int (nI d), .int (OfNat.ofNat f)] σ = some (.inl (some (.int (nI (67 + 7 * d + f)))), σ) := by
  rw [r_205, show (67 + 7 * nI d + OfNat.ofNat f : Int32) = nI (67 + 7 * d + f) from ix_3 67 7 d f]
theorem m_251 {σ : SH} (hM : ShM σ) {b f : Nat} (h : 52 + 3 * b + f < 2061) : rn 251 [.ref 611, .int (nI b), .int (OfNat.ofNat f)] σ = some (.inl (some (.int (br (sI σ 612) b f))), σ) := by
  rw [r_251, gR_r hM.1.1 hM.1.2.1, m_202, onI_i, m_w hM h]
  rfl
theorem m_257 {σ : SH} (hM : ShM σ) {d f : Nat} (h : 67 + 7 * d + f < 2061) : rn 257 [.ref 611, .int (nI d), .int (OfNat.ofNat f)] σ = some (.inl (some (.int (de (sI σ 612) d f))), σ) := by
  rw [r_257, gR_r hM.1.1 hM.1.2.1, m_205, onI_i, m_w hM h]
  rfl
theorem m_256 {σ : SH} (hM : ShM σ) {d : Nat} (h : d < 8) : rn 256 [.ref 611, .int (nI d)] σ = some (.inl (some (.int (bI (decide (de (sI σ 612) d 4 ≠ -1))))), σ) := by
  rw [r_256, if_pos hM.1.1, m_257 (f := 4) hM (by omega), onI_i]
  by_cases e : de (sI σ 612) d 4 = -1
  · rw [if_pos e, e_256_14]; simp [e, bI]
  · rw [if_neg e, e_256_15]; simp [e, bI]
theorem m_258 {σ : SH} (hM : ShM σ) {d : Nat} (h : d < 8) (x : Int32) : rn 258 [.ref 611, .int (nI d), .int x] σ = some (.inl (some (.int (bI (decide ((de (sI σ 612) d 1).toInt ≤ x.toInt ∧ x.toInt ≤ (de (sI σ 612) d 2).toInt))))), σ) := by
  rw [r_258, if_pos hM.1.1, m_257 (f := 1) hM (by omega), onI_i, if_pos hM.1.1, m_257 (f := 2) hM (by omega), onI_i, m_220, onI_i, if_pos (bI_01 _)]
/-- where a shower lies, in the reference -/
theorem m_234 {σ : SH} (hM : ShM σ) (hW : WF (sI σ 612)) {s a j : Nat} (hs : s < nS (sI σ 612)) (ha : a < 16) (hj : j < 2147483648) : rn 234 [.ref 611, .int (nI s), .int (nI a), .int (nI j)] σ = some (.inl (some (.int (bI (lies (sI σ 612) s a j)))), σ) := by
  have h6 := (WF_nS hW).2
  obtain ⟨w0, w1, w2, w3, w4, w5, w6⟩ := hW.2.1 s hs
  have e0 : (nI j).toInt = j := tnI hj
  have ea : (nI a).toInt = a := tnI (by omega)
  rw [r_234, if_pos hM.1.1, m_221 (f := 2) hM (by omega), onI_i, if_pos hM.1.1, m_221 (f := 3) hM (by omega), onI_i, m_220, onI_i, iB, e0]
  unfold lies liF
  by_cases c : (sh (sI σ 612) s 2).toInt ≤ j ∧ (j : Int) ≤ (sh (sI σ 612) s 3).toInt
  · rw [if_neg (by rw [decide_eq_true c]; decide), e_234_21, if_pos hM.1.1, m_221 (f := 4) hM (by omega), onI_i, if_pos hM.1.1, m_221 (f := 2) hM (by omega), onI_i, if_pos hM.1.1, m_221 (f := 0) hM (by omega), onI_i, if_pos hM.1.1, m_221 (f := 1) hM (by omega), onI_i, m_220, onI_i, if_pos (bI_01 _)]
    have w3' := w3
    unfold btw at w3'
    obtain ⟨m1, m2, m3⟩ := mv_num (j := j) w4 w2 c.1 (by omega)
    have e : (nI a - sh (sI σ 612) s 4 * ((nI j - sh (sI σ 612) s 2) / 4)).toInt = (a : Int) - (sh (sI σ 612) s 4).toInt * (((j : Int) - (sh (sI σ 612) s 2).toInt) / 4) := by rw [tS] <;> rw [m1, ea] <;> omega
    rw [e]
    refine congrArg (fun z => some (Sum.inl (some (Value.int (bI z))), σ)) ?_
    by_cases z : (sh (sI σ 612) s 0).toInt ≤ (a : Int) - (sh (sI σ 612) s 4).toInt * (((j : Int) - (sh (sI σ 612) s 2).toInt) / 4) ∧ (a : Int) - (sh (sI σ 612) s 4).toInt * (((j : Int) - (sh (sI σ 612) s 2).toInt) / 4) ≤ (sh (sI σ 612) s 1).toInt
    · rw [decide_eq_true z, decide_eq_true ⟨c.1, c.2, z.1, z.2⟩]
    · rw [decide_eq_false z, decide_eq_false fun q => z q.2.2]
  · rw [if_pos (decide_eq_false c), decide_eq_false fun q => c ⟨q.1, q.2.1⟩]
    rfl
/-! showers that wet an acre -/
def wetp (W : WW) (a j : Nat) : Nat → Bool := fun s => decide (sh W s 6 ≠ 2) && lies W s a j
def wetB (W : WW) (a j : Nat) : Int32 := bs (wetp W a j) (nS W)
theorem m_233 {σ : SH} (hM : ShM σ) (hW : WF (sI σ 612)) {a j : Nat} (ha : a < 16) (hj : j < 2147483648) : rn 233 [.ref 611, .int (nI a), .int (nI j)] σ = some (.inl (some (.int (wetB (sI σ 612) a j))), σ) := by
  obtain ⟨n1, n2⟩ := WF_nS hW
  rw [r_233]
  refine lp0 (F := fun s b => exec PP 3 233 5 [some (.ref 611), some (.int (nI a)), some (.int (nI j)), some (.int b), some (.int (nI s))] [] σ) (g := bsg (wetp (sI σ 612) a j)) (K := fun b => some (.inl (some (.int b)), σ)) (n := nS (sI σ 612)) ?_ ?_ (nS (sI σ 612)) 0 0 (by omega)
  · intro s b hs
    try dsimp only
    rw [e_233_5, if_pos hM.1.1, m_195 hM, onI_i, n1, if_pos (nI_lt hs (by omega)), if_pos hM.1.1, m_221 (f := 6) hM (by omega), onI_i]
    unfold bsg wetp
    by_cases c : sh (sI σ 612) s 6 = 2
    · rw [if_pos c, e_233_45, if_neg (by simp [c]), nI_1]
      rw [show b ||| 0 = b from Int32.or_zero]
    · rw [if_neg c, if_pos hM.1.1, m_234 hM hW hs ha hj, onI_i, iB]
      cases hl : lies (sI σ 612) s a j
      · rw [if_pos rfl, e_233_45, if_neg (by simp), nI_1, show b ||| 0 = b from Int32.or_zero]
      · rw [if_neg (by decide), e_233_46, if_pos (by simp [c]), nI_1]
  · intro b
    try dsimp only
    rw [e_233_5, if_pos hM.1.1, m_195 hM, onI_i, n1, if_neg (nI_nlt (Nat.le_refl _) (by omega)), e_233_54]
theorem m_11 {σ : SH} {c : Nat} {W : WW} (hS : ShC σ c) (hC : CW σ c W) (hW : WF W) {a j : Nat} (ha : a < 16) (hj : j < 2147483648) : rn 11 [.ref c, .int (nI a), .int (nI j)] σ = some (.inl (some (.int (wetB W a j))), σ) := by
  obtain ⟨n1, n2⟩ := WF_nS hW
  rw [r_11]
  refine lp0 (F := fun s b => exec PP 2 11 5 [some (.ref c), some (.int (nI a)), some (.int (nI j)), some (.int b), some (.int (nI s))] [] σ) (g := bsg (wetp W a j)) (K := fun b => some (.inl (some (.int b)), σ)) (n := nS W) ?_ ?_ (nS W) 0 0 (by omega)
  · intro s b hs
    try dsimp only
    obtain ⟨w0, w1, w2, w3, w4, w5, w6⟩ := hW.2.1 s hs
    have ht := (hS.2.2.2.1 s (by omega)).2
    have hf := fun f hf => hC.2.1 s f hs hf
    rw [e_11_5, gI_r hS.1.1, hC.1.1, n1, if_pos (nI_lt hs (by omega)), gR_r hS.1.1 hS.1.2.1, cS hS (by omega), gI_r ht, hf 6 (by omega)]
    unfold bsg wetp
    by_cases q : sh W s 6 = 2
    · rw [if_pos q, e_11_53, if_neg (by simp [q]), nI_1]
    · rw [if_neg q, gR_r hS.1.1 hS.1.2.1, cS hS (by omega), if_pos ht, m_95 ht (by rw [hf 0 (by omega)]; exact w0) (by rw [hf 1 (by omega)]; exact w1) (by rw [hf 2 (by omega)]; exact w2) (by rw [hf 3 (by omega)]; exact w3) (by rw [hf 4 (by omega)]; exact w4) hj, onI_i, m_128 _ (by omega), onI_i, iB, b_bs _ (by omega) (by omega), decide_eq_true ha, Bool.true_and, hf 0 (by omega), hf 1 (by omega), hf 2 (by omega), hf 3 (by omega), hf 4 (by omega)]
      show (if lies W s a j = false then _ else _) = _
      cases hl : lies W s a j
      · rw [if_pos rfl, e_11_53, if_neg (by simp), nI_1]
      · rw [if_neg (by decide), if_pos (by simp [q]), nI_1]
  · intro b
    try dsimp only
    rw [e_11_5, gI_r hS.1.1, hC.1.1, n1, if_neg (nI_nlt (Nat.le_refl _) (by omega)), e_11_59]
/-! the arch -/
def arN (W : WW) (a j : Nat) : Option Nat := match ftN a j with
  | none => none
  | some f => if wetB W f j = 0 then none else some f
theorem arN_lt {W : WW} {a j f : Nat} (ha : a < 16) (h : arN W a j = some f) : f < 16 := by
  unfold arN at h
  split at h
  · cases h
  · rename_i g hg
    split at h
    · cases h
    · cases h; exact ftN_lt ha hg
theorem m_20 {σ : SH} {c : Nat} {W : WW} (hS : ShC σ c) (hC : CW σ c W) (hW : WF W) {a j : Nat} (ha : a < 16) (hj : j < 2147483648) : rn 20 [.ref c, .int (nI a), .int (nI j)] σ = some (.inl (some (.int (oI (arN W a j)))), σ) := by
  rw [r_20, m_145 ha hj, onI_i]
  unfold arN
  cases h : ftN a j with
  | none => rw [if_pos (show oI none = -1 from rfl), e_20_20, e_20_25]; rfl
  | some f =>
    have hf := ftN_lt ha h
    rw [if_neg (show ¬ oI (some f) = -1 from nI_neg (by omega)), if_pos hS.1.1, show oI (some f) = nI f from rfl, m_11 hS hC hW hf hj, onI_i]
    by_cases z : wetB W f j = 0
    · rw [if_pos z, e_20_25]; simp [z, oI]
    · rw [if_neg z, e_20_24]; simp [z, oI]
theorem m_232 {σ : SH} (hM : ShM σ) (hW : WF (sI σ 612)) {a j : Nat} (ha : a < 16) (hj : j < 2147483648) : rn 232 [.ref 611, .int (nI a), .int (nI j)] σ = some (.inl (some (.int (bI (arN (sI σ 612) a j).isSome))), σ) := by
  rw [r_232, m_230 ha hj, onI_i]
  unfold arN
  cases h : ftN a j with
  | none => rw [if_pos (show oI none = -1 from rfl), e_232_24]; rfl
  | some f =>
    have hf := ftN_lt ha h
    rw [if_neg (show ¬ oI (some f) = -1 from nI_neg (by omega)), if_pos hM.1.1, show oI (some f) = nI f from rfl, m_233 hM hW hf hj, onI_i]
    by_cases z : wetB (sI σ 612) f j = 0
    · rw [if_pos z, e_232_24]; simp [z, bI]
    · rw [if_neg z, e_232_25]; simp [z, bI]
/-- stands on an acre, in the reference -/
theorem m_237 {σ : SH} (hM : ShM σ) (hW : WF (sI σ 612)) {g a j : Nat} (hg : g < 16) (ha : a < 16) (hj : j < 2147483648) : rn 237 [.ref 611, .int (nI g), .int (nI a), .int (nI j)] σ = some (.inl (some (.int (bI (decide (arN (sI σ 612) a j = some g))))), σ) := by
  rw [r_237, m_230 ha hj, onI_i]
  unfold arN
  cases h : ftN a j with
  | none => rw [if_neg (show ¬ oI none = nI g from fun e => nI_neg (by omega) e.symm), e_237_22]; simp [bI]
  | some f =>
    have hf := ftN_lt ha h
    by_cases e : f = g
    · subst e
      rw [if_pos (show oI (some f) = nI f from rfl), if_pos hM.1.1, m_233 hM hW hg hj, onI_i]
      by_cases z : wetB (sI σ 612) f j = 0
      · rw [if_pos z, e_237_22]; simp [z, bI]
      · rw [if_neg z, e_237_23]; simp [z, bI]
    · rw [if_neg (show ¬ oI (some f) = nI g from fun q => e ((nI_eq (by omega) (by omega)).mp q)), e_237_22]
      by_cases z : wetB (sI σ 612) f j = 0
      · simp [z, bI]
      · simp [z, bI, e]
