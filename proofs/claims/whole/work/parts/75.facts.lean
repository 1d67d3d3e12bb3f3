/-! facts of an acre, a minute, a broker -/
def bc (x0 : Int32) : Int32 := ((((((((x0 - ((ush x0 1) &&& 1431655765)) &&& 858993459) + ((ush (x0 - ((ush x0 1) &&& 1431655765)) 2) &&& 858993459)) + (ush (((x0 - ((ush x0 1) &&& 1431655765)) &&& 858993459) + ((ush (x0 - ((ush x0 1) &&& 1431655765)) 2) &&& 858993459)) 4)) &&& 252645135) + (ush (((((x0 - ((ush x0 1) &&& 1431655765)) &&& 858993459) + ((ush (x0 - ((ush x0 1) &&& 1431655765)) 2) &&& 858993459)) + (ush (((x0 - ((ush x0 1) &&& 1431655765)) &&& 858993459) + ((ush (x0 - ((ush x0 1) &&& 1431655765)) 2) &&& 858993459)) 4)) &&& 252645135) 8)) + (ush ((((((x0 - ((ush x0 1) &&& 1431655765)) &&& 858993459) + ((ush (x0 - ((ush x0 1) &&& 1431655765)) 2) &&& 858993459)) + (ush (((x0 - ((ush x0 1) &&& 1431655765)) &&& 858993459) + ((ush (x0 - ((ush x0 1) &&& 1431655765)) 2) &&& 858993459)) 4)) &&& 252645135) + (ush (((((x0 - ((ush x0 1) &&& 1431655765)) &&& 858993459) + ((ush (x0 - ((ush x0 1) &&& 1431655765)) 2) &&& 858993459)) + (ush (((x0 - ((ush x0 1) &&& 1431655765)) &&& 858993459) + ((ush (x0 - ((ush x0 1) &&& 1431655765)) 2) &&& 858993459)) 4)) &&& 252645135) 8)) 16)) &&& 63)
theorem m_325 (x : Int32) (σ : SH) : rn 325 [.int x] σ = some (.inl (some (.int (bc x))), σ) := r_325 x σ
theorem bc_0 : ∀ n, n < 64 → ((0 : Int32) < bc (nI n) ↔ nI n ≠ 0) := by decide +kernel
def own1 (W : WW) (a j d : Nat) : Bool := decide (de W d 4 ≠ -1) && (decide (de W d 0 = nI a) && decide ((de W d 1).toInt ≤ j ∧ (j : Int) ≤ (de W d 2).toInt))
def ownB (W : WW) (a j : Nat) : Bool := (fi (own1 W a j) 0 (nD W)).isSome
def FC (W : WW) (a j w : Nat) (k : Nat) : Int32 := if k = 0 then nI a else if k = 1 then nI (sunN j) else if k = 2 then nI ((reN j).getD 0) else if k = 3 then nI (j % 96) else if k = 4 then bc (wetB W a j) else if k = 5 then nI w else if k = 6 then bI (decide (wetB W a j ≠ 0)) else bI (ownB W a j)
theorem FC_01 (W : WW) (a j w : Nat) : (FC W a j w 6 = 0 ∨ FC W a j w 6 = 1) ∧ (FC W a j w 7 = 0 ∨ FC W a j w 7 = 1) := ⟨bI_01 _, bI_01 _⟩
theorem bs_lt {p : Nat → Bool} {n : Nat} (hn : n ≤ 6) : ∃ m, m < 64 ∧ bs p n = nI m := by
  have key : bs p n &&& 63 = bs p n := b_ext fun i hi => by
    rw [b_and, b_bs p (by omega) hi]
    have h63 : ∀ i, i < 32 → bt 63 i = decide (i < 6) := by decide +kernel
    rw [h63 i hi]
    by_cases h : i < n
    · simp [h, (by omega : i < 6)]
    · simp [h]
  obtain ⟨j, hj, e⟩ := pk_andE (bs p n) (m := 63) 6 (by decide)
  exact ⟨j, hj, key.symm.trans e⟩
theorem wet_bc {W : WW} (hW : WF W) (a j : Nat) : ((0 : Int32) < bc (wetB W a j)) ↔ wetB W a j ≠ 0 := by
  obtain ⟨m, hm, e⟩ := bs_lt (p := wetp W a j) (n := nS W) (WF_nS hW).2
  unfold wetB
  rw [e]
  exact bc_0 m hm
theorem fo_any (p : Nat → Bool) : ∀ (k i : Nat) (b : Bool), fo (fun d b => b || p d) i k b = (b || (fi p i k).isSome)
  | 0, _, b => by simp [fo, fi]
  | k + 1, i, b => by
    show fo (fun d b => b || p d) (i + 1) k (b || p i) = _
    rw [fo_any p k (i + 1), show fi p i (k + 1) = if p i = true then some i else fi p (i + 1) k from rfl]
    cases p i <;> simp
/-- owned, in the class -/
theorem m_23 {σ : SH} {q : Nat} (hT : sT σ q = 102) (x : Int32) : rn 23 [.ref q, .int x] σ = some (.inl (some (.int (bI (decide ((sI σ q 1).toInt ≤ x.toInt ∧ x.toInt ≤ (sI σ q 2).toInt))))), σ) := by
  rw [r_23, gI_r hT, gI_r hT]
  simp only [e_23_20, e_23_21, tlt]
  by_cases h1 : x.toInt < (sI σ q 1).toInt
  · rw [if_pos h1, decide_eq_false (by omega)]; rfl
  · rw [if_neg h1]
    by_cases h2 : (sI σ q 2).toInt < x.toInt
    · rw [if_pos h2, decide_eq_false (by omega)]; rfl
    · rw [if_neg h2, decide_eq_true (by omega)]; simp [bI]
theorem m_12 {σ : SH} {c : Nat} {W : WW} (hS : ShC σ c) (hC : CW σ c W) (hW : WF W) {a j : Nat} (hj : j < 2147483648) : rn 12 [.ref c, .int (nI a), .int (nI j)] σ = some (.inl (some (.int (bI (ownB W a j)))), σ) := by
  obtain ⟨n1, n2⟩ := WF_nD hW
  have e0 : (nI j).toInt = j := tnI hj
  rw [r_12]
  have key := lpE (F := fun d => exec PP 2 12 2 [some (.ref c), some (.int (nI a)), some (.int (nI j)), some (.int (nI d))] [] σ) (p := own1 W a j) (R := fun _ => some (.inl (some (.int 1)), σ)) (K := some (.inl (some (.int 0)), σ)) (n := nD W) ?_ ?_ (nD W) 0 (by omega)
  · refine key.trans ?_
    unfold ownB
    cases fi (own1 W a j) 0 (nD W) <;> rfl
  · intro d hd
    try dsimp only
    have ht := (hS.2.2.2.2.2 d (by omega)).2
    have hf := fun f hf => hC.2.2.2 d f hd hf
    have ar : ∀ k : Nat → SR, aR σ (.ref (c + 3)) (nI d) k = k (c + 18 + d) := fun k => cD hS (by omega) k
    rw [e_12_2, gI_r hS.1.1, hC.1.2.2.1, n1, if_pos (nI_lt hd (by omega)), gR_r hS.1.1 hS.1.2.2.2.1, ar, gI_r ht, hf 4 (by omega)]
    unfold own1
    by_cases q1 : de W d 4 = -1
    · rw [if_pos q1, e_12_51, nI_1]; simp [q1]
    · rw [if_neg q1, gR_r hS.1.1 hS.1.2.2.2.1, ar, gI_r ht, hf 0 (by omega)]
      by_cases q2 : de W d 0 = nI a
      · rw [if_pos q2, gR_r hS.1.1 hS.1.2.2.2.1, ar, if_pos ht, m_23 ht, onI_i, iB, e0, hf 1 (by omega), hf 2 (by omega)]
        cases hq : decide ((de W d 1).toInt ≤ j ∧ (j : Int) ≤ (de W d 2).toInt)
        · rw [if_pos rfl, e_12_51, nI_1]; simp
        · rw [if_neg (by decide)]; simp [q1, q2]
      · rw [if_neg q2, e_12_51, nI_1]; simp [q2]
  · try dsimp only
    rw [e_12_2, gI_r hS.1.1, hC.1.2.2.1, n1, if_neg (nI_nlt (Nat.le_refl _) (by omega)), e_12_57]
/-- owned, in the reference -/
theorem m_255 {σ : SH} (hM : ShM σ) (hW : WF (sI σ 612)) {a j : Nat} (ha : sI σ 611 18 = nI a) (hj : sI σ 611 19 = nI j) (hj2 : j < 2147483648) : rn 255 [.ref 611] σ = some (.inl (some (.int (bI (ownB (sI σ 612) a j)))), σ) := by
  obtain ⟨n1, n2⟩ := WF_nD hW
  have e0 : (nI j).toInt = j := tnI hj2
  rw [r_255]
  have key := lp0 (F := fun d (b : Bool) => exec PP 4 255 4 [some (.ref 611), some (.int (bI b)), some (.int (nI d))] [] σ) (g := fun d b => b || own1 (sI σ 612) a j d) (K := fun b => some (.inl (some (.int (bI b))), σ)) (n := nD (sI σ 612)) ?_ ?_ (nD (sI σ 612)) 0 false (by omega)
  · refine key.trans ?_
    rw [fo_any]
    unfold ownB
    simp
  · intro d b hd
    try dsimp only
    rw [e_255_4, if_pos hM.1.1, m_204 hM, onI_i, n1, if_pos (nI_lt hd (by omega)), iB]
    cases b
    · rw [if_pos rfl, if_pos hM.1.1, m_256 hM (by omega), onI_i, iB]
      unfold own1
      by_cases q1 : de (sI σ 612) d 4 = -1
      · rw [if_pos (by simp [q1]), e_255_53, nI_1]; simp [q1, bI]
      · rw [if_neg (by simp [q1]), if_pos hM.1.1, m_257 (f := 0) hM (by omega), onI_i, gI_r hM.1.1, ha]
        by_cases q2 : de (sI σ 612) d 0 = nI a
        · rw [if_pos q2, gI_r hM.1.1, hj, if_pos hM.1.1, m_258 hM (by omega), onI_i, iB, e0]
          cases hq : decide ((de (sI σ 612) d 1).toInt ≤ j ∧ (j : Int) ≤ (de (sI σ 612) d 2).toInt)
          · rw [if_pos rfl, e_255_53, nI_1]; simp [bI]
          · rw [if_neg (by decide), e_255_54, nI_1]; simp [q1, q2, bI]
        · rw [if_neg q2, e_255_53, nI_1]; simp [q2, bI]
    · rw [if_neg (by decide), e_255_49, e_255_54, nI_1]; simp [bI]
  · intro b
    try dsimp only
    rw [e_255_4, if_pos hM.1.1, m_204 hM, onI_i, n1, if_neg (nI_nlt (Nat.le_refl _) (by omega)), e_255_61, if_pos (bI_01 b)]
theorem m_327 (x y : Int32) (σ : SH) : rn 327 [.int x, .int y] σ = some (.inl (some (.int (if (x < y : Prop) then y else x))), σ) := by
  have e9 : ∀ (o : Option Value) (x : Int32), exec PP 1 327 9 [o, some (.int x)] [] σ = some (.inl (some (.int x)), σ) := fun o x => (exec_eq PP 1 327 9 _ _ σ).trans rfl
  have e10 : ∀ (o o2 : Option Value) (w : Int32), exec PP 1 327 10 [o, o2] [.int w] σ = some (.inl (some (.int w)), σ) := fun o o2 w => (exec_eq PP 1 327 10 _ _ σ).trans rfl
  have e0 : rn 327 [.int x, .int y] σ = if (x < y : Prop) then (exec PP 1 327 9 [some (.int x), some (.int y)] [] σ) else (exec PP 1 327 10 [some (.int x), some (.int y)] [.int x] σ) := (exec_eq PP 1 327 0 _ _ σ).trans rfl
  rw [e0, e9, e10]
  split <;> rfl
theorem m_328 (x y : Int32) (σ : SH) : rn 328 [.int x, .int y] σ = some (.inl (some (.int (if (y < x : Prop) then y else x))), σ) := by
  have e9 : ∀ (o : Option Value) (x : Int32), exec PP 1 328 9 [o, some (.int x)] [] σ = some (.inl (some (.int x)), σ) := fun o x => (exec_eq PP 1 328 9 _ _ σ).trans rfl
  have e10 : ∀ (o o2 : Option Value) (w : Int32), exec PP 1 328 10 [o, o2] [.int w] σ = some (.inl (some (.int w)), σ) := fun o o2 w => (exec_eq PP 1 328 10 _ _ σ).trans rfl
  have e0 : rn 328 [.int x, .int y] σ = if (y < x : Prop) then (exec PP 1 328 9 [some (.int x), some (.int y)] [] σ) else (exec PP 1 328 10 [some (.int x), some (.int y)] [.int x] σ) := (exec_eq PP 1 328 0 _ _ σ).trans rfl
  rw [e0, e9, e10]
  split <;> rfl
theorem m_326 (x : Int32) (σ : SH) : rn 326 [.int x] σ = some (.inl (some (.int (if (x < 0 : Prop) then -x else x))), σ) := by
  have e9 : exec PP 1 326 9 [some (.int x)] [] σ = some (.inl (some (.int x)), σ) := (exec_eq PP 1 326 9 _ _ σ).trans rfl
  have e10 : ∀ (o : Option Value) (w : Int32), exec PP 1 326 10 [o] [.int w] σ = some (.inl (some (.int w)), σ) := fun o w => (exec_eq PP 1 326 10 _ _ σ).trans rfl
  have e0 : rn 326 [.int x] σ = if (x < 0 : Prop) then (exec PP 1 326 10 [some (.int x)] [.int (-x)] σ) else (exec PP 1 326 9 [some (.int x)] [] σ) := (exec_eq PP 1 326 0 _ _ σ).trans rfl
  rw [e0, e9, e10]
  split <;> rfl
/-- a fact, in the reference -/
theorem m_254 {σ : SH} (hM : ShM σ) (hW : WF (sI σ 612)) {a j w c : Nat} (ha : sI σ 611 18 = nI a) (hj : sI σ 611 19 = nI j) (hw : sI σ 611 20 = nI w) (ha2 : a < 16) (hj2 : j < 2147483648) (hw2 : w < 5) (hc : c ≤ 8) (n : Int32) : rn 254 [.ref 611, .int (nI c), .int n] σ = some (.inl (some (.int (if c < 8 then FC (sI σ 612) a j w c else n))), σ) := by
  rw [r_254]
  rcases (by omega : c = 0 ∨ c = 1 ∨ c = 2 ∨ c = 3 ∨ c = 4 ∨ c = 5 ∨ c = 6 ∨ c = 7 ∨ c = 8) with e | e | e | e | e | e | e | e | e <;> subst e
  · rw [if_pos (by decide), e_254_48, gI_r hM.1.1, ha]; rfl
  · rw [if_neg (by decide), if_pos (by decide), e_254_53, gI_r hM.1.1, hj, m_224 hj2, onI_i]; rfl
  · rw [if_neg (by decide), if_neg (by decide), if_pos (by decide), e_254_61, gI_r hM.1.1, hj, m_226 hj2, onI_i, m_327, onI_i]
    refine congrArg (fun z => some (Sum.inl (some (Value.int z)), σ)) ?_
    show (if (0 < oI (reN j) : Prop) then oI (reN j) else 0) = nI ((reN j).getD 0)
    cases hr : reN j with
    | none => rfl
    | some r =>
      have := reN_le hr
      show (if (nI 0 < nI r : Prop) then nI r else nI 0) = nI r
      by_cases h0 : r = 0
      · subst h0; rfl
      · rw [if_pos (nI_lt (by omega) (by omega))]
  · rw [if_neg (by decide), if_neg (by decide), if_neg (by decide), if_pos (by decide), e_254_73, gI_r hM.1.1, hj, irm_nI hj2]; rfl
  · rw [if_neg (by decide), if_neg (by decide), if_neg (by decide), if_neg (by decide), if_pos (by decide), e_254_81, gI_r hM.1.1, gI_r hM.1.1, ha, hj, if_pos hM.1.1, m_233 hM hW ha2 hj2, onI_i, m_325, onI_i]; rfl
  · rw [if_neg (by decide), if_neg (by decide), if_neg (by decide), if_neg (by decide), if_neg (by decide), if_pos (by decide), e_254_97, gI_r hM.1.1, hw, if_neg (nI_neg (by omega)), e_254_110, gI_r hM.1.1, hw]; rfl
  · rw [if_neg (by decide), if_neg (by decide), if_neg (by decide), if_neg (by decide), if_neg (by decide), if_neg (by decide), if_pos (by decide), e_254_115, gI_r hM.1.1, gI_r hM.1.1, ha, hj, if_pos hM.1.1, m_233 hM hW ha2 hj2, onI_i]
    show _ = (some (.inl (some (.int (bI (decide (wetB (sI σ 612) a j ≠ 0))))), σ) : SR)
    by_cases z : wetB (sI σ 612) a j = 0
    · rw [if_pos z, e_254_134]; simp [z, bI]
    · rw [if_neg z, e_254_135]; simp [z, bI]
  · rw [if_neg (by decide), if_neg (by decide), if_neg (by decide), if_neg (by decide), if_neg (by decide), if_neg (by decide), if_neg (by decide), if_pos (by decide), e_254_136, if_pos hM.1.1, m_255 hM hW ha hj hj2, onI_i, iB]
    show _ = (some (.inl (some (.int (bI (ownB (sI σ 612) a j)))), σ) : SR)
    cases ownB (sI σ 612) a j
    · rw [if_pos rfl, e_254_147]; rfl
    · rw [if_neg (by decide), e_254_148]; rfl
  · rw [if_neg (by decide), if_neg (by decide), if_neg (by decide), if_neg (by decide), if_neg (by decide), if_neg (by decide), if_neg (by decide), if_neg (by decide), e_254_149]; rfl
