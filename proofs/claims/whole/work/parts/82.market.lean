/-! purses, worth, owners -/
def puN (W : WW) : Int32 := fo (fun b s => s + br W b 0) 0 (nB W) 0
def wrN (W : WW) (b : Nat) : Int32 := fo (fun d s => if de W d 4 = nI b then s + de W d 3 else s) 0 (nD W) (br W b 0)
def owS (W : WW) : Int32 := bs (fun d => decide (de W d 4 ≠ -1)) (nD W)
def doS (W : WW) (b : Nat) : Int32 := bs (fun d => decide (de W d 4 = nI b)) (nD W)
theorem or_0 (x : Int32) : x ||| 0 = x := Int32.or_zero
theorem m_7 {σ : SH} {c : Nat} {W : WW} (hS : ShC σ c) (hC : CW σ c W) (hW : WF W) : rn 7 [.ref c] σ = some (.inl (some (.int (puN W))), σ) := by
  obtain ⟨n1, n2⟩ := WF_nB hW
  rw [r_7]
  refine lp0 (F := fun b s => exec PP 1 7 4 [some (.ref c), some (.int s), some (.int (nI b))] [] σ) (g := fun b s => s + br W b 0) (K := fun s => some (.inl (some (.int s)), σ)) (n := nB W) ?_ ?_ (nB W) 0 0 (by omega)
  · intro b s hb
    try dsimp only
    rw [e_7_4, gI_r hS.1.1, hC.1.2.1, n1, if_pos (nI_lt hb (by omega)), gR_r hS.1.1 hS.1.2.2.1, cB hS (by omega), gI_r (hS.2.2.2.2.1 b (by omega)).2, hC.2.2.1 b 0 hb (by omega), nI_1]
  · intro s
    try dsimp only
    rw [e_7_4, gI_r hS.1.1, hC.1.2.1, n1, if_neg (nI_nlt (Nat.le_refl _) (by omega)), e_7_30]
section QD
variable {σ : SH} {W L : WW}
theorem m_310 (h : QQ σ W L) : rn 310 [.ref 611] σ = some (.inl (some (.int (puN W))), σ) := by
  have h5 := (WF_nB h.w).2
  rw [r_310]
  refine lp0 (F := fun b s => exec PP 3 310 4 [some (.ref 611), some (.int s), some (.int (nI b))] [] σ) (g := fun b s => s + br W b 0) (K := fun s => some (.inl (some (.int s)), σ)) (n := nB W) ?_ ?_ (nB W) 0 0 (by omega)
  · intro b s hb
    try dsimp only
    rw [e_310_4, if_pos h.tM, q201 h, onI_i, if_pos (nI_lt hb (by omega)), if_pos h.tM, q251 (f := 0) h (by omega), onI_i, nI_1]
  · intro s
    try dsimp only
    rw [e_310_4, if_pos h.tM, q201 h, onI_i, if_neg (nI_nlt (Nat.le_refl _) (by omega)), e_310_27]
theorem m_5 (h : QQ σ W L) {b : Nat} (hb : b < nB W) : rn 5 [.ref 211, .int (nI b)] σ = some (.inl (some (.int (wrN W b))), σ) := by
  have h8 := (WF_nD h.w).2
  rw [r_5, cs1 h, cB' h hb, gB h hb (by omega)]
  refine lp0 (F := fun d s => exec PP 1 5 12 [some (.ref 211), some (.int (nI b)), some (.int s), some (.int (nI d))] [] σ) (g := fun d s => if de W d 4 = nI b then s + de W d 3 else s) (K := fun s => some (.inl (some (.int s)), σ)) (n := nD W) ?_ ?_ (nD W) 0 _ (by omega)
  · intro d s hd
    try dsimp only
    rw [e_5_12, c6 h, if_pos (nI_lt hd (by omega)), cs2 h, cD' h hd, gD h hd (by omega)]
    by_cases c : de W d 4 = nI b
    · rw [if_pos c, cs2 h, cD' h hd, gD h hd (by omega), if_pos c, nI_1]
    · rw [if_neg c, e_5_45, if_neg c, nI_1]
  · intro s
    try dsimp only
    rw [e_5_12, c6 h, if_neg (nI_nlt (Nat.le_refl _) (by omega)), e_5_51]
theorem m_260 (h : QQ σ W L) {b : Nat} (hb : b < nB W) : rn 260 [.ref 611, .int (nI b)] σ = some (.inl (some (.int (wrN W b))), σ) := by
  have h8 := (WF_nD h.w).2
  have h5 := (WF_nB h.w).2
  rw [r_260, if_pos h.tM, q251 (f := 0) h (by omega), onI_i]
  refine lp0 (F := fun d s => exec PP 3 260 9 [some (.ref 611), some (.int (nI b)), some (.int s), some (.int (nI d))] [] σ) (g := fun d s => if de W d 4 = nI b then s + de W d 3 else s) (K := fun s => some (.inl (some (.int s)), σ)) (n := nD W) ?_ ?_ (nD W) 0 _ (by omega)
  · intro d s hd
    try dsimp only
    rw [e_260_9, if_pos h.tM, q204 h, onI_i, if_pos (nI_lt hd (by omega)), if_pos h.tM, q257 (f := 4) h (by omega), onI_i]
    by_cases c : de W d 4 = nI b
    · rw [if_pos c, if_pos h.tM, q257 (f := 3) h (by omega), onI_i, e_260_38, if_pos c, nI_1]
    · rw [if_neg c, e_260_37, if_neg c, nI_1, Int32.add_zero]
  · intro s
    try dsimp only
    rw [e_260_9, if_pos h.tM, q204 h, onI_i, if_neg (nI_nlt (Nat.le_refl _) (by omega)), e_260_46]
theorem m_8 (h : QQ σ W L) : rn 8 [.ref 211] σ = some (.inl (some (.int (owS W))), σ) := by
  have h8 := (WF_nD h.w).2
  rw [r_8]
  refine lp0 (F := fun d b => exec PP 1 8 4 [some (.ref 211), some (.int b), some (.int (nI d))] [] σ) (g := bsg (fun d => decide (de W d 4 ≠ -1))) (K := fun s => some (.inl (some (.int s)), σ)) (n := nD W) ?_ ?_ (nD W) 0 0 (by omega)
  · intro d b hd
    try dsimp only
    rw [e_8_4, c6 h, if_pos (nI_lt hd (by omega)), cs2 h, cD' h hd, gD h hd (by omega)]
    unfold bsg
    by_cases c : de W d 4 = -1
    · rw [if_pos c, e_8_31, if_neg (by simp [c]), nI_1]
    · rw [if_neg c, if_pos (by simp [c]), nI_1]
  · intro s
    try dsimp only
    rw [e_8_4, c6 h, if_neg (nI_nlt (Nat.le_refl _) (by omega)), e_8_37]
theorem m_317 (h : QQ σ W L) : rn 317 [.ref 611] σ = some (.inl (some (.int (owS W))), σ) := by
  have h8 := (WF_nD h.w).2
  rw [r_317]
  refine lp0 (F := fun d b => exec PP 4 317 4 [some (.ref 611), some (.int b), some (.int (nI d))] [] σ) (g := bsg (fun d => decide (de W d 4 ≠ -1))) (K := fun s => some (.inl (some (.int s)), σ)) (n := nD W) ?_ ?_ (nD W) 0 0 (by omega)
  · intro d b hd
    try dsimp only
    rw [e_317_4, if_pos h.tM, q204 h, onI_i, if_pos (nI_lt hd (by omega)), if_pos h.tM, q256 h (by omega), onI_i, iB]
    unfold bsg
    by_cases c : de W d 4 = -1
    · rw [if_pos (by simp [c]), e_317_27, if_neg (by simp [c]), nI_1, or_0]
    · rw [if_neg (by simp [c]), e_317_28, if_pos (by simp [c]), nI_1]
  · intro s
    try dsimp only
    rw [e_317_4, if_pos h.tM, q204 h, onI_i, if_neg (nI_nlt (Nat.le_refl _) (by omega)), e_317_36]
theorem m_13 (h : QQ σ W L) {b : Nat} : rn 13 [.ref 211, .int (nI b)] σ = some (.inl (some (.int (doS W b))), σ) := by
  have h8 := (WF_nD h.w).2
  rw [r_13]
  refine lp0 (F := fun d s => exec PP 1 13 4 [some (.ref 211), some (.int (nI b)), some (.int s), some (.int (nI d))] [] σ) (g := bsg (fun d => decide (de W d 4 = nI b))) (K := fun s => some (.inl (some (.int s)), σ)) (n := nD W) ?_ ?_ (nD W) 0 0 (by omega)
  · intro d s hd
    try dsimp only
    rw [e_13_4, c6 h, if_pos (nI_lt hd (by omega)), cs2 h, cD' h hd, gD h hd (by omega)]
    unfold bsg
    by_cases c : de W d 4 = nI b
    · rw [if_pos c, if_pos (by simp [c]), nI_1]
    · rw [if_neg c, e_13_31, if_neg (by simp [c]), nI_1]
  · intro s
    try dsimp only
    rw [e_13_4, c6 h, if_neg (nI_nlt (Nat.le_refl _) (by omega)), e_13_37]
theorem m_259 (h : QQ σ W L) {b : Nat} : rn 259 [.ref 611, .int (nI b)] σ = some (.inl (some (.int (doS W b))), σ) := by
  have h8 := (WF_nD h.w).2
  rw [r_259]
  refine lp0 (F := fun d s => exec PP 3 259 4 [some (.ref 611), some (.int (nI b)), some (.int s), some (.int (nI d))] [] σ) (g := bsg (fun d => decide (de W d 4 = nI b))) (K := fun s => some (.inl (some (.int s)), σ)) (n := nD W) ?_ ?_ (nD W) 0 0 (by omega)
  · intro d s hd
    try dsimp only
    rw [e_259_4, if_pos h.tM, q204 h, onI_i, if_pos (nI_lt hd (by omega)), if_pos h.tM, q257 (f := 4) h (by omega), onI_i]
    unfold bsg
    by_cases c : de W d 4 = nI b
    · rw [if_pos c, e_259_30, if_pos (by simp [c]), nI_1]
    · rw [if_neg c, e_259_29, if_neg (by simp [c]), nI_1, or_0]
  · intro s
    try dsimp only
    rw [e_259_4, if_pos h.tM, q204 h, onI_i, if_neg (nI_nlt (Nat.le_refl _) (by omega)), e_259_38]
/-! the richest -/
theorem wrN_nn (hW : WF W) {b : Nat} (hb : b < nB W) : 0 ≤ (wrN W b).toInt := by
  have h8 := (WF_nD hW).2
  have hp := (hW.2.2.1 b hb).1
  unfold btw at hp
  have := fo_inv (g := fun d s => if de W d 4 = nI b then s + de W d 3 else s) (I := fun d s => 0 ≤ s.toInt ∧ s.toInt ≤ 9999 + 999 * (d : Int)) (nD W) 0 (br W b 0) (by omega) (fun d s h1 h2 hI => by
    have h3 := (hW.2.2.2 d (by omega)).2.2.2.1
    unfold btw at h3
    try dsimp only
    split
    · rw [tA] <;> omega
    · omega)
  exact this.1
def rig (f : Nat → Int32) : Nat → Option Nat → Option Nat := fun i o => match o with
  | none => some i
  | some b => if f b < f i then some i else some b
def riN (W : WW) : Option Nat := fo (rig (wrN W)) 0 (nB W) none
theorem rig_lt {f : Nat → Int32} {i : Nat} {o : Option Nat} (h : ∀ b, o = some b → b < i) : ∀ b, rig f i o = some b → b < i + 1 := fun b e => by
  unfold rig at e
  split at e
  · cases e; omega
  · rename_i c
    have := h c rfl
    split at e <;> cases e <;> omega
theorem m_57 (h : QQ σ W L) : rn 57 [.ref 292] σ = some (.inl (some (.int (oI (riN W)))), σ) := by
  have h5 := (WF_nB h.w).2
  rw [r_57]
  refine lpI (F := fun i o => exec PP 2 57 6 [some (.ref 292), some (.int (oI o)), some (.int (match o with
    | none => -1
    | some b => wrN W b)), some (.int (nI i)), none] [] σ) (g := rig (wrN W)) (K := fun o => some (.inl (some (.int (oI o))), σ)) (I := fun i o => ∀ b, o = some b → b < i) (n := nB W) ?_ ?_ (nB W) 0 none (by omega) (fun b e => by cases e)
  · intro i o hi ho
    try dsimp only
    refine ⟨?_, rig_lt ho⟩
    have nn := wrN_nn h.w hi
    rw [e_57_6, mk0 h.x, c5 h, if_pos (nI_lt hi (by omega)), mk0 h.x, if_pos h.tC, m_5 h hi, onI_i]
    cases o with
    | none =>
      have e1 : (-1 : Int32).toInt = -1 := by decide
      rw [if_pos (by rw [tlt, e1]; omega), nI_1]; rfl
    | some b =>
      try dsimp only
      unfold rig
      try dsimp only
      by_cases c : wrN W b < wrN W i
      · simp only [if_pos c]; rw [nI_1]; rfl
      · simp only [if_neg c]; rw [e_57_38, nI_1]
  · intro o ho
    try dsimp only
    rw [e_57_6, mk0 h.x, c5 h, if_neg (nI_nlt (Nat.le_refl _) (by omega)), e_57_44]
theorem m_307 (h : QQ σ W L) : rn 307 [.ref 611] σ = some (.inl (some (.int (oI (riN W)))), wI σ 611 0 0) := by
  have h5 := (WF_nB h.w).2
  have h' : QQ (wI σ 611 0 0) W L := h.qs (Kp.qs (Kp.w (by unfold Scr; omega)))
  rw [r_307, pI_r h.tM]
  generalize wI σ 611 0 0 = σ at h' ⊢
  refine lpI (F := fun i o => exec PP 4 307 9 [some (.ref 611), some (.int (oI o)), some (.int (nI i))] [] σ) (g := rig (wrN W)) (K := fun o => some (.inl (some (.int (oI o))), σ)) (I := fun i o => ∀ b, o = some b → b < i) (n := nB W) ?_ ?_ (nB W) 0 none (by omega) (fun b e => by cases e)
  · intro i o hi ho
    try dsimp only
    refine ⟨?_, rig_lt ho⟩
    rw [e_307_9, if_pos h'.tM, q201 h', onI_i, if_pos (nI_lt hi (by omega))]
    cases o with
    | none => rw [if_pos (show oI none < 0 by decide), e_307_34, nI_1]; rfl
    | some b =>
      have hb := ho b rfl
      rw [if_neg (show ¬ oI (some b) < 0 from nI_pos (by omega)), if_pos h'.tM, m_260 h' hi, onI_i, if_pos h'.tM, show oI (some b) = nI b from rfl, m_260 h' (by omega), onI_i]
      unfold rig
      try dsimp only
      by_cases c : wrN W b < wrN W i
      · simp only [if_pos c]; rw [nI_1]; rfl
      · simp only [if_neg c]; rw [e_307_36, nI_1]; rfl
  · intro o ho
    try dsimp only
    rw [e_307_9, if_pos h'.tM, q201 h', onI_i, if_neg (nI_nlt (Nat.le_refl _) (by omega)), e_307_42]
/-! pairs of deeds -/
def cl2 (W : WW) (a b : Nat) : Bool := decide (de W a 0 = de W b 0) && (decide (¬ de W b 2 < de W a 1) && decide (¬ de W a 2 < de W b 1))
def clN (W : WW) : Int32 := fo (fun a s => fo (ctg (cl2 W a)) 0 a s) 0 (nD W) 0
theorem m_59 (h : QQ σ W L) {a b : Nat} (ha : a < nD W) (hb : b < nD W) : rn 59 [.ref (229 + a), .ref (229 + b)] σ = some (.inl (some (.int (bI (cl2 W a b)))), σ) := by
  rw [r_59, gD h ha (by omega), gD h hb (by omega)]
  unfold cl2
  by_cases c1 : de W a 0 = de W b 0
  · rw [if_pos c1, gD h ha (by omega), gD h hb (by omega)]
    by_cases c2 : de W b 2 < de W a 1
    · rw [if_pos c2, e_59_37]; simp [c2, bI]
    · rw [if_neg c2, gD h hb (by omega), gD h ha (by omega)]
      by_cases c3 : de W a 2 < de W b 1
      · rw [if_pos c3, e_59_37]; simp [c3, bI]
      · rw [if_neg c3, e_59_38]; simp [c1, c2, c3, bI]
  · rw [if_neg c1, e_59_37]; simp [c1, bI]
theorem m_58 (h : QQ σ W L) : rn 58 [.ref 292] σ = some (.inl (some (.int (clN W))), σ) := by
  have h8 := (WF_nD h.w).2
  rw [r_58]
  refine lp0 (F := fun a s => exec PP 2 58 4 [some (.ref 292), some (.int s), some (.int (nI a)), none] [] σ) (g := fun a s => fo (ctg (cl2 W a)) 0 a s) (K := fun s => some (.inl (some (.int s)), σ)) (n := nD W) ?_ ?_ (nD W) 0 0 (by omega)
  · intro a s ha
    try dsimp only
    rw [e_58_4, mk0 h.x, c6 h, if_pos (nI_lt ha (by omega))]
    refine lp0 (F := fun b s => exec PP 2 58 17 [some (.ref 292), some (.int s), some (.int (nI a)), some (.int (nI b))] [] σ) (g := ctg (cl2 W a)) (K := fun s => exec PP 2 58 4 [some (.ref 292), some (.int s), some (.int (nI (a + 1))), none] [] σ) (n := a) ?_ ?_ a 0 s (by omega)
    · intro b s hb
      try dsimp only
      rw [e_58_17, if_pos (nI_lt hb (by omega)), mk0 h.x, cs2 h, cD' h ha, mk0 h.x, cs2 h, cD' h (by omega), m_59 h ha (by omega), onI_i, iB]
      unfold ctg
      cases c : cl2 W a b
      · rw [if_pos rfl, e_58_49, if_neg (by decide), nI_1]
      · rw [if_neg (by decide), if_pos rfl, nI_1]
    · intro s
      try dsimp only
      rw [e_58_17, if_neg (nI_nlt (Nat.le_refl _) (by omega)), e_58_55, nI_1]
  · intro s
    try dsimp only
    rw [e_58_4, mk0 h.x, c6 h, if_neg (nI_nlt (Nat.le_refl _) (by omega)), e_58_61]
theorem m_308 (h : QQ σ W L) : rn 308 [.ref 611] σ = some (.inl (some (.int (clN W))), wI σ 611 0 0) := by
  have h8 := (WF_nD h.w).2
  have h' : QQ (wI σ 611 0 0) W L := h.qs (Kp.qs (Kp.w (by unfold Scr; omega)))
  rw [r_308, pI_r h.tM]
  generalize wI σ 611 0 0 = σ at h' ⊢
  refine lp0 (F := fun a s => exec PP 3 308 9 [some (.ref 611), some (.int s), some (.int (nI a)), none] [] σ) (g := fun a s => fo (ctg (cl2 W a)) 0 a s) (K := fun s => some (.inl (some (.int s)), σ)) (n := nD W) ?_ ?_ (nD W) 0 0 (by omega)
  · intro a s ha
    try dsimp only
    rw [e_308_9, if_pos h'.tM, q204 h', onI_i, if_pos (nI_lt ha (by omega))]
    refine lp0 (F := fun b s => exec PP 3 308 19 [some (.ref 611), some (.int s), some (.int (nI a)), some (.int (nI b))] [] σ) (g := ctg (cl2 W a)) (K := fun s => exec PP 3 308 9 [some (.ref 611), some (.int s), some (.int (nI (a + 1))), none] [] σ) (n := a) ?_ ?_ a 0 s (by omega)
    · intro b s hb
      try dsimp only
      rw [e_308_19, if_pos (nI_lt hb (by omega)), if_pos h'.tM, q257 (f := 0) h' (by omega), onI_i, if_pos h'.tM, q257 (f := 0) h' (by omega), onI_i]
      have n0 : cl2 W a b = false → ctg (cl2 W a) b s = s := fun z => if_neg (by rw [z]; decide)
      have n1 : cl2 W a b = true → ctg (cl2 W a) b s = s + 1 := fun z => if_pos z
      by_cases c1 : de W a 0 = de W b 0
      · rw [if_pos c1, if_pos h'.tM, q257 (f := 1) h' (by omega), onI_i, if_pos h'.tM, q257 (f := 2) h' (by omega), onI_i]
        by_cases c2 : de W b 2 < de W a 1
        · rw [if_pos c2, e_308_74, n0 (by simp [cl2, c2]), nI_1, Int32.add_zero]
        · rw [if_neg c2, if_pos h'.tM, q257 (f := 1) h' (by omega), onI_i, if_pos h'.tM, q257 (f := 2) h' (by omega), onI_i]
          by_cases c3 : de W a 2 < de W b 1
          · rw [if_pos c3, e_308_74, n0 (by simp [cl2, c3]), nI_1, Int32.add_zero]
          · rw [if_neg c3, e_308_75, n1 (by simp [cl2, c1, c2, c3]), nI_1]
      · rw [if_neg c1, e_308_74, n0 (by simp [cl2, c1]), nI_1, Int32.add_zero]
    · intro s
      try dsimp only
      rw [e_308_19, if_neg (nI_nlt (Nat.le_refl _) (by omega)), e_308_83, nI_1]
  · intro s
    try dsimp only
    rw [e_308_9, if_pos h'.tM, q204 h', onI_i, if_neg (nI_nlt (Nat.le_refl _) (by omega)), e_308_89]
/-! how long one walks -/
def bA (W : WW) (b : Nat) : Nat := (br W b 1).toInt.toNat
def bP (W : WW) (b : Nat) : Nat := (br W b 2).toInt.toNat
theorem WF_bA {W : WW} (h : WF W) {b : Nat} (hb : b < nB W) : br W b 1 = nI (bA W b) ∧ bA W b < 16 := by
  obtain ⟨a, b⟩ := btw_nI (h.2.2.1 b hb).2.1
  exact ⟨a, by unfold bA; omega⟩
theorem WF_bP {W : WW} (h : WF W) {b : Nat} (hb : b < nB W) : br W b 2 = nI (bP W b) ∧ 1 ≤ bP W b ∧ bP W b ≤ 4 := by
  have := (h.2.2.1 b hb).2.2
  unfold btw at this
  exact ⟨nI_nI (by omega), by unfold bP; omega, by unfold bP; omega⟩
def farN (x y : Nat) : Nat := if x < y then y - x else x - y
def mtN (W : WW) (b a : Nat) : Nat := (farN (bA W b) a + bP W b - 1) / bP W b
theorem farN_lt {x y : Nat} (hx : x < 16) (hy : y < 16) : farN x y < 16 := by unfold farN; split <;> omega
theorem mtN_lt (hW : WF W) {b a : Nat} (hb : b < nB W) (ha : a < 16) : mtN W b a < 16 := by
  obtain ⟨a1, a2⟩ := WF_bA hW hb
  obtain ⟨p1, p2, p3⟩ := WF_bP hW hb
  have := farN_lt a2 ha
  unfold mtN
  rcases (by omega : bP W b = 1 ∨ bP W b = 2 ∨ bP W b = 3 ∨ bP W b = 4) with e | e | e | e <;> rw [e] <;> omega
theorem m_140 {x y : Nat} (hx : x < 16) (hy : y < 16) (σ : SH) : rn 140 [.int (nI x), .int (nI y)] σ = some (.inl (some (.int (nI (farN x y)))), σ) := by
  rw [r_140]
  unfold farN
  by_cases c : x < y
  · rw [if_pos (nI_lt c (by omega)), e_140_14, if_pos c, pk_sub (by omega)]
  · rw [if_neg (nI_nlt (by omega) (by omega)), e_140_11, if_neg c, pk_sub (by omega)]
theorem abs_far {x y : Nat} (hx : x < 16) (hy : y < 16) : (if (nI x - nI y < 0 : Prop) then -(nI x - nI y) else nI x - nI y) = nI (farN x y) := by
  have e1 : (nI x).toInt = x := tnI (by omega)
  have e2 : (nI y).toInt = y := tnI (by omega)
  have e0 : (0 : Int32).toInt = 0 := by decide
  have s : (nI x - nI y).toInt = x - y := by rw [tS] <;> rw [e1, e2] <;> omega
  unfold farN
  by_cases c : x < y
  · rw [if_pos (by rw [tlt, s, e0]; omega), if_pos c, teq, tN (by rw [s]; omega), s, tnI (by omega)]; omega
  · rw [if_neg (by rw [tlt, s, e0]; omega), if_neg c, pk_sub (by omega)]
theorem mt_div {f p : Nat} (hf : f < 16) (hp : 1 ≤ p) (hp4 : p ≤ 4) : (nI f + nI p - 1) / nI p = nI ((f + p - 1) / p) := by
  rw [nI_add, sub_1 (by omega), pk_div (by omega) (by omega) (by omega)]
theorem m_3 (h : QQ σ W L) {b a : Nat} (hb : b < nB W) (ha : a < 16) : rn 3 [.ref (224 + b), .int (nI a)] σ = some (.inl (some (.int (nI (mtN W b a)))), σ) := by
  obtain ⟨a1, a2⟩ := WF_bA h.w hb
  obtain ⟨p1, p2, p3⟩ := WF_bP h.w hb
  have hf := farN_lt a2 ha
  rw [r_3, gB h hb (by omega), a1, m_140 a2 ha, onI_i, gB h hb (by omega), p1, if_neg (nI_nltl (n := 1) p2 (by omega)), e_3_21, gB h hb (by omega), gB h hb (by omega), p1, if_neg (nI_nel (n := 0) (by omega) (by omega) (by decide)), mt_div hf p2 p3]
  rfl
theorem m_296 (h : QQ σ W L) {b a : Nat} (hb : b < nB W) (ha : a < 16) : rn 296 [.ref 611, .int (nI b), .int (nI a)] σ = some (.inl (some (.int (nI (mtN W b a)))), σ) := by
  have h5 := (WF_nB h.w).2
  obtain ⟨a1, a2⟩ := WF_bA h.w hb
  obtain ⟨p1, p2, p3⟩ := WF_bP h.w hb
  have hf := farN_lt a2 ha
  rw [r_296, if_pos h.tM, q251 (f := 1) h (by omega), onI_i, a1, m_326, onI_i, abs_far a2 ha, if_pos h.tM, q251 (f := 2) h (by omega), onI_i, if_pos h.tM, q251 (f := 2) h (by omega), onI_i, p1, if_neg (nI_nel (n := 0) (by omega) (by omega) (by decide)), mt_div hf p2 p3]
  rfl
/-! where two meet -/
def mxN (W : WW) (b c a : Nat) : Nat := if mtN W b a < mtN W c a then mtN W c a else mtN W b a
def meN (W : WW) (b c : Nat) : Nat := fo (fun a x => if mxN W b c a < mxN W b c x then a else x) 1 15 0
theorem mxN_lt (hW : WF W) {b c a : Nat} (hb : b < nB W) (hc : c < nB W) (ha : a < 16) : mxN W b c a < 16 := by
  have := mtN_lt hW hb ha
  have := mtN_lt hW hc ha
  unfold mxN
  split <;> omega
def meg (W : WW) (b c : Nat) : Nat → Nat × Nat → Nat × Nat := fun a s => if mxN W b c a < s.2 then (a, mxN W b c a) else s
theorem fo_one {α : Type} (g : Nat → α → α) (i k : Nat) (a : α) : fo g i (k + 1) a = fo g (i + 1) k (g i a) := rfl
theorem m_64 (h : QQ σ W L) {b c : Nat} (hb : b < nB W) (hc : c < nB W) (a0 : Nat) : rn 64 [.ref a0, .ref (224 + b), .ref (224 + c)] σ = some (.inl (some (.int (nI (meN W b c)))), σ) := by
  rw [r_64]
  have key := lpI (F := fun a (s : Nat × Nat) => exec PP 3 64 9 [(if a = 0 then some (.ref a0) else none), some (.ref (224 + b)), some (.ref (224 + c)), some (.int (nI s.1)), some (.int (nI s.2)), some (.int (nI a)), none, none, none] [] σ) (g := meg W b c) (K := fun s => some (.inl (some (.int (nI s.1))), σ)) (I := fun _ s => s.2 ≤ 16) (n := 16) (by
    intro a s ha hs
    have hm := mxN_lt h.w hb hc ha
    have m1 := mtN_lt h.w hb ha
    have m2 := mtN_lt h.w hc ha
    try dsimp only
    unfold meg
    refine ⟨?_, by split <;> (try dsimp only) <;> omega⟩
    have hn1 : ¬ a + 1 = 0 := by omega
    rw [if_neg hn1, e_64_9, if_pos (nI_ltl ha (by decide)), if_pos (tB' h hb), m_3 h hb ha, onI_i, if_pos (tB' h hc), m_3 h hc ha, onI_i]
    have fin : ∀ (m : Nat) (X : SR), m = mxN W b c a → X = (if nI m < nI s.2 then exec PP 3 64 9 [none, some (.ref (224 + b)), some (.ref (224 + c)), some (.int (nI a)), some (.int (nI m)), some (.int (nI a + 1)), none, none, none] [] σ else exec PP 3 64 62 [none, some (.ref (224 + b)), some (.ref (224 + c)), some (.int (nI s.1)), some (.int (nI s.2)), some (.int (nI a)), none, none, some (.int (nI m))] [] σ) → X = exec PP 3 64 9 [none, some (.ref (224 + b)), some (.ref (224 + c)), some (.int (nI (if mxN W b c a < s.2 then (a, mxN W b c a) else s).1)), some (.int (nI (if mxN W b c a < s.2 then (a, mxN W b c a) else s).2)), some (.int (nI (a + 1))), none, none, none] [] σ := fun m X e eX => by
      subst e
      rw [eX]
      by_cases c1 : mxN W b c a < s.2
      · rw [if_pos (nI_lt c1 (by omega)), if_pos c1, nI_1]
      · rw [if_neg (nI_nlt (by omega) (by omega)), if_neg c1, e_64_62, nI_1]
    by_cases c1 : mtN W c a < mtN W b a
    · rw [if_pos (nI_lt c1 (by omega)), e_64_46]
      exact fin (mtN W b a) _ (by unfold mxN; split <;> omega) rfl
    · rw [if_neg (nI_nlt (by omega) (by omega)), e_64_44]
      exact fin (mtN W c a) _ (by unfold mxN; split <;> omega) rfl) (by
    intro s hs
    try dsimp only
    rw [e_64_9, if_neg (nI_nltl (Nat.le_refl 16) (by decide)), e_64_68]) 16 0 (0, 16) (by omega) (Nat.le_refl 16)
  refine key.trans ?_
  have m0 := mxN_lt h.w hb hc (a := 0) (by omega)
  have st : fo (meg W b c) 0 (15 + 1) (0, 16) = fo (meg W b c) (0 + 1) 15 (meg W b c 0 (0, 16)) := fo_one _ _ _ _
  have s0 : meg W b c 0 (0, 16) = (0, mxN W b c 0) := if_pos m0
  rw [s0] at st
  have R := fo_rel (g := meg W b c) (g' := fun a x => if mxN W b c a < mxN W b c x then a else x) (R := fun s x => s = (x, mxN W b c x)) 15 1 (0, mxN W b c 0) 0 rfl (fun a s x h1 h2 e => by
    subst e
    unfold meg
    try dsimp only
    split <;> rfl)
  have e9 : fo (meg W b c) 0 16 (0, 16) = (meN W b c, mxN W b c (meN W b c)) := st.trans R
  rw [e9]
theorem m_295' (h : QQ σ W L) {b c : Nat} (hb : b < nB W) (hc : c < nB W) (o3 o4 : Option Value) : exec PP 4 295 54 [some (.ref 611), some (.int (nI b)), some (.int (nI c)), o3, o4] [] σ = some (.inl (some (.int (nI (meN W b c)))), σ) := by
  rw [e_295_54]
  refine lpI (F := fun a x => exec PP 4 295 59 [some (.ref 611), some (.int (nI b)), some (.int (nI c)), some (.int (nI x)), some (.int (nI a))] [] σ) (g := fun a x => if mxN W b c a < mxN W b c x then a else x) (K := fun x => some (.inl (some (.int (nI x))), σ)) (I := fun a x => x < a) (n := 16) ?_ ?_ 15 1 0 (by omega) (by omega)
  · intro a x ha hx
    try dsimp only
    refine ⟨?_, by split <;> omega⟩
    have mx : ∀ a, a < 16 → (if (nI (mtN W b a) < nI (mtN W c a) : Prop) then nI (mtN W c a) else nI (mtN W b a)) = nI (mxN W b c a) := fun a ha => by
      have m1 := mtN_lt h.w hb ha
      have m2 := mtN_lt h.w hc ha
      unfold mxN
      by_cases q : mtN W b a < mtN W c a
      · rw [if_pos q, if_pos (nI_lt q (by omega))]
      · rw [if_neg q, if_neg (nI_nlt (by omega) (by omega))]
    have q1 := mxN_lt h.w hb hc ha
    have q2 := mxN_lt h.w hb hc (a := x) (by omega)
    rw [e_295_59, if_pos (nI_ltl ha (by decide)), if_pos h.tM, m_296 h hb ha, onI_i, if_pos h.tM, m_296 h hc ha, onI_i, m_327, onI_i, mx a ha, if_pos h.tM, m_296 h hb (by omega), onI_i, if_pos h.tM, m_296 h hc (by omega), onI_i, m_327, onI_i, mx x (by omega)]
    by_cases q : mxN W b c a < mxN W b c x
    · rw [if_pos (nI_lt q (by omega)), e_295_107, if_pos q, nI_1]
    · rw [if_neg (nI_nlt (by omega) (by omega)), e_295_106, if_neg q, nI_1]
  · intro x hx
    try dsimp only
    rw [e_295_59, if_neg (nI_nltl (Nat.le_refl 16) (by decide)), e_295_114]
/-! the first on an acre -/
def rug (W : WW) (a : Nat) : Nat → Option Nat → Option Nat := fun i o => match o with
  | none => some i
  | some b => if mtN W i a < mtN W b a then some i else some b
def ruN (W : WW) (a : Nat) : Option Nat := fo (rug W a) 0 (nB W) none
theorem rug_lt {a i : Nat} {o : Option Nat} (h : ∀ b, o = some b → b < i) : ∀ b, rug W a i o = some b → b < i + 1 := fun b e => by
  unfold rug at e
  split at e
  · cases e; omega
  · rename_i c
    have := h c rfl
    split at e <;> cases e <;> omega
theorem m_71 (h : QQ σ W L) {a : Nat} (ha : a < 16) : rn 71 [.ref 292, .int (nI a)] σ = some (.inl (some (.int (oI (ruN W a)))), σ) := by
  have h5 := (WF_nB h.w).2
  rw [r_71]
  refine lpI (F := fun i o => exec PP 3 71 8 [some (.ref 292), some (.int (nI a)), some (.int (oI o)), some (.int (match o with
    | none => 16
    | some b => nI (mtN W b a))), some (.int (nI i)), none] [] σ) (g := rug W a) (K := fun o => some (.inl (some (.int (oI o))), σ)) (I := fun i o => ∀ b, o = some b → b < i) (n := nB W) ?_ ?_ (nB W) 0 none (by omega) (fun b e => by cases e)
  · intro i o hi ho
    try dsimp only
    refine ⟨?_, rug_lt ho⟩
    have m1 := mtN_lt h.w hi ha
    rw [e_71_8, mk0 h.x, c5 h, if_pos (nI_lt hi (by omega)), mk0 h.x, cs1 h, cB' h hi, if_pos (tB' h hi), m_3 h hi ha, onI_i]
    cases o with
    | none =>
      rw [if_pos (nI_ltl (n := 16) m1 (by decide)), nI_1]; rfl
    | some b =>
      have m2 := mtN_lt h.w (b := b) (by have := ho b rfl; omega) ha
      try dsimp only
      unfold rug
      try dsimp only
      by_cases c : mtN W i a < mtN W b a
      · rw [if_pos (nI_lt c (by omega))]
        simp only [if_pos c]; rw [nI_1]; rfl
      · rw [if_neg (nI_nlt (by omega) (by omega))]
        simp only [if_neg c]; rw [e_71_48, nI_1]
  · intro o ho
    try dsimp only
    rw [e_71_8, mk0 h.x, c5 h, if_neg (nI_nlt (Nat.le_refl _) (by omega)), e_71_54]
theorem m_297' (h : QQ σ W L) {a : Nat} (ha : a < 16) (o2 o3 : Option Value) : exec PP 4 297 19 [some (.ref 611), some (.int (nI a)), o2, o3] [] σ = some (.inl (some (.int (oI (ruN W a)))), σ) := by
  have h5 := (WF_nB h.w).2
  rw [e_297_19]
  refine lpI (F := fun i o => exec PP 4 297 23 [some (.ref 611), some (.int (nI a)), some (.int (oI o)), some (.int (nI i))] [] σ) (g := rug W a) (K := fun o => some (.inl (some (.int (oI o))), σ)) (I := fun i o => ∀ b, o = some b → b < i) (n := nB W) ?_ ?_ (nB W) 0 none (by omega) (fun b e => by cases e)
  · intro i o hi ho
    try dsimp only
    refine ⟨?_, rug_lt ho⟩
    have m1 := mtN_lt h.w hi ha
    rw [e_297_23, if_pos h.tM, q201 h, onI_i, if_pos (nI_lt hi (by omega))]
    cases o with
    | none => rw [if_pos (show oI none < 0 by decide), e_297_50, nI_1]; rfl
    | some b =>
      have hb := ho b rfl
      have m2 := mtN_lt h.w (b := b) (by omega) ha
      rw [if_neg (show ¬ oI (some b) < 0 from nI_pos (by omega)), if_pos h.tM, m_296 h hi ha, onI_i, if_pos h.tM, show oI (some b) = nI b from rfl, m_296 h (by omega) ha, onI_i]
      unfold rug
      try dsimp only
      by_cases c : mtN W i a < mtN W b a
      · rw [if_pos (nI_lt c (by omega))]
        simp only [if_pos c]; rw [nI_1]; rfl
      · rw [if_neg (nI_nlt (by omega) (by omega))]
        simp only [if_neg c]; rw [e_297_52, nI_1]; rfl
  · intro o ho
    try dsimp only
    rw [e_297_23, if_pos h.tM, q201 h, onI_i, if_neg (nI_nlt (Nat.le_refl _) (by omega)), e_297_58]
end QD
