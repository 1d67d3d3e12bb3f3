/-! sets as bits -/
def bsg (p : Nat → Bool) : Nat → Int32 → Int32 := fun s b => if p s = true then b ||| shl 1 (nI s) else b
def bs (p : Nat → Bool) (n : Nat) : Int32 := fo (bsg p) 0 n 0
theorem b_fo (p : Nat → Bool) : ∀ (k i : Nat) (b : Int32) (x : Nat), i + k ≤ 32 → x < 32 → bt (fo (bsg p) i k b) x = (bt b x || (decide (i ≤ x ∧ x < i + k) && p x))
  | 0, i, b, x, h, hx => by
    have : decide (i ≤ x ∧ x < i + 0) = false := decide_eq_false (by omega)
    rw [this]; simp [fo]
  | k + 1, i, b, x, h, hx => by
    show bt (fo (bsg p) (i + 1) k (bsg p i b)) x = _
    rw [b_fo p k (i + 1) _ x (by omega) hx]
    unfold bsg
    by_cases e : x = i
    · subst e
      have h1 : decide (x + 1 ≤ x ∧ x < x + 1 + k) = false := decide_eq_false (by omega)
      have h2 : decide (x ≤ x ∧ x < x + (k + 1)) = true := decide_eq_true (by omega)
      rw [h1, h2]
      cases hp : p x
      · simp
      · simp [b_or, b_sl1 hx hx]
    · have h1 : decide (i + 1 ≤ x ∧ x < i + 1 + k) = decide (i ≤ x ∧ x < i + (k + 1)) := by
        by_cases q : i + 1 ≤ x ∧ x < i + 1 + k
        · rw [decide_eq_true q, decide_eq_true (by omega)]
        · rw [decide_eq_false q, decide_eq_false (by omega)]
      rw [h1]
      cases hp : p i
      · simp
      · simp [b_or, b_sl1 (by omega : i < 32) hx, e]
theorem b_bs (p : Nat → Bool) {n x : Nat} (hn : n ≤ 32) (hx : x < 32) : bt (bs p n) x = (decide (x < n) && p x) := by
  unfold bs
  rw [b_fo p n 0 0 x (by omega) hx, b_0]
  simp
theorem bs_cong {p q : Nat → Bool} {n : Nat} (h : ∀ j, j < n → p j = q j) : bs p n = bs q n := fo_cong n 0 0 fun j b h1 h2 => by unfold bsg; rw [h j (by omega)]
theorem bs_none {p : Nat → Bool} {n : Nat} (hn : n ≤ 32) (h : ∀ j, j < n → p j = false) : bs p n = 0 := b_ext fun i hi => by
  rw [b_bs p hn hi, b_0]
  by_cases q : i < n
  · rw [h i q]; simp
  · simp [q]
theorem bs_0 {p : Nat → Bool} {n : Nat} (hn : n ≤ 32) : bs p n = 0 ↔ ∀ j, j < n → p j = false := by
  refine ⟨fun h j hj => ?_, bs_none hn⟩
  have h1 := b_bs p hn (x := j) (by omega)
  rw [h, b_0, decide_eq_true hj] at h1
  simpa using h1.symm
theorem bs_16 : ∀ l, l < 16 → ∀ h, h < 16 → l ≤ h → shl 2 (nI h) - shl 1 (nI l) = bs (fun a => decide (l ≤ a ∧ a ≤ h)) 16 := by decide +kernel
/-! numbers of the county: the reference's row -/
abbrev WW : Type := Nat → Int32
def nS (W : WW) : Nat := (W 0).toInt.toNat
def nB (W : WW) : Nat := (W 1).toInt.toNat
def nD (W : WW) : Nat := (W 2).toInt.toNat
def sh (W : WW) (s f : Nat) : Int32 := W (10 + 7 * s + f)
def br (W : WW) (b f : Nat) : Int32 := W (52 + 3 * b + f)
def de (W : WW) (d f : Nat) : Int32 := W (67 + 7 * d + f)
def btw (x : Int32) (lo hi : Int) : Prop := lo ≤ x.toInt ∧ x.toInt ≤ hi
def WFs (W : WW) (s : Nat) : Prop := btw (sh W s 0) 0 15 ∧ btw (sh W s 1) 0 15 ∧ btw (sh W s 2) 0 999 ∧ btw (sh W s 3) 0 999 ∧ btw (sh W s 4) (-2) 2 ∧ btw (sh W s 5) 0 100 ∧ btw (sh W s 6) 0 2
def WFb (W : WW) (b : Nat) : Prop := btw (br W b 0) 0 9999 ∧ btw (br W b 1) 0 15 ∧ btw (br W b 2) 1 4
def WFd (W : WW) (d : Nat) : Prop := btw (de W d 0) 0 15 ∧ btw (de W d 1) 0 999 ∧ btw (de W d 2) 0 999 ∧ btw (de W d 3) 0 999 ∧ btw (de W d 4) (-1) (nB W - 1) ∧ btw (de W d 6) 0 1 ∧ (de W d 4 = -1 → de W d 6 = 0)
def WF (W : WW) : Prop := (btw (W 0) 0 6 ∧ btw (W 1) 0 5 ∧ btw (W 2) 0 8 ∧ btw (W 3) 0 12 ∧ btw (W 4) 0 1 ∧ btw (W 5) 0 9999 ∧ btw (W 6) 0 15 ∧ btw (W 7) 0 99 ∧ btw (W 8) 0 60) ∧ (∀ s, s < nS W → WFs W s) ∧ (∀ b, b < nB W → WFb W b) ∧ ∀ d, d < nD W → WFd W d
theorem WF_nS {W : WW} (h : WF W) : W 0 = nI (nS W) ∧ nS W ≤ 6 := by
  have := h.1.1
  unfold btw at this
  exact ⟨nI_nI this.1, by unfold nS; omega⟩
theorem WF_nB {W : WW} (h : WF W) : W 1 = nI (nB W) ∧ nB W ≤ 5 := by
  have := h.1.2.1
  unfold btw at this
  exact ⟨nI_nI this.1, by unfold nB; omega⟩
theorem WF_nD {W : WW} (h : WF W) : W 2 = nI (nD W) ∧ nD W ≤ 8 := by
  have := h.1.2.2.1
  unfold btw at this
  exact ⟨nI_nI this.1, by unfold nD; omega⟩
/-! where a shower lies -/
def liF (lo hi fr to dr : Int) (a j : Nat) : Bool := decide (fr ≤ j ∧ (j : Int) ≤ to ∧ lo ≤ (a : Int) - dr * (((j : Int) - fr) / 4) ∧ (a : Int) - dr * (((j : Int) - fr) / 4) ≤ hi)
def lies (W : WW) (s a j : Nat) : Bool := liF (sh W s 0).toInt (sh W s 1).toInt (sh W s 2).toInt (sh W s 3).toInt (sh W s 4).toInt a j
theorem div4 {x : Int32} (h : 0 ≤ x.toInt) : (x / 4).toInt = x.toInt / 4 := by
  rw [Int32.toInt_div_of_ne_right _ _ (by decide), show (4 : Int32).toInt = 4 by decide]
  exact Int.tdiv_eq_ediv_of_nonneg h
theorem dr_bd {dr q : Int} (h1 : -2 ≤ dr) (h2 : dr ≤ 2) (h3 : 0 ≤ q) (h4 : q ≤ 300) : -600 ≤ dr * q ∧ dr * q ≤ 600 := by
  rcases (by omega : dr = -2 ∨ dr = -1 ∨ dr = 0 ∨ dr = 1 ∨ dr = 2) with h | h | h | h | h <;> rw [h] <;> omega
/-- the move of a shower -/
theorem mv_num {f4 f2 : Int32} {j : Nat} (h4 : btw f4 (-2) 2) (h2 : btw f2 0 999) (h : f2.toInt ≤ j) (hj : j ≤ 999) : (f4 * ((nI j - f2) / 4)).toInt = f4.toInt * (((j : Int) - f2.toInt) / 4) ∧ -600 ≤ f4.toInt * (((j : Int) - f2.toInt) / 4) ∧ f4.toInt * (((j : Int) - f2.toInt) / 4) ≤ 600 := by
  unfold btw at h4 h2
  have e0 : (nI j).toInt = j := tnI (by omega)
  have e1 : (nI j - f2).toInt = j - f2.toInt := by rw [tS] <;> rw [e0] <;> omega
  have e2 : ((nI j - f2) / 4).toInt = ((j : Int) - f2.toInt) / 4 := by rw [div4 (by rw [e1]; omega), e1]
  have hb := dr_bd (q := ((j : Int) - f2.toInt) / 4) h4.1 h4.2 (by omega) (by omega)
  refine ⟨?_, hb⟩
  rw [tM] <;> rw [e2] <;> omega
/-- the acres under a shower, in the class -/
theorem m_95 {σ : SH} {q j : Nat} (hT : sT σ q = 108) (h0 : btw (sI σ q 0) 0 15) (h1 : btw (sI σ q 1) 0 15) (h2 : btw (sI σ q 2) 0 999) (h3 : btw (sI σ q 3) 0 999) (h4 : btw (sI σ q 4) (-2) 2) (hj : j < 2147483648) :
    rn 95 [.ref q, .int (nI j)] σ = some (.inl (some (.int (bs (fun a => liF (sI σ q 0).toInt (sI σ q 1).toInt (sI σ q 2).toInt (sI σ q 3).toInt (sI σ q 4).toInt a j) 16))), σ) := by
  have e0 : (nI j).toInt = j := tnI hj
  have z0 : (0 : Int32).toInt = 0 := by decide
  have z16 : (16 : Int32).toInt = 16 := by decide
  have none0 : (∀ a, a < 16 → liF (sI σ q 0).toInt (sI σ q 1).toInt (sI σ q 2).toInt (sI σ q 3).toInt (sI σ q 4).toInt a j = false) → bs (fun a => liF (sI σ q 0).toInt (sI σ q 1).toInt (sI σ q 2).toInt (sI σ q 3).toInt (sI σ q 4).toInt a j) 16 = 0 := bs_none (by omega)
  rw [r_95, gI_r hT, gI_r hT]
  by_cases c1 : nI j < sI σ q 2
  · rw [if_pos c1, e_95_16, none0 fun a _ => ?_]
    rw [tlt, e0] at c1
    exact decide_eq_false (by omega)
  rw [if_neg c1]
  by_cases c2 : sI σ q 3 < nI j
  · rw [if_pos c2, none0 fun a _ => ?_]
    rw [tlt, e0] at c2
    exact decide_eq_false (by omega)
  rw [if_neg c2, e_95_18, gI_r hT, gI_r hT, gI_r hT]
  rw [tlt, e0] at c1 c2
  have h3' := h3
  unfold btw at h3'
  obtain ⟨m1, m2, m3⟩ := mv_num (f4 := sI σ q 4) (f2 := sI σ q 2) (j := j) h4 h2 (by omega) (by omega)
  generalize hmv : sI σ q 4 * ((nI j - sI σ q 2) / 4) = mv at m1
  generalize hp : (sI σ q 4).toInt * (((j : Int) - (sI σ q 2).toInt) / 4) = P at m1 m2 m3
  unfold btw at h0 h1
  have s0 : (sI σ q 0 + mv).toInt = (sI σ q 0).toInt + P := by rw [tA] <;> rw [m1] <;> omega
  have s1 : (sI σ q 1 + mv).toInt = (sI σ q 1).toInt + P := by rw [tA] <;> rw [m1] <;> omega
  have key : ∀ lo hi : Int32, (lo.toInt = if (sI σ q 0).toInt + P < 0 then 0 else (sI σ q 0).toInt + P) → (hi.toInt = if (sI σ q 1).toInt + P < 16 then (sI σ q 1).toInt + P else 15) →
      (if (hi < lo : Prop) then (some (.inl (some (.int 0)), σ) : SR) else exec PP 1 95 84 [none, none, none, some (.int lo), some (.int hi)] [] σ) = some (.inl (some (.int (bs (fun a => liF (sI σ q 0).toInt (sI σ q 1).toInt (sI σ q 2).toInt (sI σ q 3).toInt (sI σ q 4).toInt a j) 16))), σ) := fun lo hi hlo hhi => by
    have lif : ∀ a : Nat, liF (sI σ q 0).toInt (sI σ q 1).toInt (sI σ q 2).toInt (sI σ q 3).toInt (sI σ q 4).toInt a j = decide ((sI σ q 0).toInt ≤ (a : Int) - P ∧ (a : Int) - P ≤ (sI σ q 1).toInt) := fun a => by
      unfold liF
      rw [hp]
      by_cases z : (sI σ q 0).toInt ≤ (a : Int) - P ∧ (a : Int) - P ≤ (sI σ q 1).toInt
      · rw [decide_eq_true z, decide_eq_true (by omega)]
      · rw [decide_eq_false z, decide_eq_false (by omega)]
    by_cases c : hi < lo
    · rw [if_pos c, none0 fun a ha => ?_]
      rw [lif, decide_eq_false]
      rw [tlt] at c
      split at hlo <;> split at hhi <;> omega
    · rw [if_neg c, e_95_84]
      rw [tlt] at c
      have q1 : 0 ≤ lo.toInt ∧ lo.toInt ≤ hi.toInt ∧ hi.toInt ≤ 15 := by split at hlo <;> split at hhi <;> omega
      rw [nI_nI (x := lo) (by omega), nI_nI (x := hi) (by omega), bs_16 _ (by omega) _ (by omega) (by omega)]
      refine congrArg (fun z => some (Sum.inl (some (Value.int z)), σ)) (bs_cong fun a ha => ?_)
      rw [lif]
      by_cases z : (sI σ q 0).toInt ≤ (a : Int) - P ∧ (a : Int) - P ≤ (sI σ q 1).toInt
      · rw [decide_eq_true z, decide_eq_true]
        split at hlo <;> split at hhi <;> omega
      · rw [decide_eq_false z, decide_eq_false]
        split at hlo <;> split at hhi <;> omega
  have z15 : (15 : Int32).toInt = 15 := by decide
  by_cases d1 : sI σ q 0 + mv < 0
  · rw [if_pos d1, e_95_51, gI_r hT]
    rw [tlt, s0, z0] at d1
    by_cases d2 : sI σ q 1 + mv < 16
    · rw [if_pos d2, e_95_68, gI_r hT]
      rw [tlt, s1, z16] at d2
      exact key 0 _ (by rw [if_pos d1, z0]) (by rw [if_pos d2, s1])
    · rw [if_neg d2, e_95_74]
      rw [tlt, s1, z16] at d2
      exact key 0 15 (by rw [if_pos d1, z0]) (by rw [if_neg d2, z15])
  · rw [if_neg d1, e_95_45, gI_r hT, gI_r hT]
    rw [tlt, s0, z0] at d1
    by_cases d2 : sI σ q 1 + mv < 16
    · rw [if_pos d2, e_95_68, gI_r hT]
      rw [tlt, s1, z16] at d2
      exact key _ _ (by rw [if_neg d1, s0]) (by rw [if_pos d2, s1])
    · rw [if_neg d2, e_95_74]
      rw [tlt, s1, z16] at d2
      exact key _ 15 (by rw [if_neg d1, s0]) (by rw [if_neg d2, z15])
