/-! ===== Int32 by its bits: bt x i ===== -/
def bt (x : Int32) (i : Nat) : Bool := x.toBitVec.getLsbD i
theorem b_ext {x y : Int32} (h : ∀ i, i < 32 → bt x i = bt y i) : x = y := Int32.toBitVec_inj.mp (BitVec.eq_of_getLsbD_eq (fun i hi => h i hi))
theorem b_or (x y : Int32) (i : Nat) : bt (x ||| y) i = (bt x i || bt y i) := by unfold bt; rw [Int32.toBitVec_or, BitVec.getLsbD_or]
theorem b_and (x y : Int32) (i : Nat) : bt (x &&& y) i = (bt x i && bt y i) := by unfold bt; rw [Int32.toBitVec_and, BitVec.getLsbD_and]
theorem b_xor (x y : Int32) (i : Nat) : bt (x ^^^ y) i = (bt x i ^^ bt y i) := by unfold bt; rw [Int32.toBitVec_xor, BitVec.getLsbD_xor]
theorem b_big {x : Int32} {i : Nat} (h : 32 ≤ i) : bt x i = false := BitVec.getLsbD_of_ge _ _ h
theorem b_255 (i : Nat) : bt 255 i = decide (i < 8) := by
  rcases Nat.lt_or_ge i 32 with h | h
  · exact (by decide +kernel : ∀ i, i < 32 → bt 255 i = decide (i < 8)) i h
  · rw [b_big h, decide_eq_false (by omega)]
theorem b_65535 (i : Nat) : bt 65535 i = decide (i < 16) := by
  rcases Nat.lt_or_ge i 32 with h | h
  · exact (by decide +kernel : ∀ i, i < 32 → bt 65535 i = decide (i < 16)) i h
  · rw [b_big h, decide_eq_false (by omega)]
theorem b_m1 : ∀ i, i < 32 → bt (-1) i = true := by decide +kernel
theorem b_0 (i : Nat) : bt 0 i = false := BitVec.getLsbD_zero
theorem s_l : ∀ n, n < 32 → ((nI n &&& 31).toBitVec.smod 32).toNat = n := by decide +kernel
theorem s_u : ∀ n, n < 32 → (((nI n).toUInt32 &&& Int32.toUInt32 31).toBitVec % 32).toNat = n := by decide +kernel
theorem b_shl (n : Nat) (hn : n < 32) (x : Int32) {i : Nat} (hi : i < 32) : bt (x <<< (nI n &&& 31)) i = (decide (n ≤ i) && bt x (i - n)) := by
  unfold bt
  rw [Int32.toBitVec_shiftLeft]
  show (x.toBitVec <<< ((nI n &&& 31).toBitVec.smod 32).toNat).getLsbD i = _
  rw [s_l n hn, BitVec.getLsbD_shiftLeft]
  rcases Nat.lt_or_ge i n with h | h
  · simp [h, Nat.not_le.mpr h]
  · simp [hi, h, Nat.not_lt.mpr h]
theorem b_ushr (n : Nat) (hn : n < 32) (x : Int32) (i : Nat) : bt ((x.toUInt32 >>> ((nI n).toUInt32 &&& Int32.toUInt32 31)).toInt32) i = bt x (n + i) := by
  show (x.toUInt32 >>> ((nI n).toUInt32 &&& Int32.toUInt32 31)).toBitVec.getLsbD i = x.toUInt32.toBitVec.getLsbD (n + i)
  rw [UInt32.toBitVec_shiftRight]
  show (x.toUInt32.toBitVec >>> (((nI n).toUInt32 &&& Int32.toUInt32 31).toBitVec % 32).toNat).getLsbD i = _
  rw [s_u n hn, BitVec.getLsbD_ushiftRight]
theorem b_sshr (n : Nat) (hn : n < 32) (x : Int32) {i : Nat} (hi : i < 32) : bt (x >>> (nI n &&& 31)) i = if n + i < 32 then bt x (n + i) else bt x 31 := by
  unfold bt
  rw [Int32.toBitVec_shiftRight]
  show (x.toBitVec.sshiftRight ((nI n &&& 31).toBitVec.smod 32).toNat).getLsbD i = _
  rw [s_l n hn, BitVec.getLsbD_sshiftRight, BitVec.msb_eq_getLsbD_last]
  simp [hi]
theorem b_shl8 (x : Int32) {i : Nat} (hi : i < 32) : bt (x <<< ((8 : Int32) &&& 31)) i = (decide (8 ≤ i) && bt x (i - 8)) := b_shl 8 (by omega) x hi
theorem b_shl16 (x : Int32) {i : Nat} (hi : i < 32) : bt (x <<< ((16 : Int32) &&& 31)) i = (decide (16 ≤ i) && bt x (i - 16)) := b_shl 16 (by omega) x hi
theorem b_shl24 (x : Int32) {i : Nat} (hi : i < 32) : bt (x <<< ((24 : Int32) &&& 31)) i = (decide (24 ≤ i) && bt x (i - 24)) := b_shl 24 (by omega) x hi
theorem b_sshr8 (x : Int32) {i : Nat} (hi : i < 32) : bt (x >>> ((8 : Int32) &&& 31)) i = if 8 + i < 32 then bt x (8 + i) else bt x 31 := b_sshr 8 (by omega) x hi
theorem b_1 : ∀ i, i < 32 → bt 1 i = decide (i = 0) := by decide +kernel
theorem b_sl1 {n i : Nat} (hn : n < 32) (hi : i < 32) : bt (shl 1 (nI n)) i = decide (i = n) := by
  unfold shl
  rw [b_shl n hn 1 hi]
  by_cases h : n ≤ i
  · rw [b_1 (i - n) (by omega)]
    by_cases e : i = n
    · subst e; simp
    · simp [h, e]; omega
  · simp [h]; omega
theorem b_and1 (x : Int32) : x &&& 1 = if bt x 0 = true then 1 else 0 := by
  apply b_ext
  intro i hi
  rw [b_and, b_1 i hi]
  by_cases e : i = 0
  · subst e
    cases h : bt x 0 <;> simp [b_0, b_1]
  · cases h : bt x 0 <;> simp [e, b_0, b_1 i hi]
theorem shr1 (x : Int32) {n : Nat} (hn : n < 32) : shr x (nI n) &&& 1 = if bt x n = true then 1 else 0 := by
  rw [b_and1]
  unfold shr
  rw [b_sshr n hn x (by omega), Nat.add_zero, if_pos hn]
def bI (b : Bool) : Int32 := if b = true then 1 else 0
theorem bI_01 (b : Bool) : bI b = 0 ∨ bI b = 1 := by cases b <;> simp [bI]
theorem bI_0 (b : Bool) : (bI b = 0) = (b = false) := by cases b <;> simp [bI]
theorem iB {α : Type} {b : Bool} {x y : α} : (if (bI b = 0 : Prop) then x else y) = (if b = false then x else y) := by cases b <;> simp [bI]
theorem bI_1 (b : Bool) : (bI b = 1) = (b = true) := by cases b <;> simp [bI]
/-! both sides' tests of a bit -/
theorem m_128 (x : Int32) {n : Nat} (hn : n < 32) (σ : SH) : rn 128 [.int x, .int (nI n)] σ = some (.inl (some (.int (bI (bt x n)))), σ) := by
  rw [r_128, shr1 x hn]
  cases h : bt x n
  · simp [e_128_12, bI]
  · simp [e_128_13, bI]
theorem m_292 (x : Int32) {n : Nat} (hn : n < 32) (σ : SH) : rn 292 [.int x, .int (nI n)] σ = some (.inl (some (.int (bI (bt x n)))), σ) := by
  rw [r_292, shr1 x hn]
  cases h : bt x n
  · simp [e_292_13, bI]
  · simp [e_292_14, bI]
/-- in (x, lo, hi) -/
theorem m_220 (x lo hi : Int32) (σ : SH) : rn 220 [.int x, .int lo, .int hi] σ = some (.inl (some (.int (bI (decide (lo.toInt ≤ x.toInt ∧ x.toInt ≤ hi.toInt))))), σ) := by
  rw [r_220]
  simp only [e_220_14, e_220_15, tlt]
  by_cases h1 : x.toInt < lo.toInt
  · rw [if_pos h1, decide_eq_false (by omega)]; rfl
  · rw [if_neg h1]
    by_cases h2 : hi.toInt < x.toInt
    · rw [if_pos h2, decide_eq_false (by omega)]; rfl
    · rw [if_neg h2, decide_eq_true (by omega)]; simp [bI]
theorem m_229 (x : Int32) (σ : SH) : rn 229 [.int x] σ = some (.inl (some (.int (bI (!decide (0 ≤ x.toInt ∧ x.toInt ≤ 15))))), σ) := by
  rw [r_229, m_220, onI_i, iB]
  have e1 : (0 : Int32).toInt = 0 := by decide
  have e2 : (15 : Int32).toInt = 15 := by decide
  rw [e1, e2]
  cases h : decide (0 ≤ x.toInt ∧ x.toInt ≤ 15)
  · simp [e_229_15, bI]
  · simp [e_229_14, bI]
theorem m_223 (x : Int32) (σ : SH) : rn 223 [.int x] σ = some (.inl (some (.int (bI (!decide (0 ≤ x.toInt ∧ x.toInt ≤ 9999))))), σ) := by
  rw [r_223, m_220, onI_i, iB]
  have e1 : (0 : Int32).toInt = 0 := by decide
  have e2 : (9999 : Int32).toInt = 9999 := by decide
  rw [e1, e2]
  cases h : decide (0 ≤ x.toInt ∧ x.toInt ≤ 9999)
  · simp [e_223_16, bI]
  · simp [e_223_15, bI]
/-! sun, reach, foot -/
def oI : Option Nat → Int32
  | none => -1
  | some n => nI n
def sunN (j : Nat) : Nat := if j % 96 < 48 then j % 96 else 96 - j % 96
def reN (j : Nat) : Option Nat := if sunN j = 0 ∨ 42 < sunN j then none else some ((42 - sunN j) / 6)
def ftN (a j : Nat) : Option Nat := match reN j with
  | none => none
  | some r => if j % 96 < 48 then (if r ≤ a then some (a - r) else none) else if a + r < 16 then some (a + r) else none
theorem sunN_le (j : Nat) : sunN j ≤ 48 := by unfold sunN; split <;> omega
theorem irm_nI {j : Nat} (h : j < 2147483648) : irm (nI j) 96 = nI (j % 96) := pk_rem h (by decide) (by decide)
theorem m_127 {j : Nat} (h : j < 2147483648) (σ : SH) : rn 127 [.int (nI j)] σ = some (.inl (some (.int (nI (sunN j)))), σ) := by
  rw [r_127, irm_nI h]
  simp only [e_127_15, e_127_19]
  unfold sunN
  have h1 : (nI (j % 96) < 48) ↔ j % 96 < 48 := nI_ltI (b := 48) (by omega) (by decide)
  by_cases h2 : j % 96 < 48
  · rw [if_pos (h1.mpr h2), if_pos h2]
  · rw [if_neg (fun q => h2 (h1.mp q)), if_neg h2]
    have : (96 : Int32) - nI (j % 96) = nI (96 - j % 96) := pk_sub (a := 96) (by omega)
    rw [this]
theorem m_224 {j : Nat} (h : j < 2147483648) (σ : SH) : rn 224 [.int (nI j)] σ = some (.inl (some (.int (nI (sunN j)))), σ) := by
  have hab : ∀ x : Int32, rn 326 [.int x] σ = some (.inl (some (.int (if (x < 0 : Prop) then -x else x))), σ) := fun x => by
    have e9 : exec PP 1 326 9 [some (.int x)] [] σ = some (.inl (some (.int x)), σ) := (exec_eq PP 1 326 9 _ _ σ).trans rfl
    have e10 : ∀ (o : Option Value) (w : Int32), exec PP 1 326 10 [o] [.int w] σ = some (.inl (some (.int w)), σ) := fun o w => (exec_eq PP 1 326 10 _ _ σ).trans rfl
    have e0 : rn 326 [.int x] σ = if (x < 0 : Prop) then (exec PP 1 326 10 [some (.int x)] [.int (-x)] σ) else (exec PP 1 326 9 [some (.int x)] [] σ) := (exec_eq PP 1 326 0 _ _ σ).trans rfl
    rw [e0, e9, e10]
    split <;> rfl
  rw [r_224, irm_nI h, hab, onI_i]
  have h48 : (48 : Int32).toInt = 48 := by decide
  have h0 : (0 : Int32).toInt = 0 := by decide
  have hm : (nI (j % 96)).toInt = (j % 96 : Nat) := tnI (by omega)
  have hs : (nI (j % 96) - 48).toInt = (j % 96 : Nat) - 48 := by rw [tS] <;> rw [hm, h48] <;> omega
  refine congrArg (fun z => some (Sum.inl (some (Value.int z)), σ)) ?_
  rw [teq, tnI (by have := sunN_le j; omega)]
  unfold sunN
  by_cases h2 : j % 96 < 48
  · rw [if_pos (by rw [tlt, hs, h0]; omega), if_pos h2]
    have hn : (-(nI (j % 96) - 48)).toInt = 48 - (j % 96 : Nat) := by rw [tN] <;> rw [hs] <;> omega
    rw [tS] <;> rw [h48, hn] <;> omega
  · rw [if_neg (by rw [tlt, hs, h0]; omega), if_neg h2]
    rw [tS] <;> rw [h48, hs] <;> omega
theorem re_num (j : Nat) : (nI (sunN j) = 0 ↔ sunN j = 0) ∧ ((42 : Int32) < nI (sunN j) ↔ 42 < sunN j) ∧ (¬ 42 < sunN j → ((42 : Int32) - nI (sunN j)) / 6 = nI ((42 - sunN j) / 6)) := by
  have := sunN_le j
  refine ⟨nI_eq (b := 0) (by omega) (by decide), nI_ltI (a := 42) (by decide) (by omega), fun h => ?_⟩
  have e1 : (42 : Int32) - nI (sunN j) = nI (42 - sunN j) := pk_sub (a := 42) (by omega)
  have e2 : nI (42 - sunN j) / 6 = nI ((42 - sunN j) / 6) := pk_div (d := 6) (by omega) (by decide) (by decide)
  rw [e1, e2]
theorem m_126 {j : Nat} (h : j < 2147483648) (σ : SH) : rn 126 [.int (nI j)] σ = some (.inl (some (.int (oI (reN j)))), σ) := by
  obtain ⟨h1, h2, h3⟩ := re_num j
  rw [r_126, m_127 h, onI_i]
  simp only [e_126_15, e_126_19, e_126_26, h1, h2]
  unfold reN
  by_cases a : sunN j = 0
  · rw [if_pos a, if_pos (Or.inl a)]; rfl
  · rw [if_neg a]
    by_cases b : 42 < sunN j
    · rw [if_pos b, if_pos (Or.inr b)]; rfl
    · rw [if_neg b, if_neg (fun q => q.elim a b), h3 b]; rfl
theorem m_226 {j : Nat} (h : j < 2147483648) (σ : SH) : rn 226 [.int (nI j)] σ = some (.inl (some (.int (oI (reN j)))), σ) := by
  obtain ⟨h1, h2, h3⟩ := re_num j
  rw [r_226, m_224 h, onI_i]
  simp only [e_226_15, e_226_19, e_226_26, h1, h2]
  unfold reN
  by_cases b : 42 < sunN j
  · rw [if_pos b, if_pos (Or.inr b)]; rfl
  · rw [if_neg b]
    by_cases a : sunN j = 0
    · rw [if_pos a, if_pos (Or.inl a)]; rfl
    · rw [if_neg a, if_neg (fun q => q.elim a b), h3 b]; rfl
theorem reN_le {j r : Nat} (h : reN j = some r) : r ≤ 7 := by
  unfold reN at h
  split at h
  · cases h
  · cases h; omega
theorem ft_num {a j r : Nat} (ha : a < 16) (hr : r ≤ 7) : ((nI a - nI r < 0) ↔ a < r) ∧ (r ≤ a → nI a - nI r = nI (a - r)) ∧ nI a + nI r = nI (a + r) := by
  have h1 : (nI a).toInt = a := tnI (by omega)
  have h2 : (nI r).toInt = r := tnI (by omega)
  have h0 : (0 : Int32).toInt = 0 := by decide
  refine ⟨?_, fun h => pk_sub h, nI_add a r⟩
  rw [tlt, tS (by omega) (by omega), h1, h2, h0]; omega
theorem m_145 {a j : Nat} (ha : a < 16) (h : j < 2147483648) (σ : SH) : rn 145 [.int (nI a), .int (nI j)] σ = some (.inl (some (.int (oI (ftN a j)))), σ) := by
  rw [r_145, m_126 h, onI_i]
  unfold ftN
  cases hr : reN j with
  | none => rfl
  | some r =>
    have hr7 := reN_le hr
    obtain ⟨n1, n2, n3⟩ := ft_num (j := j) ha hr7
    have hne : ¬ oI (some r) = -1 := nI_neg (by omega)
    rw [if_neg hne]
    show exec PP 3 145 12 [some (.int (nI a)), some (.int (nI j)), some (.int (nI r)), none] [] σ = _
    rw [e_145_12, irm_nI h]
    have h1 : (nI (j % 96) < 48) ↔ j % 96 < 48 := nI_ltI (b := 48) (by omega) (by decide)
    simp only [e_145_27, e_145_30, e_145_45, e_145_46, h1, n1, n3]
    by_cases h2 : j % 96 < 48
    · simp only [if_pos h2]
      by_cases h3 : a < r
      · rw [if_pos h3, if_neg (by omega)]; rfl
      · have h16 : nI (a - r) < 16 := nI_lt (b := 16) (by omega) (by decide)
        rw [if_neg h3, n2 (by omega), if_pos h16, if_pos (by omega)]; rfl
    · simp only [if_neg h2]
      have hp : ¬ nI (a + r) < 0 := nI_pos (by omega)
      have h16 : (nI (a + r) < 16) ↔ a + r < 16 := nI_ltI (b := 16) (by omega) (by decide)
      rw [if_neg hp]
      simp only [h16]
      split <;> rfl
theorem m_230 {a j : Nat} (ha : a < 16) (h : j < 2147483648) (σ : SH) : rn 230 [.int (nI a), .int (nI j)] σ = some (.inl (some (.int (oI (ftN a j)))), σ) := by
  rw [r_230, m_226 h, onI_i]
  unfold ftN
  cases hr : reN j with
  | none => rfl
  | some r =>
    have hr7 := reN_le hr
    obtain ⟨n1, n2, n3⟩ := ft_num (j := j) ha hr7
    have hne : ¬ oI (some r) = -1 := nI_neg (by omega)
    rw [if_neg hne]
    show exec PP 4 230 12 [some (.int (nI a)), some (.int (nI j)), some (.int (nI r)), none] [] σ = _
    rw [e_230_12, irm_nI h]
    have h1 : (nI (j % 96) < 48) ↔ j % 96 < 48 := nI_ltI (b := 48) (by omega) (by decide)
    simp only [e_230_27, e_230_30, m_229, onI_i, bI_0, e_230_42, e_230_43, h1, n3]
    by_cases h2 : j % 96 < 48
    · simp only [if_pos h2]
      by_cases h3 : a < r
      · have h4 : (nI a - nI r).toInt < 0 := by have := n1.mpr h3; rw [tlt] at this; exact this
        rw [decide_eq_false (by omega), if_neg (by simp), if_neg (by omega)]; rfl
      · rw [n2 (by omega), tnI (by omega), decide_eq_true (by omega), if_pos (by simp), if_pos (by omega)]; rfl
    · simp only [if_neg h2, tnI (n := a + r) (by omega)]
      by_cases h3 : a + r < 16
      · rw [decide_eq_true (by omega), if_pos (by simp), if_pos h3]; rfl
      · rw [decide_eq_false (by omega), if_neg (by simp), if_neg h3]; rfl
theorem ftN_lt {a j f : Nat} (ha : a < 16) (h : ftN a j = some f) : f < 16 := by
  unfold ftN at h
  split at h
  · cases h
  · split at h
    · split at h
      · cases h; omega
      · cases h
    · split at h
      · cases h; omega
      · cases h
