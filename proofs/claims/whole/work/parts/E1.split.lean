/-! what a thing is -/
abbrev mt (B : Nat → Nat) (b s i : Nat) : Prop := s = (chL i).length ∧ ∀ j, j < s → B (b + j) = chN i j
def sgN (B : Nat → Nat) (b s : Nat) : Nat := if kdN (B b) = 2 then (if s ≤ 3 then 35 else 36) else (match fi (fun i => decide (mt B b s i)) 0 38 with
  | some i => i
  | none => 36)
theorem ch_inj : ∀ i, i < 35 → ∀ j, j < 38 → (chL i).length = (chL j).length → (∀ k, k < (chL i).length → chN i k = chN j k) → i = j := by decide +kernel
theorem ch_fst : ∀ i, i < 35 → 1 ≤ (chL i).length ∧ kdN (chN i 0) ≠ 2 ∧ kdN (chN i 0) ≠ 32 ∧ (kdN (chN i 0) = 3 ↔ 27 ≤ i ∧ i ≤ 34 ∧ i ≠ 30 ∧ i ≠ 31) ∧ ((chL i).length = 1 ↔ kdN (chN i 0) = 3) := by decide +kernel
theorem ch_emp : ∀ i, i < 38 → 35 ≤ i → (chL i).length = 0 := by decide +kernel
theorem sgN_lt (B : Nat → Nat) (b s : Nat) : sgN B b s < 38 := by
  unfold sgN
  split
  · split <;> omega
  · split
    · rename_i i h
      have := fi_some _ _ _ h
      omega
    · omega
theorem sgN_w {B : Nat → Nat} {b s i : Nat} (hs : 1 ≤ s) (hi : i < 35) : sgN B b s = i ↔ mt B b s i := by
  obtain ⟨f1, f2, f3, -⟩ := ch_fst i hi
  unfold sgN
  by_cases h2 : kdN (B b) = 2
  · rw [if_pos h2]
    constructor
    · intro h; split at h <;> omega
    · intro h
      have := h.2 0 (by omega)
      rw [Nat.add_zero] at this
      rw [this] at h2
      exact absurd h2 f2
  · rw [if_neg h2]
    constructor
    · intro h
      split at h
      · rename_i j hj
        have := fi_some _ _ _ hj
        subst h
        simpa using this.1
      · omega
    · intro h
      split
      · rename_i j hj
        obtain ⟨q1, q2, q3, q4⟩ := fi_some _ _ _ hj
        have q1 : mt B b s j := by simpa using q1
        exact (ch_inj i hi j (by omega) (h.1.symm.trans q1.1) fun k hk => (h.2 k (by rw [h.1]; exact hk)).symm.trans (q1.2 k (by rw [h.1]; exact hk))).symm
      · rename_i hj
        have := fi_none _ _ hj i (by omega) (by omega)
        simp only [decide_eq_false_iff_not] at this
        exact absurd h this
theorem sgN_35 {B : Nat → Nat} {b s : Nat} (hs : 1 ≤ s) : sgN B b s = 35 ↔ kdN (B b) = 2 ∧ s ≤ 3 := by
  unfold sgN
  by_cases h2 : kdN (B b) = 2
  · rw [if_pos h2]
    constructor
    · intro h; split at h
      · exact ⟨h2, by assumption⟩
      · omega
    · intro h; rw [if_pos h.2]
  · rw [if_neg h2]
    constructor
    · intro h
      split at h
      · rename_i j hj
        obtain ⟨q1, q2, q3, q4⟩ := fi_some _ _ _ hj
        have q1 : mt B b s j := by simpa using q1
        subst h
        have := q1.1
        rw [ch_emp 35 (by omega) (by omega)] at this
        omega
      · omega
    · intro h; exact absurd h.1 h2
theorem sgN_37 {B : Nat → Nat} {b s : Nat} (hs : 1 ≤ s) : sgN B b s ≠ 37 := by
  unfold sgN
  intro h
  split at h
  · split at h <;> omega
  · split at h
    · rename_i j hj
      obtain ⟨q1, q2, q3, q4⟩ := fi_some _ _ _ hj
      have q1 : mt B b s j := by simpa using q1
      subst h
      have := q1.1
      rw [ch_emp 37 (by omega) (by omega)] at this
      omega
    · omega
/-! the class's tape: 202 its bytes -/
def TB (σ : SH) (B : Nat → Nat) : Prop := (sT σ 201 = 110 ∧ sV σ 201 0 = .ref 202 ∧ sV σ 201 2 = .ref 203 ∧ sV σ 201 3 = .ref 204 ∧ sV σ 201 4 = .ref 205) ∧ (sT σ 202 = 1 ∧ sN σ 202 = 400 ∧ sT σ 203 = 19 ∧ sN σ 203 = 401 ∧ sT σ 204 = 1 ∧ sN σ 204 = 401 ∧ sT σ 205 = 1 ∧ sN σ 205 = 401) ∧ ∀ k, k < 400 → B k < 256 ∧ sI σ 202 k = nI (B k)
section E1
variable {σ : SH} {B : Nat → Nat}
theorem TB.b (h : TB σ B) {p : Nat} (hp : p < 400) (k : Int32 → SR) : aI σ 1 (.ref 202) (nI p) k = k (nI (B p)) := (aI_r h.2.1.1 (by rw [h.2.1.2.1]; exact hp) (by rw [h.2.1.2.1]; decide)).trans (by rw [(h.2.2 p hp).2])
theorem m_101 (h : TB σ B) (hs : StA σ) {i b s : Nat} (hi : i < 38) (hb : b + s ≤ 400) : rn 101 [.ref 201, .ref (40 + i), .int (nI b), .int (nI s)] σ = some (.inl (some (.int (bI (decide (mt B b s i))))), σ) := by
  have ha := (hs.2.1 i hi).2
  have hl := ch_len i (by omega)
  rw [r_101, if_pos ha.1, m_318 ha, onI_i]
  by_cases e : s = (chL i).length
  · rw [if_pos (by rw [e]), e_101_10]
    have key := lpE (F := fun j => exec PP 5 101 13 [some (.ref 201), some (.ref (40 + i)), some (.int (nI b)), some (.int (nI s)), some (.int (nI j))] [] σ) (p := fun j => decide (B (b + j) ≠ chN i j)) (R := fun _ => some (.inl (some (.int 0)), σ)) (K := some (.inl (some (.int 1)), σ)) (n := s) (by
      intro j hj
      try dsimp only
      have hc := (ch_ok i (by omega) j (by omega)).2
      have hB := (h.2.2 (b + j) (by omega)).1
      rw [e_101_13, if_pos (nI_lt hj (by omega)), if_pos ha.1, m_320 ha (by omega) (by omega), onI_i, gR_r h.1.1 h.1.2.1, nI_add, h.b (by omega)]
      by_cases c : B (b + j) = chN i j
      · rw [if_pos (by rw [c]), e_101_39, nI_1, if_neg (by simp [c])]
      · rw [if_neg (fun z => c ((nI_eq (by omega) (by omega)).mp z).symm), if_pos (by simp [c])]) (by
      try dsimp only
      rw [e_101_13, if_neg (nI_nlt (Nat.le_refl _) (by omega)), e_101_45]) s 0 (by omega)
    refine key.trans ?_
    cases f : fi (fun j => decide (B (b + j) ≠ chN i j)) 0 s with
    | none =>
      try dsimp only
      rw [decide_eq_true (show mt B b s i from ⟨e, fun j hj => by have := fi_none _ _ f j (by omega) (by omega); simpa using this⟩)]
      rfl
    | some j =>
      try dsimp only
      obtain ⟨q1, q2, q3, -⟩ := fi_some _ _ _ f
      rw [decide_eq_false (show ¬ mt B b s i from fun z => by have := z.2 j (by omega); simp [this] at q1)]
      rfl
  · rw [if_neg (fun z => e ((nI_eq (by omega) (by omega)).mp z).symm), decide_eq_false (fun z => e z.1)]
    rfl
theorem m_100 (h : TB σ B) (hs : StA σ) {b s : Nat} (h1 : 1 ≤ s) (hb : b + s ≤ 400) : rn 100 [.ref 201, .int (nI b), .int (nI s)] σ = some (.inl (some (.ref (sgN B b s))), σ) := by
  have hB := (h.2.2 b (by omega)).1
  rw [r_100, gR_r h.1.1 h.1.2.1, h.b (by omega), m_99 hB, onI_i]
  have kl := kdN_le (B b)
  unfold sgN
  by_cases h2 : kdN (B b) = 2
  · rw [if_pos (by rw [h2]; rfl), if_pos h2]
    by_cases h3 : s ≤ 3
    · rw [if_neg (l_nlt (n := 3) h3 (by decide)), if_pos h3, e_100_27]
    · rw [if_pos (l_lt (n := 3) (by omega) (by omega)), if_neg h3, e_100_24]
  · rw [if_neg (nI_nel (n := 2) h2 (by omega) (by decide)), if_neg h2, e_100_28]
    have key := lpE (F := fun i => exec PP 6 100 30 [some (.ref 201), some (.int (nI b)), some (.int (nI s)), some (.int (nI i))] [] σ) (p := fun i => decide (mt B b s i)) (R := fun i => some (.inl (some (.ref i)), σ)) (K := some (.inl (some (.ref 36)), σ)) (n := 38) (by
      intro i hi
      try dsimp only
      have g := fun k => aS_r (k := k) (σ := σ) (a := 38) (j := i) (b := i) hs.1.1 (by rw [hs.1.2.1]; exact hi) (by rw [hs.1.2.1]; decide) (hs.1.2.2 i hi)
      rw [e_100_30, aN_r (n := 38) (by rw [hs.1.1]; decide) hs.1.2.1, if_pos (nI_lt hi (by decide)), g, gR_r (hs.2.1 i hi).1.1 (hs.2.1 i hi).1.2.2, if_pos h.1.1, m_101 h hs hi hb, onI_i, iB]
      by_cases c : mt B b s i
      · rw [decide_eq_true c, if_neg (by decide), g, if_pos rfl]
      · rw [decide_eq_false c, if_pos rfl, e_100_61, nI_1, if_neg (by decide)]) (by
      try dsimp only
      rw [e_100_30, aN_r (n := 38) (by rw [hs.1.1]; decide) hs.1.2.1, if_neg (nI_nlt (Nat.le_refl _) (by decide)), e_100_67]) 38 0 (by omega)
    refine key.trans ?_
    cases f : fi (fun i => decide (mt B b s i)) 0 38 with
    | none => rfl
    | some j => rfl
end E1
/-! a text and its things -/
abbrev TXT : Type := (Nat → Nat) × Nat × Nat × (Nat → Nat) × (Nat → Nat)
def tkN (t : TXT) : Nat := t.2.2.1
def tkE (t : TXT) (k : Nat) : Nat := gE t.2.1 (tkN t) t.2.2.2.1 k
def tkS (t : TXT) (k : Nat) : Nat := t.2.2.2.2 k
def tkG (t : TXT) (k : Nat) : Nat := if k < tkN t then sgN t.1 (tkE t k) (tkS t k) else 37
def vlF (B : Nat → Nat) (b : Nat) : Nat → Nat := fun s => fo (fun j v => 10 * v + B (b + j) - 48) 0 s 0
def tkV (t : TXT) (k : Nat) : Nat := vlF t.1 (tkE t k) (tkS t k)
def TxO (t : TXT) : Prop := Tok t.1 t.2.1 t.2.2.1 t.2.2.2.1 t.2.2.2.2 ∧ t.2.1 ≤ 400 ∧ ∀ k, k < 400 → t.1 k < 256
section E1b
variable {t : TXT}
theorem TxO.n (h : TxO t) : tkN t ≤ 400 := by have := h.1.1.1; have := h.2.1; unfold tkN; omega
theorem tkE_lt {k : Nat} (h : k < tkN t) : tkE t k = t.2.2.2.1 k := gE_lt h
theorem tkE_ge {k : Nat} (h : tkN t ≤ k) : tkE t k = t.2.1 := gE_ge h
theorem tkG_lt {k : Nat} (h : k < tkN t) : tkG t k = sgN t.1 (tkE t k) (tkS t k) := if_pos h
theorem tkG_ge {k : Nat} (h : tkN t ≤ k) : tkG t k = 37 := if_neg (by omega)
theorem tkG_l38 (k : Nat) : tkG t k < 38 := by
  unfold tkG
  split
  · exact sgN_lt _ _ _
  · omega
theorem TxO.k (h : TxO t) {k : Nat} (hk : k < tkN t) : (1 ≤ tkS t k ∧ tkE t k + tkS t k ≤ tkE t (k + 1) ∧ tkE t (k + 1) ≤ t.2.1) ∧ (∀ p, tkE t k + tkS t k ≤ p → p < tkE t (k + 1) → t.1 p = 32) ∧ kdN (t.1 (tkE t k)) ≠ 32 ∧
    (∀ p, tkE t k ≤ p → p < tkE t k + tkS t k → kdN (t.1 p) = kdN (t.1 (tkE t k))) ∧ (kdN (t.1 (tkE t k)) = 3 → tkS t k = 1) ∧ (tkE t k + tkS t k < t.2.1 → kdN (t.1 (tkE t k)) = 3 ∨ kdN (t.1 (tkE t k + tkS t k)) ≠ kdN (t.1 (tkE t k))) := by
  rw [tkE_lt hk]
  exact h.1.2 k hk
theorem TxO.e37 (h : TxO t) {k : Nat} : tkG t k = 37 ↔ tkN t ≤ k := by
  constructor
  · intro e
    rcases Nat.lt_or_ge k (tkN t) with z | z
    · rw [tkG_lt z] at e
      exact absurd e (sgN_37 (h.k z).1.1)
    · exact z
  · exact tkG_ge
theorem TxO.lt (h : TxO t) {k i : Nat} (e : tkG t k = i) (hi : i ≠ 37) : k < tkN t := by
  rcases Nat.lt_or_ge k (tkN t) with z | z
  · exact z
  · rw [tkG_ge z] at e; exact absurd e.symm hi
theorem vl_lt {B : Nat → Nat} {b : Nat} : ∀ s, s ≤ 3 → (∀ j, j < s → 48 ≤ B (b + j) ∧ B (b + j) ≤ 57) → vlF B b s ≤ 999
  | 0, _, _ => by show 0 ≤ 999; omega
  | 1, _, h => by have := h 0 (by omega); show 10 * 0 + B (b + 0) - 48 ≤ 999; omega
  | 2, _, h => by have := h 0 (by omega); have := h 1 (by omega); show 10 * (10 * 0 + B (b + 0) - 48) + B (b + 1) - 48 ≤ 999; omega
  | 3, _, h => by have := h 0 (by omega); have := h 1 (by omega); have := h 2 (by omega); show 10 * (10 * (10 * 0 + B (b + 0) - 48) + B (b + 1) - 48) + B (b + 2) - 48 ≤ 999; omega
  | s + 4, h, _ => by omega
theorem kd2 {b : Nat} : kdN b = 2 ↔ 48 ≤ b ∧ b ≤ 57 := by unfold kdN; (repeat' split) <;> omega
theorem kd1 {b : Nat} : kdN b = 1 ↔ 97 ≤ b ∧ b ≤ 122 := by unfold kdN; (repeat' split) <;> omega
theorem TxO.num (h : TxO t) {k : Nat} (e : tkG t k = 35) : k < tkN t ∧ tkS t k ≤ 3 ∧ (∀ p, tkE t k ≤ p → p < tkE t k + tkS t k → 48 ≤ t.1 p ∧ t.1 p ≤ 57) ∧ tkV t k ≤ 999 := by
  have hk := h.lt e (by omega)
  obtain ⟨⟨a1, a2, a3⟩, a4, a5, a6, a7, a8⟩ := h.k hk
  rw [tkG_lt hk] at e
  obtain ⟨e1, e2⟩ := (sgN_35 a1).mp e
  have d : ∀ p, tkE t k ≤ p → p < tkE t k + tkS t k → 48 ≤ t.1 p ∧ t.1 p ≤ 57 := fun p x y => kd2.mp ((a6 p x y).trans e1)
  exact ⟨hk, e2, d, vl_lt _ e2 fun j hj => d _ (by omega) (by omega)⟩
end E1b
