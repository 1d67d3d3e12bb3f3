/-! THE TEXTS: strings, things of a text -/
def chL (i : Nat) : List Int32 := (stE i).2.2
def chN (i k : Nat) : Nat := (nthD (chL i) k 0).toInt.toNat
def StrA (σ : SH) (a b i : Nat) : Prop := sT σ a = 113 ∧ sV σ a 0 = .ref b ∧ sI σ a 1 = 0 ∧ sT σ b = 5 ∧ sN σ b = (chL i).length ∧ ∀ k, sI σ b k = nthD (chL i) k 0
/-- what lies below 200 -/
def StA (σ : SH) : Prop := (sT σ 38 = 6 ∧ sN σ 38 = 38 ∧ ∀ i, i < 38 → sV σ 38 i = .ref i) ∧ (∀ i, i < 38 → (sT σ i = 109 ∧ sI σ i 1 = nthD sgC i 0 ∧ sV σ i 0 = .ref (40 + i)) ∧ StrA σ (40 + i) (80 + i) i) ∧ ∀ i, i < 29 → StrA σ (120 + i) (150 + i) (38 + i)
theorem StrA.lo {σ σ' : SH} {a b i : Nat} (h : StrA σ a b i) (g : Lo σ σ') (ha : a < 200) (hb : b < 200) : StrA σ' a b i := by
  obtain ⟨h1, h2, h3, h4, h5, h6⟩ := h
  exact ⟨(g a ha).1.trans h1, ((g a ha).2.2 0).1.trans h2, ((g a ha).2.2 1).2.trans h3, (g b hb).1.trans h4, (g b hb).2.1.trans h5, fun k => ((g b hb).2.2 k).2.trans (h6 k)⟩
theorem StA.lo {σ σ' : SH} (h : StA σ) (g : Lo σ σ') : StA σ' := by
  obtain ⟨⟨a1, a2, a3⟩, h2, h3⟩ := h
  refine ⟨⟨(g 38 (by omega)).1.trans a1, (g 38 (by omega)).2.1.trans a2, fun i hi => ((g 38 (by omega)).2.2 i).1.trans (a3 i hi)⟩, fun i hi => ⟨⟨?_, ?_, ?_⟩, (h2 i hi).2.lo g (by omega) (by omega)⟩, fun i hi => (h3 i hi).lo g (by omega) (by omega)⟩
  · exact (g i (by omega)).1.trans (h2 i hi).1.1
  · exact ((g i (by omega)).2.2 1).2.trans (h2 i hi).1.2.1
  · exact ((g i (by omega)).2.2 0).1.trans (h2 i hi).1.2.2
theorem Lo.e {σ σ' : SH} (e : σ'.2 = σ.2) (h : ∀ a k, a < 200 → sI σ' a k = sI σ a k) : Lo σ σ' := fun a ha => ⟨by unfold sT; rw [e], by unfold sN; rw [e], fun k => ⟨by unfold sV; rw [e], h a k ha⟩⟩
theorem ch_ok : ∀ i, i < 67 → ∀ k, k < (chL i).length → (i2c (i2c (nthD (chL i) k 0 &&& 255)) = i2c (nthD (chL i) k 0 &&& 255) ∧ i2c (i2c (nthD (chL i) k 0 &&& 255)) = i2c (nthD (chL i) k 0 &&& 255) ∧ i2c (nthD (chL i) k 0 &&& 255) = nI (chN i k)) ∧ chN i k < 128 := by decide +kernel
theorem ch_len : ∀ i, i < 67 → (chL i).length ≤ 6 := by decide +kernel
theorem shr_0 (x : Int32) : shr x 0 = x := by
  apply b_ext
  intro i hi
  unfold shr
  rw [show (0 : Int32) = nI 0 from rfl, b_sshr 0 (by omega) x hi, Nat.zero_add, if_pos hi]
section E0
variable {σ : SH} {a b i : Nat}
theorem m_318 (h : StrA σ a b i) : rn 318 [.ref a] σ = some (.inl (some (.int (nI (chL i).length))), σ) := by
  obtain ⟨h1, h2, h3, h4, h5, h6⟩ := h
  rw [r_318, gR_r h1 h2, aN_r (by rw [h4]; decide) h5, if_pos h1, r_319, if_neg (by decide), gI_r h1, h3, e_319_14, if_pos (by decide), onI_i, shr_0]
theorem m_320 (h : StrA σ a b i) (hi : i < 67) {k : Nat} (hk : k < (chL i).length) : rn 320 [.ref a, .int (nI k)] σ = some (.inl (some (.int (nI (chN i k)))), σ) := by
  obtain ⟨h1, h2, h3, h4, h5, h6⟩ := h
  have hl := ch_len i hi
  obtain ⟨⟨c1, c2, c3⟩, c4⟩ := ch_ok i hi k hk
  rw [r_320, if_pos h1, r_321, if_neg (by decide), gI_r h1, h3, if_pos rfl, e_321_18, if_pos (Or.inr rfl), onI_i, if_neg (by decide), gR_r h1 h2, r_323, aN_r (by rw [h4]; decide) h5, r_322, r_324, if_neg (nI_pos (by omega)), if_pos (nI_lt hk (by omega)), e_324_16, onI_i, onV_i, aI_r h4 (by rw [h5]; exact hk) (by rw [h5]; omega), h6, if_pos c1, onI_i, if_pos c2, c3]
end E0
/-! kinds of bytes -/
def kdN (b : Nat) : Nat := if b = 32 then 32 else if 97 ≤ b ∧ b ≤ 122 then 1 else if 48 ≤ b ∧ b ≤ 57 then 2 else 3
theorem kdN_le (b : Nat) : kdN b ≤ 32 := by unfold kdN; (repeat' split) <;> omega
theorem kdN_32 {b : Nat} : kdN b = 32 ↔ b = 32 := by unfold kdN; (repeat' split) <;> omega
theorem m_99 {b : Nat} (hb : b < 256) (σ : SH) : rn 99 [.int (nI b)] σ = some (.inl (some (.int (nI (kdN b)))), σ) := by
  rw [r_99]
  unfold kdN
  by_cases h1 : b = 32
  · rw [if_pos (by rw [h1]; rfl), if_pos h1]; rfl
  rw [if_neg (nI_nel (n := 32) h1 (by omega) (by decide)), if_neg h1, e_99_9]
  by_cases h2 : 97 ≤ b ∧ b ≤ 122
  · rw [if_neg (nI_nltl (n := 97) h2.1 (by omega)), if_neg (l_nlt (n := 122) h2.2 (by decide)), if_pos h2]; rfl
  rw [if_neg h2]
  have key : exec PP 1 99 23 [some (.int (nI b))] [] σ = some (.inl (some (.int (nI (if 48 ≤ b ∧ b ≤ 57 then 2 else 3)))), σ) := by
    rw [e_99_23]
    by_cases h3 : 48 ≤ b ∧ b ≤ 57
    · rw [if_neg (nI_nltl (n := 48) h3.1 (by omega)), if_neg (l_nlt (n := 57) h3.2 (by decide)), if_pos h3, e_99_40]; rfl
    rw [if_neg h3]
    by_cases h4 : b < 48
    · rw [if_pos (nI_ltl (n := 48) h4 (by decide)), e_99_39]; rfl
    · rw [if_neg (nI_nltl (n := 48) (by omega) (by omega)), if_pos (l_lt (n := 57) (by omega) (by omega)), e_99_39]; rfl
  by_cases h5 : b < 97
  · rw [if_pos (nI_ltl (n := 97) h5 (by decide)), key]
  · rw [if_neg (nI_nltl (n := 97) (by omega) (by omega)), if_pos (l_lt (n := 122) (by omega) (by omega)), key]
/-! things of a text: B its bytes, T how many, n things, thing k begins at g k and has s k bytes -/
def gE (T n : Nat) (g : Nat → Nat) (k : Nat) : Nat := if k < n then g k else T
theorem gE_lt {T n : Nat} {g : Nat → Nat} {k : Nat} (h : k < n) : gE T n g k = g k := if_pos h
theorem gE_ge {T n : Nat} {g : Nat → Nat} {k : Nat} (h : n ≤ k) : gE T n g k = T := if_neg (by omega)
def Tok (B : Nat → Nat) (T n : Nat) (g s : Nat → Nat) : Prop :=
  (n ≤ T ∧ gE T n g 0 ≤ T ∧ ∀ p, p < gE T n g 0 → B p = 32) ∧
  ∀ k, k < n → (1 ≤ s k ∧ g k + s k ≤ gE T n g (k + 1) ∧ gE T n g (k + 1) ≤ T) ∧ (∀ p, g k + s k ≤ p → p < gE T n g (k + 1) → B p = 32) ∧ kdN (B (g k)) ≠ 32 ∧
    (∀ p, g k ≤ p → p < g k + s k → kdN (B p) = kdN (B (g k))) ∧ (kdN (B (g k)) = 3 → s k = 1) ∧ (g k + s k < T → kdN (B (g k)) = 3 ∨ kdN (B (g k + s k)) ≠ kdN (B (g k)))
def upN (g : Nat → Nat) (n v : Nat) : Nat → Nat := fun k => if k = n then v else g k
theorem upN_s {g : Nat → Nat} {n v : Nat} : upN g n v n = v := if_pos rfl
theorem upN_n {g : Nat → Nat} {n v k : Nat} (h : k ≠ n) : upN g n v k = g k := if_neg h
section TK
variable {B : Nat → Nat} {i n : Nat} {g s : Nat → Nat}
theorem tok_0 : Tok B 0 0 g s := ⟨⟨by omega, by rw [gE_ge (by omega)]; omega, fun p hp => by rw [gE_ge (by omega)] at hp; omega⟩, fun k hk => by omega⟩
theorem tok_last (h : Tok B i n g s) (hi : 0 < i) (hb : kdN (B (i - 1)) ≠ 32) : 0 < n ∧ g (n - 1) + s (n - 1) = i := by
  obtain ⟨⟨h1, h2, h3⟩, h4⟩ := h
  by_cases z : 0 < n
  · refine ⟨z, ?_⟩
    obtain ⟨⟨a1, a2, a3⟩, a4, -⟩ := h4 (n - 1) (by omega)
    rw [show n - 1 + 1 = n by omega, gE_ge (Nat.le_refl _)] at a2 a3 a4
    by_cases e : g (n - 1) + s (n - 1) = i
    · exact e
    · exact absurd (kdN_32.mpr (a4 (i - 1) (by omega) (by omega))) hb
  · rw [gE_ge (by omega)] at h3
    exact absurd (kdN_32.mpr (h3 (i - 1) (by omega))) hb
theorem tok_blank (h : Tok B i n g s) (hb : B i = 32) : Tok B (i + 1) n g s := by
  obtain ⟨⟨h1, h2, h3⟩, h4⟩ := h
  refine ⟨⟨by omega, ?_, fun p hp => ?_⟩, fun k hk => ?_⟩
  · by_cases z : 0 < n
    · rw [gE_lt z] at h2 ⊢; omega
    · rw [gE_ge (by omega)]; omega
  · by_cases z : 0 < n
    · rw [gE_lt z] at h3 hp; exact h3 p hp
    · rw [gE_ge (by omega)] at h3 hp
      by_cases e : p = i
      · rw [e]; exact hb
      · exact h3 p (by omega)
  · obtain ⟨⟨a1, a2, a3⟩, a4, a5, a6, a7, a8⟩ := h4 k hk
    have l8 : g k + s k ≤ i → g k + s k < i + 1 → kdN (B (g k)) = 3 ∨ kdN (B (g k + s k)) ≠ kdN (B (g k)) := fun y x => by
      by_cases e : g k + s k < i
      · exact a8 e
      · rw [show g k + s k = i by omega, hb]
        exact Or.inr fun w => a5 w.symm
    by_cases z : k + 1 < n
    · rw [gE_lt z] at a2 a3 a4 ⊢
      exact ⟨⟨a1, a2, by omega⟩, a4, a5, a6, a7, l8 (by omega)⟩
    · rw [gE_ge (by omega)] at a2 a3 a4 ⊢
      refine ⟨⟨a1, by omega, by omega⟩, fun p x y => ?_, a5, a6, a7, l8 (by omega)⟩
      by_cases e : p = i
      · rw [e]; exact hb
      · exact a4 p x (by omega)
theorem tok_new (h : Tok B i n g s) (hb : kdN (B i) ≠ 32) (hn : kdN (B i) = 3 ∨ i = 0 ∨ kdN (B i) ≠ kdN (B (i - 1))) : Tok B (i + 1) (n + 1) (upN g n i) (upN s n 1) := by
  obtain ⟨⟨h1, h2, h3⟩, h4⟩ := h
  have e0 : gE (i + 1) (n + 1) (upN g n i) 0 = gE i n g 0 := by
    rw [gE_lt (by omega)]
    by_cases z : 0 < n
    · rw [gE_lt z, upN_n (by omega)]
    · rw [gE_ge (by omega), show n = 0 by omega, upN_s]
  refine ⟨⟨by omega, by rw [e0]; omega, by rw [e0]; exact h3⟩, fun k hk => ?_⟩
  by_cases ek : k = n
  · subst ek
    rw [upN_s, upN_s, gE_ge (by omega)]
    refine ⟨⟨by omega, by omega, by omega⟩, fun p x y => by omega, hb, fun p x y => by rw [show p = i by omega], fun _ => rfl, fun x => by omega⟩
  · obtain ⟨⟨a1, a2, a3⟩, a4, a5, a6, a7, a8⟩ := h4 k (by omega)
    have e1 : gE (i + 1) (n + 1) (upN g n i) (k + 1) = gE i n g (k + 1) := by
      rw [gE_lt (by omega)]
      by_cases z : k + 1 < n
      · rw [gE_lt z, upN_n (by omega)]
      · rw [gE_ge (by omega), show k + 1 = n by omega, upN_s]
    rw [upN_n ek, upN_n ek, e1]
    refine ⟨⟨a1, a2, by omega⟩, a4, a5, a6, a7, fun x => ?_⟩
    by_cases e : g k + s k < i
    · exact a8 e
    · have ei : g k + s k = i := by omega
      rw [ei]
      have e6 := a6 (i - 1) (by omega) (by omega)
      rcases hn with q | q | q
      · by_cases w : kdN (B (g k)) = 3
        · exact Or.inl w
        · exact Or.inr (by rw [q]; exact fun z => w z.symm)
      · omega
      · exact Or.inr (by rw [← e6]; exact q)
theorem tok_ext (h : Tok B i n g s) (hi : 0 < i) (hb : kdN (B i) ≠ 32) (h3 : kdN (B i) ≠ 3) (he : kdN (B i) = kdN (B (i - 1))) : 0 < n ∧ Tok B (i + 1) n g (upN s (n - 1) (s (n - 1) + 1)) := by
  obtain ⟨n0, el⟩ := tok_last h hi (by rw [← he]; exact hb)
  refine ⟨n0, ?_⟩
  obtain ⟨⟨b1, b2, b3⟩, b4⟩ := h
  have e0 : gE (i + 1) n g 0 = gE i n g 0 := by rw [gE_lt n0, gE_lt n0]
  refine ⟨⟨by omega, by rw [e0]; omega, by rw [e0]; exact b3⟩, fun k hk => ?_⟩
  obtain ⟨⟨a1, a2, a3⟩, a4, a5, a6, a7, a8⟩ := b4 k hk
  by_cases ek : k = n - 1
  · subst ek
    have e6 := a6 (i - 1) (by omega) (by omega)
    rw [upN_s, gE_ge (by omega)]
    refine ⟨⟨by omega, by omega, by omega⟩, fun p x y => by omega, a5, fun p x y => ?_, fun x => ?_, fun x => by omega⟩
    · by_cases ep : p = i
      · rw [ep, he, e6]
      · exact a6 p x (by omega)
    · exact absurd (he.trans (e6.trans x)) h3
  · have z : k + 1 < n := by omega
    rw [gE_lt z] at a2 a3 a4 ⊢
    rw [upN_n ek]
    obtain ⟨⟨c1, -, -⟩, -⟩ := b4 (n - 1) (by omega)
    have mono : ∀ j, k + 1 ≤ j → j < n → g (k + 1) ≤ g j := fun j => by
      induction j with
      | zero => intro x y; omega
      | succ j ih =>
        intro x y
        by_cases e : k + 1 = j + 1
        · rw [e]; exact Nat.le_refl _
        · have := ih (by omega) (by omega)
          obtain ⟨⟨d1, d2, d3⟩, -⟩ := b4 j (by omega)
          rw [gE_lt y] at d2
          omega
    have := mono (n - 1) (by omega) (by omega)
    exact ⟨⟨a1, a2, by omega⟩, a4, a5, a6, a7, fun x => a8 (by omega)⟩
end TK
