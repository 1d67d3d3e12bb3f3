/-! the class's object, its forecast, its market, its tape, its reader, its past -/
def isC (c : Nat) : Prop := c = 211 ∨ c = 237 ∨ c = 263 ∨ ∃ i, i < 12 ∧ c = 299 + 26 * i
def ShX (σ : SH) : Prop :=
  (sT σ 200 = 111 ∧ sV σ 200 0 = .ref 201 ∧ sV σ 200 1 = .ref 206 ∧ sV σ 200 2 = .ref 211 ∧ sV σ 200 3 = .ref 237 ∧ sV σ 200 4 = .ref 263 ∧ sV σ 200 5 = .ref 289 ∧ sV σ 200 6 = .ref 290 ∧ sV σ 200 7 = .ref 292) ∧
  (sT σ 201 = 110 ∧ sV σ 201 0 = .ref 202 ∧ sV σ 201 2 = .ref 203 ∧ sV σ 201 3 = .ref 204 ∧ sV σ 201 4 = .ref 205 ∧ sT σ 202 = 1 ∧ sN σ 202 = 400 ∧ sT σ 203 = 19 ∧ sN σ 203 = 401 ∧ sT σ 204 = 1 ∧ sN σ 204 = 401 ∧ sT σ 205 = 1 ∧ sN σ 205 = 401) ∧
  (sT σ 206 = 107 ∧ sV σ 206 0 = .ref 201 ∧ sV σ 206 1 = .ref 207 ∧ sV σ 206 2 = .ref 208 ∧ sV σ 206 3 = .ref 209 ∧ sV σ 206 4 = .ref 210 ∧ sT σ 207 = 19 ∧ sN σ 207 = 12 ∧ sT σ 208 = 1 ∧ sN σ 208 = 12 ∧ sT σ 209 = 1 ∧ sN σ 209 = 12 ∧ sT σ 210 = 1 ∧ sN σ 210 = 400) ∧
  (sT σ 289 = 11 ∧ sN σ 289 = 12 ∧ ∀ i, i < 12 → sV σ 289 i = .ref (299 + 26 * i)) ∧
  (sT σ 290 = 103 ∧ sV σ 290 0 = .ref 211 ∧ sV σ 290 1 = .ref 291 ∧ sT σ 291 = 1 ∧ sN σ 291 = 16) ∧
  (sT σ 292 = 106 ∧ sV σ 292 0 = .ref 211 ∧ sV σ 292 1 = .ref 290 ∧ sV σ 292 2 = .ref 293 ∧ sV σ 292 3 = .ref 294 ∧ sV σ 292 4 = .ref 295 ∧ sV σ 292 5 = .ref 296 ∧ sV σ 292 6 = .ref 297 ∧ sV σ 292 7 = .ref 298) ∧
  (sT σ 293 = 1 ∧ sT σ 294 = 1 ∧ sT σ 295 = 1 ∧ sT σ 296 = 1 ∧ sT σ 297 = 1 ∧ sT σ 298 = 1 ∧ sN σ 293 = 8 ∧ sN σ 294 = 8 ∧ sN σ 295 = 2 ∧ sN σ 296 = 4 ∧ sN σ 297 = 5 ∧ sN σ 298 = 32) ∧
  (sT σ 623 = 3 ∧ sN σ 623 = 1) ∧ ∀ c, isC c → ShC σ c
/-- tags, lengths, references below n are the same -/
def Ag (n : Nat) (σ σ' : SH) : Prop := ∀ a, a < n → sT σ' a = sT σ a ∧ sN σ' a = sN σ a ∧ ∀ k, ¬ (a = 237 ∧ k = 12) → ¬ a = 203 → ¬ a = 207 → sV σ' a k = sV σ a k
theorem isC_lt {c : Nat} (h : isC c) : 211 ≤ c ∧ c + 26 ≤ 611 := by
  rcases h with h | h | h | ⟨i, h, h'⟩ <;> omega
theorem isC_ne {c i : Nat} (h : isC c) (hi : i < 26) (hi0 : 0 < i) : c + i ≠ 237 := by
  rcases h with h | h | h | ⟨j, h, h'⟩ <;> omega
theorem ShC.ag {σ σ' : SH} {c : Nat} (h : ShC σ c) (g : Ag 624 σ σ') (hc : isC c) : ShC σ' c := by
  have hb := isC_lt hc
  have T : ∀ i, i < 26 → sT σ' (c + i) = sT σ (c + i) := fun i hi => (g _ (by omega)).1
  have N : ∀ i, i < 26 → sN σ' (c + i) = sN σ (c + i) := fun i hi => (g _ (by omega)).2.1
  have V : ∀ i k, i < 26 → (i = 0 → k ≠ 12) → sV σ' (c + i) k = sV σ (c + i) k := fun i k hi hk => (g _ (by omega)).2.2 k (fun q => by
    by_cases e : i = 0
    · exact hk e q.2
    · exact isC_ne hc hi (by omega) q.1) (by omega) (by omega)
  obtain ⟨⟨p1, p2, p3, p4, p5, p6⟩, ⟨q1, q2, q3, q4, q5, q6⟩, ⟨r1, r2, r3, r4, r5, r6⟩, s1, s2, s3⟩ := h
  refine ⟨⟨(T 0 (by omega)).trans p1, (V 0 0 (by omega) (by omega)).trans p2, (V 0 1 (by omega) (by omega)).trans p3, (V 0 2 (by omega) (by omega)).trans p4, (V 0 3 (by omega) (by omega)).trans p5, (V 0 13 (by omega) (by omega)).trans p6⟩, ⟨(T 1 (by omega)).trans q1, (N 1 (by omega)).trans q2, (T 2 (by omega)).trans q3, (N 2 (by omega)).trans q4, (T 3 (by omega)).trans q5, (N 3 (by omega)).trans q6⟩, ⟨(T 4 (by omega)).trans r1, (V 4 2 (by omega) (by omega)).trans r2, (T 5 (by omega)).trans r3, (N 5 (by omega)).trans r4, (T 6 (by omega)).trans r5, (N 6 (by omega)).trans r6⟩, fun i hi => ⟨(V 1 i (by omega) (by omega)).trans (s1 i hi).1, ?_⟩, fun i hi => ⟨(V 2 i (by omega) (by omega)).trans (s2 i hi).1, ?_⟩, fun i hi => ⟨(V 3 i (by omega) (by omega)).trans (s3 i hi).1, ?_⟩⟩
  · rw [show c + 7 + i = c + (7 + i) by omega, T _ (by omega), ← show c + 7 + i = c + (7 + i) by omega]; exact (s1 i hi).2
  · rw [show c + 13 + i = c + (13 + i) by omega, T _ (by omega), ← show c + 13 + i = c + (13 + i) by omega]; exact (s2 i hi).2
  · rw [show c + 18 + i = c + (18 + i) by omega, T _ (by omega), ← show c + 18 + i = c + (18 + i) by omega]; exact (s3 i hi).2
theorem ShX.ag {σ σ' : SH} (h : ShX σ) (g : Ag 624 σ σ') : ShX σ' := by
  have T : ∀ a, a < 624 → sT σ' a = sT σ a := fun a ha => (g a ha).1
  have N : ∀ a, a < 624 → sN σ' a = sN σ a := fun a ha => (g a ha).2.1
  have V : ∀ a k, a < 624 → a ≠ 237 → a ≠ 203 → a ≠ 207 → sV σ' a k = sV σ a k := fun a k ha h1 h2 h3 => (g a ha).2.2 k (by omega) h2 h3
  obtain ⟨h1, h2, h3, ⟨h4, h4b, h4c⟩, h5, h6, h7, h8, h9⟩ := h
  refine ⟨?_, ?_, ?_, ⟨?_, ?_, fun i hi => ?_⟩, ?_, ?_, ?_, ?_, fun c hc => (h9 c hc).ag g hc⟩
  · rw [T 200 (by decide), V 200 0, V 200 1, V 200 2, V 200 3, V 200 4, V 200 5, V 200 6, V 200 7] <;> first | exact h1 | decide
  · rw [T 201 (by decide), T 202 (by decide), T 203 (by decide), T 204 (by decide), T 205 (by decide), N 202 (by decide), N 203 (by decide), N 204 (by decide), N 205 (by decide), V 201 0, V 201 2, V 201 3, V 201 4] <;> first | exact h2 | decide
  · rw [T 206 (by decide), T 207 (by decide), T 208 (by decide), T 209 (by decide), T 210 (by decide), N 207 (by decide), N 208 (by decide), N 209 (by decide), N 210 (by decide), V 206 0, V 206 1, V 206 2, V 206 3, V 206 4] <;> first | exact h3 | decide
  · rw [T 289 (by decide)]; exact h4
  · rw [N 289 (by decide)]; exact h4b
  · rw [V 289 i (by decide) (by decide) (by decide) (by decide)]; exact h4c i hi
  · rw [T 290 (by decide), T 291 (by decide), N 291 (by decide), V 290 0, V 290 1] <;> first | exact h5 | decide
  · rw [T 292 (by decide), V 292 0, V 292 1, V 292 2, V 292 3, V 292 4, V 292 5, V 292 6, V 292 7] <;> first | exact h6 | decide
  · rw [T 293 (by decide), T 294 (by decide), T 295 (by decide), T 296 (by decide), T 297 (by decide), T 298 (by decide), N 293 (by decide), N 294 (by decide), N 295 (by decide), N 296 (by decide), N 297 (by decide), N 298 (by decide)]; exact h7
  · rw [T 623 (by decide), N 623 (by decide)]; exact h8
theorem ShM.ag {σ σ' : SH} (h : ShM σ) (g : Ag 624 σ σ') : ShM σ' := by
  have T : ∀ a, a < 624 → sT σ' a = sT σ a := fun a ha => (g a ha).1
  have N : ∀ a, a < 624 → sN σ' a = sN σ a := fun a ha => (g a ha).2.1
  have V : ∀ k, sV σ' 611 k = sV σ 611 k := fun k => (g 611 (by decide)).2.2 k (by omega) (by decide) (by decide)
  obtain ⟨h1, h2, h3⟩ := h
  refine ⟨?_, ?_, ?_⟩
  · rw [T 611 (by decide), V, V, V, V, V, V, V, V, V, V, V]; exact h1
  · rw [T 612 (by decide), T 613 (by decide), T 614 (by decide), T 615 (by decide), T 616 (by decide), T 617 (by decide), T 618 (by decide), T 619 (by decide), T 620 (by decide), T 621 (by decide), T 622 (by decide)]; exact h2
  · rw [N 612 (by decide), N 613 (by decide), N 614 (by decide), N 615 (by decide), N 616 (by decide), N 617 (by decide), N 618 (by decide), N 619 (by decide), N 620 (by decide), N 621 (by decide), N 622 (by decide)]; exact h3
/-! reads of these -/
section XR
variable {σ : SH}
theorem x0 (h : ShX σ) (k : Nat → SR) : gR σ 111 0 (.ref 200) k = k 201 := gR_r h.1.1 h.1.2.1
theorem x1 (h : ShX σ) (k : Nat → SR) : gR σ 111 1 (.ref 200) k = k 206 := gR_r h.1.1 h.1.2.2.1
theorem x2 (h : ShX σ) (k : Nat → SR) : gR σ 111 2 (.ref 200) k = k 211 := gR_r h.1.1 h.1.2.2.2.1
theorem x3 (h : ShX σ) (k : Nat → SR) : gR σ 111 3 (.ref 200) k = k 237 := gR_r h.1.1 h.1.2.2.2.2.1
theorem x4 (h : ShX σ) (k : Nat → SR) : gR σ 111 4 (.ref 200) k = k 263 := gR_r h.1.1 h.1.2.2.2.2.2.1
theorem x5 (h : ShX σ) (k : Nat → SR) : gR σ 111 5 (.ref 200) k = k 289 := gR_r h.1.1 h.1.2.2.2.2.2.2.1
theorem x6 (h : ShX σ) (k : Nat → SR) : gR σ 111 6 (.ref 200) k = k 290 := gR_r h.1.1 h.1.2.2.2.2.2.2.2.1
theorem x7 (h : ShX σ) (k : Nat → SR) : gR σ 111 7 (.ref 200) k = k 292 := gR_r h.1.1 h.1.2.2.2.2.2.2.2.2
theorem fc0 (h : ShX σ) (k : Nat → SR) : gR σ 103 0 (.ref 290) k = k 211 := gR_r h.2.2.2.2.1.1 h.2.2.2.2.1.2.1
theorem fc1 (h : ShX σ) (k : Nat → SR) : gR σ 103 1 (.ref 290) k = k 291 := gR_r h.2.2.2.2.1.1 h.2.2.2.2.1.2.2.1
theorem mk0 (h : ShX σ) (k : Nat → SR) : gR σ 106 0 (.ref 292) k = k 211 := gR_r h.2.2.2.2.2.1.1 h.2.2.2.2.2.1.2.1
theorem mk1 (h : ShX σ) (k : Nat → SR) : gR σ 106 1 (.ref 292) k = k 290 := gR_r h.2.2.2.2.2.1.1 h.2.2.2.2.2.1.2.2.1
theorem mk2 (h : ShX σ) (k : Nat → SR) : gR σ 106 2 (.ref 292) k = k 293 := gR_r h.2.2.2.2.2.1.1 h.2.2.2.2.2.1.2.2.2.1
theorem mk3 (h : ShX σ) (k : Nat → SR) : gR σ 106 3 (.ref 292) k = k 294 := gR_r h.2.2.2.2.2.1.1 h.2.2.2.2.2.1.2.2.2.2.1
theorem mk4 (h : ShX σ) (k : Nat → SR) : gR σ 106 4 (.ref 292) k = k 295 := gR_r h.2.2.2.2.2.1.1 h.2.2.2.2.2.1.2.2.2.2.2.1
theorem mk5 (h : ShX σ) (k : Nat → SR) : gR σ 106 5 (.ref 292) k = k 296 := gR_r h.2.2.2.2.2.1.1 h.2.2.2.2.2.1.2.2.2.2.2.2.1
theorem mk6 (h : ShX σ) (k : Nat → SR) : gR σ 106 6 (.ref 292) k = k 297 := gR_r h.2.2.2.2.2.1.1 h.2.2.2.2.2.1.2.2.2.2.2.2.2.1
theorem mk7 (h : ShX σ) (k : Nat → SR) : gR σ 106 7 (.ref 292) k = k 298 := gR_r h.2.2.2.2.2.1.1 h.2.2.2.2.2.1.2.2.2.2.2.2.2.2
theorem tp0 (h : ShX σ) (k : Nat → SR) : gR σ 110 0 (.ref 201) k = k 202 := gR_r h.2.1.1 h.2.1.2.1
theorem tpI (h : ShX σ) (f : Nat) (k : Int32 → SR) : gI σ 110 f (.ref 201) k = k (sI σ 201 f) := gI_r h.2.1.1
theorem xI (h : ShX σ) (f : Nat) (k : Int32 → SR) : gI σ 111 f (.ref 200) k = k (sI σ 200 f) := gI_r h.1.1
theorem fcI (h : ShX σ) (f : Nat) (k : Int32 → SR) : gI σ 103 f (.ref 290) k = k (sI σ 290 f) := gI_r h.2.2.2.2.1.1
theorem tpb (h : ShX σ) {j : Nat} (hj : j < 400) (k : Int32 → SR) : aI σ 1 (.ref 202) (nI j) k = k (sI σ 202 j) := aI_r h.2.1.2.2.2.2.2.1 (by rw [h.2.1.2.2.2.2.2.2.1]; exact hj) (by rw [h.2.1.2.2.2.2.2.2.1]; decide)
theorem tX (h : ShX σ) : sT σ 200 = 111 := h.1.1
theorem tTp (h : ShX σ) : sT σ 201 = 110 := h.2.1.1
theorem tRd (h : ShX σ) : sT σ 206 = 107 := h.2.2.1.1
theorem tFc (h : ShX σ) : sT σ 290 = 103 := h.2.2.2.2.1.1
theorem tMk (h : ShX σ) : sT σ 292 = 106 := h.2.2.2.2.2.1.1
theorem tCo (h : ShX σ) {c : Nat} (hc : isC c) : sT σ c = 101 := (h.2.2.2.2.2.2.2.2 c hc).1.1
theorem st_r (h : ShX σ) {j : Nat} (hj : j < 16) (k : Int32 → SR) : aI σ 1 (.ref 291) (nI j) k = k (sI σ 291 j) := aI_r h.2.2.2.2.1.2.2.2.1 (by rw [h.2.2.2.2.1.2.2.2.2]; exact hj) (by rw [h.2.2.2.2.1.2.2.2.2]; decide)
theorem st_w (h : ShX σ) {j : Nat} (hj : j < 16) (x : Int32) (k : SH → SR) : uI σ (.ref 291) (nI j) x k = k (wI σ 291 j x) := uI_r h.2.2.2.2.1.2.2.2.1 (by rw [h.2.2.2.2.1.2.2.2.2]; exact hj) (by rw [h.2.2.2.2.1.2.2.2.2]; decide)
end XR
theorem isC_now : isC 211 := Or.inl rfl
theorem isC_sp : isC 237 := Or.inr (Or.inl rfl)
theorem isC_kp : isC 263 := Or.inr (Or.inr (Or.inl rfl))
theorem isC_pa {i : Nat} (h : i < 12) : isC (299 + 26 * i) := Or.inr (Or.inr (Or.inr ⟨i, h, rfl⟩))
/-! laws' objects, told by their tags; all lie below the next address -/
def TG (σ : SH) : Prop := 624 ≤ sZ σ ∧ ∀ q, 624 ≤ q → q < sZ σ → sT σ q = 104 → q + 6 ≤ sZ σ ∧ sT σ (q + 1) = 19 ∧ sT σ (q + 2) = 1 ∧ sT σ (q + 3) = 1 ∧ sT σ (q + 4) = 1 ∧ sT σ (q + 5) = 1
/-- scratch -/
def Scr (σ : SH) (a k : Nat) : Prop := a = 217 ∨ (237 ≤ a ∧ a < 263) ∨ (a = 290 ∧ (k = 2 ∨ k = 3)) ∨ a = 291 ∨ (293 ≤ a ∧ a ≤ 298) ∨ (a = 611 ∧ (k = 0 ∨ k = 18 ∨ k = 19 ∨ k = 20)) ∨ a = 619 ∨ a = 620 ∨ a = 621 ∨ a = 622 ∨ a = 615 ∨ (629 ≤ a ∧ sT σ (a - 5) = 104)
/-- what a question leaves: all but scratch; one more cell at most, of a throw -/
def QS (σ σ' : SH) : Prop := (sZ σ ≤ sZ σ' ∧ sZ σ' ≤ sZ σ + 1 ∧ sS σ' ≤ sS σ + 6) ∧ (∀ a, a < sZ σ → (sT σ' a = sT σ a ∧ sN σ' a = sN σ a ∧ ∀ k, ¬ (a = 237 ∧ k = 12) → sV σ' a k = sV σ a k) ∧ ∀ k, ¬ Scr σ a k → sI σ' a k = sI σ a k) ∧ ∀ a, sZ σ ≤ a → a < sZ σ' → sT σ' a = 0
theorem QS.ag {σ σ' : SH} (h : QS σ σ') (g : TG σ) : Ag 624 σ σ' := fun a ha => by
  have := g.1
  obtain ⟨⟨h1, h2, h3⟩, -⟩ := h.2.1 a (by omega)
  exact ⟨h1, h2, fun k hk _ _ => h3 k hk⟩
theorem Scr_T {σ σ' : SH} {a k : Nat} (hT : ∀ b, b < sZ σ → sT σ' b = sT σ b) (ha : a < sZ σ) : Scr σ' a k ↔ Scr σ a k := by
  unfold Scr
  rw [hT (a - 5) (by omega)]
theorem Kp.qs {σ σ' : SH} (h : Kp (Scr σ) σ σ') : QS σ σ' := ⟨⟨by rw [h.Z]; exact Nat.le_refl _, by rw [h.Z]; omega, by rw [h.S]; omega⟩, fun a _ => ⟨⟨h.T a, h.N a, fun k _ => h.V a k⟩, fun k hk => h.2 a k hk⟩, fun a h1 h2 => by rw [h.Z] at h2; omega⟩
theorem QS.rf (σ : SH) : QS σ σ := Kp.qs (Kp.rf σ)
theorem QS.mk (σ : SH) : QS σ (mkC σ 0 0 6) := ⟨⟨Nat.le_succ _, Nat.le_refl _, Nat.le_refl _⟩, fun a ha => ⟨⟨if_neg (by omega), if_neg (by omega), fun k _ => if_neg (by omega)⟩, fun k _ => if_neg (by omega)⟩, fun a h1 h2 => if_pos (by
  have : sZ (mkC σ 0 0 6) = sZ σ + 1 := rfl
  omega)⟩
/-- a question behind one that has made no cell -/
theorem QS.tr {σ σ' σ'' : SH} (h : QS σ σ') (hz : sZ σ' = sZ σ) (hs : sS σ' = sS σ) (h' : QS σ' σ'') : QS σ σ'' := by
  obtain ⟨⟨a1, a2, a3⟩, a4, a5⟩ := h
  obtain ⟨⟨b1, b2, b3⟩, b4, b5⟩ := h'
  refine ⟨⟨by omega, by omega, by omega⟩, fun a ha => ?_, fun a h1 h2 => b5 a (by omega) h2⟩
  obtain ⟨⟨c1, c2, c3⟩, c4⟩ := a4 a ha
  obtain ⟨⟨d1, d2, d3⟩, d4⟩ := b4 a (by omega)
  refine ⟨⟨d1.trans c1, d2.trans c2, fun k hk => (d3 k hk).trans (c3 k hk)⟩, fun k hk => (d4 k fun q => hk ?_).trans (c4 k hk)⟩
  exact (Scr_T (fun b hb => (a4 b hb).1.1) ha).mp q
/-- a question behind which one comes that makes no cell -/
theorem QS.tr' {σ σ' σ'' : SH} (h : QS σ σ') (h' : QS σ' σ'') (hz : sZ σ'' = sZ σ') (hs : sS σ'' = sS σ') : QS σ σ'' := by
  obtain ⟨⟨a1, a2, a3⟩, a4, a5⟩ := h
  obtain ⟨⟨b1, b2, b3⟩, b4, b5⟩ := h'
  refine ⟨⟨by omega, by omega, by omega⟩, fun a ha => ?_, fun a h1 h2 => ?_⟩
  · obtain ⟨⟨c1, c2, c3⟩, c4⟩ := a4 a ha
    obtain ⟨⟨d1, d2, d3⟩, d4⟩ := b4 a (by omega)
    refine ⟨⟨d1.trans c1, d2.trans c2, fun k hk => (d3 k hk).trans (c3 k hk)⟩, fun k hk => (d4 k fun q => hk ?_).trans (c4 k hk)⟩
    exact (Scr_T (fun b hb => (a4 b hb).1.1) ha).mp q
  · rw [(b4 a (by omega)).1.1]; exact a5 a h1 (by omega)
theorem TG.qs {σ σ' : SH} (h : TG σ) (g : QS σ σ') : TG σ' := by
  obtain ⟨⟨a1, a2, a3⟩, a4, a5⟩ := g
  have T : ∀ b, b < sZ σ → sT σ' b = sT σ b := fun b hb => (a4 b hb).1.1
  refine ⟨by have := h.1; omega, fun q hq hq1 hq2 => ?_⟩
  by_cases hlt : q < sZ σ
  · rw [T q hlt] at hq2
    obtain ⟨b0, b1, b2, b3, b4, b5⟩ := h.2 q hq hlt hq2
    rw [T (q + 1) (by omega), T (q + 2) (by omega), T (q + 3) (by omega), T (q + 4) (by omega), T (q + 5) (by omega)]
    exact ⟨by omega, b1, b2, b3, b4, b5⟩
  · rw [a5 q (by omega) hq1] at hq2; cases hq2
/-! the question's ground: shapes, the county and the numbers, the same in both -/
def QQ (σ : SH) (W L : WW) : Prop := ShX σ ∧ CT σ 211 W L ∧ (ShM σ ∧ (W 4 = 1 → LWF L)) ∧ (sI σ 612 = W ∧ tx σ = L) ∧ TG σ
theorem LR.qs {σ σ' : SH} {q : Nat} {L : WW} (h : LR σ q L) (hq : 624 ≤ q) (hz : q < sZ σ) (g : TG σ) (k : QS σ σ') : LR σ' q L := by
  obtain ⟨t0, t1, t2, t3, t4, t5⟩ := g.2 q hq hz h.1.1
  obtain ⟨⟨z1, z2, z3⟩, k4, k5⟩ := k
  have T : ∀ i, i < 6 → sT σ' (q + i) = sT σ (q + i) := fun i hi => (k4 _ (by omega)).1.1
  have N : ∀ i, i < 6 → sN σ' (q + i) = sN σ (q + i) := fun i hi => (k4 _ (by omega)).1.2.1
  have V : ∀ i j, i < 6 → sV σ' (q + i) j = sV σ (q + i) j := fun i j hi => (k4 _ (by omega)).1.2.2 j (by omega)
  have I : ∀ i j, i < 5 → sI σ' (q + i) j = sI σ (q + i) j := fun i j hi => (k4 _ (by omega)).2 j (fun s => by
    have h6 : 629 ≤ q + i ∧ sT σ (q + i - 5) = 104 := by
      unfold Scr at s
      omega
    obtain ⟨u0, u1, u2, u3, u4, u5⟩ := g.2 (q + i - 5) (by omega) (by omega) h6.2
    have h104 := h.1.1
    rcases (by omega : i = 0 ∨ i = 1 ∨ i = 2 ∨ i = 3 ∨ i = 4) with e | e | e | e | e <;> subst e
    · rw [show q + 0 - 5 + 5 = q by omega] at u5; omega
    · rw [show q + 1 - 5 + 4 = q by omega] at u4; omega
    · rw [show q + 2 - 5 + 3 = q by omega] at u3; omega
    · rw [show q + 3 - 5 + 2 = q by omega] at u2; omega
    · rw [show q + 4 - 5 + 1 = q by omega] at u1; omega)
  obtain ⟨⟨p1, p2, p3, p4, p5, p6⟩, ⟨q1, q2, q3, q4, q5⟩, ⟨r1, r2, r3, r4, r5⟩, s1, s2, s3⟩ := h
  refine ⟨⟨(T 0 (by omega)).trans p1, (V 0 1 (by omega)).trans p2, (V 0 2 (by omega)).trans p3, (V 0 3 (by omega)).trans p4, (V 0 4 (by omega)).trans p5, (V 0 5 (by omega)).trans p6⟩, ⟨(T 1 (by omega)).trans q1, (T 2 (by omega)).trans q2, (T 3 (by omega)).trans q3, (T 4 (by omega)).trans q4, (T 5 (by omega)).trans q5⟩, ⟨(N 1 (by omega)).trans r1, (N 2 (by omega)).trans r2, (N 3 (by omega)).trans r3, (N 4 (by omega)).trans r4, (N 5 (by omega)).trans r5⟩, (I 0 0 (by omega)).trans s1, fun i hi => ⟨(V 1 i (by omega)).trans (s2 i hi).1, (I 2 i (by omega)).trans (s2 i hi).2.1, (I 3 i (by omega)).trans (s2 i hi).2.2⟩, fun j hj => (I 4 j (by omega)).trans (s3 j hj)⟩
/-- a county that isn't the spare one keeps its numbers and its law -/
theorem CW.qs {σ σ' : SH} {c : Nat} {W : WW} (h : CW σ c W) (hW : WF W) (hc : isC c) (h2 : c ≠ 237) (g : TG σ) (k : QS σ σ') : CW σ' c W := by
  have hb := isC_lt hc
  have hz := g.1
  have I : ∀ i j, i = 0 ∨ (7 ≤ i ∧ i < 26) → sI σ' (c + i) j = sI σ (c + i) j := fun i j hi => (k.2.1 _ (by omega)).2 j (fun s => by
    unfold Scr at s
    rcases hc with e | e | e | ⟨m, e1, e2⟩ <;> omega)
  obtain ⟨n1, n2⟩ := WF_nS hW
  obtain ⟨m1, m2⟩ := WF_nB hW
  obtain ⟨d1, d2⟩ := WF_nD hW
  obtain ⟨h1, h2, h3, h4⟩ := h
  refine ⟨?_, fun s f hs hf => ?_, fun b f hb hf => ?_, fun d f hd hf => ?_⟩
  · have I0 : ∀ j, sI σ' c j = sI σ c j := fun j => I 0 j (Or.inl rfl)
    simp only [I0]; exact h1
  · rw [show c + 7 + s = c + (7 + s) by omega, I _ f (by omega), ← show c + 7 + s = c + (7 + s) by omega]; exact h2 s f hs hf
  · rw [show c + 13 + b = c + (13 + b) by omega, I _ f (by omega), ← show c + 13 + b = c + (13 + b) by omega]; exact h3 b f hb hf
  · rw [show c + 18 + d = c + (18 + d) by omega, I _ f (by omega), ← show c + 18 + d = c + (18 + d) by omega]; exact h4 d f hd hf
theorem LawC.qs {σ σ' : SH} {c : Nat} {W L : WW} (h : LawC σ c W L) (hc : isC c) (h2 : c ≠ 237) (g : TG σ) (k : QS σ σ') : LawC σ' c W L := by
  have hb := isC_lt hc
  have hg := g.1
  have hv : sV σ' c 12 = sV σ c 12 := (k.2.1 c (by omega)).1.2.2 12 (by omega)
  rcases h with ⟨e1, e2⟩ | ⟨q, e1, e2, e3, e4, e5⟩
  · exact Or.inl ⟨hv.trans e1, e2⟩
  · have := k.1.1
    exact Or.inr ⟨q, by omega, hv.trans e2, e3.qs e1.1 (by omega) g k, e4, e5⟩
theorem SgC.qs {σ σ' : SH} (h : SgC σ) (g : TG σ) (k : QS σ σ') : SgC σ' := fun s hs => by
  have hg := g.1
  obtain ⟨⟨a1, -⟩, a2⟩ := k.2.1 s (by omega)
  rw [a1, a2 1 (fun z => by unfold Scr at z; omega)]
  exact h s hs
theorem CT.qs {σ σ' : SH} {c : Nat} {W L : WW} (h : CT σ c W L) (hc : isC c) (h2 : c ≠ 237) (g : TG σ) (k : QS σ σ') : CT σ' c W L := ⟨h.1.ag (k.ag g) hc, h.2.1.qs h.2.2.1 hc h2 g k, h.2.2.1, h.2.2.2.1.qs hc h2 g k, h.2.2.2.2.1.qs g k, h.2.2.2.2.2⟩
theorem qs_612 {σ σ' : SH} (g : TG σ) (k : QS σ σ') : sI σ' 612 = sI σ 612 := funext fun j => (k.2.1 612 (by have := g.1; omega)).2 j (fun z => by unfold Scr at z; omega)
theorem QQ.qs {σ σ' : SH} {W L : WW} (h : QQ σ W L) (k : QS σ σ') : QQ σ' W L := by
  obtain ⟨a1, a2, ⟨a3, a4⟩, ⟨a5, a6⟩, a7⟩ := h
  have e := qs_612 a7 k
  refine ⟨a1.ag (k.ag a7), a2.qs isC_now (by decide) a7 k, ⟨a3.ag (k.ag a7), a4⟩, ⟨e.trans a5, ?_⟩, a7.qs k⟩
  unfold tx
  rw [e]
  exact a6
theorem QQ.MT {σ : SH} {W L : WW} (h : QQ σ W L) : MT σ := by
  obtain ⟨a1, a2, ⟨a3, a4⟩, ⟨a5, a6⟩, a7⟩ := h
  refine ⟨a3, by rw [a5]; exact a2.2.2.1, ?_⟩
  rw [a5, a6]
  exact a4
theorem QQ.cj {σ : SH} {W L : WW} (h : QQ σ W L) : ∀ a k, CJ σ 211 a k → Scr σ a k := fun a k z => by
  unfold Scr
  rcases z with z | ⟨z1, z2⟩
  · omega
  · rcases h.2.1.2.2.2.1 with ⟨e1, e2⟩ | ⟨q, e1, e2, e3, e4, e5⟩
    · rw [e1] at z2; cases z2
    · rw [e2] at z2
      have this : (q : Nat) = a - 5 := Value.ref.inj z2
      have ht := e3.1.1
      rw [this] at ht
      omega
theorem MJ_scr (σ : SH) : ∀ a k, MJ a k → Scr σ a k := fun a k z => by
  unfold MJ at z
  unfold Scr
  omega
