/-! FUNCTIONAL PART: numbers, reads and writes of SM's heap, loops -/
theorem tA {a b : Int32} (h1 : -2147483648 ≤ a.toInt + b.toInt) (h2 : a.toInt + b.toInt ≤ 2147483647) : (a + b).toInt = a.toInt + b.toInt := by
  rw [Int32.toInt_add]; exact Int.bmod_eq_of_le (by omega) (by omega)
theorem tS {a b : Int32} (h1 : -2147483648 ≤ a.toInt - b.toInt) (h2 : a.toInt - b.toInt ≤ 2147483647) : (a - b).toInt = a.toInt - b.toInt := by
  rw [Int32.toInt_sub]; exact Int.bmod_eq_of_le (by omega) (by omega)
theorem tM {a b : Int32} (h1 : -2147483648 ≤ a.toInt * b.toInt) (h2 : a.toInt * b.toInt ≤ 2147483647) : (a * b).toInt = a.toInt * b.toInt := by
  rw [Int32.toInt_mul]; exact Int.bmod_eq_of_le (by omega) (by omega)
theorem tN {a : Int32} (h2 : -a.toInt ≤ 2147483647) : (-a).toInt = -a.toInt := by
  have := a.toInt_lt
  rw [Int32.toInt_neg]; exact Int.bmod_eq_of_le (by omega) (by omega)
theorem tlt {a b : Int32} : a < b ↔ a.toInt < b.toInt := Int32.lt_iff_toInt_lt
theorem tle {a b : Int32} : a ≤ b ↔ a.toInt ≤ b.toInt := Int32.le_iff_toInt_le
theorem teq {a b : Int32} : a = b ↔ a.toInt = b.toInt := Int32.toInt_inj.symm
theorem tnI {n : Nat} (h : n < 2147483648) : (nI n).toInt = n := nI_toInt h
theorem nI_lit (n : Nat) : (OfNat.ofNat n : Int32) = nI n := rfl
theorem nI_neg {n : Nat} (h : n < 2147483648) : nI n ≠ -1 := by
  intro e
  have h1 := tnI h
  rw [e] at h1
  have h2 : (-1 : Int32).toInt = -1 := by decide
  omega
theorem nI_neg' {n : Nat} (h : n < 2147483648) : (nI n = -1) = False := eq_false (nI_neg h)
theorem nI_nI {x : Int32} (h : 0 ≤ x.toInt) : x = nI x.toInt.toNat := by
  have := x.toInt_lt
  rw [teq, tnI (by omega)]; omega
theorem nI_cl {n : Nat} (h : n < 2147483648) : (nI n).toNatClampNeg = n := nI_clamp h
theorem bIn_nI {j n : Nat} (h : j < n) (hn : n < 2147483648) : bIn (nI j) n = true := by
  have h1 : ¬ nI j < 0 := nI_pos (by omega)
  have h2 : (nI j).toNatClampNeg = j := nI_clamp (by omega)
  simp [bIn, h1, h2, h]
/-! reads -/
section RD
variable {σ : SH} {a b t f : Nat} {i x : Int32}
theorem gI_r {k : Int32 → SR} (h : sT σ a = t) : gI σ t f (.ref a) k = k (sI σ a f) := if_pos h
theorem gR_r {k : Nat → SR} (h : sT σ a = t) (hv : sV σ a f = .ref b) : gR σ t f (.ref a) k = k b := (if_pos h).trans (by rw [hv]; rfl)
theorem gQ_r {kn : SR} {k : Nat → SR} (h : sT σ a = t) (hv : sV σ a f = .ref b) : gQ σ t f (.ref a) kn k = k b := (if_pos h).trans (by rw [hv]; rfl)
theorem gQ_n {kn : SR} {k : Nat → SR} (h : sT σ a = t) (hv : sV σ a f = .null) : gQ σ t f (.ref a) kn k = kn := (if_pos h).trans (by rw [hv]; rfl)
theorem pI_r {k : SH → SR} (h : sT σ a = t) : pI σ t f (.ref a) x k = k (wI σ a f x) := if_pos h
theorem pB_r {k : SH → SR} (h : sT σ a = t) (hx : x = 0 ∨ x = 1) : pB σ t f (.ref a) x k = k (wI σ a f x) := if_pos ⟨h, hx⟩
theorem pV_r {k : SH → SR} (h : sT σ a = t) : pV σ t f (.ref a) (.ref b) k = k (wV σ a f (.ref b)) := if_pos h
theorem aI_r {k : Int32 → SR} {j : Nat} (h : sT σ a = t) (hj : j < sN σ a) (hn : sN σ a < 2147483648) : aI σ t (.ref a) (nI j) k = k (sI σ a j) := (if_pos ⟨h, bIn_nI hj hn⟩).trans (by rw [nI_cl (by omega)])
theorem aJ_r {k : Int64 → SR} {j : Nat} (h : sT σ a = 3) (hj : j < sN σ a) (hn : sN σ a < 2147483648) : aJ σ (.ref a) (nI j) k = k (sJ σ a j) := (if_pos ⟨h, bIn_nI hj hn⟩).trans (by rw [nI_cl (by omega)])
theorem aR_r {k : Nat → SR} {j : Nat} (h : 10 ≤ sT σ a ∧ sT σ a < 100) (hj : j < sN σ a) (hn : sN σ a < 2147483648) (hv : sV σ a j = .ref b) : aR σ (.ref a) (nI j) k = k b := (if_pos ⟨h, bIn_nI hj hn⟩).trans (by rw [nI_cl (by omega), hv]; rfl)
theorem aS_r {k : Nat → SR} {j : Nat} (h : sT σ a = 6) (hj : j < sN σ a) (hn : sN σ a < 2147483648) (hv : sV σ a j = .ref b) : aS σ (.ref a) (nI j) k = k b := (if_pos ⟨h, bIn_nI hj hn⟩).trans (by rw [nI_cl (by omega), hv]; rfl)
theorem uI_r {k : SH → SR} {j : Nat} (h : sT σ a = 1) (hj : j < sN σ a) (hn : sN σ a < 2147483648) : uI σ (.ref a) (nI j) x k = k (wI σ a j x) := (if_pos ⟨h, bIn_nI hj hn⟩).trans (by rw [nI_cl (by omega)])
theorem uB_r {k : SH → SR} {j : Nat} (h : sT σ a = 2) (hj : j < sN σ a) (hn : sN σ a < 2147483648) : uB σ (.ref a) (nI j) x k = k (wI σ a j (i2b x)) := (if_pos ⟨h, bIn_nI hj hn⟩).trans (by rw [nI_cl (by omega)])
theorem uJ_r {k : SH → SR} {y : Int64} {j : Nat} (h : sT σ a = 3) (hj : j < sN σ a) (hn : sN σ a < 2147483648) : uJ σ (.ref a) (nI j) y k = k (wJ σ a j y) := (if_pos ⟨h, bIn_nI hj hn⟩).trans (by rw [nI_cl (by omega)])
theorem uR_r {k : SH → SR} {j : Nat} (h : 10 ≤ sT σ a ∧ sT σ a < 23) (hb : sT σ b = sT σ a + 90) (hj : j < sN σ a) (hn : sN σ a < 2147483648) : uR σ (.ref a) (nI j) (.ref b) k = k (wV σ a j (.ref b)) := (if_pos ⟨h, hb, bIn_nI hj hn⟩).trans (by rw [nI_cl (by omega)])
theorem aN_r {k : Int32 → SR} {n : Nat} (h : (1 ≤ sT σ a ∧ sT σ a ≤ 6) ∨ (10 ≤ sT σ a ∧ sT σ a < 100)) (hn : sN σ a = n) : aN σ (.ref a) k = k (nI n) := (if_pos h).trans (by rw [hn]; rfl)
theorem nwA_r {k : Nat → SH → SR} {n : Nat} (hn : n ≤ 60000) : nwA σ t (nI n) k = k (sZ σ) (mkC σ t n n) := by
  have h1 : ¬ nI n < 0 := nI_pos (by omega)
  have h2 : (nI n).toNatClampNeg = n := nI_clamp (by omega)
  unfold nwA
  rw [if_neg (by rw [h2]; exact fun q => q.elim h1 (by omega)), h2]
end RD
theorem onI_i {x : Int32} {σ : SH} {k : Int32 → SH → SR} {kx : Nat → SH → SR} : onI (some (.inl (some (.int x)), σ)) k kx = k x σ := rfl
theorem onI_x {e : Nat} {σ : SH} {k : Int32 → SH → SR} {kx : Nat → SH → SR} : onI (some (.inr e, σ)) k kx = kx e σ := rfl
theorem onV_i {σ : SH} {k : SH → SR} {kx : Nat → SH → SR} : onV (some (.inl none, σ)) k kx = k σ := rfl
theorem onV_x {e : Nat} {σ : SH} {k : SH → SR} {kx : Nat → SH → SR} : onV (some (.inr e, σ)) k kx = kx e σ := rfl
theorem onR_i {a : Nat} {σ : SH} {k : Nat → SH → SR} {kx : Nat → SH → SR} : onR (some (.inl (some (.ref a)), σ)) k kx = k a σ := rfl
theorem onQ_i {a : Nat} {σ : SH} {kn : SH → SR} {k : Nat → SH → SR} {kx : Nat → SH → SR} : onQ (some (.inl (some (.ref a)), σ)) kn k kx = k a σ := rfl
theorem onQ_n {σ : SH} {kn : SH → SR} {k : Nat → SH → SR} {kx : Nat → SH → SR} : onQ (some (.inl (some .null), σ)) kn k kx = kn σ := rfl
/-! writes -/
theorem sT_wI (σ : SH) (a k : Nat) (x : Int32) (b : Nat) : sT (wI σ a k x) b = sT σ b := rfl
theorem sN_wI (σ : SH) (a k : Nat) (x : Int32) (b : Nat) : sN (wI σ a k x) b = sN σ b := rfl
theorem sV_wI (σ : SH) (a k : Nat) (x : Int32) (b j : Nat) : sV (wI σ a k x) b j = sV σ b j := rfl
theorem sI_wI (σ : SH) (a k : Nat) (x : Int32) (b j : Nat) : sI (wI σ a k x) b j = if b = a ∧ j = k then x else sI σ b j := rfl
theorem sI_wIs (σ : SH) (a k : Nat) (x : Int32) : sI (wI σ a k x) a k = x := if_pos ⟨rfl, rfl⟩
theorem sI_wIn {σ : SH} {a k : Nat} {x : Int32} {b j : Nat} (h : ¬ (b = a ∧ j = k)) : sI (wI σ a k x) b j = sI σ b j := if_neg h
theorem tau_wI (σ : SH) (a k : Nat) (x : Int32) : (wI σ a k x).2 = σ.2 := rfl
/-- nothing but ints, and of these none but such places -/
def Kp (P : Nat → Nat → Prop) (σ σ' : SH) : Prop := σ'.2 = σ.2 ∧ ∀ a k, ¬ P a k → sI σ' a k = sI σ a k
theorem Kp.rf {P : Nat → Nat → Prop} (σ : SH) : Kp P σ σ := ⟨rfl, fun _ _ _ => rfl⟩
theorem Kp.tr {P : Nat → Nat → Prop} {σ σ' σ'' : SH} (h : Kp P σ σ') (h' : Kp P σ' σ'') : Kp P σ σ'' := ⟨h'.1.trans h.1, fun a k n => (h'.2 a k n).trans (h.2 a k n)⟩
theorem Kp.mono {P Q : Nat → Nat → Prop} {σ σ' : SH} (h : Kp P σ σ') (hPQ : ∀ a k, P a k → Q a k) : Kp Q σ σ' := ⟨h.1, fun a k n => h.2 a k fun p => n (hPQ a k p)⟩
theorem Kp.w {P : Nat → Nat → Prop} {σ : SH} {a k : Nat} {x : Int32} (h : P a k) : Kp P σ (wI σ a k x) := ⟨rfl, fun b j n => sI_wIn fun q => n (by rw [q.1, q.2]; exact h)⟩
theorem Kp.wr {P : Nat → Nat → Prop} {σ σ' : SH} {a k : Nat} {x : Int32} (h : Kp P σ σ') (hp : P a k) : Kp P σ (wI σ' a k x) := h.tr (Kp.w hp)
theorem Kp.T {P : Nat → Nat → Prop} {σ σ' : SH} (h : Kp P σ σ') (a : Nat) : sT σ' a = sT σ a := by unfold sT; rw [h.1]
theorem Kp.N {P : Nat → Nat → Prop} {σ σ' : SH} (h : Kp P σ σ') (a : Nat) : sN σ' a = sN σ a := by unfold sN; rw [h.1]
theorem Kp.V {P : Nat → Nat → Prop} {σ σ' : SH} (h : Kp P σ σ') (a k : Nat) : sV σ' a k = sV σ a k := by unfold sV; rw [h.1]
theorem Kp.J {P : Nat → Nat → Prop} {σ σ' : SH} (h : Kp P σ σ') (a k : Nat) : sJ σ' a k = sJ σ a k := by unfold sJ; rw [h.1]
theorem Kp.Z {P : Nat → Nat → Prop} {σ σ' : SH} (h : Kp P σ σ') : sZ σ' = sZ σ := by unfold sZ; rw [h.1]
theorem Kp.S {P : Nat → Nat → Prop} {σ σ' : SH} (h : Kp P σ σ') : sS σ' = sS σ := by unfold sS; rw [h.1]
/-! loops -/
/-- k steps from i on -/
def fo {α : Type} (g : Nat → α → α) : Nat → Nat → α → α
  | _, 0, a => a
  | i, k + 1, a => fo g (i + 1) k (g i a)
theorem fo_cong {α : Type} {g g' : Nat → α → α} : ∀ (k i : Nat) (a : α), (∀ j b, i ≤ j → j < i + k → g j b = g' j b) → fo g i k a = fo g' i k a
  | 0, _, _, _ => rfl
  | k + 1, i, a, h => by
    show fo g (i + 1) k (g i a) = fo g' (i + 1) k (g' i a)
    rw [h i a (Nat.le_refl _) (by omega)]
    exact fo_cong k (i + 1) _ fun j b h1 h2 => h j b (by omega) (by omega)
theorem fo_inv {α : Type} {g : Nat → α → α} {I : Nat → α → Prop} : ∀ (k i : Nat) (a : α), I i a → (∀ j b, i ≤ j → j < i + k → I j b → I (j + 1) (g j b)) → I (i + k) (fo g i k a)
  | 0, _, _, h, _ => h
  | k + 1, i, a, h, hs => by
    show I (i + (k + 1)) (fo g (i + 1) k (g i a))
    rw [show i + (k + 1) = i + 1 + k by omega]
    exact fo_inv k (i + 1) _ (hs i a (Nat.le_refl _) (by omega) h) fun j b h1 h2 => hs j b (by omega) (by omega)
/-- a loop that leaves the heap as it is -/
theorem lp0 {α : Type} {F : Nat → α → SR} {g : Nat → α → α} {K : α → SR} {n : Nat} (hs : ∀ i a, i < n → F i a = F (i + 1) (g i a)) (he : ∀ a, F n a = K a) : ∀ (k i : Nat) (a : α), i + k = n → F i a = K (fo g i k a)
  | 0, i, a, h => by
    have : i = n := by omega
    subst this
    exact he a
  | k + 1, i, a, h => by
    rw [hs i a (by omega)]
    exact lp0 hs he k (i + 1) (g i a) (by omega)
/-- .. whose numbers keep something -/
theorem lpI {α : Type} {F : Nat → α → SR} {g : Nat → α → α} {K : α → SR} {I : Nat → α → Prop} {n : Nat} (hs : ∀ i a, i < n → I i a → F i a = F (i + 1) (g i a) ∧ I (i + 1) (g i a)) (he : ∀ a, I n a → F n a = K a) : ∀ (k i : Nat) (a : α), i + k = n → I i a → F i a = K (fo g i k a)
  | 0, i, a, h, hI => by
    have : i = n := by omega
    subst this
    exact he a hI
  | k + 1, i, a, h, hI => by
    obtain ⟨h1, h2⟩ := hs i a (by omega) hI
    rw [h1]
    exact lpI hs he k (i + 1) (g i a) (by omega) h2
/-- a loop that changes the heap -/
theorem lpS {α : Type} {F : Nat → α → SH → SR} {g : Nat → α → α} {K : α → SH → SR} {I : Nat → α → SH → Prop} {n : Nat} (hs : ∀ i a σ, i < n → I i a σ → ∃ σ', F i a σ = F (i + 1) (g i a) σ' ∧ I (i + 1) (g i a) σ') (he : ∀ a σ, I n a σ → F n a σ = K a σ) : ∀ (k i : Nat) (a : α) (σ : SH), i + k = n → I i a σ → ∃ σ', F i a σ = K (fo g i k a) σ' ∧ I n (fo g i k a) σ'
  | 0, i, a, σ, h, hI => by
    have : i = n := by omega
    subst this
    exact ⟨σ, he a σ hI, hI⟩
  | k + 1, i, a, σ, h, hI => by
    obtain ⟨σ', h1, h2⟩ := hs i a σ (by omega) hI
    obtain ⟨σ'', h3, h4⟩ := lpS hs he k (i + 1) (g i a) σ' (by omega) h2
    exact ⟨σ'', h1.trans h3, h4⟩
/-- the first of k places from i on -/
def fi (p : Nat → Bool) : Nat → Nat → Option Nat
  | _, 0 => none
  | i, k + 1 => if p i = true then some i else fi p (i + 1) k
theorem fi_cong {p q : Nat → Bool} : ∀ (k i : Nat), (∀ j, i ≤ j → j < i + k → p j = q j) → fi p i k = fi q i k
  | 0, _, _ => rfl
  | k + 1, i, h => by
    unfold fi
    rw [h i (Nat.le_refl _) (by omega), fi_cong k (i + 1) fun j h1 h2 => h j (by omega) (by omega)]
theorem fi_some {p : Nat → Bool} : ∀ (k i j : Nat), fi p i k = some j → p j = true ∧ i ≤ j ∧ j < i + k ∧ ∀ q, i ≤ q → q < j → p q = false
  | 0, _, _, h => by cases h
  | k + 1, i, j, h => by
    unfold fi at h
    split at h
    · rename_i hp
      cases h
      exact ⟨hp, Nat.le_refl _, by omega, fun q h1 h2 => by omega⟩
    · rename_i hp
      obtain ⟨h1, h2, h3, h4⟩ := fi_some k (i + 1) j h
      refine ⟨h1, by omega, by omega, fun q h5 h6 => ?_⟩
      by_cases e : q = i
      · subst e; simpa using hp
      · exact h4 q (by omega) h6
theorem fi_none {p : Nat → Bool} : ∀ (k i : Nat), fi p i k = none → ∀ q, i ≤ q → q < i + k → p q = false
  | 0, _, _, q, h1, h2 => by omega
  | k + 1, i, h, q, h1, h2 => by
    unfold fi at h
    split at h
    · cases h
    · rename_i hp
      by_cases e : q = i
      · subst e; simpa using hp
      · exact fi_none k (i + 1) h q (by omega) (by omega)
/-- a loop that may end early -/
theorem lpE {F : Nat → SR} {p : Nat → Bool} {R : Nat → SR} {K : SR} {n : Nat} (hs : ∀ i, i < n → F i = if p i = true then R i else F (i + 1)) (he : F n = K) : ∀ (k i : Nat), i + k = n → F i = (match fi p i k with
    | some j => R j
    | none => K)
  | 0, i, h => by
    have : i = n := by omega
    subst this
    exact he
  | k + 1, i, h => by
    rw [hs i (by omega)]
    unfold fi
    split
    · rfl
    · exact lpE hs he k (i + 1) (by omega)
