/-! the class's readers of things -/
theorem wI_wI (σ : SH) (a k : Nat) (x y : Int32) : wI (wI σ a k x) a k y = wI σ a k y := by
  refine Prod.ext ?_ rfl
  funext b j
  show (if b = a ∧ j = k then y else if b = a ∧ j = k then x else σ.1 b j) = if b = a ∧ j = k then y else σ.1 b j
  split <;> rfl
theorem wI_cm {σ : SH} {a k b j : Nat} {x y : Int32} (h : ¬ (a = b ∧ k = j)) : wI (wI σ a k x) b j y = wI (wI σ b j y) a k x := by
  refine Prod.ext ?_ rfl
  funext c i
  show (if c = b ∧ i = j then y else if c = a ∧ i = k then x else σ.1 c i) = if c = a ∧ i = k then x else if c = b ∧ i = j then y else σ.1 c i
  by_cases h1 : c = b ∧ i = j
  · rw [if_pos h1, if_neg (fun z => h ⟨z.1.symm.trans h1.1, z.2.symm.trans h1.2⟩), if_pos h1]
  · rw [if_neg h1, if_neg h1]
theorem nI_sub {a b : Nat} (h : b ≤ a) : nI a - nI b = nI (a - b) := by
  have : nI a = nI (a - b) + nI b := by rw [nI_add, Nat.sub_add_cancel h]
  rw [this, Int32.add_sub_cancel]
/-- the tape at thing k, its number v -/
def TS (σ : SH) (k v : Nat) : SH := wI (wI σ 201 6 (nI k)) 201 7 (nI v)
theorem TS_6 (σ : SH) (k v k' : Nat) : wI (TS σ k v) 201 6 (nI k') = TS σ k' v := by
  unfold TS
  rw [wI_cm (by omega), wI_wI]
theorem TS_7 (σ : SH) (k v v' : Nat) : wI (TS σ k v) 201 7 (nI v') = TS σ k v' := wI_wI _ _ _ _ _
theorem TS_w {σ : SH} {k v a j : Nat} {x : Int32} (h : a ≠ 201) : wI (TS σ k v) a j x = TS (wI σ a j x) k v := by
  unfold TS
  rw [wI_cm (a := 201) (k := 7) (by omega), wI_cm (a := 201) (k := 6) (by omega)]
theorem TS_i {σ : SH} {k v a j : Nat} (h : ¬ (a = 201 ∧ (j = 6 ∨ j = 7))) : sI (TS σ k v) a j = sI σ a j := by
  unfold TS
  rw [sI_wIn (by omega), sI_wIn (by omega)]
theorem TS_k (σ : SH) (k v : Nat) : sI (TS σ k v) 201 6 = nI k := by unfold TS; rw [sI_wIn (by omega), sI_wIs]
theorem TS_v (σ : SH) (k v : Nat) : sI (TS σ k v) 201 7 = nI v := sI_wIs _ _ _ _
theorem TS_e {σ : SH} {k v : Nat} (hk : sI σ 201 6 = nI k) (hv : sI σ 201 7 = nI v) : TS σ k v = σ := by
  refine Prod.ext ?_ rfl
  funext a j
  show (if a = 201 ∧ j = 7 then nI v else if a = 201 ∧ j = 6 then nI k else σ.1 a j) = σ.1 a j
  split
  · rename_i h; rw [h.1, h.2]; exact hv.symm
  · split
    · rename_i h; rw [h.1, h.2]; exact hk.symm
    · rfl
section E3
variable {σ : SH} {t : TXT} {k v : Nat}
theorem m_102 (h : TkC σ t) (hk : k ≤ tkN t) : rn 102 [.ref 201] (TS σ k v) = some (.inl (some (.ref (tkG t k))), TS σ k v) := by
  obtain ⟨b, tx, h5, h3, h4⟩ := h
  have n4 := tx.n
  rw [r_102, gR_r (show sT (TS σ k v) 201 = 110 from b.1.1) (show sV (TS σ k v) 201 2 = _ from b.1.2.2.1), gI_r (show sT (TS σ k v) 201 = 110 from b.1.1), TS_k, aR_r (σ := TS σ k v) (b := tkG t k) (by rw [show sT (TS σ k v) 203 = 19 from b.2.1.2.2.1]; decide) (by rw [show sN (TS σ k v) 203 = 401 from b.2.1.2.2.2.1]; omega) (by rw [show sN (TS σ k v) 203 = 401 from b.2.1.2.2.2.1]; decide) (h3 k hk).1]
theorem m_103y (h : TkC σ t) {i : Nat} (e : tkG t k = i) (hi : i ≠ 37) : rn 103 [.ref 201, .ref i] (TS σ k v) = some (.inl (some (.int 1)), TS σ (k + 1) v) := by
  obtain ⟨b, tx, h5, h3, h4⟩ := h
  have n4 := tx.n
  have hk := tx.lt e hi
  have l := tkG_l38 (t := t) k
  have tt : sT (TS σ k v) 201 = 110 := b.1.1
  rw [r_103, gR_r tt (show sV (TS σ k v) 201 2 = _ from b.1.2.2.1), gI_r tt, TS_k, aR_r (σ := TS σ k v) (b := tkG t k) (by rw [show sT (TS σ k v) 203 = 19 from b.2.1.2.2.1]; decide) (by rw [show sN (TS σ k v) 203 = 401 from b.2.1.2.2.2.1]; omega) (by rw [show sN (TS σ k v) 203 = 401 from b.2.1.2.2.2.1]; decide) (h3 k (by omega)).1, if_pos ⟨l, by omega⟩, if_pos e, gI_r tt, gI_r tt, TS_k, TS_i (by omega), h5, if_pos (nI_lt hk (by omega)), e_103_26, gI_r tt, TS_k, nI_1, pI_r tt, TS_6]
theorem m_103n (h : TkC σ t) {i : Nat} (e : tkG t k ≠ i) (hi : i < 38) (hk : k ≤ tkN t) : rn 103 [.ref 201, .ref i] (TS σ k v) = some (.inl (some (.int 0)), TS σ k v) := by
  obtain ⟨b, tx, h5, h3, h4⟩ := h
  have n4 := tx.n
  have l := tkG_l38 (t := t) k
  have tt : sT (TS σ k v) 201 = 110 := b.1.1
  rw [r_103, gR_r tt (show sV (TS σ k v) 201 2 = _ from b.1.2.2.1), gI_r tt, TS_k, aR_r (σ := TS σ k v) (b := tkG t k) (by rw [show sT (TS σ k v) 203 = 19 from b.2.1.2.2.1]; decide) (by rw [show sN (TS σ k v) 203 = 401 from b.2.1.2.2.2.1]; omega) (by rw [show sN (TS σ k v) 203 = 401 from b.2.1.2.2.2.1]; decide) (h3 k (by omega)).1, if_pos ⟨l, hi⟩, if_neg e, e_103_24]
theorem m_105 (h : TkC σ t) (hk : k ≤ tkN t) : rn 105 [.ref 201] (TS σ k v) = some (.inl (some (.int (nI (tkE t k)))), TS σ k v) := by
  obtain ⟨b, tx, h5, h3, h4⟩ := h
  have n4 := tx.n
  have tt : sT (TS σ k v) 201 = 110 := b.1.1
  rw [r_105, gR_r tt (show sV (TS σ k v) 201 3 = _ from b.1.2.2.2.1), gI_r tt, TS_k, aI_r (show sT (TS σ k v) 204 = 1 from b.2.1.2.2.2.2.1) (by rw [show sN (TS σ k v) 204 = 401 from b.2.1.2.2.2.2.2.1]; omega) (by rw [show sN (TS σ k v) 204 = 401 from b.2.1.2.2.2.2.2.1]; decide), TS_i (by omega), (h3 k hk).2]
theorem m_104' (h : TkC σ t) (e : tkG t k = 35) {lo hi : Nat} : rn 104 [.ref 201, .int (nI lo), .int (nI hi)] (TS σ k v) = exec PP 1 104 68 [some (.ref 201), some (.int (nI lo)), some (.int (nI hi)), some (.int (nI (tkV t k))), some (.int (nI (tkS t k)))] [] (TS σ k v) := by
  obtain ⟨b, tx, h5, h3, h4⟩ := h
  have n4 := tx.n
  obtain ⟨hk, hs, hd, hv⟩ := tx.num e
  obtain ⟨⟨a1, a2, a3⟩, -⟩ := tx.k hk
  have hT := tx.2.1
  have tt : sT (TS σ k v) 201 = 110 := b.1.1
  rw [r_104, gR_r tt (show sV (TS σ k v) 201 2 = _ from b.1.2.2.1), gI_r tt, TS_k, aR_r (σ := TS σ k v) (b := tkG t k) (by rw [show sT (TS σ k v) 203 = 19 from b.2.1.2.2.1]; decide) (by rw [show sN (TS σ k v) 203 = 401 from b.2.1.2.2.2.1]; omega) (by rw [show sN (TS σ k v) 203 = 401 from b.2.1.2.2.2.1]; decide) (h3 k (by omega)).1, if_pos ⟨by omega, by omega⟩, if_pos e, e_104_17]
  have rs : ∀ c : Int32 → SR, aI (TS σ k v) 1 (.ref 205) (nI k) c = c (nI (tkS t k)) := fun c => by
    rw [aI_r (show sT (TS σ k v) 205 = 1 from b.2.1.2.2.2.2.2.2.1) (by rw [show sN (TS σ k v) 205 = 401 from b.2.1.2.2.2.2.2.2.2]; omega) (by rw [show sN (TS σ k v) 205 = 401 from b.2.1.2.2.2.2.2.2.2]; decide), TS_i (by omega), h4 k hk]
  have rb : ∀ c : Int32 → SR, aI (TS σ k v) 1 (.ref 204) (nI k) c = c (nI (tkE t k)) := fun c => by
    rw [aI_r (show sT (TS σ k v) 204 = 1 from b.2.1.2.2.2.2.1) (by rw [show sN (TS σ k v) 204 = 401 from b.2.1.2.2.2.2.2.1]; omega) (by rw [show sN (TS σ k v) 204 = 401 from b.2.1.2.2.2.2.2.1]; decide), TS_i (by omega), (h3 k (by omega)).2]
  have ry : ∀ (p : Nat) (c : Int32 → SR), p < 400 → aI (TS σ k v) 1 (.ref 202) (nI p) c = c (nI (t.1 p)) := fun p c hp => by
    rw [aI_r (show sT (TS σ k v) 202 = 1 from b.2.1.1) (by rw [show sN (TS σ k v) 202 = 400 from b.2.1.2.1]; omega) (by rw [show sN (TS σ k v) 202 = 400 from b.2.1.2.1]; decide), TS_i (by omega), (b.2.2 p hp).2]
  refine lp0 (F := fun j w => exec PP 1 104 22 [some (.ref 201), some (.int (nI lo)), some (.int (nI hi)), some (.int (nI w)), some (.int (nI j))] [] (TS σ k v)) (g := fun j w => 10 * w + t.1 (tkE t k + j) - 48) (K := fun w => exec PP 1 104 68 [some (.ref 201), some (.int (nI lo)), some (.int (nI hi)), some (.int (nI w)), some (.int (nI (tkS t k)))] [] (TS σ k v)) (n := tkS t k) ?_ ?_ (tkS t k) 0 0 (by omega)
  · intro j w hj
    try dsimp only
    have d := hd (tkE t k + j) (by omega) (by omega)
    rw [e_104_22, gR_r tt (show sV (TS σ k v) 201 4 = _ from b.1.2.2.2.2), gI_r tt, TS_k, rs, if_pos (nI_lt hj (by omega)), gR_r tt (show sV (TS σ k v) 201 0 = _ from b.1.2.1), gR_r tt (show sV (TS σ k v) 201 3 = _ from b.1.2.2.2.1), gI_r tt, TS_k, rb, nI_add, ry _ _ (by omega), show (10 : Int32) = nI 10 from rfl, pk_mul, nI_add, show (48 : Int32) = nI 48 from rfl, nI_sub (by omega), nI_1]
  · intro w
    try dsimp only
    rw [e_104_22, gR_r tt (show sV (TS σ k v) 201 4 = _ from b.1.2.2.2.2), gI_r tt, TS_k, rs, if_neg (nI_nlt (Nat.le_refl _) (by omega))]
theorem m_104y (h : TkC σ t) {lo hi : Nat} (e : tkG t k = 35) (h1 : lo ≤ tkV t k) (h2 : tkV t k ≤ hi) (hh : hi < 2147483648) : rn 104 [.ref 201, .int (nI lo), .int (nI hi)] (TS σ k v) = some (.inl (some (.int 1)), TS σ (k + 1) (tkV t k)) := by
  have tt : sT (TS σ k v) 201 = 110 := h.1.1.1
  have hv := (h.2.1.num e).2.2.2
  rw [m_104' h e, e_104_68, if_neg (nI_nlt h1 (by omega)), if_neg (nI_nlt h2 (by omega)), e_104_80, pI_r tt, TS_7, gI_r (show sT (TS σ k (tkV t k)) 201 = 110 from tt), TS_k, nI_1, pI_r (show sT (TS σ k (tkV t k)) 201 = 110 from tt), TS_6]
theorem m_104n (h : TkC σ t) {lo hi : Nat} (hk : k ≤ tkN t) (hl : lo < 2147483648) (e : ¬ (tkG t k = 35 ∧ lo ≤ tkV t k ∧ tkV t k ≤ hi)) : rn 104 [.ref 201, .int (nI lo), .int (nI hi)] (TS σ k v) = some (.inl (some (.int 0)), TS σ k v) := by
  by_cases e1 : tkG t k = 35
  · have hv := (h.2.1.num e1).2.2.2
    rw [m_104' h e1, e_104_68]
    by_cases c : lo ≤ tkV t k
    · rw [if_neg (nI_nlt c (by omega)), if_pos (nI_lt (by omega) (by omega))]
    · rw [if_pos (nI_lt (by omega) (by omega)), e_104_78]
  · obtain ⟨b, tx, h5, h3, h4⟩ := h
    have n4 := tx.n
    have l := tkG_l38 (t := t) k
    have tt : sT (TS σ k v) 201 = 110 := b.1.1
    rw [r_104, gR_r tt (show sV (TS σ k v) 201 2 = _ from b.1.2.2.1), gI_r tt, TS_k, aR_r (σ := TS σ k v) (b := tkG t k) (by rw [show sT (TS σ k v) 203 = 19 from b.2.1.2.2.1]; decide) (by rw [show sN (TS σ k v) 203 = 401 from b.2.1.2.2.2.1]; omega) (by rw [show sN (TS σ k v) 203 = 401 from b.2.1.2.2.2.1]; decide) (h3 k (by omega)).1, if_pos ⟨l, by omega⟩, if_neg e1]
end E3
