/-! the script's run -/
def Sc (Lx : Nat) (xs : Nat → Int32) (σ : SH) : Prop := sT σ 199 = 4 ∧ sN σ 199 = Lx ∧ ∀ k, sI σ 199 k = xs k
def Ti (Lx : Nat) (xs : Nat → Int32) (n : Nat) (σ : SH) : Prop := (∃ W L x, InvC σ W L x ∧ InvR σ W L x) ∧ StA σ ∧ Sc Lx xs σ ∧ sZ σ ≤ 624 + 6 * n ∧ sS σ ≤ 18361 + 900 * n
def LL (i : Nat) : SL := [some (.ref 199), some (.ref 200), some (.ref 611), some (.ref 623), some (.int (nI i)), none, none]
/-- one call of the script, at pc -/
def Cs (Lx : Nat) (xs : Nat → Int32) (pc : Nat) : Prop := ∀ σ i n, i + 6 ≤ Lx → Ti Lx xs n σ → ∃ σ', exec PP 65 371 pc (LL i) [] σ = exec PP 65 371 3376 (LL i) [] σ' ∧ Ti Lx xs (n + 1) σ'
noncomputable def wrpG (g : Int32 → Int64) (cl : SR) (m pc : Nat) : SR := onI cl (fun y σ => uJ σ (.ref 623) 0 (g y) fun σ' => some (.inl (some (.int 0)), σ')) (fun e σ => kxc (hndOf m pc e) e σ)
theorem lcm_s (x : Int64) : lcm x x = 0 := by
  unfold lcm lg_cmp
  simp
section H7
variable {σ σ' τ : SH} {W L : WW} {x : XX} {Lx n : Nat} {xs : Nat → Int32}
theorem Sc.lo (h : Sc Lx xs σ) (g : Lo σ σ') : Sc Lx xs σ' := ⟨(g 199 (by omega)).1.trans h.1, (g 199 (by omega)).2.1.trans h.2.1, fun k => ((g 199 (by omega)).2.2 k).2.trans (h.2.2 k)⟩
theorem Sc.r (h : Sc Lx xs σ) {i : Nat} (j : Nat) (hL : Lx ≤ 3072) (hi : i + 6 ≤ Lx) (hj : j < 6) (c : Int32 → SR) : aI σ 4 (.ref 199) (nI i + OfNat.ofNat j) c = c (xs (i + j)) := by
  rw [show nI i + (OfNat.ofNat j : Int32) = nI (i + j) from nI_add i j, aI_r h.1 (by rw [h.2.1]; omega) (by rw [h.2.1]; omega), h.2.2]
theorem Opr.t {cl : SR} {rf : SH → SR} {ex : List (Nat × Int32)} (h : Opr cl σ rf ex W L x) : OpT cl σ rf ex W L x := by
  obtain ⟨k, v, W', L', x', σ1, a, b, c, d, e, f⟩ := h
  exact ⟨k, v, W', L', x', σ1, a, b, c, d, e, fun τ _ c' r' => ⟨W', L', f τ c' r'⟩⟩
theorem OpS.t {cl : SR} {rf : SH → SR} {ex : List (Nat × Int32)} (h : OpS cl σ rf ex W L x) : OpT cl σ rf ex W L x := by
  obtain ⟨k, v, W', L', x', σ1, a, b, c, d, e, f⟩ := h
  exact ⟨k, v, W', L', x', σ1, a, b, c, d, e, fun τ s' c' r' => ⟨W', L', f τ s' c' r'⟩⟩
theorem Ti.nx (ti : Ti Lx xs n σ) {σ1 τ2 : SH} (lo : Lo σ σ1) (bu : Bu σ σ1) (c : InvC τ2 W L x) (r : InvR τ2 W L x) (e : τ2.2 = σ1.2) (h : ∀ a j, a < 200 → sI τ2 a j = sI σ1 a j) : Ti Lx xs (n + 1) τ2 := by
  obtain ⟨-, st, sc, z, s⟩ := ti
  have lo2 : Lo σ τ2 := lo.tr (Lo.e e fun a k ha => h a k ha)
  have e1 : sZ τ2 = sZ σ1 := by unfold sZ; rw [e]
  have e2 : sS τ2 = sS σ1 := by unfold sS; rw [e]
  have := bu.2.1
  have := bu.2.2
  exact ⟨⟨W, L, x, c, r⟩, st.lo lo2, sc.lo lo2, by omega, by omega⟩
theorem OpT.d {cl : SR} {rf : SH → SR} (h : OpT cl σ rf [] W L x) (ti : Ti Lx xs n σ) : ∃ v σ1 τ2, cl = some (.inl (some (.int v)), σ1) ∧ Sc Lx xs σ1 ∧ sT σ1 611 = 112 ∧ rf σ1 = some (.inl (some (.int v)), τ2) ∧ Ti Lx xs (n + 1) τ2 := by
  obtain ⟨k, v, W', L', x', σ1, o, c, r, lo, bu, f⟩ := h
  obtain ⟨W2, L2, τ2, e2, c2, r2, ⟨e3, e4⟩, e5⟩ := f σ1 (ti.2.1.lo lo) c r
  rcases o with ⟨k0, e⟩ | ⟨hk, ee, e, he⟩
  · exact ⟨v, σ1, τ2, e, ti.2.2.1.lo lo, r.t, e2, ti.nx lo bu c2 r2 e3 e4⟩
  · cases he
theorem OpT.w (g : Int32 → Int64) {cl : SR} {rf : SH → SR} {ex : List (Nat × Int32)} (m pc : Nat) (h : OpT cl σ rf ex W L x) (ti : Ti Lx xs n σ) (hm : 329 ≤ m) (ht : nthD hdTab (m - 329) [] = ex) : ∃ k v σ1 τ2, wrpG g cl m pc = some (.inl (some (.int (nI k))), σ1) ∧ Sc Lx xs σ1 ∧ sT σ1 611 = 112 ∧ rf σ1 = some (.inl (some (.int v)), τ2) ∧ sT τ2 611 = 112 ∧ sI τ2 611 0 = nI k ∧ k < 10 ∧ (k = 0 → ∀ c, aJ τ2 (.ref 623) 0 c = c (g v)) ∧ Ti Lx xs (n + 1) τ2 := by
  obtain ⟨k, v, W', L', x', σ1, o, c, r, lo, bu, f⟩ := h
  rcases o with ⟨k0, e⟩ | ⟨hk, ee, e, he⟩
  · subst k0
    have t : sT σ1 623 = 3 ∧ sN σ1 623 = 1 := c.1.1.2.2.2.2.2.2.2.1
    have lo' : Lo σ (wJ σ1 623 0 (g v)) := lo
    have bu' : Bu σ (wJ σ1 623 0 (g v)) := bu
    have c' : InvC (wJ σ1 623 0 (g v)) W' L' x' := c
    have r' : InvR (wJ σ1 623 0 (g v)) W L x := r
    obtain ⟨W2, L2, τ2, e2, c2, r2, ⟨e3, e4⟩, e5⟩ := f (wJ σ1 623 0 (g v)) (ti.2.1.lo lo') c' r'
    refine ⟨0, v, wJ σ1 623 0 (g v), τ2, ?_, ti.2.2.1.lo lo', r.t, e2, r2.t, e5, by omega, fun _ q => ?_, ti.nx lo' bu' c2 r2 e3 e4⟩
    · unfold wrpG
      rw [e, onI_i]
      unfold uJ aRef
      try dsimp only
      rw [if_pos ⟨t.1, by rw [t.2]; decide⟩]
      rfl
    · have t2 : sT τ2 623 = 3 ∧ sN τ2 623 = 1 := c2.1.1.2.2.2.2.2.2.2.1
      have j2 : sJ τ2 623 0 = g v := by
        unfold sJ
        rw [e3]
        show (if 623 = 623 ∧ 0 = 0 then g v else σ1.2.2.1 623 0) = g v
        rw [if_pos ⟨rfl, rfl⟩]
      have := aJ_r (k := q) (σ := τ2) (a := 623) (j := 0) t2.1 (by rw [t2.2]; decide) (by rw [t2.2]; decide)
      rw [j2] at this
      exact this
  · obtain ⟨W2, L2, τ2, e2, c2, r2, ⟨e3, e4⟩, e5⟩ := f σ1 (ti.2.1.lo lo) c r
    refine ⟨k, v, σ1, τ2, ?_, ti.2.2.1.lo lo, r.t, e2, r2.t, e5, hk.2, fun z => by omega, ti.nx lo bu c2 r2 e3 e4⟩
    unfold wrpG
    rw [e, onI_x]
    unfold hndOf
    rw [if_neg (by omega), ht, he]
    show kxc (some (nI k)) ee σ1 = _
    unfold kxc
    try dsimp only
    rw [if_neg (nI_nel (n := 0) (by omega) (by omega) (by decide))]
theorem nk0 {k : Nat} (h : k = 0) : nI k = 0 := by rw [h]; rfl
theorem nkn {k : Nat} (h : ¬ k = 0) (hk : k < 10) : ¬ nI k = 0 := nI_nel (n := 0) h (by omega) (by decide)
theorem m_177 (h : sT σ 611 = 112) {v : Int32} (e : sI σ 611 0 = v) : rn 177 [.ref 611] σ = some (.inl (some (.int v)), σ) := by rw [r_177, gI_r h, e]
end H7
