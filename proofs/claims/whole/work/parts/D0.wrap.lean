/-! the law's own calls of the program -/
def wrp (cl : SR) (m pc : Nat) : SR := onI cl (fun y σ => uJ σ (.ref 623) 0 y.toInt64 fun σ' => some (.inl (some (.int 0)), σ')) (fun e σ => kxc (hndOf m pc e) e σ)
section D0
variable {σ : SH} {W L : WW} {x : XX}
theorem InvC.wj {v : Int64} (h : InvC σ W L x) : InvC (wJ σ 623 0 v) W L x := h
theorem InvR.wj {v : Int64} (h : InvR σ W L x) : InvR (wJ σ 623 0 v) W L x := h
theorem Opr.wr {cl : SR} {rf : SH → SR} {ex : List (Nat × Int32)} {m pc : Nat} (h : Opr cl σ rf ex W L x) (hm : 329 ≤ m) (ht : nthD hdTab (m - 329) [] = ex) : ∃ (k : Nat) (v : Int32) (W' L' : WW) (x' : XX) (σ1 : SH), wrp cl m pc = some (.inl (some (.int (nI k))), σ1) ∧ (k = 0 → sJ σ1 623 0 = v.toInt64) ∧ k < 10 ∧ InvC σ1 W' L' x' ∧ InvR σ1 W L x ∧ Lo σ σ1 ∧ Bu σ σ1 ∧ RfA (rf σ1) σ1 v W' L' x' k := by
  obtain ⟨k, v, W', L', x', σ1, o, c, r, lo, bu, rf'⟩ := h
  rcases o with ⟨k0, e⟩ | ⟨hk, ee, e, he⟩
  · subst k0
    have t : sT σ1 623 = 3 ∧ sN σ1 623 = 1 := c.1.1.2.2.2.2.2.2.2.1
    refine ⟨0, v, W', L', x', wJ σ1 623 0 v.toInt64, ?_, fun _ => ?_, by omega, c, r, lo, bu, rf' _ c r⟩
    · unfold wrp
      rw [e, onI_i]
      unfold uJ aRef
      try dsimp only
      rw [if_pos ⟨t.1, by rw [t.2]; decide⟩]
      rfl
    · unfold sJ wJ
      try dsimp only
      rw [if_pos ⟨rfl, rfl⟩]
  · refine ⟨k, v, W', L', x', σ1, ?_, fun z => by omega, hk.2, c, r, lo, bu, rf' σ1 c r⟩
    unfold wrp
    rw [e, onI_x]
    unfold hndOf
    rw [if_neg (by omega), ht, he]
    show kxc (some (nI k)) ee σ1 = _
    unfold kxc
    try dsimp only
    rw [if_neg (nI_nel (n := 0) (by omega) (by omega) (by decide))]
end D0
