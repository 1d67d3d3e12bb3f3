section C1
variable {σ ρ ρ' : SH} {z : Nat}
theorem Cm.hd {i1 i2 i3 : Nat} (h : Cm σ z i1 i2 i3 ρ) (q : ∀ a, a < z + 7 → sT ρ' a = sT ρ a ∧ sN ρ' a = sN ρ a ∧ (∀ k, (a ≠ z + 1 ∧ a ≠ z + 2 ∧ a ≠ z + 3) → sV ρ' a k = sV ρ a k) ∧ ∀ k, sI ρ' a k = sI ρ a k) : (∀ a, a < z → sT ρ' a = sT σ a ∧ sN ρ' a = sN σ a ∧ ∀ k, sV ρ' a k = sV σ a k ∧ sI ρ' a k = sI σ a k) ∧
  ((sT ρ' z = 101 ∧ sV ρ' z 0 = .ref (z + 1) ∧ sV ρ' z 1 = .ref (z + 2) ∧ sV ρ' z 2 = .ref (z + 3) ∧ sV ρ' z 3 = .ref (z + 4) ∧ sV ρ' z 13 = .ref (z + 6)) ∧ (sT ρ' (z + 1) = 18 ∧ sN ρ' (z + 1) = 6 ∧ sT ρ' (z + 2) = 10 ∧ sN ρ' (z + 2) = 5 ∧ sT ρ' (z + 3) = 12 ∧ sN ρ' (z + 3) = 8) ∧ (sT ρ' (z + 4) = 105 ∧ sV ρ' (z + 4) 2 = .ref (z + 5) ∧ sT ρ' (z + 5) = 1 ∧ sN ρ' (z + 5) = 240 ∧ sT ρ' (z + 6) = 1 ∧ sN ρ' (z + 6) = 8)) ∧
  (sV ρ' z 12 = .null ∧ (∀ k, sI ρ' z k = if k = 8 then 8 else if k = 9 then 5 else if k = 11 then 1 else 0) ∧ ∀ a k, z < a → a < z + 7 → sI ρ' a k = 0) := by
  obtain ⟨_, h2, h3, ⟨h4, h5, h6⟩, _⟩ := h
  have T : ∀ i, i < 7 → sT ρ' (z + i) = sT ρ (z + i) := fun i hi => (q _ (by omega)).1
  have N : ∀ i, i < 7 → sN ρ' (z + i) = sN ρ (z + i) := fun i hi => (q _ (by omega)).2.1
  have V : ∀ i k, i < 7 → (i = 0 ∨ i = 4) → sV ρ' (z + i) k = sV ρ (z + i) k := fun i k hi h9 => (q _ (by omega)).2.2.1 k (by omega)
  have V0 : ∀ k, sV ρ' z k = sV ρ z k := fun k => V 0 k (by omega) (by omega)
  refine ⟨fun a ha => ?_, ?_, by rw [V0]; exact h4, fun k => by rw [(q z (by omega)).2.2.2]; exact h5 k, fun a k x y => by rw [(q a y).2.2.2]; exact h6 a k x y⟩
  · obtain ⟨g1, g2, g3⟩ := h2 a ha
    obtain ⟨f1, f2, f3, f4⟩ := q a (by omega)
    exact ⟨f1.trans g1, f2.trans g2, fun k => ⟨(f3 k (by omega)).trans (g3 k).1, (f4 k).trans (g3 k).2⟩⟩
  · rw [show sT ρ' z = sT ρ z from T 0 (by omega), V0, V0, V0, V0, V0, T 1 (by omega), T 2 (by omega), T 3 (by omega), T 4 (by omega), T 5 (by omega), T 6 (by omega), N 1 (by omega), N 2 (by omega), N 3 (by omega), N 5 (by omega), N 6 (by omega), V 4 2 (by omega) (by omega)]
    exact h3
theorem Cm.s {i : Nat} (h : Cm σ z i 0 0 ρ) (hi : i < 6) : Cm σ z (i + 1) 0 0 (wV (mkC ρ 108 0 7) (z + 1) i (.ref (sZ ρ))) := by
  have hz := h.1.1
  obtain ⟨k1, k2, k3, k4⟩ := h.mk1 (t := 108) (s := 7) (r := z + 1) (j := i) (Or.inl rfl)
  obtain ⟨p1, p2, p3⟩ := h.hd (ρ' := wV (mkC ρ 108 0 7) (z + 1) i (.ref (sZ ρ))) (fun a ha => ⟨(k1 a (by omega)).1, (k1 a (by omega)).2.1, fun k hk => (k1 a (by omega)).2.2.1 k (by omega), (k1 a (by omega)).2.2.2⟩)
  refine ⟨⟨by show sZ ρ + 1 = _; omega, by show sS ρ + 7 = _; rw [h.1.2]; omega⟩, p1, p2, p3, fun j hj => ?_, fun j hj => by omega, fun j hj => by omega⟩
  by_cases e : j = i
  · subst e
    have ez : z + 7 + j = sZ ρ := by omega
    rw [ez]
    exact ⟨⟨k4, k2⟩, k3⟩
  · obtain ⟨⟨g1, g2⟩, g3⟩ := h.2.2.2.2.1 j (by omega)
    exact ⟨⟨((k1 _ (by omega)).2.2.1 j (by omega)).trans g1, (k1 _ (by omega)).1.trans g2⟩, fun k => ((k1 _ (by omega)).2.2.2 k).trans (g3 k)⟩
theorem Cm.b {i : Nat} (h : Cm σ z 6 i 0 ρ) (hi : i < 5) : Cm σ z 6 (i + 1) 0 (wV (mkC ρ 100 0 3) (z + 2) i (.ref (sZ ρ))) := by
  have hz := h.1.1
  obtain ⟨k1, k2, k3, k4⟩ := h.mk1 (t := 100) (s := 3) (r := z + 2) (j := i) (Or.inr (Or.inl rfl))
  obtain ⟨p1, p2, p3⟩ := h.hd (ρ' := wV (mkC ρ 100 0 3) (z + 2) i (.ref (sZ ρ))) (fun a ha => ⟨(k1 a (by omega)).1, (k1 a (by omega)).2.1, fun k hk => (k1 a (by omega)).2.2.1 k (by omega), (k1 a (by omega)).2.2.2⟩)
  refine ⟨⟨by show sZ ρ + 1 = _; omega, by show sS ρ + 3 = _; rw [h.1.2]; omega⟩, p1, p2, p3, fun j hj => ?_, fun j hj => ?_, fun j hj => by omega⟩
  · obtain ⟨⟨g1, g2⟩, g3⟩ := h.2.2.2.2.1 j (by omega)
    exact ⟨⟨((k1 _ (by omega)).2.2.1 j (by omega)).trans g1, (k1 _ (by omega)).1.trans g2⟩, fun k => ((k1 _ (by omega)).2.2.2 k).trans (g3 k)⟩
  · by_cases e : j = i
    · subst e
      have ez : z + 13 + j = sZ ρ := by omega
      rw [ez]
      exact ⟨⟨k4, k2⟩, k3⟩
    · obtain ⟨⟨g1, g2⟩, g3⟩ := h.2.2.2.2.2.1 j (by omega)
      exact ⟨⟨((k1 _ (by omega)).2.2.1 j (by omega)).trans g1, (k1 _ (by omega)).1.trans g2⟩, fun k => ((k1 _ (by omega)).2.2.2 k).trans (g3 k)⟩
theorem Cm.d {i : Nat} (h : Cm σ z 6 5 i ρ) (hi : i < 8) : Cm σ z 6 5 (i + 1) (wV (wI (mkC ρ 102 0 7) (sZ ρ) 4 (-1)) (z + 3) i (.ref (sZ ρ))) := by
  have hz := h.1.1
  obtain ⟨k1, k2, k3, k4⟩ := h.mk1 (t := 102) (s := 7) (r := z + 3) (j := i) (Or.inr (Or.inr rfl))
  have same : ∀ a, a < z + 7 + 6 + 5 + i → sT (wV (wI (mkC ρ 102 0 7) (sZ ρ) 4 (-1)) (z + 3) i (.ref (sZ ρ))) a = sT ρ a ∧ sN (wV (wI (mkC ρ 102 0 7) (sZ ρ) 4 (-1)) (z + 3) i (.ref (sZ ρ))) a = sN ρ a ∧ (∀ k, (a ≠ z + 3 ∨ k ≠ i) → sV (wV (wI (mkC ρ 102 0 7) (sZ ρ) 4 (-1)) (z + 3) i (.ref (sZ ρ))) a k = sV ρ a k) ∧ ∀ k, sI (wV (wI (mkC ρ 102 0 7) (sZ ρ) 4 (-1)) (z + 3) i (.ref (sZ ρ))) a k = sI ρ a k := fun a ha => ⟨(k1 a ha).1, (k1 a ha).2.1, (k1 a ha).2.2.1, fun k => by
    show sI (wI (mkC ρ 102 0 7) (sZ ρ) 4 (-1)) a k = _
    rw [sI_wIn (by omega)]; exact (k1 a ha).2.2.2 k⟩
  obtain ⟨p1, p2, p3⟩ := h.hd (ρ' := wV (wI (mkC ρ 102 0 7) (sZ ρ) 4 (-1)) (z + 3) i (.ref (sZ ρ))) (fun a ha => ⟨(same a (by omega)).1, (same a (by omega)).2.1, fun k hk => (same a (by omega)).2.2.1 k (by omega), (same a (by omega)).2.2.2⟩)
  refine ⟨⟨by show sZ ρ + 1 = _; omega, by show sS ρ + 7 = _; rw [h.1.2]; omega⟩, p1, p2, p3, fun j hj => ?_, fun j hj => ?_, fun j hj => ?_⟩
  · obtain ⟨⟨g1, g2⟩, g3⟩ := h.2.2.2.2.1 j (by omega)
    exact ⟨⟨((same _ (by omega)).2.2.1 j (by omega)).trans g1, (same _ (by omega)).1.trans g2⟩, fun k => ((same _ (by omega)).2.2.2 k).trans (g3 k)⟩
  · obtain ⟨⟨g1, g2⟩, g3⟩ := h.2.2.2.2.2.1 j (by omega)
    exact ⟨⟨((same _ (by omega)).2.2.1 j (by omega)).trans g1, (same _ (by omega)).1.trans g2⟩, fun k => ((same _ (by omega)).2.2.2 k).trans (g3 k)⟩
  · by_cases e : j = i
    · subst e
      have ez : z + 18 + j = sZ ρ := by omega
      rw [ez]
      refine ⟨⟨k4, k2⟩, fun k => ?_⟩
      show sI (wI (mkC ρ 102 0 7) (sZ ρ) 4 (-1)) (sZ ρ) k = _
      by_cases e4 : k = 4
      · rw [e4, sI_wIs, if_pos rfl]
      · rw [sI_wIn (by omega), if_neg e4]; exact k3 k
    · obtain ⟨⟨g1, g2⟩, g3⟩ := h.2.2.2.2.2.2 j (by omega)
      exact ⟨⟨((same _ (by omega)).2.2.1 j (by omega)).trans g1, (same _ (by omega)).1.trans g2⟩, fun k => ((same _ (by omega)).2.2.2 k).trans (g3 k)⟩
theorem m_4 (hz : sZ σ = z) (h40 : 40 ≤ z) : ∃ σ', rn 4 [.ref z] (mkC σ 101 0 14) = some (.inl none, σ') ∧ Cm σ z 6 5 8 σ' := by
  obtain ⟨ρ0, e0, c0⟩ := m_4a hz h40
  obtain ⟨ρ1, e1, c1⟩ := lpS (F := fun i (_ : Unit) σ => exec PP 2 4 67 [some (.ref z), some (.int (nI i))] [] σ) (g := fun _ u => u) (K := fun _ σ => exec PP 2 4 97 [some (.ref z), some (.int 0)] [] σ) (I := fun i _ ρ => Cm σ z i 0 0 ρ) (n := 6) (by
    rintro i u ρ hi c
    have hZ := c.1.1
    have hd := c.2.2.1
    refine ⟨_, ?_, c.s hi⟩
    show exec PP 2 4 67 _ _ ρ = exec PP 2 4 67 _ _ _
    have t1 : sT (mkC ρ 108 0 7) (z + 1) = 18 := by rw [T_mk, if_neg (by omega)]; exact hd.2.1.1
    have t2 : sT (mkC ρ 108 0 7) (sZ ρ) = 108 := by rw [T_mk, if_pos rfl]
    have n1 : sN (mkC ρ 108 0 7) (z + 1) = 6 := by rw [N_mk, if_neg (by omega)]; exact hd.2.1.2.1
    rw [e_4_67, gR_r hd.1.1 hd.1.2.1, aN_r (n := 6) (by rw [hd.2.1.1]; decide) hd.2.1.2.1, if_pos (nI_lt hi (by decide)), gR_r hd.1.1 hd.1.2.1, if_neg (show ¬ (sZ ρ : Nat) = 39 by omega), r_93, if_pos (by omega), onV_i, uR_r (by rw [t1]; decide) (by rw [t1, t2]) (by rw [n1]; exact hi) (by rw [n1]; decide), nI_1]) (by
    rintro u ρ c
    have hd := c.2.2.1
    show exec PP 2 4 67 _ _ ρ = _
    rw [e_4_67, gR_r hd.1.1 hd.1.2.1, aN_r (n := 6) (by rw [hd.2.1.1]; decide) hd.2.1.2.1, if_neg (nI_nlt (Nat.le_refl _) (by decide)), e_4_95]) 6 0 () ρ0 (by omega) c0
  obtain ⟨ρ2, e2, c2⟩ := lpS (F := fun i (_ : Unit) σ => exec PP 2 4 97 [some (.ref z), some (.int (nI i))] [] σ) (g := fun _ u => u) (K := fun _ σ => exec PP 2 4 127 [some (.ref z), some (.int 0)] [] σ) (I := fun i _ ρ => Cm σ z 6 i 0 ρ) (n := 5) (by
    rintro i u ρ hi c
    have hZ := c.1.1
    have hd := c.2.2.1
    refine ⟨_, ?_, c.b hi⟩
    show exec PP 2 4 97 _ _ ρ = exec PP 2 4 97 _ _ _
    have t1 : sT (mkC ρ 100 0 3) (z + 2) = 10 := by rw [T_mk, if_neg (by omega)]; exact hd.2.1.2.2.1
    have t2 : sT (mkC ρ 100 0 3) (sZ ρ) = 100 := by rw [T_mk, if_pos rfl]
    have n1 : sN (mkC ρ 100 0 3) (z + 2) = 5 := by rw [N_mk, if_neg (by omega)]; exact hd.2.1.2.2.2.1
    rw [e_4_97, gR_r hd.1.1 hd.1.2.2.1, aN_r (n := 5) (by rw [hd.2.1.2.2.1]; decide) hd.2.1.2.2.2.1, if_pos (nI_lt hi (by decide)), gR_r hd.1.1 hd.1.2.2.1, if_neg (show ¬ (sZ ρ : Nat) = 39 by omega), r_0, if_pos (by omega), onV_i, uR_r (by rw [t1]; decide) (by rw [t1, t2]) (by rw [n1]; exact hi) (by rw [n1]; decide), nI_1]) (by
    rintro u ρ c
    have hd := c.2.2.1
    show exec PP 2 4 97 _ _ ρ = _
    rw [e_4_97, gR_r hd.1.1 hd.1.2.2.1, aN_r (n := 5) (by rw [hd.2.1.2.2.1]; decide) hd.2.1.2.2.2.1, if_neg (nI_nlt (Nat.le_refl _) (by decide)), e_4_125]) 5 0 () ρ1 (by omega) c1
  obtain ⟨ρ3, e3, c3⟩ := lpS (F := fun i (_ : Unit) σ => exec PP 2 4 127 [some (.ref z), some (.int (nI i))] [] σ) (g := fun _ u => u) (K := fun _ σ => some (.inl none, σ)) (I := fun i _ ρ => Cm σ z 6 5 i ρ) (n := 8) (by
    rintro i u ρ hi c
    have hZ := c.1.1
    have hd := c.2.2.1
    refine ⟨_, ?_, c.d hi⟩
    show exec PP 2 4 127 _ _ ρ = exec PP 2 4 127 _ _ _
    have t2 : sT (mkC ρ 102 0 7) (sZ ρ) = 102 := by rw [T_mk, if_pos rfl]
    have t1 : sT (wI (mkC ρ 102 0 7) (sZ ρ) 4 (-1)) (z + 3) = 12 := by show sT (mkC ρ 102 0 7) (z + 3) = 12; rw [T_mk, if_neg (by omega)]; exact hd.2.1.2.2.2.2.1
    have t3 : sT (wI (mkC ρ 102 0 7) (sZ ρ) 4 (-1)) (sZ ρ) = 102 := t2
    have n1 : sN (wI (mkC ρ 102 0 7) (sZ ρ) 4 (-1)) (z + 3) = 8 := by show sN (mkC ρ 102 0 7) (z + 3) = 8; rw [N_mk, if_neg (by omega)]; exact hd.2.1.2.2.2.2.2
    rw [e_4_127, gR_r hd.1.1 hd.1.2.2.2.1, aN_r (n := 8) (by rw [hd.2.1.2.2.2.2.1]; decide) hd.2.1.2.2.2.2.2, if_pos (nI_lt hi (by decide)), gR_r hd.1.1 hd.1.2.2.2.1, if_neg (show ¬ (sZ ρ : Nat) = 39 by omega), r_21, if_pos (by omega), pI_r t2, onV_i, uR_r (by rw [t1]; decide) (by rw [t1, t3]) (by rw [n1]; exact hi) (by rw [n1]; decide), nI_1]) (by
    rintro u ρ c
    have hd := c.2.2.1
    show exec PP 2 4 127 _ _ ρ = _
    rw [e_4_127, gR_r hd.1.1 hd.1.2.2.2.1, aN_r (n := 8) (by rw [hd.2.1.2.2.2.2.1]; decide) hd.2.1.2.2.2.2.2, if_neg (nI_nlt (Nat.le_refl _) (by decide)), e_4_155]) 8 0 () ρ2 (by omega) c2
  exact ⟨ρ3, e0.trans (e1.trans (e2.trans e3)), c3⟩
/-- the county as it is made -/
theorem Cm.sh {σ' : SH} (h : Cm σ z 6 5 8 σ') : ShC σ' z := ⟨h.2.2.1.1, h.2.2.1.2.1, h.2.2.1.2.2, fun i hi => (h.2.2.2.2.1 i hi).1, fun i hi => (h.2.2.2.2.2.1 i hi).1, fun i hi => (h.2.2.2.2.2.2 i hi).1⟩
end C1
