/-! worlds tried -/
def Rw (V U : WW) : Prop := (∀ k, (∀ s, s < 6 → k ≠ 10 + 7 * s + 6) → U k = V k) ∧ ∀ s, s < 6 → (sh U s 6 = 2 ↔ sh V s 6 = 2)
theorem Rw.rf (V : WW) : Rw V V := ⟨fun _ _ => rfl, fun _ _ => Iff.rfl⟩
section RW
variable {V U L : WW}
theorem Rw.k (h : Rw V U) {k : Nat} (hk : k < 10 ∨ 52 ≤ k) : U k = V k := h.1 k (fun s hs => by omega)
theorem Rw.d (h : Rw V U) (d f : Nat) : de U d f = de V d f := h.k (by omega)
theorem Rw.b (h : Rw V U) (d f : Nat) : br U d f = br V d f := h.k (by omega)
theorem Rw.n (h : Rw V U) : nS U = nS V ∧ nB U = nB V ∧ nD U = nD V := by
  unfold nS nB nD
  rw [h.k (by omega), h.k (by omega), h.k (by omega)]
  exact ⟨rfl, rfl, rfl⟩
theorem Rw.wet (h : Rw V U) (h6 : nS V ≤ 6) (f j : Nat) : wetB U f j = wetB V f j := by
  unfold wetB bs
  rw [h.n.1]
  refine fo_cong _ _ _ fun s b h1 h3 => ?_
  have e : ∀ g, g < 6 → sh U s g = sh V s g := fun g hg => h.1 _ (fun s' hs' => by omega)
  unfold bsg wetp lies
  rw [e 0 (by omega), e 1 (by omega), e 2 (by omega), e 3 (by omega), e 4 (by omega)]
  have : decide (sh U s 6 ≠ 2) = decide (sh V s 6 ≠ 2) := decide_eq_decide.mpr (not_congr (h.2 s (by omega)))
  rw [this]
theorem Rw.ar (h : Rw V U) (h6 : nS V ≤ 6) (a j : Nat) : arN U a j = arN V a j := by
  unfold arN
  cases ftN a j with
  | none => rfl
  | some f => show (if wetB U f j = 0 then none else some f) = (if wetB V f j = 0 then none else some f); rw [h.wet h6]
theorem fi_cg {p q : Nat → Bool} : ∀ (k i : Nat), (∀ j, p j = q j) → fi p i k = fi q i k
  | 0, _, _ => rfl
  | k + 1, i, h => by
    show (if p i = true then some i else fi p (i + 1) k) = (if q i = true then some i else fi q (i + 1) k)
    rw [h i, fi_cg k (i + 1) h]
theorem Rw.jd (h : Rw V U) (h6 : nS V ≤ 6) (kd a j w : Nat) : jdg U L kd a j w = jdg V L kd a j w := by
  have e : FC U a j w = FC V a j w := by
    funext k
    unfold FC ownB
    rw [h.wet h6, h.n.2.2, fi_cg _ _ (fun d => show own1 U a j d = own1 V a j d by unfold own1; rw [h.d, h.d, h.d, h.d])]
  unfold jdg
  rw [h.k (by omega), e]
theorem Rw.py (h : Rw V U) (h6 : nS V ≤ 6) (d : Nat) : pyI U L d = pyI V L d := by
  unfold pyI pay ow
  rw [h.d, h.d, h.k (by omega : (5 : Nat) < 10 ∨ 52 ≤ 5), h.k (by omega : (7 : Nat) < 10 ∨ 52 ≤ 7), h.jd h6]
theorem Rw.u (h : Rw V U) {k : Nat} (hk : k < 10 ∨ 52 ≤ k) (v : Int32) : Rw (uW V k v) (uW U k v) := by
  refine ⟨fun j hj => ?_, fun s hs => ?_⟩
  · unfold uW
    by_cases e : j = k
    · rw [if_pos e, if_pos e]
    · rw [if_neg e, if_neg e]; exact h.1 j hj
  · rw [sh_u (by omega), sh_u (by omega)]; exact h.2 s hs
theorem Rw.lg (h : Rw V U) (d : Nat) (v : Int32) : Rw (logW V d v) (logW U d v) := by
  refine ⟨fun j hj => ?_, fun s hs => ?_⟩
  · unfold logW
    rw [h.k (by omega : (8 : Nat) < 10 ∨ 52 ≤ 8), h.k (by omega : (5 : Nat) < 10 ∨ 52 ≤ 5), h.d, h.1 j hj]
    by_cases e : 127 ≤ j ∧ j < 363
    · rw [h.k (by omega : j - 4 < 10 ∨ 52 ≤ j - 4)]
    · simp only [e, if_false]
  · unfold sh
    rw [logW_n (by omega) (by omega), logW_n (by omega) (by omega)]; exact h.2 s hs
theorem Rw.pw (h : Rw V U) (h6 : nS V ≤ 6) (d : Nat) : Rw (pyW V L d) (pyW U L d) := by
  unfold pyW
  rw [h.py h6, show ow U d = ow V d by unfold ow; rw [h.d], h.d, h.b]
  exact ((h.u (by omega) _).u (by omega) _).lg d _
theorem Rw.iw (h : Rw V U) (d : Nat) : Rw (inW V d) (inW U d) := by
  unfold inW
  rw [show ow U d = ow V d by unfold ow; rw [h.d], h.d, h.d, h.d, h.d, h.b, h.k (by omega : (5 : Nat) < 10 ∨ 52 ≤ 5)]
  split
  · exact h.u (by omega) _
  · exact h
theorem Rw.ob (h : Rw V U) (d : Nat) : onB U d = onB V d := by
  unfold onB
  rw [h.d, h.d, h.d, h.k (by omega : (5 : Nat) < 10 ∨ 52 ≤ 5)]
theorem Rw.lb (h : Rw V U) (h6 : nS V ≤ 6) (d : Nat) : litB U d = litB V d := by
  unfold litB
  rw [h.d, h.k (by omega : (5 : Nat) < 10 ∨ 52 ≤ 5), h.k (by omega : (6 : Nat) < 10 ∨ 52 ≤ 6), h.ar h6]
theorem Rw.sw (h : Rw V U) (h6 : nS V ≤ 6) (d : Nat) : Rw (seW V L d) (seW U L d) := by
  unfold seW
  rw [h.ob, h.lb h6]
  split
  · split
    · exact (h.pw h6 d).iw d
    · exact h.iw d
  · exact h
/-- a step keeps the counts -/
theorem seF_k (V L : WW) : KpS V (seF V L).1 := by
  unfold seF
  exact fo_inv (I := fun _ (p : WW × Int32) => KpS V p.1) (nD V) 0 (V, 0) (fun _ _ _ => rfl) (fun d p _ _ hp k x y => (seW_k k x y).trans (hp k x y))
theorem seF_b (V L : WW) : (seF V L).2.toInt ≤ 0 + nD V ∧ 0 ≤ (seF V L).2.toInt ∨ 2147483647 ≤ nD V := by
  by_cases hN : 2147483647 ≤ nD V
  · exact Or.inr hN
  refine Or.inl ?_
  have key : (fun i (p : WW × Int32) => p.2.toInt ≤ i ∧ 0 ≤ p.2.toInt) (0 + nD V) (seF V L) := fo_inv (I := fun i (p : WW × Int32) => p.2.toInt ≤ i ∧ 0 ≤ p.2.toInt) (nD V) 0 (V, 0) (show (0 : Int32).toInt ≤ ((0 : Nat) : Int) ∧ 0 ≤ (0 : Int32).toInt by decide) (fun d p h1 h2 hp => by
    have z1 : (1 : Int32).toInt = 1 := by decide
    show (seI p.1 d p.2).toInt ≤ ((d + 1 : Nat) : Int) ∧ 0 ≤ (seI p.1 d p.2).toInt
    unfold seI
    split
    · rw [tA (by rw [z1]; omega) (by rw [z1]; omega), z1]; omega
    · omega)
  have k1 := key.1
  have k2 := key.2
  refine ⟨?_, k2⟩
  omega
theorem Rw.sf (h : Rw V U) (h6 : nS V ≤ 6) : Rw (seF V L).1 (seF U L).1 ∧ (seF U L).2 = (seF V L).2 := by
  unfold seF
  rw [h.n.2.2]
  have : ∀ (k i : Nat) (p q : WW × Int32), Rw p.1 q.1 → q.2 = p.2 → nS p.1 ≤ 6 → Rw (fo (seG L) i k p).1 (fo (seG L) i k q).1 ∧ (fo (seG L) i k q).2 = (fo (seG L) i k p).2 := by
    intro k
    induction k with
    | zero => intro i p q h1 h2 _; exact ⟨h1, h2⟩
    | succ k ih =>
      intro i p q h1 h2 h3
      show Rw (fo (seG L) (i + 1) k (seG L i p)).1 (fo (seG L) (i + 1) k (seG L i q)).1 ∧ _
      refine ih (i + 1) (seG L i p) (seG L i q) (h1.sw h3 i) ?_ ?_
      · show seI q.1 i q.2 = seI p.1 i p.2
        unfold seI
        rw [h1.ob, h1.lb h3, h2]
      · show nS (seW p.1 L i) ≤ 6
        rw [(seW_k (W := p.1) (L := L) (d := i)).n.1]; exact h3
  exact this _ _ _ _ h rfl h6
theorem Rw.tk (h : Rw V U) : Rw (tkW V) (tkW U) := by
  unfold tkW
  rw [h.k (by omega : (5 : Nat) < 10 ∨ 52 ≤ 5)]
  exact h.u (by omega) _
theorem Rw.st (h : Rw V U) (h6 : nS V ≤ 6) : Rw V (stW U) := by
  have : ∀ (k i : Nat) (X : WW), Rw V X → i + k ≤ 6 → Rw V (fo stS i k X) := by
    intro k
    induction k with
    | zero => intro i X h1 _; exact h1
    | succ k ih =>
      intro i X h1 h2
      refine ih (i + 1) (stS i X) ?_ (by omega)
      unfold stS
      split
      case isTrue y =>
        refine ⟨fun j hj => ?_, fun s hs => ?_⟩
        · rw [uW_n (hj i (by omega))]; exact h1.1 j hj
        · by_cases e : s = i
          · subst e
            rw [sh_s, ← h1.2 s hs, y.1]
            decide
          · rw [sh_u (by omega)]; exact h1.2 s hs
      case isFalse y => exact h1
  unfold stW
  exact this _ _ _ h (by rw [h.n.1]; omega)
/-- no shower drawn, or all to come: as many lit, as much paid -/
theorem mnF_st (h6 : nS V ≤ 6) (n : Nat) : Rw (mnF L id n V).1 (mnF L stW n V).1 ∧ (mnF L stW n V).2 = (mnF L id n V).2 := by
  have : ∀ (k i : Nat) (p q : WW × Int32), Rw p.1 q.1 → q.2 = p.2 → nS p.1 ≤ 6 → Rw (fo (mnG L id) i k p).1 (fo (mnG L stW) i k q).1 ∧ (fo (mnG L stW) i k q).2 = (fo (mnG L id) i k p).2 := by
    intro k
    induction k with
    | zero => intro i p q h1 h2 _; exact ⟨h1, h2⟩
    | succ k ih =>
      intro i p q h1 h2 h3
      have s1 := h1.st h3
      obtain ⟨s2, s3⟩ := s1.sf (L := L) h3
      refine ih (i + 1) (mnG L id i p) (mnG L stW i q) s2.tk ?_ ?_
      · show q.2 + (seF (stW q.1) L).2 = p.2 + (seF p.1 L).2
        rw [s3, h2]
      · show nS (tkW (seF p.1 L).1) ≤ 6
        unfold tkW
        rw [nS_u (by omega), (seF_k p.1 L).n.1]; exact h3
  exact this n 0 (V, 0) (V, 0) (Rw.rf V) rfl h6
theorem drW_k (h6 : nS V ≤ 6) : KpW V (drW V) := by
  unfold drW
  exact fo_inv (I := fun _ (X : WW) => KpW V X) (nS V) 0 V (fun _ _ => rfl) (fun s X _ h2 hX k x => (drS_k (by omega) k x).trans (hX k x))
theorem mnF_b (h6 : nS V ≤ 6) (h8 : nD V ≤ 8) {n : Nat} (hn : n ≤ 200) : 0 ≤ (mnF L drW n V).2.toInt := by
  have key : (fun i (p : WW × Int32) => (nS p.1 = nS V ∧ nD p.1 = nD V) ∧ p.2.toInt ≤ 8 * i ∧ 0 ≤ p.2.toInt) (0 + n) (mnF L drW n V) := fo_inv (I := fun i (p : WW × Int32) => (nS p.1 = nS V ∧ nD p.1 = nD V) ∧ p.2.toInt ≤ 8 * i ∧ 0 ≤ p.2.toInt) n 0 (V, 0) ⟨⟨rfl, rfl⟩, show (0 : Int32).toInt ≤ 8 * ((0 : Nat) : Int) by decide, show 0 ≤ (0 : Int32).toInt by decide⟩ (fun i p h1 h2 hp => by
    obtain ⟨⟨p1, p2⟩, p3, p4⟩ := hp
    have k1 := (drW_k (V := p.1) (by omega)).n
    have k2 := (seF_k (drW p.1) L).n
    have sb := seF_b (drW p.1) L
    refine ⟨⟨?_, ?_⟩, ?_⟩
    · show nS (tkW (seF (drW p.1) L).1) = _
      unfold tkW
      rw [nS_u (by omega), k2.1, k1.1, p1]
    · show nD (tkW (seF (drW p.1) L).1) = _
      unfold tkW
      rw [nD_u (by omega), k2.2.2, k1.2.2, p2]
    · show (p.2 + (seF (drW p.1) L).2).toInt ≤ 8 * ((i + 1 : Nat) : Int) ∧ 0 ≤ (p.2 + (seF (drW p.1) L).2).toInt
      rw [k1.2.2, p2] at sb
      rw [tA (by omega) (by omega)]
      omega)
  exact key.2.2
end RW
