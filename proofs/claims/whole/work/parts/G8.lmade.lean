/-! a law made -/
section G8
variable {ρ : SH} {z n s : Nat}
theorem m_47 (hz : sZ ρ = z) (h6 : 624 ≤ z) (hn : n ≤ 12) (hs : s ≤ 400) (t207 : sT ρ 207 = 19 ∧ sN ρ 207 = 12 ∧ sT ρ 208 = 1 ∧ sN ρ 208 = 12 ∧ sT ρ 209 = 1 ∧ sN ρ 209 = 12 ∧ sT ρ 210 = 1 ∧ sN ρ 210 = 400) (he : n ≠ 0 → sI ρ 209 (n - 1) = nI s) (h0 : n = 0 → s = 0) {hd : Nat → Nat} (hh : ∀ i, i < n → sV ρ 207 i = .ref (hd i) ∧ sT ρ (hd i) = 109 ∧ hd i < 624) :
    ∃ σf, rn 47 [.ref z, .int (nI n), .ref 207, .ref 208, .ref 209, .ref 210] (mkC ρ 104 0 6) = some (.inl none, σf) ∧ (sZ σf = z + 6 ∧ sS σf = sS ρ + 6 + 3 * n + s + (s + 1)) ∧ (∀ a, a < z → (sT σf a = sT ρ a ∧ sN σf a = sN ρ a) ∧ ∀ k, sV σf a k = sV ρ a k ∧ sI σf a k = sI ρ a k) ∧
      ((sT σf z = 104 ∧ sV σf z 1 = .ref (z + 1) ∧ sV σf z 2 = .ref (z + 2) ∧ sV σf z 3 = .ref (z + 3) ∧ sV σf z 4 = .ref (z + 4) ∧ sV σf z 5 = .ref (z + 5)) ∧ (sT σf (z + 1) = 19 ∧ sT σf (z + 2) = 1 ∧ sT σf (z + 3) = 1 ∧ sT σf (z + 4) = 1 ∧ sT σf (z + 5) = 1) ∧ (sN σf (z + 1) = n ∧ sN σf (z + 2) = n ∧ sN σf (z + 3) = n ∧ sN σf (z + 4) = s ∧ sN σf (z + 5) = s + 1) ∧
      sI σf z 0 = nI n ∧ (∀ i, i < n → sV σf (z + 1) i = .ref (hd i) ∧ sI σf (z + 2) i = sI ρ 208 i ∧ sI σf (z + 3) i = sI ρ 209 i) ∧ ∀ j, j < s → sI σf (z + 4) j = sI ρ 210 j) := by
  let c0 := mkC ρ 104 0 6
  let c1 := wI c0 z 0 (nI n)
  let c2 := wV (mkC c1 19 n n) z 1 (.ref (z + 1))
  let c3 := wV (mkC c2 1 n n) z 2 (.ref (z + 2))
  let c4 := wV (mkC c3 1 n n) z 3 (.ref (z + 3))
  let c5 := wV (mkC c4 1 s s) z 4 (.ref (z + 4))
  let c6 := wV (mkC c5 1 (s + 1) (s + 1)) z 5 (.ref (z + 5))
  have Z0 : sZ c0 = z + 1 := by show sZ ρ + 1 = _; rw [hz]
  have Z1 : sZ c1 = z + 1 := Z0
  have Z2 : sZ c2 = z + 2 := by show sZ c1 + 1 = _; rw [Z1]
  have Z3 : sZ c3 = z + 3 := by show sZ c2 + 1 = _; rw [Z2]
  have Z4 : sZ c4 = z + 4 := by show sZ c3 + 1 = _; rw [Z3]
  have Z5 : sZ c5 = z + 5 := by show sZ c4 + 1 = _; rw [Z4]
  have Z6 : sZ c6 = z + 6 := by show sZ c5 + 1 = _; rw [Z5]
  -- tags, lengths, references, numbers of each state
  have T0 : ∀ a, sT c0 a = if a = z then 104 else sT ρ a := fun a => by show sT (mkC ρ 104 0 6) a = _; rw [T_mk, hz]
  have T2 : ∀ a, sT c2 a = if a = z + 1 then 19 else sT c0 a := fun a => by show sT (mkC c1 19 n n) a = _; rw [T_mk, Z1]; rfl
  have T3 : ∀ a, sT c3 a = if a = z + 2 then 1 else sT c2 a := fun a => by show sT (mkC c2 1 n n) a = _; rw [T_mk, Z2]
  have T4 : ∀ a, sT c4 a = if a = z + 3 then 1 else sT c3 a := fun a => by show sT (mkC c3 1 n n) a = _; rw [T_mk, Z3]
  have T5 : ∀ a, sT c5 a = if a = z + 4 then 1 else sT c4 a := fun a => by show sT (mkC c4 1 s s) a = _; rw [T_mk, Z4]
  have T6 : ∀ a, sT c6 a = if a = z + 5 then 1 else sT c5 a := fun a => by show sT (mkC c5 1 (s + 1) (s + 1)) a = _; rw [T_mk, Z5]
  have N0 : ∀ a, sN c0 a = if a = z then 0 else sN ρ a := fun a => by show sN (mkC ρ 104 0 6) a = _; rw [N_mk, hz]
  have N2 : ∀ a, sN c2 a = if a = z + 1 then n else sN c0 a := fun a => by show sN (mkC c1 19 n n) a = _; rw [N_mk, Z1]; rfl
  have N3 : ∀ a, sN c3 a = if a = z + 2 then n else sN c2 a := fun a => by show sN (mkC c2 1 n n) a = _; rw [N_mk, Z2]
  have N4 : ∀ a, sN c4 a = if a = z + 3 then n else sN c3 a := fun a => by show sN (mkC c3 1 n n) a = _; rw [N_mk, Z3]
  have N5 : ∀ a, sN c5 a = if a = z + 4 then s else sN c4 a := fun a => by show sN (mkC c4 1 s s) a = _; rw [N_mk, Z4]
  have N6 : ∀ a, sN c6 a = if a = z + 5 then s + 1 else sN c5 a := fun a => by show sN (mkC c5 1 (s + 1) (s + 1)) a = _; rw [N_mk, Z5]
  have V0 : ∀ a k, sV c0 a k = if a = z then .null else sV ρ a k := fun a k => by show sV (mkC ρ 104 0 6) a k = _; rw [V_mk, hz]
  have V2 : ∀ a k, sV c2 a k = if a = z ∧ k = 1 then .ref (z + 1) else if a = z + 1 then .null else sV c0 a k := fun a k => by show sV (wV (mkC c1 19 n n) z 1 (.ref (z + 1))) a k = _; rw [V_wV, V_mk, Z1]; rfl
  have V3 : ∀ a k, sV c3 a k = if a = z ∧ k = 2 then .ref (z + 2) else if a = z + 2 then .null else sV c2 a k := fun a k => by show sV (wV (mkC c2 1 n n) z 2 (.ref (z + 2))) a k = _; rw [V_wV, V_mk, Z2]
  have V4 : ∀ a k, sV c4 a k = if a = z ∧ k = 3 then .ref (z + 3) else if a = z + 3 then .null else sV c3 a k := fun a k => by show sV (wV (mkC c3 1 n n) z 3 (.ref (z + 3))) a k = _; rw [V_wV, V_mk, Z3]
  have V5 : ∀ a k, sV c5 a k = if a = z ∧ k = 4 then .ref (z + 4) else if a = z + 4 then .null else sV c4 a k := fun a k => by show sV (wV (mkC c4 1 s s) z 4 (.ref (z + 4))) a k = _; rw [V_wV, V_mk, Z4]
  have V6 : ∀ a k, sV c6 a k = if a = z ∧ k = 5 then .ref (z + 5) else if a = z + 5 then .null else sV c5 a k := fun a k => by show sV (wV (mkC c5 1 (s + 1) (s + 1)) z 5 (.ref (z + 5))) a k = _; rw [V_wV, V_mk, Z5]
  have I0 : ∀ a k, sI c1 a k = if a = z ∧ k = 0 then nI n else if a = z then 0 else sI ρ a k := fun a k => by show sI (wI (mkC ρ 104 0 6) z 0 (nI n)) a k = _; rw [sI_wI, I_mk, hz]
  have I6 : ∀ a k, a ≤ z → sI c6 a k = sI c1 a k := fun a k ha => by
    show sI (mkC c5 1 (s + 1) (s + 1)) a k = _
    rw [I_mk, if_neg (by omega)]
    show sI (mkC c4 1 s s) a k = _
    rw [I_mk, if_neg (by omega)]
    show sI (mkC c3 1 n n) a k = _
    rw [I_mk, if_neg (by omega)]
    show sI (mkC c2 1 n n) a k = _
    rw [I_mk, if_neg (by omega)]
    show sI (mkC c1 19 n n) a k = _
    rw [I_mk, if_neg (by omega)]
  have Tz : sT c0 z = 104 ∧ sT (mkC c1 19 n n) z = 104 ∧ sT (mkC c2 1 n n) z = 104 ∧ sT (mkC c3 1 n n) z = 104 ∧ sT (mkC c4 1 s s) z = 104 ∧ sT (mkC c5 1 (s + 1) (s + 1)) z = 104 := by
    have h0 : sT c0 z = 104 := by rw [T0, if_pos rfl]
    have h2 : sT c2 z = 104 := by rw [T2, if_neg (by omega)]; exact h0
    have h3 : sT c3 z = 104 := by rw [T3, if_neg (by omega)]; exact h2
    have h4 : sT c4 z = 104 := by rw [T4, if_neg (by omega)]; exact h3
    have h5 : sT c5 z = 104 := by rw [T5, if_neg (by omega)]; exact h4
    have h6 : sT c6 z = 104 := by rw [T6, if_neg (by omega)]; exact h5
    exact ⟨h0, h2, h3, h4, h5, h6⟩
  have tf : (sT c6 z = 104 ∧ sT c6 (z + 1) = 19 ∧ sT c6 (z + 2) = 1 ∧ sT c6 (z + 3) = 1 ∧ sT c6 (z + 4) = 1 ∧ sT c6 (z + 5) = 1) ∧ (sN c6 (z + 1) = n ∧ sN c6 (z + 2) = n ∧ sN c6 (z + 3) = n ∧ sN c6 (z + 4) = s ∧ sN c6 (z + 5) = s + 1) ∧ (sV c6 z 1 = .ref (z + 1) ∧ sV c6 z 2 = .ref (z + 2) ∧ sV c6 z 3 = .ref (z + 3) ∧ sV c6 z 4 = .ref (z + 4) ∧ sV c6 z 5 = .ref (z + 5)) := by
    simp only [T6, T5, T4, T3, T2, T0, N6, N5, N4, N3, N2, N0, V6, V5, V4, V3, V2, V0]
    simp
  have lo : ∀ a, a < z → (sT c6 a = sT ρ a ∧ sN c6 a = sN ρ a) ∧ ∀ k, sV c6 a k = sV ρ a k ∧ sI c6 a k = sI ρ a k := fun a ha => by
    have e0 : ¬ a = z := by omega
    have e1 : ¬ a = z + 1 := by omega
    have e2 : ¬ a = z + 2 := by omega
    have e3 : ¬ a = z + 3 := by omega
    have e4 : ¬ a = z + 4 := by omega
    have e5 : ¬ a = z + 5 := by omega
    refine ⟨⟨?_, ?_⟩, fun k => ⟨?_, ?_⟩⟩
    · simp only [T6, T5, T4, T3, T2, T0, e0, e1, e2, e3, e4, e5, if_false]
    · simp only [N6, N5, N4, N3, N2, N0, e0, e1, e2, e3, e4, e5, if_false]
    · simp only [V6, V5, V4, V3, V2, V0, e0, e1, e2, e3, e4, e5, false_and, if_false]
    · rw [I6 _ _ (by omega), I0]; simp only [e0, false_and, if_false]
  have S6 : sS c6 = sS ρ + 6 + 3 * n + s + (s + 1) := by show sS ρ + 6 + n + n + n + s + (s + 1) = _; omega
  -- the cells made
  have made : ∀ (o6 o7 : Option Value), exec PP 1 47 18 [some (.ref z), some (.int (nI n)), some (.ref 207), some (.ref 208), some (.ref 209), some (.ref 210), o6, o7] [.int (nI s)] c0 = exec PP 1 47 68 [some (.ref z), some (.int (nI n)), some (.ref 207), some (.ref 208), some (.ref 209), some (.ref 210), some (.int (nI s)), some (.int 0)] [] c6 := fun o6 o7 => by
    rw [e_47_18, pI_r Tz.1]
    show nwA c1 19 (nI n) _ = _
    rw [nwA_r (by omega), Z1, pV_r Tz.2.1]
    show nwA c2 1 (nI n) _ = _
    rw [nwA_r (by omega), Z2, pV_r Tz.2.2.1]
    show nwA c3 1 (nI n) _ = _
    rw [nwA_r (by omega), Z3, pV_r Tz.2.2.2.1]
    show nwA c4 1 (nI s) _ = _
    rw [nwA_r (by omega), Z4, pV_r Tz.2.2.2.2.1]
    show nwA c5 1 (nI s + 1) _ = _
    rw [nI_1, nwA_r (by omega), Z5, pV_r Tz.2.2.2.2.2]
  have enter : rn 47 [.ref z, .int (nI n), .ref 207, .ref 208, .ref 209, .ref 210] c0 = exec PP 1 47 68 [some (.ref z), some (.int (nI n)), some (.ref 207), some (.ref 208), some (.ref 209), some (.ref 210), some (.int (nI s)), some (.int 0)] [] c6 := by
    rw [r_47, if_pos ⟨by omega, by omega⟩]
    by_cases z0 : n = 0
    · rw [if_pos (by rw [z0]; rfl)]
      have := made none none
      rw [h0 z0] at this ⊢
      exact this
    · have i9 : sI c0 209 (n - 1) = nI s := by show sI (mkC ρ 104 0 6) 209 (n - 1) = _; rw [I_mk, if_neg (by omega)]; exact he z0
      have t9 : sT c0 209 = 1 := by rw [T0, if_neg (by omega)]; exact t207.2.2.2.2.1
      have n9 : sN c0 209 = 12 := by rw [N0, if_neg (by omega)]; exact t207.2.2.2.2.2.1
      rw [if_neg (nI_nel (n := 0) z0 (by omega) (by decide)), e_47_12, sub_1 (by omega), aI_r t9 (by rw [n9]; omega) (by rw [n9]; decide), i9]
      exact ((e_47_18 _ _ _ _ _ _ _ _ _ _).symm).trans (made none none)
  obtain ⟨τ, p1, ⟨r1, r2, r3⟩, p2⟩ := lpS (F := fun i (_ : Unit) σ => exec PP 1 47 68 [some (.ref z), some (.int (nI n)), some (.ref 207), some (.ref 208), some (.ref 209), some (.ref 210), some (.int (nI s)), some (.int (nI i))] [] σ) (g := fun _ u => u) (K := fun _ σ => exec PP 1 47 114 [some (.ref z), some (.int (nI n)), some (.ref 207), some (.ref 208), some (.ref 209), some (.ref 210), some (.int (nI s)), some (.int (nI n))] [] σ) (I := fun i _ τ => (τ.2.2 = c6.2.2 ∧ (∀ a k, a ≠ z + 1 → sV τ a k = sV c6 a k) ∧ ∀ a k, a ≠ z + 2 → a ≠ z + 3 → sI τ a k = sI c6 a k) ∧ ∀ j, j < i → sV τ (z + 1) j = .ref (hd j) ∧ sI τ (z + 2) j = sI ρ 208 j ∧ sI τ (z + 3) j = sI ρ 209 j) (n := n) (by
    rintro i u τ hi ⟨⟨r1, r2, r3⟩, hc⟩
    have TT : ∀ a, sT τ a = sT c6 a := fun a => by unfold sT; rw [r1]
    have NN : ∀ a, sN τ a = sN c6 a := fun a => by unfold sN; rw [r1]
    have lT : ∀ a, a < z → sT τ a = sT ρ a := fun a ha => (TT a).trans (lo a ha).1.1
    have lN : ∀ a, a < z → sN τ a = sN ρ a := fun a ha => (NN a).trans (lo a ha).1.2
    have lV : ∀ a k, a < z → sV τ a k = sV ρ a k := fun a k ha => (r2 a k (by omega)).trans ((lo a ha).2 k).1
    have lI : ∀ a k, a < z → sI τ a k = sI ρ a k := fun a k ha => (r3 a k (by omega) (by omega)).trans ((lo a ha).2 k).2
    obtain ⟨g1, g2, g3⟩ := hh i hi
    refine ⟨wI (wI (wV τ (z + 1) i (.ref (hd i))) (z + 2) i (sI ρ 208 i)) (z + 3) i (sI ρ 209 i), ?_, ⟨r1, fun a k ha => ?_, fun a k h1 h2 => ?_⟩, fun j hj => ?_⟩
    · try dsimp only
      have V1 : sV τ z 1 = .ref (z + 1) := (r2 _ _ (by omega)).trans tf.2.2.1
      have V2' : sV (wV τ (z + 1) i (.ref (hd i))) z 2 = .ref (z + 2) := (if_neg (by omega)).trans ((r2 _ _ (by omega)).trans tf.2.2.2.1)
      have V3' : sV (wI (wV τ (z + 1) i (.ref (hd i))) (z + 2) i (sI ρ 208 i)) z 3 = .ref (z + 3) := (if_neg (by omega)).trans ((r2 _ _ (by omega)).trans tf.2.2.2.2.1)
      have tz : sT τ z = 104 := (TT z).trans tf.1.1
      have i8 : sI (wV τ (z + 1) i (.ref (hd i))) 208 i = sI ρ 208 i := lI 208 i (by omega)
      have i9 : sI (wI (wV τ (z + 1) i (.ref (hd i))) (z + 2) i (sI ρ 208 i)) 209 i = sI ρ 209 i := by rw [sI_wIn (by omega)]; exact lI 209 i (by omega)
      rw [e_47_68, if_pos (nI_lt hi (by omega)), gR_r tz V1, aR_r (b := hd i) (by rw [lT 207 (by omega), t207.1]; decide) (by rw [lN 207 (by omega), t207.2.1]; omega) (by rw [lN 207 (by omega), t207.2.1]; decide) ((lV 207 i (by omega)).trans g1), uR_r (by rw [TT, tf.1.2.1]; decide) (by rw [TT (z + 1), tf.1.2.1, lT _ (by omega)]; exact g2) (by rw [NN, tf.2.1.1]; exact hi) (by rw [NN, tf.2.1.1]; omega), gR_r (show sT (wV τ (z + 1) i (.ref (hd i))) z = 104 from tz) V2', aI_r (show sT (wV τ (z + 1) i (.ref (hd i))) 208 = 1 from (lT 208 (by omega)).trans t207.2.2.1) (by rw [show sN (wV τ (z + 1) i (.ref (hd i))) 208 = 12 from (lN 208 (by omega)).trans t207.2.2.2.1]; omega) (by rw [show sN (wV τ (z + 1) i (.ref (hd i))) 208 = 12 from (lN 208 (by omega)).trans t207.2.2.2.1]; decide), i8, uI_r (show sT (wV τ (z + 1) i (.ref (hd i))) (z + 2) = 1 from (TT _).trans tf.1.2.2.1) (by rw [show sN (wV τ (z + 1) i (.ref (hd i))) (z + 2) = n from (NN _).trans tf.2.1.2.1]; exact hi) (by rw [show sN (wV τ (z + 1) i (.ref (hd i))) (z + 2) = n from (NN _).trans tf.2.1.2.1]; omega), gR_r (show sT (wI (wV τ (z + 1) i (.ref (hd i))) (z + 2) i (sI ρ 208 i)) z = 104 from tz) V3', aI_r (show sT (wI (wV τ (z + 1) i (.ref (hd i))) (z + 2) i (sI ρ 208 i)) 209 = 1 from (lT 209 (by omega)).trans t207.2.2.2.2.1) (by rw [show sN (wI (wV τ (z + 1) i (.ref (hd i))) (z + 2) i (sI ρ 208 i)) 209 = 12 from (lN 209 (by omega)).trans t207.2.2.2.2.2.1]; omega) (by rw [show sN (wI (wV τ (z + 1) i (.ref (hd i))) (z + 2) i (sI ρ 208 i)) 209 = 12 from (lN 209 (by omega)).trans t207.2.2.2.2.2.1]; decide), i9, uI_r (show sT (wI (wV τ (z + 1) i (.ref (hd i))) (z + 2) i (sI ρ 208 i)) (z + 3) = 1 from (TT _).trans tf.1.2.2.2.1) (by rw [show sN (wI (wV τ (z + 1) i (.ref (hd i))) (z + 2) i (sI ρ 208 i)) (z + 3) = n from (NN _).trans tf.2.1.2.2.1]; exact hi) (by rw [show sN (wI (wV τ (z + 1) i (.ref (hd i))) (z + 2) i (sI ρ 208 i)) (z + 3) = n from (NN _).trans tf.2.1.2.2.1]; omega), nI_1]
    · show (if a = z + 1 ∧ k = i then _ else sV τ a k) = _
      rw [if_neg (fun y => ha y.1)]; exact r2 a k ha
    · rw [sI_wIn (fun y => h2 y.1), sI_wIn (fun y => h1 y.1)]; exact r3 a k h1 h2
    · by_cases y : j = i
      · subst y
        refine ⟨if_pos ⟨rfl, rfl⟩, ?_, sI_wIs _ _ _ _⟩
        rw [sI_wIn (by omega), sI_wIs]
      · obtain ⟨q1, q2, q3⟩ := hc j (by omega)
        refine ⟨(if_neg (fun w => y w.2)).trans q1, ?_, ?_⟩
        · rw [sI_wIn (by omega), sI_wIn (by omega)]; exact q2
        · rw [sI_wIn (by omega), sI_wIn (by omega)]; exact q3) (by
    rintro u τ ⟨⟨r1, r2, r3⟩, hc⟩
    try dsimp only
    rw [e_47_68, if_neg (nI_nlt (Nat.le_refl _) (by omega))]) n 0 () c6 (by omega) ⟨⟨rfl, fun _ _ _ => rfl, fun _ _ _ _ => rfl⟩, fun j hj => by omega⟩
  have TT : ∀ a, sT τ a = sT c6 a := fun a => by unfold sT; rw [r1]
  have NN : ∀ a, sN τ a = sN c6 a := fun a => by unfold sN; rw [r1]
  have cs : (nI s).toNatClampNeg = s := nI_cl (by omega)
  have c0' : (0 : Int32).toNatClampNeg = 0 := by decide
  refine ⟨cpI τ 210 0 (z + 4) 0 s, ?_, ⟨?_, ?_⟩, fun a ha => ⟨⟨?_, ?_⟩, fun k => ⟨?_, ?_⟩⟩, ⟨?_, ?_, ?_, ?_, ?_, ?_⟩, ⟨?_, ?_, ?_, ?_, ?_⟩, ⟨?_, ?_, ?_, ?_, ?_⟩, ?_, fun i hi => ⟨?_, ?_, ?_⟩, fun j hj => ?_⟩
  · show rn 47 _ c0 = _
    rw [enter]
    refine p1.trans ?_
    try dsimp only
    rw [e_47_114, gR_r ((TT z).trans tf.1.1) ((r2 _ _ (by omega)).trans tf.2.2.2.2.2.1)]
    unfold acp aRef
    try dsimp only
    rw [if_pos ⟨(TT _).trans ((lo 210 (by omega)).1.1.trans t207.2.2.2.2.2.2.1), (TT _).trans tf.1.2.2.2.2.1, by omega, by decide, by decide, nI_pos (by omega), by rw [cs, c0', NN, (lo 210 (by omega)).1.2, t207.2.2.2.2.2.2.2]; omega, by rw [cs, c0', NN, tf.2.1.2.2.2.1]; omega⟩, cs, c0']
  · show sZ τ = _
    unfold sZ; rw [r1]; exact Z6
  · show sS τ = _
    unfold sS; rw [r1]; exact S6
  · exact (TT a).trans (lo a ha).1.1
  · exact (NN a).trans (lo a ha).1.2
  · exact (r2 a k (by omega)).trans ((lo a ha).2 k).1
  · show (if a = z + 4 ∧ 0 ≤ k ∧ k < 0 + s then _ else sI τ a k) = _
    rw [if_neg (by omega)]; exact (r3 a k (by omega) (by omega)).trans ((lo a ha).2 k).2
  · exact (TT z).trans tf.1.1
  · exact (r2 _ _ (by omega)).trans tf.2.2.1
  · exact (r2 _ _ (by omega)).trans tf.2.2.2.1
  · exact (r2 _ _ (by omega)).trans tf.2.2.2.2.1
  · exact (r2 _ _ (by omega)).trans tf.2.2.2.2.2.1
  · exact (r2 _ _ (by omega)).trans tf.2.2.2.2.2.2
  · exact (TT _).trans tf.1.2.1
  · exact (TT _).trans tf.1.2.2.1
  · exact (TT _).trans tf.1.2.2.2.1
  · exact (TT _).trans tf.1.2.2.2.2.1
  · exact (TT _).trans tf.1.2.2.2.2.2
  · exact (NN _).trans tf.2.1.1
  · exact (NN _).trans tf.2.1.2.1
  · exact (NN _).trans tf.2.1.2.2.1
  · exact (NN _).trans tf.2.1.2.2.2.1
  · exact (NN _).trans tf.2.1.2.2.2.2
  · show (if z = z + 4 ∧ 0 ≤ 0 ∧ 0 < 0 + s then _ else sI τ z 0) = _
    rw [if_neg (by omega), r3 _ _ (by omega) (by omega), I6 _ _ (Nat.le_refl _), I0, if_pos ⟨rfl, rfl⟩]
  · exact (p2 i hi).1
  · show (if z + 2 = z + 4 ∧ 0 ≤ i ∧ i < 0 + s then _ else sI τ (z + 2) i) = _
    rw [if_neg (by omega)]; exact (p2 i hi).2.1
  · show (if z + 3 = z + 4 ∧ 0 ≤ i ∧ i < 0 + s then _ else sI τ (z + 3) i) = _
    rw [if_neg (by omega)]; exact (p2 i hi).2.2
  · show (if z + 4 = z + 4 ∧ 0 ≤ j ∧ j < 0 + s then sI τ 210 (0 + (j - 0)) else _) = _
    rw [if_pos ⟨rfl, by omega, by omega⟩, show 0 + (j - 0) = j by omega, r3 _ _ (by omega) (by omega)]
    exact ((lo 210 (by omega)).2 j).2
end G8
