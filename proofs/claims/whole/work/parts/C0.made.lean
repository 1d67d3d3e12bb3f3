/-! a county made -/
section C0
variable {σ ρ : SH} {z : Nat}
theorem T_mk (t n s a : Nat) : sT (mkC σ t n s) a = if a = sZ σ then t else sT σ a := rfl
theorem N_mk (t n s a : Nat) : sN (mkC σ t n s) a = if a = sZ σ then n else sN σ a := rfl
theorem V_mk (t n s a k : Nat) : sV (mkC σ t n s) a k = if a = sZ σ then .null else sV σ a k := rfl
theorem I_mk (t n s a k : Nat) : sI (mkC σ t n s) a k = if a = sZ σ then 0 else sI σ a k := rfl
theorem Z_mk (t n s : Nat) : sZ (mkC σ t n s) = sZ σ + 1 := rfl
theorem S_mk (t n s : Nat) : sS (mkC σ t n s) = sS σ + s := rfl
theorem T_wV (a k : Nat) (v : Value) (b : Nat) : sT (wV σ a k v) b = sT σ b := rfl
theorem N_wV (a k : Nat) (v : Value) (b : Nat) : sN (wV σ a k v) b = sN σ b := rfl
theorem I_wV (a k : Nat) (v : Value) (b j : Nat) : sI (wV σ a k v) b j = sI σ b j := rfl
theorem V_wV (a k : Nat) (v : Value) (b j : Nat) : sV (wV σ a k v) b j = if b = a ∧ j = k then v else sV σ b j := rfl
theorem Z_wV (a k : Nat) (v : Value) : sZ (wV σ a k v) = sZ σ := rfl
theorem S_wV (a k : Nat) (v : Value) : sS (wV σ a k v) = sS σ := rfl
theorem T_wI (a k : Nat) (v : Int32) (b : Nat) : sT (wI σ a k v) b = sT σ b := rfl
theorem N_wI (a k : Nat) (v : Int32) (b : Nat) : sN (wI σ a k v) b = sN σ b := rfl
theorem V_wI (a k : Nat) (v : Int32) (b j : Nat) : sV (wI σ a k v) b j = sV σ b j := rfl
theorem Z_wI (a k : Nat) (v : Int32) : sZ (wI σ a k v) = sZ σ := rfl
theorem S_wI (a k : Nat) (v : Int32) : sS (wI σ a k v) = sS σ := rfl
/-- how far a county is made -/
def Cm (σ : SH) (z i1 i2 i3 : Nat) (ρ : SH) : Prop := (sZ ρ = z + 7 + i1 + i2 + i3 ∧ sS ρ = sS σ + 284 + 7 * i1 + 3 * i2 + 7 * i3) ∧ (∀ a, a < z → sT ρ a = sT σ a ∧ sN ρ a = sN σ a ∧ ∀ k, sV ρ a k = sV σ a k ∧ sI ρ a k = sI σ a k) ∧
  ((sT ρ z = 101 ∧ sV ρ z 0 = .ref (z + 1) ∧ sV ρ z 1 = .ref (z + 2) ∧ sV ρ z 2 = .ref (z + 3) ∧ sV ρ z 3 = .ref (z + 4) ∧ sV ρ z 13 = .ref (z + 6)) ∧ (sT ρ (z + 1) = 18 ∧ sN ρ (z + 1) = 6 ∧ sT ρ (z + 2) = 10 ∧ sN ρ (z + 2) = 5 ∧ sT ρ (z + 3) = 12 ∧ sN ρ (z + 3) = 8) ∧ (sT ρ (z + 4) = 105 ∧ sV ρ (z + 4) 2 = .ref (z + 5) ∧ sT ρ (z + 5) = 1 ∧ sN ρ (z + 5) = 240 ∧ sT ρ (z + 6) = 1 ∧ sN ρ (z + 6) = 8)) ∧
  (sV ρ z 12 = .null ∧ (∀ k, sI ρ z k = if k = 8 then 8 else if k = 9 then 5 else if k = 11 then 1 else 0) ∧ ∀ a k, z < a → a < z + 7 → sI ρ a k = 0) ∧
  (∀ j, j < i1 → (sV ρ (z + 1) j = .ref (z + 7 + j) ∧ sT ρ (z + 7 + j) = 108) ∧ ∀ k, sI ρ (z + 7 + j) k = 0) ∧ (∀ j, j < i2 → (sV ρ (z + 2) j = .ref (z + 13 + j) ∧ sT ρ (z + 13 + j) = 100) ∧ ∀ k, sI ρ (z + 13 + j) k = 0) ∧ ∀ j, j < i3 → (sV ρ (z + 3) j = .ref (z + 18 + j) ∧ sT ρ (z + 18 + j) = 102) ∧ ∀ k, sI ρ (z + 18 + j) k = if k = 4 then -1 else 0
theorem m_4a (hz : sZ σ = z) (h40 : 40 ≤ z) : ∃ ρ, rn 4 [.ref z] (mkC σ 101 0 14) = exec PP 2 4 67 [some (.ref z), some (.int 0)] [] ρ ∧ Cm σ z 0 0 0 ρ := by
  let s1 := wV (mkC (mkC σ 101 0 14) 18 6 6) z 0 (.ref (z + 1))
  let s2 := wV (mkC s1 10 5 5) z 1 (.ref (z + 2))
  let s3 := wV (mkC s2 12 8 8) z 2 (.ref (z + 3))
  let s4 := wV (mkC (mkC s3 105 0 3) 1 240 240) (z + 4) 2 (.ref (z + 5))
  let s5 := wI (wI (wI (wV s4 z 3 (.ref (z + 4))) z 8 8) z 9 5) z 11 1
  let s6 := wV (mkC s5 1 8 8) z 13 (.ref (z + 6))
  have Z0 : sZ (mkC σ 101 0 14) = z + 1 := by rw [Z_mk, hz]
  have Z1 : sZ s1 = z + 2 := by show sZ (mkC σ 101 0 14) + 1 = _; rw [Z0]
  have Z2 : sZ s2 = z + 3 := by show sZ s1 + 1 = _; rw [Z1]
  have Z3 : sZ s3 = z + 4 := by show sZ s2 + 1 = _; rw [Z2]
  have Z3' : sZ (mkC s3 105 0 3) = z + 5 := by rw [Z_mk, Z3]
  have Z5 : sZ s5 = z + 6 := by show sZ (mkC s3 105 0 3) + 1 = _; rw [Z3']
  have Z6 : sZ s6 = z + 7 := by show sZ s5 + 1 = _; rw [Z5]
  have T0 : sT (mkC (mkC σ 101 0 14) 18 6 6) z = 101 := by rw [T_mk, if_neg (by omega), T_mk, if_pos hz.symm]
  have T1 : sT (mkC s1 10 5 5) z = 101 := by rw [T_mk, if_neg (by omega)]; exact T0
  have T2 : sT (mkC s2 12 8 8) z = 101 := by rw [T_mk, if_neg (by omega)]; exact T1
  have T3 : sT s3 z = 101 := T2
  have T4 : sT s4 z = 101 := by show sT (mkC (mkC s3 105 0 3) 1 240 240) z = _; rw [T_mk, if_neg (by omega), T_mk, if_neg (by omega)]; exact T3
  have T5 : sT (mkC s5 1 8 8) z = 101 := by rw [T_mk, if_neg (by omega)]; exact T4
  have T34 : sT (mkC (mkC s3 105 0 3) 1 240 240) (z + 4) = 105 := by rw [T_mk, if_neg (by omega), T_mk, if_pos Z3.symm]
  have q50 : rn 50 [.ref (z + 4)] (mkC s3 105 0 3) = some (.inl none, s4) := by
    rw [r_50, if_pos (by omega), show (240 : Int32) = nI 240 from rfl, nwA_r (by omega), Z3', pV_r T34]
  refine ⟨s6, ?_, ?_⟩
  · rw [r_4, if_pos (by omega), show (6 : Int32) = nI 6 from rfl, nwA_r (n := 6) (by omega), Z0, pV_r T0]
    show nwA s1 10 (nI 5) _ = _
    rw [nwA_r (n := 5) (by omega), Z1, pV_r T1]
    show nwA s2 12 (nI 8) _ = _
    rw [nwA_r (n := 8) (by omega), Z2, pV_r T2]
    show (if (sZ s3 : Nat) = 39 then none else (onV (rn 50 [.ref (sZ s3)] (mkC s3 105 0 3)) _ _)) = _
    rw [if_neg (by omega), Z3, q50, onV_i, pV_r T4, pI_r (show sT (wV s4 z 3 (.ref (z + 4))) z = 101 from T4), pI_r (show sT (wI (wV s4 z 3 (.ref (z + 4))) z 8 8) z = 101 from T4), pI_r (show sT (wI (wI (wV s4 z 3 (.ref (z + 4))) z 8 8) z 9 5) z = 101 from T4)]
    show nwA s5 1 (nI 8) _ = _
    rw [nwA_r (n := 8) (by omega), Z5, pV_r T5]
  · have S6 : sS s6 = sS σ + 284 := rfl
    -- below z
    have lo : ∀ a, a < z → sT s6 a = sT σ a ∧ sN s6 a = sN σ a ∧ ∀ k, sV s6 a k = sV σ a k ∧ sI s6 a k = sI σ a k := fun a ha => by
      have nv : ∀ (ρ : SH) (b k j : Nat) (v : Value), z ≤ b → sV (wV ρ b k v) a j = sV ρ a j := fun ρ b k j v hb => by rw [V_wV, if_neg (by omega)]
      have ni : ∀ (ρ : SH) (b k j : Nat) (v : Int32), z ≤ b → sI (wI ρ b k v) a j = sI ρ a j := fun ρ b k j v hb => sI_wIn (by omega)
      have mt : ∀ (ρ : SH) (t n s : Nat), z ≤ sZ ρ → sT (mkC ρ t n s) a = sT ρ a ∧ sN (mkC ρ t n s) a = sN ρ a ∧ ∀ k, sV (mkC ρ t n s) a k = sV ρ a k ∧ sI (mkC ρ t n s) a k = sI ρ a k := fun ρ t n s h => ⟨if_neg (by omega), if_neg (by omega), fun k => ⟨if_neg (by omega), if_neg (by omega)⟩⟩
      have e0 := mt σ 101 0 14 (by omega)
      have e1 := mt (mkC σ 101 0 14) 18 6 6 (by omega)
      have e2 := mt s1 10 5 5 (by omega)
      have e3 := mt s2 12 8 8 (by omega)
      have e4 := mt s3 105 0 3 (by omega)
      have e5 := mt (mkC s3 105 0 3) 1 240 240 (by omega)
      have e6 := mt s5 1 8 8 (by omega)
      refine ⟨e6.1.trans (e5.1.trans (e4.1.trans (e3.1.trans (e2.1.trans (e1.1.trans e0.1))))), e6.2.1.trans (e5.2.1.trans (e4.2.1.trans (e3.2.1.trans (e2.2.1.trans (e1.2.1.trans e0.2.1))))), fun k => ⟨?_, ?_⟩⟩
      · refine (nv (mkC s5 1 8 8) z 13 k (.ref (z + 6)) (by omega)).trans ((e6.2.2 k).1.trans ?_)
        refine (nv s4 z 3 k (.ref (z + 4)) (by omega)).trans ?_
        refine (nv (mkC (mkC s3 105 0 3) 1 240 240) (z + 4) 2 k (.ref (z + 5)) (by omega)).trans ((e5.2.2 k).1.trans ((e4.2.2 k).1.trans ?_))
        refine (nv (mkC s2 12 8 8) z 2 k (.ref (z + 3)) (by omega)).trans ((e3.2.2 k).1.trans ?_)
        refine (nv (mkC s1 10 5 5) z 1 k (.ref (z + 2)) (by omega)).trans ((e2.2.2 k).1.trans ?_)
        exact (nv (mkC (mkC σ 101 0 14) 18 6 6) z 0 k (.ref (z + 1)) (by omega)).trans ((e1.2.2 k).1.trans (e0.2.2 k).1)
      · refine (e6.2.2 k).2.trans ?_
        refine (ni _ z 11 k 1 (by omega)).trans ((ni _ z 9 k 5 (by omega)).trans ((ni _ z 8 k 8 (by omega)).trans ?_))
        exact (e5.2.2 k).2.trans ((e4.2.2 k).2.trans ((e3.2.2 k).2.trans ((e2.2.2 k).2.trans ((e1.2.2 k).2.trans (e0.2.2 k).2))))
    have ne : ∀ i j : Nat, i ≠ j → ¬ z + i = z + j := fun i j h e => h (by omega)
    have tg : ∀ (ρ : SH) (t n s a m : Nat), sZ ρ = z + m → sT (mkC ρ t n s) a = (if a = z + m then t else sT ρ a) ∧ sN (mkC ρ t n s) a = (if a = z + m then n else sN ρ a) ∧ (∀ k, sV (mkC ρ t n s) a k = if a = z + m then .null else sV ρ a k) ∧ ∀ k, sI (mkC ρ t n s) a k = if a = z + m then 0 else sI ρ a k := fun ρ t n s a m h => by rw [T_mk, N_mk, h]; exact ⟨rfl, rfl, fun k => by rw [V_mk, h], fun k => by rw [I_mk, h]⟩
    have g0' := fun a => tg σ 101 0 14 a 0 hz
    have g1 := fun a => tg (mkC σ 101 0 14) 18 6 6 a 1 Z0
    have g2 := fun a => tg s1 10 5 5 a 2 Z1
    have g3 := fun a => tg s2 12 8 8 a 3 Z2
    have g4 := fun a => tg s3 105 0 3 a 4 Z3
    have g5 := fun a => tg (mkC s3 105 0 3) 1 240 240 a 5 Z3'
    have g6 := fun a => tg s5 1 8 8 a 6 Z5
    have tt : ∀ a, sT s6 a = if a = z + 6 then 1 else if a = z + 5 then 1 else if a = z + 4 then 105 else if a = z + 3 then 12 else if a = z + 2 then 10 else if a = z + 1 then 18 else if a = z + 0 then 101 else sT σ a := fun a => by
      rw [show sT s6 a = sT (mkC s5 1 8 8) a from rfl, (g6 a).1, show sT s5 a = sT (mkC (mkC s3 105 0 3) 1 240 240) a from rfl, (g5 a).1, (g4 a).1, show sT s3 a = sT (mkC s2 12 8 8) a from rfl, (g3 a).1, show sT s2 a = sT (mkC s1 10 5 5) a from rfl, (g2 a).1, show sT s1 a = sT (mkC (mkC σ 101 0 14) 18 6 6) a from rfl, (g1 a).1, (g0' a).1]
    have nn : ∀ a, sN s6 a = if a = z + 6 then 8 else if a = z + 5 then 240 else if a = z + 4 then 0 else if a = z + 3 then 8 else if a = z + 2 then 5 else if a = z + 1 then 6 else if a = z + 0 then 0 else sN σ a := fun a => by
      rw [show sN s6 a = sN (mkC s5 1 8 8) a from rfl, (g6 a).2.1, show sN s5 a = sN (mkC (mkC s3 105 0 3) 1 240 240) a from rfl, (g5 a).2.1, (g4 a).2.1, show sN s3 a = sN (mkC s2 12 8 8) a from rfl, (g3 a).2.1, show sN s2 a = sN (mkC s1 10 5 5) a from rfl, (g2 a).2.1, show sN s1 a = sN (mkC (mkC σ 101 0 14) 18 6 6) a from rfl, (g1 a).2.1, (g0' a).2.1]
    have wv : ∀ (ρ : SH) (a k j : Nat) (v : Value), sV (wV ρ a k v) a j = if j = k then v else sV ρ a j := fun ρ a k j v => by
      rw [V_wV]
      by_cases e : j = k
      · rw [if_pos ⟨rfl, e⟩, if_pos e]
      · rw [if_neg (fun q => e q.2), if_neg e]
    have nz : ∀ m, 0 < m → ¬ z = z + m := fun m h e => by omega
    have vv : ∀ k, sV s6 z k = if k = 13 then .ref (z + 6) else if k = 3 then .ref (z + 4) else if k = 2 then .ref (z + 3) else if k = 1 then .ref (z + 2) else if k = 0 then .ref (z + 1) else .null := fun k => by
      rw [show sV s6 z k = sV (wV (mkC s5 1 8 8) z 13 (.ref (z + 6))) z k from rfl, wv, (g6 z).2.2.1 k, if_neg (nz 6 (by omega)), show sV s5 z k = sV (wV s4 z 3 (.ref (z + 4))) z k from rfl, wv, show sV s4 z k = sV (wV (mkC (mkC s3 105 0 3) 1 240 240) (z + 4) 2 (.ref (z + 5))) z k from rfl, V_wV, if_neg (show ¬ (z = z + 4 ∧ k = 2) from fun q => nz 4 (by omega) q.1), (g5 z).2.2.1 k, if_neg (nz 5 (by omega)), (g4 z).2.2.1 k, if_neg (nz 4 (by omega)), show sV s3 z k = sV (wV (mkC s2 12 8 8) z 2 (.ref (z + 3))) z k from rfl, wv, (g3 z).2.2.1 k, if_neg (nz 3 (by omega)), show sV s2 z k = sV (wV (mkC s1 10 5 5) z 1 (.ref (z + 2))) z k from rfl, wv, (g2 z).2.2.1 k, if_neg (nz 2 (by omega)), show sV s1 z k = sV (wV (mkC (mkC σ 101 0 14) 18 6 6) z 0 (.ref (z + 1))) z k from rfl, wv, (g1 z).2.2.1 k, if_neg (nz 1 (by omega)), (g0' z).2.2.1 k, if_pos (show z = z + 0 from rfl)]
    have v4 : sV s6 (z + 4) 2 = .ref (z + 5) := by
      rw [show sV s6 (z + 4) 2 = sV (wV (mkC s5 1 8 8) z 13 (.ref (z + 6))) (z + 4) 2 from rfl, V_wV, if_neg (by omega), (g6 _).2.2.1, if_neg (by omega), show sV s5 (z + 4) 2 = sV (wV s4 z 3 (.ref (z + 4))) (z + 4) 2 from rfl, V_wV, if_neg (by omega), show sV s4 (z + 4) 2 = sV (wV (mkC (mkC s3 105 0 3) 1 240 240) (z + 4) 2 (.ref (z + 5))) (z + 4) 2 from rfl, wv, if_pos rfl]
    have wi : ∀ (ρ : SH) (a k j : Nat) (v : Int32), sI (wI ρ a k v) a j = if j = k then v else sI ρ a j := fun ρ a k j v => by
      by_cases e : j = k
      · rw [if_pos e, e, sI_wIs]
      · rw [if_neg e, sI_wIn (fun q => e q.2)]
    have i4 : ∀ a k, sI s4 a k = if a = z + 5 then 0 else if a = z + 4 then 0 else if a = z + 3 then 0 else if a = z + 2 then 0 else if a = z + 1 then 0 else if a = z + 0 then 0 else sI σ a k := fun a k => by
      rw [show sI s4 a k = sI (mkC (mkC s3 105 0 3) 1 240 240) a k from rfl, (g5 a).2.2.2, (g4 a).2.2.2, show sI s3 a k = sI (mkC s2 12 8 8) a k from rfl, (g3 a).2.2.2, show sI s2 a k = sI (mkC s1 10 5 5) a k from rfl, (g2 a).2.2.2, show sI s1 a k = sI (mkC (mkC σ 101 0 14) 18 6 6) a k from rfl, (g1 a).2.2.2, (g0' a).2.2.2]
    have iz : ∀ k, sI s6 z k = if k = 8 then 8 else if k = 9 then 5 else if k = 11 then 1 else 0 := fun k => by
      rw [show sI s6 z k = sI (mkC s5 1 8 8) z k from rfl, (g6 z).2.2.2, if_neg (nz 6 (by omega)), show sI s5 z k = sI (wI (wI (wI s4 z 8 8) z 9 5) z 11 1) z k from rfl, wi, wi, wi, i4, if_neg (nz 5 (by omega)), if_neg (nz 4 (by omega)), if_neg (nz 3 (by omega)), if_neg (nz 2 (by omega)), if_neg (nz 1 (by omega)), if_pos (show z = z + 0 from rfl)]
      by_cases k8 : k = 8
      · rw [if_neg (by omega), if_neg (by omega), if_pos k8, if_pos k8]
      · by_cases k9 : k = 9
        · rw [if_neg (by omega), if_pos k9, if_neg k8, if_pos k9]
        · by_cases k11 : k = 11
          · rw [if_pos k11, if_neg k8, if_neg k9, if_pos k11]
          · rw [if_neg k11, if_neg k9, if_neg k8, if_neg k8, if_neg k9, if_neg k11]
    have io : ∀ a k, z < a → a < z + 7 → sI s6 a k = 0 := fun a k h1 h2 => by
      rw [show sI s6 a k = sI (mkC s5 1 8 8) a k from rfl, (g6 a).2.2.2]
      by_cases a6 : a = z + 6
      · rw [if_pos a6]
      · rw [if_neg a6, show sI s5 a k = sI (wI (wI (wI s4 z 8 8) z 9 5) z 11 1) a k from rfl, sI_wIn (by omega), sI_wIn (by omega), sI_wIn (by omega), i4]
        rcases (by omega : a = z + 5 ∨ a = z + 4 ∨ a = z + 3 ∨ a = z + 2 ∨ a = z + 1) with e | e | e | e | e <;> subst e
        · rw [if_pos rfl]
        · rw [if_neg (by omega), if_pos rfl]
        · rw [if_neg (by omega), if_neg (by omega), if_pos rfl]
        · rw [if_neg (by omega), if_neg (by omega), if_neg (by omega), if_pos rfl]
        · rw [if_neg (by omega), if_neg (by omega), if_neg (by omega), if_neg (by omega), if_pos rfl]
    refine ⟨⟨Z6, S6⟩, lo, ⟨⟨?_, vv 0, vv 1, vv 2, vv 3, vv 13⟩, ⟨?_, ?_, ?_, ?_, ?_, ?_⟩, ?_, v4, ?_, ?_, ?_, ?_⟩, ⟨vv 12, iz, io⟩, fun j hj => by omega, fun j hj => by omega, fun j hj => by omega⟩
    · rw [tt, if_neg (by omega), if_neg (by omega), if_neg (by omega), if_neg (by omega), if_neg (by omega), if_neg (by omega), if_pos (show z = z + 0 from rfl)]
    · rw [tt, if_neg (by omega), if_neg (by omega), if_neg (by omega), if_neg (by omega), if_neg (by omega), if_pos rfl]
    · rw [nn, if_neg (by omega), if_neg (by omega), if_neg (by omega), if_neg (by omega), if_neg (by omega), if_pos rfl]
    · rw [tt, if_neg (by omega), if_neg (by omega), if_neg (by omega), if_neg (by omega), if_pos rfl]
    · rw [nn, if_neg (by omega), if_neg (by omega), if_neg (by omega), if_neg (by omega), if_pos rfl]
    · rw [tt, if_neg (by omega), if_neg (by omega), if_neg (by omega), if_pos rfl]
    · rw [nn, if_neg (by omega), if_neg (by omega), if_neg (by omega), if_pos rfl]
    · rw [tt, if_neg (by omega), if_neg (by omega), if_pos rfl]
    · rw [tt, if_neg (by omega), if_pos rfl]
    · rw [nn, if_neg (by omega), if_pos rfl]
    · rw [tt, if_pos rfl]
    · rw [nn, if_pos rfl]
/-- one thing more -/
theorem Cm.mk1 {t s i1 i2 i3 r j : Nat} (h : Cm σ z i1 i2 i3 ρ) (hr : r = z + 1 ∨ r = z + 2 ∨ r = z + 3) : (∀ a, a < z + 7 + i1 + i2 + i3 → sT (wV (mkC ρ t 0 s) r j (.ref (sZ ρ))) a = sT ρ a ∧ sN (wV (mkC ρ t 0 s) r j (.ref (sZ ρ))) a = sN ρ a ∧ (∀ k, (a ≠ r ∨ k ≠ j) → sV (wV (mkC ρ t 0 s) r j (.ref (sZ ρ))) a k = sV ρ a k) ∧ ∀ k, sI (wV (mkC ρ t 0 s) r j (.ref (sZ ρ))) a k = sI ρ a k) ∧ sT (wV (mkC ρ t 0 s) r j (.ref (sZ ρ))) (sZ ρ) = t ∧ (∀ k, sI (wV (mkC ρ t 0 s) r j (.ref (sZ ρ))) (sZ ρ) k = 0) ∧ sV (wV (mkC ρ t 0 s) r j (.ref (sZ ρ))) r j = .ref (sZ ρ) := by
  have hz := h.1.1
  refine ⟨fun a ha => ⟨if_neg (by omega), if_neg (by omega), fun k hk => ?_, fun k => if_neg (by omega)⟩, if_pos rfl, fun k => if_pos rfl, by rw [V_wV, if_pos ⟨rfl, rfl⟩]⟩
  rw [V_wV, if_neg (by omega), V_mk, if_neg (by omega)]
end C0
