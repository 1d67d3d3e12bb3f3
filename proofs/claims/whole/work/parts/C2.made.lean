section C2
variable {σ ρ ρ' : SH} {z : Nat}
/-- what was made before stays, but for the reference kk of 200 -/
def Up (z kk : Nat) (ρ ρ' : SH) : Prop := ∀ a, a < z → sT ρ' a = sT ρ a ∧ sN ρ' a = sN ρ a ∧ (∀ k, (a ≠ 200 ∨ k ≠ kk) → sV ρ' a k = sV ρ a k) ∧ ∀ k, sI ρ' a k = sI ρ a k
theorem mk_up (t n s : Nat) (h : z ≤ sZ ρ) (kk : Nat) : Up z kk ρ (mkC ρ t n s) := fun a ha => ⟨if_neg (by omega), if_neg (by omega), fun k _ => if_neg (by omega), fun k => if_neg (by omega)⟩
theorem wV_up {a k : Nat} {v : Value} (h : z ≤ a) (kk : Nat) : Up z kk ρ (wV ρ a k v) := fun b hb => ⟨rfl, rfl, fun j _ => by rw [V_wV, if_neg (by omega)], fun _ => rfl⟩
theorem wV_up0 {k : Nat} {v : Value} : Up z k ρ (wV ρ 200 k v) := fun b hb => ⟨rfl, rfl, fun j hj => by rw [V_wV, if_neg (by omega)], fun _ => rfl⟩
theorem Up.tr {kk : Nat} {ρ'' : SH} (h : Up z kk ρ ρ') (g : Up z kk ρ' ρ'') : Up z kk ρ ρ'' := fun a ha => ⟨(g a ha).1.trans (h a ha).1, (g a ha).2.1.trans (h a ha).2.1, fun k hk => ((g a ha).2.2.1 k hk).trans ((h a ha).2.2.1 k hk), fun k => ((g a ha).2.2.2 k).trans ((h a ha).2.2.2 k)⟩
/-- the tape -/
theorem m_96 (hz : sZ ρ = 201) : ∃ σ', rn 96 [.ref 201] (mkC ρ 110 0 8) = some (.inl none, σ') ∧ (sZ σ' = 206 ∧ sS σ' = sS ρ + 1611) ∧ Up 201 0 ρ σ' ∧ (sT σ' 201 = 110 ∧ sV σ' 201 0 = .ref 202 ∧ sV σ' 201 2 = .ref 203 ∧ sV σ' 201 3 = .ref 204 ∧ sV σ' 201 4 = .ref 205 ∧ sT σ' 202 = 1 ∧ sN σ' 202 = 400 ∧ sT σ' 203 = 19 ∧ sN σ' 203 = 401 ∧ sT σ' 204 = 1 ∧ sN σ' 204 = 401 ∧ sT σ' 205 = 1 ∧ sN σ' 205 = 401) ∧ ∀ a k, 201 ≤ a → a < 206 → sI σ' a k = 0 := by
  let s1 := wV (mkC (mkC ρ 110 0 8) 1 400 400) 201 0 (.ref 202)
  let s2 := wV (mkC s1 19 401 401) 201 2 (.ref 203)
  let s3 := wV (mkC s2 1 401 401) 201 3 (.ref 204)
  let s4 := wV (mkC s3 1 401 401) 201 4 (.ref 205)
  have Z0 : sZ (mkC ρ 110 0 8) = 202 := by rw [Z_mk, hz]
  have Z1 : sZ s1 = 203 := by show sZ (mkC ρ 110 0 8) + 1 = _; rw [Z0]
  have Z2 : sZ s2 = 204 := by show sZ s1 + 1 = _; rw [Z1]
  have Z3 : sZ s3 = 205 := by show sZ s2 + 1 = _; rw [Z2]
  have Z4 : sZ s4 = 206 := by show sZ s3 + 1 = _; rw [Z3]
  have u1 : Up 201 0 ρ s1 := ((mk_up 110 0 8 (by omega) 0).tr (mk_up (ρ := mkC ρ 110 0 8) 1 400 400 (by omega) 0)).tr (wV_up (by omega) 0)
  have u2 : Up 201 0 s1 s2 := (mk_up (ρ := s1) 19 401 401 (by omega) 0).tr (wV_up (by omega) 0)
  have u3 : Up 201 0 s2 s3 := (mk_up (ρ := s2) 1 401 401 (by omega) 0).tr (wV_up (by omega) 0)
  have u4' : Up 201 0 s3 s4 := (mk_up (ρ := s3) 1 401 401 (by omega) 0).tr (wV_up (by omega) 0)
  have u4 : Up 201 0 ρ s4 := ((u1.tr u2).tr u3).tr u4'
  have tt : ∀ a, sT s4 a = if a = 205 then 1 else if a = 204 then 1 else if a = 203 then 19 else if a = 202 then 1 else if a = 201 then 110 else sT ρ a := fun a => by
    rw [show sT s4 a = sT (mkC s3 1 401 401) a from rfl, T_mk, Z3, show sT s3 a = sT (mkC s2 1 401 401) a from rfl, T_mk, Z2, show sT s2 a = sT (mkC s1 19 401 401) a from rfl, T_mk, Z1, show sT s1 a = sT (mkC (mkC ρ 110 0 8) 1 400 400) a from rfl, T_mk, Z0, T_mk, hz]
  have nn : ∀ a, sN s4 a = if a = 205 then 401 else if a = 204 then 401 else if a = 203 then 401 else if a = 202 then 400 else if a = 201 then 0 else sN ρ a := fun a => by
    rw [show sN s4 a = sN (mkC s3 1 401 401) a from rfl, N_mk, Z3, show sN s3 a = sN (mkC s2 1 401 401) a from rfl, N_mk, Z2, show sN s2 a = sN (mkC s1 19 401 401) a from rfl, N_mk, Z1, show sN s1 a = sN (mkC (mkC ρ 110 0 8) 1 400 400) a from rfl, N_mk, Z0, N_mk, hz]
  have ii : ∀ a k, sI s4 a k = if a = 205 then 0 else if a = 204 then 0 else if a = 203 then 0 else if a = 202 then 0 else if a = 201 then 0 else sI ρ a k := fun a k => by
    rw [show sI s4 a k = sI (mkC s3 1 401 401) a k from rfl, I_mk, Z3, show sI s3 a k = sI (mkC s2 1 401 401) a k from rfl, I_mk, Z2, show sI s2 a k = sI (mkC s1 19 401 401) a k from rfl, I_mk, Z1, show sI s1 a k = sI (mkC (mkC ρ 110 0 8) 1 400 400) a k from rfl, I_mk, Z0, I_mk, hz]
  have wv : ∀ (ρ : SH) (a k j : Nat) (v : Value), sV (wV ρ a k v) a j = if j = k then v else sV ρ a j := fun ρ a k j v => by
    rw [V_wV]
    by_cases e : j = k
    · rw [if_pos ⟨rfl, e⟩, if_pos e]
    · rw [if_neg (fun q => e q.2), if_neg e]
  have vv : ∀ k, sV s4 201 k = if k = 4 then .ref 205 else if k = 3 then .ref 204 else if k = 2 then .ref 203 else if k = 0 then .ref 202 else .null := fun k => by
    rw [show sV s4 201 k = sV (wV (mkC s3 1 401 401) 201 4 (.ref 205)) 201 k from rfl, wv, V_mk, Z3, if_neg (show ¬ 201 = 205 by decide), show sV s3 201 k = sV (wV (mkC s2 1 401 401) 201 3 (.ref 204)) 201 k from rfl, wv, V_mk, Z2, if_neg (show ¬ 201 = 204 by decide), show sV s2 201 k = sV (wV (mkC s1 19 401 401) 201 2 (.ref 203)) 201 k from rfl, wv, V_mk, Z1, if_neg (show ¬ 201 = 203 by decide), show sV s1 201 k = sV (wV (mkC (mkC ρ 110 0 8) 1 400 400) 201 0 (.ref 202)) 201 k from rfl, wv, V_mk, Z0, if_neg (show ¬ 201 = 202 by decide), V_mk, hz, if_pos rfl]
  have T0 : sT (mkC (mkC ρ 110 0 8) 1 400 400) 201 = 110 := by rw [T_mk, Z0, if_neg (by decide), T_mk, hz, if_pos rfl]
  have T1 : sT (mkC s1 19 401 401) 201 = 110 := by rw [T_mk, Z1, if_neg (by decide)]; exact T0
  have T2 : sT (mkC s2 1 401 401) 201 = 110 := by rw [T_mk, Z2, if_neg (by decide)]; exact T1
  have T3 : sT (mkC s3 1 401 401) 201 = 110 := by rw [T_mk, Z3, if_neg (by decide)]; exact T2
  refine ⟨s4, ?_, ⟨Z4, rfl⟩, u4, ⟨tt 201, vv 0, vv 2, vv 3, vv 4, tt 202, nn 202, tt 203, nn 203, tt 204, nn 204, tt 205, nn 205⟩, fun a k h1 h2 => ?_⟩
  · rw [r_96, if_pos (by decide), show (400 : Int32) = nI 400 from rfl, nwA_r (n := 400) (by omega), Z0, pV_r T0]
    show nwA s1 19 (nI 401) _ = _
    rw [nwA_r (n := 401) (by omega), Z1, pV_r T1]
    show nwA s2 1 (nI 401) _ = _
    rw [nwA_r (n := 401) (by omega), Z2, pV_r T2]
    show nwA s3 1 (nI 401) _ = _
    rw [nwA_r (n := 401) (by omega), Z3, pV_r T3]
  · rw [ii]
    rcases (by omega : a = 205 ∨ a = 204 ∨ a = 203 ∨ a = 202 ∨ a = 201) with e | e | e | e | e <;> subst e <;> rfl
end C2
