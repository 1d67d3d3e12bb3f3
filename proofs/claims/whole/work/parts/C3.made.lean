section C3
variable {ρ : SH}
theorem m_75 (hz : sZ ρ = 206) : ∃ σ', rn 75 [.ref 206, .ref 201] (mkC ρ 107 0 6) = some (.inl none, σ') ∧ (sZ σ' = 211 ∧ sS σ' = sS ρ + 442) ∧ Up 206 1 ρ σ' ∧ (sT σ' 206 = 107 ∧ sV σ' 206 0 = .ref 201 ∧ sV σ' 206 1 = .ref 207 ∧ sV σ' 206 2 = .ref 208 ∧ sV σ' 206 3 = .ref 209 ∧ sV σ' 206 4 = .ref 210 ∧ sT σ' 207 = 19 ∧ sN σ' 207 = 12 ∧ sT σ' 208 = 1 ∧ sN σ' 208 = 12 ∧ sT σ' 209 = 1 ∧ sN σ' 209 = 12 ∧ sT σ' 210 = 1 ∧ sN σ' 210 = 400) ∧ ∀ a k, 206 ≤ a → a < 211 → sI σ' a k = 0 := by
  let s1 := wV (mkC (mkC ρ 107 0 6) 19 12 12) 206 1 (.ref 207)
  let s2 := wV (mkC s1 1 12 12) 206 2 (.ref 208)
  let s3 := wV (mkC s2 1 12 12) 206 3 (.ref 209)
  let s4 := wV (mkC s3 1 400 400) 206 4 (.ref 210)
  let t1 := wV s4 206 0 (.ref 201)
  have Z0 : sZ (mkC ρ 107 0 6) = 207 := by rw [Z_mk, hz]
  have Z1 : sZ s1 = 208 := by show sZ (mkC ρ 107 0 6) + 1 = _; rw [Z0]
  have Z2 : sZ s2 = 209 := by show sZ s1 + 1 = _; rw [Z1]
  have Z3 : sZ s3 = 210 := by show sZ s2 + 1 = _; rw [Z2]
  have Z4 : sZ s4 = 211 := by show sZ s3 + 1 = _; rw [Z3]
  have u0 : Up 206 1 ρ (mkC ρ 107 0 6) := mk_up 107 0 6 (by omega) 1
  have u1 : Up 206 1 ρ s1 := u0.tr ((mk_up (ρ := (mkC ρ 107 0 6)) 19 12 12 (by omega) 1).tr (wV_up (by omega) 1))
  have u2 : Up 206 1 ρ s2 := u1.tr ((mk_up (ρ := s1) 1 12 12 (by omega) 1).tr (wV_up (by omega) 1))
  have u3 : Up 206 1 ρ s3 := u2.tr ((mk_up (ρ := s2) 1 12 12 (by omega) 1).tr (wV_up (by omega) 1))
  have u4 : Up 206 1 ρ s4 := u3.tr ((mk_up (ρ := s3) 1 400 400 (by omega) 1).tr (wV_up (by omega) 1))
  have v1 : Up 206 1 ρ t1 := u4.tr (wV_up (by omega) 1)
  have tt : ∀ a, sT t1 a = if a = 210 then 1 else if a = 209 then 1 else if a = 208 then 1 else if a = 207 then 19 else if a = 206 then 107 else sT ρ a := fun a => by
    rw [show sT t1 a = sT s4 a from rfl, show sT s4 a = sT (mkC s3 1 400 400) a from rfl, T_mk, Z3, show sT s3 a = sT (mkC s2 1 12 12) a from rfl, T_mk, Z2, show sT s2 a = sT (mkC s1 1 12 12) a from rfl, T_mk, Z1, show sT s1 a = sT (mkC (mkC ρ 107 0 6) 19 12 12) a from rfl, T_mk, Z0, T_mk, hz]
  have nn : ∀ a, sN t1 a = if a = 210 then 400 else if a = 209 then 12 else if a = 208 then 12 else if a = 207 then 12 else if a = 206 then 0 else sN ρ a := fun a => by
    rw [show sN t1 a = sN s4 a from rfl, show sN s4 a = sN (mkC s3 1 400 400) a from rfl, N_mk, Z3, show sN s3 a = sN (mkC s2 1 12 12) a from rfl, N_mk, Z2, show sN s2 a = sN (mkC s1 1 12 12) a from rfl, N_mk, Z1, show sN s1 a = sN (mkC (mkC ρ 107 0 6) 19 12 12) a from rfl, N_mk, Z0, N_mk, hz]
  have ii : ∀ a k, sI t1 a k = if a = 210 then 0 else if a = 209 then 0 else if a = 208 then 0 else if a = 207 then 0 else if a = 206 then 0 else sI ρ a k := fun a k => by
    rw [show sI t1 a k = sI s4 a k from rfl, show sI s4 a k = sI (mkC s3 1 400 400) a k from rfl, I_mk, Z3, show sI s3 a k = sI (mkC s2 1 12 12) a k from rfl, I_mk, Z2, show sI s2 a k = sI (mkC s1 1 12 12) a k from rfl, I_mk, Z1, show sI s1 a k = sI (mkC (mkC ρ 107 0 6) 19 12 12) a k from rfl, I_mk, Z0, I_mk, hz]
  have wv : ∀ (ρ : SH) (a k j : Nat) (v : Value), sV (wV ρ a k v) a j = if j = k then v else sV ρ a j := fun ρ a k j v => by
    rw [V_wV]
    by_cases e : j = k
    · rw [if_pos ⟨rfl, e⟩, if_pos e]
    · rw [if_neg (fun q => e q.2), if_neg e]
  have vv : ∀ k, sV t1 206 k = if k = 0 then .ref 201 else if k = 4 then .ref 210 else if k = 3 then .ref 209 else if k = 2 then .ref 208 else if k = 1 then .ref 207 else .null := fun k => by
    rw [show sV t1 206 k = sV (wV s4 206 0 (.ref 201)) 206 k from rfl, wv, show sV s4 206 k = sV (wV (mkC s3 1 400 400) 206 4 (.ref 210)) 206 k from rfl, wv, V_mk, Z3, if_neg (show ¬ 206 = 210 by decide), show sV s3 206 k = sV (wV (mkC s2 1 12 12) 206 3 (.ref 209)) 206 k from rfl, wv, V_mk, Z2, if_neg (show ¬ 206 = 209 by decide), show sV s2 206 k = sV (wV (mkC s1 1 12 12) 206 2 (.ref 208)) 206 k from rfl, wv, V_mk, Z1, if_neg (show ¬ 206 = 208 by decide), show sV s1 206 k = sV (wV (mkC (mkC ρ 107 0 6) 19 12 12) 206 1 (.ref 207)) 206 k from rfl, wv, V_mk, Z0, if_neg (show ¬ 206 = 207 by decide), V_mk, hz, if_pos (show 206 = 206 from rfl)]
  have T0 : sT (mkC (mkC ρ 107 0 6) 19 12 12) 206 = 107 := by rw [T_mk, Z0, if_neg (by decide)]; rw [T_mk, hz, if_pos rfl]
  have T1 : sT (mkC s1 1 12 12) 206 = 107 := by rw [T_mk, Z1, if_neg (by decide)]; exact T0
  have T2 : sT (mkC s2 1 12 12) 206 = 107 := by rw [T_mk, Z2, if_neg (by decide)]; exact T1
  have T3 : sT (mkC s3 1 400 400) 206 = 107 := by rw [T_mk, Z3, if_neg (by decide)]; exact T2
  refine ⟨t1, ?_, ⟨Z4, rfl⟩, v1, ⟨tt 206, vv 0, vv 1, vv 2, vv 3, vv 4, tt 207, nn 207, tt 208, nn 208, tt 209, nn 209, tt 210, nn 210⟩, fun a k h1 h2 => ?_⟩
  · rw [r_75, if_pos (by decide)]
    show nwA (mkC ρ 107 0 6) 19 (nI 12) _ = _
    rw [nwA_r (n := 12) (by omega), Z0, pV_r T0]
    show nwA s1 1 (nI 12) _ = _
    rw [nwA_r (n := 12) (by omega), Z1, pV_r T1]
    show nwA s2 1 (nI 12) _ = _
    rw [nwA_r (n := 12) (by omega), Z2, pV_r T2]
    show nwA s3 1 (nI 400) _ = _
    rw [nwA_r (n := 400) (by omega), Z3, pV_r T3]
    rw [pV_r (show sT s4 206 = 107 from T3)]
  · rw [ii]
    rcases (by omega : a = 210 ∨ a = 209 ∨ a = 208 ∨ a = 207 ∨ a = 206) with e | e | e | e | e <;> subst e <;> rfl
theorem m_24 (hz : sZ ρ = 290) : ∃ σ', rn 24 [.ref 290, .ref 211] (mkC ρ 103 0 4) = some (.inl none, σ') ∧ (sZ σ' = 292 ∧ sS σ' = sS ρ + 20) ∧ Up 290 6 ρ σ' ∧ (sT σ' 290 = 103 ∧ sV σ' 290 0 = .ref 211 ∧ sV σ' 290 1 = .ref 291 ∧ sT σ' 291 = 1 ∧ sN σ' 291 = 16) ∧ ∀ a k, 290 ≤ a → a < 292 → sI σ' a k = 0 := by
  let s1 := wV (mkC (mkC ρ 103 0 4) 1 16 16) 290 1 (.ref 291)
  let t1 := wV s1 290 0 (.ref 211)
  have Z0 : sZ (mkC ρ 103 0 4) = 291 := by rw [Z_mk, hz]
  have Z1 : sZ s1 = 292 := by show sZ (mkC ρ 103 0 4) + 1 = _; rw [Z0]
  have u0 : Up 290 6 ρ (mkC ρ 103 0 4) := mk_up 103 0 4 (by omega) 6
  have u1 : Up 290 6 ρ s1 := u0.tr ((mk_up (ρ := (mkC ρ 103 0 4)) 1 16 16 (by omega) 6).tr (wV_up (by omega) 6))
  have v1 : Up 290 6 ρ t1 := u1.tr (wV_up (by omega) 6)
  have tt : ∀ a, sT t1 a = if a = 291 then 1 else if a = 290 then 103 else sT ρ a := fun a => by
    rw [show sT t1 a = sT s1 a from rfl, show sT s1 a = sT (mkC (mkC ρ 103 0 4) 1 16 16) a from rfl, T_mk, Z0, T_mk, hz]
  have nn : ∀ a, sN t1 a = if a = 291 then 16 else if a = 290 then 0 else sN ρ a := fun a => by
    rw [show sN t1 a = sN s1 a from rfl, show sN s1 a = sN (mkC (mkC ρ 103 0 4) 1 16 16) a from rfl, N_mk, Z0, N_mk, hz]
  have ii : ∀ a k, sI t1 a k = if a = 291 then 0 else if a = 290 then 0 else sI ρ a k := fun a k => by
    rw [show sI t1 a k = sI s1 a k from rfl, show sI s1 a k = sI (mkC (mkC ρ 103 0 4) 1 16 16) a k from rfl, I_mk, Z0, I_mk, hz]
  have wv : ∀ (ρ : SH) (a k j : Nat) (v : Value), sV (wV ρ a k v) a j = if j = k then v else sV ρ a j := fun ρ a k j v => by
    rw [V_wV]
    by_cases e : j = k
    · rw [if_pos ⟨rfl, e⟩, if_pos e]
    · rw [if_neg (fun q => e q.2), if_neg e]
  have vv : ∀ k, sV t1 290 k = if k = 0 then .ref 211 else if k = 1 then .ref 291 else .null := fun k => by
    rw [show sV t1 290 k = sV (wV s1 290 0 (.ref 211)) 290 k from rfl, wv, show sV s1 290 k = sV (wV (mkC (mkC ρ 103 0 4) 1 16 16) 290 1 (.ref 291)) 290 k from rfl, wv, V_mk, Z0, if_neg (show ¬ 290 = 291 by decide), V_mk, hz, if_pos (show 290 = 290 from rfl)]
  have T0 : sT (mkC (mkC ρ 103 0 4) 1 16 16) 290 = 103 := by rw [T_mk, Z0, if_neg (by decide)]; rw [T_mk, hz, if_pos rfl]
  refine ⟨t1, ?_, ⟨Z1, rfl⟩, v1, ⟨tt 290, vv 0, vv 1, tt 291, nn 291⟩, fun a k h1 h2 => ?_⟩
  · rw [r_24, if_pos (by decide)]
    show nwA (mkC ρ 103 0 4) 1 (nI 16) _ = _
    rw [nwA_r (n := 16) (by omega), Z0, pV_r T0]
    rw [pV_r (show sT s1 290 = 103 from T0)]
  · rw [ii]
    rcases (by omega : a = 291 ∨ a = 290) with e | e <;> subst e <;> rfl
theorem m_56 (hz : sZ ρ = 292) : ∃ σ', rn 56 [.ref 292, .ref 211, .ref 290] (mkC ρ 106 0 8) = some (.inl none, σ') ∧ (sZ σ' = 299 ∧ sS σ' = sS ρ + 67) ∧ Up 292 7 ρ σ' ∧ (sT σ' 292 = 106 ∧ sV σ' 292 0 = .ref 211 ∧ sV σ' 292 1 = .ref 290 ∧ sV σ' 292 2 = .ref 293 ∧ sV σ' 292 3 = .ref 294 ∧ sV σ' 292 4 = .ref 295 ∧ sV σ' 292 5 = .ref 296 ∧ sV σ' 292 6 = .ref 297 ∧ sV σ' 292 7 = .ref 298 ∧ sT σ' 293 = 1 ∧ sN σ' 293 = 8 ∧ sT σ' 294 = 1 ∧ sN σ' 294 = 8 ∧ sT σ' 295 = 1 ∧ sN σ' 295 = 2 ∧ sT σ' 296 = 1 ∧ sN σ' 296 = 4 ∧ sT σ' 297 = 1 ∧ sN σ' 297 = 5 ∧ sT σ' 298 = 1 ∧ sN σ' 298 = 32) ∧ ∀ a k, 292 ≤ a → a < 299 → sI σ' a k = 0 := by
  let s1 := wV (mkC (mkC ρ 106 0 8) 1 8 8) 292 2 (.ref 293)
  let s2 := wV (mkC s1 1 8 8) 292 3 (.ref 294)
  let s3 := wV (mkC s2 1 2 2) 292 4 (.ref 295)
  let s4 := wV (mkC s3 1 4 4) 292 5 (.ref 296)
  let s5 := wV (mkC s4 1 5 5) 292 6 (.ref 297)
  let s6 := wV (mkC s5 1 32 32) 292 7 (.ref 298)
  let t1 := wV s6 292 0 (.ref 211)
  let t2 := wV t1 292 1 (.ref 290)
  have Z0 : sZ (mkC ρ 106 0 8) = 293 := by rw [Z_mk, hz]
  have Z1 : sZ s1 = 294 := by show sZ (mkC ρ 106 0 8) + 1 = _; rw [Z0]
  have Z2 : sZ s2 = 295 := by show sZ s1 + 1 = _; rw [Z1]
  have Z3 : sZ s3 = 296 := by show sZ s2 + 1 = _; rw [Z2]
  have Z4 : sZ s4 = 297 := by show sZ s3 + 1 = _; rw [Z3]
  have Z5 : sZ s5 = 298 := by show sZ s4 + 1 = _; rw [Z4]
  have Z6 : sZ s6 = 299 := by show sZ s5 + 1 = _; rw [Z5]
  have u0 : Up 292 7 ρ (mkC ρ 106 0 8) := mk_up 106 0 8 (by omega) 7
  have u1 : Up 292 7 ρ s1 := u0.tr ((mk_up (ρ := (mkC ρ 106 0 8)) 1 8 8 (by omega) 7).tr (wV_up (by omega) 7))
  have u2 : Up 292 7 ρ s2 := u1.tr ((mk_up (ρ := s1) 1 8 8 (by omega) 7).tr (wV_up (by omega) 7))
  have u3 : Up 292 7 ρ s3 := u2.tr ((mk_up (ρ := s2) 1 2 2 (by omega) 7).tr (wV_up (by omega) 7))
  have u4 : Up 292 7 ρ s4 := u3.tr ((mk_up (ρ := s3) 1 4 4 (by omega) 7).tr (wV_up (by omega) 7))
  have u5 : Up 292 7 ρ s5 := u4.tr ((mk_up (ρ := s4) 1 5 5 (by omega) 7).tr (wV_up (by omega) 7))
  have u6 : Up 292 7 ρ s6 := u5.tr ((mk_up (ρ := s5) 1 32 32 (by omega) 7).tr (wV_up (by omega) 7))
  have v1 : Up 292 7 ρ t1 := u6.tr (wV_up (by omega) 7)
  have v2 : Up 292 7 ρ t2 := v1.tr (wV_up (by omega) 7)
  have tt : ∀ a, sT t2 a = if a = 298 then 1 else if a = 297 then 1 else if a = 296 then 1 else if a = 295 then 1 else if a = 294 then 1 else if a = 293 then 1 else if a = 292 then 106 else sT ρ a := fun a => by
    rw [show sT t2 a = sT s6 a from rfl, show sT s6 a = sT (mkC s5 1 32 32) a from rfl, T_mk, Z5, show sT s5 a = sT (mkC s4 1 5 5) a from rfl, T_mk, Z4, show sT s4 a = sT (mkC s3 1 4 4) a from rfl, T_mk, Z3, show sT s3 a = sT (mkC s2 1 2 2) a from rfl, T_mk, Z2, show sT s2 a = sT (mkC s1 1 8 8) a from rfl, T_mk, Z1, show sT s1 a = sT (mkC (mkC ρ 106 0 8) 1 8 8) a from rfl, T_mk, Z0, T_mk, hz]
  have nn : ∀ a, sN t2 a = if a = 298 then 32 else if a = 297 then 5 else if a = 296 then 4 else if a = 295 then 2 else if a = 294 then 8 else if a = 293 then 8 else if a = 292 then 0 else sN ρ a := fun a => by
    rw [show sN t2 a = sN s6 a from rfl, show sN s6 a = sN (mkC s5 1 32 32) a from rfl, N_mk, Z5, show sN s5 a = sN (mkC s4 1 5 5) a from rfl, N_mk, Z4, show sN s4 a = sN (mkC s3 1 4 4) a from rfl, N_mk, Z3, show sN s3 a = sN (mkC s2 1 2 2) a from rfl, N_mk, Z2, show sN s2 a = sN (mkC s1 1 8 8) a from rfl, N_mk, Z1, show sN s1 a = sN (mkC (mkC ρ 106 0 8) 1 8 8) a from rfl, N_mk, Z0, N_mk, hz]
  have ii : ∀ a k, sI t2 a k = if a = 298 then 0 else if a = 297 then 0 else if a = 296 then 0 else if a = 295 then 0 else if a = 294 then 0 else if a = 293 then 0 else if a = 292 then 0 else sI ρ a k := fun a k => by
    rw [show sI t2 a k = sI s6 a k from rfl, show sI s6 a k = sI (mkC s5 1 32 32) a k from rfl, I_mk, Z5, show sI s5 a k = sI (mkC s4 1 5 5) a k from rfl, I_mk, Z4, show sI s4 a k = sI (mkC s3 1 4 4) a k from rfl, I_mk, Z3, show sI s3 a k = sI (mkC s2 1 2 2) a k from rfl, I_mk, Z2, show sI s2 a k = sI (mkC s1 1 8 8) a k from rfl, I_mk, Z1, show sI s1 a k = sI (mkC (mkC ρ 106 0 8) 1 8 8) a k from rfl, I_mk, Z0, I_mk, hz]
  have wv : ∀ (ρ : SH) (a k j : Nat) (v : Value), sV (wV ρ a k v) a j = if j = k then v else sV ρ a j := fun ρ a k j v => by
    rw [V_wV]
    by_cases e : j = k
    · rw [if_pos ⟨rfl, e⟩, if_pos e]
    · rw [if_neg (fun q => e q.2), if_neg e]
  have vv : ∀ k, sV t2 292 k = if k = 1 then .ref 290 else if k = 0 then .ref 211 else if k = 7 then .ref 298 else if k = 6 then .ref 297 else if k = 5 then .ref 296 else if k = 4 then .ref 295 else if k = 3 then .ref 294 else if k = 2 then .ref 293 else .null := fun k => by
    rw [show sV t2 292 k = sV (wV t1 292 1 (.ref 290)) 292 k from rfl, wv, show sV t1 292 k = sV (wV s6 292 0 (.ref 211)) 292 k from rfl, wv, show sV s6 292 k = sV (wV (mkC s5 1 32 32) 292 7 (.ref 298)) 292 k from rfl, wv, V_mk, Z5, if_neg (show ¬ 292 = 298 by decide), show sV s5 292 k = sV (wV (mkC s4 1 5 5) 292 6 (.ref 297)) 292 k from rfl, wv, V_mk, Z4, if_neg (show ¬ 292 = 297 by decide), show sV s4 292 k = sV (wV (mkC s3 1 4 4) 292 5 (.ref 296)) 292 k from rfl, wv, V_mk, Z3, if_neg (show ¬ 292 = 296 by decide), show sV s3 292 k = sV (wV (mkC s2 1 2 2) 292 4 (.ref 295)) 292 k from rfl, wv, V_mk, Z2, if_neg (show ¬ 292 = 295 by decide), show sV s2 292 k = sV (wV (mkC s1 1 8 8) 292 3 (.ref 294)) 292 k from rfl, wv, V_mk, Z1, if_neg (show ¬ 292 = 294 by decide), show sV s1 292 k = sV (wV (mkC (mkC ρ 106 0 8) 1 8 8) 292 2 (.ref 293)) 292 k from rfl, wv, V_mk, Z0, if_neg (show ¬ 292 = 293 by decide), V_mk, hz, if_pos (show 292 = 292 from rfl)]
  have T0 : sT (mkC (mkC ρ 106 0 8) 1 8 8) 292 = 106 := by rw [T_mk, Z0, if_neg (by decide)]; rw [T_mk, hz, if_pos rfl]
  have T1 : sT (mkC s1 1 8 8) 292 = 106 := by rw [T_mk, Z1, if_neg (by decide)]; exact T0
  have T2 : sT (mkC s2 1 2 2) 292 = 106 := by rw [T_mk, Z2, if_neg (by decide)]; exact T1
  have T3 : sT (mkC s3 1 4 4) 292 = 106 := by rw [T_mk, Z3, if_neg (by decide)]; exact T2
  have T4 : sT (mkC s4 1 5 5) 292 = 106 := by rw [T_mk, Z4, if_neg (by decide)]; exact T3
  have T5 : sT (mkC s5 1 32 32) 292 = 106 := by rw [T_mk, Z5, if_neg (by decide)]; exact T4
  refine ⟨t2, ?_, ⟨Z6, rfl⟩, v2, ⟨tt 292, vv 0, vv 1, vv 2, vv 3, vv 4, vv 5, vv 6, vv 7, tt 293, nn 293, tt 294, nn 294, tt 295, nn 295, tt 296, nn 296, tt 297, nn 297, tt 298, nn 298⟩, fun a k h1 h2 => ?_⟩
  · rw [r_56, if_pos (by decide)]
    show nwA (mkC ρ 106 0 8) 1 (nI 8) _ = _
    rw [nwA_r (n := 8) (by omega), Z0, pV_r T0]
    show nwA s1 1 (nI 8) _ = _
    rw [nwA_r (n := 8) (by omega), Z1, pV_r T1]
    show nwA s2 1 (nI 2) _ = _
    rw [nwA_r (n := 2) (by omega), Z2, pV_r T2]
    show nwA s3 1 (nI 4) _ = _
    rw [nwA_r (n := 4) (by omega), Z3, pV_r T3]
    show nwA s4 1 (nI 5) _ = _
    rw [nwA_r (n := 5) (by omega), Z4, pV_r T4]
    show nwA s5 1 (nI 32) _ = _
    rw [nwA_r (n := 32) (by omega), Z5, pV_r T5]
    rw [pV_r (show sT s6 292 = 106 from T5)]
    rw [pV_r (show sT t1 292 = 106 from T5)]
  · rw [ii]
    rcases (by omega : a = 298 ∨ a = 297 ∨ a = 296 ∨ a = 295 ∨ a = 294 ∨ a = 293 ∨ a = 292) with e | e | e | e | e | e | e <;> subst e <;> rfl
end C3
