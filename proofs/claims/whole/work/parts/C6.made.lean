section C6
variable {ρ : SH}
theorem m_178 (hz : sZ ρ = 611) : ∃ σ', rn 178 [.ref 611] (mkC ρ 112 0 24) = some (.inl none, σ') ∧ (sZ σ' = 623 ∧ sS σ' = sS ρ + 10241) ∧ Up 611 99 ρ σ' ∧ ((sT σ' 611 = 112 ∧ sV σ' 611 1 = .ref 612 ∧ sV σ' 611 2 = .ref 613 ∧ sV σ' 611 3 = .ref 614 ∧ sV σ' 611 4 = .ref 615 ∧ sV σ' 611 5 = .ref 616 ∧ sV σ' 611 8 = .ref 617 ∧ sV σ' 611 15 = .ref 618 ∧ sV σ' 611 17 = .ref 619 ∧ sV σ' 611 21 = .ref 620 ∧ sV σ' 611 22 = .ref 621 ∧ sV σ' 611 23 = .ref 622) ∧ (sT σ' 612 = 1 ∧ sT σ' 613 = 1 ∧ sT σ' 614 = 1 ∧ sT σ' 615 = 1 ∧ sT σ' 616 = 1 ∧ sT σ' 617 = 2 ∧ sT σ' 618 = 1 ∧ sT σ' 619 = 1 ∧ sT σ' 620 = 1 ∧ sT σ' 621 = 1 ∧ sT σ' 622 = 1) ∧ (sN σ' 612 = 2061 ∧ sN σ' 613 = 1212 ∧ sN σ' 614 = 1212 ∧ sN σ' 615 = 363 ∧ sN σ' 616 = 4356 ∧ sN σ' 617 = 400 ∧ sN σ' 618 = 5 ∧ sN σ' 619 = 400 ∧ sN σ' 620 = 8 ∧ sN σ' 621 = 8 ∧ sN σ' 622 = 192)) ∧ (∀ k, sI σ' 611 k = if k = 14 then -1 else 0) ∧ (∀ k, sI σ' 612 k = if k = 6 then 8 else if k = 7 then 5 else if k = 9 then 1 else 0) ∧ ∀ a k, 613 ≤ a → a < 623 → sI σ' a k = 0 := by
  let s1 := wV (mkC (mkC ρ 112 0 24) 1 2061 2061) 611 1 (.ref 612)
  let s2 := wV (mkC s1 1 1212 1212) 611 2 (.ref 613)
  let s3 := wV (mkC s2 1 1212 1212) 611 3 (.ref 614)
  let s4 := wV (mkC s3 1 363 363) 611 4 (.ref 615)
  let s5 := wV (mkC s4 1 4356 4356) 611 5 (.ref 616)
  let s6 := wV (mkC s5 2 400 400) 611 8 (.ref 617)
  let q6 := wI s6 611 14 (-1)
  let s7 := wV (mkC q6 1 5 5) 611 15 (.ref 618)
  let s8 := wV (mkC s7 1 400 400) 611 17 (.ref 619)
  let s9 := wV (mkC s8 1 8 8) 611 21 (.ref 620)
  let s10 := wV (mkC s9 1 8 8) 611 22 (.ref 621)
  let s11 := wV (mkC s10 1 192 192) 611 23 (.ref 622)
  let t1 := wI (wI (wI s11 612 6 8) 612 7 5) 612 9 1
  have Z0 : sZ (mkC ρ 112 0 24) = 612 := by rw [Z_mk, hz]
  have Z1 : sZ s1 = 613 := by show sZ (mkC ρ 112 0 24) + 1 = _; rw [show sZ (mkC ρ 112 0 24) = 612 from Z0]
  have Z2 : sZ s2 = 614 := by show sZ s1 + 1 = _; rw [show sZ s1 = 613 from Z1]
  have Z3 : sZ s3 = 615 := by show sZ s2 + 1 = _; rw [show sZ s2 = 614 from Z2]
  have Z4 : sZ s4 = 616 := by show sZ s3 + 1 = _; rw [show sZ s3 = 615 from Z3]
  have Z5 : sZ s5 = 617 := by show sZ s4 + 1 = _; rw [show sZ s4 = 616 from Z4]
  have Z6 : sZ s6 = 618 := by show sZ s5 + 1 = _; rw [show sZ s5 = 617 from Z5]
  have Z7 : sZ s7 = 619 := by show sZ q6 + 1 = _; rw [show sZ q6 = 618 from Z6]
  have Z8 : sZ s8 = 620 := by show sZ s7 + 1 = _; rw [show sZ s7 = 619 from Z7]
  have Z9 : sZ s9 = 621 := by show sZ s8 + 1 = _; rw [show sZ s8 = 620 from Z8]
  have Z10 : sZ s10 = 622 := by show sZ s9 + 1 = _; rw [show sZ s9 = 621 from Z9]
  have Z11 : sZ s11 = 623 := by show sZ s10 + 1 = _; rw [show sZ s10 = 622 from Z10]
  have u0 : Up 611 99 ρ (mkC ρ 112 0 24) := mk_up 112 0 24 (by omega) 99
  have u1 : Up 611 99 ρ s1 := u0.tr ((mk_up (ρ := (mkC ρ 112 0 24)) 1 2061 2061 (by rw [show sZ (mkC ρ 112 0 24) = 612 from Z0]; omega) 99).tr (wV_up (by omega) 99))
  have u2 : Up 611 99 ρ s2 := u1.tr ((mk_up (ρ := s1) 1 1212 1212 (by rw [show sZ s1 = 613 from Z1]; omega) 99).tr (wV_up (by omega) 99))
  have u3 : Up 611 99 ρ s3 := u2.tr ((mk_up (ρ := s2) 1 1212 1212 (by rw [show sZ s2 = 614 from Z2]; omega) 99).tr (wV_up (by omega) 99))
  have u4 : Up 611 99 ρ s4 := u3.tr ((mk_up (ρ := s3) 1 363 363 (by rw [show sZ s3 = 615 from Z3]; omega) 99).tr (wV_up (by omega) 99))
  have u5 : Up 611 99 ρ s5 := u4.tr ((mk_up (ρ := s4) 1 4356 4356 (by rw [show sZ s4 = 616 from Z4]; omega) 99).tr (wV_up (by omega) 99))
  have u6 : Up 611 99 ρ s6 := u5.tr ((mk_up (ρ := s5) 2 400 400 (by rw [show sZ s5 = 617 from Z5]; omega) 99).tr (wV_up (by omega) 99))
  have uq : Up 611 99 ρ q6 := u6.tr (fun a ha => ⟨rfl, rfl, fun _ _ => rfl, fun k => sI_wIn (by omega)⟩)
  have u7 : Up 611 99 ρ s7 := uq.tr ((mk_up (ρ := q6) 1 5 5 (by rw [show sZ q6 = 618 from Z6]; omega) 99).tr (wV_up (by omega) 99))
  have u8 : Up 611 99 ρ s8 := u7.tr ((mk_up (ρ := s7) 1 400 400 (by rw [show sZ s7 = 619 from Z7]; omega) 99).tr (wV_up (by omega) 99))
  have u9 : Up 611 99 ρ s9 := u8.tr ((mk_up (ρ := s8) 1 8 8 (by rw [show sZ s8 = 620 from Z8]; omega) 99).tr (wV_up (by omega) 99))
  have u10 : Up 611 99 ρ s10 := u9.tr ((mk_up (ρ := s9) 1 8 8 (by rw [show sZ s9 = 621 from Z9]; omega) 99).tr (wV_up (by omega) 99))
  have u11 : Up 611 99 ρ s11 := u10.tr ((mk_up (ρ := s10) 1 192 192 (by rw [show sZ s10 = 622 from Z10]; omega) 99).tr (wV_up (by omega) 99))
  have ut : Up 611 99 ρ t1 := u11.tr (fun a ha => ⟨rfl, rfl, fun _ _ => rfl, fun k => by show sI (wI (wI (wI s11 612 6 8) 612 7 5) 612 9 1) a k = _; rw [sI_wIn (by omega), sI_wIn (by omega), sI_wIn (by omega)]⟩)
  have tt : ∀ a, sT t1 a = if a = 622 then 1 else if a = 621 then 1 else if a = 620 then 1 else if a = 619 then 1 else if a = 618 then 1 else if a = 617 then 2 else if a = 616 then 1 else if a = 615 then 1 else if a = 614 then 1 else if a = 613 then 1 else if a = 612 then 1 else if a = 611 then 112 else sT ρ a := fun a => by
    rw [show sT t1 a = sT s11 a from rfl, show sT s11 a = sT (mkC s10 1 192 192) a from rfl, T_mk, show sZ s10 = 622 from Z10, show sT s10 a = sT (mkC s9 1 8 8) a from rfl, T_mk, show sZ s9 = 621 from Z9, show sT s9 a = sT (mkC s8 1 8 8) a from rfl, T_mk, show sZ s8 = 620 from Z8, show sT s8 a = sT (mkC s7 1 400 400) a from rfl, T_mk, show sZ s7 = 619 from Z7, show sT s7 a = sT (mkC q6 1 5 5) a from rfl, T_mk, show sZ q6 = 618 from Z6, show sT q6 a = sT s6 a from rfl, show sT s6 a = sT (mkC s5 2 400 400) a from rfl, T_mk, show sZ s5 = 617 from Z5, show sT s5 a = sT (mkC s4 1 4356 4356) a from rfl, T_mk, show sZ s4 = 616 from Z4, show sT s4 a = sT (mkC s3 1 363 363) a from rfl, T_mk, show sZ s3 = 615 from Z3, show sT s3 a = sT (mkC s2 1 1212 1212) a from rfl, T_mk, show sZ s2 = 614 from Z2, show sT s2 a = sT (mkC s1 1 1212 1212) a from rfl, T_mk, show sZ s1 = 613 from Z1, show sT s1 a = sT (mkC (mkC ρ 112 0 24) 1 2061 2061) a from rfl, T_mk, show sZ (mkC ρ 112 0 24) = 612 from Z0, T_mk, hz]
  have nn : ∀ a, sN t1 a = if a = 622 then 192 else if a = 621 then 8 else if a = 620 then 8 else if a = 619 then 400 else if a = 618 then 5 else if a = 617 then 400 else if a = 616 then 4356 else if a = 615 then 363 else if a = 614 then 1212 else if a = 613 then 1212 else if a = 612 then 2061 else if a = 611 then 0 else sN ρ a := fun a => by
    rw [show sN t1 a = sN s11 a from rfl, show sN s11 a = sN (mkC s10 1 192 192) a from rfl, N_mk, show sZ s10 = 622 from Z10, show sN s10 a = sN (mkC s9 1 8 8) a from rfl, N_mk, show sZ s9 = 621 from Z9, show sN s9 a = sN (mkC s8 1 8 8) a from rfl, N_mk, show sZ s8 = 620 from Z8, show sN s8 a = sN (mkC s7 1 400 400) a from rfl, N_mk, show sZ s7 = 619 from Z7, show sN s7 a = sN (mkC q6 1 5 5) a from rfl, N_mk, show sZ q6 = 618 from Z6, show sN q6 a = sN s6 a from rfl, show sN s6 a = sN (mkC s5 2 400 400) a from rfl, N_mk, show sZ s5 = 617 from Z5, show sN s5 a = sN (mkC s4 1 4356 4356) a from rfl, N_mk, show sZ s4 = 616 from Z4, show sN s4 a = sN (mkC s3 1 363 363) a from rfl, N_mk, show sZ s3 = 615 from Z3, show sN s3 a = sN (mkC s2 1 1212 1212) a from rfl, N_mk, show sZ s2 = 614 from Z2, show sN s2 a = sN (mkC s1 1 1212 1212) a from rfl, N_mk, show sZ s1 = 613 from Z1, show sN s1 a = sN (mkC (mkC ρ 112 0 24) 1 2061 2061) a from rfl, N_mk, show sZ (mkC ρ 112 0 24) = 612 from Z0, N_mk, hz]
  have q6i : ∀ a k, sI q6 a k = if a = 611 ∧ k = 14 then -1 else sI s6 a k := fun a k => by
    show sI (wI s6 611 14 (-1)) a k = _
    by_cases e : a = 611 ∧ k = 14
    · rw [if_pos e, e.1, e.2, sI_wIs]
    · rw [if_neg e, sI_wIn e]
  have ii : ∀ a k, sI s11 a k = if a = 622 then 0 else if a = 621 then 0 else if a = 620 then 0 else if a = 619 then 0 else if a = 618 then 0 else if a = 611 ∧ k = 14 then -1 else if a = 617 then 0 else if a = 616 then 0 else if a = 615 then 0 else if a = 614 then 0 else if a = 613 then 0 else if a = 612 then 0 else if a = 611 then 0 else sI ρ a k := fun a k => by
    rw [show sI s11 a k = sI (mkC s10 1 192 192) a k from rfl, I_mk, show sZ s10 = 622 from Z10, show sI s10 a k = sI (mkC s9 1 8 8) a k from rfl, I_mk, show sZ s9 = 621 from Z9, show sI s9 a k = sI (mkC s8 1 8 8) a k from rfl, I_mk, show sZ s8 = 620 from Z8, show sI s8 a k = sI (mkC s7 1 400 400) a k from rfl, I_mk, show sZ s7 = 619 from Z7, show sI s7 a k = sI (mkC q6 1 5 5) a k from rfl, I_mk, show sZ q6 = 618 from Z6, q6i a k, show sI s6 a k = sI (mkC s5 2 400 400) a k from rfl, I_mk, show sZ s5 = 617 from Z5, show sI s5 a k = sI (mkC s4 1 4356 4356) a k from rfl, I_mk, show sZ s4 = 616 from Z4, show sI s4 a k = sI (mkC s3 1 363 363) a k from rfl, I_mk, show sZ s3 = 615 from Z3, show sI s3 a k = sI (mkC s2 1 1212 1212) a k from rfl, I_mk, show sZ s2 = 614 from Z2, show sI s2 a k = sI (mkC s1 1 1212 1212) a k from rfl, I_mk, show sZ s1 = 613 from Z1, show sI s1 a k = sI (mkC (mkC ρ 112 0 24) 1 2061 2061) a k from rfl, I_mk, show sZ (mkC ρ 112 0 24) = 612 from Z0, I_mk, hz]
  have wv : ∀ (ρ : SH) (a k j : Nat) (v : Value), sV (wV ρ a k v) a j = if j = k then v else sV ρ a j := fun ρ a k j v => by
    rw [V_wV]
    by_cases e : j = k
    · rw [if_pos ⟨rfl, e⟩, if_pos e]
    · rw [if_neg (fun q => e q.2), if_neg e]
  have vv : ∀ k, sV t1 611 k = if k = 23 then .ref 622 else if k = 22 then .ref 621 else if k = 21 then .ref 620 else if k = 17 then .ref 619 else if k = 15 then .ref 618 else if k = 8 then .ref 617 else if k = 5 then .ref 616 else if k = 4 then .ref 615 else if k = 3 then .ref 614 else if k = 2 then .ref 613 else if k = 1 then .ref 612 else .null := fun k => by
    rw [show sV t1 611 k = sV s11 611 k from rfl, show sV s11 611 k = sV (wV (mkC s10 1 192 192) 611 23 (.ref 622)) 611 k from rfl, wv, V_mk, show sZ s10 = 622 from Z10, if_neg (show ¬ 611 = 622 by decide), show sV s10 611 k = sV (wV (mkC s9 1 8 8) 611 22 (.ref 621)) 611 k from rfl, wv, V_mk, show sZ s9 = 621 from Z9, if_neg (show ¬ 611 = 621 by decide), show sV s9 611 k = sV (wV (mkC s8 1 8 8) 611 21 (.ref 620)) 611 k from rfl, wv, V_mk, show sZ s8 = 620 from Z8, if_neg (show ¬ 611 = 620 by decide), show sV s8 611 k = sV (wV (mkC s7 1 400 400) 611 17 (.ref 619)) 611 k from rfl, wv, V_mk, show sZ s7 = 619 from Z7, if_neg (show ¬ 611 = 619 by decide), show sV s7 611 k = sV (wV (mkC q6 1 5 5) 611 15 (.ref 618)) 611 k from rfl, wv, V_mk, show sZ q6 = 618 from Z6, if_neg (show ¬ 611 = 618 by decide), show sV q6 611 k = sV s6 611 k from rfl, show sV s6 611 k = sV (wV (mkC s5 2 400 400) 611 8 (.ref 617)) 611 k from rfl, wv, V_mk, show sZ s5 = 617 from Z5, if_neg (show ¬ 611 = 617 by decide), show sV s5 611 k = sV (wV (mkC s4 1 4356 4356) 611 5 (.ref 616)) 611 k from rfl, wv, V_mk, show sZ s4 = 616 from Z4, if_neg (show ¬ 611 = 616 by decide), show sV s4 611 k = sV (wV (mkC s3 1 363 363) 611 4 (.ref 615)) 611 k from rfl, wv, V_mk, show sZ s3 = 615 from Z3, if_neg (show ¬ 611 = 615 by decide), show sV s3 611 k = sV (wV (mkC s2 1 1212 1212) 611 3 (.ref 614)) 611 k from rfl, wv, V_mk, show sZ s2 = 614 from Z2, if_neg (show ¬ 611 = 614 by decide), show sV s2 611 k = sV (wV (mkC s1 1 1212 1212) 611 2 (.ref 613)) 611 k from rfl, wv, V_mk, show sZ s1 = 613 from Z1, if_neg (show ¬ 611 = 613 by decide), show sV s1 611 k = sV (wV (mkC (mkC ρ 112 0 24) 1 2061 2061) 611 1 (.ref 612)) 611 k from rfl, wv, V_mk, show sZ (mkC ρ 112 0 24) = 612 from Z0, if_neg (show ¬ 611 = 612 by decide), V_mk, hz, if_pos (show 611 = 611 from rfl)]
  have T0 : sT (mkC (mkC ρ 112 0 24) 1 2061 2061) 611 = 112 := by rw [T_mk, show sZ (mkC ρ 112 0 24) = 612 from Z0, if_neg (by decide)]; rw [T_mk, hz, if_pos rfl]
  have T1 : sT (mkC s1 1 1212 1212) 611 = 112 := by rw [T_mk, show sZ s1 = 613 from Z1, if_neg (by decide)]; exact T0
  have T2 : sT (mkC s2 1 1212 1212) 611 = 112 := by rw [T_mk, show sZ s2 = 614 from Z2, if_neg (by decide)]; exact T1
  have T3 : sT (mkC s3 1 363 363) 611 = 112 := by rw [T_mk, show sZ s3 = 615 from Z3, if_neg (by decide)]; exact T2
  have T4 : sT (mkC s4 1 4356 4356) 611 = 112 := by rw [T_mk, show sZ s4 = 616 from Z4, if_neg (by decide)]; exact T3
  have T5 : sT (mkC s5 2 400 400) 611 = 112 := by rw [T_mk, show sZ s5 = 617 from Z5, if_neg (by decide)]; exact T4
  have T6 : sT (mkC q6 1 5 5) 611 = 112 := by rw [T_mk, show sZ q6 = 618 from Z6, if_neg (by decide)]; exact T5
  have T7 : sT (mkC s7 1 400 400) 611 = 112 := by rw [T_mk, show sZ s7 = 619 from Z7, if_neg (by decide)]; exact T6
  have T8 : sT (mkC s8 1 8 8) 611 = 112 := by rw [T_mk, show sZ s8 = 620 from Z8, if_neg (by decide)]; exact T7
  have T9 : sT (mkC s9 1 8 8) 611 = 112 := by rw [T_mk, show sZ s9 = 621 from Z9, if_neg (by decide)]; exact T8
  have T10 : sT (mkC s10 1 192 192) 611 = 112 := by rw [T_mk, show sZ s10 = 622 from Z10, if_neg (by decide)]; exact T9
  have Tn : sT s11 611 = 112 := T10
  have Vn : sV s11 611 1 = .ref 612 := vv 1
  have Tc : sT s11 612 = 1 := tt 612
  have Nc6 : sN s11 612 = 2061 := nn 612
  have X0 : sS (mkC ρ 112 0 24) = sS ρ + 24 := S_mk _ _ _
  have Xq : sS q6 = sS s6 := S_wI _ _ _
  have X1 : sS s1 = sS (mkC ρ 112 0 24) + 2061 := (S_wV _ _ _).trans (S_mk _ _ _)
  have X2 : sS s2 = sS s1 + 1212 := (S_wV _ _ _).trans (S_mk _ _ _)
  have X3 : sS s3 = sS s2 + 1212 := (S_wV _ _ _).trans (S_mk _ _ _)
  have X4 : sS s4 = sS s3 + 363 := (S_wV _ _ _).trans (S_mk _ _ _)
  have X5 : sS s5 = sS s4 + 4356 := (S_wV _ _ _).trans (S_mk _ _ _)
  have X6 : sS s6 = sS s5 + 400 := (S_wV _ _ _).trans (S_mk _ _ _)
  have X7 : sS s7 = sS q6 + 5 := (S_wV _ _ _).trans (S_mk _ _ _)
  have X8 : sS s8 = sS s7 + 400 := (S_wV _ _ _).trans (S_mk _ _ _)
  have X9 : sS s9 = sS s8 + 8 := (S_wV _ _ _).trans (S_mk _ _ _)
  have X10 : sS s10 = sS s9 + 8 := (S_wV _ _ _).trans (S_mk _ _ _)
  have X11 : sS s11 = sS s10 + 192 := (S_wV _ _ _).trans (S_mk _ _ _)
  have Xt : sS t1 = sS s11 := (S_wI _ _ _).trans ((S_wI _ _ _).trans (S_wI _ _ _))
  have Xe : sS t1 = sS ρ + 10241 := by clear_value t1 s1 s2 s3 s4 s5 s6 q6 s7 s8 s9 s10 s11; omega
  refine ⟨t1, ?_, ⟨Z11, Xe⟩, ut, ⟨⟨tt 611, vv 1, vv 2, vv 3, vv 4, vv 5, vv 8, vv 15, vv 17, vv 21, vv 22, vv 23⟩, ⟨tt 612, tt 613, tt 614, tt 615, tt 616, tt 617, tt 618, tt 619, tt 620, tt 621, tt 622⟩, nn 612, nn 613, nn 614, nn 615, nn 616, nn 617, nn 618, nn 619, nn 620, nn 621, nn 622⟩, fun k => ?_, fun k => ?_, fun a k h1 h2 => ?_⟩
  · rw [r_178, if_pos (by decide)]
    show nwA (mkC ρ 112 0 24) 1 (nI 2061) _ = _
    rw [nwA_r (n := 2061) (by omega), show sZ (mkC ρ 112 0 24) = 612 from Z0, pV_r T0]
    show nwA s1 1 (nI 1212) _ = _
    rw [nwA_r (n := 1212) (by omega), show sZ s1 = 613 from Z1, pV_r T1]
    show nwA s2 1 (nI 1212) _ = _
    rw [nwA_r (n := 1212) (by omega), show sZ s2 = 614 from Z2, pV_r T2]
    show nwA s3 1 (nI 363) _ = _
    rw [nwA_r (n := 363) (by omega), show sZ s3 = 615 from Z3, pV_r T3]
    show nwA s4 1 (nI 4356) _ = _
    rw [nwA_r (n := 4356) (by omega), show sZ s4 = 616 from Z4, pV_r T4]
    show nwA s5 2 (nI 400) _ = _
    rw [nwA_r (n := 400) (by omega), show sZ s5 = 617 from Z5, pV_r T5]
    rw [pI_r (show sT s6 611 = 112 from T5)]
    show nwA q6 1 (nI 5) _ = _
    rw [nwA_r (n := 5) (by omega), show sZ q6 = 618 from Z6, pV_r T6]
    show nwA s7 1 (nI 400) _ = _
    rw [nwA_r (n := 400) (by omega), show sZ s7 = 619 from Z7, pV_r T7]
    show nwA s8 1 (nI 8) _ = _
    rw [nwA_r (n := 8) (by omega), show sZ s8 = 620 from Z8, pV_r T8]
    show nwA s9 1 (nI 8) _ = _
    rw [nwA_r (n := 8) (by omega), show sZ s9 = 621 from Z9, pV_r T9]
    show nwA s10 1 (nI 192) _ = _
    rw [nwA_r (n := 192) (by omega), show sZ s10 = 622 from Z10, pV_r T10]
    have u : ∀ (ρ' : SH) (j : Nat) (v : Int32) (k : SH → SR), ρ'.2 = s11.2 → j < 2061 → uI ρ' (.ref 612) (nI j) v k = k (wI ρ' 612 j v) := fun ρ' j v k e hj => uI_r (by unfold sT; rw [e]; exact Tc) (by unfold sN; rw [e]; exact Nat.lt_of_lt_of_eq hj Nc6.symm) (by unfold sN; rw [e]; have : sN s11 612 = 2061 := Nc6; unfold sN at this; omega)
    have g : ∀ (ρ' : SH) (k : Nat → SR), ρ'.2 = s11.2 → gR ρ' 112 1 (.ref 611) k = k 612 := fun ρ' k e => gR_r (by unfold sT; rw [e]; exact Tn) (by unfold sV; rw [e]; exact Vn)
    show gR s11 112 1 (.ref 611) _ = _
    rw [g _ _ rfl]
    show uI s11 (.ref 612) (nI 6) 8 _ = _
    rw [u _ _ _ _ rfl (by omega), g _ _ (by rfl)]
    show uI (wI s11 612 6 8) (.ref 612) (nI 7) 5 _ = _
    rw [u _ _ _ _ (by rfl) (by omega), g _ _ (by rfl)]
    show uI (wI (wI s11 612 6 8) 612 7 5) (.ref 612) (nI 9) 1 _ = _
    rw [u _ _ _ _ (by rfl) (by omega)]
  · show sI (wI (wI (wI s11 612 6 8) 612 7 5) 612 9 1) 611 k = _
    rw [sI_wIn (by omega), sI_wIn (by omega), sI_wIn (by omega), ii]
    by_cases e : k = 14
    · rw [if_pos e, e]; rfl
    · rw [if_neg e, if_neg (by decide), if_neg (by decide), if_neg (by decide), if_neg (by decide), if_neg (by decide), if_neg (fun q => e q.2)]; rfl
  · show sI (wI (wI (wI s11 612 6 8) 612 7 5) 612 9 1) 612 k = _
    by_cases e9 : k = 9
    · rw [e9, sI_wIs]; rfl
    · rw [sI_wIn (fun q => e9 q.2)]
      by_cases e7 : k = 7
      · rw [e7, sI_wIs]; rfl
      · rw [sI_wIn (fun q => e7 q.2)]
        by_cases e6 : k = 6
        · rw [e6, sI_wIs]; rfl
        · rw [sI_wIn (fun q => e6 q.2), ii, if_neg e6, if_neg e7, if_neg e9]; rfl
  · show sI (wI (wI (wI s11 612 6 8) 612 7 5) 612 9 1) a k = _
    rw [sI_wIn (by omega), sI_wIn (by omega), sI_wIn (by omega), ii]
    rcases (by omega : a = 613 ∨ a = 614 ∨ a = 615 ∨ a = 616 ∨ a = 617 ∨ a = 618 ∨ a = 619 ∨ a = 620 ∨ a = 621 ∨ a = 622) with e | e | e | e | e | e | e | e | e | e <;> subst e <;> rfl
end C6
