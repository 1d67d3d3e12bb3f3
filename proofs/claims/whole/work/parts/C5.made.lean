section C5
variable {σ ρ ρ' : SH}
/-- all that the program's constructor makes -/
def Made (F : SH) : Prop := (sT F 200 = 111 ∧ sV F 200 0 = .ref 201 ∧ sV F 200 1 = .ref 206 ∧ sV F 200 2 = .ref 211 ∧ sV F 200 3 = .ref 237 ∧ sV F 200 4 = .ref 263 ∧ sV F 200 5 = .ref 289 ∧ sV F 200 6 = .ref 290 ∧ sV F 200 7 = .ref 292) ∧
  (sT F 201 = 110 ∧ sV F 201 0 = .ref 202 ∧ sV F 201 2 = .ref 203 ∧ sV F 201 3 = .ref 204 ∧ sV F 201 4 = .ref 205 ∧ sT F 202 = 1 ∧ sN F 202 = 400 ∧ sT F 203 = 19 ∧ sN F 203 = 401 ∧ sT F 204 = 1 ∧ sN F 204 = 401 ∧ sT F 205 = 1 ∧ sN F 205 = 401) ∧
  (sT F 206 = 107 ∧ sV F 206 0 = .ref 201 ∧ sV F 206 1 = .ref 207 ∧ sV F 206 2 = .ref 208 ∧ sV F 206 3 = .ref 209 ∧ sV F 206 4 = .ref 210 ∧ sT F 207 = 19 ∧ sN F 207 = 12 ∧ sT F 208 = 1 ∧ sN F 208 = 12 ∧ sT F 209 = 1 ∧ sN F 209 = 12 ∧ sT F 210 = 1 ∧ sN F 210 = 400) ∧
  (sT F 289 = 11 ∧ sN F 289 = 12 ∧ ∀ i, i < 12 → sV F 289 i = .ref (299 + 26 * i)) ∧
  (sT F 290 = 103 ∧ sV F 290 0 = .ref 211 ∧ sV F 290 1 = .ref 291 ∧ sT F 291 = 1 ∧ sN F 291 = 16) ∧
  (sT F 292 = 106 ∧ sV F 292 0 = .ref 211 ∧ sV F 292 1 = .ref 290 ∧ sV F 292 2 = .ref 293 ∧ sV F 292 3 = .ref 294 ∧ sV F 292 4 = .ref 295 ∧ sV F 292 5 = .ref 296 ∧ sV F 292 6 = .ref 297 ∧ sV F 292 7 = .ref 298 ∧ sT F 293 = 1 ∧ sN F 293 = 8 ∧ sT F 294 = 1 ∧ sN F 294 = 8 ∧ sT F 295 = 1 ∧ sN F 295 = 2 ∧ sT F 296 = 1 ∧ sN F 296 = 4 ∧ sT F 297 = 1 ∧ sN F 297 = 5 ∧ sT F 298 = 1 ∧ sN F 298 = 32) ∧
  (∀ c, isC c → Nc F c) ∧ (∀ k, sI F 200 k = if k = 11 then -1 else 0) ∧ ∀ a k, 201 ≤ a → a < 206 → sI F a k = 0
theorem m_106 (hz : sZ σ = 200) : ∃ F, rn 106 [.ref 200] (mkC σ 111 0 12) = some (.inl none, F) ∧ (sZ F = 611 ∧ sS F = sS σ + 8119) ∧ (∀ a, a < 200 → sT F a = sT σ a ∧ sN F a = sN σ a ∧ ∀ k, sV F a k = sV σ a k ∧ sI F a k = sI σ a k) ∧ Made F := by
  have Z0 : sZ (mkC σ 111 0 12) = 201 := by rw [Z_mk, hz]
  have S0 : sS (mkC σ 111 0 12) = sS σ + 12 := rfl
  have T0 : sT (mkC σ 111 0 12) 200 = 111 := by rw [T_mk, hz, if_pos rfl]
  have I0 : ∀ k, sI (mkC σ 111 0 12) 200 k = 0 := fun k => by rw [I_mk, hz, if_pos rfl]
  have L0 : Od 200 σ (mkC σ 111 0 12) := od_mk 111 0 12 (by omega)
  generalize mkC σ 111 0 12 = s0 at Z0 S0 T0 I0 L0
  obtain ⟨t1, e1, ⟨z1, S1⟩, u1, f1, i1⟩ := m_96 (ρ := s0) Z0
  have o1 := u1.o2 (by omega)
  obtain ⟨o1', w1⟩ := o1.wv (v := .ref 201)
  have d1 : Od 201 s0 (wV t1 200 0 (.ref 201)) := u1.od.tr (od_v 201 0 _)
  have b1 : Od 206 t1 (wV t1 200 0 (.ref 201)) := od_v 206 0 _
  have tt1 : sT t1 200 = 111 := o1.1.trans T0
  have z1' : sZ (wV t1 200 0 (.ref 201)) = 206 := z1
  have S1' : sS (wV t1 200 0 (.ref 201)) = sS s0 + 1611 := S1
  generalize hr1 : wV t1 200 0 (.ref 201) = r1 at o1' w1 d1 b1 z1' S1'
  have tr1 : sT r1 200 = 111 := o1'.1.trans T0
  obtain ⟨t2, e2, ⟨z2, S2⟩, u2, f2, i2⟩ := m_75 (ρ := r1) z1'
  have o2 := u2.o2 (by omega)
  obtain ⟨o2', w2⟩ := o2.wv (v := .ref 206)
  have d2 : Od 206 r1 (wV t2 200 1 (.ref 206)) := u2.od.tr (od_v 206 1 _)
  have b2 : Od 211 t2 (wV t2 200 1 (.ref 206)) := od_v 211 1 _
  have tt2 : sT t2 200 = 111 := o2.1.trans tr1
  have z2' : sZ (wV t2 200 1 (.ref 206)) = 211 := z2
  have S2' : sS (wV t2 200 1 (.ref 206)) = sS r1 + 442 := S2
  generalize hr2 : wV t2 200 1 (.ref 206) = r2 at o2' w2 d2 b2 z2' S2'
  have tr2 : sT r2 200 = 111 := o2'.1.trans tr1
  obtain ⟨t3, e3, c3⟩ := m_4 (σ := r2) z2' (by omega)
  have o3 : O2 r2 t3 2 := c3.o2 (by omega)
  obtain ⟨o3', w3⟩ := o3.wv (v := .ref 211)
  have d3 : Od 211 r2 (wV t3 200 2 (.ref 211)) := c3.od.tr (od_v 211 2 _)
  have b3 : Od 237 t3 (wV t3 200 2 (.ref 211)) := od_v 237 2 _
  have tt3 : sT t3 200 = 111 := o3.1.trans tr2
  have z3' : sZ (wV t3 200 2 (.ref 211)) = 237 := c3.1.1
  have S3' : sS (wV t3 200 2 (.ref 211)) = sS r2 + 397 := c3.1.2
  generalize hr3 : wV t3 200 2 (.ref 211) = r3 at o3' w3 d3 b3 z3' S3'
  have tr3 : sT r3 200 = 111 := o3'.1.trans tr2
  obtain ⟨t4, e4, c4⟩ := m_4 (σ := r3) z3' (by omega)
  have o4 : O2 r3 t4 3 := c4.o2 (by omega)
  obtain ⟨o4', w4⟩ := o4.wv (v := .ref 237)
  have d4 : Od 237 r3 (wV t4 200 3 (.ref 237)) := c4.od.tr (od_v 237 3 _)
  have b4 : Od 263 t4 (wV t4 200 3 (.ref 237)) := od_v 263 3 _
  have tt4 : sT t4 200 = 111 := o4.1.trans tr3
  have z4' : sZ (wV t4 200 3 (.ref 237)) = 263 := c4.1.1
  have S4' : sS (wV t4 200 3 (.ref 237)) = sS r3 + 397 := c4.1.2
  generalize hr4 : wV t4 200 3 (.ref 237) = r4 at o4' w4 d4 b4 z4' S4'
  have tr4 : sT r4 200 = 111 := o4'.1.trans tr3
  obtain ⟨t5, e5, c5⟩ := m_4 (σ := r4) z4' (by omega)
  have o5 : O2 r4 t5 4 := c5.o2 (by omega)
  obtain ⟨o5', w5⟩ := o5.wv (v := .ref 263)
  have d5 : Od 263 r4 (wV t5 200 4 (.ref 263)) := c5.od.tr (od_v 263 4 _)
  have b5 : Od 289 t5 (wV t5 200 4 (.ref 263)) := od_v 289 4 _
  have tt5 : sT t5 200 = 111 := o5.1.trans tr4
  have z5' : sZ (wV t5 200 4 (.ref 263)) = 289 := c5.1.1
  have S5' : sS (wV t5 200 4 (.ref 263)) = sS r4 + 397 := c5.1.2
  generalize hr5 : wV t5 200 4 (.ref 263) = r5 at o5' w5 d5 b5 z5' S5'
  have tr5 : sT r5 200 = 111 := o5'.1.trans tr4
  -- the row of the past
  have u6 : Up 289 5 r5 (mkC r5 11 12 12) := mk_up 11 12 12 (by omega) 5
  have o6 := u6.o2 (by omega)
  obtain ⟨o6', w6⟩ := o6.wv (v := .ref 289)
  have d6 : Od 289 r5 (wV (mkC r5 11 12 12) 200 5 (.ref 289)) := u6.od.tr (od_v 289 5 _)
  have tt6 : sT (mkC r5 11 12 12) 200 = 111 := o6.1.trans tr5
  have p6 : sT (wV (mkC r5 11 12 12) 200 5 (.ref 289)) 289 = 11 ∧ sN (wV (mkC r5 11 12 12) 200 5 (.ref 289)) 289 = 12 := ⟨by rw [T_wV, T_mk, z5', if_pos rfl], by rw [N_wV, N_mk, z5', if_pos rfl]⟩
  have z6' : sZ (wV (mkC r5 11 12 12) 200 5 (.ref 289)) = 290 := by rw [Z_wV, Z_mk, z5']
  have S6' : sS (wV (mkC r5 11 12 12) 200 5 (.ref 289)) = sS r5 + 12 := rfl
  generalize hr6 : wV (mkC r5 11 12 12) 200 5 (.ref 289) = r6 at o6' w6 d6 p6 z6' S6'
  have tr6 : sT r6 200 = 111 := o6'.1.trans tr5
  obtain ⟨t7, e7, ⟨z7, S7⟩, u7, f7, i7⟩ := m_24 (ρ := r6) z6'
  have o7 := u7.o2 (by omega)
  obtain ⟨o7', w7⟩ := o7.wv (v := .ref 290)
  have d7 : Od 290 r6 (wV t7 200 6 (.ref 290)) := u7.od.tr (od_v 290 6 _)
  have b7 : Od 292 t7 (wV t7 200 6 (.ref 290)) := od_v 292 6 _
  have tt7 : sT t7 200 = 111 := o7.1.trans tr6
  have z7' : sZ (wV t7 200 6 (.ref 290)) = 292 := z7
  have S7' : sS (wV t7 200 6 (.ref 290)) = sS r6 + 20 := S7
  generalize hr7 : wV t7 200 6 (.ref 290) = r7 at o7' w7 d7 b7 z7' S7'
  have tr7 : sT r7 200 = 111 := o7'.1.trans tr6
  obtain ⟨t8, e8, ⟨z8, S8⟩, u8, f8, i8⟩ := m_56 (ρ := r7) z7'
  have o8 := u8.o2 (by omega)
  obtain ⟨o8', w8⟩ := o8.wv (v := .ref 292)
  have d8 : Od 292 r7 (wV t8 200 7 (.ref 292)) := u8.od.tr (od_v 292 7 _)
  have b8 : Od 299 t8 (wV t8 200 7 (.ref 292)) := od_v 299 7 _
  have tt8 : sT t8 200 = 111 := o8.1.trans tr7
  have z8' : sZ (wV t8 200 7 (.ref 292)) = 299 := z8
  have S8' : sS (wV t8 200 7 (.ref 292)) = sS r7 + 67 := S8
  generalize hr8 : wV t8 200 7 (.ref 292) = r8 at o8' w8 d8 b8 z8' S8'
  have tr8 : sT r8 200 = 111 := o8'.1.trans tr7
  -- 200's references at r8
  have v0 : sV r8 200 0 = .ref 201 := (o8'.2.1 0 (by omega)).trans ((o7'.2.1 0 (by omega)).trans ((o6'.2.1 0 (by omega)).trans ((o5'.2.1 0 (by omega)).trans ((o4'.2.1 0 (by omega)).trans ((o3'.2.1 0 (by omega)).trans ((o2'.2.1 0 (by omega)).trans w1))))))
  have v1 : sV r8 200 1 = .ref 206 := (o8'.2.1 1 (by omega)).trans ((o7'.2.1 1 (by omega)).trans ((o6'.2.1 1 (by omega)).trans ((o5'.2.1 1 (by omega)).trans ((o4'.2.1 1 (by omega)).trans ((o3'.2.1 1 (by omega)).trans w2)))))
  have v2' : sV r6 200 2 = .ref 211 := (o6'.2.1 2 (by omega)).trans ((o5'.2.1 2 (by omega)).trans ((o4'.2.1 2 (by omega)).trans w3))
  have v2'' : sV r7 200 2 = .ref 211 := (o7'.2.1 2 (by omega)).trans v2'
  have v2 : sV r8 200 2 = .ref 211 := (o8'.2.1 2 (by omega)).trans v2''
  have v3 : sV r8 200 3 = .ref 237 := (o8'.2.1 3 (by omega)).trans ((o7'.2.1 3 (by omega)).trans ((o6'.2.1 3 (by omega)).trans ((o5'.2.1 3 (by omega)).trans w4)))
  have v4 : sV r8 200 4 = .ref 263 := (o8'.2.1 4 (by omega)).trans ((o7'.2.1 4 (by omega)).trans ((o6'.2.1 4 (by omega)).trans w5))
  have v5 : sV r8 200 5 = .ref 289 := (o8'.2.1 5 (by omega)).trans ((o7'.2.1 5 (by omega)).trans w6)
  have v6 : sV r8 200 6 = .ref 290 := (o8'.2.1 6 (by omega)).trans w7
  have iz : ∀ k, sI r8 200 k = 0 := fun k => (o8'.2.2 k).trans ((o7'.2.2 k).trans ((o6'.2.2 k).trans ((o5'.2.2 k).trans ((o4'.2.2 k).trans ((o3'.2.2 k).trans ((o2'.2.2 k).trans ((o1'.2.2 k).trans (I0 k))))))))
  have z9 : sZ (wI r8 200 11 (-1)) = 299 := z8'
  have t9 : sT (wI r8 200 11 (-1)) 200 = 111 := tr8
  have v9 : ∀ k, sV (wI r8 200 11 (-1)) 200 k = sV r8 200 k := fun k => rfl
  have i9 : ∀ k, sI (wI r8 200 11 (-1)) 200 k = if k = 11 then -1 else 0 := fun k => by
    by_cases e : k = 11
    · rw [e, sI_wIs, if_pos rfl]
    · rw [sI_wIn (fun q => e q.2), if_neg e]; exact iz k
  have d9 : Od 299 r8 (wI r8 200 11 (-1)) := od_i 299 11 _
  have S9 : sS (wI r8 200 11 (-1)) = sS r8 := rfl
  have p9 : sT (wI r8 200 11 (-1)) 289 = 11 ∧ sN (wI r8 200 11 (-1)) 289 = 12 := ⟨((d8 289 (by omega) (by omega)).1.trans (d7 289 (by omega) (by omega)).1).trans p6.1, ((d8 289 (by omega) (by omega)).2.1.trans (d7 289 (by omega) (by omega)).2.1).trans p6.2⟩
  obtain ⟨F, eF, gz, gS, gs, g289, gV, gN⟩ := lpS (F := fun i (_ : Unit) σ => exec PP 3 106 113 [some (.ref 200), some (.int (nI i))] [] σ) (g := fun _ u => u) (K := fun _ σ => some (.inl none, σ)) (I := fun i _ ρ => sZ ρ = 299 + 26 * i ∧ sS ρ = sS r8 + 397 * i ∧ (∀ a, a < 299 → a ≠ 289 → sT ρ a = sT (wI r8 200 11 (-1)) a ∧ sN ρ a = sN (wI r8 200 11 (-1)) a ∧ ∀ k, sV ρ a k = sV (wI r8 200 11 (-1)) a k ∧ sI ρ a k = sI (wI r8 200 11 (-1)) a k) ∧ (sT ρ 289 = 11 ∧ sN ρ 289 = 12) ∧ (∀ j, j < i → sV ρ 289 j = .ref (299 + 26 * j)) ∧ ∀ j, j < i → Nc ρ (299 + 26 * j)) (n := 12) (by
    rintro i u ρ hi ⟨h1, h2, h3, h4, h5, h6⟩
    obtain ⟨t, e, c⟩ := m_4 (σ := ρ) (z := 299 + 26 * i) h1 (by omega)
    have tT : sT t 289 = 11 := (c.2.1 289 (by omega)).1.trans h4.1
    have tN : sN t 289 = 12 := (c.2.1 289 (by omega)).2.1.trans h4.2
    have tc : sT t (299 + 26 * i) = 101 := c.sh.1.1
    have dd : Od (299 + 26 * i + 26) t (wV t 289 i (.ref (299 + 26 * i))) ∨ True := Or.inr trivial
    have nv : ∀ a k, a ≠ 289 → sV (wV t 289 i (.ref (299 + 26 * i))) a k = sV t a k := fun a k ha => by rw [V_wV, if_neg (fun q => ha q.1)]
    refine ⟨wV t 289 i (.ref (299 + 26 * i)), ?_, ?_, ?_, fun a ha h9 => ?_, ⟨tT, tN⟩, fun j hj => ?_, fun j hj => ?_⟩
    · show exec PP 3 106 113 _ _ ρ = exec PP 3 106 113 _ _ _
      have v200 : sV ρ 200 5 = .ref 289 := ((h3 200 (by omega) (by omega)).2.2 5).1.trans v5
      have T200 : sT ρ 200 = 111 := (h3 200 (by omega) (by omega)).1.trans t9
      rw [e_106_113, gR_r T200 v200, aN_r (n := 12) (by rw [h4.1]; decide) h4.2, if_pos (nI_lt hi (by decide)), gR_r T200 v200, h1, if_neg (show ¬ (299 + 26 * i : Nat) = 39 by omega), e, onV_i, uR_r (by rw [tT]; decide) (by rw [tT, tc]) (by rw [tN]; exact hi) (by rw [tN]; decide), nI_1]
    · show sZ t = _
      rw [c.1.1]; omega
    · show sS t = _
      rw [c.1.2, h2]; omega
    · obtain ⟨a1, a2, a3⟩ := c.2.1 a (by omega)
      obtain ⟨b1', b2', b3'⟩ := h3 a ha h9
      exact ⟨a1.trans b1', a2.trans b2', fun k => ⟨(nv a k h9).trans ((a3 k).1.trans (b3' k).1), (a3 k).2.trans (b3' k).2⟩⟩
    · by_cases ej : j = i
      · rw [ej, V_wV, if_pos ⟨rfl, rfl⟩]
      · rw [V_wV, if_neg (fun q => ej q.2), ((c.2.1 289 (by omega)).2.2 j).1]; exact h5 j (by omega)
    · have keep : ∀ cc, 290 ≤ cc → Nc t cc → Nc (wV t 289 i (.ref (299 + 26 * i))) cc := fun cc hcc n => by
        have g : ∀ a, a ≠ 289 → sT (wV t 289 i (.ref (299 + 26 * i))) a = sT t a ∧ sN (wV t 289 i (.ref (299 + 26 * i))) a = sN t a ∧ ∀ k, sV (wV t 289 i (.ref (299 + 26 * i))) a k = sV t a k ∧ sI (wV t 289 i (.ref (299 + 26 * i))) a k = sI t a k := fun a ha => ⟨rfl, rfl, fun k => ⟨nv a k ha, rfl⟩⟩
        obtain ⟨⟨⟨q1, q2, q3, q4, q5, q6⟩, q7, ⟨r1', r2', r3'⟩, s1', s2', s3'⟩, n2, n3, n4⟩ := n
        refine ⟨⟨⟨q1, (nv _ _ (by omega)).trans q2, (nv _ _ (by omega)).trans q3, (nv _ _ (by omega)).trans q4, (nv _ _ (by omega)).trans q5, (nv _ _ (by omega)).trans q6⟩, q7, ⟨r1', (nv _ _ (by omega)).trans r2', r3'⟩, fun x hx => ⟨(nv _ _ (by omega)).trans (s1' x hx).1, (s1' x hx).2⟩, fun x hx => ⟨(nv _ _ (by omega)).trans (s2' x hx).1, (s2' x hx).2⟩, fun x hx => ⟨(nv _ _ (by omega)).trans (s3' x hx).1, (s3' x hx).2⟩⟩, (nv _ _ (by omega)).trans n2, n3, n4⟩
      by_cases ej : j = i
      · rw [ej]; exact keep _ (by omega) c.nc
      · exact keep _ (by omega) ((h6 j (by omega)).od (by omega) (by omega) c.od)) (by
    rintro u ρ ⟨h1, h2, h3, h4, h5, h6⟩
    have v200 : sV ρ 200 5 = .ref 289 := ((h3 200 (by omega) (by omega)).2.2 5).1.trans v5
    have T200 : sT ρ 200 = 111 := (h3 200 (by omega) (by omega)).1.trans t9
    show exec PP 3 106 113 _ _ ρ = _
    rw [e_106_113, gR_r T200 v200, aN_r (n := 12) (by rw [h4.1]; decide) h4.2, if_neg (nI_nlt (Nat.le_refl _) (by decide)), e_106_141]) 12 0 () (wI r8 200 11 (-1)) (by omega) ⟨z9, rfl, fun a _ _ => ⟨rfl, rfl, fun k => ⟨rfl, rfl⟩⟩, p9, fun j hj => by omega, fun j hj => by omega⟩
  -- all at the end
  have gF : ∀ zz, zz ≤ 289 → Od zz r8 F := fun zz hzz a x y => by
    obtain ⟨a1, a2, a3⟩ := gs a (by omega) (by omega)
    obtain ⟨b1', b2', b3'⟩ := d9 a (by omega) y
    exact ⟨a1.trans b1', a2.trans b2', fun k => ⟨(a3 k).1.trans (b3' k).1, (a3 k).2.trans (b3' k).2⟩⟩
  have D7 : Od 289 r7 F := (d8.mono (by omega)).tr (gF 289 (by omega))
  have D6 : Od 289 r6 F := (d7.mono (by omega)).tr D7
  have D5 : Od 289 t5 F := b5.tr (d6.tr D6)
  have D4 : Od 263 t4 F := b4.tr (d5.tr ((d6.mono (by omega)).tr (D6.mono (by omega))))
  have D4' : Od 263 r4 F := d5.tr ((d6.mono (by omega)).tr (D6.mono (by omega)))
  have D3 : Od 237 t3 F := b3.tr (d4.tr (D4'.mono (by omega)))
  have D3' : Od 237 r3 F := d4.tr (D4'.mono (by omega))
  have D2 : Od 211 t2 F := b2.tr (d3.tr (D3'.mono (by omega)))
  have D2' : Od 211 r2 F := d3.tr (D3'.mono (by omega))
  have D1 : Od 206 t1 F := b1.tr (d2.tr (D2'.mono (by omega)))
  have D1' : Od 206 r1 F := d2.tr (D2'.mono (by omega))
  have D0 : Od 200 σ F := L0.tr ((d1.mono (by omega)).tr (D1'.mono (by omega)))
  have big : ∀ a, 290 ≤ a → a < 299 → (a < 292 → sT F a = sT t7 a ∧ sN F a = sN t7 a ∧ ∀ k, sV F a k = sV t7 a k) ∧ (292 ≤ a → sT F a = sT t8 a ∧ sN F a = sN t8 a ∧ ∀ k, sV F a k = sV t8 a k) := fun a h1 h2 => by
    obtain ⟨a1, a2, a3⟩ := gs a h2 (by omega)
    obtain ⟨c1', c2', c3'⟩ := d9 a (by omega) (by omega)
    refine ⟨fun h3 => ?_, fun h3 => ?_⟩
    · obtain ⟨x1, x2, x3⟩ := d8 a (by omega) (by omega)
      obtain ⟨y1, y2, y3⟩ := b7 a (by omega) (by omega)
      exact ⟨a1.trans (c1'.trans (x1.trans y1)), a2.trans (c2'.trans (x2.trans y2)), fun k => (a3 k).1.trans ((c3' k).1.trans ((x3 k).1.trans (y3 k).1))⟩
    · obtain ⟨y1, y2, y3⟩ := b8 a (by omega) (by omega)
      exact ⟨a1.trans (c1'.trans y1), a2.trans (c2'.trans y2), fun k => (a3 k).1.trans ((c3' k).1.trans (y3 k).1)⟩
  have g200 := gs 200 (by omega) (by omega)
  have vF : ∀ k, sV F 200 k = sV r8 200 k := fun k => (g200.2.2 k).1
  refine ⟨F, ?_, ⟨gz, by omega⟩, fun a ha => D0 a ha (by omega), ⟨g200.1.trans t9, (vF 0).trans v0, (vF 1).trans v1, (vF 2).trans v2, (vF 3).trans v3, (vF 4).trans v4, (vF 5).trans v5, (vF 6).trans v6, (vF 7).trans w8⟩, ?_, ?_, ⟨g289.1, g289.2, gV⟩, ?_, ?_, fun c hc => ?_, fun k => (g200.2.2 k).2.trans (i9 k), fun a k h1 h2 => ((D1 a (by omega) (by omega)).2.2 k).2.trans (i1 a k h1 h2)⟩
  · rw [r_106, if_pos (by decide), Z0, if_neg (by decide), e1, onV_i, pV_r tt1, hr1, gR_r (show sT (mkC r1 107 0 6) 200 = 111 by rw [T_mk, z1', if_neg (by decide)]; exact tr1) (show sV (mkC r1 107 0 6) 200 0 = .ref 201 by rw [V_mk, z1', if_neg (by decide)]; exact w1), z1', if_neg (by decide), e2, onV_i, pV_r tt2, hr2, z2', if_neg (by decide), e3, onV_i, pV_r tt3, hr3, z3', if_neg (by decide), e4, onV_i, pV_r tt4, hr4, z4', if_neg (by decide), e5, onV_i, pV_r tt5, hr5, show (12 : Int32) = nI 12 from rfl, nwA_r (n := 12) (by omega), z5', pV_r tt6, hr6, gR_r (show sT (mkC r6 103 0 4) 200 = 111 by rw [T_mk, z6', if_neg (by decide)]; exact tr6) (show sV (mkC r6 103 0 4) 200 2 = .ref 211 by rw [V_mk, z6', if_neg (by decide)]; exact v2'), z6', if_neg (by decide), e7, onV_i, pV_r tt7, hr7, gR_r (show sT (mkC r7 106 0 8) 200 = 111 by rw [T_mk, z7', if_neg (by decide)]; exact tr7) (show sV (mkC r7 106 0 8) 200 2 = .ref 211 by rw [V_mk, z7', if_neg (by decide)]; exact v2''), gR_r (show sT (mkC r7 106 0 8) 200 = 111 by rw [T_mk, z7', if_neg (by decide)]; exact tr7) (show sV (mkC r7 106 0 8) 200 6 = .ref 290 by rw [V_mk, z7', if_neg (by decide)]; exact w7), z7', if_neg (by decide), e8, onV_i, pV_r tt8, hr8, pI_r tr8]
    exact eF
  · have T : ∀ a, 201 ≤ a → a < 206 → sT F a = sT t1 a := fun a x y => (D1 a (by omega) (by omega)).1
    have N : ∀ a, 201 ≤ a → a < 206 → sN F a = sN t1 a := fun a x y => (D1 a (by omega) (by omega)).2.1
    have V : ∀ k, sV F 201 k = sV t1 201 k := fun k => ((D1 201 (by omega) (by omega)).2.2 k).1
    rw [T 201 (by omega) (by omega), T 202 (by omega) (by omega), T 203 (by omega) (by omega), T 204 (by omega) (by omega), T 205 (by omega) (by omega), N 202 (by omega) (by omega), N 203 (by omega) (by omega), N 204 (by omega) (by omega), N 205 (by omega) (by omega), V, V, V, V]
    exact f1
  · have T : ∀ a, 206 ≤ a → a < 211 → sT F a = sT t2 a := fun a x y => (D2 a (by omega) (by omega)).1
    have N : ∀ a, 206 ≤ a → a < 211 → sN F a = sN t2 a := fun a x y => (D2 a (by omega) (by omega)).2.1
    have V : ∀ k, sV F 206 k = sV t2 206 k := fun k => ((D2 206 (by omega) (by omega)).2.2 k).1
    rw [T 206 (by omega) (by omega), T 207 (by omega) (by omega), T 208 (by omega) (by omega), T 209 (by omega) (by omega), T 210 (by omega) (by omega), N 207 (by omega) (by omega), N 208 (by omega) (by omega), N 209 (by omega) (by omega), N 210 (by omega) (by omega), V, V, V, V, V]
    exact f2
  · have B := fun a h1 h2 h3 => (big a h1 h2).1 h3
    rw [(B 290 (by omega) (by omega) (by omega)).1, (B 290 (by omega) (by omega) (by omega)).2.2, (B 290 (by omega) (by omega) (by omega)).2.2, (B 291 (by omega) (by omega) (by omega)).1, (B 291 (by omega) (by omega) (by omega)).2.1]
    exact f7
  · have B := fun a h1 h2 h3 => (big a h1 h2).2 h3
    have V : ∀ k, sV F 292 k = sV t8 292 k := fun k => (B 292 (by omega) (by omega) (by omega)).2.2 k
    rw [(B 292 (by omega) (by omega) (by omega)).1, V, V, V, V, V, V, V, V, (B 293 (by omega) (by omega) (by omega)).1, (B 293 (by omega) (by omega) (by omega)).2.1, (B 294 (by omega) (by omega) (by omega)).1, (B 294 (by omega) (by omega) (by omega)).2.1, (B 295 (by omega) (by omega) (by omega)).1, (B 295 (by omega) (by omega) (by omega)).2.1, (B 296 (by omega) (by omega) (by omega)).1, (B 296 (by omega) (by omega) (by omega)).2.1, (B 297 (by omega) (by omega) (by omega)).1, (B 297 (by omega) (by omega) (by omega)).2.1, (B 298 (by omega) (by omega) (by omega)).1, (B 298 (by omega) (by omega) (by omega)).2.1]
    exact f8
  · rcases hc with e | e | e | ⟨i, h1, e⟩
    · rw [e]; exact c3.nc.od (by omega) (by omega) D3
    · rw [e]; exact c4.nc.od (by omega) (by omega) D4
    · rw [e]; exact c5.nc.od (by omega) (by omega) D5
    · rw [e]; exact gN i h1
end C5
