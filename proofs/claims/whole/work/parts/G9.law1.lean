/-! the class reads a law -/
noncomputable def mkL (x : Int32) (ρ : SH) : SR := gR (mkC ρ 104 0 6) 107 1 (.ref 206) fun a25 => gR (mkC ρ 104 0 6) 107 2 (.ref 206) fun a26 => gR (mkC ρ 104 0 6) 107 3 (.ref 206) fun a27 => gR (mkC ρ 104 0 6) 107 4 (.ref 206) fun a28 => if ((sZ ρ) : Nat) = 39 then none else (onV (rn 47 [.ref (sZ ρ), .int x, .ref a25, .ref a26, .ref a27, .ref a28] (mkC ρ 104 0 6)) (fun σ29 => some (.inl (some (.ref (sZ ρ))), σ29)) (fun _ _ => none))
def LcR (σ : SH) (t : TXT) (r : Nat × Option (WW × Nat × Nat)) (X : SR) : Prop := ∃ σ' R' v' st', LcF σ σ' ∧ (r.2 = none → X = some (.inl (some .null), TS (RW σ' R' st') r.1 v')) ∧ ∀ V s n, r.2 = some (V, s, n) → X = mkL (nI n) (TS (RW σ' R' st') r.1 v') ∧ st' = s ∧ Rel R' V s ∧ LnC σ' V n
section G9
variable {σ : SH} {t : TXT}
theorem LcR.base {σ' : SH} {r : Nat × Option (WW × Nat × Nat)} {X : SR} (f : LcF σ σ') (h : LcR σ' t r X) : LcR σ t r X := by
  obtain ⟨σ2, R', v', st', a, b⟩ := h
  exact ⟨σ2, R', v', st', f.tr a, b⟩
theorem m_86w : ∀ (m n : Nat) (σ : SH) (R : Nat → Int32) (W : WW) (st k v : Nat), ShX σ → TkC σ t → StA σ → n + m = 12 → k ≤ tkN t → st ≤ k → Rel R W st → LnC σ W n → LnG W n st → LcR σ t (lwL t m n k W st) (exec PP 62 86 45 [some (.ref 206), some (.int (nI n))] [] (TS (RW σ R st) k v))
  | 0, n, σ, R, W, st, k, v, hX, hT, hS, hn, hk, hs, hr, hl, hg => by
    have : n = 12 := by omega
    subst this
    rw [e_86_45, if_neg (by decide), e_86_122]
    exact ⟨σ, R, v, st, LcF.rf σ, fun _ => rfl, fun V s n z => by cases z⟩
  | m + 1, n, σ, R, W, st, k, v, hX, hT, hS, hn, hk, hs, hr, hl, hg => by
    have n12 : n < 12 := by omega
    obtain ⟨σ1, R1, v1, s1, e1, f1, c1⟩ := m_87 (v := v) hX hT hS n12 hk hs hr hl
    obtain ⟨g1, g2⟩ := lw_good hT.2.1 n12 hk hs hg
    have sx : ∀ (σ : SH) (R : Nat → Int32) (st k v : Nat), Sty σ (TS (RW σ R st) k v) := fun _ _ _ _ _ => sty_rw
    rw [e_86_45, if_pos (nI_ltl (n := 12) n12 (by decide)), if_pos (Sty.x hX (sx σ R st k v)).2.2, e1, onI_i]
    unfold lwL
    cases hr2 : lwP t n k W st with
    | mk k' o =>
      rw [hr2] at c1 g1 g2
      cases o with
      | none =>
        try dsimp only
        rw [if_pos bI_nn]
        exact ⟨σ1, R1, v1, s1, f1, fun _ => rfl, fun V s n z => by cases z⟩
      | some q =>
        obtain ⟨W1, s2⟩ := q
        obtain ⟨rfl, rel, lc⟩ := c1 W1 s2 rfl
        obtain ⟨q1, q2, q3, q4⟩ := g2 W1 s1 rfl
        have X1 := hX.lc f1
        have T1 := hT.lc f1
        have S1 := hS.lc f1
        have l := tkG_l38 (t := t) k'
        try dsimp only at g1 q1 q2 ⊢
        refine LcR.base f1 ?_
        rw [if_neg bI_s, e_86_61, (Sty.x X1 (sx σ1 R1 s1 k' v1)).1, if_pos (Sty.x X1 (sx σ1 R1 s1 k' v1)).2.1, m_102 T1.rw' g1, onR_i, if_pos (show tkG t k' < 38 ∧ 37 < 38 from ⟨l, by omega⟩)]
        by_cases z : tkG t k' = 37
        · rw [if_pos z, if_pos z]
          refine ⟨σ1, R1, v1, s1, LcF.rf σ1, fun y => (by cases y), fun V s n y => ?_⟩
          cases y
          refine ⟨?_, rfl, rel, lc⟩
          rw [nI_1]
          rfl
        rw [if_neg z, if_neg z, e_86_101, (Sty.x X1 (sx σ1 R1 s1 k' v1)).1, if_pos (Sty.x X1 (sx σ1 R1 s1 k' v1)).2.1]
        by_cases y : tkG t k' = 34
        · rw [if_pos y, m_103y T1.rw' y (by omega), onI_i, if_neg n10, e_86_116, nI_1]
          exact m_86w m (n + 1) σ1 R1 W1 s1 (k' + 1) v1 X1 T1 S1 (by omega) (hT.2.1.lt y (by omega)) (by omega) rel lc q3
        · rw [if_neg y, m_103n T1.rw' y (by omega) g1, onI_i, if_pos n00]
          exact ⟨σ1, R1, v1, s1, LcF.rf σ1, fun _ => rfl, fun V s n w => by cases w⟩
theorem RW_e (st : Nat) : RW σ (sI σ 210) st = wI σ 206 5 (nI st) := by
  refine Prod.ext ?_ rfl
  funext a j
  show (if a = 210 then σ.1 210 j else if a = 206 ∧ j = 5 then nI st else σ.1 a j) = if a = 206 ∧ j = 5 then nI st else σ.1 a j
  by_cases e : a = 210
  · rw [if_pos e, if_neg (by omega), e]
  · rw [if_neg e]
theorem m_86 (hX : ShX σ) (hT : TkC σ t) (hS : StA σ) (W : WW) (v : Nat) : LcR σ t (lawP t W) (rn 86 [.ref 206] (TS σ 0 v)) := by
  have sx : ∀ (σ : SH) (R : Nat → Int32) (st k v : Nat), Sty σ (TS (RW σ R st) k v) := fun _ _ _ _ _ => sty_rw
  have l := tkG_l38 (t := t) 0
  rw [r_86, pI_r (show sT (TS σ 0 v) 206 = 107 from hX.2.2.1.1), TS_w (by omega), show wI σ 206 5 0 = RW σ (sI σ 210) 0 from (RW_e 0).symm, (Sty.x hX (sx σ (sI σ 210) 0 0 v)).1, if_pos (Sty.x hX (sx σ (sI σ 210) 0 0 v)).2.1, m_102 hT.rw' (by omega), onR_i, if_pos (show tkG t 0 < 38 ∧ 37 < 38 from ⟨l, by omega⟩)]
  unfold lawP
  by_cases z : tkG t 0 = 37
  · rw [if_pos z, if_pos z]
    refine ⟨σ, sI σ 210, v, 0, LcF.rf σ, fun y => (by cases y), fun V s n y => ?_⟩
    cases y
    exact ⟨rfl, rfl, fun j hj => by omega, fun i hi => by omega⟩
  rw [if_neg z, if_neg z, e_86_43]
  exact m_86w 12 0 σ (sI σ 210) W 0 0 v hX hT hS (by omega) (by omega) (by omega) (fun j hj => by omega) (fun i hi => by omega) (LnG_0 W)
end G9
section G9b
variable {σ σ' : SH} {W L : WW} {x : XX}
theorem LcF.fr (h : LcF σ σ') : Fr PQ RQ σ σ' := by
  refine ⟨by show σ.2.2.2.2.2.1 ≤ σ'.2.2.2.2.2.1; rw [h.1]; exact Nat.le_refl _, fun a ha => ⟨⟨h.T a, h.N a⟩, fun k hk => ?_, fun k z1 z2 => ?_⟩⟩
  · by_cases e : a = 207
    · rcases hk with hk | hk
      · exact absurd (Or.inr (Or.inr e)) hk
      · omega
    · exact h.2.1 a k e
  · by_cases e : a = 208 ∨ a = 209
    · exact absurd (show PQ a k by unfold PQ; omega) (z1 (by omega))
    · exact h.2.2 a k (by omega) (by omega)
theorem LcF.Z (h : LcF σ σ') : sZ σ' = sZ σ ∧ sS σ' = sS σ := ⟨by unfold sZ; rw [h.1], by unfold sS; rw [h.1]⟩
/-- up to the text's end -/
theorem law_1 (hc : InvC σ W L x) (hs : StA σ) : ∃ σ3 t v R st, (TxO t ∧ t.1 = x.2.2.1.2 ∧ t.2.1 = x.2.2.1.1) ∧ InvC (TS (RW σ3 R st) (lawP t W).1 v) W L x ∧ Fr PQ RQ σ (TS (RW σ3 R st) (lawP t W).1 v) ∧ (sZ σ3 = sZ σ ∧ sS σ3 = sS σ) ∧ TkC (RW σ3 R st) t ∧ StA σ3 ∧
    ((lawP t W).2 = none → rn 121 [.ref 200] σ = exec PP 63 121 24 [some (.ref 200), some (.null)] [.ref 200] (TS (RW σ3 R st) (lawP t W).1 v)) ∧
    ∀ V s n, (lawP t W).2 = some (V, s, n) → (rn 121 [.ref 200] σ = onQ (mkL (nI n) (TS (RW σ3 R st) (lawP t W).1 v)) (fun σ25 => exec PP 63 121 24 [some (.ref 200), some (.null)] [.ref 200] σ25) (fun a27 σ28 => if (a27 : Nat) = 39 then none else exec PP 63 121 25 [some (.ref 200), some (.ref a27)] [.int 1, .ref 200] σ28) RX0) ∧ st = s ∧ Rel R V s ∧ LnC σ3 V n := by
  have hX := hc.1.1
  have hz := hc.1.2.1
  obtain ⟨σ2, t, e2, k2, t2, tb, tt, z6⟩ := m_98 (TB_of hX hc.2.2.2.2.1) hs hc.2.2.2.2.1.2.1 hc.2.2.2.2.1.1
  have f2 := k2.fr
  have g2 := hc.1.2.fr f2 k2.Z.1
  have c2 := hc.pq f2 g2
  have s2 : StA σ2 := hs.lo (Lo.pc (PQ_pc f2) hz)
  obtain ⟨v, hv⟩ := nI_any (sI σ2 201 7)
  have h3 := m_86 c2.1.1 t2 s2 W v
  rw [TS_e (k := 0) z6 hv] at h3
  obtain ⟨σ3, R, v3, st, F3, n3, w3⟩ := h3
  have f3 := F3.fr
  have g3 := g2.fr f3 F3.Z.1
  have f4 : Fr PQ RQ σ3 (RW σ3 R st) := (RW_kp σ3 R st).pq (fun a j z => by unfold PQ; omega)
  have g4 := g3.fr f4 rfl
  have f5 : Fr PQ RQ (RW σ3 R st) (TS (RW σ3 R st) (lawP t W).1 v3) := (TS_kp _ _ v3).pq (fun a j z => by unfold PQ; omega)
  have z2 := k2.Z
  have z3 := F3.Z
  have base : rn 121 [.ref 200] σ = onQ (rn 86 [.ref 206] σ2) (fun σ25 => exec PP 63 121 24 [some (.ref 200), some (.null)] [.ref 200] σ25) (fun a27 σ28 => if (a27 : Nat) = 39 then none else exec PP 63 121 25 [some (.ref 200), some (.ref a27)] [.int 1, .ref 200] σ28) RX0 := by
    rw [r_121, x0 hX, if_pos (tTp hX), e2, onV_i, x1 c2.1.1, if_pos c2.1.1.2.2.1.1]
    rfl
  refine ⟨σ3, t, v3, R, st, ⟨t2.2.1, tb, tt⟩, ((c2.pq f3 g3).pq f4 g4).pq f5 (g4.fr f5 rfl), ((f2.tr f3).tr f4).tr f5, ⟨z3.1.trans z2.1, z3.2.trans z2.2⟩, (t2.lc F3).rw', s2.lc F3, fun hn => ?_, fun V s n hv => ?_⟩
  · rw [base, n3 hn, onQ_n]
  · obtain ⟨q1, q2⟩ := w3 V s n hv
    exact ⟨by rw [base, q1], q2⟩
end G9b
