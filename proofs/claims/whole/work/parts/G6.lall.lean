def RfW (σ : SH) (t : TXT) (W : WW) (r : Nat × Option (WW × Nat × Nat)) (X : SR) : Prop := ∃ W' p b st dp y, X = some (.inl (some (.int y)), Rst σ W' p b st dp) ∧ (∀ j, j < 1212 → W' j = W j) ∧ (r.2 = none → y = -1 ∧ b = tkE t r.1) ∧ ∀ V s n, r.2 = some (V, s, n) → W' = V ∧ y = nI n
section G6
variable {σ : SH} {t : TXT} {W0 : WW}
theorem m_190e (h : TkR σ t) {W : WW} {p b st dp k : Nat} (ha : tAt t k p) : rn 190 [.ref 611, .int 0, .int (nI 12)] (Rst σ W p b st dp) = some (.inl (some (.int 0)), Rst σ W (tkL t k) (tkE t k) st dp) := by
  rw [r_190, if_pos (Rst_tt h), m_191 h ha, onV_i, if_pos n00, e_190_14, if_neg (show ¬ nI 12 < 12 by decide), e_190_45]
theorem m_190l (h : TkR σ t) {W : WW} {p b st dp k n : Nat} (hn : n < 12) (ha : tAt t k p) (hs : st ≤ k) : ∃ W' p' b' st' dp', rn 190 [.ref 611, .int 0, .int (nI n)] (Rst σ W p b st dp) = some (.inl (some (.int (bI (lwP t n k W st).2.isSome))), Rst σ W' p' b' st' dp') ∧ (∀ j, j < 1212 → W' j = W j) ∧ ((lwP t n k W st).2 = none → b' = tkE t (lwP t n k W st).1) ∧ ∀ V s', (lwP t n k W st).2 = some (V, s') → W' = V ∧ st' = s' ∧ tAt t (lwP t n k W st).1 p' := by
  obtain ⟨W1, p1, b1, s1, d1, c0, c⟩ := m_207 (W := W) (dp := dp) h hn ha.1 hs
  refine ⟨W1, p1, b1, s1, d1, ?_, c⟩
  rw [r_190, if_pos (Rst_tt h), m_191 h ha, onV_i, if_pos n00, e_190_14, if_pos (nI_ltl (n := 12) hn (by decide)), if_pos n00, e_190_33, if_pos (Rst_tt h), c0, onI_i]
  cases (lwP t n k W st).2 with
  | none => rw [if_pos bI_nn, e_190_45]; rfl
  | some q => rw [if_neg bI_s, e_190_46, if_pos n01]; rfl
theorem m_186w (h : TkR σ t) : ∀ (m n : Nat) (W : WW) (st k p b dp : Nat), n + m = 12 → tAt t k p → st ≤ k → LnG W n st → (∀ j, j < 1212 → W j = W0 j) → RfW σ t W0 (lwL t m n k W st) (exec PP 63 186 28 [some (.ref 611), some (.int 0), some (.int (nI n))] [] (Rst σ W p b st dp))
  | 0, n, W, st, k, p, b, dp, hn, ha, hs, hg, hw => by
    have : n = 12 := by omega
    subst this
    rw [e_186_28, if_pos (Rst_tt h), m_190e h ha, onI_i, if_pos n00]
    exact ⟨W, _, _, _, _, _, rfl, hw, fun _ => ⟨rfl, rfl⟩, fun V s n z => by cases z⟩
  | m + 1, n, W, st, k, p, b, dp, hn, ha, hs, hg, hw => by
    obtain ⟨W1, p1, b1, s1, d1, e, f1, f2, f3⟩ := m_190l (W := W) (b := b) (dp := dp) h (show n < 12 by omega) ha hs
    obtain ⟨g1, g2⟩ := lw_good h.2.1 (show n < 12 by omega) ha.1 hs hg
    rw [e_186_28, if_pos (Rst_tt h), e, onI_i]
    unfold lwL
    cases hr : lwP t n k W st with
    | mk k' o =>
      rw [hr] at f2 f3 g1 g2
      cases o with
      | none =>
        try dsimp only
        rw [if_pos bI_nn]
        exact ⟨W1, p1, b1, s1, d1, _, rfl, fun j hj => (f1 j hj).trans (hw j hj), fun _ => ⟨rfl, f2 rfl⟩, fun V s n z => by cases z⟩
      | some q =>
        obtain ⟨W2, s2⟩ := q
        obtain ⟨rfl, rfl, a1⟩ := f3 W2 s2 rfl
        obtain ⟨q1, q2, q3, q4⟩ := g2 W1 s1 rfl
        have hw1 : ∀ j, j < 1212 → W1 j = W0 j := fun j hj => (f1 j hj).trans (hw j hj)
        try dsimp only at a1 q1 q2 ⊢
        rw [if_neg bI_s, e_186_39, if_pos (Rst_tt h), m_188 h a1, onV_i, gI_r (Rst_tt h), gI_r (Rst_tt h), Rst_10, Rst_11, h.2.2.2.1]
        by_cases z : tkG t k' = 37
        · rw [if_pos ((end_at h.2.1 a1.1).mpr z), if_pos z, nI_1]
          exact ⟨W1, _, _, _, _, _, rfl, hw1, fun y => (by cases y), fun V s n y => by cases y; exact ⟨rfl, rfl⟩⟩
        rw [if_neg (fun y => z ((end_at h.2.1 a1.1).mp y)), if_neg z, e_186_58, if_pos (Rst_tt h), show (.int 59 : Value) = .int (nI 59) from rfl, m_189 h (h.2.1.le a1.1) (by omega) (by omega), onI_i, iB]
        by_cases y : tkG t k' = 34
        · rw [if_pos y, decide_eq_true ((sg_at (i := 34) (c := 59) h.2.1 (by omega) (by decide) a1.1).mpr y), if_neg (show ¬ (true = false) by decide), e_186_71, gI_r (Rst_tt h), Rst_10, nI_1, pI_r (Rst_tt h), Rst_p, nI_1]
          have s1 := sg_1 (i := 34) h.2.1 (by omega) (by decide) y
          have a2 := h.2.1.ats (h.2.1.lt y (by omega))
          rw [s1] at a2
          exact m_186w h m (n + 1) W1 _ (k' + 1) _ _ _ (by omega) a2 (by omega) q3 hw1
        · rw [if_neg y, decide_eq_false (fun w => y ((sg_at (i := 34) (c := 59) h.2.1 (by omega) (by decide) a1.1).mp w)), if_pos (show false = false from rfl)]
          exact ⟨W1, _, _, _, _, _, rfl, hw1, fun _ => ⟨rfl, rfl⟩, fun V s n q => by cases q⟩
theorem LnG_0 (W : WW) : LnG W 0 0 := ⟨⟨by omega, by omega⟩, fun i hi => by omega, rfl, fun j hj => by omega⟩
theorem m_186x (h : TkR σ t) {W : WW} {b dp : Nat} : RfW σ t W (lawP t W) (onV (rn 188 [.ref 611] (Rst σ W 0 b 0 dp)) (fun σ24 =>
    gI σ24 112 10 (.ref 611) fun x26 =>
      gI σ24 112 11 (.ref 611) fun x27 =>
      if (x26 = x27 : Prop) then (some (.inl (some (.int 0)), σ24))
      else (exec PP 63 186 26 [some (.ref 611), some (.int 0), none] [] σ24)) (fun e24 σ24x => some (.inr e24, σ24x))) := by
  rw [m_188 h h.2.1.at0, onV_i, gI_r (Rst_tt h), gI_r (Rst_tt h), Rst_10, Rst_11, h.2.2.2.1]
  unfold lawP
  by_cases z : tkG t 0 = 37
  · rw [if_pos ((end_at h.2.1 (by omega)).mpr z), if_pos z]
    exact ⟨W, _, _, _, _, _, rfl, fun _ _ => rfl, fun y => (by cases y), fun V s n y => by cases y; exact ⟨rfl, rfl⟩⟩
  rw [if_neg (fun y => z ((end_at h.2.1 (by omega)).mp y)), if_neg z, e_186_26]
  exact m_186w h 12 0 W 0 0 _ _ _ (by omega) (TxO.ate (by omega)) (by omega) (LnG_0 W) (fun _ _ => rfl)
/-- lines told are well formed -/
theorem lwL_good (h : TxO t) : ∀ (m n k : Nat) (W : WW) (st : Nat), n + m = 12 → k ≤ tkN t → st ≤ k → LnG W n st → (lwL t m n k W st).1 ≤ tkN t ∧ ∀ V s n', (lwL t m n k W st).2 = some (V, s, n') → LnG V n' s ∧ ∀ j, j < 1212 → V j = W j
  | 0, n, k, W, st, hn, hk, hs, hg => ⟨hk, fun V s n' z => by cases z⟩
  | m + 1, n, k, W, st, hn, hk, hs, hg => by
    obtain ⟨g1, g2⟩ := lw_good h (show n < 12 by omega) hk hs hg
    unfold lwL
    cases hr : lwP t n k W st with
    | mk k' o =>
      rw [hr] at g1 g2
      cases o with
      | none => exact ⟨g1, fun V s n' z => by cases z⟩
      | some q =>
        obtain ⟨W1, s1⟩ := q
        obtain ⟨q1, q2, q3, q4⟩ := g2 W1 s1 rfl
        try dsimp only at g1 q1 q2 ⊢
        by_cases z : tkG t k' = 37
        · rw [if_pos z]
          exact ⟨g1, fun V s n' y => by cases y; exact ⟨q3, q4⟩⟩
        rw [if_neg z]
        by_cases y : tkG t k' = 34
        · rw [if_pos y]
          obtain ⟨r1, r2⟩ := lwL_good h m (n + 1) (k' + 1) W1 s1 (by omega) (h.lt y (by omega)) (by omega) q3
          exact ⟨r1, fun V s n' w => ⟨(r2 V s n' w).1, fun j hj => ((r2 V s n' w).2 j hj).trans (q4 j hj)⟩⟩
        · rw [if_neg y]
          exact ⟨g1, fun V s n' w => by cases w⟩
theorem lawP_good (h : TxO t) (W : WW) : (lawP t W).1 ≤ tkN t ∧ ∀ V s n, (lawP t W).2 = some (V, s, n) → LnG V n s ∧ ∀ j, j < 1212 → V j = W j := by
  unfold lawP
  by_cases z : tkG t 0 = 37
  · rw [if_pos z]
    exact ⟨Nat.zero_le _, fun V s n y => by cases y; exact ⟨LnG_0 W, fun _ _ => rfl⟩⟩
  · rw [if_neg z]
    exact lwL_good h 12 0 0 W 0 (by omega) (by omega) (by omega) (LnG_0 W)
/-- and make a law -/
theorem LWF_of {V : WW} {n s : Nat} (h : LnG V n s) : LWF (uW (dr V) 0 (nI n)) ∧ LWA (uW (dr V) 0 (nI n)) ∧ lnN (uW (dr V) 0 (nI n)) = n ∧ szN (uW (dr V) 0 (nI n)) = s := by
  obtain ⟨⟨a1, a2⟩, a3, a4, a5⟩ := h
  have o : ∀ k, k ≠ 0 → uW (dr V) 0 (nI n) k = dr V k := fun k hk => uW_n hk
  have ln : lnN (uW (dr V) 0 (nI n)) = n := by unfold lnN; rw [uW_s, tnI (by omega)]; rfl
  have fr : ∀ i, frN (uW (dr V) 0 (nI n)) i = frN (dr V) i := fun i => by unfold frN; rw [o _ (by omega)]
  have to' : ∀ i, toN (uW (dr V) 0 (nI n)) i = toN (dr V) i := fun i => by unfold toN; rw [o _ (by omega)]
  have sc : ∀ j, scN (uW (dr V) 0 (nI n)) j = scN (dr V) j := fun j => by unfold scN; rw [o _ (by omega)]
  have sz : szN (uW (dr V) 0 (nI n)) = s := by
    unfold szN
    rw [ln]
    by_cases z : n = 0
    · rw [if_pos z]; rw [if_pos z] at a4; exact a4.symm
    · rw [if_neg z, to']; rw [if_neg z] at a4; exact a4.symm
  refine ⟨⟨by rw [uW_s]; exact btw_n (by omega) (by omega), fun i hi => ?_, by rw [sz]; exact a2, fun j hj => ?_⟩, fun i hi => ?_, ln, sz⟩
  · rw [ln] at hi
    obtain ⟨b1, b2, b3, b4, b5, b6, b7⟩ := a3 i hi
    rw [o _ (by omega), o _ (by omega), o _ (by omega), fr, to', sz]
    refine ⟨b1, b3, ?_, b5, b6, ?_⟩
    · rw [b4]
      by_cases z : i = 0
      · rw [if_pos z, if_pos z]
      · rw [if_neg z, if_neg z, to']
    · rw [tyR_cg (L := dr V) _ _ _ (fun j _ _ => o _ (by omega))]; exact b7
  · rw [sz] at hj
    obtain ⟨c1, c2, c3⟩ := a5 j hj
    rw [o _ (by omega), o _ (by omega), sc, dr_c, dr_n]
    exact ⟨c1, c2, c3⟩
  · rw [ln] at hi
    obtain ⟨b1, b2, -⟩ := a3 i hi
    rw [o _ (by omega)]
    exact ⟨b2.1, by have := b2.2; omega⟩
end G6
