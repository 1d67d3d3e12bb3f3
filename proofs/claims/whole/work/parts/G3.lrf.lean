/-! the reference reads conditions -/
def RfL (σ : SH) (t : TXT) (dp : Nat) (A : Nat → WW → Nat → LPr) (E : SH → SR) : Prop := ∀ W st k p b, tAt t k p → st + 2 ≤ k → ∃ W' p' b' st' dp', E (Rst σ W p b st dp) = some (.inl (some (.int (bI (A k W st).2.isSome))), Rst σ W' p' b' st' dp') ∧ (∀ j, j < 1212 → W' j = W j) ∧ ((A k W st).2 = none → b' = tkE t (A k W st).1) ∧ ∀ V s', (A k W st).2 = some (V, s') → W' = V ∧ st' = s' ∧ dp' = dp ∧ tAt t (A k W st).1 p'
section G3
variable {σ : SH} {t : TXT} {W : WW} {p b st dp k : Nat}
theorem m_212g (h : TkR σ t) (hs : st < 400) (x y : Int32) : rn 212 [.ref 611, .int x, .int y] (Rst σ W p b st dp) = some (.inl none, Rst σ (uW (uW W (1261 + 2 * st) x) (1261 + 2 * st + 1) y) p b (st + 1) dp) := by
  rw [r_212, h612 h, gI_r (Rst_tt h), Rst_16, show (1261 + 2 * nI st : Int32) = nI (1261 + 2 * st) from ix_2m 1261 2 st, u612 h (by omega), h612 h, gI_r (Rst_tt h), Rst_16, show (1261 + 2 * nI st : Int32) = nI (1261 + 2 * st) from ix_2m 1261 2 st, nI_1, u612 h (by omega), gI_r (Rst_tt h), Rst_16, nI_1, pI_r (Rst_tt h), Rst_s]
theorem m_212 (h : TkR σ t) (hs : st < 400) {c n : Nat} : rn 212 [.ref 611, .int (nI c), .int (nI n)] (Rst σ W p b st dp) = some (.inl none, Rst σ (em W st c n) p b (st + 1) dp) := m_212g h hs _ _
theorem m_212l (h : TkR σ t) (hs : st < 400) {c n : Nat} : rn 212 [.ref 611, .int (OfNat.ofNat c), .int (OfNat.ofNat n)] (Rst σ W p b st dp) = some (.inl none, Rst σ (em W st c n) p b (st + 1) dp) := m_212g h hs _ _
theorem u2_o {x y : Int32} {j : Nat} (h : j < 1261 + 2 * st) : uW (uW W (1261 + 2 * st) x) (1261 + 2 * st + 1) y j = W j := by rw [uW_n (by omega), uW_n (by omega)]
theorem tkL_ne (h : TxO t) (hk : k ≤ tkN t) : tkL t k = tkE t k ↔ ¬ (k < tkN t ∧ kdN (t.1 (tkE t k)) = 1) := by
  unfold tkL
  by_cases z : k < tkN t ∧ kdN (t.1 (tkE t k)) = 1
  · rw [if_pos z]
    have := (h.k z.1).1.1
    constructor
    · intro q; omega
    · intro q; exact absurd z q
  · rw [if_neg z]
    exact ⟨fun _ => z, fun _ => rfl⟩
theorem m_215 (h : TkR σ t) : RfL σ t dp (ptP t) (fun ρ => rn 215 [.ref 611] ρ) := by
  intro W st k p b ha hs
  have n4 := h.2.1.n
  have hk := ha.1
  have hT := h.2.1.2.1
  have ll := h.2.1.lle hk
  have wd : ∀ j, j < 29 → tkG t k = rsgN j → tAt t (k + 1) (tkL t k) ∧ tkL t k ≠ tkE t k := fun j hj e => by
    obtain ⟨-, z, el⟩ := m_199y (W := W) (b := b) (st := st) (dp := dp) h hj ha e
    have := (h.2.1.k z).1.1
    exact ⟨by rw [el]; exact h.2.1.ats z, by omega⟩
  try dsimp only
  rw [r_215, if_pos (Rst_tt h), m_191 h ha, onV_i, gI_r (Rst_tt h), gI_r (Rst_tt h), Rst_10, Rst_12]
  unfold ptP
  by_cases z : tkL t k = tkE t k
  · rw [if_pos (show nI (tkL t k) = nI (tkE t k) by rw [z]), if_pos (Rst_tt h), z]
    by_cases e : tkG t k = 35
    · have hv := (h.2.1.num e).2.2.2
      have z' : tkE t k + tkS t k = tkE t k + tkS t k := rfl
      rw [if_pos e, show (.int 0 : Value) = .int (nI 0) from rfl, show (.int 999 : Value) = .int (nI 999) from rfl, m_196y h (TxO.ate hk) e (by omega) hv (by omega), onI_i, if_pos (Rst_tt h), show (.int 8 : Value) = .int (nI 8) from rfl, m_212 h (by omega), onV_i, e_215_120, if_neg (nI_pos (by omega)), e_215_129, if_pos n01]
      exact ⟨_, _, _, _, _, rfl, fun j hj => em_o (by omega), fun y => (by cases y), fun V s' y => by cases y; exact ⟨rfl, rfl, rfl, h.2.1.ats (h.2.1.num e).1⟩⟩
    · have e2 : ¬ (18 ≤ tkG t k ∧ tkG t k ≤ 23) := fun q => by
        rcases (by omega : tkG t k = 18 ∨ tkG t k = 19 ∨ tkG t k = 20 ∨ tkG t k = 21 ∨ tkG t k = 22 ∨ tkG t k = 23) with y | y | y | y | y | y
        · exact (wd 21 (by omega) y).2 z
        · exact (wd 22 (by omega) y).2 z
        · exact (wd 23 (by omega) y).2 z
        · exact (wd 24 (by omega) y).2 z
        · exact (wd 25 (by omega) y).2 z
        · exact (wd 26 (by omega) y).2 z
      obtain ⟨q, hq⟩ := m_196n (W := W) (b := tkE t k) (st := st) (dp := dp) (lo := 0) (hi := 999) h (TxO.ate hk) (by omega) (fun y => e y.1)
      rw [if_neg e, if_neg e2, show (.int 0 : Value) = .int (nI 0) from rfl, show (.int 999 : Value) = .int (nI 999) from rfl, hq, onI_i, if_pos (Rst_tt h), m_212g h (by omega), onV_i, e_215_120, if_pos (show (-1 : Int32) < 0 by decide), e_215_128]
      exact ⟨_, _, _, _, _, rfl, fun j hj => u2_o (by omega), fun _ => rfl, fun V s' y => by cases y⟩
  · rw [if_neg (fun y => z ((nI_eq (by omega) (by omega)).mp y))]
    have e : tkG t k ≠ 35 := fun e => z ((tkL_ne h.2.1 hk).mpr fun w => by
      have := (h.2.1.num e)
      have h1 := kd2.mpr (this.2.2.1 (tkE t k) (by omega) (by have := (h.2.1.k this.1).1.1; omega))
      omega)
    have yes : ∀ j i, j < 29 → rsgN j = 18 + i → i < 6 → tkG t k = 18 + i → ∃ W' p' b' st' dp', exec PP 6 215 113 [some (.ref 611), none] [.int (nI i)] (Rst σ W (tkL t k) (tkE t k) st dp) = some (.inl (some (.int (bI (ptP t k W st).2.isSome))), Rst σ W' p' b' st' dp') ∧ (∀ j, j < 1212 → W' j = W j) ∧ ((ptP t k W st).2 = none → b' = tkE t (ptP t k W st).1) ∧ ∀ V s', (ptP t k W st).2 = some (V, s') → W' = V ∧ st' = s' ∧ dp' = dp ∧ tAt t (ptP t k W st).1 p' := fun j i hj hji hi e5 => by
      unfold ptP
      rw [if_neg e, if_pos (by omega), e_215_113, if_pos (Rst_tt h), show (.int 0 : Value) = .int (nI 0) from rfl, m_212 h (by omega), onV_i, if_neg (nI_pos (by omega)), e_215_129, if_pos n01, show tkG t k - 18 = i by omega]
      exact ⟨_, _, _, _, _, rfl, fun j hj => em_o (by omega), fun y => (by cases y), fun V s' y => by cases y; exact ⟨rfl, rfl, rfl, (wd j hj (by omega)).1⟩⟩
    have tst : ∀ j, j < 29 → ∀ F : Int32 → SH → SR, ∀ kx, onI (rn 193 [.ref 611, .ref (120 + j)] (Rst σ W (tkL t k) (tkE t k) st dp)) F kx = F (bI (decide (tkG t k = rsgN j))) (Rst σ W (tkL t k) (tkE t k) st dp) := fun j hj F kx => by rw [m_193 h hj hk, onI_i]
    have dt : ∀ j, tkG t k = rsgN j → ¬ bI (decide (tkG t k = rsgN j)) = 0 := fun j e => by rw [decide_eq_true e]; decide
    have df : ∀ j, ¬ tkG t k = rsgN j → bI (decide (tkG t k = rsgN j)) = 0 := fun j e => by rw [decide_eq_false e]; rfl
    change ∃ W' p' b' st' dp', exec PP 6 215 34 [some (.ref 611), none] [] (Rst σ W (tkL t k) (tkE t k) st dp) = some (.inl (some (.int (bI (ptP t k W st).2.isSome))), Rst σ W' p' b' st' dp') ∧ (∀ j, j < 1212 → W' j = W j) ∧ ((ptP t k W st).2 = none → b' = tkE t (ptP t k W st).1) ∧ ∀ V s', (ptP t k W st).2 = some (V, s') → W' = V ∧ st' = s' ∧ dp' = dp ∧ tAt t (ptP t k W st).1 p'
    rw [e_215_34, if_pos (Rst_tt h), show (.ref 141 : Value) = .ref (120 + 21) from rfl, tst 21 (by decide)]
    by_cases g0 : tkG t k = 18
    · rw [if_neg (dt 21 g0)]; exact yes 21 0 (by omega) rfl (by omega) g0
    rw [if_pos (df 21 g0), e_215_47, if_pos (Rst_tt h), show (.ref 142 : Value) = .ref (120 + 22) from rfl, tst 22 (by decide)]
    by_cases g1 : tkG t k = 19
    · rw [if_neg (dt 22 g1)]; exact yes 22 1 (by omega) rfl (by omega) g1
    rw [if_pos (df 22 g1), e_215_60, if_pos (Rst_tt h), show (.ref 143 : Value) = .ref (120 + 23) from rfl, tst 23 (by decide)]
    by_cases g2 : tkG t k = 20
    · rw [if_neg (dt 23 g2)]; exact yes 23 2 (by omega) rfl (by omega) g2
    rw [if_pos (df 23 g2), e_215_73, if_pos (Rst_tt h), show (.ref 144 : Value) = .ref (120 + 24) from rfl, tst 24 (by decide)]
    by_cases g3 : tkG t k = 21
    · rw [if_neg (dt 24 g3)]; exact yes 24 3 (by omega) rfl (by omega) g3
    rw [if_pos (df 24 g3), e_215_86, if_pos (Rst_tt h), show (.ref 145 : Value) = .ref (120 + 25) from rfl, tst 25 (by decide)]
    by_cases g4 : tkG t k = 22
    · rw [if_neg (dt 25 g4)]; exact yes 25 4 (by omega) rfl (by omega) g4
    rw [if_pos (df 25 g4), e_215_99, if_pos (Rst_tt h), show (.ref 146 : Value) = .ref (120 + 26) from rfl, tst 26 (by decide)]
    by_cases g5 : tkG t k = 23
    · rw [if_neg (dt 26 g5)]; exact yes 26 5 (by omega) rfl (by omega) g5
    rw [if_pos (df 26 g5), e_215_112, if_pos (Rst_tt h), m_212g h (by omega), onV_i, if_pos (show (-1 : Int32) < 0 by decide), e_215_128]
    unfold ptP
    rw [if_neg e, if_neg (by omega)]
    exact ⟨_, _, _, _, _, rfl, fun j hj => u2_o (by omega), fun _ => rfl, fun V s' y => by cases y⟩
theorem RfL_rp (h : TkR σ t) {ty : Bool} {A : Nat → WW → Nat → LPr} (gA : Gd t ty A) {sg cd : Nat} (hsg : sg < 37) {E Lp Q Ts Nx : SH → SR} (hA : RfL σ t dp A E)
    (hy : ∀ W st k p b, tAt t k p → tkG t k = sg → Ts (Rst σ W p b st dp) = some (.inl (some (.int 1)), Rst σ W (tkE t k + tkS t k) (tkE t k) st dp))
    (hn : ∀ W st k p b, tAt t k p → tkG t k ≠ sg → Ts (Rst σ W p b st dp) = some (.inl (some (.int 0)), Rst σ W (tkE t k) (tkE t k) st dp))
    (hL : ∀ ρ, sT ρ 611 = 112 → Lp ρ = onI (E ρ) (fun x ρ' => if (x = 0 : Prop) then some (.inl (some (.int 0)), ρ') else Q ρ') RX0)
    (hQ : ∀ ρ, sT ρ 611 = 112 → Q ρ = onI (Ts ρ) (fun x ρ' => if (x = 0 : Prop) then some (.inl (some (.int 1)), ρ') else (if sT ρ' 611 = 112 then onI (E ρ') (fun x ρ'' => if (x = 0 : Prop) then some (.inl (some (.int 0)), ρ'') else Nx ρ'') RX0 else none)) RX0)
    (hN : ∀ ρ, sT ρ 611 = 112 → Nx ρ = onV (rn 212 [.ref 611, .int (nI cd), .int (nI 0)] ρ) (fun ρ' => Q ρ') RX0) : RfL σ t dp (rpP t sg cd A) Lp := by
  have n4 := h.2.1.n
  have loop : ∀ f W st k p b, tkN t < k + f → tAt t k p → st + 2 ≤ k → ∃ W' p' b' st' dp', Q (Rst σ W p b st dp) = some (.inl (some (.int (bI (lpP t sg cd A f k W st).2.isSome))), Rst σ W' p' b' st' dp') ∧ (∀ j, j < 1212 → W' j = W j) ∧ ((lpP t sg cd A f k W st).2 = none → b' = tkE t (lpP t sg cd A f k W st).1) ∧ ∀ V s', (lpP t sg cd A f k W st).2 = some (V, s') → W' = V ∧ st' = s' ∧ dp' = dp ∧ tAt t (lpP t sg cd A f k W st).1 p' := by
    intro f
    induction f with
    | zero => intro W st k p b h1 h2 h3; have := h2.1; omega
    | succ f ih =>
      intro W st k p b h1 h2 h3
      rw [hQ _ (Rst_tt h)]
      unfold lpP
      by_cases e : tkG t k = sg
      · have hk1 := h.2.1.lt e (by omega)
        rw [if_pos e, hy W st k p b h2 e, onI_i, if_neg n10, if_pos (Rst_tt h)]
        obtain ⟨W1, p1, b1, s1, d1, c0, c1, c2, c3⟩ := hA W st (k + 1) (tkE t k + tkS t k) (tkE t k) (h.2.1.ats hk1) (by omega)
        obtain ⟨g1, g2⟩ := gA (k + 1) W st hk1 (by omega)
        rw [c0, onI_i]
        cases hr : A (k + 1) W st with
        | mk k' o =>
          rw [hr] at c2 c3 g1 g2
          cases o with
          | none =>
            try dsimp only
            rw [if_pos bI_nn]
            exact ⟨W1, p1, b1, s1, d1, rfl, c1, c2, fun V s' z => by cases z⟩
          | some q =>
            obtain ⟨W2, s2⟩ := q
            obtain ⟨rfl, rfl, rfl, a1⟩ := c3 W2 s2 rfl
            obtain ⟨⟨b1, b2⟩, -⟩ := g2 W1 s1 rfl
            try dsimp only at g1 b1 b2 a1 ⊢
            rw [if_neg bI_s, hN _ (Rst_tt h), m_212 h (by omega), onV_i]
            obtain ⟨W3, p3, b3, s3, d3, e0, e1, e2, e3⟩ := ih (em W1 s1 cd 0) (s1 + 1) k' p1 _ (by omega) a1 (by omega)
            exact ⟨W3, p3, b3, s3, d3, e0, fun j hj => (e1 j hj).trans ((em_o (by omega)).trans (c1 j hj)), e2, e3⟩
      · rw [if_neg e, hn W st k p b h2 e, onI_i, if_pos n00]
        exact ⟨W, _, _, _, _, rfl, fun _ _ => rfl, fun z => (by cases z), fun V s' z => by cases z; exact ⟨rfl, rfl, rfl, TxO.ate h2.1⟩⟩
  intro W st k p b ha hs
  obtain ⟨W1, p1, b1, s1, d1, c0, c1, c2, c3⟩ := hA W st k p b ha hs
  obtain ⟨g1, g2⟩ := gA k W st ha.1 hs
  rw [hL _ (Rst_tt h), c0, onI_i]
  unfold rpP
  cases hr : A k W st with
  | mk k' o =>
    rw [hr] at c2 c3 g1 g2
    cases o with
    | none =>
      try dsimp only
      rw [if_pos bI_nn]
      exact ⟨W1, p1, b1, s1, d1, rfl, c1, c2, fun V s' z => by cases z⟩
    | some q =>
      obtain ⟨W2, s2⟩ := q
      obtain ⟨rfl, rfl, rfl, a1⟩ := c3 W2 s2 rfl
      obtain ⟨⟨b1, b2⟩, -⟩ := g2 W1 s1 rfl
      try dsimp only at g1 b1 b2 a1 ⊢
      rw [if_neg bI_s]
      obtain ⟨W3, p3, b3, s3, d3, e0, e1, e2, e3⟩ := loop 401 W1 s1 k' p1 _ (by omega) a1 (by omega)
      exact ⟨W3, p3, b3, s3, d3, e0, fun j hj => (e1 j hj).trans (c1 j hj), e2, e3⟩
theorem m_214 (h : TkR σ t) : RfL σ t dp (rpP t 27 9 (ptP t)) (fun ρ => rn 214 [.ref 611] ρ) := RfL_rp (ty := false) h (Gd_pt h.2.1) (sg := 27) (cd := 9) (by omega) (E := fun ρ => rn 215 [.ref 611] ρ) (Q := fun ρ => exec PP 7 214 9 [some (.ref 611)] [] ρ) (Ts := fun ρ => rn 211 [.ref 611, .int (nI 43)] ρ) (Nx := fun ρ => exec PP 7 214 27 [some (.ref 611)] [] ρ) (m_215 h) (fun W st k p b ha e => (m_211y (i := 27) (c := 43) h (by omega) (by decide) ha e).1) (fun W st k p b ha e => m_211n (i := 27) (c := 43) h (by omega) (by decide) ha e) (fun ρ hρ => by
    try dsimp only
    rw [r_214, if_pos hρ]
    rfl) (fun ρ hρ => by
    try dsimp only
    rw [e_214_9, if_pos hρ]
    simp only [e_214_37]
    rfl) (fun ρ hρ => by
    try dsimp only
    rw [e_214_27, if_pos hρ]
    rfl)
end G3
