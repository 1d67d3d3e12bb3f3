section G4
variable {σ : SH} {t : TXT} {dp : Nat}
/-- a word that is true or not -/
theorem m_213y (h : TkR σ t) {W : WW} {p b st k i : Nat} (ha : tAt t k p) (hs : st < 400) (hi : i = 6 ∨ i = 7) (e : tkG t k = 18 + i) : rn 213 [.ref 611] (Rst σ W p b st dp) = some (.inl (some (.int 1)), Rst σ (em W st i 0) (tkL t k) (tkE t k) (st + 1) dp) ∧ tAt t (k + 1) (tkL t k) := by
  have hk := ha.1
  have nx : ∀ n, n < 100 → exec PP 6 213 33 [some (.ref 611), none] [.int (nI n)] (Rst σ W (tkL t k) (tkE t k) st dp) = some (.inl (some (.int 1)), Rst σ (em W st n 0) (tkL t k) (tkE t k) (st + 1) dp) := fun n hn => by
    rw [e_213_33, if_neg (nI_pos (by omega)), if_pos (Rst_tt h), show (.int 0 : Value) = .int (nI 0) from rfl, m_212 h hs, onV_i, e_213_55, if_neg (nI_pos (by omega)), e_213_64, if_pos n01]
  rcases hi with rfl | rfl
  · refine ⟨?_, tkL_w (j := 19) h (by omega) hk e⟩
    rw [r_213, if_pos (Rst_tt h), m_191 h ha, onV_i, if_pos (Rst_tt h), show (.ref 139 : Value) = .ref (120 + 19) from rfl, m_193 (j := 19) h (by omega) hk, onI_i, iB, decide_eq_true (show tkG t k = rsgN 19 from e), if_neg (show ¬ (true = false) by decide)]
    exact nx 6 (by omega)
  · refine ⟨?_, tkL_w (j := 20) h (by omega) hk e⟩
    rw [r_213, if_pos (Rst_tt h), m_191 h ha, onV_i, if_pos (Rst_tt h), show (.ref 139 : Value) = .ref (120 + 19) from rfl, m_193 (j := 19) h (by omega) hk, onI_i, iB, decide_eq_false (show ¬ tkG t k = rsgN 19 from fun z => by have : tkG t k = 24 := z; omega), if_pos (show false = false from rfl), e_213_18, if_pos (Rst_tt h), show (.ref 140 : Value) = .ref (120 + 20) from rfl, m_193 (j := 20) h (by omega) hk, onI_i, iB, decide_eq_true (show tkG t k = rsgN 20 from e), if_neg (show ¬ (true = false) by decide)]
    exact nx 7 (by omega)
theorem m_213n (h : TkR σ t) {W : WW} {p b st k : Nat} (ha : tAt t k p) (e1 : tkG t k ≠ 24) (e2 : tkG t k ≠ 25) : rn 213 [.ref 611] (Rst σ W p b st dp) = some (.inl (some (.int 0)), Rst σ W (tkE t k) (tkE t k) st dp) := by
  have hk := ha.1
  rw [r_213, if_pos (Rst_tt h), m_191 h ha, onV_i, if_pos (Rst_tt h), show (.ref 139 : Value) = .ref (120 + 19) from rfl, m_193 (j := 19) h (by omega) hk, onI_i, iB, decide_eq_false (show ¬ tkG t k = rsgN 19 from e1), if_pos (show false = false from rfl), e_213_18, if_pos (Rst_tt h), show (.ref 140 : Value) = .ref (120 + 20) from rfl, m_193 (j := 20) h (by omega) hk, onI_i, iB, decide_eq_false (show ¬ tkG t k = rsgN 20 from e2), if_pos (show false = false from rfl), e_213_32, if_pos (show (-1 : Int32) < 0 by decide), e_213_47, gI_r (Rst_tt h), Rst_12, pI_r (Rst_tt h), Rst_p, if_pos (show (-1 : Int32) < 0 by decide), e_213_63]
theorem m_210c (h : TkR σ t) (d : Nat) (o1 : Option Value) : RfL σ t dp (cmP t) (fun ρ => exec PP (d + 8) 210 123 [some (.ref 611), o1] [] ρ) := by
  intro W st k p b ha hs
  have n4 := h.2.1.n
  obtain ⟨W1, p1, bb1, s1, d1, c0, c1, c2, c3⟩ := m_214 h W st k p b ha hs
  obtain ⟨g1, g2⟩ := Gd_su h.2.1 k W st ha.1 hs
  try dsimp only at c0 ⊢
  rw [e_210_123, if_pos (Rst_tt h), c0, onI_i]
  unfold cmP
  cases hr : rpP t 27 9 (ptP t) k W st with
  | mk k' o =>
    rw [hr] at c2 c3 g1 g2
    cases o with
    | none =>
      try dsimp only
      rw [if_pos bI_nn]
      exact ⟨W1, p1, bb1, s1, d1, rfl, c1, c2, fun V s' z => by cases z⟩
    | some q =>
      obtain ⟨W2, s2⟩ := q
      obtain ⟨rfl, rfl, rfl, a1⟩ := c3 W2 s2 rfl
      obtain ⟨⟨b1, b2⟩, -⟩ := g2 W1 s1 rfl
      try dsimp only at g1 b1 b2 a1 ⊢
      -- the second sum
      have go : ∀ (X : SR) (sc : Nat) (x : Int32), tkG t k' = 18 + sc → (sc = 10 ∨ sc = 11) → (∀ ρ, sT ρ 611 = 112 → exec PP (d + 8) 210 161 [some (.ref 611), some (.int x)] [] ρ = onV (rn 212 [.ref 611, .int (nI sc), .int (nI 0)] ρ) (fun ρ' => some (.inl (some (.int 1)), ρ')) RX0) → X = onI (rn 214 [.ref 611] (Rst σ W1 (tkE t k' + tkS t k') (tkE t k') s1 d1)) (fun x29 σ27 => if (x29 = 0 : Prop) then (some (.inl (some (.int 0)), σ27)) else (exec PP (d + 8) 210 161 [some (.ref 611), some (.int x)] [] σ27)) RX0 → ∃ W' p' b' st' dp', X = some (.inl (some (.int (bI (match rpP t 27 9 (ptP t) (k' + 1) W1 s1 with
            | (k2, none) => (k2, none)
            | (k2, some (W2, st2)) => (k2, some (em W2 st2 (tkG t k' - 18) 0, st2 + 1)) : LPr).2.isSome))), Rst σ W' p' b' st' dp') ∧ (∀ j, j < 1212 → W' j = W j) ∧ ((match rpP t 27 9 (ptP t) (k' + 1) W1 s1 with
            | (k2, none) => (k2, none)
            | (k2, some (W2, st2)) => (k2, some (em W2 st2 (tkG t k' - 18) 0, st2 + 1)) : LPr).2 = none → b' = tkE t (match rpP t 27 9 (ptP t) (k' + 1) W1 s1 with
            | (k2, none) => (k2, none)
            | (k2, some (W2, st2)) => (k2, some (em W2 st2 (tkG t k' - 18) 0, st2 + 1)) : LPr).1) ∧ ∀ V s', (match rpP t 27 9 (ptP t) (k' + 1) W1 s1 with
            | (k2, none) => (k2, none)
            | (k2, some (W2, st2)) => (k2, some (em W2 st2 (tkG t k' - 18) 0, st2 + 1)) : LPr).2 = some (V, s') → W' = V ∧ st' = s' ∧ dp' = d1 ∧ tAt t (match rpP t 27 9 (ptP t) (k' + 1) W1 s1 with
            | (k2, none) => (k2, none)
            | (k2, some (W2, st2)) => (k2, some (em W2 st2 (tkG t k' - 18) 0, st2 + 1)) : LPr).1 p' := fun X sc x eg hsc hx eX => by
        have hk1 := h.2.1.lt (k := k') rfl (by omega)
        obtain ⟨W3, p3, b3, s3, d3, e0, e1, e2, e3⟩ := m_214 h W1 s1 (k' + 1) (tkE t k' + tkS t k') (tkE t k') (h.2.1.ats hk1) (by omega)
        obtain ⟨h1, h2⟩ := Gd_su h.2.1 (k' + 1) W1 s1 hk1 (by omega)
        try dsimp only at e0
        rw [eX, e0, onI_i]
        cases hr2 : rpP t 27 9 (ptP t) (k' + 1) W1 s1 with
        | mk k2 o2 =>
          rw [hr2] at e2 e3 h1 h2
          cases o2 with
          | none =>
            try dsimp only
            rw [if_pos bI_nn]
            exact ⟨W3, p3, b3, s3, d3, rfl, fun j hj => (e1 j hj).trans (c1 j hj), e2, fun V s' z => by cases z⟩
          | some q2 =>
            obtain ⟨W4, s4⟩ := q2
            obtain ⟨rfl, rfl, rfl, a3⟩ := e3 W4 s4 rfl
            obtain ⟨⟨f1, f2⟩, -⟩ := h2 W3 s3 rfl
            try dsimp only at h1 f1 f2 a3 ⊢
            rw [if_neg bI_s, hx _ (Rst_tt h), m_212 h (by omega), onV_i, show tkG t k' - 18 = sc by omega]
            exact ⟨_, p3, b3, _, _, rfl, fun j hj => (em_o (by omega)).trans ((e1 j hj).trans (c1 j hj)), fun z => (by cases z), fun V s' z => by cases z; exact ⟨rfl, rfl, rfl, a3⟩⟩
      rw [if_neg bI_s, e_210_132, if_pos (Rst_tt h), show (.int 60 : Value) = .int (nI 60) from rfl, show (.int 62 : Value) = .int (nI 62) from rfl]
      by_cases z8 : tkG t k' = 28
      · obtain ⟨e8, -⟩ := m_211y (i := 28) (c := 60) (W := W1) (b := bb1) (st := s1) (dp := d1) h (by omega) (by decide) a1 z8
        rw [if_pos (Or.inl z8)]
        refine go _ 10 1 (by omega) (by omega) (fun ρ hρ => ?_) ?_
        · rw [e_210_161, if_neg n10, e_210_173, if_pos hρ]; rfl
        · refine (congrArg (fun X => onI X _ _) e8).trans ?_
          rw [onI_i, if_neg n10, e_210_152, if_pos (Rst_tt h)]
          rfl
      have e8 := m_211n (i := 28) (c := 60) (W := W1) (b := bb1) (st := s1) (dp := d1) h (by omega) (by decide) a1 z8
      rw [e8, onI_i, if_pos n00, if_pos (Rst_tt h)]
      by_cases z9 : tkG t k' = 29
      · obtain ⟨e9, -⟩ := m_211y (i := 29) (c := 62) (W := W1) (b := tkE t k') (st := s1) (dp := d1) h (by omega) (by decide) (TxO.ate g1) z9
        rw [if_pos (Or.inr z9), e9, onI_i, if_neg n10, if_pos (Rst_tt h)]
        refine go _ 11 0 (by omega) (by omega) (fun ρ hρ => ?_) rfl
        rw [e_210_161, if_pos n00, e_210_171, if_pos hρ]; rfl
      · have e9 := m_211n (i := 29) (c := 62) (W := W1) (b := tkE t k') (st := s1) (dp := d1) h (by omega) (by decide) (TxO.ate g1) z9
        rw [if_neg (fun y => y.elim z8 z9), e9, onI_i, if_pos n00, e_210_159]
        exact ⟨W1, _, _, s1, d1, rfl, c1, fun _ => rfl, fun V s' y => by cases y⟩
/-- behind not and brackets -/
theorem m_210t (h : TkR σ t) (d : Nat) {nt op : Nat → WW → Nat → LPr} (o1 : Option Value) {W : WW} {st k p b : Nat} (ha : tAt t k p) (hs : st + 2 ≤ k) (e1 : tkG t k ≠ 32) (e2 : tkG t k ≠ 26) : ∃ W' p' b' st' dp', exec PP (d + 8) 210 114 [some (.ref 611), o1] [] (Rst σ W p b st dp) = some (.inl (some (.int (bI (at1 t nt op k W st).2.isSome))), Rst σ W' p' b' st' dp') ∧ (∀ j, j < 1212 → W' j = W j) ∧ ((at1 t nt op k W st).2 = none → b' = tkE t (at1 t nt op k W st).1) ∧ ∀ V s', (at1 t nt op k W st).2 = some (V, s') → W' = V ∧ st' = s' ∧ dp' = dp ∧ tAt t (at1 t nt op k W st).1 p' := by
  have n4 := h.2.1.n
  have hk := ha.1
  unfold at1
  rw [if_neg e1, if_neg e2, e_210_114, if_pos (Rst_tt h)]
  by_cases e3 : tkG t k = 24
  · obtain ⟨q1, q2⟩ := m_213y (dp := dp) (W := W) (b := b) (st := st) (i := 6) h ha (by omega) (Or.inl rfl) e3
    rw [if_pos e3, q1, onI_i, if_neg n10]
    exact ⟨_, _, _, _, _, rfl, fun j hj => em_o (by omega), fun z => (by cases z), fun V s' z => by cases z; exact ⟨rfl, rfl, rfl, q2⟩⟩
  rw [if_neg e3]
  by_cases e4 : tkG t k = 25
  · obtain ⟨q1, q2⟩ := m_213y (dp := dp) (W := W) (b := b) (st := st) (i := 7) h ha (by omega) (Or.inr rfl) e4
    rw [if_pos e4, q1, onI_i, if_neg n10]
    exact ⟨_, _, _, _, _, rfl, fun j hj => em_o (by omega), fun z => (by cases z), fun V s' z => by cases z; exact ⟨rfl, rfl, rfl, q2⟩⟩
  rw [if_neg e4, m_213n h ha e3 e4, onI_i, if_pos n00]
  exact m_210c h d _ W st k _ _ (TxO.ate hk) hs
theorem m_210z (h : TkR σ t) (d : Nat) : RfL σ t 6 (at1 t badP badP) (fun ρ => exec PP (d + 8) 210 0 (lcl PP 210 [.ref 611]) [] ρ) := by
  intro W st k p b ha hs
  have hk := ha.1
  try dsimp only
  rw [r_210, if_pos (Rst_tt h), show (.int 40 : Value) = .int (nI 40) from rfl]
  by_cases e1 : tkG t k = 32
  · rw [(m_211y (i := 32) (c := 40) h (by omega) (by decide) ha e1).1, onI_i, if_neg n10, gI_r (Rst_tt h), Rst_13, if_pos (show nI 6 = (6 : Int32) from rfl)]
    unfold at1
    rw [if_pos e1]
    exact ⟨W, _, _, _, _, rfl, fun _ _ => rfl, fun _ => rfl, fun V s' z => by cases z⟩
  rw [m_211n (i := 32) (c := 40) h (by omega) (by decide) ha e1, onI_i, if_pos n00, e_210_56, if_pos (Rst_tt h), show (.ref 138 : Value) = .ref (120 + 18) from rfl]
  by_cases e2 : tkG t k = 26
  · rw [(m_199y (j := 18) h (by omega) (TxO.ate hk) e2).1, onI_i, if_neg n10, gI_r (Rst_tt h), Rst_13, if_pos (show nI 6 = (6 : Int32) from rfl)]
    unfold at1
    rw [if_neg e1, if_pos e2]
    exact ⟨W, _, _, _, _, rfl, fun _ _ => rfl, fun _ => rfl, fun V s' z => by cases z⟩
  rw [m_199n (j := 18) h (by omega) (TxO.ate hk) e2, onI_i, if_pos n00]
  exact m_210t h d _ (TxO.ate hk) hs e1 e2
theorem m_210s (h : TkR σ t) (d : Nat) (hq : dp < 6) {nt op : Nat → WW → Nat → LPr} (gn : Gd t true nt) (go : Gd t true op) (hn : RfL σ t (dp + 1) nt (fun ρ => exec PP (d + 7) 210 0 (lcl PP 210 [.ref 611]) [] ρ)) (ho : RfL σ t (dp + 1) op (fun ρ => exec PP (d + 7) 208 0 (lcl PP 208 [.ref 611]) [] ρ)) : RfL σ t dp (at1 t nt op) (fun ρ => exec PP (d + 8) 210 0 (lcl PP 210 [.ref 611]) [] ρ) := by
  intro W st k p b ha hs
  have n4 := h.2.1.n
  have hk := ha.1
  have n6 : ¬ nI dp = 6 := nI_nel (n := 6) (by omega) (by omega) (by decide)
  try dsimp only
  rw [r_210, if_pos (Rst_tt h), show (.int 40 : Value) = .int (nI 40) from rfl]
  by_cases e1 : tkG t k = 32
  · obtain ⟨q1, hk1⟩ := m_211y (i := 32) (c := 40) (W := W) (b := b) (st := st) (dp := dp) h (by omega) (by decide) ha e1
    obtain ⟨W1, p1, b1, s1, d1, c0, c1, c2, c3⟩ := ho W st (k + 1) (tkE t k + tkS t k) (tkE t k) (h.2.1.ats hk1) (by omega)
    obtain ⟨g1, g2⟩ := go (k + 1) W st hk1 (by omega)
    try dsimp only at c0
    rw [q1, onI_i, if_neg n10, gI_r (Rst_tt h), Rst_13, if_neg n6, e_210_20, gI_r (Rst_tt h), Rst_13, nI_1, pI_r (Rst_tt h), Rst_d, if_pos (Rst_tt h), c0, onI_i]
    unfold at1
    rw [if_pos e1]
    cases hr : op (k + 1) W st with
    | mk k' o =>
      rw [hr] at c2 c3 g1 g2
      cases o with
      | none =>
        try dsimp only
        rw [if_pos bI_nn]
        exact ⟨W1, p1, b1, s1, d1, rfl, c1, c2, fun V s' z => by cases z⟩
      | some q =>
        obtain ⟨W2, s2⟩ := q
        obtain ⟨rfl, rfl, rfl, a1⟩ := c3 W2 s2 rfl
        try dsimp only at g1 a1 ⊢
        rw [if_neg bI_s, e_210_39, gI_r (Rst_tt h), Rst_13, sub_1 (by omega), Nat.add_sub_cancel, pI_r (Rst_tt h), Rst_d, if_pos (Rst_tt h), show (.int 41 : Value) = .int (nI 41) from rfl]
        by_cases e3 : tkG t k' = 33
        · obtain ⟨q2, hk2⟩ := m_211y (i := 33) (c := 41) (W := W1) (b := b1) (st := s1) (dp := dp) h (by omega) (by decide) a1 e3
          rw [if_pos e3, q2, onI_i, if_pos n01]
          exact ⟨_, _, _, _, _, rfl, c1, fun z => (by cases z), fun V s' z => by cases z; exact ⟨rfl, rfl, rfl, h.2.1.ats hk2⟩⟩
        · rw [if_neg e3, m_211n (i := 33) (c := 41) h (by omega) (by decide) a1 e3, onI_i, if_pos n0o]
          exact ⟨_, _, _, _, _, rfl, c1, fun _ => rfl, fun V s' z => by cases z⟩
  rw [m_211n (i := 32) (c := 40) h (by omega) (by decide) ha e1, onI_i, if_pos n00, e_210_56, if_pos (Rst_tt h), show (.ref 138 : Value) = .ref (120 + 18) from rfl]
  by_cases e2 : tkG t k = 26
  · obtain ⟨q1, hk1, -⟩ := m_199y (j := 18) (W := W) (b := tkE t k) (st := st) (dp := dp) h (by omega) (TxO.ate hk) e2
    obtain ⟨W1, p1, b1, s1, d1, c0, c1, c2, c3⟩ := hn W st (k + 1) (tkE t k + tkS t k) (tkE t k) (h.2.1.ats hk1) (by omega)
    obtain ⟨g1, g2⟩ := gn (k + 1) W st hk1 (by omega)
    try dsimp only at c0
    rw [q1, onI_i, if_neg n10, gI_r (Rst_tt h), Rst_13, if_neg n6, e_210_76, gI_r (Rst_tt h), Rst_13, nI_1, pI_r (Rst_tt h), Rst_d, if_pos (Rst_tt h), c0, onI_i]
    unfold at1
    rw [if_neg (show ¬ tkG t k = 32 from e1), if_pos e2]
    cases hr : nt (k + 1) W st with
    | mk k' o =>
      rw [hr] at c2 c3 g1 g2
      cases o with
      | none =>
        try dsimp only
        rw [if_pos bI_nn]
        exact ⟨W1, p1, b1, s1, d1, rfl, c1, c2, fun V s' z => by cases z⟩
      | some q =>
        obtain ⟨W2, s2⟩ := q
        obtain ⟨rfl, rfl, rfl, a1⟩ := c3 W2 s2 rfl
        obtain ⟨⟨b2, b3⟩, -⟩ := g2 W1 s1 rfl
        try dsimp only at g1 a1 b2 b3 ⊢
        rw [if_neg bI_s, e_210_95, gI_r (Rst_tt h), Rst_13, sub_1 (by omega), Nat.add_sub_cancel, pI_r (Rst_tt h), Rst_d, if_pos (Rst_tt h), show (.int 12 : Value) = .int (nI 12) from rfl, show (.int 0 : Value) = .int (nI 0) from rfl, m_212 h (by omega), onV_i]
        exact ⟨_, _, _, _, _, rfl, fun j hj => (em_o (by omega)).trans (c1 j hj), fun z => (by cases z), fun V s' z => by cases z; exact ⟨rfl, rfl, rfl, a1⟩⟩
  rw [m_199n (j := 18) h (by omega) (TxO.ate hk) e2, onI_i, if_pos n00]
  exact m_210t h d _ (TxO.ate hk) hs e1 e2
theorem m_209 (h : TkR σ t) (d : Nat) {A : Nat → WW → Nat → LPr} (gA : Gd t true A) (hA : RfL σ t dp A (fun ρ => exec PP (d + 7) 210 0 (lcl PP 210 [.ref 611]) [] ρ)) : RfL σ t dp (rpP t 30 13 A) (fun ρ => exec PP (d + 8) 209 0 (lcl PP 209 [.ref 611]) [] ρ) := RfL_rp (ty := true) h gA (sg := 30) (cd := 13) (by omega) (E := fun ρ => exec PP (d + 7) 210 0 (lcl PP 210 [.ref 611]) [] ρ) (Q := fun ρ => exec PP (d + 8) 209 9 [some (.ref 611)] [] ρ) (Ts := fun ρ => rn 199 [.ref 611, .ref 147] ρ) (Nx := fun ρ => exec PP (d + 8) 209 27 [some (.ref 611)] [] ρ) hA (fun W st k p b ha e => (m_199y (j := 27) h (by omega) ha e).1) (fun W st k p b ha e => m_199n (j := 27) h (by omega) ha e) (fun ρ hρ => by
    try dsimp only
    rw [r_209, if_pos hρ]
    rfl) (fun ρ hρ => by
    try dsimp only
    rw [e_209_9, if_pos hρ]
    simp only [e_209_37]
    rfl) (fun ρ hρ => by
    try dsimp only
    rw [e_209_27, if_pos hρ]
    rfl)
theorem m_208 (h : TkR σ t) (d : Nat) {A : Nat → WW → Nat → LPr} (gA : Gd t true A) (hA : RfL σ t dp A (fun ρ => exec PP (d + 7) 209 0 (lcl PP 209 [.ref 611]) [] ρ)) : RfL σ t dp (rpP t 31 14 A) (fun ρ => exec PP (d + 8) 208 0 (lcl PP 208 [.ref 611]) [] ρ) := RfL_rp (ty := true) h gA (sg := 31) (cd := 14) (by omega) (E := fun ρ => exec PP (d + 7) 209 0 (lcl PP 209 [.ref 611]) [] ρ) (Q := fun ρ => exec PP (d + 8) 208 9 [some (.ref 611)] [] ρ) (Ts := fun ρ => rn 199 [.ref 611, .ref 148] ρ) (Nx := fun ρ => exec PP (d + 8) 208 27 [some (.ref 611)] [] ρ) hA (fun W st k p b ha e => (m_199y (j := 28) h (by omega) ha e).1) (fun W st k p b ha e => m_199n (j := 28) h (by omega) ha e) (fun ρ hρ => by
    try dsimp only
    rw [r_208, if_pos hρ]
    rfl) (fun ρ hρ => by
    try dsimp only
    rw [e_208_9, if_pos hρ]
    simp only [e_208_37]
    rfl) (fun ρ hρ => by
    try dsimp only
    rw [e_208_27, if_pos hρ]
    rfl)
theorem m_210 (h : TkR σ t) : ∀ r, r ≤ 6 → ∀ d, 3 * r ≤ d → RfL σ t (6 - r) (atP t r) (fun ρ => exec PP (d + 8) 210 0 (lcl PP 210 [.ref 611]) [] ρ)
  | 0, _, d, _ => m_210z h d
  | r + 1, hr, d, hd => by
    obtain ⟨d', rfl⟩ : ∃ d', d = d' + 3 := ⟨d - 3, by omega⟩
    have ih := fun d hd => m_210 h r (by omega) d hd
    have gA := Gd_at h.2.1 r
    have gB := Gd_rp h.2.1 gA (sg := 30) (cd := 13) (by omega) (by omega) (fun T => rfl)
    have e : 6 - (r + 1) + 1 = 6 - r := by omega
    refine m_210s (dp := 6 - (r + 1)) h (d' + 3) (by omega) gA (Gd_rp h.2.1 gB (sg := 31) (cd := 14) (by omega) (by omega) (fun T => rfl)) ?_ ?_
    · rw [e]; exact ih (d' + 2) (by omega)
    · rw [e]; exact m_208 h (d' + 2) gB (m_209 h (d' + 1) gA (ih d' (by omega)))
theorem m_208t (h : TkR σ t) : RfL σ t 0 (cdP t 6) (fun ρ => exec PP 60 208 0 (lcl PP 208 [.ref 611]) [] ρ) := by
  have gA := Gd_at h.2.1 6
  exact m_208 h 52 (Gd_rp h.2.1 gA (sg := 30) (cd := 13) (by omega) (by omega) (fun T => rfl)) (m_209 h 51 gA (m_210 h 6 (by omega) 50 (by omega)))
end G4
