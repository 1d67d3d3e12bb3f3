/-! lines of a law -/
def hdW (W : WW) (n kd a st : Nat) : WW := uW (uW (uW W (1213 + 4 * n) (nI kd)) (1213 + 4 * n + 1) (nI a)) (1213 + 4 * n + 2) (nI st)
def lwP (t : TXT) (n k : Nat) (W : WW) (st : Nat) : LPr :=
  if 14 ≤ tkG t k ∧ tkG t k ≤ 16 then (if tkG t (k + 1) = 35 ∧ tkV t (k + 1) ≤ 99 then
    (if tkG t (k + 2) = 17 then (match cdP t 6 (k + 3) (hdW W n (tkG t k - 14) (tkV t (k + 1)) st) st with
      | (k', none) => (k', none)
      | (k', some (W', st')) => (k', some (uW W' (1213 + 4 * n + 3) (nI st'), st')))
    else (k + 2, some (uW (hdW W n (tkG t k - 14) (tkV t (k + 1)) st) (1213 + 4 * n + 3) (nI st), st)))
  else (k + 1, none)) else (k, none)
def lwL (t : TXT) : Nat → Nat → Nat → WW → Nat → Nat × Option (WW × Nat × Nat)
  | 0, _, k, _, _ => (k, none)
  | m + 1, n, k, W, st => match lwP t n k W st with
    | (k', none) => (k', none)
    | (k', some (W', st')) => if tkG t k' = 37 then (k', some (W', st', n + 1)) else if tkG t k' = 34 then lwL t m (n + 1) (k' + 1) W' st' else (k', none)
def lawP (t : TXT) (W : WW) : Nat × Option (WW × Nat × Nat) := if tkG t 0 = 37 then (0, some (W, 0, 0)) else lwL t 12 0 0 W 0
def LnG (W : WW) (n st : Nat) : Prop := (n ≤ 12 ∧ st ≤ 400) ∧ (∀ i, i < n → btw (dr W (1 + 4 * i)) 0 2 ∧ btw (dr W (2 + 4 * i)) 0 99 ∧ (dr W (3 + 4 * i) = nI (frN (dr W) i) ∧ dr W (4 + 4 * i) = nI (toN (dr W) i)) ∧ (frN (dr W) i = if i = 0 then 0 else toN (dr W) (i - 1)) ∧ frN (dr W) i ≤ toN (dr W) i ∧ toN (dr W) i ≤ st ∧ (tyR (dr W) (frN (dr W) i) (toN (dr W) i - frN (dr W) i) [] = some [] ∨ tyR (dr W) (frN (dr W) i) (toN (dr W) i - frN (dr W) i) [] = some [true])) ∧ (st = if n = 0 then 0 else toN (dr W) (n - 1)) ∧ ∀ j, j < st → okSt W j
theorem hd_o {W : WW} {n kd a st j : Nat} (h : j < 1213 + 4 * n ∨ 1213 + 4 * n + 3 ≤ j) : hdW W n kd a st j = W j := by unfold hdW; rw [uW_n (by omega), uW_n (by omega), uW_n (by omega)]
theorem hd_f {W : WW} {n kd a st : Nat} : hdW W n kd a st (1213 + 4 * n) = nI kd ∧ hdW W n kd a st (1213 + 4 * n + 1) = nI a ∧ hdW W n kd a st (1213 + 4 * n + 2) = nI st := by
  unfold hdW
  exact ⟨by rw [uW_n (by omega), uW_n (by omega), uW_s], by rw [uW_n (by omega), uW_s], uW_s _ _ _⟩
theorem dr_at (W : WW) {k j : Nat} (h : 1212 + k = j) : dr W k = W j := by unfold dr; rw [h]
/-- one line more -/
theorem LnG.s {W W' : WW} {n st st' kd a : Nat} (h : LnG W n st) (hn : n < 12) (hk : kd ≤ 2) (ha : a ≤ 99) (hs : st ≤ st' ∧ st' ≤ 400) (hw : ∀ j, (j < 1213 + 4 * n ∨ (1213 + 4 * n + 4 ≤ j ∧ j < 1261 + 2 * st)) → W' j = W j) (hf : W' (1213 + 4 * n) = nI kd ∧ W' (1213 + 4 * n + 1) = nI a ∧ W' (1213 + 4 * n + 2) = nI st ∧ W' (1213 + 4 * n + 3) = nI st') (hty : tyR (dr W') st (st' - st) [] = some [] ∨ tyR (dr W') st (st' - st) [] = some [true]) (hok : ∀ j, st ≤ j → j < st' → okSt W' j) : LnG W' (n + 1) st' := by
  obtain ⟨⟨a1, a2⟩, a3, a4, a5⟩ := h
  obtain ⟨f0, f1, f2, f3⟩ := hf
  have d1 : dr W' (1 + 4 * n) = nI kd := by rw [dr_at W' (show 1212 + (1 + 4 * n) = 1213 + 4 * n by omega)]; exact f0
  have d2 : dr W' (2 + 4 * n) = nI a := by rw [dr_at W' (show 1212 + (2 + 4 * n) = 1213 + 4 * n + 1 by omega)]; exact f1
  have d3 : dr W' (3 + 4 * n) = nI st := by rw [dr_at W' (show 1212 + (3 + 4 * n) = 1213 + 4 * n + 2 by omega)]; exact f2
  have d4 : dr W' (4 + 4 * n) = nI st' := by rw [dr_at W' (show 1212 + (4 + 4 * n) = 1213 + 4 * n + 3 by omega)]; exact f3
  have e3 : frN (dr W') n = st := by unfold frN; rw [d3, tnI (by omega)]; rfl
  have e4 : toN (dr W') n = st' := by unfold toN; rw [d4, tnI (by omega)]; rfl
  have old : ∀ k, k < 1 + 4 * n → dr W' k = dr W k := fun k hk => by unfold dr; exact hw _ (by omega)
  have of : ∀ i, i < n → frN (dr W') i = frN (dr W) i := fun i hi => by unfold frN; rw [old _ (by omega)]
  have ot : ∀ i, i < n → toN (dr W') i = toN (dr W) i := fun i hi => by unfold toN; rw [old _ (by omega)]
  refine ⟨⟨by omega, hs.2⟩, fun i hi => ?_, by rw [if_neg (by omega), Nat.add_sub_cancel, e4], fun j hj => ?_⟩
  · by_cases z : i = n
    · subst z
      rw [d1, d2, d3, d4, e3, e4]
      refine ⟨btw_n (by omega) (by omega), btw_n (by omega) (by omega), ⟨rfl, rfl⟩, ?_, hs.1, Nat.le_refl _, hty⟩
      by_cases z0 : i = 0
      · rw [if_pos z0]; rw [if_pos z0] at a4; exact a4
      · rw [if_neg z0, ot _ (by omega)]; rw [if_neg z0] at a4; exact a4
    · obtain ⟨b1, b2, b3, b4, b5, b6, b7⟩ := a3 i (by omega)
      rw [old _ (by omega), old _ (by omega), old _ (by omega), old _ (by omega), of i (by omega), ot i (by omega)]
      refine ⟨b1, b2, b3, ?_, b5, by omega, ?_⟩
      · rw [b4]
        by_cases z0 : i = 0
        · rw [if_pos z0, if_pos z0]
        · rw [if_neg z0, if_neg z0, ot _ (by omega)]
      · rw [tyR_cg (L := dr W) (L' := dr W') _ _ _ (fun j h1 h2 => by rw [dr_c, dr_c]; exact hw _ (by omega))]
        exact b7
  · by_cases z : j < st
    · exact okSt_cg (a5 j z) (hw _ (by omega)) (hw _ (by omega))
    · exact hok j (by omega) hj
section G5
variable {t : TXT}
theorem lw_good (h : TxO t) {n k st : Nat} {W : WW} (hn : n < 12) (hk : k ≤ tkN t) (hs : st ≤ k) (hg : LnG W n st) : (lwP t n k W st).1 ≤ tkN t ∧ ∀ W' st', (lwP t n k W st).2 = some (W', st') → k < (lwP t n k W st).1 ∧ st' ≤ (lwP t n k W st).1 ∧ LnG W' (n + 1) st' ∧ ∀ j, j < 1212 → W' j = W j := by
  have n4 := h.n
  unfold lwP
  by_cases e1 : 14 ≤ tkG t k ∧ tkG t k ≤ 16
  · rw [if_pos e1]
    have k1 := h.lt (k := k) rfl (by omega)
    by_cases e2 : tkG t (k + 1) = 35 ∧ tkV t (k + 1) ≤ 99
    · rw [if_pos e2]
      have k2 := h.lt e2.1 (by omega)
      obtain ⟨f0, f1, f2⟩ := hd_f (W := W) (n := n) (kd := tkG t k - 14) (a := tkV t (k + 1)) (st := st)
      by_cases e3 : tkG t (k + 2) = 17
      · rw [if_pos e3]
        have k3 := h.lt e3 (by omega)
        obtain ⟨g1, g2⟩ := Gd_cd h 6 (k + 3) (hdW W n (tkG t k - 14) (tkV t (k + 1)) st) st k3 (by omega)
        cases hr : cdP t 6 (k + 3) (hdW W n (tkG t k - 14) (tkV t (k + 1)) st) st with
        | mk k' o =>
          rw [hr] at g1 g2
          cases o with
          | none => exact ⟨g1, fun W' st' z => by cases z⟩
          | some q =>
            obtain ⟨W1, s1⟩ := q
            obtain ⟨⟨b1, b2⟩, ⟨⟨c1, c2⟩, c3, c4⟩⟩ := g2 W1 s1 rfl
            try dsimp only at g1 b1 b2 ⊢
            refine ⟨g1, fun W' st' z => ?_⟩
            cases z
            refine ⟨by omega, by omega, hg.s hn (kd := tkG t k - 14) (a := tkV t (k + 1)) (by omega) e2.2 ⟨c1, by omega⟩ (fun j hj => ?_) ⟨?_, ?_, ?_, uW_s _ _ _⟩ (Or.inr ?_) (fun j h1 h2 => ?_), fun j hj => ?_⟩
            · rw [uW_n (by omega), c2 _ (by omega), hd_o (by omega)]
            · rw [uW_n (by omega), c2 _ (by omega)]; exact f0
            · rw [uW_n (by omega), c2 _ (by omega)]; exact f1
            · rw [uW_n (by omega), c2 _ (by omega)]; exact f2
            · rw [tyR_cg (L := dr W1) _ _ _ (fun j h1 h2 => by rw [dr_c, dr_c]; exact uW_n (by omega))]
              exact c3 []
            · exact okSt_cg (c4 j h1 h2) (uW_n (by omega)) (uW_n (by omega))
            · rw [uW_n (by omega), c2 _ (by omega), hd_o (by omega)]
      · rw [if_neg e3]
        refine ⟨k2, fun W' st' z => ?_⟩
        cases z
        refine ⟨by show k < k + 2; omega, by show st ≤ k + 2; omega, hg.s hn (kd := tkG t k - 14) (a := tkV t (k + 1)) (by omega) e2.2 ⟨Nat.le_refl _, by omega⟩ (fun j hj => ?_) ⟨?_, ?_, ?_, uW_s _ _ _⟩ (Or.inl ?_) (fun j h1 h2 => by omega), fun j hj => ?_⟩
        · rw [uW_n (by omega), hd_o (by omega)]
        · rw [uW_n (by omega)]; exact f0
        · rw [uW_n (by omega)]; exact f1
        · rw [uW_n (by omega)]; exact f2
        · rw [Nat.sub_self]; rfl
        · rw [uW_n (by omega), hd_o (by omega)]
    · rw [if_neg e2]
      exact ⟨k1, fun W' st' z => by cases z⟩
  · rw [if_neg e1]
    exact ⟨hk, fun W' st' z => by cases z⟩
end G5
/-! the reference's lines -/
section G5b
variable {σ : SH} {t : TXT} {W : WW} {p b st dp k : Nat}
theorem m_207 (h : TkR σ t) {n : Nat} (hn : n < 12) (hk : k ≤ tkN t) (hs : st ≤ k) : ∃ W' p' b' st' dp', rn 207 [.ref 611, .int (nI n)] (Rst σ W (tkL t k) (tkE t k) st dp) = some (.inl (some (.int (bI (lwP t n k W st).2.isSome))), Rst σ W' p' b' st' dp') ∧ (∀ j, j < 1212 → W' j = W j) ∧ ((lwP t n k W st).2 = none → b' = tkE t (lwP t n k W st).1) ∧ ∀ V s', (lwP t n k W st).2 = some (V, s') → W' = V ∧ st' = s' ∧ tAt t (lwP t n k W st).1 p' := by
  have n4 := h.2.1.n
  have dt : ∀ j, tkG t k = rsgN j → ¬ bI (decide (tkG t k = rsgN j)) = 0 := fun j e => by rw [decide_eq_true e]; decide
  have df : ∀ j, ¬ tkG t k = rsgN j → bI (decide (tkG t k = rsgN j)) = 0 := fun j e => by rw [decide_eq_false e]; rfl
  have b4 : (1213 + 4 * nI n : Int32) = nI (1213 + 4 * n) := ix_2m 1213 4 n
  have yes : ∀ i j, i < 3 → j < 29 → rsgN j = 14 + i → tkG t k = 14 + i → ∀ o1, ∃ W' p' b' st' dp', exec PP 61 207 53 [some (.ref 611), o1, some (.int (nI (1213 + 4 * n)))] [.int (nI i), .int (nI (1213 + 4 * n)), .ref 612] (Rst σ W (tkL t k) (tkE t k) st dp) = some (.inl (some (.int (bI (lwP t n k W st).2.isSome))), Rst σ W' p' b' st' dp') ∧ (∀ j, j < 1212 → W' j = W j) ∧ ((lwP t n k W st).2 = none → b' = tkE t (lwP t n k W st).1) ∧ ∀ V s', (lwP t n k W st).2 = some (V, s') → W' = V ∧ st' = s' ∧ tAt t (lwP t n k W st).1 p' := fun i j hi hj hji e o1 => by
    have a1 : tAt t (k + 1) (tkL t k) := tkL_w h hj hk (by omega)
    unfold lwP
    rw [if_pos (by omega), e_207_53, u612 h (by omega), h612 h, a612 h (by omega), uW_s, if_neg (nI_pos (by omega)), e_207_65, h612 h, if_pos (Rst_tt h), show (.int 0 : Value) = .int (nI 0) from rfl, show (.int 99 : Value) = .int (nI 99) from rfl]
    by_cases e2 : tkG t (k + 1) = 35 ∧ tkV t (k + 1) ≤ 99
    · have k2 := h.2.1.lt e2.1 (by omega)
      have a2 := h.2.1.ats k2
      rw [if_pos e2, m_196y h a1 e2.1 (by omega) e2.2 (by omega), onI_i, nI_1, u612 h (by omega), h612 h, a612 h (by omega), uW_s, if_neg (nI_pos (by omega)), e_207_93, h612 h, gI_r (Rst_tt h), Rst_16, show nI (1213 + 4 * n) + 2 = nI (1213 + 4 * n + 2) from nI_add _ 2, u612 h (by omega), show (0 : Int32) = nI 0 from rfl, pI_r (Rst_tt h), Rst_d, if_pos (Rst_tt h), show (.ref 137 : Value) = .ref (120 + 17) from rfl]
      have eW : uW (uW (uW W (1213 + 4 * n) (nI i)) (1213 + 4 * n + 1) (nI (tkV t (k + 1)))) (1213 + 4 * n + 2) (nI st) = hdW W n (tkG t k - 14) (tkV t (k + 1)) st := by rw [show tkG t k - 14 = i by omega]; rfl
      rw [eW]
      by_cases e3 : tkG t (k + 2) = 17
      · obtain ⟨q1, k3, -⟩ := m_199y (j := 17) (k := k + 2) (W := hdW W n (tkG t k - 14) (tkV t (k + 1)) st) (b := tkE t (k + 1)) (st := st) (dp := 0) h (by omega) a2 e3
        obtain ⟨W1, p1, b1, s1, d1, c0, c1, c2, c3⟩ := m_208t h (hdW W n (tkG t k - 14) (tkV t (k + 1)) st) st (k + 3) (tkE t (k + 2) + tkS t (k + 2)) (tkE t (k + 2)) (h.2.1.ats k3) (by omega)
        try dsimp only at c0
        rw [if_pos e3, q1, onI_i, if_neg (show ¬ (1 : Int32) = nI 0 by decide), if_pos (Rst_tt h), c0, onI_i]
        cases hr : cdP t 6 (k + 3) (hdW W n (tkG t k - 14) (tkV t (k + 1)) st) st with
        | mk k' o =>
          rw [hr] at c2 c3
          have c1' : ∀ j, j < 1212 → W1 j = W j := fun j hj => (c1 j hj).trans (hd_o (by omega))
          cases o with
          | none =>
            try dsimp only
            rw [if_pos (show bI (none : Option (WW × Nat)).isSome = nI 0 from rfl)]
            exact ⟨W1, p1, b1, s1, d1, rfl, c1', c2, fun V s' z => by cases z⟩
          | some q =>
            obtain ⟨W2, s2⟩ := q
            obtain ⟨rfl, rfl, rfl, a3⟩ := c3 W2 s2 rfl
            try dsimp only at a3 ⊢
            rw [if_neg (show ¬ bI (some (W1, s1)).isSome = nI 0 from (by decide : ¬ bI true = nI 0)), e_207_128, h612 h, gI_r (Rst_tt h), Rst_16, show nI (1213 + 4 * n) + 3 = nI (1213 + 4 * n + 3) from nI_add _ 3, u612 h (by omega)]
            exact ⟨_, _, _, _, _, rfl, fun j hj => (uW_n (by omega)).trans (c1' j hj), fun z => (by cases z), fun V s' z => by cases z; exact ⟨rfl, rfl, a3⟩⟩
      · have q1 := m_199n (j := 17) (k := k + 2) (W := hdW W n (tkG t k - 14) (tkV t (k + 1)) st) (b := tkE t (k + 1)) (st := st) (dp := 0) h (by omega) a2 e3
        rw [if_neg e3, q1, onI_i, if_pos (show (0 : Int32) = nI 0 from rfl), e_207_128, h612 h, gI_r (Rst_tt h), Rst_16, show nI (1213 + 4 * n) + 3 = nI (1213 + 4 * n + 3) from nI_add _ 3, u612 h (by omega)]
        exact ⟨_, _, _, _, _, rfl, fun j hj => by rw [uW_n (by omega), hd_o (by omega)], fun z => (by cases z), fun V s' z => by cases z; exact ⟨rfl, rfl, TxO.ate a2.1⟩⟩
    · obtain ⟨q, hq⟩ := m_196n (W := uW W (1213 + 4 * n) (nI i)) (b := tkE t k) (st := st) (dp := dp) (lo := 0) (hi := 99) h a1 (by omega) (fun z => e2 ⟨z.1, z.2.2⟩)
      rw [if_neg e2, hq, onI_i, nI_1, u612 h (by omega), h612 h, a612 h (by omega), uW_s, if_pos (show (-1 : Int32) < 0 by decide)]
      exact ⟨_, _, _, _, _, rfl, fun j hj => by rw [uW_n (by omega), uW_n (by omega)], fun _ => rfl, fun V s' z => by cases z⟩
  rw [r_207, h612 h, if_pos (Rst_tt h), show (.ref 134 : Value) = .ref (120 + 14) from rfl, m_193 (j := 14) h (by omega) hk, onI_i, b4]
  by_cases g0 : tkG t k = 14
  · rw [if_neg (dt 14 g0)]; exact yes 0 14 (by omega) (by omega) rfl g0 _
  rw [if_pos (df 14 g0), e_207_26, if_pos (Rst_tt h), show (.ref 135 : Value) = .ref (120 + 15) from rfl, m_193 (j := 15) h (by omega) hk, onI_i]
  by_cases g1 : tkG t k = 15
  · rw [if_neg (dt 15 g1)]; exact yes 1 15 (by omega) (by omega) rfl g1 _
  rw [if_pos (df 15 g1), e_207_39, if_pos (Rst_tt h), show (.ref 136 : Value) = .ref (120 + 16) from rfl, m_193 (j := 16) h (by omega) hk, onI_i]
  by_cases g2 : tkG t k = 16
  · rw [if_neg (dt 16 g2)]; exact yes 2 16 (by omega) (by omega) rfl g2 _
  rw [if_pos (df 16 g2), e_207_52, u612 h (by omega), h612 h, a612 h (by omega), uW_s, if_pos (show (-1 : Int32) < 0 by decide)]
  unfold lwP
  rw [if_neg (by omega)]
  exact ⟨_, _, _, _, _, rfl, fun j hj => uW_n (by omega), fun _ => rfl, fun V s' z => by cases z⟩
end G5b
