/-! the log: a ring in the class, the latest first in the reference -/
def lgN (W : WW) : Nat := (W 8).toInt.toNat
def LG (σ : SH) (c : Nat) (W : WW) : Prop := ∃ nx, nx < 60 ∧ sI σ (c + 4) 1 = nI nx ∧ sI σ (c + 4) 0 = W 8 ∧ ∀ ago col, ago < lgN W → col < 4 → sI σ (c + 5) ((nx + 59 - ago) % 60 * 4 + col) = W (123 + 4 * ago + col)
theorem WF_lg {W : WW} (h : WF W) : W 8 = nI (lgN W) ∧ lgN W ≤ 60 := by
  obtain ⟨h1, h2⟩ := btw_nI h.1.2.2.2.2.2.2.2.2
  exact ⟨h1, by unfold lgN; omega⟩
theorem fi_last (p : Nat → Bool) : ∀ (k i : Nat), fi p i (k + 1) = (match fi p i k with
    | some q => some q
    | none => if p (i + k) = true then some (i + k) else none)
  | 0, i => rfl
  | k + 1, i => by
    show (if p i = true then some i else fi p (i + 1) (k + 1)) = (match (if p i = true then some i else fi p (i + 1) k) with
      | some q => some q
      | none => if p (i + (k + 1)) = true then some (i + (k + 1)) else none)
    by_cases c : p i = true
    · rw [if_pos c, if_pos c]
    · rw [if_neg c, if_neg c, fi_last p k (i + 1), show i + 1 + k = i + (k + 1) by omega]
def lgP (W : WW) (a : Nat) (k : Nat) : Bool := decide (W (123 + 4 * k + 2) = nI a)
def ledM (W : WW) (a : Nat) : Int32 := match fi (lgP W a) 0 (lgN W) with
  | some k => W (123 + 4 * k + 0)
  | none => -1
section QM
variable {σ : SH} {W L : WW}
theorem m_54 (h : QQ σ W L) (hg : LG σ 211 W) {x1 x2 : Int32} {ago col : Nat} (e1 : x1 = nI ago) (e2 : x2 = nI col) (ha : ago < lgN W) (hc : col < 4) : rn 54 [.ref 215, .int x1, .int x2] σ = some (.inl (some (.int (W (123 + 4 * ago + col)))), σ) := by
  obtain ⟨w1, w2⟩ := WF_lg h.w
  obtain ⟨nx, n1, n2, n3, n4⟩ := hg
  have t5 : sT σ 215 = 105 := h.s.2.2.1.1
  subst e1 e2
  have ix : irm (nI nx + 60 - 1 - nI ago) 60 * 4 + nI col = nI ((nx + 59 - ago) % 60 * 4 + col) := by
    have a1 : nI nx + 60 = nI (nx + 60) := nI_add nx 60
    have a2 : irm (nI (nx + 60 - 1 - ago)) 60 = nI ((nx + 60 - 1 - ago) % 60) := pk_rem (d := 60) (by omega) (by decide) (by decide)
    have a3 : nI ((nx + 60 - 1 - ago) % 60) * 4 = nI ((nx + 60 - 1 - ago) % 60 * 4) := pk_mul _ 4
    rw [a1, sub_1 (by omega), pk_sub (by omega), a2, a3, nI_add, show nx + 60 - 1 - ago = nx + 59 - ago by omega]
  rw [r_54, if_neg (nI_pos (by omega)), gI_r t5, n3, w1, if_pos (nI_lt ha (by omega)), e_54_14, gR_r t5 h.s.2.2.1.2.1, gI_r t5, n2, ix, aI_r h.s.2.2.1.2.2.1 (by rw [h.s.2.2.1.2.2.2.1]; omega) (by rw [h.s.2.2.1.2.2.2.1]; decide)]
  rw [n4 ago col ha hc]
theorem m_54n (h : QQ σ W L) (hg : LG σ 211 W) {x1 x2 : Int32} (hx : ¬ (0 ≤ x1.toInt ∧ x1.toInt < lgN W)) : rn 54 [.ref 215, .int x1, .int x2] σ = some (.inl (some (.int (-1))), σ) := by
  obtain ⟨w1, w2⟩ := WF_lg h.w
  obtain ⟨nx, n1, n2, n3, n4⟩ := hg
  have t5 : sT σ 215 = 105 := h.s.2.2.1.1
  have z0 : (0 : Int32).toInt = 0 := by decide
  rw [r_54]
  by_cases c : x1 < 0
  · rw [if_pos c, e_54_12]
  · rw [if_neg c, gI_r t5, n3, w1, if_neg]
    rw [tlt, z0] at c
    rw [tlt, tnI (by omega)]
    omega
theorem m_55 (h : QQ σ W L) (hg : LG σ 211 W) {a : Nat} : rn 55 [.ref 215, .int (nI a)] σ = some (.inl (some (.int (nI (cnt (lgP W a) (lgN W))))), σ) := by
  obtain ⟨w1, w2⟩ := WF_lg h.w
  have t5 : sT σ 215 = 105 := h.s.2.2.1.1
  have n3 := hg.choose_spec.2.2.1
  have n3' : sI σ 215 0 = W 8 := n3
  rw [r_55]
  refine lp0 (F := fun k s => exec PP 2 55 4 [some (.ref 215), some (.int (nI a)), some (.int (nI s)), some (.int (nI k))] [] σ) (g := fun k s => if lgP W a k = true then s + 1 else s) (K := fun s => some (.inl (some (.int (nI s))), σ)) (n := lgN W) ?_ ?_ (lgN W) 0 0 (by omega)
  · intro k s hk
    try dsimp only
    rw [e_55_4, gI_r t5, n3', w1, if_pos (nI_lt hk (by omega)), if_pos t5, m_54 h hg rfl (show (2 : Int32) = nI 2 from rfl) hk (by omega), onI_i]
    unfold lgP
    by_cases c : W (123 + 4 * k + 2) = nI a
    · rw [if_pos c, if_pos (by simp [c]), nI_1, nI_1]
    · rw [if_neg c, e_55_25, if_neg (by simp [c]), nI_1]
  · intro s
    try dsimp only
    rw [e_55_4, gI_r t5, n3', w1, if_neg (nI_nlt (Nat.le_refl _) (by omega)), e_55_31]
theorem m_53 (h : QQ σ W L) (hg : LG σ 211 W) {a : Nat} : rn 53 [.ref 215, .int (nI a)] σ = some (.inl (some (.int (ledM W a))), σ) := by
  obtain ⟨w1, w2⟩ := WF_lg h.w
  have t5 : sT σ 215 = 105 := h.s.2.2.1.1
  have n3' : sI σ 215 0 = W 8 := hg.choose_spec.2.2.1
  rw [r_53]
  have key := lpE (F := fun k => exec PP 2 53 2 [some (.ref 215), some (.int (nI a)), some (.int (nI k))] [] σ) (p := lgP W a) (R := fun k => if k < lgN W then some (.inl (some (.int (W (123 + 4 * k + 0)))), σ) else none) (K := some (.inl (some (.int (-1))), σ)) (n := lgN W) (by
    intro k hk
    try dsimp only
    rw [e_53_2, gI_r t5, n3', w1, if_pos (nI_lt hk (by omega)), if_pos t5, m_54 h hg rfl (show (2 : Int32) = nI 2 from rfl) hk (by omega), onI_i]
    unfold lgP
    by_cases c : W (123 + 4 * k + 2) = nI a
    · rw [if_pos c, if_pos t5, m_54 h hg rfl (show (0 : Int32) = nI 0 from rfl) hk (by omega), onI_i, if_pos (by simp [c]), if_pos hk]
    · rw [if_neg c, e_53_27, if_neg (by simp [c]), nI_1]) (by
    try dsimp only
    rw [e_53_2, gI_r t5, n3', w1, if_neg (nI_nlt (Nat.le_refl _) (by omega)), e_53_33]) (lgN W) 0 (by omega)
  refine key.trans ?_
  unfold ledM
  cases e : fi (lgP W a) 0 (lgN W) with
  | none => rfl
  | some k =>
    have := (fi_some _ _ _ e).2.2.1
    try dsimp only
    rw [if_pos (by omega)]
theorem m_313 (h : QQ σ W L) {x2 : Int32} {k col : Nat} (e2 : x2 = nI col) (hk : k < 60) (hc : col < 4) : rn 313 [.ref 611, .int (nI k), .int x2] σ = some (.inl (some (.int (W (123 + 4 * k + col)))), σ) := by
  subst e2
  rw [r_313, gw h, show (123 + 4 * nI k + nI col : Int32) = nI (123 + 4 * k + col) from ix_3 123 4 k col, aw h (by omega)]
theorem aw8 (h : QQ σ W L) (k : Int32 → SR) : aI σ 1 (.ref 612) 8 k = k (nI (lgN W)) := (aw h (j := 8) (by decide) k).trans (by rw [(WF_lg h.w).1])
theorem m_312' (h : QQ σ W L) {a : Nat} {mu : Int32} (o3 o4 o5 : Option Value) : exec PP 3 312 19 [some (.ref 611), some (.int (nI a)), some (.int mu), o3, o4, o5] [] σ = some (.inl (some (.int (if mu = 0 then nI (cnt (lgP W a) (lgN W)) else ledM W a))), σ) := by
  obtain ⟨w1, w2⟩ := WF_lg h.w
  have key : ∀ k c (l : Int32), k ≤ 60 → exec PP 3 312 35 [some (.ref 611), some (.int (nI a)), some (.int mu), some (.int (nI c)), some (.int l), some (.int (nI k - 1))] [] σ = some (.inl (some (.int (if mu = 0 then nI (c + cnt (lgP W a) k) else (match fi (lgP W a) 0 k with
      | some q => W (123 + 4 * q + 0)
      | none => l)))), σ) := by
    intro k
    induction k with
    | zero =>
      intro c l _
      rw [e_312_35, if_pos (by decide), e_312_72]
      by_cases z : mu = 0
      · rw [if_pos z, if_pos z, e_312_81]; rfl
      · rw [if_neg z, if_neg z, e_312_82]; rfl
    | succ k ih =>
      intro c l hk
      have hm : nI (k + 1) - 1 = nI k := nI_pred k
      have hm2 : nI k + -1 = nI k - 1 := by rw [Int32.sub_eq_add_neg]
      rw [e_312_35, hm, if_neg (nI_pos (by omega)), if_pos h.tM, m_313 h (show (2 : Int32) = nI 2 from rfl) (by omega) (by omega), onI_i, fi_last, Nat.zero_add, cnt_s]
      have pe : lgP W a k = decide (W (123 + 4 * k + 2) = nI a) := rfl
      by_cases q : W (123 + 4 * k + 2) = nI a
      · rw [if_pos q, e_312_54, if_pos h.tM, m_313 h (show (0 : Int32) = nI 0 from rfl) (by omega) (by omega), onI_i, nI_1, hm2, ih (c + 1) _ (by omega), pe, decide_eq_true q, if_pos rfl, if_pos rfl]
        rw [show c + 1 + cnt (lgP W a) k = c + (cnt (lgP W a) k + 1) by omega]
        cases fi (lgP W a) 0 k <;> rfl
      · rw [if_neg q, e_312_66, hm2, ih c l (by omega), pe, decide_eq_false q, if_neg (show ¬ (false = true) by decide), if_neg (show ¬ (false = true) by decide)]
        cases fi (lgP W a) 0 k <;> rfl
  rw [e_312_19, gw h, aw8 h]
  refine (key (lgN W) 0 (-1) w2).trans ?_
  rw [Nat.zero_add]
  rfl
/-- a row of the log, or none -/
def logN (W : WW) (x : Int32) (col : Nat) : Int32 := if 0 ≤ x.toInt ∧ x.toInt < lgN W then W (123 + 4 * x.toInt.toNat + col) else -1
theorem m_54' (h : QQ σ W L) (hg : LG σ 211 W) {x1 x2 : Int32} {col : Nat} (e2 : x2 = nI col) (hc : col < 4) : rn 54 [.ref 215, .int x1, .int x2] σ = some (.inl (some (.int (logN W x1 col))), σ) := by
  unfold logN
  by_cases c : 0 ≤ x1.toInt ∧ x1.toInt < lgN W
  · rw [if_pos c, m_54 h hg (ago := x1.toInt.toNat) (nI_nI c.1) e2 (by omega) hc]
  · rw [if_neg c, m_54n h hg c]
theorem m_314' (h : QQ σ W L) {x1 x2 : Int32} {col : Nat} (e2 : x2 = nI col) (hc : col < 4) : exec PP 2 314 29 [some (.ref 611), some (.int x1), some (.int x2)] [] σ = some (.inl (some (.int (logN W x1 col))), σ) := by
  obtain ⟨w1, w2⟩ := WF_lg h.w
  have z0 : (0 : Int32).toInt = 0 := by decide
  have z1 : (1 : Int32).toInt = 1 := by decide
  have zl : (nI (lgN W)).toInt = lgN W := tnI (by omega)
  have e1 : (nI (lgN W) - 1).toInt = lgN W - 1 := by rw [tS] <;> rw [zl, z1] <;> omega
  rw [e_314_29, gw h, aw8 h, m_220, onI_i, iB, z0, e1]
  unfold logN
  by_cases c : 0 ≤ x1.toInt ∧ x1.toInt < lgN W
  · have h3 := m_313 h (k := x1.toInt.toNat) e2 (by omega) hc
    rw [← nI_nI c.1] at h3
    rw [if_neg (by rw [decide_eq_true (by omega)]; decide), if_pos h.tM, h3, onI_i, e_314_56, if_pos c]
  · rw [if_pos (decide_eq_false (by omega)), e_314_55, if_neg c]
end QM
