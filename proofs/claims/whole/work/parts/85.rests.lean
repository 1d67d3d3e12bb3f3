/-! two brokers who would not turn -/
def shN (W L : WW) (w a b x y : Nat) : Int32 := (if x = y then hpN W (if x = 0 then a else b) / 2 else hpN W (if x = 0 then a else b)) - cost W L w (if x = 0 then a else b)
def reC (W L : WW) (w v a b x y : Nat) : Bool := !decide (shN W L w a b x y < shN W L w a b (1 - x) y) && !decide (shN W L v a b y x < shN W L v a b (1 - y) x)
def rsN (W L : WW) (w v a b : Nat) : Int32 := bs (fun c => reC W L w v a b (c / 2) (c % 2)) 4
theorem ix_2 (q x : Nat) : (2 : Int32) * nI q + nI x = nI (2 * q + x) := by
  show nI 2 * nI q + nI x = _
  rw [pk_mul, nI_add]
theorem i_1m {x : Nat} (h : x ≤ 1) : (1 : Int32) - nI x = nI (1 - x) := pk_sub (a := 1) h
theorem nI_0' {x : Nat} (h : x < 2147483648) : nI x = 0 ↔ x = 0 := nI_eq (b := 0) h (by decide)
section QG
variable {σ : SH} {W L : WW}
theorem w295 (h : ShX σ) {j : Nat} (hj : j < 2) (x : Int32) (k : SH → SR) : uI σ (.ref 295) (nI j) x k = k (wI σ 295 j x) := uI_r h.2.2.2.2.2.2.1.2.2.1 (by rw [h.2.2.2.2.2.2.1.2.2.2.2.2.2.2.2.1]; exact hj) (by rw [h.2.2.2.2.2.2.1.2.2.2.2.2.2.2.2.1]; decide)
theorem w296 (h : ShX σ) {j : Nat} (hj : j < 4) (x : Int32) (k : SH → SR) : uI σ (.ref 296) (nI j) x k = k (wI σ 296 j x) := uI_r h.2.2.2.2.2.2.1.2.2.2.1 (by rw [h.2.2.2.2.2.2.1.2.2.2.2.2.2.2.2.2.1]; exact hj) (by rw [h.2.2.2.2.2.2.1.2.2.2.2.2.2.2.2.2.1]; decide)
theorem a295 (h : ShX σ) {j : Nat} (hj : j < 2) (k : Int32 → SR) : aI σ 1 (.ref 295) (nI j) k = k (sI σ 295 j) := aI_r h.2.2.2.2.2.2.1.2.2.1 (by rw [h.2.2.2.2.2.2.1.2.2.2.2.2.2.2.2.1]; exact hj) (by rw [h.2.2.2.2.2.2.1.2.2.2.2.2.2.2.2.1]; decide)
theorem a296 (h : ShX σ) {j : Nat} (hj : j < 4) (k : Int32 → SR) : aI σ 1 (.ref 296) (nI j) k = k (sI σ 296 j) := aI_r h.2.2.2.2.2.2.1.2.2.2.1 (by rw [h.2.2.2.2.2.2.1.2.2.2.2.2.2.2.2.2.1]; exact hj) (by rw [h.2.2.2.2.2.2.1.2.2.2.2.2.2.2.2.2.1]; decide)
theorem m_74 (h : QQ σ W L) {w v a b : Nat} (hH : ∀ i, i < 2 → sI σ 295 i = hpN W (if i = 0 then a else b)) (hP : ∀ q i, q < 2 → i < 2 → sI σ 296 (2 * q + i) = cost W L (if q = 0 then w else v) (if i = 0 then a else b)) {q x y : Nat} (hq : q < 2) (hx : x < 2) (hy : y < 2) : rn 74 [.ref 292, .int (nI q), .int (nI x), .int (nI y)] σ = some (.inl (some (.int (shN W L (if q = 0 then w else v) a b x y))), σ) := by
  rw [r_74]
  unfold shN
  by_cases c : x = y
  · rw [if_pos (by rw [c]), mk4 h.x, a295 h.x hx, e_74_22, mk5 h.x, ix_2, a296 h.x (by omega), hH x hx, hP q x hq hx, if_pos c]
  · rw [if_neg (fun z => c ((nI_eq (by omega) (by omega)).mp z)), e_74_16, mk4 h.x, a295 h.x hx, mk5 h.x, ix_2, a296 h.x (by omega), hH x hx, hP q x hq hx, if_neg c]
theorem m_73 (h : QQ σ W L) {w v a b : Nat} (hH : ∀ i, i < 2 → sI σ 295 i = hpN W (if i = 0 then a else b)) (hP : ∀ q i, q < 2 → i < 2 → sI σ 296 (2 * q + i) = cost W L (if q = 0 then w else v) (if i = 0 then a else b)) {q x y : Nat} (hq : q < 2) (hx : x < 2) (hy : y < 2) : rn 73 [.ref 292, .int (nI q), .int (nI x), .int (nI y)] σ = some (.inl (some (.int (bI (!decide (shN W L (if q = 0 then w else v) a b x y < shN W L (if q = 0 then w else v) a b (1 - x) y))))), σ) := by
  rw [r_73, if_pos (tMk h.x), m_74 h hH hP hq hx hy, onI_i, if_pos (tMk h.x), i_1m (by omega), m_74 h hH hP hq (by omega) hy, onI_i]
  by_cases c : shN W L (if q = 0 then w else v) a b x y < shN W L (if q = 0 then w else v) a b (1 - x) y
  · rw [if_pos c, e_73_23, decide_eq_true c]; rfl
  · rw [if_neg c, e_73_24, decide_eq_false c]; rfl
theorem div2 {c : Nat} (h : c < 100) : nI c / 2 = nI (c / 2) := pk_div (d := 2) (by omega) (by decide) (by decide)
theorem irm2 {c : Nat} (h : c < 2147483648) : irm (nI c) 2 = nI (c % 2) := pk_rem (d := 2) h (by decide) (by decide)
theorem m_72 (h : QQ σ W L) {w v a b : Nat} (ha : a < nD W) (hb : b < nD W) : ∃ σ', rn 72 [.ref 292, .int (nI w), .int (nI v), .int (nI a), .int (nI b)] σ = some (.inl (some (.int (rsN W L w v a b))), σ') ∧ Kp (Scr σ) σ σ' := by
  have k1 : Kp (Scr σ) σ (wI σ 295 0 (hpN W a)) := Kp.w (by unfold Scr; omega)
  have h1 := h.k k1
  have k2 : Kp (Scr σ) σ (wI (wI σ 295 0 (hpN W a)) 295 1 (hpN W b)) := k1.wr (by unfold Scr; omega)
  have h2 := h.k k2
  have f2a : sI (wI (wI σ 295 0 (hpN W a)) 295 1 (hpN W b)) 295 0 = hpN W a := by rw [sI_wIn (by omega), sI_wIs]
  have f2b : sI (wI (wI σ 295 0 (hpN W a)) 295 1 (hpN W b)) 295 1 = hpN W b := sI_wIs _ _ _ _
  obtain ⟨σ3, p3, q3⟩ := q14 h2 (b := w) ha
  have h3 := h2.j q3
  have k4 : Kp (Scr σ) σ (wI σ3 296 0 (cost W L w a)) := (k2.sc (q3.mono Jr_scr)).wr (by unfold Scr; omega)
  have h4 := h.k k4
  obtain ⟨σ5, p5, q5⟩ := q14 h4 (b := w) hb
  have h5 := h4.j q5
  have k6 : Kp (Scr σ) σ (wI σ5 296 1 (cost W L w b)) := (k4.sc (q5.mono Jr_scr)).wr (by unfold Scr; omega)
  have h6 := h.k k6
  obtain ⟨σ7, p7, q7⟩ := q14 h6 (b := v) ha
  have h7 := h6.j q7
  have k8 : Kp (Scr σ) σ (wI σ7 296 2 (cost W L v a)) := (k6.sc (q7.mono Jr_scr)).wr (by unfold Scr; omega)
  have h8 := h.k k8
  obtain ⟨σ9, p9, q9'⟩ := q14 h8 (b := v) hb
  have h9 := h8.j q9'
  have k10 : Kp (Scr σ) σ (wI σ9 296 3 (cost W L v b)) := (k8.sc (q9'.mono Jr_scr)).wr (by unfold Scr; omega)
  have h10 := h.k k10
  have nj : ∀ {τ τ' : SH}, Kp (Jr τ) τ τ' → ∀ c k, c = 295 ∨ c = 296 → sI τ' c k = sI τ c k := fun kk c k hc => kk.2 c k (fun z => by unfold Jr at z; omega)
  have hH : ∀ i, i < 2 → sI (wI σ9 296 3 (cost W L v b)) 295 i = hpN W (if i = 0 then a else b) := fun i hi => by
    rw [sI_wIn (by omega), nj q9' 295 i (by omega), sI_wIn (by omega), nj q7 295 i (by omega), sI_wIn (by omega), nj q5 295 i (by omega), sI_wIn (by omega), nj q3 295 i (by omega)]
    rcases (by omega : i = 0 ∨ i = 1) with e | e <;> subst e
    · exact f2a
    · exact f2b
  have hP : ∀ q i, q < 2 → i < 2 → sI (wI σ9 296 3 (cost W L v b)) 296 (2 * q + i) = cost W L (if q = 0 then w else v) (if i = 0 then a else b) := fun q i hq hi => by
    rcases (by omega : (q = 0 ∧ i = 0) ∨ (q = 0 ∧ i = 1) ∨ (q = 1 ∧ i = 0) ∨ (q = 1 ∧ i = 1)) with ⟨e1, e2⟩ | ⟨e1, e2⟩ | ⟨e1, e2⟩ | ⟨e1, e2⟩ <;> subst e1 <;> subst e2
    · rw [sI_wIn (by omega), nj q9' _ _ (by omega), sI_wIn (by omega), nj q7 _ _ (by omega), sI_wIn (by omega), nj q5 _ _ (by omega)]; exact sI_wIs _ _ _ _
    · rw [sI_wIn (by omega), nj q9' _ _ (by omega), sI_wIn (by omega), nj q7 _ _ (by omega)]; exact sI_wIs _ _ _ _
    · rw [sI_wIn (by omega), nj q9' _ _ (by omega)]; exact sI_wIs _ _ _ _
    · exact sI_wIs _ _ _ _
  refine ⟨wI σ9 296 3 (cost W L v b), ?_, k10⟩
  have u0 : ∀ (τ : SH), ShX τ → ∀ (x : Int32) (k : SH → SR), uI τ (.ref 295) 0 x k = k (wI τ 295 0 x) := fun τ ht x k => w295 ht (j := 0) (by decide) x k
  have u1 : ∀ (τ : SH), ShX τ → ∀ (x : Int32) (k : SH → SR), uI τ (.ref 295) 1 x k = k (wI τ 295 1 x) := fun τ ht x k => w295 ht (j := 1) (by decide) x k
  have v0 : ∀ (τ : SH), ShX τ → ∀ (x : Int32) (k : SH → SR), uI τ (.ref 296) 0 x k = k (wI τ 296 0 x) := fun τ ht x k => w296 ht (j := 0) (by decide) x k
  have v1 : ∀ (τ : SH), ShX τ → ∀ (x : Int32) (k : SH → SR), uI τ (.ref 296) 1 x k = k (wI τ 296 1 x) := fun τ ht x k => w296 ht (j := 1) (by decide) x k
  have v2 : ∀ (τ : SH), ShX τ → ∀ (x : Int32) (k : SH → SR), uI τ (.ref 296) 2 x k = k (wI τ 296 2 x) := fun τ ht x k => w296 ht (j := 2) (by decide) x k
  have v3 : ∀ (τ : SH), ShX τ → ∀ (x : Int32) (k : SH → SR), uI τ (.ref 296) 3 x k = k (wI τ 296 3 x) := fun τ ht x k => w296 ht (j := 3) (by decide) x k
  rw [r_72, mk4 h.x, mk1 h.x, mk0 h.x, cs2 h, cD' h ha, if_pos (tFc h.x), m_35 h ha, onI_i, u0 _ h.x, mk4 h1.x, mk1 h1.x, mk0 h1.x, cs2 h1, cD' h1 hb, if_pos (tFc h1.x), m_35 h1 hb, onI_i, u1 _ h1.x, mk5 h2.x, mk0 h2.x, if_pos h2.tC, p3, onI_i, v0 _ h3.x, mk5 h4.x, mk0 h4.x, if_pos h4.tC, p5, onI_i, v1 _ h5.x, mk5 h6.x, mk0 h6.x, if_pos h6.tC, p7, onI_i, v2 _ h7.x, mk5 h8.x, mk0 h8.x, if_pos h8.tC, p9, onI_i, v3 _ h9.x]
  generalize wI σ9 296 3 (cost W L v b) = τ at h10 hH hP ⊢
  have key := lp0 (F := fun c s => exec PP 5 72 113 [some (.ref 292), (if c = 0 then some (.int (nI w)) else none), (if c = 0 then some (.int (nI v)) else none), (if c = 0 then some (.int (nI a)) else none), (if c = 0 then some (.int (nI b)) else none), some (.int s), some (.int (nI c)), none, none] [] τ) (g := bsg (fun c => reC W L w v a b (c / 2) (c % 2))) (K := fun s => some (.inl (some (.int s)), τ)) (n := 4) (by
    intro c s hc
    have hn1 : ¬ c + 1 = 0 := by omega
    simp only [if_neg hn1]
    rw [e_72_113, if_pos (nI_ltl hc (by decide)), if_pos (tMk h10.x), div2 (by omega), irm2 (by omega), show (0 : Int32) = nI 0 from rfl, m_73 h10 hH hP (q := 0) (by omega) (by omega) (by omega), onI_i, show nI 0 = (0 : Int32) from rfl, iB]
    have n0 : reC W L w v a b (c / 2) (c % 2) = false → bsg (fun c => reC W L w v a b (c / 2) (c % 2)) c s = s := fun z => if_neg (fun q => absurd (z.symm.trans q) (by decide))
    have n1 : reC W L w v a b (c / 2) (c % 2) = true → bsg (fun c => reC W L w v a b (c / 2) (c % 2)) c s = s ||| shl 1 (nI c) := fun z => if_pos z
    simp only [if_true]
    cases d1 : decide (shN W L w a b (c / 2) (c % 2) < shN W L w a b (1 - c / 2) (c % 2))
    · rw [if_neg (by decide), if_pos (tMk h10.x), show (1 : Int32) = nI 1 from rfl, m_73 h10 hH hP (q := 1) (by omega) (by omega) (by omega), onI_i, show nI 1 = (1 : Int32) from rfl, iB]
      simp only [Nat.one_ne_zero, if_false]
      cases d2 : decide (shN W L v a b (c % 2) (c / 2) < shN W L v a b (1 - c % 2) (c / 2))
      · rw [if_neg (by decide), n1 (by unfold reC; rw [d1, d2]; rfl), nI_1]
      · rw [if_pos (show (!true) = false from rfl), e_72_164, n0 (by unfold reC; rw [d1, d2]; rfl), nI_1]
    · rw [if_pos (show (!true) = false from rfl), e_72_164, n0 (by unfold reC; rw [d1]; rfl), nI_1]) (by
    intro s
    try dsimp only
    rw [e_72_113, if_neg (nI_nltl (Nat.le_refl 4) (by decide)), e_72_170]) 4 0 0 (by omega)
  exact key
theorem m_294 (h : QQ σ W L) {w x y d : Nat} (hw : w < 5) (hx : x < 2) (hy : y < 2) (hd : d < nD W) : ∃ σ', rn 294 [.ref 611, .int (nI w), .int (nI x), .int (nI y), .int (nI d)] σ = some (.inl (some (.int ((if x = y then hpN W d / 2 else hpN W d) - cost W L w d))), σ') ∧ Kp (Jr σ) σ σ' := by
  obtain ⟨σ', p, q⟩ := q264 h (b := w) hw hd
  refine ⟨σ', ?_, q⟩
  rw [r_294, if_pos h.tM, m_287 h hd, onI_i]
  by_cases c : x = y
  · rw [if_pos (by rw [c]), e_294_22, if_pos h.tM, p, onI_i, if_pos c]
  · rw [if_neg (fun z => c ((nI_eq (by omega) (by omega)).mp z)), e_294_20, if_pos h.tM, p, onI_i, if_neg c]
theorem sh_294 (h : QQ σ W L) {w a b x y d : Nat} (hw : w < 5) (hx : x < 2) (hy : y < 2) (ha : a < nD W) (hb : b < nD W) (hd : d = if x = 0 then a else b) : ∃ σ', rn 294 [.ref 611, .int (nI w), .int (nI x), .int (nI y), .int (nI d)] σ = some (.inl (some (.int (shN W L w a b x y))), σ') ∧ Kp (Jr σ) σ σ' := by
  obtain ⟨σ', p, q⟩ := m_294 h (w := w) hw hx hy (d := d) (by rw [hd]; split <;> assumption)
  refine ⟨σ', ?_, q⟩
  rw [p, hd]
  rfl
theorem m_293s (h : QQ σ W L) {w v a b x y : Nat} (hw : w < 5) (hv : v < 5) (ha : a < nD W) (hb : b < nD W) (hx : x < 2) (hy : y < 2) (s : Int32) (o8 o9 : Option Value) : ∃ σ', exec PP 10 293 92 [some (.ref 611), some (.int (nI w)), some (.int (nI v)), some (.int (nI a)), some (.int (nI b)), some (.int s), some (.int (nI x)), some (.int (nI y)), o8, o9] [] σ = exec PP 10 293 92 [some (.ref 611), some (.int (nI w)), some (.int (nI v)), some (.int (nI a)), some (.int (nI b)), some (.int (if reC W L w v a b x y = true then s ||| shl 1 (nI (2 * x + y)) else s)), some (.int (nI x)), some (.int (nI (y + 1))), none, none] [] σ' ∧ Kp (Jr σ) σ σ' := by
  have x0 := nI_0' (x := x) (by omega)
  have y0 := nI_0' (x := y) (by omega)
  -- the first broker's look at both
  have one : ∃ σ2, exec PP 10 293 92 [some (.ref 611), some (.int (nI w)), some (.int (nI v)), some (.int (nI a)), some (.int (nI b)), some (.int s), some (.int (nI x)), some (.int (nI y)), o8, o9] [] σ = (if nI y = 0 then exec PP 10 293 167 [some (.ref 611), some (.int (nI w)), some (.int (nI v)), some (.int (nI a)), some (.int (nI b)), some (.int s), some (.int (nI x)), some (.int (nI y)), some (.int (bI (!decide (shN W L w a b x y < shN W L w a b (1 - x) y)))), none] [.int (nI a), .int (nI x), .int (nI y), .int (nI v), .ref 611] σ2 else exec PP 10 293 165 [some (.ref 611), some (.int (nI w)), some (.int (nI v)), some (.int (nI a)), some (.int (nI b)), some (.int s), some (.int (nI x)), some (.int (nI y)), some (.int (bI (!decide (shN W L w a b x y < shN W L w a b (1 - x) y)))), none] [.int (nI x), .int (nI y), .int (nI v), .ref 611] σ2) ∧ Kp (Jr σ) σ σ2 := by
    obtain ⟨σ1, p1, q1⟩ := sh_294 h hw hx hy ha hb (d := if x = 0 then a else b) rfl
    have h1 := h.j q1
    obtain ⟨σ2, p2, q2⟩ := sh_294 h1 hw (x := 1 - x) (y := y) (by omega) hy ha hb (d := if x = 0 then b else a) (by
      rcases (by omega : x = 0 ∨ x = 1) with e | e <;> subst e <;> rfl)
    refine ⟨σ2, ?_, q1.js q2⟩
    rw [e_293_92, if_pos (nI_ltl hy (by decide))]
    have fin : ∀ X : SR, X = (if shN W L w a b x y < shN W L w a b (1 - x) y then (exec PP 10 293 147 [some (.ref 611), some (.int (nI w)), some (.int (nI v)), some (.int (nI a)), some (.int (nI b)), some (.int s), some (.int (nI x)), some (.int (nI y)), none, none] [] σ2) else (exec PP 10 293 148 [some (.ref 611), some (.int (nI w)), some (.int (nI v)), some (.int (nI a)), some (.int (nI b)), some (.int s), some (.int (nI x)), some (.int (nI y)), none, none] [.int 1] σ2)) → X = (if nI y = 0 then exec PP 10 293 167 [some (.ref 611), some (.int (nI w)), some (.int (nI v)), some (.int (nI a)), some (.int (nI b)), some (.int s), some (.int (nI x)), some (.int (nI y)), some (.int (bI (!decide (shN W L w a b x y < shN W L w a b (1 - x) y)))), none] [.int (nI a), .int (nI x), .int (nI y), .int (nI v), .ref 611] σ2 else exec PP 10 293 165 [some (.ref 611), some (.int (nI w)), some (.int (nI v)), some (.int (nI a)), some (.int (nI b)), some (.int s), some (.int (nI x)), some (.int (nI y)), some (.int (bI (!decide (shN W L w a b x y < shN W L w a b (1 - x) y)))), none] [.int (nI x), .int (nI y), .int (nI v), .ref 611] σ2) := fun X e => by
      rw [e]
      by_cases c : shN W L w a b x y < shN W L w a b (1 - x) y
      · rw [if_pos c, decide_eq_true c, e_293_147]; rfl
      · rw [if_neg c, decide_eq_false c, e_293_148]; rfl
    by_cases c : x = 0
    · rw [if_pos (x0.mpr c)]
      rw [if_pos c] at p1 p2
      rw [e_293_115, if_pos h.tM, p1, onI_i, if_pos (x0.mpr c), e_293_137, if_pos h1.tM, i_1m (by omega), p2, onI_i]
      exact fin _ rfl
    · rw [if_neg (fun z => c (x0.mp z))]
      rw [if_neg c] at p1 p2
      rw [e_293_113, if_pos h.tM, p1, onI_i, if_neg (fun z => c (x0.mp z)), e_293_136, if_pos h1.tM, i_1m (by omega), p2, onI_i]
      exact fin _ rfl
  obtain ⟨σ2, e2, k2⟩ := one
  have h2 := h.j k2
  obtain ⟨σ3, p3, q3⟩ := sh_294 h2 (w := v) hv (x := y) (y := x) hy hx ha hb (d := if y = 0 then a else b) rfl
  have h3 := h2.j q3
  obtain ⟨σ4, p4, q4⟩ := sh_294 h3 (w := v) hv (x := 1 - y) (y := x) (by omega) hx ha hb (d := if y = 0 then b else a) (by
      rcases (by omega : y = 0 ∨ y = 1) with e | e <;> subst e <;> rfl)
  refine ⟨σ4, e2.trans ?_, (k2.js q3).js q4⟩
  generalize hz : (!decide (shN W L w a b x y < shN W L w a b (1 - x) y)) = z
  have fin : ∀ X : SR, X = (if shN W L v a b y x < shN W L v a b (1 - y) x then (exec PP 10 293 199 [some (.ref 611), some (.int (nI w)), some (.int (nI v)), some (.int (nI a)), some (.int (nI b)), some (.int s), some (.int (nI x)), some (.int (nI y)), some (.int (bI z)), none] [] σ4) else (exec PP 10 293 200 [some (.ref 611), some (.int (nI w)), some (.int (nI v)), some (.int (nI a)), some (.int (nI b)), some (.int s), some (.int (nI x)), some (.int (nI y)), some (.int (bI z)), none] [.int 1] σ4)) → X = exec PP 10 293 92 [some (.ref 611), some (.int (nI w)), some (.int (nI v)), some (.int (nI a)), some (.int (nI b)), some (.int (if reC W L w v a b x y = true then s ||| shl 1 (nI (2 * x + y)) else s)), some (.int (nI x)), some (.int (nI (y + 1))), none, none] [] σ4 := fun X e => by
    rw [e]
    unfold reC
    rw [hz]
    by_cases c : shN W L v a b y x < shN W L v a b (1 - y) x
    · rw [if_pos c, decide_eq_true c, e_293_199, if_neg (show ¬ (z && !true) = true by cases z <;> decide)]
      have : ∀ A B : SR, (if bI z = 0 then A else if (0 : Int32) = 0 then A else B) = A := fun A B => by
        split
        · rfl
        · exact if_pos rfl
      rw [this, e_293_226, nI_1, or_0]
    · rw [if_neg c, decide_eq_false c, e_293_200, iB]
      cases z
      · rw [if_pos rfl, e_293_226, nI_1, or_0]; rfl
      · rw [if_neg (by decide), if_neg (by decide), e_293_227, nI_1, ix_2]; rfl
  by_cases c : y = 0
  · rw [if_pos (y0.mpr c)]
    rw [if_pos c] at p3 p4
    rw [e_293_167, if_pos h2.tM, p3, onI_i, if_pos (y0.mpr c), e_293_189, if_pos h3.tM, i_1m (by omega), p4, onI_i]
    exact fin _ rfl
  · rw [if_neg (fun z => c (y0.mp z))]
    rw [if_neg c] at p3 p4
    rw [e_293_165, if_pos h2.tM, p3, onI_i, if_neg (fun z => c (y0.mp z)), e_293_188, if_pos h3.tM, i_1m (by omega), p4, onI_i]
    exact fin _ rfl
theorem m_293' (h : QQ σ W L) {w v a b : Nat} (hw : w < 5) (hv : v < 5) (ha : a < nD W) (hb : b < nD W) (o5 o6 o7 o8 o9 : Option Value) : ∃ σ', exec PP 10 293 77 [some (.ref 611), some (.int (nI w)), some (.int (nI v)), some (.int (nI a)), some (.int (nI b)), o5, o6, o7, o8, o9] [] σ = some (.inl (some (.int (rsN W L w v a b))), σ') ∧ Kp (Jr σ) σ σ' := by
  obtain ⟨σ1, e1, k1⟩ := m_293s h (x := 0) (y := 0) hw hv ha hb (by omega) (by omega) 0 none none
  have h1 := h.j k1
  generalize hs1 : (if reC W L w v a b 0 0 = true then (0 : Int32) ||| shl 1 (nI (2 * 0 + 0)) else 0) = s1 at e1
  obtain ⟨σ2, e2, k2⟩ := m_293s h1 (x := 0) (y := 1) hw hv ha hb (by omega) (by omega) s1 none none
  have h2 := h1.j k2
  generalize hs2 : (if reC W L w v a b 0 1 = true then s1 ||| shl 1 (nI (2 * 0 + 1)) else s1) = s2 at e2
  obtain ⟨σ3, e3, k3⟩ := m_293s h2 (x := 1) (y := 0) hw hv ha hb (by omega) (by omega) s2 none none
  have h3 := h2.j k3
  generalize hs3 : (if reC W L w v a b 1 0 = true then s2 ||| shl 1 (nI (2 * 1 + 0)) else s2) = s3 at e3
  obtain ⟨σ4, e4, k4⟩ := m_293s h3 (x := 1) (y := 1) hw hv ha hb (by omega) (by omega) s3 none none
  generalize hs4 : (if reC W L w v a b 1 1 = true then s3 ||| shl 1 (nI (2 * 1 + 1)) else s3) = s4 at e4
  refine ⟨σ4, ?_, ((k1.js k2).js k3).js k4⟩
  have r4 : rsN W L w v a b = s4 := by
    rw [← hs4, ← hs3, ← hs2, ← hs1]
    rfl
  have z0 : nI 0 = 0 := rfl
  have z1 : nI (0 + 1) = 1 := rfl
  rw [e_293_77, e_293_83, if_pos (by decide)]
  refine (e1.trans (e2.trans ?_))
  rw [e_293_92, if_neg (by decide), e_293_236, e_293_83, if_pos (by decide)]
  refine (e3.trans (e4.trans ?_))
  rw [e_293_92, if_neg (by decide), e_293_236, e_293_83, if_neg (by decide), e_293_242, r4]
end QG
