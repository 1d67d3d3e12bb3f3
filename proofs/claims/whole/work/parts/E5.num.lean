/-! numbers in the reference -/
theorem fo_lst {α : Type} (g : Nat → α → α) : ∀ (k i : Nat) (a : α), fo g i (k + 1) a = g (i + k) (fo g i k a)
  | 0, _, _ => rfl
  | k + 1, i, a => by
    show fo g (i + 1) (k + 1) (g i a) = g (i + (k + 1)) (fo g (i + 1) k (g i a))
    rw [fo_lst g k (i + 1) (g i a), show i + 1 + k = i + (k + 1) by omega]
theorem vlF_s (B : Nat → Nat) (b s : Nat) : vlF B b (s + 1) = 10 * vlF B b s + B (b + s) - 48 := by
  unfold vlF
  rw [fo_lst, Nat.zero_add]
section E5
variable {σ : SH} {t : TXT} {W : WW} {p b st dp k : Nat}
theorem m_196' (h : TkR σ t) (hk : k < tkN t) (hd : kdN (t.1 (tkE t k)) = 2) (lo hi : Int32) : ∀ m j, j + m = tkS t k → exec PP 3 196 6 [some (.ref 611), some (.int lo), some (.int hi), some (.int (nI (vlF t.1 (tkE t k) (min j 3))))] [] (Rst σ W (tkE t k + j) (tkE t k) st dp) = exec PP 3 196 65 [some (.ref 611), some (.int lo), some (.int hi), some (.int (nI (vlF t.1 (tkE t k) (min (tkS t k) 3))))] [] (Rst σ W (tkE t k + tkS t k) (tkE t k) st dp)
  | 0, j, hj => by
    have : j = tkS t k := by omega
    subst this
    obtain ⟨⟨a1, a2, a3⟩, a4, a5, a6, a7, a8⟩ := h.2.1.k hk
    rw [e_196_6, if_pos (Rst_tt h), show (.int 48 : Value) = .int (nI 48) from rfl, show (.int 57 : Value) = .int (nI 57) from rfl, m_189 h (by omega) (by omega) (by omega), onI_i, iB, decide_eq_false (fun z => by
      have := a8 z.1
      rw [hd, kd2.mpr z.2] at this
      omega), if_pos rfl]
  | m + 1, j, hj => by
    obtain ⟨⟨a1, a2, a3⟩, a4, a5, a6, a7, a8⟩ := h.2.1.k hk
    have hT := h.2.1.2.1
    have d := kd2.mp ((a6 (tkE t k + j) (by omega) (by omega)).trans hd)
    have hB := h.2.1.2.2 (tkE t k + j) (by omega)
    have tt : sT (Rst σ W (tkE t k + j) (tkE t k) st dp) 611 = 112 := Rst_tt h
    have ih := m_196' h hk hd lo hi m (j + 1) (by omega)
    rw [e_196_6, if_pos tt, show (.int 48 : Value) = .int (nI 48) from rfl, show (.int 57 : Value) = .int (nI 57) from rfl, m_189 h (by omega) (by omega) (by omega), onI_i, iB, decide_eq_true (by omega), if_neg (by decide), gI_r tt, Rst_10, gI_r tt, Rst_12, nI_sub (by omega), show tkE t k + j - tkE t k = j by omega]
    by_cases c : j < 3
    · rw [if_pos (nI_ltl (n := 3) c (by decide)), gR_r tt (show sV (Rst σ W (tkE t k + j) (tkE t k) st dp) 611 8 = .ref 617 from h.1.1.2.2.2.2.2.2.1), gI_r tt, Rst_10, aI_r (show sT (Rst σ W (tkE t k + j) (tkE t k) st dp) 617 = 2 from h.1.2.1.2.2.2.2.2.1) (by rw [show sN (Rst σ W (tkE t k + j) (tkE t k) st dp) 617 = 400 from h.1.2.2.2.2.2.2.2.1]; omega) (by rw [show sN (Rst σ W (tkE t k + j) (tkE t k) st dp) 617 = 400 from h.1.2.2.2.2.2.2.2.1]; decide), Rst_617, h.2.2.2.2 _ (by omega), sb_nI (by omega), show (10 : Int32) = nI 10 from rfl, pk_mul, nI_add, show (48 : Int32) = nI 48 from rfl, nI_sub (by omega), e_196_51, gI_r tt, Rst_10, nI_1, pI_r tt, Rst_p]
      rw [show min (j + 1) 3 = j + 1 by omega, vlF_s] at ih
      rw [show min j 3 = j by omega]
      exact ih
    · rw [if_neg (nI_nltl (n := 3) (by omega) (by omega)), e_196_50, gI_r tt, Rst_10, nI_1, pI_r tt, Rst_p]
      rw [show min (j + 1) 3 = 3 by omega] at ih
      rw [show min j 3 = 3 by omega]
      exact ih
theorem m_196d (h : TkR σ t) (ha : tAt t k p) (hk : k < tkN t) (hd : kdN (t.1 (tkE t k)) = 2) (lo hi : Int32) : rn 196 [.ref 611, .int lo, .int hi] (Rst σ W p b st dp) = exec PP 3 196 65 [some (.ref 611), some (.int lo), some (.int hi), some (.int (nI (vlF t.1 (tkE t k) (min (tkS t k) 3))))] [] (Rst σ W (tkE t k + tkS t k) (tkE t k) st dp) := by
  rw [r_196, if_pos (Rst_tt h), m_188 h ha, onV_i]
  exact m_196' h hk hd lo hi (tkS t k) 0 (by omega)
theorem m_196y (h : TkR σ t) (ha : tAt t k p) {lo hi : Nat} (e : tkG t k = 35) (h1 : lo ≤ tkV t k) (h2 : tkV t k ≤ hi) (hh : hi < 2147483648) : rn 196 [.ref 611, .int (nI lo), .int (nI hi)] (Rst σ W p b st dp) = some (.inl (some (.int (nI (tkV t k)))), Rst σ W (tkE t k + tkS t k) (tkE t k) st dp) := by
  obtain ⟨hk, hs, hd, hv⟩ := h.2.1.num e
  obtain ⟨⟨a1, a2, a3⟩, -⟩ := h.2.1.k hk
  have hT := h.2.1.2.1
  have tt : sT (Rst σ W (tkE t k + tkS t k) (tkE t k) st dp) 611 = 112 := Rst_tt h
  rw [m_196d h ha hk (kd2.mpr (hd _ (by omega) (by omega))), show min (tkS t k) 3 = tkS t k by omega]
  show exec PP 3 196 65 [some (.ref 611), some (.int (nI lo)), some (.int (nI hi)), some (.int (nI (tkV t k)))] [] _ = _
  rw [e_196_65, gI_r tt, gI_r tt, Rst_10, Rst_12, if_neg (fun z => by have := (nI_eq (by omega) (by omega)).mp z; omega), gI_r tt, gI_r tt, Rst_10, Rst_12, nI_sub (by omega), show tkE t k + tkS t k - tkE t k = tkS t k by omega, if_neg (l_nlt (n := 3) hs (by decide)), if_neg (nI_nlt h1 (by omega)), if_neg (nI_nlt h2 (by omega)), e_196_103]
theorem m_196n (h : TkR σ t) (ha : tAt t k p) {lo hi : Nat} (hl : lo < 2147483648) (e : ¬ (tkG t k = 35 ∧ lo ≤ tkV t k ∧ tkV t k ≤ hi)) : ∃ q, rn 196 [.ref 611, .int (nI lo), .int (nI hi)] (Rst σ W p b st dp) = some (.inl (some (.int (-1))), Rst σ W q (tkE t k) st dp) := by
  have hT := h.2.1.2.1
  have le := h.2.1.le ha.1
  by_cases c : k < tkN t ∧ kdN (t.1 (tkE t k)) = 2
  · obtain ⟨⟨a1, a2, a3⟩, -⟩ := h.2.1.k c.1
    have tt : sT (Rst σ W (tkE t k + tkS t k) (tkE t k) st dp) 611 = 112 := Rst_tt h
    refine ⟨tkE t k + tkS t k, ?_⟩
    rw [m_196d h ha c.1 c.2, e_196_65, gI_r tt, gI_r tt, Rst_10, Rst_12, if_neg (fun z => by have := (nI_eq (by omega) (by omega)).mp z; omega), gI_r tt, gI_r tt, Rst_10, Rst_12, nI_sub (by omega), show tkE t k + tkS t k - tkE t k = tkS t k by omega]
    by_cases s3 : tkS t k ≤ 3
    · have g : tkG t k = 35 := by rw [tkG_lt c.1]; exact (sgN_35 a1).mpr ⟨c.2, s3⟩
      have hv := (h.2.1.num g).2.2.2
      rw [if_neg (l_nlt (n := 3) s3 (by decide)), show min (tkS t k) 3 = tkS t k by omega]
      show (if (nI (tkV t k) < nI lo : Prop) then _ else (if (nI hi < nI (tkV t k) : Prop) then _ else _)) = _
      by_cases l : lo ≤ tkV t k
      · rw [if_neg (nI_nlt l (by omega)), if_pos (nI_lt (by omega) (by omega)), e_196_104]
      · rw [if_pos (nI_lt (by omega) (by omega)), e_196_99, e_196_104]
    · rw [if_pos (l_lt (n := 3) (by omega) (by omega)), e_196_99, e_196_104]
  · have tt : sT (Rst σ W (tkE t k) (tkE t k) st dp) 611 = 112 := Rst_tt h
    refine ⟨tkE t k, ?_⟩
    rw [r_196, if_pos (Rst_tt h), m_188 h ha, onV_i, e_196_6, if_pos tt, show (.int 48 : Value) = .int (nI 48) from rfl, show (.int 57 : Value) = .int (nI 57) from rfl, m_189 h le (by omega) (by omega), onI_i, iB, decide_eq_false (fun z => c ⟨by
      rcases Nat.lt_or_ge k (tkN t) with y | y
      · exact y
      · have := tkE_ge (t := t) y; omega, kd2.mpr z.2⟩), if_pos rfl, e_196_65, gI_r tt, gI_r tt, Rst_10, Rst_12, if_pos rfl, e_196_99, e_196_104]
/-- a number behind a word -/
theorem m_198y (h : TkR σ t) (ha : tAt t k p) {j : Nat} (hj : j < 29) (e0 : tkG t k = rsgN j) {lo hi : Nat} (e : tkG t (k + 1) = 35) (h1 : lo ≤ tkV t (k + 1)) (h2 : tkV t (k + 1) ≤ hi) (hh : hi < 2147483648) : rn 198 [.ref 611, .ref (120 + j), .int (nI lo), .int (nI hi)] (Rst σ W p b st dp) = some (.inl (some (.int (nI (tkV t (k + 1))))), Rst σ W (tkE t (k + 1) + tkS t (k + 1)) (tkE t (k + 1)) st dp) := by
  obtain ⟨-, hk, el⟩ := m_199y (W := W) (b := b) (st := st) (dp := dp) h hj ha e0
  rw [r_198, if_pos (Rst_tt h), m_191 h ha, onV_i, if_pos (Rst_tt h), m_193 h hj ha.1, onI_i, iB, decide_eq_true e0, if_neg (by decide), if_pos (Rst_tt h), el, m_196y h (h.2.1.ats hk) e h1 h2 hh, onI_i, e_198_22]
theorem m_198n (h : TkR σ t) (ha : tAt t k p) {j : Nat} (hj : j < 29) (e0 : tkG t k = rsgN j) {lo hi : Nat} (hl : lo < 2147483648) (e : ¬ (tkG t (k + 1) = 35 ∧ lo ≤ tkV t (k + 1) ∧ tkV t (k + 1) ≤ hi)) : ∃ q, rn 198 [.ref 611, .ref (120 + j), .int (nI lo), .int (nI hi)] (Rst σ W p b st dp) = some (.inl (some (.int (-1))), Rst σ W q (tkE t (k + 1)) st dp) := by
  obtain ⟨-, hk, el⟩ := m_199y (W := W) (b := b) (st := st) (dp := dp) h hj ha e0
  obtain ⟨q, hq⟩ := m_196n (W := W) (b := tkE t k) (st := st) (dp := dp) h (h.2.1.ats hk) hl e
  refine ⟨q, ?_⟩
  rw [r_198, if_pos (Rst_tt h), m_191 h ha, onV_i, if_pos (Rst_tt h), m_193 h hj ha.1, onI_i, iB, decide_eq_true e0, if_neg (by decide), if_pos (Rst_tt h), el, hq, onI_i, e_198_22]
theorem m_198x (h : TkR σ t) (ha : tAt t k p) {j : Nat} (hj : j < 29) (e0 : tkG t k ≠ rsgN j) (lo hi : Int32) : rn 198 [.ref 611, .ref (120 + j), .int lo, .int hi] (Rst σ W p b st dp) = some (.inl (some (.int (-1))), Rst σ W (tkL t k) (tkE t k) st dp) := by
  rw [r_198, if_pos (Rst_tt h), m_191 h ha, onV_i, if_pos (Rst_tt h), m_193 h hj ha.1, onI_i, iB, decide_eq_false e0, if_pos rfl, e_198_21]
end E5
/-! THE COUNTY'S TEXT, read: where it ends or is wrong, and the world then -/
abbrev PR : Type := Nat × Option WW
def pN (t : TXT) (k lo hi : Nat) (c : Nat → PR) : PR := if tkG t k = 35 ∧ lo ≤ tkV t k ∧ tkV t k ≤ hi then c (tkV t k) else (k, none)
def pW (t : TXT) (k i : Nat) (c : PR) : PR := if tkG t k = i then c else (k, none)
def drP (t : TXT) (k : Nat) (c : Nat → Int32 → PR) : PR := if tkG t k = 8 then pN t (k + 1) 0 2 (fun d => c (k + 2) (nI d)) else if tkG t k = 9 then pN t (k + 1) 0 2 (fun d => c (k + 2) (-(nI d))) else c k 0
def chP (t : TXT) (k : Nat) (c : Nat → Nat → PR) : PR := if tkG t k = 10 then pN t (k + 1) 0 100 (fun v => c (k + 2) v) else c k 100
def seS (W : WW) (s a b f e : Nat) (d : Int32) (c : Nat) : WW := uW (uW (uW (uW (uW (uW (uW (uW W (10 + 7 * s + 0) (nI a)) (10 + 7 * s + 1) (nI b)) (10 + 7 * s + 2) (nI f)) (10 + 7 * s + 3) (nI e)) (10 + 7 * s + 4) d) (10 + 7 * s + 5) (nI c)) (10 + 7 * s + 6) 0) 0 (nI (s + 1))
def shP (t : TXT) (W : WW) (k : Nat) : PR := pN t (k + 1) 0 15 fun a => pW t (k + 2) 6 (pN t (k + 3) a 15 fun b => pW t (k + 4) 7 (pN t (k + 5) 0 999 fun f => pW t (k + 6) 6 (pN t (k + 7) f 999 fun e => drP t (k + 8) fun k1 d => chP t k1 fun k2 c => (k2, some (seS W (nS W) a b f e d c)))))
def seB (W : WW) (s a b c : Nat) : WW := uW (uW (uW (uW W (52 + 3 * s + 0) (nI a)) (52 + 3 * s + 1) (nI b)) (52 + 3 * s + 2) (nI c)) 1 (nI (s + 1))
def brP (t : TXT) (W : WW) (k : Nat) : PR := pN t (k + 1) 0 999 fun a => pW t (k + 2) 11 (pN t (k + 3) 0 15 fun b => pW t (k + 4) 12 (pN t (k + 5) 1 4 fun c => (k + 6, some (seB W (nB W) a b c))))
def seD (W : WW) (s a f e c : Nat) : WW := uW (uW (uW (uW (uW (uW (uW (uW W (67 + 7 * s + 1) (nI f)) (67 + 7 * s + 2) (nI e)) (67 + 7 * s + 0) (nI a)) (67 + 7 * s + 3) (nI c)) (67 + 7 * s + 4) (-1)) (67 + 7 * s + 5) 0) (67 + 7 * s + 6) 0) 2 (nI (s + 1))
def deP (t : TXT) (W : WW) (k : Nat) : PR := pN t (k + 1) 0 15 fun a => pW t (k + 2) 7 (pN t (k + 3) 0 999 fun f => pW t (k + 4) 6 (pN t (k + 5) f 999 fun e => pW t (k + 6) 13 (pN t (k + 7) 0 999 fun c => (k + 8, some (seD W (nD W) a f e c)))))
def lnP (t : TXT) (W : WW) (k : Nat) : PR := if tkG t k = 0 then (if nS W < 6 then shP t W k else (k, none)) else if tkG t k = 1 then (if nB W < 5 then brP t W k else (k, none)) else if tkG t k = 2 then (if nD W < 8 then deP t W k else (k, none)) else
  if tkG t k = 3 then pN t (k + 1) 0 15 (fun v => (k + 2, some (uW W 6 (nI v)))) else if tkG t k = 4 then pN t (k + 1) 0 99 (fun v => (k + 2, some (uW W 7 (nI v)))) else if tkG t k = 5 then pN t (k + 1) 0 999 (fun v => (k + 2, some (uW W 5 (nI v)))) else (k, none)
def ctL (t : TXT) : Nat → WW → Nat → PR
  | 0, _, k => (k, none)
  | m + 1, W, k => match lnP t W k with
    | (k', none) => (k', none)
    | (k', some W') => if tkG t k' = 37 then (k', some W') else pW t k' 34 (ctL t m W' (k' + 1))
def ctP (t : TXT) (W : WW) : PR := if tkG t 0 = 37 then (0, some W) else ctL t 14 W 0
