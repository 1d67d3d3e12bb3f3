/-! the reference reads a county -/
def RfR (σ : SH) (t : TXT) (st dp : Nat) (W : WW) (r : PR) (X : SR) : Prop := ∃ W' p b, X = some (.inl (some (.int (bI r.2.isSome))), Rst σ W' p b st dp) ∧ (∀ j, 363 ≤ j → W' j = W j) ∧ (r.2 = none → b = tkE t r.1) ∧ r.1 ≤ tkN t ∧ ∀ V, r.2 = some V → W' = V ∧ tAt t r.1 p
theorem ix_2m (a m s : Nat) : nI a + nI m * nI s = nI (a + m * s) := by rw [pk_mul, nI_add]
section F0
variable {σ : SH} {t : TXT} {W W0 : WW} {p b st dp k : Nat}
theorem h612 (h : TkR σ t) (c : Nat → SR) : gR (Rst σ W p b st dp) 112 1 (.ref 611) c = c 612 := gR_r (show sT (Rst σ W p b st dp) 611 = 112 from h.1.1.1) (show sV (Rst σ W p b st dp) 611 1 = .ref 612 from h.1.1.2.1)
theorem u612 (h : TkR σ t) {j : Nat} {v : Int32} (hj : j < 2061) (c : SH → SR) : uI (Rst σ W p b st dp) (.ref 612) (nI j) v c = c (Rst σ (uW W j v) p b st dp) := (uI_r (show sT (Rst σ W p b st dp) 612 = 1 from h.1.2.1.1) (by rw [show sN (Rst σ W p b st dp) 612 = 2061 from h.1.2.2.1]; exact hj) (by rw [show sN (Rst σ W p b st dp) 612 = 2061 from h.1.2.2.1]; decide)).trans (by rw [Rst_w])
theorem a612 (h : TkR σ t) {j : Nat} (hj : j < 2061) (c : Int32 → SR) : aI (Rst σ W p b st dp) 1 (.ref 612) (nI j) c = c (W j) := (aI_r (show sT (Rst σ W p b st dp) 612 = 1 from h.1.2.1.1) (by rw [show sN (Rst σ W p b st dp) 612 = 2061 from h.1.2.2.1]; exact hj) (by rw [show sN (Rst σ W p b st dp) 612 = 2061 from h.1.2.2.1]; decide)).trans (by rw [Rst_612])
theorem u612l (h : TkR σ t) {j : Nat} {v : Int32} (hj : j < 2061) (c : SH → SR) : uI (Rst σ W p b st dp) (.ref 612) (OfNat.ofNat j) v c = c (Rst σ (uW W j v) p b st dp) := u612 h hj c
theorem a612l (h : TkR σ t) {j : Nat} (hj : j < 2061) (c : Int32 → SR) : aI (Rst σ W p b st dp) 1 (.ref 612) (OfNat.ofNat j) c = c (W j) := a612 h hj c
theorem RfR.f {X : SR} {q : Nat} (hk : k ≤ tkN t) (hw : ∀ j, 363 ≤ j → W j = W0 j) (e : X = some (.inl (some (.int 0)), Rst σ W q (tkE t k) st dp)) : RfR σ t st dp W0 (k, none) X := ⟨W, q, tkE t k, e, hw, fun _ => rfl, hk, fun V z => by cases z⟩
theorem RfR.nm {c : Nat → PR} {F : Int32 → SH → SR} {kx : Nat → SH → SR} {lo hi : Nat} (h : TkR σ t) (ha : tAt t k p) (hl : lo < 2147483648) (hh : hi < 2147483648) (h0 : ∀ q, RfR σ t st dp W0 (k, none) (F (-1) (Rst σ W q (tkE t k) st dp))) (h1 : tkG t k = 35 → lo ≤ tkV t k → tkV t k ≤ hi → tAt t (k + 1) (tkE t k + tkS t k) → RfR σ t st dp W0 (c (tkV t k)) (F (nI (tkV t k)) (Rst σ W (tkE t k + tkS t k) (tkE t k) st dp))) : RfR σ t st dp W0 (pN t k lo hi c) (onI (rn 196 [.ref 611, .int (nI lo), .int (nI hi)] (Rst σ W p b st dp)) F kx) := by
  unfold pN
  by_cases e : tkG t k = 35 ∧ lo ≤ tkV t k ∧ tkV t k ≤ hi
  · rw [if_pos e, m_196y h ha e.1 e.2.1 e.2.2 hh, onI_i]
    exact h1 e.1 e.2.1 e.2.2 (h.2.1.ats (h.2.1.num e.1).1)
  · obtain ⟨q, hq⟩ := m_196n (W := W) (b := b) (st := st) (dp := dp) h ha hl e
    rw [if_neg e, hq, onI_i]
    exact h0 q
theorem RfR.af {c : Nat → PR} {F : Int32 → SH → SR} {kx : Nat → SH → SR} {j i lo hi : Nat} (h : TkR σ t) (ha : tAt t k p) (hj : j < 29) (hi' : rsgN j = i) (hl : lo < 2147483648) (hh : hi < 2147483648) (h0 : ∀ k' q, k' ≤ tkN t → RfR σ t st dp W0 (k', none) (F (-1) (Rst σ W q (tkE t k') st dp))) (h1 : tkG t (k + 1) = 35 → lo ≤ tkV t (k + 1) → tkV t (k + 1) ≤ hi → tAt t (k + 2) (tkE t (k + 1) + tkS t (k + 1)) → RfR σ t st dp W0 (c (tkV t (k + 1))) (F (nI (tkV t (k + 1))) (Rst σ W (tkE t (k + 1) + tkS t (k + 1)) (tkE t (k + 1)) st dp))) : RfR σ t st dp W0 (pW t k i (pN t (k + 1) lo hi c)) (onI (rn 198 [.ref 611, .ref (120 + j), .int (nI lo), .int (nI hi)] (Rst σ W p b st dp)) F kx) := by
  subst hi'
  unfold pW pN
  by_cases e0 : tkG t k = rsgN j
  · rw [if_pos e0]
    obtain ⟨-, hk, -⟩ := m_199y (W := W) (b := b) (st := st) (dp := dp) h hj ha e0
    by_cases e : tkG t (k + 1) = 35 ∧ lo ≤ tkV t (k + 1) ∧ tkV t (k + 1) ≤ hi
    · rw [if_pos e, m_198y h ha hj e0 e.1 e.2.1 e.2.2 hh, onI_i]
      exact h1 e.1 e.2.1 e.2.2 (h.2.1.ats (h.2.1.num e.1).1)
    · obtain ⟨q, hq⟩ := m_198n (W := W) (b := b) (st := st) (dp := dp) h ha hj e0 hl e
      rw [if_neg e, hq, onI_i]
      exact h0 (k + 1) q hk
  · rw [if_neg e0, m_198x h ha hj e0, onI_i]
    exact h0 k _ ha.1
theorem m_197n (h : TkR σ t) {q : Nat} {hi : Int32} (hq : q + 1 < 2061) : rn 197 [.ref 611, .int (nI q), .int (-1), .int hi] (Rst σ W p b st dp) = some (.inl (some (.int 0)), Rst σ (uW (uW W q (-1)) (q + 1) (-1)) p b st dp) := by
  rw [r_197, if_pos (show (-1 : Int32) < 0 by decide), e_197_16, h612 h, u612 h (by omega), h612 h, nI_1, u612 h hq, if_pos (show (-1 : Int32) < 0 by decide), e_197_44]
theorem RfR.sp {c : Nat → PR} {F : Int32 → SH → SR} {kx : Nat → SH → SR} {q a hi : Nat} (h : TkR σ t) (ha : tAt t k p) (hl : a < 2147483648) (hh : hi < 2147483648) (hq : q + 1 < 363) (hw : ∀ j, 363 ≤ j → W j = W0 j) (h0 : ∀ ρ, F 0 ρ = some (.inl (some (.int 0)), ρ)) (h1 : tkG t (k + 1) = 35 → a ≤ tkV t (k + 1) → tkV t (k + 1) ≤ hi → tAt t (k + 2) (tkE t (k + 1) + tkS t (k + 1)) → RfR σ t st dp W0 (c (tkV t (k + 1))) (F 1 (Rst σ (uW (uW W q (nI a)) (q + 1) (nI (tkV t (k + 1)))) (tkE t (k + 1) + tkS t (k + 1)) (tkE t (k + 1)) st dp))) : RfR σ t st dp W0 (pW t k 6 (pN t (k + 1) a hi c)) (onI (rn 197 [.ref 611, .int (nI q), .int (nI a), .int (nI hi)] (Rst σ W p b st dp)) F kx) := by
  have pos : ∀ n, n < 2147483648 → ¬ nI n < 0 := fun n hn => nI_pos hn
  have fl : ∀ k' q', k' ≤ tkN t → RfR σ t st dp W0 (k', none) (onI (gR (Rst σ W q' (tkE t k') st dp) 112 1 (.ref 611) fun a24 => uI (Rst σ W q' (tkE t k') st dp) (.ref a24) (nI q) (nI a) fun σ25 => gR σ25 112 1 (.ref 611) fun a26 => uI σ25 (.ref a26) (nI q + 1) (-1) fun σ27 => if ((-1 : Int32) < 0 : Prop) then (exec PP 7 197 44 [some (.ref 611), some (.int (nI q)), some (.int (nI a)), none, some (.int (-1))] [] σ27) else (exec PP 7 197 45 [some (.ref 611), some (.int (nI q)), some (.int (nI a)), none, some (.int (-1))] [.int 1] σ27)) F kx) := fun k' q' hk => by
    rw [h612 h, u612 h (by omega), h612 h, nI_1, u612 h (by omega), if_pos (show (-1 : Int32) < 0 by decide), e_197_44, onI_i, h0]
    exact RfR.f hk (fun j hj => by rw [uW_n (by omega), uW_n (by omega)]; exact hw j hj) rfl
  rw [r_197, if_neg (pos a hl), e_197_8, if_pos (Rst_tt h)]
  unfold pW pN
  by_cases e0 : tkG t k = 6
  · rw [if_pos e0]
    obtain ⟨-, hk, -⟩ := m_199y (j := 1) (W := W) (b := b) (st := st) (dp := dp) h (by omega) ha e0
    by_cases e : tkG t (k + 1) = 35 ∧ a ≤ tkV t (k + 1) ∧ tkV t (k + 1) ≤ hi
    · have hv := (h.2.1.num e.1).2.2.2
      rw [if_pos e, show (.ref 121 : Value) = .ref (120 + 1) from rfl, m_198y (j := 1) h ha (by omega) e0 e.1 e.2.1 e.2.2 hh, onI_i, h612 h, u612 h (by omega), h612 h, nI_1, u612 h (by omega), if_neg (pos _ (by omega)), e_197_45, if_pos n01, onI_i]
      exact h1 e.1 e.2.1 e.2.2 (h.2.1.ats (h.2.1.num e.1).1)
    · obtain ⟨q', hq'⟩ := m_198n (j := 1) (W := W) (b := b) (st := st) (dp := dp) h ha (by omega) e0 hl e
      rw [if_neg e, show (.ref 121 : Value) = .ref (120 + 1) from rfl, hq', onI_i]
      exact fl (k + 1) q' hk
  · rw [if_neg e0, show (.ref 121 : Value) = .ref (120 + 1) from rfl, m_198x (j := 1) h ha (by omega) e0, onI_i]
    exact fl k _ ha.1
/-- behind drift -/
theorem m_194c (h : TkR σ t) {s k1 : Nat} {d : Int32} {fin : Nat → WW} (hs : s < 6) (ha : tAt t k1 p) (hw : ∀ j, 363 ≤ j → W j = W0 j) (w0 : W 0 = nI s) (hf : ∀ c, c ≤ 100 → fin c = uW (uW (uW (uW W (10 + 7 * s + 4) d) (10 + 7 * s + 5) (nI c)) (10 + 7 * s + 6) 0) 0 (nI (s + 1))) (o1 o4 : Option Value) : RfR σ t st dp W0 (chP t k1 fun k2 c => (k2, some (fin c))) (exec PP 8 194 114 [some (.ref 611), o1, some (.int (nI (10 + 7 * s))), some (.int d), o4] [] (Rst σ W p b st dp)) := by
  have fi : ∀ c k2 q b', c ≤ 100 → tAt t k2 q → RfR σ t st dp W0 (k2, some (fin c)) (exec PP 8 194 144 [some (.ref 611), none, some (.int (nI (10 + 7 * s))), some (.int d), some (.int (nI c))] [] (Rst σ W q b' st dp)) := fun c k2 q b' hc hq => by
    rw [e_194_144, h612 h, show nI (10 + 7 * s) + 4 = nI (10 + 7 * s + 4) from nI_add _ 4, u612 h (by omega), h612 h, show nI (10 + 7 * s) + 5 = nI (10 + 7 * s + 5) from nI_add _ 5, u612 h (by omega), h612 h, show nI (10 + 7 * s) + 6 = nI (10 + 7 * s + 6) from nI_add _ 6, u612 h (by omega), h612 h, a612l (j := 0) h (by omega), uW_n (by omega), uW_n (by omega), uW_n (by omega), w0, nI_1, u612l (j := 0) h (by omega)]
    refine ⟨_, q, b', rfl, fun j hj => ?_, fun z => (by cases z), hq.1, fun V z => ?_⟩
    · rw [uW_n (by omega), uW_n (by omega), uW_n (by omega), uW_n (by omega)]; exact hw j hj
    · cases z
      exact ⟨(hf c hc).symm, hq⟩
  rw [e_194_114, if_pos (Rst_tt h), show (.ref 125 : Value) = .ref (120 + 5) from rfl]
  unfold chP
  by_cases e : tkG t k1 = 10
  · obtain ⟨e1, hk, -⟩ := m_199y (j := 5) (W := W) (b := b) (st := st) (dp := dp) h (by omega) ha e
    rw [if_pos e, e1, onI_i, if_neg n10, if_pos (Rst_tt h)]
    refine RfR.nm h (h.2.1.ats hk) (by omega) (by omega) (fun q => ?_) (fun q1 q2 q3 q4 => ?_)
    · try dsimp only
      rw [e_194_135, if_pos (show (-1 : Int32) < 0 by decide)]
      exact RfR.f hk hw rfl
    · try dsimp only
      rw [e_194_135, if_neg (nI_pos (by omega))]
      exact fi _ _ _ _ q3 q4
  · rw [if_neg e, m_199n (j := 5) h (by omega) ha e, onI_i, if_pos n00, e_194_133, if_neg (show ¬ (100 : Int32) < 0 by decide)]
    exact fi 100 k1 _ _ (by omega) (TxO.ate ha.1)
theorem m_194 (h : TkR σ t) (hW : WF W) (hs : nS W < 6) (ha : tAt t (k + 1) p) : RfR σ t st dp W (shP t W k) (rn 194 [.ref 611] (Rst σ W p b st dp)) := by
  have w0 : W 0 = nI (nS W) := (WF_nS hW).1
  rw [r_194, if_pos (Rst_tt h), m_195 (σ := Rst σ W p b st dp) (h.1.e rfl), onI_i, Rst_612, w0, if_neg (nI_nel (n := 6) (by omega) (by omega) (by decide)), e_194_13, if_pos (Rst_tt h), show (10 + 7 * nI (nS W) + 0 : Int32) = nI (10 + 7 * nS W + 0) from ix_3 10 7 (nS W) 0, show (10 + 7 * nI (nS W) + 2 : Int32) = nI (10 + 7 * nS W + 2) from ix_3 10 7 (nS W) 2, show (10 + 7 * nI (nS W) : Int32) = nI (10 + 7 * nS W) from ix_2m 10 7 (nS W)]
  unfold shP
  have keep : ∀ (V : WW) (q : Nat) (x y : Int32), (∀ j, 363 ≤ j → V j = W j) → q + 1 < 363 → ∀ j, 363 ≤ j → uW (uW V q x) (q + 1) y j = W j := fun V q x y hV hq j hj => by rw [uW_n (by omega), uW_n (by omega)]; exact hV j hj
  refine RfR.nm h ha (by omega) (by omega) (fun q => ?_) (fun q1 q2 q3 q4 => ?_)
  · try dsimp only
    rw [if_pos (Rst_tt h), m_197n h (by omega), onI_i, if_pos n00, e_194_63]
    exact RfR.f ha.1 (keep _ _ _ _ (fun _ _ => rfl) (by omega)) rfl
  try dsimp only
  rw [if_pos (Rst_tt h)]
  refine RfR.sp h q4 (by omega) (by omega) (by omega) (fun _ _ => rfl) (fun ρ => (if_pos n00).trans (e_194_63 _ _ _ _ _ _)) (fun p1 p2 p3 p4 => ?_)
  try dsimp only
  have k1 := keep W (10 + 7 * nS W + 0) (nI (tkV t (k + 1))) (nI (tkV t (k + 3))) (fun _ _ => rfl) (by omega)
  rw [if_neg n10, if_pos (Rst_tt h), show (.ref 122 : Value) = .ref (120 + 2) from rfl]
  refine RfR.af h p4 (by omega) rfl (by omega) (by omega) (fun k' q hk => ?_) (fun r1 r2 r3 r4 => ?_)
  · try dsimp only
    rw [if_pos (Rst_tt h), m_197n h (by omega), onI_i, if_pos n00]
    exact RfR.f hk (keep _ _ _ _ k1 (by omega)) rfl
  try dsimp only
  rw [if_pos (Rst_tt h)]
  refine RfR.sp h r4 (by omega) (by omega) (by omega) k1 (fun ρ => if_pos n00) (fun s1 s2 s3 s4 => ?_)
  try dsimp only
  have k2 := keep _ (10 + 7 * nS W + 2) (nI (tkV t (k + 5))) (nI (tkV t (k + 7))) k1 (by omega)
  have w2 : (uW (uW (uW (uW W (10 + 7 * nS W + 0) (nI (tkV t (k + 1)))) (10 + 7 * nS W + 0 + 1) (nI (tkV t (k + 3)))) (10 + 7 * nS W + 2) (nI (tkV t (k + 5)))) (10 + 7 * nS W + 2 + 1) (nI (tkV t (k + 7)))) 0 = nI (nS W) := by rw [uW_n (by omega), uW_n (by omega), uW_n (by omega), uW_n (by omega)]; exact w0
  rw [if_neg n10, e_194_65, if_pos (Rst_tt h), show (.ref 123 : Value) = .ref (120 + 3) from rfl]
  unfold drP
  by_cases e8 : tkG t (k + 8) = 8
  · obtain ⟨e1, hk, -⟩ := m_199y (k := k + 8) (j := 3) (W := uW (uW (uW (uW W (10 + 7 * nS W + 0) (nI (tkV t (k + 1)))) (10 + 7 * nS W + 0 + 1) (nI (tkV t (k + 3)))) (10 + 7 * nS W + 2) (nI (tkV t (k + 5)))) (10 + 7 * nS W + 2 + 1) (nI (tkV t (k + 7)))) (b := tkE t (k + 7)) (st := st) (dp := dp) h (by omega) s4 e8
    rw [if_pos e8]
    refine (congrArg (fun X => RfR σ t st dp W _ (onI X _ _)) e1).mpr ?_
    rw [onI_i, if_neg n10, if_pos (Rst_tt h)]
    refine RfR.nm h (h.2.1.ats hk) (by omega) (by omega) (fun q => ?_) (fun u1 u2 u3 u4 => ?_)
    · try dsimp only
      rw [if_pos (show (-1 : Int32) < 0 by decide)]
      exact RfR.f hk k2 rfl
    try dsimp only
    rw [if_neg (nI_pos (by omega))]
    exact m_194c h hs u4 k2 w2 (fun c hc => rfl) _ _
  · rw [if_neg e8]
    have e1 := m_199n (k := k + 8) (j := 3) (W := uW (uW (uW (uW W (10 + 7 * nS W + 0) (nI (tkV t (k + 1)))) (10 + 7 * nS W + 0 + 1) (nI (tkV t (k + 3)))) (10 + 7 * nS W + 2) (nI (tkV t (k + 5)))) (10 + 7 * nS W + 2 + 1) (nI (tkV t (k + 7)))) (b := tkE t (k + 7)) (st := st) (dp := dp) h (by omega) s4 e8
    refine (congrArg (fun X => RfR σ t st dp W _ (onI X _ _)) e1).mpr ?_
    have s5 : tAt t (k + 8) (tkE t (k + 8)) := TxO.ate s4.1
    rw [onI_i, if_pos n00, e_194_89, if_pos (Rst_tt h), show (.ref 124 : Value) = .ref (120 + 4) from rfl]
    by_cases e9 : tkG t (k + 8) = 9
    · obtain ⟨e2, hk, -⟩ := m_199y (k := k + 8) (j := 4) (W := uW (uW (uW (uW W (10 + 7 * nS W + 0) (nI (tkV t (k + 1)))) (10 + 7 * nS W + 0 + 1) (nI (tkV t (k + 3)))) (10 + 7 * nS W + 2) (nI (tkV t (k + 5)))) (10 + 7 * nS W + 2 + 1) (nI (tkV t (k + 7)))) (b := tkE t (k + 8)) (st := st) (dp := dp) h (by omega) s5 e9
      rw [if_pos e9, e2, onI_i, if_neg n10, if_pos (Rst_tt h)]
      refine RfR.nm h (h.2.1.ats hk) (by omega) (by omega) (fun q => ?_) (fun u1 u2 u3 u4 => ?_)
      · try dsimp only
        rw [if_pos (show (-1 : Int32) < 0 by decide)]
        exact RfR.f hk k2 rfl
      try dsimp only
      rw [if_neg (nI_pos (by omega)), e_194_111]
      have z := m_194c (d := -(nI (tkV t (k + 8 + 1)))) (b := tkE t (k + 8 + 1)) (st := st) (dp := dp) (W0 := W) (fin := fun c => seS W (nS W) (tkV t (k + 1)) (tkV t (k + 3)) (tkV t (k + 5)) (tkV t (k + 7)) (-(nI (tkV t (k + 8 + 1)))) c) h hs u4 k2 w2 (fun c hc => rfl) none none
      rw [e_194_114] at z
      exact z
    · rw [if_neg e9, m_199n (j := 4) h (by omega) s5 e9, onI_i, if_pos n00]
      exact m_194c h hs s5 k2 w2 (fun c hc => rfl) _ _
end F0
