theorem pN_some {t : TXT} {k lo hi : Nat} {c : Nat → PR} {k' : Nat} {V : WW} (h : pN t k lo hi c = (k', some V)) : lo ≤ tkV t k ∧ tkV t k ≤ hi ∧ c (tkV t k) = (k', some V) := by
  unfold pN at h
  split at h
  · rename_i z; exact ⟨z.2.1, z.2.2, h⟩
  · cases h
theorem pW_some {t : TXT} {k i : Nat} {c : PR} {k' : Nat} {V : WW} (h : pW t k i c = (k', some V)) : c = (k', some V) := by
  unfold pW at h
  split at h
  · exact h
  · cases h
theorem chP_some {t : TXT} {k : Nat} {c : Nat → Nat → PR} {k' : Nat} {V : WW} (h : chP t k c = (k', some V)) : ∃ k1 x, x ≤ 100 ∧ c k1 x = (k', some V) := by
  unfold chP at h
  split at h
  · obtain ⟨_, h2, h3⟩ := pN_some h; exact ⟨_, _, h2, h3⟩
  · exact ⟨_, _, by omega, h⟩
theorem drP_some {t : TXT} {k : Nat} {c : Nat → Int32 → PR} {k' : Nat} {V : WW} (h : drP t k c = (k', some V)) : ∃ k1 d, btw d (-2) 2 ∧ c k1 d = (k', some V) := by
  unfold drP at h
  split at h
  · obtain ⟨_, h2, h3⟩ := pN_some h
    exact ⟨_, _, ⟨by rw [tnI (by omega)]; omega, by rw [tnI (by omega)]; omega⟩, h3⟩
  · split at h
    · obtain ⟨_, h2, h3⟩ := pN_some h
      exact ⟨_, _, ⟨by rw [tN (by rw [tnI (by omega)]; omega), tnI (by omega)]; omega, by rw [tN (by rw [tnI (by omega)]; omega), tnI (by omega)]; omega⟩, h3⟩
    · exact ⟨_, _, ⟨by decide, by decide⟩, h⟩
theorem WF_ln {t : TXT} {W V : WW} {k k' : Nat} (hW : WF W) (h : lnP t W k = (k', some V)) : WF V := by
  unfold lnP at h
  split at h
  · split at h
    · rename_i hs
      unfold shP at h
      obtain ⟨_, a2, h⟩ := pN_some h
      obtain ⟨_, b2, h⟩ := pN_some (pW_some h)
      obtain ⟨_, c2, h⟩ := pN_some (pW_some h)
      obtain ⟨_, d2, h⟩ := pN_some (pW_some h)
      obtain ⟨k1, d, hd, h⟩ := drP_some h
      obtain ⟨k2, x, hx, h⟩ := chP_some h
      cases h
      exact WF_seS hW hs a2 b2 c2 d2 hd hx
    · cases h
  split at h
  · split at h
    · rename_i hs
      unfold brP at h
      obtain ⟨_, a2, h⟩ := pN_some h
      obtain ⟨_, b2, h⟩ := pN_some (pW_some h)
      obtain ⟨c1, c2, h⟩ := pN_some (pW_some h)
      cases h
      exact WF_seB hW hs a2 b2 ⟨c1, c2⟩
    · cases h
  split at h
  · split at h
    · rename_i hs
      unfold deP at h
      obtain ⟨_, a2, h⟩ := pN_some h
      obtain ⟨_, b2, h⟩ := pN_some (pW_some h)
      obtain ⟨_, c2, h⟩ := pN_some (pW_some h)
      obtain ⟨_, d2, h⟩ := pN_some (pW_some h)
      cases h
      exact WF_seD hW hs a2 b2 c2 d2
    · cases h
  split at h
  · obtain ⟨_, a2, h⟩ := pN_some h
    cases h
    exact hW.z' (Or.inr (Or.inl ⟨rfl, btw_n (by omega) (by omega)⟩))
  split at h
  · obtain ⟨_, a2, h⟩ := pN_some h
    cases h
    exact hW.z' (Or.inr (Or.inr (Or.inl ⟨rfl, btw_n (by omega) (by omega)⟩)))
  split at h
  · obtain ⟨_, a2, h⟩ := pN_some h
    cases h
    exact hW.z' (Or.inr (Or.inr (Or.inr ⟨rfl, btw_n (by omega) (by omega)⟩)))
  · cases h
section F1
variable {σ : SH} {t : TXT} {W W0 : WW} {p b st dp k : Nat}
theorem m_200 (h : TkR σ t) (hW : WF W) (hs : nB W < 5) (ha : tAt t (k + 1) p) : RfR σ t st dp W (brP t W k) (rn 200 [.ref 611] (Rst σ W p b st dp)) := by
  have w0 : W 1 = nI (nB W) := (WF_nB hW).1
  have f55 : ∀ (ρ : SH) (x2 x3 : Int32) (o4 : Option Value), exec PP 7 200 55 [some (.ref 611), some (.int (nI (nB W))), some (.int x2), some (.int x3), o4] [.int (-1)] ρ = some (.inl (some (.int 0)), ρ) := fun ρ x2 x3 o4 => by rw [e_200_55, if_pos (show (-1 : Int32) < 0 by decide)]
  rw [r_200, if_pos (Rst_tt h), m_201 (σ := Rst σ W p b st dp) (h.1.e rfl), onI_i, Rst_612, w0, if_neg (nI_nel (n := 5) (by omega) (by omega) (by decide)), e_200_12, if_pos (Rst_tt h)]
  unfold brP
  refine RfR.nm h ha (by omega) (by omega) (fun q => ?_) (fun q1 q2 q3 q4 => ?_)
  · try dsimp only
    rw [if_pos (show (-1 : Int32) < 0 by decide), e_200_38, if_pos (show (-1 : Int32) < 0 by decide), f55]
    exact RfR.f ha.1 (fun _ _ => rfl) rfl
  try dsimp only
  rw [if_neg (nI_pos (by omega)), e_200_29, if_pos (Rst_tt h), show (.ref 127 : Value) = .ref (120 + 7) from rfl]
  refine RfR.af h q4 (by omega) rfl (by omega) (by omega) (fun k' q hk => ?_) (fun r1 r2 r3 r4 => ?_)
  · try dsimp only
    rw [if_pos (show (-1 : Int32) < 0 by decide), f55]
    exact RfR.f hk (fun _ _ => rfl) rfl
  try dsimp only
  rw [if_neg (nI_pos (by omega)), e_200_47, if_pos (Rst_tt h), show (.ref 128 : Value) = .ref (120 + 8) from rfl]
  refine RfR.af h r4 (by omega) rfl (by omega) (by omega) (fun k' q hk => ?_) (fun s1 s2 s3 s4 => ?_)
  · try dsimp only
    rw [if_pos (show (-1 : Int32) < 0 by decide)]
    exact RfR.f hk (fun _ _ => rfl) rfl
  try dsimp only
  rw [if_neg (nI_pos (by omega)), e_200_64, h612 h, m_202 (f := 0), onI_i, u612 h (by omega), h612 h, m_202 (f := 1), onI_i, u612 h (by omega), h612 h, m_202 (f := 2), onI_i, u612 h (by omega), h612 h, a612l (j := 1) h (by omega), uW_n (by omega), uW_n (by omega), uW_n (by omega), w0, nI_1, u612l (j := 1) h (by omega)]
  refine ⟨_, _, _, rfl, fun j hj => ?_, fun z => (by cases z), s4.1, fun V z => ?_⟩
  · rw [uW_n (by omega), uW_n (by omega), uW_n (by omega), uW_n (by omega)]
  · cases z
    exact ⟨rfl, s4⟩
theorem m_203 (h : TkR σ t) (hW : WF W) (hs : nD W < 8) (ha : tAt t (k + 1) p) : RfR σ t st dp W (deP t W k) (rn 203 [.ref 611] (Rst σ W p b st dp)) := by
  have w0 : W 2 = nI (nD W) := (WF_nD hW).1
  rw [r_203, if_pos (Rst_tt h), m_204 (σ := Rst σ W p b st dp) (h.1.e rfl), onI_i, Rst_612, w0, if_neg (nI_nel (n := 8) (by omega) (by omega) (by decide)), e_203_13, if_pos (Rst_tt h)]
  unfold deP
  refine RfR.nm h ha (by omega) (by omega) (fun q => ?_) (fun q1 q2 q3 q4 => ?_)
  · try dsimp only
    rw [if_pos (show (-1 : Int32) < 0 by decide), e_203_50]
    exact RfR.f ha.1 (fun _ _ => rfl) rfl
  try dsimp only
  rw [if_neg (nI_pos (by omega)), m_205 (f := 1), onI_i, if_pos (Rst_tt h), show (.ref 122 : Value) = .ref (120 + 2) from rfl]
  refine RfR.af h q4 (by omega) rfl (by omega) (by omega) (fun k' q hk => ?_) (fun r1 r2 r3 r4 => ?_)
  · try dsimp only
    rw [if_pos (Rst_tt h), m_197n h (by omega), onI_i, if_pos n00]
    exact RfR.f hk (fun j hj => by rw [uW_n (by omega), uW_n (by omega)]) rfl
  try dsimp only
  rw [if_pos (Rst_tt h)]
  refine RfR.sp h r4 (by omega) (by omega) (by omega) (fun _ _ => rfl) (fun ρ => if_pos n00) (fun s1 s2 s3 s4 => ?_)
  try dsimp only
  have k1 : ∀ j, 363 ≤ j → uW (uW W (67 + 7 * nD W + 1) (nI (tkV t (k + 3)))) (67 + 7 * nD W + 1 + 1) (nI (tkV t (k + 5))) j = W j := fun j hj => by rw [uW_n (by omega), uW_n (by omega)]
  rw [if_neg n10, e_203_52, if_pos (Rst_tt h), show (.ref 130 : Value) = .ref (120 + 10) from rfl]
  refine RfR.af h s4 (by omega) rfl (by omega) (by omega) (fun k' q hk => ?_) (fun u1 u2 u3 u4 => ?_)
  · try dsimp only
    rw [if_pos (show (-1 : Int32) < 0 by decide)]
    exact RfR.f hk k1 rfl
  try dsimp only
  rw [if_neg (nI_pos (by omega)), e_203_69, h612 h, m_205 (f := 0), onI_i, u612 h (by omega), h612 h, m_205 (f := 3), onI_i, u612 h (by omega), h612 h, m_205 (f := 4), onI_i, u612 h (by omega), h612 h, m_205 (f := 5), onI_i, u612 h (by omega), h612 h, m_205 (f := 6), onI_i, u612 h (by omega), h612 h, a612l (j := 2) h (by omega), uW_n (by omega), uW_n (by omega), uW_n (by omega), uW_n (by omega), uW_n (by omega), uW_n (by omega), uW_n (by omega), w0, nI_1, u612l (j := 2) h (by omega)]
  refine ⟨_, _, _, rfl, fun j hj => ?_, fun z => (by cases z), u4.1, fun V z => ?_⟩
  · rw [uW_n (by omega), uW_n (by omega), uW_n (by omega), uW_n (by omega), uW_n (by omega), uW_n (by omega)]; exact k1 j hj
  · cases z
    exact ⟨rfl, u4⟩
theorem m_206 (h : TkR σ t) {q hi : Nat} (hq : q < 363) (hh : hi < 1000) (ha : tAt t k p) : RfR σ t st dp W (pN t k 0 hi fun v => (k + 1, some (uW W q (nI v)))) (rn 206 [.ref 611, .int (nI q), .int (nI 0), .int (nI hi)] (Rst σ W p b st dp)) := by
  rw [r_206, if_pos (Rst_tt h)]
  refine RfR.nm h ha (by omega) (by omega) (fun q => ?_) (fun q1 q2 q3 q4 => ?_)
  · try dsimp only
    rw [h612 h, if_pos (show (-1 : Int32) < 0 by decide), h612 h, a612 h (by omega), e_206_29, u612 h (by omega), if_pos (show (-1 : Int32) < 0 by decide), e_206_39]
    exact RfR.f ha.1 (fun j hj => uW_n (by omega)) rfl
  try dsimp only
  rw [h612 h, if_neg (nI_pos (by omega)), e_206_27, u612 h (by omega), if_neg (nI_pos (by omega)), e_206_40, if_pos n01]
  refine ⟨_, _, _, rfl, fun j hj => uW_n (by omega), fun z => (by cases z), q4.1, fun V z => ?_⟩
  cases z
  exact ⟨rfl, q4⟩
theorem RfR.tr {r : PR} {X : SR} {F : Int32 → SH → SR} {kx : Nat → SH → SR} (h : RfR σ t st dp W r X) (h0 : ∀ ρ, F 0 ρ = some (.inl (some (.int 0)), ρ)) (h1 : ∀ ρ, F 1 ρ = some (.inl (some (.int 1)), ρ)) : RfR σ t st dp W r (onI X F kx) := by
  obtain ⟨W', p, b, e, h2⟩ := h
  refine ⟨W', p, b, ?_, h2⟩
  rw [e, onI_i]
  cases r.2.isSome
  · exact h0 _
  · exact h1 _
theorem tkL_w (h : TkR σ t) {j : Nat} (hj : j < 29) (hk : k ≤ tkN t) (e : tkG t k = rsgN j) : tAt t (k + 1) (tkL t k) := by
  obtain ⟨-, z, el⟩ := m_199y (W := fun _ => 0) (b := 0) (st := 0) (dp := 0) h hj (TxO.ate hk) e
  rw [el]; exact h.2.1.ats z
theorem m_192 (h : TkR σ t) (hW : WF W) (hk : k ≤ tkN t) : RfR σ t st dp W (lnP t W k) (rn 192 [.ref 611] (Rst σ W (tkL t k) (tkE t k) st dp)) := by
  have l6 := (WF_nS hW).2
  have l5 := (WF_nB hW).2
  have l8 := (WF_nD hW).2
  have fl : RfR σ t st dp W (k, none) (some (.inl (some (.int 0)), Rst σ W (tkL t k) (tkE t k) st dp)) := RfR.f hk (fun _ _ => rfl) rfl
  rw [r_192, if_pos (Rst_tt h), show (.ref 120 : Value) = .ref (120 + 0) from rfl, m_193 (j := 0) h (by omega) hk, onI_i, iB]
  unfold lnP
  by_cases g0 : tkG t k = 0
  · rw [if_pos g0, decide_eq_true (show tkG t k = rsgN 0 from g0), if_neg (show ¬ (true = false) by decide), if_pos (Rst_tt h)]
    refine RfR.tr ?_ (fun ρ => if_pos n0o) (fun ρ => if_pos n01)
    by_cases z : nS W < 6
    · rw [if_pos z]; exact m_194 h hW z (tkL_w (j := 0) h (by omega) hk g0)
    · rw [if_neg z, r_194, if_pos (Rst_tt h), m_195 (σ := Rst σ W (tkL t k) (tkE t k) st dp) (h.1.e rfl), onI_i, Rst_612, (WF_nS hW).1, if_pos (show nI (nS W) = 6 by rw [show nS W = 6 by omega]; rfl)]
      exact fl
  rw [if_neg g0, decide_eq_false (show ¬ tkG t k = rsgN 0 from g0), if_pos (show false = false from rfl), e_192_14, if_pos (Rst_tt h), show (.ref 126 : Value) = .ref (120 + 6) from rfl, m_193 (j := 6) h (by omega) hk, onI_i, iB]
  by_cases g1 : tkG t k = 1
  · rw [if_pos g1, decide_eq_true (show tkG t k = rsgN 6 from g1), if_neg (show ¬ (true = false) by decide), if_pos (Rst_tt h)]
    refine RfR.tr ?_ (fun ρ => if_pos n0o) (fun ρ => if_pos n01)
    by_cases z : nB W < 5
    · rw [if_pos z]; exact m_200 h hW z (tkL_w (j := 6) h (by omega) hk g1)
    · rw [if_neg z, r_200, if_pos (Rst_tt h), m_201 (σ := Rst σ W (tkL t k) (tkE t k) st dp) (h.1.e rfl), onI_i, Rst_612, (WF_nB hW).1, if_pos (show nI (nB W) = 5 by rw [show nB W = 5 by omega]; rfl)]
      exact fl
  rw [if_neg g1, decide_eq_false (show ¬ tkG t k = rsgN 6 from g1), if_pos (show false = false from rfl), e_192_28, if_pos (Rst_tt h), show (.ref 129 : Value) = .ref (120 + 9) from rfl, m_193 (j := 9) h (by omega) hk, onI_i, iB]
  by_cases g2 : tkG t k = 2
  · rw [if_pos g2, decide_eq_true (show tkG t k = rsgN 9 from g2), if_neg (show ¬ (true = false) by decide), if_pos (Rst_tt h)]
    refine RfR.tr ?_ (fun ρ => if_pos n0o) (fun ρ => if_pos n01)
    by_cases z : nD W < 8
    · rw [if_pos z]; exact m_203 h hW z (tkL_w (j := 9) h (by omega) hk g2)
    · rw [if_neg z, r_203, if_pos (Rst_tt h), m_204 (σ := Rst σ W (tkL t k) (tkE t k) st dp) (h.1.e rfl), onI_i, Rst_612, (WF_nD hW).1, if_pos (show nI (nD W) = 8 by rw [show nD W = 8 by omega]; rfl)]
      exact fl
  rw [if_neg g2, decide_eq_false (show ¬ tkG t k = rsgN 9 from g2), if_pos (show false = false from rfl), e_192_42, if_pos (Rst_tt h), show (.ref 131 : Value) = .ref (120 + 11) from rfl, m_193 (j := 11) h (by omega) hk, onI_i, iB]
  by_cases g3 : tkG t k = 3
  · rw [if_pos g3, decide_eq_true (show tkG t k = rsgN 11 from g3), if_neg (show ¬ (true = false) by decide), if_pos (Rst_tt h)]
    exact (m_206 (q := 6) (hi := 15) h (by omega) (by omega) (tkL_w (j := 11) h (by omega) hk g3)).tr (fun ρ => if_pos n0o) (fun ρ => if_pos n01)
  rw [if_neg g3, decide_eq_false (show ¬ tkG t k = rsgN 11 from g3), if_pos (show false = false from rfl), e_192_61, if_pos (Rst_tt h), show (.ref 132 : Value) = .ref (120 + 12) from rfl, m_193 (j := 12) h (by omega) hk, onI_i, iB]
  by_cases g4 : tkG t k = 4
  · rw [if_pos g4, decide_eq_true (show tkG t k = rsgN 12 from g4), if_neg (show ¬ (true = false) by decide), if_pos (Rst_tt h)]
    exact (m_206 (q := 7) (hi := 99) h (by omega) (by omega) (tkL_w (j := 12) h (by omega) hk g4)).tr (fun ρ => if_pos n0o) (fun ρ => if_pos n01)
  rw [if_neg g4, decide_eq_false (show ¬ tkG t k = rsgN 12 from g4), if_pos (show false = false from rfl), e_192_80, if_pos (Rst_tt h), show (.ref 133 : Value) = .ref (120 + 13) from rfl, m_193 (j := 13) h (by omega) hk, onI_i, iB]
  by_cases g5 : tkG t k = 5
  · rw [if_pos g5, decide_eq_true (show tkG t k = rsgN 13 from g5), if_neg (show ¬ (true = false) by decide), if_pos (Rst_tt h)]
    exact (m_206 (q := 5) (hi := 999) h (by omega) (by omega) (tkL_w (j := 13) h (by omega) hk g5)).tr (fun ρ => (if_pos n00).trans (e_192_105 _ _)) (fun ρ => (if_neg n10).trans ((e_192_106 _ _ _).trans (if_pos n01)))
  rw [if_neg g5, decide_eq_false (show ¬ tkG t k = rsgN 13 from g5), if_pos (show false = false from rfl), e_192_105]
  exact fl
end F1
