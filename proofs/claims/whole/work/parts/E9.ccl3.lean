section E9
variable {σ τ : SH} {t : TXT} {W L : WW} {k v : Nat}
theorem ClR.tr {r : PR} {X : SR} {F : Int32 → SH → SR} {kx : Nat → SH → SR} (h : ClR σ t L r X) (h0 : ∀ ρ, F 0 ρ = some (.inl (some (.int 0)), ρ)) (h1 : ∀ ρ, F 1 ρ = some (.inl (some (.int 1)), ρ)) : ClR σ t L r (onI X F kx) := by
  obtain ⟨τ, v, e, h2⟩ := h
  refine ⟨τ, v, ?_, h2⟩
  rw [e, onI_i]
  cases r.2.isSome
  · exact h0 _
  · exact h1 _
theorem ClR.base {r : PR} {X : SR} (hk : Kp CwP σ τ) (h : ClR τ t L r X) : ClR σ t L r X := by
  obtain ⟨ρ, v, e, h2, h3⟩ := h
  exact ⟨ρ, v, e, hk.tr h2, h3⟩
theorem m_83 (hX : ShX σ) (hT : TkC σ t) (hC : CV σ 237 W L) (hW : WF W) (kn : k ≤ tkN t) : ClR σ t L (pN t k 0 15 fun x => (k + 1, some (uW W 6 (nI x)))) (rn 83 [.ref 206, .ref 237] (TS σ k v)) := by
  have hS := hC.1.1
  rw [r_83, g107 hX (by rfl), if_pos (t110 hX (by rfl))]
  refine ClR.n hT (Kp.rf σ) kn (by omega) (by omega) (if_pos n00) fun q1 q2 q3 kn1 => ?_
  try dsimp only
  rw [if_neg n10, e_83_15, g107 hX (by rfl), gnum hX (by rfl), pTS hS.1.1 (by omega) (by rfl)]
  refine ⟨_, _, rfl, Kp.w (by unfold CwP; omega), kn1, fun W' z => ?_⟩
  cases z
  exact ⟨hC.z' (by omega), hW.z' (Or.inr (Or.inl ⟨rfl, btw_n (by omega) (by omega)⟩))⟩
theorem m_84 (hX : ShX σ) (hT : TkC σ t) (hC : CV σ 237 W L) (hW : WF W) (kn : k ≤ tkN t) : ClR σ t L (pN t k 0 99 fun x => (k + 1, some (uW W 7 (nI x)))) (rn 84 [.ref 206, .ref 237] (TS σ k v)) := by
  have hS := hC.1.1
  rw [r_84, g107 hX (by rfl), if_pos (t110 hX (by rfl))]
  refine ClR.n hT (Kp.rf σ) kn (by omega) (by omega) (if_pos n00) fun q1 q2 q3 kn1 => ?_
  try dsimp only
  rw [if_neg n10, e_84_15, g107 hX (by rfl), gnum hX (by rfl), pTS hS.1.1 (by omega) (by rfl)]
  refine ⟨_, _, rfl, Kp.w (by unfold CwP; omega), kn1, fun W' z => ?_⟩
  cases z
  exact ⟨hC.z' (by omega), hW.z' (Or.inr (Or.inr (Or.inl ⟨rfl, btw_n (by omega) (by omega)⟩)))⟩
theorem m_85 (hX : ShX σ) (hT : TkC σ t) (hC : CV σ 237 W L) (hW : WF W) (kn : k ≤ tkN t) : ClR σ t L (pN t k 0 999 fun x => (k + 1, some (uW W 5 (nI x)))) (rn 85 [.ref 206, .ref 237] (TS σ k v)) := by
  have hS := hC.1.1
  rw [r_85, g107 hX (by rfl), if_pos (t110 hX (by rfl))]
  refine ClR.n hT (Kp.rf σ) kn (by omega) (by omega) (if_pos n00) fun q1 q2 q3 kn1 => ?_
  try dsimp only
  rw [if_neg n10, e_85_16, g107 hX (by rfl), gnum hX (by rfl), pTS hS.1.1 (by omega) (by rfl)]
  refine ⟨_, _, rfl, Kp.w (by unfold CwP; omega), kn1, fun W' z => ?_⟩
  cases z
  exact ⟨hC.z' (by omega), hW.z' (Or.inr (Or.inr (Or.inr ⟨rfl, btw_n (by omega) (by omega)⟩)))⟩
theorem m_77 (hX : ShX σ) (hT : TkC σ t) (hC : CV σ 237 W L) (hW : WF W) (kn : k ≤ tkN t) : ClR σ t L (lnP t W k) (rn 77 [.ref 206, .ref 237] (TS σ k v)) := by
  have hS := hC.1.1
  have l := tkG_l38 (t := t) k
  have c4 : sI σ 237 4 = nI (nS W) := by rw [hC.2.1.1.1]; exact (WF_nS hW).1
  have c5 : sI σ 237 5 = nI (nB W) := by rw [hC.2.1.1.2.1]; exact (WF_nB hW).1
  have c6 : sI σ 237 6 = nI (nD W) := by rw [hC.2.1.1.2.2.1]; exact (WF_nD hW).1
  have l6 := (WF_nS hW).2
  have l5 := (WF_nB hW).2
  have l8 := (WF_nD hW).2
  rw [r_77, g107 hX (by rfl), if_pos (t110 hX (by rfl)), m_102 hT kn, onR_i, if_pos ⟨l, by omega⟩]
  unfold lnP
  by_cases g0 : tkG t k = 0
  · rw [if_pos g0, if_pos g0, gTS hS.1.1 (by omega) (by rfl), c4]
    by_cases z : nS W < 6
    · rw [if_pos z, if_pos (nI_ltl (n := 6) z (by decide)), if_pos (t107 hX (by rfl))]
      exact (m_78 hX hT hC hW z g0).tr (fun ρ => (if_pos n00).trans (e_77_36 _ _ _ _)) (fun ρ => (if_neg n10).trans ((e_77_37 _ _ _ _ _).trans (if_pos n01)))
    · rw [if_neg z, if_neg (nI_nltl (n := 6) (by omega) (by omega)), e_77_36]
      exact ClR.f (Kp.rf σ) kn rfl
  rw [if_neg g0, if_neg g0, e_77_38, if_pos (show tkG t k < 38 ∧ 1 < 38 from ⟨l, by omega⟩)]
  by_cases g1 : tkG t k = 1
  · rw [if_pos g1, if_pos g1, gTS hS.1.1 (by omega) (by rfl), c5]
    by_cases z : nB W < 5
    · rw [if_pos z, if_pos (nI_ltl (n := 5) z (by decide)), if_pos (t107 hX (by rfl))]
      exact (m_81 hX hT hC hW z g1).tr (fun ρ => (if_pos n00).trans (e_77_65 _ _ _ _)) (fun ρ => (if_neg n10).trans ((e_77_66 _ _ _ _ _).trans (if_pos n01)))
    · rw [if_neg z, if_neg (nI_nltl (n := 5) (by omega) (by omega)), e_77_65]
      exact ClR.f (Kp.rf σ) kn rfl
  rw [if_neg g1, if_neg g1, e_77_67, if_pos (show tkG t k < 38 ∧ 2 < 38 from ⟨l, by omega⟩)]
  by_cases g2 : tkG t k = 2
  · rw [if_pos g2, if_pos g2, gTS hS.1.1 (by omega) (by rfl), c6]
    by_cases z : nD W < 8
    · rw [if_pos z, if_pos (nI_ltl (n := 8) z (by decide)), if_pos (t107 hX (by rfl))]
      exact (m_82 hX hT hC hW z g2).tr (fun ρ => (if_pos n00).trans (e_77_95 _ _ _ _)) (fun ρ => (if_neg n10).trans ((e_77_96 _ _ _ _ _).trans (if_pos n01)))
    · rw [if_neg z, if_neg (nI_nltl (n := 8) (by omega) (by omega)), e_77_95]
      exact ClR.f (Kp.rf σ) kn rfl
  rw [if_neg g2, if_neg g2, e_77_97, g107 hX (by rfl), if_pos (t110 hX (by rfl))]
  by_cases g3 : tkG t k = 3
  · rw [if_pos g3, m_103y hT g3 (by omega), onI_i, if_neg n10, if_pos (t107 hX (by rfl))]
    exact (m_83 hX hT hC hW (hT.2.1.lt g3 (by omega))).tr (fun ρ => if_pos n0o) (fun ρ => if_pos n01)
  rw [if_neg g3, m_103n hT g3 (by omega) kn, onI_i, if_pos n00, e_77_116, g107 hX (by rfl), if_pos (t110 hX (by rfl))]
  by_cases g4 : tkG t k = 4
  · rw [if_pos g4, m_103y hT g4 (by omega), onI_i, if_neg n10, if_pos (t107 hX (by rfl))]
    exact (m_84 hX hT hC hW (hT.2.1.lt g4 (by omega))).tr (fun ρ => if_pos n0o) (fun ρ => if_pos n01)
  rw [if_neg g4, m_103n hT g4 (by omega) kn, onI_i, if_pos n00, e_77_135, g107 hX (by rfl), if_pos (t110 hX (by rfl))]
  by_cases g5 : tkG t k = 5
  · rw [if_pos g5, m_103y hT g5 (by omega), onI_i, if_neg n10, if_pos (t107 hX (by rfl))]
    exact (m_85 hX hT hC hW (hT.2.1.lt g5 (by omega))).tr (fun ρ => (if_pos n00).trans (e_77_160 _ _ _ _)) (fun ρ => (if_neg n10).trans ((e_77_161 _ _ _ _ _).trans (if_pos n01)))
  rw [if_neg g5, m_103n hT g5 (by omega) kn, onI_i, if_pos n00, e_77_160]
  exact ClR.f (Kp.rf σ) kn rfl
theorem ShX.cw (h : ShX σ) (k : Kp CwP σ τ) (hz : 624 ≤ sZ σ) : ShX τ := h.fr (P := CwP) (R := fun _ => False) (k.fr (fun _ _ _ z => z) (fun a j z1 z2 => by unfold CwP at z2; omega)) hz (fun a z => z.elim)
theorem m_76' : ∀ (m i : Nat) (σ : SH) (W : WW) (k v : Nat), ShX σ → 624 ≤ sZ σ → TkC σ t → CV σ 237 W L → WF W → k ≤ tkN t → i + m = 14 → ClR σ t L (ctL t m W k) (exec PP 5 76 17 [some (.ref 206), some (.ref 237), some (.int (nI i))] [] (TS σ k v))
  | 0, i, σ, W, k, v, hX, hz, hT, hC, hW, kn, hi => by
    have : i = 14 := by omega
    subst this
    rw [e_76_17, if_neg (by decide), e_76_69]
    exact ClR.f (Kp.rf σ) kn rfl
  | m + 1, i, σ, W, k, v, hX, hz, hT, hC, hW, kn, hi => by
    have line := m_77 (v := v) hX hT hC hW kn
    rw [e_76_17, if_pos (nI_ltl (n := 14) (by omega) (by decide)), if_pos (t107 hX (by rfl))]
    unfold ctL
    obtain ⟨τ, v', e, hk, hn, hw⟩ := line
    rw [e, onI_i]
    cases hr : lnP t W k with
    | mk k' o =>
      rw [hr] at hn hw
      cases o with
      | none =>
        try dsimp only
        rw [if_pos (show bI (none : Option WW).isSome = 0 from rfl)]
        exact ClR.f hk hn rfl
      | some W' =>
        try dsimp only at hw hn ⊢
        obtain ⟨c1, w1⟩ := hw W' rfl
        have x1 := hX.cw hk hz
        have t1 := hT.cw hk
        have l := tkG_l38 (t := t) k'
        refine ClR.base hk ?_
        rw [if_neg (show ¬ bI (some W').isSome = 0 from (by decide : ¬ bI true = 0)), e_76_33, g107 x1 (by rfl), if_pos (t110 x1 (by rfl)), m_102 t1 hn, onR_i, if_pos (show tkG t k' < 38 ∧ 37 < 38 from ⟨l, by omega⟩)]
        by_cases z : tkG t k' = 37
        · rw [if_pos z, if_pos z]
          exact ⟨τ, v', rfl, Kp.rf τ, hn, fun W2 y => by cases y; exact ⟨c1, w1⟩⟩
        rw [if_neg z, if_neg z, e_76_48, g107 x1 (by rfl), if_pos (t110 x1 (by rfl))]
        refine ClR.w t1 (Kp.rf τ) hn (by omega) (if_pos n00) fun p kn2 => ?_
        try dsimp only
        rw [if_neg n10, e_76_63, nI_1]
        exact m_76' m (i + 1) τ W' (k' + 1) v' x1 (by rw [hk.Z]; exact hz) t1 c1 w1 kn2 (by omega)
theorem m_76 (hX : ShX σ) (hz : 624 ≤ sZ σ) (hT : TkC σ t) (hC : CV σ 237 W L) (hW : WF W) : ClR σ t L (ctP t W) (rn 76 [.ref 206, .ref 237] (TS σ 0 v)) := by
  have l := tkG_l38 (t := t) 0
  rw [r_76, g107 hX (by rfl), if_pos (t110 hX (by rfl)), m_102 hT (by omega), onR_i, if_pos ⟨l, by omega⟩]
  unfold ctP
  by_cases z : tkG t 0 = 37
  · rw [if_pos z, if_pos z]
    exact ⟨σ, v, rfl, Kp.rf σ, by omega, fun W2 y => by cases y; exact ⟨hC, hW⟩⟩
  rw [if_neg z, if_neg z, e_76_15]
  exact m_76' 14 0 σ W 0 v hX hz hT hC hW (by omega) (by omega)
end E9
