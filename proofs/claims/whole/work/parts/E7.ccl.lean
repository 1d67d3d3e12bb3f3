/-! the class reads a county -/
theorem n10 : ¬ (1 : Int32) = 0 := by decide
theorem n00 : (0 : Int32) = 0 := rfl
theorem n01 : (1 : Int32) = 0 ∨ (1 : Int32) = 1 := Or.inr rfl
theorem n0o : (0 : Int32) = 0 ∨ (0 : Int32) = 1 := Or.inl rfl
def CwP (a _k : Nat) : Prop := 237 ≤ a ∧ a < 263
def ClR (σ : SH) (t : TXT) (L : WW) (r : PR) (X : SR) : Prop := ∃ τ v, X = some (.inl (some (.int (bI r.2.isSome))), TS τ r.1 v) ∧ Kp CwP σ τ ∧ r.1 ≤ tkN t ∧ ∀ W', r.2 = some W' → CV τ 237 W' L ∧ WF W'
section E7
variable {σ τ : SH} {t : TXT} {W L : WW} {k v : Nat}
theorem TkC.kp {P : Nat → Nat → Prop} (h : TkC σ t) (g : Kp P σ τ) (hP : ∀ a j, P a j → 206 ≤ a) : TkC τ t := by
  obtain ⟨b, tx, h5, h3, h4⟩ := h
  have I : ∀ a j, a < 206 → sI τ a j = sI σ a j := fun a j ha => g.2 _ _ (fun z => by have := hP a j z; omega)
  exact ⟨b.e g.1 (fun j => I _ _ (by omega)), tx, (I _ _ (by omega)).trans h5, fun j hj => ⟨(g.V _ _).trans (h3 j hj).1, (I _ _ (by omega)).trans (h3 j hj).2⟩, fun j hj => (I _ _ (by omega)).trans (h4 j hj)⟩
theorem TkC.cw (h : TkC σ t) (g : Kp CwP σ τ) : TkC τ t := h.kp g (fun a j z => by unfold CwP at z; omega)
theorem ClR.f {X : SR} (hk : Kp CwP σ τ) (hn : k ≤ tkN t) (e : X = some (.inl (some (.int 0)), TS τ k v)) : ClR σ t L (k, none) X := ⟨τ, v, e, hk, hn, fun W' z => by cases z⟩
theorem ClR.n {c : Nat → PR} {F : Int32 → SH → SR} {kx : Nat → SH → SR} {lo hi : Nat} (hT : TkC σ t) (hk : Kp CwP σ τ) (hn : k ≤ tkN t) (hl : lo < 2147483648) (hh : hi < 2147483648) (h0 : F 0 (TS τ k v) = some (.inl (some (.int 0)), TS τ k v)) (h1 : tkG t k = 35 → lo ≤ tkV t k → tkV t k ≤ hi → k + 1 ≤ tkN t → ClR σ t L (c (tkV t k)) (F 1 (TS τ (k + 1) (tkV t k)))) : ClR σ t L (pN t k lo hi c) (onI (rn 104 [.ref 201, .int (nI lo), .int (nI hi)] (TS τ k v)) F kx) := by
  unfold pN
  by_cases e : tkG t k = 35 ∧ lo ≤ tkV t k ∧ tkV t k ≤ hi
  · rw [if_pos e, m_104y (hT.cw hk) e.1 e.2.1 e.2.2 hh, onI_i]
    exact h1 e.1 e.2.1 e.2.2 (hT.2.1.num e.1).1
  · rw [if_neg e, m_104n (hT.cw hk) hn hl e, onI_i]
    exact ClR.f hk hn h0
theorem ClR.w {c : PR} {F : Int32 → SH → SR} {kx : Nat → SH → SR} {i : Nat} (hT : TkC σ t) (hk : Kp CwP σ τ) (hn : k ≤ tkN t) (hi : i < 37) (h0 : F 0 (TS τ k v) = some (.inl (some (.int 0)), TS τ k v)) (h1 : tkG t k = i → k + 1 ≤ tkN t → ClR σ t L c (F 1 (TS τ (k + 1) v))) : ClR σ t L (pW t k i c) (onI (rn 103 [.ref 201, .ref i] (TS τ k v)) F kx) := by
  unfold pW
  by_cases e : tkG t k = i
  · rw [if_pos e, m_103y (hT.cw hk) e (by omega), onI_i]
    exact h1 e (hT.2.1.lt e (by omega))
  · rw [if_neg e, m_103n (hT.cw hk) e (by omega) hn, onI_i]
    exact ClR.f hk hn h0
/-- what stays: tags and references -/
def Stay (σ ρ : SH) : Prop := ρ.2 = σ.2
theorem g107 (h : ShX σ) {ρ : SH} (e : Stay σ ρ) (c : Nat → SR) : gR ρ 107 0 (.ref 206) c = c 201 := gR_r (by unfold sT; rw [e]; exact h.2.2.1.1) (by unfold sV; rw [e]; exact h.2.2.1.2.1)
theorem t110 (h : ShX σ) {ρ : SH} (e : Stay σ ρ) : sT ρ 201 = 110 := by unfold sT; rw [e]; exact h.2.1.1
theorem t107 (h : ShX σ) {ρ : SH} (e : Stay σ ρ) : sT ρ 206 = 107 := by unfold sT; rw [e]; exact h.2.2.1.1
theorem gnum (h : ShX σ) (e : Stay σ τ) (c : Int32 → SR) : gI (TS τ k v) 110 7 (.ref 201) c = c (nI v) := (gI_r (show sT (TS τ k v) 201 = 110 from t110 h e)).trans (by rw [TS_v])
theorem pTS {a T f : Nat} {x : Int32} (hT : sT σ a = T) (ha : a ≠ 201) (e : Stay σ τ) (c : SH → SR) : pI (TS τ k v) T f (.ref a) x c = c (TS (wI τ a f x) k v) := (pI_r (by show sT τ a = T; unfold sT; rw [e]; exact hT)).trans (by rw [TS_w ha])
theorem gTS {a T f : Nat} (hT : sT σ a = T) (ha : a ≠ 201) (e : Stay σ τ) (c : Int32 → SR) : gI (TS τ k v) T f (.ref a) c = c (sI τ a f) := (gI_r (by show sT τ a = T; unfold sT; rw [e]; exact hT)).trans (by rw [TS_i (fun z => ha z.1)])
theorem m_104yl {lo hi : Nat} (h : TkC σ t) (e : tkG t k = 35) (h1 : lo ≤ tkV t k) (h2 : tkV t k ≤ hi) (hh : hi < 2147483648) : rn 104 [.ref 201, .int (OfNat.ofNat lo), .int (OfNat.ofNat hi)] (TS σ k v) = some (.inl (some (.int 1)), TS σ (k + 1) (tkV t k)) := m_104y h e h1 h2 hh
theorem m_104nl {lo hi : Nat} (h : TkC σ t) (hk : k ≤ tkN t) (hl : lo < 2147483648) (e : ¬ (tkG t k = 35 ∧ lo ≤ tkV t k ∧ tkV t k ≤ hi)) : rn 104 [.ref 201, .int (OfNat.ofNat lo), .int (OfNat.ofNat hi)] (TS σ k v) = some (.inl (some (.int 0)), TS σ k v) := m_104n h hk hl e
/-- drift and chance -/
theorem ClR.dr {c : Nat → Int32 → PR} {F : Int32 → SH → SR} {kx : Nat → SH → SR} {a : Nat} (hX : ShX σ) (hT : TkC σ t) (hk : Kp CwP σ τ) (hn : k ≤ tkN t) (ha : sT σ a = 108) (hr : CwP a 4) (h0 : ∀ ρ k v, F 0 (TS ρ k v) = some (.inl (some (.int 0)), TS ρ k v)) (h1 : ∀ k' d v', k' ≤ tkN t → btw d (-2) 2 → ClR σ t L (c k' d) (F 1 (TS (wI τ a 4 d) k' v'))) : ClR σ t L (drP t k c) (onI (rn 79 [.ref 206, .ref a] (TS τ k v)) F kx) := by
  have hr' := hr
  unfold CwP at hr'
  have e0 : Stay σ τ := hk.1
  have k4 : ∀ x, Kp CwP σ (wI τ a 4 x) := fun x => hk.wr hr
  have base : rn 79 [.ref 206, .ref a] (TS τ k v) = (onI (rn 103 [.ref 201, .ref 8] (TS (wI τ a 4 0) k v)) (fun x25 σ23 =>
    if (x25 = 0 : Prop) then (gR σ23 107 0 (.ref 206) fun a26 =>
        if sT σ23 a26 = 110 then (onI (rn 103 [.ref a26, .ref 9] σ23) (fun x29 σ27 =>
        if (x29 = 0 : Prop) then (some (.inl (some (.int 1)), σ27))
          else (exec PP 2 79 35 [some (.ref 206), some (.ref a), some (.int x25)] [] σ27)) (fun e σ => some (.inr e, σ))) else none)
      else (exec PP 2 79 35 [some (.ref 206), some (.ref a), some (.int x25)] [] σ23)) (fun e σ => some (.inr e, σ))) := by
    rw [r_79, pTS ha (by omega) e0, g107 hX (show Stay σ (TS (wI τ a 4 0) k v) from e0), if_pos (t110 hX (show Stay σ (TS (wI τ a 4 0) k v) from e0))]
  have num : ∀ (b : Int32) (fd : Nat → Int32) (k1 v1 : Nat), k1 ≤ tkN t → (∀ n, n ≤ 2 → btw (fd n) (-2) 2) → (∀ n v2, exec PP 2 79 49 [some (.ref 206), some (.ref a), some (.int b)] [] (TS (wI τ a 4 0) v2 n) = some (.inl (some (.int 1)), TS (wI τ a 4 (fd n)) v2 n)) → ClR σ t L (pN t k1 0 2 fun d => c (k1 + 1) (fd d)) (onI (exec PP 2 79 35 [some (.ref 206), some (.ref a), some (.int b)] [] (TS (wI τ a 4 0) k1 v1)) F kx) := by
    intro b fd k1 v1 hk1 hfd hx
    have ee : Stay σ (TS (wI τ a 4 0) k1 v1) := e0
    rw [e_79_35, g107 hX ee, if_pos (t110 hX ee)]
    unfold pN
    by_cases q : tkG t k1 = 35 ∧ 0 ≤ tkV t k1 ∧ tkV t k1 ≤ 2
    · rw [if_pos q, m_104yl (lo := 0) (hi := 2) (hT.cw (k4 0)) q.1 q.2.1 q.2.2 (by omega), onI_i, if_neg n10, hx, onI_i]
      exact h1 (k1 + 1) _ _ (hT.2.1.num q.1).1 (hfd _ q.2.2)
    · rw [if_neg q, m_104nl (lo := 0) (hi := 2) (hT.cw (k4 0)) hk1 (by omega) q, onI_i, if_pos n00, onI_i]
      exact ClR.f (k4 0) hk1 (h0 _ _ _)
  rw [base]
  unfold drP
  by_cases e8 : tkG t k = 8
  · rw [if_pos e8, m_103y (hT.cw (k4 0)) e8 (by omega), onI_i, if_neg n10]
    refine num 1 nI (k + 1) v (hT.2.1.lt e8 (by omega)) (fun n hn' => ⟨by rw [tnI (by omega)]; omega, by rw [tnI (by omega)]; omega⟩) (fun n v2 => ?_)
    have ee : Stay σ (TS (wI τ a 4 0) v2 n) := e0
    rw [e_79_49, if_neg n10, g107 hX ee, gnum hX (show Stay σ (wI τ a 4 0) from e0), e_79_72, pTS ha (by omega) (show Stay σ (wI τ a 4 0) from e0), wI_wI]
  · rw [if_neg e8, m_103n (hT.cw (k4 0)) e8 (by omega) hn, onI_i, if_pos n00, g107 hX (show Stay σ (TS (wI τ a 4 0) k v) from e0), if_pos (t110 hX (show Stay σ (TS (wI τ a 4 0) k v) from e0))]
    by_cases e9 : tkG t k = 9
    · rw [if_pos e9, m_103y (hT.cw (k4 0)) e9 (by omega), onI_i, if_neg n10]
      refine num 0 (fun n => -(nI n)) (k + 1) v (hT.2.1.lt e9 (by omega)) (fun n hn' => ⟨by rw [tN (by rw [tnI (by omega)]; omega), tnI (by omega)]; omega, by rw [tN (by rw [tnI (by omega)]; omega), tnI (by omega)]; omega⟩) (fun n v2 => ?_)
      have ee : Stay σ (TS (wI τ a 4 0) v2 n) := e0
      rw [e_79_49, if_pos n00, e_79_64, g107 hX ee, gnum hX (show Stay σ (wI τ a 4 0) from e0), pTS ha (by omega) (show Stay σ (wI τ a 4 0) from e0), wI_wI]
    · rw [if_neg e9, m_103n (hT.cw (k4 0)) e9 (by omega) hn, onI_i, if_pos n00, onI_i]
      exact h1 k 0 v hn ⟨by decide, by decide⟩
theorem ClR.ch {c : Nat → Nat → PR} {F : Int32 → SH → SR} {kx : Nat → SH → SR} {a : Nat} (hX : ShX σ) (hT : TkC σ t) (hk : Kp CwP σ τ) (hn : k ≤ tkN t) (ha : sT σ a = 108) (hr : CwP a 5) (h0 : ∀ ρ k v, F 0 (TS ρ k v) = some (.inl (some (.int 0)), TS ρ k v)) (h1 : ∀ k' d v', k' ≤ tkN t → d ≤ 100 → ClR σ t L (c k' d) (F 1 (TS (wI τ a 5 (nI d)) k' v'))) : ClR σ t L (chP t k c) (onI (rn 80 [.ref 206, .ref a] (TS τ k v)) F kx) := by
  have hr' := hr
  unfold CwP at hr'
  have e0 : Stay σ τ := hk.1
  have k4 : ∀ x, Kp CwP σ (wI τ a 5 x) := fun x => hk.wr hr
  rw [r_80, pTS ha (by omega) e0, g107 hX (show Stay σ (TS (wI τ a 5 100) k v) from e0), if_pos (t110 hX (show Stay σ (TS (wI τ a 5 100) k v) from e0))]
  unfold chP
  by_cases e8 : tkG t k = 10
  · have ee : Stay σ (TS (wI τ a 5 100) (k + 1) v) := e0
    rw [if_pos e8, m_103y (hT.cw (k4 100)) e8 (by omega), onI_i, if_neg n10, e_80_21, g107 hX ee, if_pos (t110 hX ee)]
    unfold pN
    by_cases q : tkG t (k + 1) = 35 ∧ 0 ≤ tkV t (k + 1) ∧ tkV t (k + 1) ≤ 100
    · have e2 : Stay σ (TS (wI τ a 5 100) (k + 1 + 1) (tkV t (k + 1))) := e0
      rw [if_pos q, m_104yl (lo := 0) (hi := 100) (hT.cw (k4 100)) q.1 q.2.1 q.2.2 (by omega), onI_i, if_neg n10, e_80_36, g107 hX e2, gnum hX (show Stay σ (wI τ a 5 100) from e0), pTS ha (by omega) (show Stay σ (wI τ a 5 100) from e0), wI_wI, onI_i]
      exact h1 (k + 2) _ _ (hT.2.1.num q.1).1 q.2.2
    · rw [if_neg q, m_104nl (lo := 0) (hi := 100) (hT.cw (k4 100)) (hT.2.1.lt e8 (by omega)) (by omega) q, onI_i, if_pos n00, onI_i]
      exact ClR.f (k4 100) (hT.2.1.lt e8 (by omega)) (h0 _ _ _)
  · rw [if_neg e8, m_103n (hT.cw (k4 100)) e8 (by omega) hn, onI_i, if_pos n00, onI_i]
    exact h1 k 100 v hn (by omega)
end E7
