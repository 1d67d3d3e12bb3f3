/-! a shower, a broker, a deed more -/
section E6
variable {σ σ' : SH} {c : Nat} {W W' L : WW} {P : Nat → Nat → Prop}
theorem CV.kw (h : CV σ c W L) (k : Kp P σ σ') (hP : ∀ a j, P a j → c ≤ a ∧ a < c + 26 ∧ a ≠ c + 4 ∧ a ≠ c + 5) (h4 : W' 4 = W 4) (h8 : W' 8 = W 8) (hk : ∀ k, 123 ≤ k → W' k = W k) (hC : CW σ' c W') (hD : DB σ' c) : CV σ' c W' L := by
  obtain ⟨⟨g1, g2, g3⟩, g4, ⟨g5, g6⟩, g7, g8, g9⟩ := h
  refine ⟨⟨g1.kp k, g2, g3⟩, hC, ⟨?_, by rw [h4]; exact g6⟩, g7.kp k (fun b j z1 z2 => by have := hP b j z2; omega), g8.cg (fun j => k.2 _ j (fun z => by have := hP _ j z; omega)) (fun j => k.2 _ j (fun z => by have := hP _ j z; omega)) h8 hk, hD⟩
  rcases g5 with ⟨a1, a2⟩ | ⟨q, a1, a2, a3, a4, a5⟩
  · exact Or.inl ⟨(k.V _ _).trans a1, h4.trans a2⟩
  · exact Or.inr ⟨q, by rw [k.Z]; exact a1, (k.V _ _).trans a2, a3.kp k (fun a j z1 z2 z3 => by have := hP a j z3; omega), a4, h4.trans a5⟩
theorem seS_o {s a b f e : Nat} {d : Int32} {x j : Nat} (h0 : j ≠ 0) (h : j < 10 + 7 * s ∨ 10 + 7 * s + 7 ≤ j) : seS W s a b f e d x j = W j := by
  unfold seS
  rw [uW_n h0, uW_n (by omega), uW_n (by omega), uW_n (by omega), uW_n (by omega), uW_n (by omega), uW_n (by omega), uW_n (by omega)]
theorem seS_0 {s a b f e : Nat} {d : Int32} {x : Nat} : seS W s a b f e d x 0 = nI (s + 1) := uW_s _ _ _
theorem seS_f {s a b f e : Nat} {d : Int32} {x : Nat} : seS W s a b f e d x (10 + 7 * s + 0) = nI a ∧ seS W s a b f e d x (10 + 7 * s + 1) = nI b ∧ seS W s a b f e d x (10 + 7 * s + 2) = nI f ∧ seS W s a b f e d x (10 + 7 * s + 3) = nI e ∧ seS W s a b f e d x (10 + 7 * s + 4) = d ∧ seS W s a b f e d x (10 + 7 * s + 5) = nI x ∧ seS W s a b f e d x (10 + 7 * s + 6) = 0 := by
  unfold seS
  refine ⟨?_, ?_, ?_, ?_, ?_, ?_, ?_⟩
  · rw [uW_n (by omega), uW_n (by omega), uW_n (by omega), uW_n (by omega), uW_n (by omega), uW_n (by omega), uW_n (by omega), uW_s]
  · rw [uW_n (by omega), uW_n (by omega), uW_n (by omega), uW_n (by omega), uW_n (by omega), uW_n (by omega), uW_s]
  · rw [uW_n (by omega), uW_n (by omega), uW_n (by omega), uW_n (by omega), uW_n (by omega), uW_s]
  · rw [uW_n (by omega), uW_n (by omega), uW_n (by omega), uW_n (by omega), uW_s]
  · rw [uW_n (by omega), uW_n (by omega), uW_n (by omega), uW_s]
  · rw [uW_n (by omega), uW_n (by omega), uW_s]
  · rw [uW_n (by omega), uW_s]
theorem nS_of {s : Nat} (h : W 0 = nI s) (hs : s < 100) : nS W = s := by unfold nS; rw [h, tnI (by omega)]; rfl
theorem nB_of {s : Nat} (h : W 1 = nI s) (hs : s < 100) : nB W = s := by unfold nB; rw [h, tnI (by omega)]; rfl
theorem nD_of {s : Nat} (h : W 2 = nI s) (hs : s < 100) : nD W = s := by unfold nD; rw [h, tnI (by omega)]; rfl
theorem btw_n {n : Nat} {hi : Int} (h : (n : Int) ≤ hi) (h2 : n < 2147483648) : btw (nI n) 0 hi := ⟨by rw [tnI h2]; omega, by rw [tnI h2]; exact h⟩
theorem WF_seS (h : WF W) {a b f e : Nat} {d : Int32} {x : Nat} (hs : nS W < 6) (ha : a ≤ 15) (hb : b ≤ 15) (hf : f ≤ 999) (he : e ≤ 999) (hd : btw d (-2) 2) (hx : x ≤ 100) : WF (seS W (nS W) a b f e d x) := by
  have b5 := (WF_nB h).2
  have d8 := (WF_nD h).2
  obtain ⟨⟨h1, h2⟩, h3, h4, h5⟩ := h
  have s1 : nS (seS W (nS W) a b f e d x) = nS W + 1 := nS_of seS_0 (by omega)
  have e1 : nB (seS W (nS W) a b f e d x) = nB W := by unfold nB; rw [seS_o (by omega) (by omega)]
  have e2 : nD (seS W (nS W) a b f e d x) = nD W := by unfold nD; rw [seS_o (by omega) (by omega)]
  obtain ⟨f0, f1, f2, f3, f4, f5, f6⟩ := seS_f (W := W) (s := nS W) (a := a) (b := b) (f := f) (e := e) (d := d) (x := x)
  refine ⟨⟨by rw [seS_0]; exact btw_n (by omega) (by omega), ?_⟩, fun s hs' => ?_, fun s hs' => ?_, fun s hs' => ?_⟩
  · rw [seS_o (by omega) (by omega), seS_o (by omega) (by omega), seS_o (by omega) (by omega), seS_o (by omega) (by omega), seS_o (by omega) (by omega), seS_o (by omega) (by omega), seS_o (by omega) (by omega), seS_o (by omega) (by omega)]; exact h2
  · rw [s1] at hs'
    by_cases z : s = nS W
    · subst z
      unfold WFs sh
      rw [f0, f1, f2, f3, f4, f5, f6]
      exact ⟨btw_n (by omega) (by omega), btw_n (by omega) (by omega), btw_n (by omega) (by omega), btw_n (by omega) (by omega), hd, btw_n (by omega) (by omega), btw_n (n := 0) (by omega) (by omega)⟩
    · have := h3 s (by omega)
      unfold WFs sh at this ⊢
      rw [seS_o (by omega) (by omega), seS_o (by omega) (by omega), seS_o (by omega) (by omega), seS_o (by omega) (by omega), seS_o (by omega) (by omega), seS_o (by omega) (by omega), seS_o (by omega) (by omega)]; exact this
  · rw [e1] at hs'
    have := h4 s hs'
    unfold WFb br at this ⊢
    rw [seS_o (by omega) (by omega), seS_o (by omega) (by omega), seS_o (by omega) (by omega)]; exact this
  · rw [e2] at hs'
    have := h5 s hs'
    unfold WFd de at this ⊢
    rw [e1, seS_o (by omega) (by omega), seS_o (by omega) (by omega), seS_o (by omega) (by omega), seS_o (by omega) (by omega), seS_o (by omega) (by omega), seS_o (by omega) (by omega)]; exact this
theorem CV.ns (h : CV σ c W L) (hW : WF W) {a b f e : Nat} {d : Int32} {x : Nat} (hs : nS W < 6) (k : Kp (fun q j => q = c + 7 + nS W ∨ (q = c ∧ j = 4)) σ σ') (h4 : sI σ' c 4 = nI (nS W + 1)) (hc : sI σ' (c + 7 + nS W) 0 = nI a ∧ sI σ' (c + 7 + nS W) 1 = nI b ∧ sI σ' (c + 7 + nS W) 2 = nI f ∧ sI σ' (c + 7 + nS W) 3 = nI e ∧ sI σ' (c + 7 + nS W) 4 = d ∧ sI σ' (c + 7 + nS W) 5 = nI x ∧ sI σ' (c + 7 + nS W) 6 = 0) : CV σ' c (seS W (nS W) a b f e d x) L := by
  have b5 := (WF_nB hW).2
  have d8 := (WF_nD hW).2
  have s1 : nS (seS W (nS W) a b f e d x) = nS W + 1 := nS_of seS_0 (by omega)
  have e1 : nB (seS W (nS W) a b f e d x) = nB W := by unfold nB; rw [seS_o (by omega) (by omega)]
  have e2 : nD (seS W (nS W) a b f e d x) = nD W := by unfold nD; rw [seS_o (by omega) (by omega)]
  obtain ⟨f0, f1, f2, f3, f4, f5, f6⟩ := seS_f (W := W) (s := nS W) (a := a) (b := b) (f := f) (e := e) (d := d) (x := x)
  obtain ⟨⟨a1, a2, a3, a4, a5, a6, a7, a8⟩, b1, b2, b3⟩ := h.2.1
  have I : ∀ j, j ≠ 4 → sI σ' c j = sI σ c j := fun j hj => k.2 _ _ (by omega)
  refine h.kw k (fun a j z => by omega) (seS_o (by omega) (by omega)) (seS_o (by omega) (by omega)) (fun k hk => seS_o (by omega) (by omega)) ⟨?_, fun s f' x1 y1 => ?_, fun s f' x1 y1 => ?_, fun s f' x1 y1 => ?_⟩ (fun s hs' => ?_)
  · rw [seS_0, seS_o (by omega) (by omega), seS_o (by omega) (by omega), seS_o (by omega) (by omega), seS_o (by omega) (by omega), seS_o (by omega) (by omega), seS_o (by omega) (by omega), seS_o (by omega) (by omega), I 5 (by omega), I 6 (by omega), I 7 (by omega), I 8 (by omega), I 9 (by omega), I 10 (by omega), I 11 (by omega)]
    exact ⟨h4, a2, a3, a4, a5, a6, a7, a8⟩
  · rw [s1] at x1
    by_cases z : s = nS W
    · subst z
      obtain ⟨g0, g1, g2, g3, g4, g5, g6⟩ := hc
      unfold sh
      rcases (by omega : f' = 0 ∨ f' = 1 ∨ f' = 2 ∨ f' = 3 ∨ f' = 4 ∨ f' = 5 ∨ f' = 6) with q | q | q | q | q | q | q <;> subst q
      · rw [f0, g0]
      · rw [f1, g1]
      · rw [f2, g2]
      · rw [f3, g3]
      · rw [f4, g4]
      · rw [f5, g5]
      · rw [f6, g6]
    · unfold sh
      rw [k.2 _ _ (by omega), seS_o (by omega) (by omega)]; exact b1 s f' (by omega) y1
  · rw [e1] at x1
    unfold br
    rw [k.2 _ _ (by omega), seS_o (by omega) (by omega)]; exact b2 s f' x1 y1
  · rw [e2] at x1
    unfold de
    rw [k.2 _ _ (by omega), seS_o (by omega) (by omega)]; exact b3 s f' x1 y1
  · rw [k.2 _ _ (by omega)]; exact h.2.2.2.2.2 s hs'
theorem seB_o {s a b x j : Nat} (h0 : j ≠ 1) (h : j < 52 + 3 * s ∨ 52 + 3 * s + 3 ≤ j) : seB W s a b x j = W j := by
  unfold seB
  rw [uW_n h0, uW_n (by omega), uW_n (by omega), uW_n (by omega)]
theorem seB_1 {s a b x : Nat} : seB W s a b x 1 = nI (s + 1) := uW_s _ _ _
theorem seB_f {s a b x : Nat} : seB W s a b x (52 + 3 * s + 0) = nI a ∧ seB W s a b x (52 + 3 * s + 1) = nI b ∧ seB W s a b x (52 + 3 * s + 2) = nI x := by
  unfold seB
  refine ⟨?_, ?_, ?_⟩
  · rw [uW_n (by omega), uW_n (by omega), uW_n (by omega), uW_s]
  · rw [uW_n (by omega), uW_n (by omega), uW_s]
  · rw [uW_n (by omega), uW_s]
theorem WF_seB (h : WF W) {a b x : Nat} (hs : nB W < 5) (ha : a ≤ 999) (hb : b ≤ 15) (hx : 1 ≤ x ∧ x ≤ 4) : WF (seB W (nB W) a b x) := by
  have b5 := (WF_nS h).2
  have d8 := (WF_nD h).2
  obtain ⟨⟨h1, h1b, h2⟩, h3, h4, h5⟩ := h
  have s1 : nB (seB W (nB W) a b x) = nB W + 1 := nB_of seB_1 (by omega)
  have e1 : nS (seB W (nB W) a b x) = nS W := by unfold nS; rw [seB_o (by omega) (by omega)]
  have e2 : nD (seB W (nB W) a b x) = nD W := by unfold nD; rw [seB_o (by omega) (by omega)]
  obtain ⟨f0, f1, f2⟩ := seB_f (W := W) (s := nB W) (a := a) (b := b) (x := x)
  refine ⟨⟨by rw [seB_o (by omega) (by omega)]; exact h1, by rw [seB_1]; exact btw_n (by omega) (by omega), ?_⟩, fun s hs' => ?_, fun s hs' => ?_, fun s hs' => ?_⟩
  · rw [seB_o (by omega) (by omega), seB_o (by omega) (by omega), seB_o (by omega) (by omega), seB_o (by omega) (by omega), seB_o (by omega) (by omega), seB_o (by omega) (by omega), seB_o (by omega) (by omega)]; exact h2
  · rw [e1] at hs'
    have := h3 s hs'
    unfold WFs sh at this ⊢
    rw [seB_o (by omega) (by omega), seB_o (by omega) (by omega), seB_o (by omega) (by omega), seB_o (by omega) (by omega), seB_o (by omega) (by omega), seB_o (by omega) (by omega), seB_o (by omega) (by omega)]; exact this
  · rw [s1] at hs'
    by_cases z : s = nB W
    · subst z
      unfold WFb br
      rw [f0, f1, f2]
      exact ⟨btw_n (by omega) (by omega), btw_n (by omega) (by omega), by rw [btw, tnI (by omega)]; omega⟩
    · have := h4 s (by omega)
      unfold WFb br at this ⊢
      rw [seB_o (by omega) (by omega), seB_o (by omega) (by omega), seB_o (by omega) (by omega)]; exact this
  · rw [e2] at hs'
    have := h5 s hs'
    unfold WFd de at this ⊢
    rw [s1, seB_o (by omega) (by omega), seB_o (by omega) (by omega), seB_o (by omega) (by omega), seB_o (by omega) (by omega), seB_o (by omega) (by omega), seB_o (by omega) (by omega)]
    obtain ⟨q1, q2, q3, q4, q5, q6⟩ := this
    exact ⟨q1, q2, q3, q4, ⟨q5.1, by have := q5.2; omega⟩, q6⟩
theorem CV.nb (h : CV σ c W L) (hW : WF W) {a b x : Nat} (hs : nB W < 5) (k : Kp (fun q j => q = c + 13 + nB W ∨ (q = c ∧ j = 5)) σ σ') (h4 : sI σ' c 5 = nI (nB W + 1)) (hc : sI σ' (c + 13 + nB W) 0 = nI a ∧ sI σ' (c + 13 + nB W) 1 = nI b ∧ sI σ' (c + 13 + nB W) 2 = nI x) : CV σ' c (seB W (nB W) a b x) L := by
  have b5 := (WF_nS hW).2
  have d8 := (WF_nD hW).2
  have s1 : nB (seB W (nB W) a b x) = nB W + 1 := nB_of seB_1 (by omega)
  have e1 : nS (seB W (nB W) a b x) = nS W := by unfold nS; rw [seB_o (by omega) (by omega)]
  have e2 : nD (seB W (nB W) a b x) = nD W := by unfold nD; rw [seB_o (by omega) (by omega)]
  obtain ⟨f0, f1, f2⟩ := seB_f (W := W) (s := nB W) (a := a) (b := b) (x := x)
  obtain ⟨⟨a1, a2, a3, a4, a5, a6, a7, a8⟩, b1, b2, b3⟩ := h.2.1
  have I : ∀ j, j ≠ 5 → sI σ' c j = sI σ c j := fun j hj => k.2 _ _ (by omega)
  refine h.kw k (fun a j z => by omega) (seB_o (by omega) (by omega)) (seB_o (by omega) (by omega)) (fun k hk => seB_o (by omega) (by omega)) ⟨?_, fun s f' x1 y1 => ?_, fun s f' x1 y1 => ?_, fun s f' x1 y1 => ?_⟩ (fun s hs' => ?_)
  · rw [seB_1, seB_o (by omega) (by omega), seB_o (by omega) (by omega), seB_o (by omega) (by omega), seB_o (by omega) (by omega), seB_o (by omega) (by omega), seB_o (by omega) (by omega), seB_o (by omega) (by omega), I 4 (by omega), I 6 (by omega), I 7 (by omega), I 8 (by omega), I 9 (by omega), I 10 (by omega), I 11 (by omega)]
    exact ⟨a1, h4, a3, a4, a5, a6, a7, a8⟩
  · rw [e1] at x1
    unfold sh
    rw [k.2 _ _ (by omega), seB_o (by omega) (by omega)]; exact b1 s f' x1 y1
  · rw [s1] at x1
    by_cases z : s = nB W
    · subst z
      obtain ⟨g0, g1, g2⟩ := hc
      unfold br
      rcases (by omega : f' = 0 ∨ f' = 1 ∨ f' = 2) with q | q | q <;> subst q
      · rw [f0, g0]
      · rw [f1, g1]
      · rw [f2, g2]
    · unfold br
      rw [k.2 _ _ (by omega), seB_o (by omega) (by omega)]; exact b2 s f' (by omega) y1
  · rw [e2] at x1
    unfold de
    rw [k.2 _ _ (by omega), seB_o (by omega) (by omega)]; exact b3 s f' x1 y1
  · rw [k.2 _ _ (by omega)]; exact h.2.2.2.2.2 s hs'
theorem seD_o {s a f e x j : Nat} (h0 : j ≠ 2) (h : j < 67 + 7 * s ∨ 67 + 7 * s + 7 ≤ j) : seD W s a f e x j = W j := by
  unfold seD
  rw [uW_n h0, uW_n (by omega), uW_n (by omega), uW_n (by omega), uW_n (by omega), uW_n (by omega), uW_n (by omega), uW_n (by omega)]
theorem seD_2 {s a f e x : Nat} : seD W s a f e x 2 = nI (s + 1) := uW_s _ _ _
theorem seD_f {s a f e x : Nat} : seD W s a f e x (67 + 7 * s + 0) = nI a ∧ seD W s a f e x (67 + 7 * s + 1) = nI f ∧ seD W s a f e x (67 + 7 * s + 2) = nI e ∧ seD W s a f e x (67 + 7 * s + 3) = nI x ∧ seD W s a f e x (67 + 7 * s + 4) = -1 ∧ seD W s a f e x (67 + 7 * s + 5) = 0 ∧ seD W s a f e x (67 + 7 * s + 6) = 0 := by
  unfold seD
  refine ⟨?_, ?_, ?_, ?_, ?_, ?_, ?_⟩
  · rw [uW_n (by omega), uW_n (by omega), uW_n (by omega), uW_n (by omega), uW_n (by omega), uW_s]
  · rw [uW_n (by omega), uW_n (by omega), uW_n (by omega), uW_n (by omega), uW_n (by omega), uW_n (by omega), uW_n (by omega), uW_s]
  · rw [uW_n (by omega), uW_n (by omega), uW_n (by omega), uW_n (by omega), uW_n (by omega), uW_n (by omega), uW_s]
  · rw [uW_n (by omega), uW_n (by omega), uW_n (by omega), uW_n (by omega), uW_s]
  · rw [uW_n (by omega), uW_n (by omega), uW_n (by omega), uW_s]
  · rw [uW_n (by omega), uW_n (by omega), uW_s]
  · rw [uW_n (by omega), uW_s]
theorem WF_seD (h : WF W) {a f e x : Nat} (hs : nD W < 8) (ha : a ≤ 15) (hf : f ≤ 999) (he : e ≤ 999) (hx : x ≤ 999) : WF (seD W (nD W) a f e x) := by
  have b5 := (WF_nS h).2
  have d8 := (WF_nB h).2
  obtain ⟨⟨h1, h1b, h1c, h2⟩, h3, h4, h5⟩ := h
  have s1 : nD (seD W (nD W) a f e x) = nD W + 1 := nD_of seD_2 (by omega)
  have e1 : nS (seD W (nD W) a f e x) = nS W := by unfold nS; rw [seD_o (by omega) (by omega)]
  have e2 : nB (seD W (nD W) a f e x) = nB W := by unfold nB; rw [seD_o (by omega) (by omega)]
  obtain ⟨f0, f1, f2, f3, f4, f5, f6⟩ := seD_f (W := W) (s := nD W) (a := a) (f := f) (e := e) (x := x)
  refine ⟨⟨by rw [seD_o (by omega) (by omega)]; exact h1, by rw [seD_o (by omega) (by omega)]; exact h1b, by rw [seD_2]; exact btw_n (by omega) (by omega), ?_⟩, fun s hs' => ?_, fun s hs' => ?_, fun s hs' => ?_⟩
  · rw [seD_o (by omega) (by omega), seD_o (by omega) (by omega), seD_o (by omega) (by omega), seD_o (by omega) (by omega), seD_o (by omega) (by omega), seD_o (by omega) (by omega)]; exact h2
  · rw [e1] at hs'
    have := h3 s hs'
    unfold WFs sh at this ⊢
    rw [seD_o (by omega) (by omega), seD_o (by omega) (by omega), seD_o (by omega) (by omega), seD_o (by omega) (by omega), seD_o (by omega) (by omega), seD_o (by omega) (by omega), seD_o (by omega) (by omega)]; exact this
  · rw [e2] at hs'
    have := h4 s hs'
    unfold WFb br at this ⊢
    rw [seD_o (by omega) (by omega), seD_o (by omega) (by omega), seD_o (by omega) (by omega)]; exact this
  · rw [s1] at hs'
    by_cases z : s = nD W
    · subst z
      unfold WFd de
      rw [e2, f0, f1, f2, f3, f4, f6]
      exact ⟨btw_n (by omega) (by omega), btw_n (by omega) (by omega), btw_n (by omega) (by omega), btw_n (by omega) (by omega), ⟨by decide, by rw [show (-1 : Int32).toInt = -1 by decide]; omega⟩, btw_n (n := 0) (by omega) (by omega), fun _ => rfl⟩
    · have := h5 s (by omega)
      unfold WFd de at this ⊢
      rw [e2, seD_o (by omega) (by omega), seD_o (by omega) (by omega), seD_o (by omega) (by omega), seD_o (by omega) (by omega), seD_o (by omega) (by omega), seD_o (by omega) (by omega)]; exact this
theorem CV.nd (h : CV σ c W L) (hW : WF W) {a f e x : Nat} (hs : nD W < 8) (k : Kp (fun q j => q = c + 18 + nD W ∨ (q = c ∧ j = 6)) σ σ') (h4 : sI σ' c 6 = nI (nD W + 1)) (hc : sI σ' (c + 18 + nD W) 0 = nI a ∧ sI σ' (c + 18 + nD W) 1 = nI f ∧ sI σ' (c + 18 + nD W) 2 = nI e ∧ sI σ' (c + 18 + nD W) 3 = nI x ∧ sI σ' (c + 18 + nD W) 4 = -1 ∧ sI σ' (c + 18 + nD W) 5 = 0 ∧ sI σ' (c + 18 + nD W) 6 = 0) : CV σ' c (seD W (nD W) a f e x) L := by
  have b5 := (WF_nS hW).2
  have d8 := (WF_nB hW).2
  have s1 : nD (seD W (nD W) a f e x) = nD W + 1 := nD_of seD_2 (by omega)
  have e1 : nS (seD W (nD W) a f e x) = nS W := by unfold nS; rw [seD_o (by omega) (by omega)]
  have e2 : nB (seD W (nD W) a f e x) = nB W := by unfold nB; rw [seD_o (by omega) (by omega)]
  obtain ⟨f0, f1, f2, f3, f4, f5, f6⟩ := seD_f (W := W) (s := nD W) (a := a) (f := f) (e := e) (x := x)
  obtain ⟨⟨a1, a2, a3, a4, a5, a6, a7, a8⟩, b1, b2, b3⟩ := h.2.1
  have I : ∀ j, j ≠ 6 → sI σ' c j = sI σ c j := fun j hj => k.2 _ _ (by omega)
  obtain ⟨g0, g1, g2, g3, g4, g5, g6⟩ := hc
  refine h.kw k (fun a j z => by omega) (seD_o (by omega) (by omega)) (seD_o (by omega) (by omega)) (fun k hk => seD_o (by omega) (by omega)) ⟨?_, fun s f' x1 y1 => ?_, fun s f' x1 y1 => ?_, fun s f' x1 y1 => ?_⟩ (fun s hs' => ?_)
  · rw [seD_2, seD_o (by omega) (by omega), seD_o (by omega) (by omega), seD_o (by omega) (by omega), seD_o (by omega) (by omega), seD_o (by omega) (by omega), seD_o (by omega) (by omega), seD_o (by omega) (by omega), I 4 (by omega), I 5 (by omega), I 7 (by omega), I 8 (by omega), I 9 (by omega), I 10 (by omega), I 11 (by omega)]
    exact ⟨a1, a2, h4, a4, a5, a6, a7, a8⟩
  · rw [e1] at x1
    unfold sh
    rw [k.2 _ _ (by omega), seD_o (by omega) (by omega)]; exact b1 s f' x1 y1
  · rw [e2] at x1
    unfold br
    rw [k.2 _ _ (by omega), seD_o (by omega) (by omega)]; exact b2 s f' x1 y1
  · rw [s1] at x1
    by_cases z : s = nD W
    · subst z
      unfold de
      rcases (by omega : f' = 0 ∨ f' = 1 ∨ f' = 2 ∨ f' = 3 ∨ f' = 4 ∨ f' = 5 ∨ f' = 6) with q | q | q | q | q | q | q <;> subst q
      · rw [f0, g0]
      · rw [f1, g1]
      · rw [f2, g2]
      · rw [f3, g3]
      · rw [f4, g4]
      · rw [f5, g5]
      · rw [f6, g6]
    · unfold de
      rw [k.2 _ _ (by omega), seD_o (by omega) (by omega)]; exact b3 s f' (by omega) y1
  · by_cases z : s = nD W
    · subst z; exact Or.inl g6
    · rw [k.2 _ _ (by omega)]; exact h.2.2.2.2.2 s hs'
/-- road, wage, minute, texts -/
theorem CV.z' (h : CV σ c W L) {f k : Nat} {v : Int32} (hf : (f = 7 ∧ k = 3) ∨ (f = 8 ∧ k = 6) ∨ (f = 9 ∧ k = 7) ∨ (f = 10 ∧ k = 5)) : CV (wI σ c f v) c (uW W k v) L := by
  refine h.wr (by omega) (uW_n (by omega)) (uW_n (by omega)) (fun k hk => uW_n (by omega)) ?_ (fun ⟨d, hd, _⟩ => by omega)
  obtain ⟨⟨a1, a2, a3, a4, a5, a6, a7, a8⟩, b1, b2, b3⟩ := h.2.1
  have n : ∀ q j, q ≠ c → sI (wI σ c f v) q j = sI σ q j := fun q j hq => sI_wIn (fun z => hq z.1)
  refine ⟨?_, fun s' f' x y => ?_, fun s' f' x y => ?_, fun s' f' x y => ?_⟩
  · have key : ∀ f' k', sI σ c f' = W k' → (f' = f ↔ k' = k) → sI (wI σ c f v) c f' = uW W k v k' := fun f' k' e1 e2 => by
      by_cases z : f' = f
      · rw [z, sI_wIs, e2.mp z, uW_s]
      · rw [sI_wIn (fun q => z q.2), uW_n (fun q => z (e2.mpr q))]; exact e1
    exact ⟨key _ _ a1 (by omega), key _ _ a2 (by omega), key _ _ a3 (by omega), key _ _ a4 (by omega), key _ _ a5 (by omega), key _ _ a6 (by omega), key _ _ a7 (by omega), key _ _ a8 (by omega)⟩
  · rw [nS_u (by omega)] at x
    rw [n _ _ (by omega), b1 s' f' x y, sh_u (by omega)]
  · rw [nB_u (by omega)] at x
    rw [n _ _ (by omega), b2 s' f' x y, br_u (by omega)]
  · rw [nD_u (by omega)] at x
    rw [n _ _ (by omega), b3 s' f' x y, de_u (by omega)]
theorem WF.z' (h : WF W) {k : Nat} {v : Int32} (hk : (k = 3 ∧ btw v 0 12) ∨ (k = 6 ∧ btw v 0 15) ∨ (k = 7 ∧ btw v 0 99) ∨ (k = 5 ∧ btw v 0 9999)) : WF (uW W k v) := by
  obtain ⟨⟨h0, h1, h2, h3, h4, h5, h6, h7, h8⟩, g1, g2, g3⟩ := h
  refine ⟨⟨by rw [uW_n (by omega)]; exact h0, by rw [uW_n (by omega)]; exact h1, by rw [uW_n (by omega)]; exact h2, ?_, by rw [uW_n (by omega)]; exact h4, ?_, ?_, ?_, by rw [uW_n (by omega)]; exact h8⟩, fun s hs => ?_, fun s hs => ?_, fun s hs => ?_⟩
  · rcases hk with ⟨rfl, q⟩ | ⟨rfl, q⟩ | ⟨rfl, q⟩ | ⟨rfl, q⟩
    · rw [uW_s]; exact q
    all_goals rw [uW_n (by omega)]; exact h3
  · rcases hk with ⟨rfl, q⟩ | ⟨rfl, q⟩ | ⟨rfl, q⟩ | ⟨rfl, q⟩
    · rw [uW_n (by omega)]; exact h5
    · rw [uW_n (by omega)]; exact h5
    · rw [uW_n (by omega)]; exact h5
    · rw [uW_s]; exact q
  · rcases hk with ⟨rfl, q⟩ | ⟨rfl, q⟩ | ⟨rfl, q⟩ | ⟨rfl, q⟩
    · rw [uW_n (by omega)]; exact h6
    · rw [uW_s]; exact q
    · rw [uW_n (by omega)]; exact h6
    · rw [uW_n (by omega)]; exact h6
  · rcases hk with ⟨rfl, q⟩ | ⟨rfl, q⟩ | ⟨rfl, q⟩ | ⟨rfl, q⟩
    · rw [uW_n (by omega)]; exact h7
    · rw [uW_n (by omega)]; exact h7
    · rw [uW_s]; exact q
    · rw [uW_n (by omega)]; exact h7
  · rw [nS_u (by omega)] at hs
    have := g1 s hs
    unfold WFs at this ⊢
    rw [sh_u (by omega), sh_u (by omega), sh_u (by omega), sh_u (by omega), sh_u (by omega), sh_u (by omega), sh_u (by omega)]; exact this
  · rw [nB_u (by omega)] at hs
    have := g2 s hs
    unfold WFb at this ⊢
    rw [br_u (by omega), br_u (by omega), br_u (by omega)]; exact this
  · rw [nD_u (by omega)] at hs
    have := g3 s hs
    unfold WFd at this ⊢
    rw [de_u (by omega), de_u (by omega), de_u (by omega), de_u (by omega), de_u (by omega), de_u (by omega), nB_u (by omega)]; exact this
end E6
