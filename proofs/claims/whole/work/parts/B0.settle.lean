/-! deeds settled -/
def ow (W : WW) (d : Nat) : Nat := (de W d 4).toInt.toNat
def onB (W : WW) (d : Nat) : Bool := decide (de W d 4 ≠ -1 ∧ (de W d 1).toInt ≤ (W 5).toInt ∧ (W 5).toInt ≤ (de W d 2).toInt)
def litB (W : WW) (d : Nat) : Bool := decide (arN W (W 6).toInt.toNat (W 5).toInt.toNat = some (de W d 0).toInt.toNat)
def pyI (W L : WW) (d : Nat) : Int32 := pay W L (ow W d) d (W 5).toInt.toNat
def pyW (W L : WW) (d : Nat) : WW := logW (uW (uW W (67 + 7 * d + 5) (de W d 5 + 1)) (52 + 3 * ow W d + 0) (ern (br W (ow W d) 0) (pyI W L d))) d (pyI W L d)
def inW (W : WW) (d : Nat) : WW := if de W d 6 ≠ 0 ∧ de W d 2 = W 5 ∧ de W d 5 = 0 then uW W (52 + 3 * ow W d + 0) (ern (br W (ow W d) 0) (de W d 3)) else W
def seW (W L : WW) (d : Nat) : WW := if onB W d = true then inW (if litB W d = true then pyW W L d else W) d else W
def seI (W : WW) (d : Nat) (n : Int32) : Int32 := if onB W d = true ∧ litB W d = true then n + 1 else n
/-- all deeds: the world and the number of the lit -/
def seG (L : WW) : Nat → WW × Int32 → WW × Int32 := fun d p => (seW p.1 L d, seI p.1 d p.2)
def seF (W L : WW) : WW × Int32 := fo (seG L) 0 (nD W) (W, 0)
/-- what settling keeps -/
def KpS (W W' : WW) : Prop := ∀ k, k < 52 → k ≠ 8 → W' k = W k
theorem KpS.n {W W' : WW} (h : KpS W W') : nS W' = nS W ∧ nB W' = nB W ∧ nD W' = nD W := by
  unfold nS nB nD
  rw [h 0 (by omega) (by omega), h 1 (by omega) (by omega), h 2 (by omega) (by omega)]
  exact ⟨rfl, rfl, rfl⟩
theorem arN_cg {W W' : WW} (h0 : nS W' = nS W) (h6 : nS W ≤ 6) (h : ∀ s f, s < 6 → f < 6 → sh W' s f = sh W s f) (h2 : ∀ s, s < 6 → (sh W' s 6 = 2 ↔ sh W s 6 = 2)) (a j : Nat) : arN W' a j = arN W a j := by
  have w : ∀ f, wetB W' f j = wetB W f j := fun f => by
    unfold wetB bs
    rw [h0]
    refine fo_cong _ _ _ fun s b h1 h3 => ?_
    unfold bsg wetp lies
    rw [h s 0 (by omega) (by omega), h s 1 (by omega) (by omega), h s 2 (by omega) (by omega), h s 3 (by omega) (by omega), h s 4 (by omega) (by omega)]
    have : decide (sh W' s 6 ≠ 2) = decide (sh W s 6 ≠ 2) := decide_eq_decide.mpr (not_congr (h2 s (by omega)))
    rw [this]
  unfold arN
  cases ftN a j with
  | none => rfl
  | some f => show (if wetB W' f j = 0 then none else some f) = (if wetB W f j = 0 then none else some f); rw [w f]
theorem KpS.ar {W W' : WW} (h : KpS W W') (hw : WF W) (a j : Nat) : arN W' a j = arN W a j := arN_cg h.n.1 (WF_nS hw).2 (fun s f h1 h2 => h _ (by omega) (by omega)) (fun s h1 => by unfold sh; rw [h _ (by omega) (by omega)]) a j
/-- facts of the world that follows -/
theorem pyW_n {W L : WW} {d k : Nat} (hk : k < 123) (h8 : k ≠ 8) (h1 : k ≠ 67 + 7 * d + 5) (h2 : k ≠ 52 + 3 * ow W d + 0) : pyW W L d k = W k := by
  unfold pyW
  rw [logW_n hk h8, uW_n h2, uW_n h1]
theorem ow_b {W : WW} (hw : WF W) {d : Nat} (hd : d < nD W) (h : de W d 4 ≠ -1) : de W d 4 = nI (ow W d) ∧ ow W d < nB W := own_b hw hd h
theorem pyW_k {W L : WW} {d : Nat} : KpS W (pyW W L d) := fun k h1 h2 => pyW_n (by omega) h2 (by omega) (by omega)
theorem pyW_d {W L : WW} {d f : Nat} (hd : d < 8) (hf : f < 7) (h5 : f ≠ 5) (ho : ow W d < 5) : de (pyW W L d) d f = de W d f := pyW_n (by omega) (by omega) (by omega) (by omega)
theorem inW_k {W : WW} {d : Nat} : KpS W (inW W d) := fun k h1 h2 => by
  unfold inW
  split
  · rw [uW_n (by omega)]
  · rfl
theorem seW_k {W L : WW} {d : Nat} : KpS W (seW W L d) := fun k h1 h2 => by
  unfold seW
  split
  · rw [inW_k k h1 h2]
    split
    · exact pyW_k k h1 h2
    · rfl
  · rfl
theorem pyW_w {W L : WW} {d : Nat} (hw : WF W) (hl : W 4 = 1 → LWF L) (ha : W 4 = 1 → LWA L) (hd : d < nD W) (ho : de W d 4 ≠ -1) : WF (pyW W L d) := by
  have h5 := (WF_nB hw).2
  have h8 := (WF_nD hw).2
  obtain ⟨_, o2⟩ := ow_b hw hd ho
  have pb := pay_b hw hl ha (ow W d) d (W 5).toInt.toNat
  have bb := (hw.2.2.1 (ow W d) o2).1
  have w1 := hw.d5 (d := d) (v := de W d 5 + 1) (by omega)
  have w2 := w1.b0 (b := ow W d) (v := ern (br W (ow W d) 0) (pyI W L d)) (by omega) (ern_b bb (by unfold pyI; unfold btw at pb ⊢; omega))
  exact w2.lg d (pyI W L d)
theorem inW_w {W : WW} {d : Nat} (hw : WF W) (hd : d < nD W) (ho : de W d 4 ≠ -1) : WF (inW W d) := by
  have h5 := (WF_nB hw).2
  have h8 := (WF_nD hw).2
  obtain ⟨_, o2⟩ := ow_b hw hd ho
  have bb := (hw.2.2.1 (ow W d) o2).1
  have b3 := (hw.2.2.2 d hd).2.2.2.1
  unfold inW
  split
  · exact hw.b0 (by omega) (ern_b bb (by unfold btw at b3 ⊢; omega))
  · exact hw
theorem pyW_o {W L : WW} {d : Nat} (hw : WF W) (hd : d < nD W) (ho : de W d 4 ≠ -1) : de (pyW W L d) d 4 ≠ -1 ∧ ow (pyW W L d) d = ow W d := by
  have h5 := (WF_nB hw).2
  have h8 := (WF_nD hw).2
  obtain ⟨_, o2⟩ := ow_b hw hd ho
  have e : de (pyW W L d) d 4 = de W d 4 := pyW_d (by omega) (by omega) (by omega) (by omega)
  exact ⟨by rw [e]; exact ho, by unfold ow; rw [e]⟩
theorem seW_w {W L : WW} {d : Nat} (hw : WF W) (hl : W 4 = 1 → LWF L) (ha : W 4 = 1 → LWA L) (hd : d < nD W) : WF (seW W L d) := by
  unfold seW
  by_cases h : onB W d = true
  · rw [if_pos h]
    have ho : de W d 4 ≠ -1 := by unfold onB at h; exact (of_decide_eq_true h).1
    by_cases h2 : litB W d = true
    · rw [if_pos h2]
      exact inW_w (pyW_w hw hl ha hd ho) (by rw [(pyW_k (L := L) (d := d)).n.2.2]; exact hd) (pyW_o hw hd ho).1
    · rw [if_neg h2]; exact inW_w hw hd ho
  · rw [if_neg h]; exact hw
section B0
variable {σ τ : SH} {W L : WW} {c : Nat}
theorem CV.lg {σ' : SH} (h : CV σ c W L) (hw : WF W) (k : Kp (fun a _ => a = c + 4 ∨ a = c + 5) σ σ') {d : Nat} {v : Int32} (hg : LG σ' c (logW W d v)) : CV σ' c (logW W d v) L := by
  have s6 := (WF_nS hw).2
  have b5 := (WF_nB hw).2
  have d8 := (WF_nD hw).2
  have nn : ∀ k, k < 123 → k ≠ 8 → logW W d v k = W k := fun k h1 h2 => logW_n h1 h2
  have nS' : nS (logW W d v) = nS W := by unfold nS; rw [nn 0 (by omega) (by omega)]
  have nB' : nB (logW W d v) = nB W := by unfold nB; rw [nn 1 (by omega) (by omega)]
  have nD' : nD (logW W d v) = nD W := by unfold nD; rw [nn 2 (by omega) (by omega)]
  obtain ⟨⟨g1, g2⟩, ⟨c1, c2, c3, c4⟩, ⟨g5, g6⟩, g7, _, g9⟩ := h
  have k' : Kp (fun a _ => a < 624) σ σ' := k.mono fun a _ z => by omega
  refine ⟨⟨g1.kp k, g2⟩, ⟨?_, fun s f x y => ?_, fun s f x y => ?_, fun s f x y => ?_⟩, ⟨?_, by rw [nn 4 (by omega) (by omega)]; exact g6⟩, g7.kp k (fun a j z1 z2 => by omega), hg, fun d hd => ?_⟩
  · rw [nn 0 (by omega) (by omega), nn 1 (by omega) (by omega), nn 2 (by omega) (by omega), nn 3 (by omega) (by omega), nn 6 (by omega) (by omega), nn 7 (by omega) (by omega), nn 5 (by omega) (by omega), nn 9 (by omega) (by omega)]
    have I : ∀ j, sI σ' c j = sI σ c j := fun j => k.2 _ _ (by omega)
    simp only [I]; exact c1
  · rw [nS'] at x; rw [k.2 _ _ (by omega), c2 s f x y]; exact (nn _ (by omega) (by omega)).symm
  · rw [nB'] at x; rw [k.2 _ _ (by omega), c3 s f x y]; exact (nn _ (by omega) (by omega)).symm
  · rw [nD'] at x; rw [k.2 _ _ (by omega), c4 s f x y]; exact (nn _ (by omega) (by omega)).symm
  · rcases g5 with ⟨h1, h2⟩ | ⟨q, h1, h2, h3, h4, h5⟩
    · exact Or.inl ⟨by rw [k.V]; exact h1, by rw [nn 4 (by omega) (by omega)]; exact h2⟩
    · exact Or.inr ⟨q, by rw [k.Z]; exact h1, by rw [k.V]; exact h2, h3.kp k (fun a j z1 z2 z3 => by omega), h4, by rw [nn 4 (by omega) (by omega)]; exact h5⟩
  · rw [k.2 _ _ (by omega)]; exact g9 d hd
/-- while a county judges -/
theorem CV.kj {σ' : SH} (h : CV σ c W L) (hw : WF W) (k : Kp (CJ σ c) σ σ') : CV σ' c W L := by
  have hc := h.1.2
  have ct := (h.ct hw).kp k
  have I : ∀ a j, c ≤ a → a < c + 26 → a ≠ c + 6 → sI σ' a j = sI σ a j := fun a j h1 h2 h3 => k.2 a j (fun z => by rcases z with z | ⟨z, _⟩ <;> omega)
  refine ⟨⟨ct.1, hc⟩, ct.2.1, ⟨ct.2.2.2.1, h.2.2.1.2⟩, ct.2.2.2.2.1, h.2.2.2.2.1.cg (fun j => I _ j (by omega) (by omega) (by omega)) (fun j => I _ j (by omega) (by omega) (by omega)) rfl (fun _ _ => rfl), fun d hd => ?_⟩
  rw [I _ _ (by omega) (by omega) (by omega)]; exact h.2.2.2.2.2 d hd
/-- where settling writes -/
def JS (c : Nat) (σ : SH) (a _k : Nat) : Prop := (c ≤ a ∧ a < c + 26) ∨ Stq σ a
theorem JS_e {σ' : SH} (e : σ'.2 = σ.2) : JS c σ' = JS c σ := by
  funext a k
  unfold JS Stq sT
  rw [e]
theorem CV.cj (h : CV σ c W L) : ∀ a k, CJ σ c a k → JS c σ a k := fun a k z => by
  rcases z with z | ⟨z1, z2⟩
  · exact Or.inl (by omega)
  · refine Or.inr ?_
    rcases h.2.2.1.1 with ⟨e1, _⟩ | ⟨q, e1, e2, e3, _⟩
    · rw [e1] at z2; cases z2
    · rw [e2] at z2
      have this : (q : Nat) = a - 5 := Value.ref.inj z2
      have ht := e3.1.1
      rw [this] at ht
      exact ⟨by omega, ht⟩
theorem m_19t (h : CV σ c W L) (hw : WF W) {d : Nat} (hd : d < nD W) (ho : de W d 4 ≠ -1) (n b : Int32) (o9 : Option Value) : ∃ σ', exec PP 5 19 122 [some (.ref c), some (.int n), some (.int b), some (.int (nI d)), some (.ref (c + 18 + d)), some (.ref (c + 13 + ow W d)), o9] [] σ = exec PP 5 19 17 [some (.ref c), some (.int n), some (.int b), some (.int (nI (d + 1))), none, none, none] [] σ' ∧ CV σ' c (inW W d) L ∧ Kp (JS c σ) σ σ' := by
  have h5 := (WF_nB hw).2
  have h8 := (WF_nD hw).2
  have h6 := (WF_nS hw).2
  obtain ⟨_, o2⟩ := ow_b hw hd ho
  have hS := h.1.1
  have td := (hS.2.2.2.2.2 d (by omega)).2
  have tb := (hS.2.2.2.2.1 (ow W d) (by omega)).2
  have cd : ∀ f, f < 7 → sI σ (c + 18 + d) f = de W d f := fun f hf => h.2.1.2.2.2 d f hd hf
  have cb := h.2.1.2.2.1 (ow W d) 0 o2 (by omega)
  have base : exec PP 5 19 122 [some (.ref c), some (.int n), some (.int b), some (.int (nI d)), some (.ref (c + 18 + d)), some (.ref (c + 13 + ow W d)), o9] [] σ = (if (de W d 6 = 0 : Prop) then exec PP 5 19 17 [some (.ref c), some (.int n), some (.int b), some (.int (nI (d + 1))), none, none, none] [] σ else (if (de W d 2 = W 5 : Prop) then (if (de W d 5 = 0 : Prop) then exec PP 5 19 17 [some (.ref c), some (.int n), some (.int b), some (.int (nI (d + 1))), none, none, none] [] (wI σ (c + 13 + ow W d) 0 (ern (br W (ow W d) 0) (de W d 3))) else exec PP 5 19 17 [some (.ref c), some (.int n), some (.int b), some (.int (nI (d + 1))), none, none, none] [] σ) else exec PP 5 19 17 [some (.ref c), some (.int n), some (.int b), some (.int (nI (d + 1))), none, none, none] [] σ)) := by
    rw [e_19_122, gI_r td, cd 6 (by omega), gI_r td, cd 2 (by omega), gI_r hS.1.1, h.2.1.1.2.2.2.2.2.2.1, gI_r td, cd 5 (by omega), gI_r td, cd 3 (by omega), if_pos tb, m_2 tb, onV_i, cb, e_19_160, nI_1]
  by_cases z : de W d 6 ≠ 0 ∧ de W d 2 = W 5 ∧ de W d 5 = 0
  · refine ⟨wI σ (c + 13 + ow W d) 0 (ern (br W (ow W d) 0) (de W d 3)), ?_, ?_, Kp.w (Or.inl (by omega))⟩
    · rw [base, if_neg z.1, if_pos z.2.1, if_pos z.2.2]
    · unfold inW
      rw [if_pos z]
      exact h.b (by omega) (by omega) h6
  · refine ⟨σ, ?_, ?_, Kp.rf _⟩
    · rw [base]
      by_cases z1 : de W d 6 = 0
      · rw [if_pos z1]
      · rw [if_neg z1]
        by_cases z2 : de W d 2 = W 5
        · rw [if_pos z2, if_neg (fun z3 => z ⟨z1, z2, z3⟩)]
        · rw [if_neg z2]
    · unfold inW
      rw [if_neg z]; exact h
theorem m_19 (h : CV σ c W L) (hw : WF W) : ∃ σ', rn 19 [.ref c] σ = some (.inl (some (.int (seF W L).2)), σ') ∧ CV σ' c (seF W L).1 L ∧ WF (seF W L).1 ∧ KpS W (seF W L).1 ∧ Kp (JS c σ) σ σ' := by
  have hS0 := h.1.1
  have r16 := btw_nI hw.1.2.2.2.2.2.2.1
  have m99 := btw_nI hw.1.2.2.2.2.2.1
  have q20 := m_20 hS0 h.2.1 hw (a := (W 6).toInt.toNat) (j := (W 5).toInt.toNat) (by omega) (by omega)
  rw [← r16.1, ← m99.1] at q20
  obtain ⟨d1, d2⟩ := WF_nD hw
  have hb0 := h.1.2
  obtain ⟨σ', e, k1, k2, k3, k4⟩ := lpS (F := fun i (p : WW × Int32) σ => exec PP 5 19 17 [some (.ref c), some (.int p.2), some (.int (oI (arN W (W 6).toInt.toNat (W 5).toInt.toNat))), some (.int (nI i)), none, none, none] [] σ) (g := seG L) (K := fun p σ => some (.inl (some (.int p.2)), σ)) (I := fun i p ρ => CV ρ c p.1 L ∧ WF p.1 ∧ KpS W p.1 ∧ Kp (JS c σ) σ ρ) (n := nD W) (by
    rintro d ⟨V, n⟩ ρ hi ⟨hv, hW, hk, hf⟩
    try dsimp only at hv hW hk
    have nn := hk.n
    have hd : d < nD V := by omega
    have ar : arN W (W 6).toInt.toNat (W 5).toInt.toNat = arN V (V 6).toInt.toNat (V 5).toInt.toNat := by rw [hk 6 (by omega) (by omega), hk 5 (by omega) (by omega), hk.ar hw]
    rw [ar]
    have hS := hv.1.1
    have td := (hS.2.2.2.2.2 d (by omega)).2
    have c6 : sI ρ c 6 = nI (nD W) := by rw [hv.2.1.1.2.2.1, hk 2 (by omega) (by omega)]; exact d1
    have own := m_16 hv hW hd
    have cd : ∀ f, f < 7 → sI ρ (c + 18 + d) f = de V d f := fun f hf => hv.2.1.2.2.2 d f hd hf
    have jse := JS_e (c := c) hf.1
    have hstep : exec PP 5 19 17 [some (.ref c), some (.int n), some (.int (oI (arN V (V 6).toInt.toNat (V 5).toInt.toNat))), some (.int (nI d)), none, none, none] [] ρ = (if onB V d = true then exec PP 5 19 61 [some (.ref c), some (.int n), some (.int (oI (arN V (V 6).toInt.toNat (V 5).toInt.toNat))), some (.int (nI d)), some (.ref (c + 18 + d)), some (.ref (c + 13 + ow V d)), none] [] ρ else exec PP 5 19 17 [some (.ref c), some (.int n), some (.int (oI (arN V (V 6).toInt.toNat (V 5).toInt.toNat))), some (.int (nI (d + 1))), none, none, none] [] ρ) := by
      rw [e_19_17, gI_r hS.1.1, c6, if_pos (nI_lt hi (by omega)), gR_r hS.1.1 hS.1.2.2.2.1, cD hS (show d < 8 by omega), if_pos hS.1.1, own]
      by_cases z : de V d 4 = -1
      · have nb : onB V d = false := by unfold onB; exact decide_eq_false (fun q => q.1 z)
        rw [if_pos z, onQ_n, nb, if_neg (by decide), e_19_160, nI_1]
      · have obd := ow_b hW hd z
        have h5 := (WF_nB hW).2
        rw [if_neg z, onQ_i, if_neg (show ¬ (c + 13 + (de V d 4).toInt.toNat : Nat) = 39 by omega), gI_r hS.1.1, hv.2.1.1.2.2.2.2.2.2.1, if_pos td, m_23 td, onI_i, cd 1 (by omega), cd 2 (by omega)]
        by_cases y : (de V d 1).toInt ≤ (V 5).toInt ∧ (V 5).toInt ≤ (de V d 2).toInt
        · have nb : onB V d = true := by unfold onB; exact decide_eq_true ⟨z, y.1, y.2⟩
          rw [decide_eq_true y, if_neg (by decide), nb, if_pos rfl]
          rfl
        · have nb : onB V d = false := by unfold onB; exact decide_eq_false (fun q => y q.2)
          rw [decide_eq_false y, if_pos (by decide), nb, if_neg (by decide), e_19_160, nI_1]
    by_cases on : onB V d = true
    · have ho : de V d 4 ≠ -1 := by unfold onB at on; exact (of_decide_eq_true on).1
      obtain ⟨eo, o2⟩ := ow_b hW hd ho
      have h5 := (WF_nB hW).2
      have h6 := (WF_nS hW).2
      have wa := btw_nI (hW.2.2.2 d hd).1
      by_cases lt : litB V d = true
      · have al := of_decide_eq_true lt
        have m5 := btw_nI hW.1.2.2.2.2.2.1
        obtain ⟨ρ1, p1, p2⟩ := m_15 (hv.ct hW) (b := ow V d) (d := d) (j := (V 5).toInt.toNat) hd (by omega)
        rw [← eo, ← m5.1, show pay V L (ow V d) d (V 5).toInt.toNat = pyI V L d from rfl] at p1
        have v1 := hv.kj hW p2
        have S1 := v1.1.1
        have td1 := (S1.2.2.2.2.2 d (by omega)).2
        have v2 := v1.d (s := d) (f := 5) (v := de V d 5 + 1) (by omega) (by omega) ⟨h6, h5⟩ (by omega)
        have tb2 : sT (wI ρ1 (c + 18 + d) 5 (de V d 5 + 1)) (c + 13 + ow V d) = 100 := (S1.2.2.2.2.1 (ow V d) (by omega)).2
        have cb2 : sI (wI ρ1 (c + 18 + d) 5 (de V d 5 + 1)) (c + 13 + ow V d) 0 = br V (ow V d) 0 := by
          rw [sI_wIn (by omega)]; exact v1.2.1.2.2.1 _ 0 o2 (by omega)
        have v3 := v2.b (s := ow V d) (f := 0) (v := ern (br V (ow V d) 0) (pyI V L d)) (by omega) (by omega) (by rw [nS_u (by omega)]; exact h6)
        have w1 := hW.d5 (d := d) (v := de V d 5 + 1) (by omega)
        have pb := pay_b hW hv.lw hv.2.2.1.2 (ow V d) d (V 5).toInt.toNat
        have bb := (hW.2.2.1 (ow V d) o2).1
        have w3 := w1.b0 (b := ow V d) (v := ern (br V (ow V d) 0) (pyI V L d)) (by omega) (ern_b bb (by unfold pyI; unfold btw at pb ⊢; omega))
        obtain ⟨ρ4, q1, q2, q3⟩ := m_52 v3 w3 d (pyI V L d)
        rw [uW_n (by omega), uW_n (by omega), de_u (by omega), de_u (by omega)] at q1
        have v4 : CV ρ4 c (pyW V L d) L := v3.lg w3 q2 q3
        have w4 := pyW_w hW hv.lw hv.2.2.1.2 hd ho
        obtain ⟨o4, o5⟩ := pyW_o (L := L) hW hd ho
        obtain ⟨ρ5, t1, t2, t3⟩ := m_19t v4 w4 (d := d) (by rw [(pyW_k (W := V) (L := L) (d := d)).n.2.2]; exact hd) o4 (n + 1) (oI (arN V (V 6).toInt.toNat (V 5).toInt.toNat)) none
        rw [o5] at t1
        have kp4 : Kp (JS c σ) σ ρ4 := (((hf.tr ((p2.mono (hv.cj)).mono fun a k z => jse ▸ z)).wr (Or.inl (by omega))).wr (Or.inl (by omega))).tr (q2.mono fun a k z => Or.inl (by omega))
        have e5 : oI (arN V (V 6).toInt.toNat (V 5).toInt.toNat) = de V d 0 := by rw [al]; exact wa.1.symm
        refine ⟨ρ5, ?_, ?_, ?_, ?_, kp4.tr (t3.mono fun a k z => (JS_e (c := c) kp4.1) ▸ z)⟩
        · show exec PP 5 19 17 _ _ ρ = exec PP 5 19 17 [some (.ref c), some (.int (seI V d n)), _, _, none, none, none] _ ρ5
          have en : seI V d n = n + 1 := if_pos ⟨on, lt⟩
          rw [en, hstep, if_pos on, ← t1, e_19_61, gI_r td, cd 0 (by omega), if_pos e5.symm, gI_r td, cd 4 (by omega), gI_r hS.1.1, hv.2.1.1.2.2.2.2.2.2.1, if_pos hS.1.1, p1, onI_i, gI_r td1, v1.2.1.2.2.2 d 5 hd (by omega), pI_r td1, if_pos tb2]
          show onV (rn 2 [.ref (c + 13 + ow V d), .int (pyI V L d)] _) _ _ = _
          rw [m_2 tb2, cb2, onV_i]
          have S3 := v3.1.1
          rw [gR_r S3.1.1 S3.1.2.2.2.2.1, gI_r S3.1.1, v3.2.1.1.2.2.2.2.2.2.1, uW_n (by omega), uW_n (by omega), if_pos S3.2.2.1.1, e5, q1, onV_i, e_19_122]
        · show CV ρ5 c (seW V L d) L
          unfold seW
          rw [if_pos on, if_pos lt]; exact t2
        · exact seW_w hW hv.lw hv.2.2.1.2 hd
        · exact fun k x y => (seW_k k x y).trans (hk k x y)
      · obtain ⟨ρ5, t1, t2, t3⟩ := m_19t hv hW hd ho n (oI (arN V (V 6).toInt.toNat (V 5).toInt.toNat)) none
        have ne5 : ¬ de V d 0 = oI (arN V (V 6).toInt.toNat (V 5).toInt.toNat) := fun z => lt (by
          unfold litB
          refine decide_eq_true ?_
          cases ha : arN V (V 6).toInt.toNat (V 5).toInt.toNat with
          | none =>
            rw [ha] at z
            have m1 : (-1 : Int32).toInt = -1 := by decide
            have := (hW.2.2.2 d hd).1
            unfold btw at this
            rw [z] at this
            have e9 : (oI none).toInt = -1 := m1
            omega
          | some f =>
            rw [ha] at z
            have hr := btw_nI hW.1.2.2.2.2.2.2.1
            have := arN_lt (by omega) ha
            rw [z]
            show some f = some (nI f).toInt.toNat
            rw [tnI (by omega)]
            rfl)
        refine ⟨ρ5, ?_, ?_, ?_, ?_, hf.tr (t3.mono fun a k z => jse ▸ z)⟩
        · show exec PP 5 19 17 _ _ ρ = exec PP 5 19 17 [some (.ref c), some (.int (seI V d n)), _, _, none, none, none] _ ρ5
          have en : seI V d n = n := if_neg (fun z => lt z.2)
          rw [en, hstep, if_pos on, ← t1, e_19_61, gI_r td, cd 0 (by omega), if_neg ne5]
        · show CV ρ5 c (seW V L d) L
          unfold seW
          rw [if_pos on, if_neg lt]; exact t2
        · exact seW_w hW hv.lw hv.2.2.1.2 hd
        · exact fun k x y => (seW_k k x y).trans (hk k x y)
    · refine ⟨ρ, ?_, ?_, ?_, ?_, hf⟩
      · show exec PP 5 19 17 _ _ ρ = exec PP 5 19 17 [some (.ref c), some (.int (seI V d n)), _, _, none, none, none] _ ρ
        have en : seI V d n = n := if_neg (fun z => on z.1)
        rw [en, hstep, if_neg on]
      · show CV ρ c (seW V L d) L
        unfold seW
        rw [if_neg on]; exact hv
      · exact seW_w hW hv.lw hv.2.2.1.2 hd
      · exact fun k x y => (seW_k k x y).trans (hk k x y)) (by
    rintro ⟨V, n⟩ ρ ⟨hv, hW, hk, hf⟩
    try dsimp only at hv hW hk
    have c6 : sI ρ c 6 = nI (nD W) := by rw [hv.2.1.1.2.2.1, hk 2 (by omega) (by omega)]; exact d1
    show exec PP 5 19 17 _ _ ρ = _
    rw [e_19_17, gI_r hv.1.1.1.1, c6, if_neg (nI_nlt (Nat.le_refl _) (by omega)), e_19_166]) (nD W) 0 (W, 0) σ (by omega) ⟨h, hw, fun _ _ _ => rfl, Kp.rf _⟩
  refine ⟨σ', ?_, k1, k2, k3, k4⟩
  rw [r_19, gI_r hS0.1.1, h.2.1.1.2.2.2.2.1, gI_r hS0.1.1, h.2.1.1.2.2.2.2.2.2.1, if_pos hS0.1.1, q20, onI_i]
  exact e
end B0
