/-! one number of a world written -/
def uW (W : WW) (k : Nat) (v : Int32) : WW := fun j => if j = k then v else W j
theorem uW_s (W : WW) (k : Nat) (v : Int32) : uW W k v k = v := if_pos rfl
theorem uW_n {W : WW} {k j : Nat} {v : Int32} (h : j ≠ k) : uW W k v j = W j := if_neg h
theorem sI_upd (σ : SH) (a k : Nat) (v : Int32) : sI (wI σ a k v) a = uW (sI σ a) k v := by
  funext j
  unfold uW
  by_cases h : j = k
  · rw [if_pos h, h, sI_wIs]
  · rw [if_neg h, sI_wIn (fun q => h q.2)]
theorem sh_u {W : WW} {k s f : Nat} {v : Int32} (h : 10 + 7 * s + f ≠ k) : sh (uW W k v) s f = sh W s f := if_neg h
theorem br_u {W : WW} {k s f : Nat} {v : Int32} (h : 52 + 3 * s + f ≠ k) : br (uW W k v) s f = br W s f := if_neg h
theorem de_u {W : WW} {k s f : Nat} {v : Int32} (h : 67 + 7 * s + f ≠ k) : de (uW W k v) s f = de W s f := if_neg h
theorem nS_u {W : WW} {k : Nat} {v : Int32} (h : 3 ≤ k) : nS (uW W k v) = nS W := by unfold nS; rw [uW_n (by omega)]
theorem nB_u {W : WW} {k : Nat} {v : Int32} (h : 3 ≤ k) : nB (uW W k v) = nB W := by unfold nB; rw [uW_n (by omega)]
theorem nD_u {W : WW} {k : Nat} {v : Int32} (h : 3 ≤ k) : nD (uW W k v) = nD W := by unfold nD; rw [uW_n (by omega)]
/-- amounts of a law -/
def LWA (L : WW) : Prop := ∀ i, i < lnN L → btw (L (2 + 4 * i)) 0 999
/-- a county and its numbers, well formed or not -/
def CV (σ : SH) (c : Nat) (W L : WW) : Prop := (ShC σ c ∧ 38 ≤ c ∧ c + 26 ≤ 624) ∧ CW σ c W ∧ (LawC σ c W L ∧ (W 4 = 1 → LWA L)) ∧ SgC σ ∧ LG σ c W ∧ DB σ c
section CVs
variable {σ : SH} {c : Nat} {W L : WW}
theorem CV.ct (h : CV σ c W L) (hW : WF W) : CT σ c W L := ⟨h.1.1, h.2.1, hW, h.2.2.1.1, h.2.2.2.1, h.1.2⟩
theorem LG.cg {σ' : SH} {W' : WW} (h : LG σ c W) (h0 : ∀ k, sI σ' (c + 4) k = sI σ (c + 4) k) (h1 : ∀ k, sI σ' (c + 5) k = sI σ (c + 5) k) (h2 : W' 8 = W 8) (h3 : ∀ k, 123 ≤ k → W' k = W k) : LG σ' c W' := by
  obtain ⟨nx, a1, a2, a3, a4⟩ := h
  refine ⟨nx, a1, by rw [h0]; exact a2, by rw [h0, h2]; exact a3, fun ago col x y => ?_⟩
  rw [h1, h3 _ (by omega)]
  exact a4 ago col (by unfold lgN at x ⊢; rw [← h2]; exact x) y
theorem LR.w {σ : SH} {q : Nat} {L : WW} {a f : Nat} {v : Int32} (h : LR σ q L) (hq : 624 ≤ q) (ha : a < 624) : LR (wI σ a f v) q L := h.kp (P := fun b _ => b = a) (Kp.w rfl) (fun b j z1 z2 z3 => by omega)
theorem LawC.w {W' : WW} {a f : Nat} {v : Int32} (h : LawC σ c W L) (ha : a < 624) (h4 : W' 4 = W 4) : LawC (wI σ a f v) c W' L := by
  rcases h with ⟨h1, h2⟩ | ⟨q, h1, h2, h3, h4', h5⟩
  · exact Or.inl ⟨h1, h4.trans h2⟩
  · exact Or.inr ⟨q, h1, h2, h3.w h1.1 ha, h4', h4.trans h5⟩
theorem CV.wr {W' : WW} {a f : Nat} {v : Int32} (h : CV σ c W L) (ha : c ≤ a ∧ a < c + 26 ∧ a ≠ c + 4 ∧ a ≠ c + 5) (h4 : W' 4 = W 4) (h8 : W' 8 = W 8) (hk : ∀ k, 123 ≤ k → W' k = W k) (hC : CW (wI σ a f v) c W') (hD : (∃ d, a = c + 18 + d ∧ d < 8) → f = 6 → v = 0 ∨ v = 1) : CV (wI σ a f v) c W' L := by
  obtain ⟨⟨g1, g2, g3⟩, g4, ⟨g5, g6⟩, g7, g8, g9⟩ := h
  have k : Kp (fun b _ => b = a) σ (wI σ a f v) := Kp.w rfl
  refine ⟨⟨g1.kp k, g2, g3⟩, hC, ⟨g5.w (by omega) h4, by rw [h4]; exact g6⟩, g7.kp k (fun b j z1 z2 => by omega), g8.cg (fun j => k.2 _ j (by omega)) (fun j => k.2 _ j (by omega)) h8 hk, fun d hd => ?_⟩
  by_cases e : c + 18 + d = a ∧ 6 = f
  · rw [e.1, e.2, sI_wIs]; exact hD ⟨d, e.1.symm, hd⟩ e.2.symm
  · rw [sI_wIn (fun z => e ⟨z.1, z.2⟩)]; exact g9 d hd
theorem CV.s (h : CV σ c W L) {s f : Nat} {v : Int32} (hs : s < 6) (hf : f < 7) : CV (wI σ (c + 7 + s) f v) c (uW W (10 + 7 * s + f) v) L := by
  refine h.wr (by omega) (uW_n (by omega)) (uW_n (by omega)) (fun k hk => uW_n (by omega)) ?_ (fun ⟨d, hd, _⟩ => by omega)
  obtain ⟨⟨a1, a2, a3, a4, a5, a6, a7, a8⟩, b1, b2, b3⟩ := h.2.1
  have n : ∀ q j, q ≠ c + 7 + s → sI (wI σ (c + 7 + s) f v) q j = sI σ q j := fun q j hq => sI_wIn (fun z => hq z.1)
  refine ⟨?_, fun s' f' x y => ?_, fun s' f' x y => ?_, fun s' f' x y => ?_⟩
  · rw [n _ _ (by omega), n _ _ (by omega), n _ _ (by omega), n _ _ (by omega), n _ _ (by omega), n _ _ (by omega), n _ _ (by omega), n _ _ (by omega), uW_n (by omega), uW_n (by omega), uW_n (by omega), uW_n (by omega), uW_n (by omega), uW_n (by omega), uW_n (by omega), uW_n (by omega)]
    exact ⟨a1, a2, a3, a4, a5, a6, a7, a8⟩
  · rw [nS_u (by omega)] at x
    by_cases e : s' = s ∧ f' = f
    · rw [e.1, e.2, sI_wIs]; exact (uW_s _ _ _).symm
    · rw [sI_wIn (by omega), b1 s' f' x y, sh_u (by omega)]
  · rw [nB_u (by omega)] at x
    rw [n _ _ (by omega), b2 s' f' x y, br_u (by omega)]
  · rw [nD_u (by omega)] at x
    rw [n _ _ (by omega), b3 s' f' x y, de_u (by omega)]
theorem CV.b (h : CV σ c W L) {s f : Nat} {v : Int32} (hs : s < 5) (hf : f < 3) (hS : nS W ≤ 6) : CV (wI σ (c + 13 + s) f v) c (uW W (52 + 3 * s + f) v) L := by
  refine h.wr (by omega) (uW_n (by omega)) (uW_n (by omega)) (fun k hk => uW_n (by omega)) ?_ (fun ⟨d, hd, _⟩ => by omega)
  obtain ⟨⟨a1, a2, a3, a4, a5, a6, a7, a8⟩, b1, b2, b3⟩ := h.2.1
  have n : ∀ q j, q ≠ c + 13 + s → sI (wI σ (c + 13 + s) f v) q j = sI σ q j := fun q j hq => sI_wIn (fun z => hq z.1)
  refine ⟨?_, fun s' f' x y => ?_, fun s' f' x y => ?_, fun s' f' x y => ?_⟩
  · rw [n _ _ (by omega), n _ _ (by omega), n _ _ (by omega), n _ _ (by omega), n _ _ (by omega), n _ _ (by omega), n _ _ (by omega), n _ _ (by omega), uW_n (by omega), uW_n (by omega), uW_n (by omega), uW_n (by omega), uW_n (by omega), uW_n (by omega), uW_n (by omega), uW_n (by omega)]
    exact ⟨a1, a2, a3, a4, a5, a6, a7, a8⟩
  · rw [nS_u (by omega)] at x
    rw [n _ _ (by omega), b1 s' f' x y, sh_u (by omega)]
  · rw [nB_u (by omega)] at x
    by_cases e : s' = s ∧ f' = f
    · rw [e.1, e.2, sI_wIs]; exact (uW_s _ _ _).symm
    · rw [sI_wIn (by omega), b2 s' f' x y, br_u (by omega)]
  · rw [nD_u (by omega)] at x
    rw [n _ _ (by omega), b3 s' f' x y, de_u (by omega)]
theorem CV.d (h : CV σ c W L) {s f : Nat} {v : Int32} (hs : s < 8) (hf : f < 7) (hS : nS W ≤ 6 ∧ nB W ≤ 5) (h6 : f = 6 → v = 0 ∨ v = 1) : CV (wI σ (c + 18 + s) f v) c (uW W (67 + 7 * s + f) v) L := by
  refine h.wr (by omega) (uW_n (by omega)) (uW_n (by omega)) (fun k hk => uW_n (by omega)) ?_ (fun _ => h6)
  obtain ⟨⟨a1, a2, a3, a4, a5, a6, a7, a8⟩, b1, b2, b3⟩ := h.2.1
  have n : ∀ q j, q ≠ c + 18 + s → sI (wI σ (c + 18 + s) f v) q j = sI σ q j := fun q j hq => sI_wIn (fun z => hq z.1)
  refine ⟨?_, fun s' f' x y => ?_, fun s' f' x y => ?_, fun s' f' x y => ?_⟩
  · rw [n _ _ (by omega), n _ _ (by omega), n _ _ (by omega), n _ _ (by omega), n _ _ (by omega), n _ _ (by omega), n _ _ (by omega), n _ _ (by omega), uW_n (by omega), uW_n (by omega), uW_n (by omega), uW_n (by omega), uW_n (by omega), uW_n (by omega), uW_n (by omega), uW_n (by omega)]
    exact ⟨a1, a2, a3, a4, a5, a6, a7, a8⟩
  · rw [nS_u (by omega)] at x
    rw [n _ _ (by omega), b1 s' f' x y, sh_u (by omega)]
  · rw [nB_u (by omega)] at x
    rw [n _ _ (by omega), b2 s' f' x y, br_u (by omega)]
  · rw [nD_u (by omega)] at x
    by_cases e : s' = s ∧ f' = f
    · rw [e.1, e.2, sI_wIs]; exact (uW_s _ _ _).symm
    · rw [sI_wIn (by omega), b3 s' f' x y, de_u (by omega)]
/-- road, minute, seed -/
theorem CV.z (h : CV σ c W L) {f k : Nat} {v : Int32} (hf : (f = 8 ∧ k = 6) ∨ (f = 10 ∧ k = 5) ∨ (f = 11 ∧ k = 9)) : CV (wI σ c f v) c (uW W k v) L := by
  refine h.wr (by omega) (uW_n (by omega)) (uW_n (by omega)) (fun k hk => uW_n (by omega)) ?_ (fun ⟨d, hd, _⟩ => by omega)
  obtain ⟨⟨a1, a2, a3, a4, a5, a6, a7, a8⟩, b1, b2, b3⟩ := h.2.1
  have n : ∀ q j, q ≠ c → sI (wI σ c f v) q j = sI σ q j := fun q j hq => sI_wIn (fun z => hq z.1)
  refine ⟨?_, fun s' f' x y => ?_, fun s' f' x y => ?_, fun s' f' x y => ?_⟩
  · rcases hf with ⟨rfl, rfl⟩ | ⟨rfl, rfl⟩ | ⟨rfl, rfl⟩
    · refine ⟨by rw [sI_wIn (by omega), uW_n (by omega)]; exact a1, by rw [sI_wIn (by omega), uW_n (by omega)]; exact a2, by rw [sI_wIn (by omega), uW_n (by omega)]; exact a3, by rw [sI_wIn (by omega), uW_n (by omega)]; exact a4, by rw [sI_wIs, uW_s], by rw [sI_wIn (by omega), uW_n (by omega)]; exact a6, by rw [sI_wIn (by omega), uW_n (by omega)]; exact a7, by rw [sI_wIn (by omega), uW_n (by omega)]; exact a8⟩
    · refine ⟨by rw [sI_wIn (by omega), uW_n (by omega)]; exact a1, by rw [sI_wIn (by omega), uW_n (by omega)]; exact a2, by rw [sI_wIn (by omega), uW_n (by omega)]; exact a3, by rw [sI_wIn (by omega), uW_n (by omega)]; exact a4, by rw [sI_wIn (by omega), uW_n (by omega)]; exact a5, by rw [sI_wIn (by omega), uW_n (by omega)]; exact a6, by rw [sI_wIs, uW_s], by rw [sI_wIn (by omega), uW_n (by omega)]; exact a8⟩
    · refine ⟨by rw [sI_wIn (by omega), uW_n (by omega)]; exact a1, by rw [sI_wIn (by omega), uW_n (by omega)]; exact a2, by rw [sI_wIn (by omega), uW_n (by omega)]; exact a3, by rw [sI_wIn (by omega), uW_n (by omega)]; exact a4, by rw [sI_wIn (by omega), uW_n (by omega)]; exact a5, by rw [sI_wIn (by omega), uW_n (by omega)]; exact a6, by rw [sI_wIn (by omega), uW_n (by omega)]; exact a7, by rw [sI_wIs, uW_s]⟩
  · rw [nS_u (by omega)] at x
    rw [n _ _ (by omega), b1 s' f' x y, sh_u (by omega)]
  · rw [nB_u (by omega)] at x
    rw [n _ _ (by omega), b2 s' f' x y, br_u (by omega)]
  · rw [nD_u (by omega)] at x
    rw [n _ _ (by omega), b3 s' f' x y, de_u (by omega)]
end CVs
/-! only some numbers count -/
theorem tyR_cg {L L' : WW} : ∀ (k i : Nat) (T : List Bool), (∀ j, i ≤ j → j < i + k → L' (49 + 2 * j) = L (49 + 2 * j)) → tyR L' i k T = tyR L i k T
  | 0, _, _, _ => rfl
  | k + 1, i, T, h => by
    show (match ty1 (scN L' i) T with | some T' => tyR L' (i + 1) k T' | none => none) = (match ty1 (scN L i) T with | some T' => tyR L (i + 1) k T' | none => none)
    have e : scN L' i = scN L i := by unfold scN; rw [h i (by omega) (by omega)]
    rw [e]
    cases ty1 (scN L i) T with
    | none => rfl
    | some T' => exact tyR_cg k (i + 1) T' (fun j x y => h j (by omega) (by omega))
theorem law_cg {L L' : WW} (hw : LWF L) (h : ∀ k, k < 849 → L' k = L k) : LWF L' ∧ lnN L' = lnN L ∧ szN L' = szN L ∧ (∀ i, i < lnN L → kN L' i = kN L i) ∧ ∀ j, j < szN L → cdI L' j = cdI L j := by
  obtain ⟨h1, h2, h3, h4⟩ := hw
  have b0 : lnN L ≤ 12 := by unfold btw at h1; unfold lnN; omega
  have n0 : lnN L' = lnN L := by unfold lnN; rw [h 0 (by omega)]
  have nt : ∀ i, i < 12 → toN L' i = toN L i := fun i hi => by unfold toN; rw [h _ (by omega)]
  have nf : ∀ i, i < 12 → frN L' i = frN L i := fun i hi => by unfold frN; rw [h _ (by omega)]
  have ns : szN L' = szN L := by
    unfold szN
    rw [n0]
    by_cases z : lnN L = 0
    · rw [if_pos z, if_pos z]
    · rw [if_neg z, if_neg z, nt _ (by omega)]
  have nc : ∀ j, j < szN L → scN L' j = scN L j := fun j hj => by unfold scN; rw [h _ (by omega)]
  refine ⟨⟨by rw [h 0 (by omega)]; exact h1, fun i hi => ?_, by rw [ns]; exact h3, fun j hj => ?_⟩, n0, ns, fun i hi => by unfold kN; rw [h _ (by omega)], fun j hj => by unfold cdI; rw [nc j hj, h _ (by omega)]⟩
  · rw [n0] at hi
    obtain ⟨g1, g2, g3, g4, g5, g6⟩ := h2 i hi
    rw [h _ (by omega), h _ (by omega), h _ (by omega), nf _ (by omega), nt _ (by omega), ns, tyR_cg _ _ _ (fun j x y => h _ (by omega))]
    refine ⟨g1, g2, ?_, g4, g5, g6⟩
    rw [g3]
    by_cases z : i = 0
    · rw [if_pos z, if_pos z]
    · rw [if_neg z, if_neg z, nt _ (by omega)]
  · rw [ns] at hj
    rw [h _ (by omega), h _ (by omega), nc j hj]
    exact h4 j hj
theorem LR.cg {σ : SH} {q : Nat} {L L' : WW} (hr : LR σ q L) (hw : LWF L) (h : ∀ k, k < 849 → L' k = L k) : LR σ q L' := by
  obtain ⟨_, n0, ns, nk, nc⟩ := law_cg hw h
  have b0 : lnN L ≤ 12 := (LWF_n hw).2
  obtain ⟨r1, r2, r3, r4, r5, r6⟩ := hr
  refine ⟨r1, r2, by rw [n0, ns]; exact r3, by rw [h 0 (by omega)]; exact r4, fun i hi => ?_, fun j hj => ?_⟩
  · rw [n0] at hi
    rw [nk i hi, h _ (by omega), h _ (by omega)]
    exact r5 i hi
  · rw [ns] at hj
    rw [nc j hj]
    exact r6 j hj
theorem LawC.cg {σ : SH} {c : Nat} {W W' L L' : WW} (h : LawC σ c W L) (h4 : W' 4 = W 4) (hL : ∀ k, k < 849 → L' k = L k) : LawC σ c W' L' := by
  rcases h with ⟨a1, a2⟩ | ⟨q, a1, a2, a3, a4, a5⟩
  · exact Or.inl ⟨a1, h4.trans a2⟩
  · exact Or.inr ⟨q, a1, a2, a3.cg a4 hL, (law_cg a4 hL).1, h4.trans a5⟩
theorem LWA_cg {L L' : WW} (hw : LWF L) (ha : LWA L) (h : ∀ k, k < 849 → L' k = L k) : LWA L' := fun i hi => by
  have b0 : lnN L ≤ 12 := (LWF_n hw).2
  rw [(law_cg hw h).2.1] at hi
  rw [h _ (by omega)]
  exact ha i hi
theorem WF_cg {W W' : WW} (hw : WF W) (h : ∀ k, k < 363 → W' k = W k) : WF W' := by
  have s6 := (WF_nS hw).2
  have b5 := (WF_nB hw).2
  have d8 := (WF_nD hw).2
  obtain ⟨h1, h2, h3, h4⟩ := hw
  have nS' : nS W' = nS W := by unfold nS; rw [h 0 (by omega)]
  have nB' : nB W' = nB W := by unfold nB; rw [h 1 (by omega)]
  have nD' : nD W' = nD W := by unfold nD; rw [h 2 (by omega)]
  refine ⟨?_, fun s hs => ?_, fun s hs => ?_, fun s hs => ?_⟩
  · rw [h 0 (by omega), h 1 (by omega), h 2 (by omega), h 3 (by omega), h 4 (by omega), h 5 (by omega), h 6 (by omega), h 7 (by omega), h 8 (by omega)]; exact h1
  · rw [nS'] at hs
    have := h2 s hs
    unfold WFs sh at this ⊢
    rw [h _ (by omega), h _ (by omega), h _ (by omega), h _ (by omega), h _ (by omega), h _ (by omega), h _ (by omega)]; exact this
  · rw [nB'] at hs
    have := h3 s hs
    unfold WFb br at this ⊢
    rw [h _ (by omega), h _ (by omega), h _ (by omega)]; exact this
  · rw [nD'] at hs
    have := h4 s hs
    unfold WFd de at this ⊢
    rw [h _ (by omega), h _ (by omega), h _ (by omega), h _ (by omega), h _ (by omega), h _ (by omega), nB']; exact this
theorem CV.cg {σ : SH} {c : Nat} {W W' L L' : WW} (h : CV σ c W L) (hw : WF W) (hW : ∀ k, k < 363 → W' k = W k) (hL : ∀ k, k < 849 → L' k = L k) : CV σ c W' L' := by
  have s6 := (WF_nS hw).2
  have b5 := (WF_nB hw).2
  have d8 := (WF_nD hw).2
  have nS' : nS W' = nS W := by unfold nS; rw [hW 0 (by omega)]
  have nB' : nB W' = nB W := by unfold nB; rw [hW 1 (by omega)]
  have nD' : nD W' = nD W := by unfold nD; rw [hW 2 (by omega)]
  obtain ⟨g1, ⟨c1, c2, c3, c4⟩, ⟨g5, g6⟩, g7, ⟨nx, l1, l2, l3, l4⟩, g9⟩ := h
  have lg := (WF_lg hw).2
  refine ⟨g1, ⟨?_, fun s f x y => ?_, fun s f x y => ?_, fun s f x y => ?_⟩, ⟨g5.cg (hW 4 (by omega)) hL, fun z => ?_⟩, g7, ⟨nx, l1, l2, by rw [hW 8 (by omega)]; exact l3, fun ago col x y => ?_⟩, g9⟩
  · rw [hW 0 (by omega), hW 1 (by omega), hW 2 (by omega), hW 3 (by omega), hW 6 (by omega), hW 7 (by omega), hW 5 (by omega), hW 9 (by omega)]; exact c1
  · rw [nS'] at x; rw [c2 s f x y]; exact (hW _ (by omega)).symm
  · rw [nB'] at x; rw [c3 s f x y]; exact (hW _ (by omega)).symm
  · rw [nD'] at x; rw [c4 s f x y]; exact (hW _ (by omega)).symm
  · rw [hW 4 (by omega)] at z
    rcases g5 with ⟨_, a2⟩ | ⟨q, _, _, _, a4, _⟩
    · rw [a2] at z; exact absurd z (by decide)
    · exact LWA_cg a4 (g6 z) hL
  · have x' : ago < lgN W := by unfold lgN at x ⊢; rw [hW 8 (by omega)] at x; exact x
    rw [hW _ (by omega)]
    exact l4 ago col x' y
