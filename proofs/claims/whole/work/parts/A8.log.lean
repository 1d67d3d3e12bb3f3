/-! the log grows -/
def lim60 (w : Int32) : Int32 := if (w + 1 < 60 : Prop) then w + 1 else 60
def logW (W : WW) (d : Nat) (v : Int32) : WW := fun k => if k = 8 then lim60 (W 8) else if k = 123 then W 5 else if k = 124 then nI d else if k = 125 then de W d 0 else if k = 126 then v else if 127 ≤ k ∧ k < 363 then W (k - 4) else W k
theorem logW_n {W : WW} {d k : Nat} {v : Int32} (h : k < 123) (h8 : k ≠ 8) : logW W d v k = W k := by
  unfold logW
  rw [if_neg h8, if_neg (by omega), if_neg (by omega), if_neg (by omega), if_neg (by omega), if_neg (by omega)]
theorem lim60_n {n : Nat} (h : n ≤ 60) : lim60 (nI n) = nI (if n < 60 then n + 1 else 60) ∧ (if n < 60 then n + 1 else 60) ≤ 60 := by
  unfold lim60
  rw [nI_1]
  by_cases h1 : n + 1 < 60
  · rw [if_pos (nI_ltl (n := 60) h1 (by decide)), if_pos (by omega)]; exact ⟨rfl, by omega⟩
  · rw [if_neg (nI_nltl (n := 60) (by omega) (by omega))]
    by_cases h2 : n < 60
    · rw [if_pos h2, show n + 1 = 60 by omega]; exact ⟨rfl, by omega⟩
    · rw [if_neg h2]; exact ⟨rfl, by omega⟩
theorem lgN_log {W : WW} (hw : WF W) {d : Nat} {v : Int32} : lgN (logW W d v) = (if lgN W < 60 then lgN W + 1 else 60) := by
  obtain ⟨h1, h2⟩ := WF_lg hw
  have l := lim60_n h2
  have e : logW W d v 8 = lim60 (W 8) := if_pos rfl
  show (logW W d v 8).toInt.toNat = _
  rw [e, h1, l.1, tnI (by omega)]
  omega
theorem WF.lg {W : WW} (hw : WF W) (d : Nat) (v : Int32) : WF (logW W d v) := by
  have s6 := (WF_nS hw).2
  have b5 := (WF_nB hw).2
  have d8 := (WF_nD hw).2
  obtain ⟨l1, l2⟩ := WF_lg hw
  have l3 := lim60_n l2
  have nn : ∀ k, k < 123 → k ≠ 8 → logW W d v k = W k := fun k h1 h2 => logW_n h1 h2
  have nS' : nS (logW W d v) = nS W := by unfold nS; rw [nn 0 (by omega) (by omega)]
  have nB' : nB (logW W d v) = nB W := by unfold nB; rw [nn 1 (by omega) (by omega)]
  have nD' : nD (logW W d v) = nD W := by unfold nD; rw [nn 2 (by omega) (by omega)]
  obtain ⟨⟨p0, p1, p2, p3, p4, p5, p6, p7, p8⟩, h2, h3, h4⟩ := hw
  refine ⟨⟨by rw [nn 0 (by omega) (by omega)]; exact p0, by rw [nn 1 (by omega) (by omega)]; exact p1, by rw [nn 2 (by omega) (by omega)]; exact p2, by rw [nn 3 (by omega) (by omega)]; exact p3, by rw [nn 4 (by omega) (by omega)]; exact p4, by rw [nn 5 (by omega) (by omega)]; exact p5, by rw [nn 6 (by omega) (by omega)]; exact p6, by rw [nn 7 (by omega) (by omega)]; exact p7, ?_⟩, fun s hs => ?_, fun s hs => ?_, fun s hs => ?_⟩
  · have e : logW W d v 8 = lim60 (W 8) := if_pos rfl
    rw [e, l1, l3.1]
    unfold btw
    rw [tnI (by omega)]
    omega
  · rw [nS'] at hs
    have := h2 s hs
    unfold WFs sh at this ⊢
    rw [nn _ (by omega) (by omega), nn _ (by omega) (by omega), nn _ (by omega) (by omega), nn _ (by omega) (by omega), nn _ (by omega) (by omega), nn _ (by omega) (by omega), nn _ (by omega) (by omega)]; exact this
  · rw [nB'] at hs
    have := h3 s hs
    unfold WFb br at this ⊢
    rw [nn _ (by omega) (by omega), nn _ (by omega) (by omega), nn _ (by omega) (by omega)]; exact this
  · rw [nD'] at hs
    have := h4 s hs
    unfold WFd de at this ⊢
    rw [nn _ (by omega) (by omega), nn _ (by omega) (by omega), nn _ (by omega) (by omega), nn _ (by omega) (by omega), nn _ (by omega) (by omega), nn _ (by omega) (by omega), nB']; exact this
section A8
variable {σ τ : SH} {W L : WW} {c : Nat}
theorem irm60 {n : Nat} (h : n < 2147483648) : irm (nI n) 60 = nI (n % 60) := pk_rem (d := 60) h (by decide) (by decide)
theorem m_52 (h : CV σ c W L) (hw : WF W) (d : Nat) (v : Int32) : ∃ σ', rn 52 [.ref (c + 4), .int (W 5), .int (nI d), .int (de W d 0), .int v] σ = some (.inl none, σ') ∧ Kp (fun a _ => a = c + 4 ∨ a = c + 5) σ σ' ∧ LG σ' c (logW W d v) := by
  obtain ⟨nx, l1, l2, l3, l4⟩ := h.2.2.2.2.1
  have hS := h.1.1
  obtain ⟨w1, w2⟩ := WF_lg hw
  have t4 : ∀ ρ : SH, ρ.2 = σ.2 → sT ρ (c + 4) = 105 := fun ρ e => by unfold sT; rw [e]; exact hS.2.2.1.1
  have g2 : ∀ (ρ : SH) (k : Nat → SR), ρ.2 = σ.2 → gR ρ 105 2 (.ref (c + 4)) k = k (c + 5) := fun ρ k e => gR_r (t4 ρ e) (by unfold sV; rw [e]; exact hS.2.2.1.2.1)
  have gi : ∀ (ρ : SH) f (k : Int32 → SR), ρ.2 = σ.2 → gI ρ 105 f (.ref (c + 4)) k = k (sI ρ (c + 4) f) := fun ρ f k e => gI_r (t4 ρ e)
  have pi : ∀ (ρ : SH) f v (k : SH → SR), ρ.2 = σ.2 → pI ρ 105 f (.ref (c + 4)) v k = k (wI ρ (c + 4) f v) := fun ρ f v k e => pI_r (t4 ρ e)
  have uw : ∀ (ρ : SH) (j : Nat) (v : Int32) (k : SH → SR), ρ.2 = σ.2 → j < 240 → uI ρ (.ref (c + 5)) (nI j) v k = k (wI ρ (c + 5) j v) := fun ρ j v k e hj => uI_r (by unfold sT; rw [e]; exact hS.2.2.1.2.2.1) (by unfold sN; rw [e]; exact Nat.lt_of_lt_of_eq hj hS.2.2.1.2.2.2.1.symm) (by unfold sN; rw [e]; have : sN σ (c + 5) = 240 := hS.2.2.1.2.2.2.1; unfold sN at this; omega)
  have e4 : nI nx * 4 = nI (nx * 4) := by rw [show (4 : Int32) = nI 4 from rfl, pk_mul]
  have e41 : nI (nx * 4) + 1 = nI (nx * 4 + 1) := by rw [show (1 : Int32) = nI 1 from rfl, nI_add]
  have e42 : nI (nx * 4) + 2 = nI (nx * 4 + 2) := by rw [show (2 : Int32) = nI 2 from rfl, nI_add]
  have e43 : nI (nx * 4) + 3 = nI (nx * 4 + 3) := by rw [show (3 : Int32) = nI 3 from rfl, nI_add]
  let ρ4 := wI (wI (wI (wI σ (c + 5) (nx * 4) (W 5)) (c + 5) (nx * 4 + 1) (nI d)) (c + 5) (nx * 4 + 2) (de W d 0)) (c + 5) (nx * 4 + 3) v
  have kk : Kp (fun a _ => a = c + 4 ∨ a = c + 5) σ (wI (wI ρ4 (c + 4) 1 (nI ((nx + 1) % 60))) (c + 4) 0 (lim60 (W 8))) := (((((Kp.w (Or.inr rfl)).wr (Or.inr rfl)).wr (Or.inr rfl)).wr (Or.inr rfl)).wr (Or.inl rfl)).wr (Or.inl rfl)
  refine ⟨wI (wI ρ4 (c + 4) 1 (nI ((nx + 1) % 60))) (c + 4) 0 (lim60 (W 8)), ?_, kk, (nx + 1) % 60, Nat.mod_lt _ (by decide), ?_, ?_, fun ago col h1 h2 => ?_⟩
  · rw [r_52, gi _ _ _ (by rfl), l2, g2 _ _ (by rfl), e4, uw _ _ _ _ (by rfl) (by omega), g2 _ _ (by rfl), e41, uw _ _ _ _ (by rfl) (by omega), g2 _ _ (by rfl), e42, uw _ _ _ _ (by rfl) (by omega), g2 _ _ (by rfl), e43, uw _ _ _ _ (by rfl) (by omega), gi _ _ _ (by rfl)]
    have i1 : sI ρ4 (c + 4) 1 = nI nx := by
      show sI (wI (wI (wI (wI σ (c + 5) (nx * 4) (W 5)) (c + 5) (nx * 4 + 1) (nI d)) (c + 5) (nx * 4 + 2) (de W d 0)) (c + 5) (nx * 4 + 3) v) (c + 4) 1 = _
      rw [sI_wIn (by omega), sI_wIn (by omega), sI_wIn (by omega), sI_wIn (by omega)]; exact l2
    have i0 : sI (wI ρ4 (c + 4) 1 (nI ((nx + 1) % 60))) (c + 4) 0 = nI (lgN W) := by
      show sI (wI (wI (wI (wI (wI σ (c + 5) (nx * 4) (W 5)) (c + 5) (nx * 4 + 1) (nI d)) (c + 5) (nx * 4 + 2) (de W d 0)) (c + 5) (nx * 4 + 3) v) (c + 4) 1 _) (c + 4) 0 = _
      rw [sI_wIn (by omega), sI_wIn (by omega), sI_wIn (by omega), sI_wIn (by omega), sI_wIn (by omega), l3]; exact w1
    rw [show sI (wI (wI (wI (wI σ (c + 5) (nx * 4) (W 5)) (c + 5) (nx * 4 + 1) (nI d)) (c + 5) (nx * 4 + 2) (de W d 0)) (c + 5) (nx * 4 + 3) v) (c + 4) 1 = nI nx from i1, nI_1, irm60 (by omega), pi _ _ _ _ (by rfl), gi _ _ _ (by rfl)]
    show (if (sI (wI ρ4 (c + 4) 1 (nI ((nx + 1) % 60))) (c + 4) 0 < 60 : Prop) then _ else _) = _
    rw [i0]
    by_cases z : lgN W < 60
    · rw [if_pos (nI_ltl (n := 60) z (by decide)), gi _ _ _ (by rfl)]
      show exec PP 1 52 81 [_, _, _, _, _, _] [.int (sI (wI ρ4 (c + 4) 1 (nI ((nx + 1) % 60))) (c + 4) 0 + 1), _] _ = _
      rw [i0, nI_1, e_52_81, pi _ _ _ _ (by rfl), w1, (lim60_n w2).1, if_pos z]
    · rw [if_neg (nI_nltl (n := 60) (by omega) (by omega)), e_52_79, pi _ _ _ _ (by rfl), w1, (lim60_n w2).1, if_neg z]; rfl
  · rw [sI_wIn (by omega), sI_wIs]
  · rw [sI_wIs]; exact (if_pos rfl).symm
  · rw [lgN_log hw] at h1
    rw [sI_wIn (by omega), sI_wIn (by omega)]
    show sI (wI (wI (wI (wI σ (c + 5) (nx * 4) (W 5)) (c + 5) (nx * 4 + 1) (nI d)) (c + 5) (nx * 4 + 2) (de W d 0)) (c + 5) (nx * 4 + 3) v) (c + 5) (((nx + 1) % 60 + 59 - ago) % 60 * 4 + col) = _
    by_cases z : ago = 0
    · subst z
      have e0 : ((nx + 1) % 60 + 59 - 0) % 60 = nx := by omega
      rw [e0]
      unfold logW
      rcases (by omega : col = 0 ∨ col = 1 ∨ col = 2 ∨ col = 3) with e | e | e | e <;> subst e
      · rw [sI_wIn (by omega), sI_wIn (by omega), sI_wIn (by omega)]
        exact sI_wIs _ _ _ _
      · rw [sI_wIn (by omega), sI_wIn (by omega)]
        exact sI_wIs _ _ _ _
      · rw [sI_wIn (by omega)]
        exact sI_wIs _ _ _ _
      · exact sI_wIs _ _ _ _
    · have a59 : ago ≤ 59 := by split at h1 <;> omega
      have e1 : ((nx + 1) % 60 + 59 - ago) % 60 = (nx + 59 - (ago - 1)) % 60 := by omega
      have hm : (nx + 59 - (ago - 1)) % 60 ≠ nx := by
        have : ago ≤ 59 := by split at h1 <;> omega
        omega
      rw [e1, sI_wIn (by omega), sI_wIn (by omega), sI_wIn (by omega), sI_wIn (by omega), l4 (ago - 1) col (by split at h1 <;> omega) h2]
      unfold logW
      rw [if_neg (by omega), if_neg (by omega), if_neg (by omega), if_neg (by omega), if_neg (by omega), if_pos (by split at h1 <;> omega)]
      congr 1
      omega
/-- in the reference -/
theorem m_280 (hM : ShM τ) (e : sI τ 612 = W) {d : Nat} (hd : d < 8) (v : Int32) : ∃ τ', rn 280 [.ref 611, .int (nI d), .int v] τ = some (.inl none, τ') ∧ Kp (fun a k => a = 612 ∧ k < 363) τ τ' ∧ sI τ' 612 = logW W d v := by
  rw [r_280]
  have lp : ∀ (m : Nat) (ρ : SH), m ≤ 236 → Kp (fun a k => a = 612 ∧ k < 363) τ ρ → (∀ j, j < 4 + m → sI ρ 612 (123 + j) = W (123 + j)) → (∀ j, 4 + m ≤ j → j < 240 → sI ρ 612 (123 + j) = W (123 + j - 4)) → (∀ k, (k < 123 ∨ 363 ≤ k) → sI ρ 612 k = W k) → ∃ ρ', exec PP 3 280 4 [some (.ref 611), some (.int (nI d)), some (.int v), some (.int (nI (3 + m)))] [] ρ = exec PP 3 280 35 [some (.ref 611), some (.int (nI d)), some (.int v), some (.int 3)] [] ρ' ∧ Kp (fun a k => a = 612 ∧ k < 363) τ ρ' ∧ (∀ j, 4 ≤ j → j < 240 → sI ρ' 612 (123 + j) = W (123 + j - 4)) ∧ ∀ k, (k < 123 ∨ 363 ≤ k) → sI ρ' 612 k = W k := by
    intro m
    induction m with
    | zero =>
      intro ρ _ hk h1 h2 h3
      exact ⟨ρ, by rw [e_280_4, if_pos (show (nI (3 + 0)) < (4 : Int32) by decide)]; rfl, hk, fun j z1 z2 => h2 j (by omega) z2, h3⟩
    | succ m ih =>
      intro ρ hm hk h1 h2 h3
      have mρ := hM.e hk.1
      have e1 : ((123 : Int32) + nI (3 + (m + 1))) - 4 = nI (123 + m) := by
        rw [show (123 : Int32) = nI 123 from rfl, nI_add]
        refine Int32.toInt_inj.mp ?_
        have z4 : (4 : Int32).toInt = 4 := by decide
        rw [tS (by rw [tnI (by omega), z4]; omega) (by rw [tnI (by omega), z4]; omega), tnI (by omega), z4, tnI (by omega)]
        omega
      have e2 : (123 : Int32) + nI (3 + (m + 1)) = nI (123 + (4 + m)) := by rw [show (123 : Int32) = nI 123 from rfl, nI_add]; congr 1; omega
      have e3 : nI (3 + (m + 1)) + (-1) = nI (3 + m) := by rw [add_m1 (by omega)]; rfl
      obtain ⟨ρ', p1, p2, p3, p4⟩ := ih (wI ρ 612 (123 + (4 + m)) (W (123 + m))) (by omega) (hk.wr ⟨rfl, by omega⟩) (fun j hj => by rw [sI_wIn (by omega)]; exact h1 j (by omega)) (fun j z1 z2 => by
        by_cases z : j = 4 + m
        · rw [z, sI_wIs]; congr 1; omega
        · rw [sI_wIn (by omega)]; exact h2 j (by omega) z2) (fun k hk' => by rw [sI_wIn (by omega)]; exact h3 k hk')
      refine ⟨ρ', ?_, p2, p3, p4⟩
      rw [e_280_4, if_neg (nI_nltl (n := 4) (by omega) (by omega)), gR_r mρ.1.1 mρ.1.2.1, gR_r mρ.1.1 mρ.1.2.1, e1, m_w mρ (by omega), h1 m (by omega), e2, w612 mρ (by omega), e3]
      exact p1
  obtain ⟨ρ, p1, p2, p3, p4⟩ := lp 236 τ (by omega) (Kp.rf _) (fun j _ => by rw [e]) (fun j z1 z2 => by omega) (fun k _ => by rw [e])
  have mρ := hM.e p2.1
  have w1 : ∀ (ρ' : SH) (j : Nat) (v : Int32) (k : SH → SR), ρ'.2 = ρ.2 → j < 2061 → uI ρ' (.ref 612) (nI j) v k = k (wI ρ' 612 j v) := fun ρ' j v k e hj => w612' mρ e hj v k
  let ρ4 := wI (wI (wI (wI ρ 612 123 (W 5)) 612 124 (nI d)) 612 125 (de W d 0)) 612 126 v
  have kk : Kp (fun a k => a = 612 ∧ k < 363) τ (wI ρ4 612 8 (lim60 (W 8))) := ((((p2.wr ⟨rfl, by omega⟩).wr ⟨rfl, by omega⟩).wr ⟨rfl, by omega⟩).wr ⟨rfl, by omega⟩).wr ⟨rfl, by omega⟩
  refine ⟨wI ρ4 612 8 (lim60 (W 8)), ?_, kk, ?_⟩
  · refine p1.trans ?_
    have c5 : sI ρ 612 5 = W 5 := p4 5 (by omega)
    have cd : de (sI (wI (wI ρ 612 123 (W 5)) 612 124 (nI d)) 612) d 0 = de W d 0 := by
      unfold de
      rw [sI_wIn (by omega), sI_wIn (by omega)]; exact p4 _ (by omega)
    have c8 : sI ρ4 612 8 = W 8 := by
      show sI (wI (wI (wI (wI ρ 612 123 (W 5)) 612 124 (nI d)) 612 125 (de W d 0)) 612 126 v) 612 8 = _
      rw [sI_wIn (by omega), sI_wIn (by omega), sI_wIn (by omega), sI_wIn (by omega)]; exact p4 _ (by omega)
    rw [e_280_35, gR_r mρ.1.1 mρ.1.2.1, gR_r mρ.1.1 mρ.1.2.1, r612_5 mρ, c5, w612_123 mρ, g612' mρ (by rfl), w612_124 (mρ.e (by rfl)), g612' mρ (by rfl), if_pos (t611' mρ (by rfl)), m257' (d := d) (f := 0) mρ (by rfl) (by omega)]
    show onI (some (.inl (some (.int (de (sI (wI (wI ρ 612 123 (W 5)) 612 124 (nI d)) 612) d 0))), _)) _ _ = _
    rw [cd, onI_i, w612_125 (mρ.e (by rfl)), g612' mρ (by rfl), w612_126 (mρ.e (by rfl)), g612' mρ (by rfl), g612' mρ (by rfl), r612_8 (mρ.e (by rfl))]
    show onI (rn 328 [.int 60, .int (sI ρ4 612 8 + 1)] _) _ _ = _
    rw [c8, m_328, onI_i, w612_8 (mρ.e (by rfl))]
    rfl
  · funext k
    show sI (wI (wI (wI (wI (wI ρ 612 123 (W 5)) 612 124 (nI d)) 612 125 (de W d 0)) 612 126 v) 612 8 (lim60 (W 8))) 612 k = _
    unfold logW
    by_cases k8 : k = 8
    · rw [if_pos k8, k8, sI_wIs]
    rw [if_neg k8, sI_wIn (by omega)]
    by_cases k6 : k = 126
    · rw [if_neg (by omega), if_neg (by omega), if_neg (by omega), if_pos k6, k6, sI_wIs]
    rw [sI_wIn (by omega)]
    by_cases k5 : k = 125
    · rw [if_neg (by omega), if_neg (by omega), if_pos k5, k5, sI_wIs]
    rw [sI_wIn (by omega)]
    by_cases k4 : k = 124
    · rw [if_neg (by omega), if_pos k4, k4, sI_wIs]
    rw [sI_wIn (by omega)]
    by_cases k3 : k = 123
    · rw [if_pos k3, k3, sI_wIs]
    rw [sI_wIn (by omega), if_neg k3, if_neg k4, if_neg k5, if_neg k6]
    by_cases kb : 127 ≤ k ∧ k < 363
    · rw [if_pos kb]
      have := p3 (k - 123) (by omega) (by omega)
      rw [show 123 + (k - 123) = k by omega] at this
      exact this
    · rw [if_neg kb]; exact p4 k (by omega)
end A8
