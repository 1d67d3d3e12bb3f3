/-! an act remembered -/
def remR (r : Nat) : Nat := if r < 12 then r + 1 else 12
def remP (r : Nat) (P : Nat → WW) (W : WW) : Nat → WW := fun i => if r < 12 then (if i = r then W else P i) else (if i = 11 then W else P (i + 1))
def remX (x : XX) (W : WW) : XX := ((remR x.1.1, remP x.1.1 x.1.2 W), x.2)
theorem irm12 {c : Nat} (h : c < 2147483648) : irm (nI c) 12 = nI (c % 12) := pk_rem (d := 12) h (by decide) (by decide)
section RM
variable {σ : SH} {W L : WW} {x : XX}
/-- the county and its numbers under a write outside all counties -/
theorem m_136 (h : InvC σ W L x) : ∃ σ', rn 136 [.ref 200] σ = some (.inl none, σ') ∧ InvC σ' W L (remX x W) ∧ Fr PC RC σ σ' ∧ sZ σ' = sZ σ ∧ sS σ' = sS σ := by
  obtain ⟨⟨a1, a2⟩, ⟨a3, a4⟩, ⟨o, ⟨o1, o2⟩, ⟨o3, o4⟩, o5⟩, a6, a7, a8⟩ := h
  obtain ⟨⟨r, P⟩, xr⟩ := x
  try dsimp only at o1 o2 o3 o4 o5 a6 a7 a8
  have hm : (o + r) % 12 < 12 := Nat.mod_lt _ (by decide)
  have hc := isC_pa hm
  have hl := isC_lt hc
  have hz := a2.1
  have hv : sV σ 211 12 = .null ∨ ∃ q, sV σ 211 12 = .ref q := by
    rcases a3.2.2.1.1 with ⟨z, _⟩ | ⟨q, _, z, _⟩
    · exact Or.inl z
    · exact Or.inr ⟨q, z⟩
  obtain ⟨σ1, e1, k1⟩ := m_6 (σ := σ) (a := 299 + 26 * ((o + r) % 12)) (b := 211) hc isC_now (by omega) a1 a3.2.2.2.2.2 hv
  have f1 : Fr (fun a _ => 299 + 26 * ((o + r) % 12) ≤ a ∧ a < 299 + 26 * ((o + r) % 12) + 26) (fun a => a = 299 + 26 * ((o + r) % 12)) σ σ1 := k1.fr hc (fun q _ z1 z2 => ⟨z1, z2⟩) rfl
  have ok1 : okR (fun a => a = 299 + 26 * ((o + r) % 12)) := fun a z => Or.inl (by rw [z]; exact hc)
  have s1 : ShX σ1 := a1.fr f1 hz ok1
  have i9 : sI σ1 200 9 = nI o := by rw [f1.I (by omega) (by omega) (by omega)]; exact o4
  have i10 : sI σ1 200 10 = nI r := by rw [f1.I (by omega) (by omega) (by omega)]; exact o3
  have cnew : CV σ1 (299 + 26 * ((o + r) % 12)) W L := k1.cv a3 a4 hc isC_now (a1.2.2.2.2.2.2.2.2 _ hc) a2
  have t1 : TG σ1 := a2.fr f1 k1.Z
  -- the rest holds at a write of the two numbers
  have key : ∀ (f : Nat) (v : Int32), (f = 9 ∨ f = 10) → ∀ r' o', (sI (wI σ1 200 f v) 200 10 = nI r' ∧ sI (wI σ1 200 f v) 200 9 = nI o') → (r' ≤ 12 ∧ o' < 12) → ∀ P' : Nat → WW, (∀ i, i < r' → (P' i = W ∧ (o' + i) % 12 = (o + r) % 12) ∨ ∃ j, j < r ∧ P' i = P j ∧ (o' + i) % 12 = (o + j) % 12 ∧ (o + j) % 12 ≠ (o + r) % 12) → InvC (wI σ1 200 f v) W L ((r', P'), xr) ∧ Fr PC RC σ (wI σ1 200 f v) := by
    intro f v hf r' o' hi hr P' hP
    have f2 : Fr (fun a k => a = 200 ∧ (k = 9 ∨ k = 10)) (fun _ => False) σ1 (wI σ1 200 f v) := Kp.fr (Q := fun a k => a = 200 ∧ (k = 9 ∨ k = 10)) (Kp.w ⟨rfl, hf⟩) (fun _ _ _ z => z) (fun a k z1 z2 => by omega)
    have f12 : Fr (fun a k => (299 + 26 * ((o + r) % 12) ≤ a ∧ a < 299 + 26 * ((o + r) % 12) + 26) ∨ (a = 200 ∧ (k = 9 ∨ k = 10))) (fun a => a = 299 + 26 * ((o + r) % 12)) σ (wI σ1 200 f v) := (f1.mono (fun _ _ _ z => Or.inl z) (fun _ z => z)).tr (f2.mono (fun _ _ _ z => Or.inr z) (fun _ z => z.elim))
    have okF : okR (fun _ : Nat => False) := fun a z => z.elim
    have tg : TG (wI σ1 200 f v) := t1.fr f2 rfl
    refine ⟨⟨⟨a1.fr f12 hz ok1, tg⟩, ⟨a3.fr a4 isC_now a2 f12 ok1 (by omega) (fun i j _ _ z => by omega) (fun a j _ z => by omega), a4⟩, ⟨o', hr, hi, fun i hi' => ?_⟩, a6.fr a2 f12 ok1 (by omega) (by omega) (fun a j _ _ z => by omega) (fun a j _ z => by omega), a7.fr a2 f12 (by omega) (fun j z => by omega), ?_⟩, f12.mono (fun a k z1 z => by unfold PC; omega) (fun a z => Or.inl (by rw [z]; exact hc))⟩
    · rcases hP i hi' with ⟨p1, p2⟩ | ⟨j, p0, p1, p2, p3⟩
      · show CV _ (299 + 26 * ((o' + i) % 12)) (P' i) L ∧ WF (P' i)
        rw [p1, p2]
        exact ⟨cnew.fr a4 hc t1 f2 okF (fun z => z) (fun i j _ _ z => by omega) (fun a j _ z => by omega), a4⟩
      · show CV _ (299 + 26 * ((o' + i) % 12)) (P' i) L ∧ WF (P' i)
        rw [p1, p2]
        obtain ⟨c1, c2⟩ := o5 j p0
        have hj : (o + j) % 12 < 12 := Nat.mod_lt _ (by decide)
        exact ⟨c1.fr c2 (isC_pa hj) a2 f12 ok1 (fun z => p3 (by omega)) (fun i j _ _ z => by omega) (fun a j _ z => by omega), c2⟩
    · rw [f12.I (by omega) (by omega) (by omega)]; exact a8
  have g1 : rn 136 [.ref 200] σ = (gI σ1 111 10 (.ref 200) fun x28 => if (x28 < 12 : Prop) then (gI σ1 111 10 (.ref 200) fun x29 => pI σ1 111 10 (.ref 200) (x29 + 1) fun σ30 => exec PP 3 136 59 [some (.ref 200)] [] σ30) else (exec PP 3 136 46 [some (.ref 200)] [] σ1)) := by
    rw [r_136, x5 a1, xI a1, xI a1, o3, o4, nI_add, irm12 (by omega), aR_r (by rw [a1.2.2.2.1.1]; decide) (by rw [a1.2.2.2.1.2.1]; exact hm) (by rw [a1.2.2.2.1.2.1]; decide) (a1.2.2.2.1.2.2 _ hm), x2 a1, if_pos (tCo a1 hc), e1, onV_i]
  by_cases hr : r < 12
  · obtain ⟨q1, q2⟩ := key 10 (nI r + 1) (Or.inr rfl) (r + 1) o ⟨by rw [sI_wIs, nI_1], by rw [sI_wIn (by omega)]; exact i9⟩ (by omega) (remP r P W) (fun i hi => by
      unfold remP
      rw [if_pos hr]
      by_cases e : i = r
      · rw [if_pos e]; exact Or.inl ⟨rfl, by rw [e]⟩
      · rw [if_neg e]; exact Or.inr ⟨i, by omega, rfl, rfl, by omega⟩)
    refine ⟨wI σ1 200 10 (nI r + 1), ?_, ?_, q2, k1.Z, k1.S⟩
    · rw [g1, xI s1, i10, if_pos (nI_ltl (n := 12) hr (by decide)), xI s1, i10, pI_r (tX s1), e_136_59]
    · have : remX ((r, P), xr) W = ((r + 1, remP r P W), xr) := by unfold remX remR; rw [if_pos hr]
      rw [this]; exact q1
  · have r12 : r = 12 := by omega
    subst r12
    obtain ⟨q1, q2⟩ := key 9 (nI ((o + 1) % 12)) (Or.inl rfl) 12 ((o + 1) % 12) ⟨by rw [sI_wIn (by omega)]; exact i10, by rw [sI_wIs]⟩ ⟨by omega, Nat.mod_lt _ (by decide)⟩ (remP 12 P W) (fun i hi => by
      unfold remP
      rw [if_neg hr]
      by_cases e : i = 11
      · rw [if_pos e]; exact Or.inl ⟨rfl, by omega⟩
      · rw [if_neg e]; exact Or.inr ⟨i + 1, by omega, rfl, by omega, by omega⟩)
    refine ⟨wI σ1 200 9 (nI ((o + 1) % 12)), ?_, ?_, q2, k1.Z, k1.S⟩
    · rw [g1, xI s1, i10, if_neg (nI_nltl (n := 12) (by omega) (by decide)), e_136_46, xI s1, i9, nI_1, irm12 (by omega), pI_r (tX s1)]
    · have : remX ((12, P), xr) W = ((12, remP 12 P W), xr) := by unfold remX remR; rw [if_neg hr]
      rw [this]; exact q1
/-- in the reference -/
theorem m_268 (h : InvR σ W L x) (hr12 : x.1.1 ≤ 12) : ∃ σ', rn 268 [.ref 611] σ = some (.inl none, σ') ∧ InvR σ' W L (remX x W) ∧ Kp (fun a k => a = 616 ∨ (a = 611 ∧ k = 7)) σ σ' := by
  obtain ⟨a1, ⟨a3, a4⟩, ⟨a5, a5b⟩, a6, a7, a8⟩ := h
  obtain ⟨⟨r, P⟩, xr⟩ := x
  try dsimp only at a5 a5b a6 a7 a8 hr12
  have hM := a1.1
  have g5 : ∀ τ : SH, τ.2 = σ.2 → ∀ k : Nat → SR, gR τ 112 5 (.ref 611) k = k 616 := fun τ e k => gR_r (by unfold sT; rw [e]; exact hM.1.1) (by unfold sV; rw [e]; exact hM.1.2.2.2.2.2.1)
  have g1 : ∀ τ : SH, τ.2 = σ.2 → ∀ k : Nat → SR, gR τ 112 1 (.ref 611) k = k 612 := fun τ e k => gR_r (by unfold sT; rw [e]; exact hM.1.1) (by unfold sV; rw [e]; exact hM.1.2.1)
  have t611 : ∀ τ : SH, τ.2 = σ.2 → sT τ 611 = 112 := fun τ e => by unfold sT; rw [e]; exact hM.1.1
  have n616 : ∀ τ : SH, τ.2 = σ.2 → sN τ 616 = 4356 := fun τ e => by unfold sN; rw [e]; exact hM.2.2.2.2.2.2.1
  have t616 : ∀ τ : SH, τ.2 = σ.2 → sT τ 616 = 1 := fun τ e => by unfold sT; rw [e]; exact hM.2.1.2.2.2.2.1
  have r616 : ∀ (τ : SH) (j : Nat), τ.2 = σ.2 → j < 4356 → ∀ k : Int32 → SR, aI τ 1 (.ref 616) (nI j) k = k (sI τ 616 j) := fun τ j e hj k => aI_r (t616 τ e) (by rw [n616 τ e]; exact hj) (by rw [n616 τ e]; decide)
  have w616 : ∀ (τ : SH) (j : Nat) (v : Int32), τ.2 = σ.2 → j < 4356 → ∀ k : SH → SR, uI τ (.ref 616) (nI j) v k = k (wI τ 616 j v) := fun τ j v e hj k => uI_r (t616 τ e) (by rw [n616 τ e]; exact hj) (by rw [n616 τ e]; decide)
  have r612 : ∀ (τ : SH) (j : Nat), τ.2 = σ.2 → j < 2061 → ∀ k : Int32 → SR, aI τ 1 (.ref 612) (nI j) k = k (sI τ 612 j) := fun τ j e hj k => aI_r (by unfold sT; rw [e]; exact hM.2.1.1) (by unfold sN; rw [e]; exact Nat.lt_of_lt_of_eq hj hM.2.2.1.symm) (by unfold sN; rw [e]; exact by have : sN σ 612 = 2061 := hM.2.2.1; unfold sN at this; omega)
  -- the second loop, from any state whose 616 is ready
  have second : ∀ (τ : SH) (r' : Nat), τ.2 = σ.2 → 1 ≤ r' → r' ≤ 12 → sI τ 611 7 = nI r' → (∀ j, sI τ 612 j = sI σ 612 j) → ∃ σ', exec PP 1 268 55 [some (.ref 611), some (.int 0)] [] τ = some (.inl none, σ') ∧ Kp (fun a k => a = 616 ∧ 363 * (r' - 1) ≤ k) τ σ' ∧ ∀ k, k < 363 → sI σ' 616 (363 * (r' - 1) + k) = sI σ 612 k := by
    intro τ r' e0 h1 h2 h3 h4
    obtain ⟨σ', e, k, c⟩ := lpS (F := fun i (_ : Unit) σ => exec PP 1 268 55 [some (.ref 611), some (.int (nI i))] [] σ) (g := fun _ u => u) (K := fun _ σ => some (.inl none, σ)) (I := fun i _ ρ => Kp (fun a k => a = 616 ∧ 363 * (r' - 1) ≤ k) τ ρ ∧ ∀ k, k < i → sI ρ 616 (363 * (r' - 1) + k) = sI σ 612 k) (n := 363) (by
      rintro i u ρ hi ⟨hk, hc⟩
      have e1 : ρ.2 = σ.2 := hk.1.trans e0
      have e7 : sI ρ 611 7 = nI r' := by rw [hk.2 611 7 (by omega)]; exact h3
      have e6 : sI ρ 612 i = sI σ 612 i := by rw [hk.2 612 i (by omega)]; exact h4 i
      refine ⟨wI ρ 616 (363 * (r' - 1) + i) (sI σ 612 i), ?_, hk.wr ⟨rfl, by omega⟩, fun k hk' => ?_⟩
      · rw [e_268_55, if_pos (nI_ltl (n := 363) hi (by decide)), g5 ρ e1, gI_r (t611 ρ e1), g1 ρ e1, r612 ρ i e1 (by omega), e6, e7, sub_1 (by omega), show (363 : Int32) = nI 363 from rfl, pk_mul, nI_add, w616 ρ _ _ e1 (by omega), nI_1]
      · by_cases z : k = i
        · rw [z, sI_wIs]
        · rw [sI_wIn (by omega)]; exact hc k (by omega)) (by
      rintro u ρ ⟨hk, hc⟩
      rw [e_268_55, if_neg (nI_nltl (n := 363) (by omega) (by decide)), e_268_91]) 363 0 () τ (by omega) ⟨Kp.rf _, fun k hk => by omega⟩
    exact ⟨σ', e, k, c⟩
  -- what the reference keeps then
  have keep : ∀ (σ' : SH) (r' : Nat) (P' : Nat → WW), Kp (fun a k => a = 616 ∨ (a = 611 ∧ k = 7)) σ σ' → sI σ' 611 7 = nI r' → (∀ i k, i < r' → k < 363 → sI σ' 616 (363 * i + k) = P' i k) → InvR σ' W L ((r', P'), xr) := by
    intro σ' r' P' k h7 hP
    have e : sI σ' 612 = sI σ 612 := funext fun j => k.2 612 j (by omega)
    refine ⟨⟨hM.kp k, a1.2⟩, ⟨e.trans a3, by unfold tx at a4 ⊢; rw [e]; exact a4⟩, ⟨h7, hP⟩, ⟨?_, fun z => ⟨fun j hj => ?_, fun j hj => ?_⟩⟩, ⟨?_, fun j hj => ?_⟩, ?_⟩
    · rw [k.2 _ _ (by omega)]; exact a6.1
    · rw [k.2 _ _ (by omega)]; exact (a6.2 z).1 j hj
    · rw [k.2 _ _ (by omega)]; exact (a6.2 z).2 j hj
    · rw [k.2 _ _ (by omega)]; exact a7.1
    · rw [k.2 _ _ (by omega)]; exact a7.2 j hj
    · rw [k.2 _ _ (by omega)]; exact a8
  by_cases hr : r = 12
  · subst hr
    obtain ⟨σ1, e1, k1, c1, c2⟩ := lpS (F := fun i (_ : Unit) σ => exec PP 1 268 11 [some (.ref 611), some (.int (nI i))] [] σ) (g := fun _ u => u) (K := fun _ σ => exec PP 1 268 55 [some (.ref 611), some (.int 0)] [] σ) (I := fun i _ ρ => Kp (fun a _ => a = 616) σ ρ ∧ (∀ j, j < i → sI ρ 616 j = sI σ 616 (j + 363)) ∧ ∀ j, i ≤ j → sI ρ 616 j = sI σ 616 j) (n := 3993) (by
      rintro i u ρ hi ⟨hk, hc, hd⟩
      have e1 : ρ.2 = σ.2 := hk.1
      refine ⟨wI ρ 616 i (sI σ 616 (i + 363)), ?_, hk.wr rfl, fun j hj => ?_, fun j hj => ?_⟩
      · rw [e_268_11, if_pos (nI_ltl (n := 3993) hi (by decide)), g5 ρ e1, g5 ρ e1, show (363 : Int32) = nI 363 from rfl, nI_add, r616 ρ _ e1 (by omega), hd _ (by omega), w616 ρ _ _ e1 (by omega), nI_1]
      · by_cases z : j = i
        · rw [z, sI_wIs]
        · rw [sI_wIn (by omega)]; exact hc j (by omega)
      · rw [sI_wIn (by omega)]; exact hd j (by omega)) (by
      rintro u ρ ⟨hk, hc, hd⟩
      rw [e_268_11, if_neg (nI_nltl (n := 3993) (by omega) (by decide)), e_268_40, e_268_53]) 3993 0 () σ (by omega) ⟨Kp.rf _, fun j hj => by omega, fun j _ => rfl⟩
    have h7 : sI σ1 611 7 = nI 12 := by rw [k1.2 _ _ (by omega)]; exact a5
    obtain ⟨σ2, e2, k2, c3⟩ := second σ1 12 k1.1 (by omega) (by omega) h7 (fun j => k1.2 _ _ (by omega))
    refine ⟨σ2, ?_, ?_, (k1.mono fun a k z => Or.inl z).tr (k2.mono fun a k z => Or.inl z.1)⟩
    · rw [r_268, gI_r hM.1.1, a5, if_pos (show nI 12 = (12 : Int32) from rfl)]
      exact e1.trans e2
    · have : remX ((12, P), xr) W = ((12, remP 12 P W), xr) := by unfold remX remR; rw [if_neg (show ¬ (12 : Nat) < 12 by omega)]
      rw [this]
      refine keep σ2 12 _ ((k1.mono fun a k z => Or.inl z).tr (k2.mono fun a k z => Or.inl z.1)) (by rw [k2.2 _ _ (by omega)]; exact h7) (fun i k hi hk => ?_)
      unfold remP
      rw [if_neg (by omega)]
      by_cases z : i = 11
      · rw [if_pos z, z, c3 k hk, a3]
      · rw [if_neg z, k2.2 _ _ (by omega), c1 _ (by omega), show 363 * i + k + 363 = 363 * (i + 1) + k by omega]
        exact a5b (i + 1) k (by omega) hk
  · by_cases hr2 : r < 12
    · obtain ⟨σ2, e2, k2, c3⟩ := second (wI σ 611 7 (nI (r + 1))) (r + 1) rfl (by omega) (by omega) (sI_wIs _ _ _ _) (fun j => sI_wIn (by omega))
      have kk : Kp (fun a k => a = 616 ∨ (a = 611 ∧ k = 7)) σ σ2 := (Kp.w (Or.inr ⟨rfl, rfl⟩)).tr (k2.mono fun a k z => Or.inl z.1)
      refine ⟨σ2, ?_, ?_, kk⟩
      · rw [r_268, gI_r hM.1.1, a5, if_neg (nI_nel (n := 12) hr (by omega) (by decide)), e_268_43, gI_r hM.1.1, a5, nI_1, pI_r hM.1.1]
        exact e2
      · have : remX ((r, P), xr) W = ((r + 1, remP r P W), xr) := by unfold remX remR; rw [if_pos hr2]
        rw [this]
        refine keep σ2 (r + 1) _ kk (by rw [k2.2 _ _ (by omega)]; exact sI_wIs _ _ _ _) (fun i k hi hk => ?_)
        unfold remP
        rw [if_pos hr2]
        by_cases z : i = r
        · rw [if_pos z, z]
          have := c3 k hk
          rw [show r + 1 - 1 = r by omega] at this
          rw [this, a3]
        · rw [if_neg z, k2.2 _ _ (by omega), sI_wIn (by omega)]
          exact a5b i k (by omega) hk
    · omega
end RM
