/-! what holds between calls: of the program, of the reference -/
def TpC (σ : SH) (T : Nat) (B : Nat → Nat) : Prop := sI σ 201 1 = nI T ∧ T ≤ 400 ∧ ∀ k, k < 400 → B k < 256 ∧ sI σ 202 k = nI (B k)
def TpR (σ : SH) (T : Nat) (B : Nat → Nat) : Prop := sI σ 611 9 = nI T ∧ ∀ k, k < 400 → sI σ 617 k = sb (B k)
def PaC (σ : SH) (r : Nat) (P : Nat → WW) (L : WW) : Prop := ∃ o, (r ≤ 12 ∧ o < 12) ∧ (sI σ 200 10 = nI r ∧ sI σ 200 9 = nI o) ∧ ∀ i, i < r → CV σ (299 + 26 * ((o + i) % 12)) (P i) L ∧ WF (P i)
def PaR (σ : SH) (r : Nat) (P : Nat → WW) : Prop := sI σ 611 7 = nI r ∧ ∀ i k, i < r → k < 363 → sI σ 616 (363 * i + k) = P i k
def ImC (σ : SH) (g : Bool) (V M : WW) : Prop := sI σ 200 8 = bI g ∧ (g = true → CV σ 263 V M ∧ WF V)
def ImR (σ : SH) (g : Bool) (V M : WW) : Prop := sI σ 611 6 = bI g ∧ (g = true → (∀ k, k < 363 → sI σ 613 k = V k) ∧ ∀ k, k < 849 → sI σ 613 (363 + k) = M k)
/-- past, image, text, fault -/
abbrev XX : Type := (Nat × (Nat → WW)) × (Bool × WW × WW) × (Nat × (Nat → Nat)) × Int32
def InvC (σ : SH) (W L : WW) (x : XX) : Prop := (ShX σ ∧ TG σ) ∧ (CV σ 211 W L ∧ WF W) ∧ PaC σ x.1.1 x.1.2 L ∧ ImC σ x.2.1.1 x.2.1.2.1 x.2.1.2.2 ∧ TpC σ x.2.2.1.1 x.2.2.1.2 ∧ sI σ 200 11 = x.2.2.2
def InvR (σ : SH) (W L : WW) (x : XX) : Prop := (ShM σ ∧ WF W ∧ (W 4 = 1 → LWF L)) ∧ (sI σ 612 = W ∧ tx σ = L) ∧ PaR σ x.1.1 x.1.2 ∧ ImR σ x.2.1.1 x.2.1.2.1 x.2.1.2.2 ∧ TpR σ x.2.2.1.1 x.2.2.1.2 ∧ sI σ 611 14 = x.2.2.2
/-- all that the program may write -/
def PC (a _k : Nat) : Prop := 200 ≤ a ∧ a < 611
def RC (a : Nat) : Prop := isC a ∨ a = 203 ∨ a = 207
theorem okRC : okR RC := fun _ h => h
section IV
variable {σ σ' : SH} {W L : WW} {x : XX} {P : Nat → Nat → Prop} {R : Nat → Prop}
theorem CV.lw {c : Nat} (h : CV σ c W L) : W 4 = 1 → LWF L := fun z => by
  rcases h.2.2.1.1 with ⟨_, a2⟩ | ⟨q, _, _, _, a4, _⟩
  · rw [a2] at z; exact absurd z (by decide)
  · exact a4
theorem InvC.qq (h : InvC σ W L x) (g : InvR σ W L x) : QQ σ W L := ⟨h.1.1, h.2.1.1.ct h.2.1.2, g.1.imp id (fun z => z.2), g.2.1, h.1.2⟩
theorem InvR.mt (h : InvR σ W L x) : MT σ := ⟨h.1.1, by rw [h.2.1.1]; exact h.1.2.1, by rw [h.2.1.1, h.2.1.2]; exact h.1.2.2⟩
theorem PaC.fr {r : Nat} {P' : Nat → WW} (h : PaC σ r P' L) (g : TG σ) (k : Fr P R σ σ') (hR : okR R) (h1 : ¬ P 200 9 ∧ ¬ P 200 10) (hR2 : ∀ a, 299 ≤ a → ¬ R a) (hP : ∀ a j, 299 ≤ a → a < 611 → ¬ P a j) (h0 : ∀ a j, a < 200 → ¬ P a j) : PaC σ' r P' L := by
  have hz := g.1
  obtain ⟨o, ho, ⟨h2, h3⟩, h4⟩ := h
  refine ⟨o, ho, ⟨?_, ?_⟩, fun i hi => ?_⟩
  · rw [k.I (by omega) (by omega) h1.2]; exact h2
  · rw [k.I (by omega) (by omega) h1.1]; exact h3
  · obtain ⟨c1, c2⟩ := h4 i hi
    have hm : (o + i) % 12 < 12 := Nat.mod_lt _ (by decide)
    have hc := isC_pa hm
    have hb := isC_lt hc
    exact ⟨c1.fr c2 hc g k hR (hR2 _ (by omega)) (fun i j z _ => hP _ j (by omega) (by omega)) h0, c2⟩
theorem ImC.fr {b : Bool} {V M : WW} (h : ImC σ b V M) (g : TG σ) (k : Fr P R σ σ') (hR : okR R) (h1 : ¬ P 200 8) (hR2 : ¬ R 263) (hP : ∀ a j, 263 ≤ a → a < 289 → ¬ P a j) (h0 : ∀ a j, a < 200 → ¬ P a j) : ImC σ' b V M := by
  have hz := g.1
  refine ⟨by rw [k.I (by omega) (by omega) h1]; exact h.1, fun z => ?_⟩
  obtain ⟨c1, c2⟩ := h.2 z
  exact ⟨c1.fr c2 isC_kp g k hR hR2 (fun i j z _ => hP _ j (by omega) (by omega)) h0, c2⟩
theorem TpC.fr {T : Nat} {B : Nat → Nat} (h : TpC σ T B) (g : TG σ) (k : Fr P R σ σ') (h1 : ¬ P 201 1) (hP : ∀ j, ¬ P 202 j) : TpC σ' T B := by
  have hz := g.1
  refine ⟨by rw [k.I (by omega) (by omega) h1]; exact h.1, h.2.1, fun j hj => ?_⟩
  rw [k.I (by omega) (by omega) (hP j)]; exact h.2.2 j hj
/-- what a question may write of the program's -/
def QP (a k : Nat) : Prop := a = 217 ∨ (237 ≤ a ∧ a < 263) ∨ (289 ≤ a ∧ a < 299) ∨ 611 ≤ a ∨ (203 ≤ a ∧ a < 211) ∨ (a = 201 ∧ k ≠ 1)
theorem InvC.fr (h : InvC σ W L x) (k : Fr P R σ σ') (hR : ∀ a, R a → a = 237 ∨ a = 203 ∨ a = 207) (hP : ∀ a j, P a j → QP a j) (g' : TG σ') : InvC σ' W L x := by
  obtain ⟨⟨a1, a2⟩, ⟨a3, a4⟩, a5, a6, a7, a8⟩ := h
  have hz := a2.1
  have ok : okR R := fun a z => by
    rcases hR a z with e | e | e
    · rw [e]; exact Or.inl isC_sp
    · exact Or.inr (Or.inl e)
    · exact Or.inr (Or.inr e)
  have nP : ∀ a j, (a < 200 ∨ a = 200 ∨ (a = 201 ∧ j = 1) ∨ a = 202 ∨ (211 ≤ a ∧ a < 237 ∧ a ≠ 217) ∨ (263 ≤ a ∧ a < 289) ∨ (299 ≤ a ∧ a < 611)) → ¬ P a j := fun a j z q => by
    have := hP a j q
    unfold QP at this
    omega
  have nR : ∀ a, (a = 211 ∨ a = 263 ∨ 299 ≤ a) → ¬ R a := fun a z q => by have := hR a q; omega
  refine ⟨⟨a1.fr k hz ok, g'⟩, ⟨a3.fr a4 isC_now a2 k ok (nR _ (by omega)) (fun i j z1 z2 => nP _ _ (by omega)) (fun a j z => nP _ _ (by omega)), a4⟩, a5.fr a2 k ok ⟨nP _ _ (by omega), nP _ _ (by omega)⟩ (fun a z => nR _ (by omega)) (fun a j z1 z2 => nP _ _ (by omega)) (fun a j z => nP _ _ (by omega)), a6.fr a2 k ok (nP _ _ (by omega)) (nR _ (by omega)) (fun a j z1 z2 => nP _ _ (by omega)) (fun a j z => nP _ _ (by omega)), a7.fr a2 k (nP _ _ (by omega)) (fun j => nP _ _ (by omega)), ?_⟩
  rw [k.I (by omega) (by omega) (nP _ _ (by omega))]; exact a8
/-- what the reference may write and no one misses -/
def QR (a k : Nat) : Prop := a < 611 ∨ (a = 611 ∧ (k = 0 ∨ (10 ≤ k ∧ k ≠ 14))) ∨ a = 614 ∨ a = 615 ∨ 618 ≤ a
theorem ShM.fr (h : ShM σ) (k : Fr P R σ σ') (hz : 624 ≤ sZ σ) (hR : okR R) : ShM σ' := by
  have T : ∀ a, a < 624 → sT σ' a = sT σ a := fun a ha => k.T (by omega)
  have N : ∀ a, a < 624 → sN σ' a = sN σ a := fun a ha => k.N (by omega)
  have V : ∀ j, sV σ' 611 j = sV σ 611 j := fun j => k.V (by omega) (Or.inl (okR_n hR (isC_no (by omega)) (by omega) (by omega)))
  obtain ⟨h1, h2, h3⟩ := h
  refine ⟨?_, ?_, ?_⟩
  · rw [T 611 (by decide), V, V, V, V, V, V, V, V, V, V, V]; exact h1
  · rw [T 612 (by decide), T 613 (by decide), T 614 (by decide), T 615 (by decide), T 616 (by decide), T 617 (by decide), T 618 (by decide), T 619 (by decide), T 620 (by decide), T 621 (by decide), T 622 (by decide)]; exact h2
  · rw [N 612 (by decide), N 613 (by decide), N 614 (by decide), N 615 (by decide), N 616 (by decide), N 617 (by decide), N 618 (by decide), N 619 (by decide), N 620 (by decide), N 621 (by decide), N 622 (by decide)]; exact h3
theorem InvR.fr (h : InvR σ W L x) (k : Fr P R σ σ') (hz : 624 ≤ sZ σ) (hR : okR R) (hP : ∀ a j, P a j → QR a j) : InvR σ' W L x := by
  obtain ⟨⟨a1, a2⟩, ⟨a3, a4⟩, ⟨a5, a5b⟩, ⟨a6, a6b⟩, ⟨a7, a7b⟩, a8⟩ := h
  have I : ∀ a j, (a = 612 ∨ a = 613 ∨ a = 616 ∨ a = 617 ∨ (a = 611 ∧ (j = 6 ∨ j = 7 ∨ j = 9 ∨ j = 14))) → sI σ' a j = sI σ a j := fun a j z => k.I (by omega) (by omega) (fun q => by
    have := hP a j q
    unfold QR at this
    omega)
  have e : sI σ' 612 = sI σ 612 := funext fun j => I 612 j (by omega)
  refine ⟨⟨a1.fr k hz hR, a2⟩, ⟨e.trans a3, ?_⟩, ⟨?_, fun i j z1 z2 => ?_⟩, ⟨?_, fun z => ⟨fun j hj => ?_, fun j hj => ?_⟩⟩, ⟨?_, fun j hj => ?_⟩, ?_⟩
  · unfold tx at a4 ⊢; rw [e]; exact a4
  · rw [I _ _ (by omega)]; exact a5
  · rw [I _ _ (by omega)]; exact a5b i j z1 z2
  · rw [I _ _ (by omega)]; exact a6
  · rw [I _ _ (by omega)]; exact (a6b z).1 j hj
  · rw [I _ _ (by omega)]; exact (a6b z).2 j hj
  · rw [I _ _ (by omega)]; exact a7
  · rw [I _ _ (by omega)]; exact a7b j hj
  · rw [I _ _ (by omega)]; exact a8
/-- a question's frame is a frame -/
theorem QS.fr (h : QS σ σ') (hP : ∀ a k, Scr σ a k → a < 624 → P a k) (hR : R 237) : Fr P R σ σ' := ⟨h.1.1, fun a ha => by
  obtain ⟨⟨b1, b2, b3⟩, b4⟩ := h.2.1 a ha
  refine ⟨⟨b1, b2⟩, fun k hk => b3 k fun z => ?_, fun k z1 z2 => b4 k fun z => ?_⟩
  · rcases hk with hk | hk
    · exact hk (by rw [z.1]; exact hR)
    · exact hk.1 z.2
  · by_cases e : a < 624
    · exact z1 e (hP a k z e)
    · refine z2 (by omega) ?_
      unfold Scr at z
      unfold Stq
      omega⟩
theorem InvC.qs (h : InvC σ W L x) (k : QS σ σ') : InvC σ' W L x := h.fr (P := QP) (R := fun a => a = 237) (k.fr (fun a j z _ => by unfold Scr at z; unfold QP; omega) rfl) (fun a z => Or.inl z) (fun _ _ z => z) (h.1.2.qs k)
theorem InvR.qs (h : InvR σ W L x) (g : TG σ) (k : QS σ σ') : InvR σ' W L x := h.fr (P := QR) (R := fun a => a = 237) (k.fr (fun a j z _ => by unfold Scr at z; unfold QR; omega) rfl) g.1 (fun a z => Or.inl (by rw [z]; exact isC_sp)) (fun _ _ z => z)
/-- all that the reference may write -/
def RP (a _k : Nat) : Prop := 611 ≤ a ∧ a ≤ 622
theorem InvC.rp (h : InvC σ W L x) (k : Kp RP σ σ') : InvC σ' W L x := by
  have f : Fr RP (fun _ => False) σ σ' := k.fr (fun _ _ _ z => z) (fun a j z1 z2 => by unfold RP at z2; omega)
  exact h.fr f (fun a z => z.elim) (fun a j z => by unfold RP at z; unfold QP; omega) (h.1.2.fr f k.Z)
theorem InvR.pc (h : InvR σ W L x) (hz : 624 ≤ sZ σ) (k : Fr PC RC σ σ') : InvR σ' W L x := h.fr k hz okRC (fun a j z => by unfold PC at z; unfold QR; omega)
end IV
