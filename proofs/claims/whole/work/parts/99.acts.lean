/-! calls that change the world -/
def Lo (σ σ' : SH) : Prop := ∀ a, a < 200 → sT σ' a = sT σ a ∧ sN σ' a = sN σ a ∧ ∀ k, sV σ' a k = sV σ a k ∧ sI σ' a k = sI σ a k
def Bu (σ σ' : SH) : Prop := sZ σ ≤ sZ σ' ∧ sZ σ' ≤ sZ σ + 6 ∧ sS σ' ≤ sS σ + 900
/-- the reference's answer -/
def RfA (rs : SR) (τ : SH) (v : Int32) (W L : WW) (x : XX) (k : Nat) : Prop := ∃ τ2, rs = some (.inl (some (.int v)), τ2) ∧ InvC τ2 W L x ∧ InvR τ2 W L x ∧ (τ2.2 = τ.2 ∧ ∀ a j, a < 200 → sI τ2 a j = sI τ a j) ∧ sI τ2 611 0 = nI k
/-- the program answers from σ as the reference does -/
def Opr (cl : SR) (σ : SH) (rf : SH → SR) (ex : List (Nat × Int32)) (W L : WW) (x : XX) : Prop := ∃ (k : Nat) (v : Int32) (W' L' : WW) (x' : XX) (σ1 : SH), Out cl k v σ1 ex ∧ InvC σ1 W' L' x' ∧ InvR σ1 W L x ∧ Lo σ σ1 ∧ Bu σ σ1 ∧ ∀ τ, InvC τ W' L' x' → InvR τ W L x → RfA (rf τ) τ v W' L' x' k
theorem Fr.lo {σ σ' : SH} {P : Nat → Nat → Prop} {R : Nat → Prop} (h : Fr P R σ σ') (hz : 624 ≤ sZ σ) (hR : okR R) (hP : ∀ a j, a < 200 → ¬ P a j) : Lo σ σ' := fun a ha => ⟨h.T (by omega), h.N (by omega), fun k => ⟨h.V (by omega) (Or.inl (okR_n hR (isC_no (by omega)) (by omega) (by omega))), h.I (by omega) (by omega) (hP a k ha)⟩⟩
theorem Lo.pc {σ σ' : SH} (h : Fr PC RC σ σ') (hz : 624 ≤ sZ σ) : Lo σ σ' := h.lo hz okRC (fun a j z q => by unfold PC at q; omega)
theorem Lo.tr {σ σ' σ'' : SH} (h : Lo σ σ') (g : Lo σ' σ'') : Lo σ σ'' := fun a ha => ⟨(g a ha).1.trans (h a ha).1, (g a ha).2.1.trans (h a ha).2.1, fun k => ⟨((g a ha).2.2 k).1.trans ((h a ha).2.2 k).1, ((g a ha).2.2 k).2.trans ((h a ha).2.2 k).2⟩⟩
theorem QS.lo {σ σ' : SH} (k : QS σ σ') (hz : 624 ≤ sZ σ) : Lo σ σ' := (k.fr (P := QP) (R := fun a => a = 237) (fun a j z _ => by unfold Scr at z; unfold QP; omega) rfl).lo hz (fun a z => Or.inl (by rw [z]; exact isC_sp)) (fun a j z q => by unfold QP at q; omega)
section AC
variable {σ σ' : SH} {W L : WW} {x : XX}
/-- what the reference's own calls write -/
theorem InvR.kp {Q : Nat → Nat → Prop} (h : InvR σ W L x) (k : Kp Q σ σ') (hQ : ∀ a j, Q a j → QR a j) : InvR σ' W L x := by
  obtain ⟨⟨a1, a2⟩, ⟨a3, a4⟩, ⟨a5, a5b⟩, ⟨a6, a6b⟩, ⟨a7, a7b⟩, a8⟩ := h
  have I : ∀ a j, (a = 612 ∨ a = 613 ∨ a = 616 ∨ a = 617 ∨ (a = 611 ∧ (j = 6 ∨ j = 7 ∨ j = 9 ∨ j = 14))) → sI σ' a j = sI σ a j := fun a j z => k.2 a j (fun q => by
    have := hQ a j q
    unfold QR at this
    omega)
  have e : sI σ' 612 = sI σ 612 := funext fun j => I 612 j (by omega)
  refine ⟨⟨a1.kp k, a2⟩, ⟨e.trans a3, ?_⟩, ⟨?_, fun i j z1 z2 => ?_⟩, ⟨?_, fun z => ⟨fun j hj => ?_, fun j hj => ?_⟩⟩, ⟨?_, fun j hj => ?_⟩, ?_⟩
  · unfold tx at a4 ⊢; rw [e]; exact a4
  · rw [I _ _ (by omega)]; exact a5
  · rw [I _ _ (by omega)]; exact a5b i j z1 z2
  · rw [I _ _ (by omega)]; exact a6
  · rw [I _ _ (by omega)]; exact (a6b z).1 j hj
  · rw [I _ _ (by omega)]; exact (a6b z).2 j hj
  · rw [I _ _ (by omega)]; exact a7
  · rw [I _ _ (by omega)]; exact a7b j hj
  · rw [I _ _ (by omega)]; exact a8
theorem InvR.z (h : InvR σ W L x) (v : Int32) : InvR (wI σ 611 0 v) W L x := h.kp (Q := fun a j => a = 611 ∧ j = 0) (Kp.w ⟨rfl, rfl⟩) (fun a j z => by unfold QR; omega)
theorem InvR.mj (h : InvR σ W L x) (k : Kp MJ σ σ') : InvR σ' W L x := h.kp k (fun a j z => by unfold MJ at z; unfold QR; omega)
theorem InvR.now {W' : WW} (h : InvR σ W L x) (k : Kp (fun a j => a = 612 ∧ j < 363) σ σ') (e : sI σ' 612 = W') (hw : WF W') (h4 : W' 4 = W 4) : InvR σ' W' L x := by
  obtain ⟨⟨a1, a2, a2b⟩, ⟨a3, a4⟩, ⟨a5, a5b⟩, ⟨a6, a6b⟩, ⟨a7, a7b⟩, a8⟩ := h
  have I : ∀ a j, (a = 613 ∨ a = 616 ∨ a = 617 ∨ a = 611 ∨ (a = 612 ∧ 363 ≤ j)) → sI σ' a j = sI σ a j := fun a j z => k.2 a j (by omega)
  refine ⟨⟨a1.kp k, hw, by rw [h4]; exact a2b⟩, ⟨e, ?_⟩, ⟨?_, fun i j z1 z2 => ?_⟩, ⟨?_, fun z => ⟨fun j hj => ?_, fun j hj => ?_⟩⟩, ⟨?_, fun j hj => ?_⟩, ?_⟩
  · rw [← a4]; funext j; exact I 612 (363 + j) (by omega)
  · rw [I _ _ (by omega)]; exact a5
  · rw [I _ _ (by omega)]; exact a5b i j z1 z2
  · rw [I _ _ (by omega)]; exact a6
  · rw [I _ _ (by omega)]; exact (a6b z).1 j hj
  · rw [I _ _ (by omega)]; exact (a6b z).2 j hj
  · rw [I _ _ (by omega)]; exact a7
  · rw [I _ _ (by omega)]; exact a7b j hj
  · rw [I _ _ (by omega)]; exact a8
theorem InvC.now {W' : WW} (h : InvC σ W L x) (k : Kp (fun a _ => 211 ≤ a ∧ a < 237) σ σ') (hc : CV σ' 211 W' L) (hw : WF W') : InvC σ' W' L x ∧ Fr PC RC σ σ' := by
  obtain ⟨⟨a1, a2⟩, ⟨a3, a4⟩, a5, a6, a7, a8⟩ := h
  have hz := a2.1
  have f : Fr (fun a _ => 211 ≤ a ∧ a < 237) (fun _ => False) σ σ' := k.fr (fun _ _ _ z => z) (fun a j z1 z2 => by omega)
  have ok : okR (fun _ : Nat => False) := fun a z => z.elim
  refine ⟨⟨⟨a1.fr f hz ok, a2.fr f k.Z⟩, ⟨hc, hw⟩, a5.fr a2 f ok (by omega) (fun a _ z => z) (fun a j _ _ z => by omega) (fun a j _ z => by omega), a6.fr a2 f ok (by omega) (fun z => z) (fun a j _ _ z => by omega) (fun a j _ z => by omega), a7.fr a2 f (by omega) (fun j z => by omega), ?_⟩, f.mono (fun a j _ z => by unfold PC; omega) (fun a z => z.elim)⟩
  rw [k.2 _ _ (by omega)]; exact a8
/-- a question is a call -/
theorem OpQ.op {cl : SR} {rf : SH → SR} {ex : List (Nat × Int32)} (h : OpQ cl σ rf ex W L) (hc : InvC σ W L x) (hr : InvR σ W L x) : Opr cl σ rf ex W L x := by
  obtain ⟨k, v, σ1, h1, h2, h3⟩ := h
  refine ⟨k, v, W, L, x, σ1, h1, hc.qs h2, hr.qs hc.1.2 h2, h2.lo hc.1.2.1, ⟨h2.1.1, by have := h2.1; omega, by have := h2.1; omega⟩, fun τ c r => ?_⟩
  obtain ⟨τ2, e1, e2, e3⟩ := h3 τ (c.qq r)
  exact ⟨τ2, e1, c.qs e2.qs, r.qs c.1.2 e2.qs, ⟨e2.1, fun a j ha => e2.2 a j (fun z => by unfold Scr at z; omega)⟩, e3⟩
theorem RfA.mk' {rs : SR} {τ τ2 : SH} {v : Int32} {W' L' : WW} {x' : XX} {k : Nat} (h : rs = some (.inl (some (.int v)), τ2)) (c : InvC τ W' L' x') (r : InvR τ2 W' L' x') (kp : Kp RP τ τ2) (e : sI τ2 611 0 = nI k) : RfA rs τ v W' L' x' k := ⟨τ2, h, c.rp kp, r, ⟨kp.1, fun a j ha => kp.2 a j (fun z => by unfold RP at z; omega)⟩, e⟩
end AC
