/-! what a county's text leaves of the world -/
theorem ln_keep {t : TXT} {W V : WW} {k k' : Nat} (hW : WF W) (h : lnP t W k = (k', some V)) : ∀ j, (j = 3 ∨ j = 4 ∨ j = 8 ∨ j = 9 ∨ 123 ≤ j) → V j = W j := by
  intro j hj
  have l6 := (WF_nS hW).2
  have l5 := (WF_nB hW).2
  have l8 := (WF_nD hW).2
  unfold lnP at h
  split at h
  · split at h
    · rename_i hs
      unfold shP at h
      obtain ⟨_, a2, h⟩ := pN_some h
      obtain ⟨_, b2, h⟩ := pN_some (pW_some h)
      obtain ⟨_, c2, h⟩ := pN_some (pW_some h)
      obtain ⟨_, d2, h⟩ := pN_some (pW_some h)
      obtain ⟨k1, d, hd, h⟩ := drP_some h
      obtain ⟨k2, x, hx, h⟩ := chP_some h
      cases h
      exact seS_o (by omega) (by omega)
    · cases h
  split at h
  · split at h
    · rename_i hs
      unfold brP at h
      obtain ⟨_, a2, h⟩ := pN_some h
      obtain ⟨_, b2, h⟩ := pN_some (pW_some h)
      obtain ⟨c1, c2, h⟩ := pN_some (pW_some h)
      cases h
      exact seB_o (by omega) (by omega)
    · cases h
  split at h
  · split at h
    · rename_i hs
      unfold deP at h
      obtain ⟨_, a2, h⟩ := pN_some h
      obtain ⟨_, b2, h⟩ := pN_some (pW_some h)
      obtain ⟨_, c2, h⟩ := pN_some (pW_some h)
      obtain ⟨_, d2, h⟩ := pN_some (pW_some h)
      cases h
      exact seD_o (by omega) (by omega)
    · cases h
  split at h
  · obtain ⟨_, a2, h⟩ := pN_some h
    cases h
    exact uW_n (by omega)
  split at h
  · obtain ⟨_, a2, h⟩ := pN_some h
    cases h
    exact uW_n (by omega)
  split at h
  · obtain ⟨_, a2, h⟩ := pN_some h
    cases h
    exact uW_n (by omega)
  · cases h
theorem ctL_keep {t : TXT} {V : WW} {k' : Nat} : ∀ (m : Nat) (W : WW) (k : Nat), WF W → ctL t m W k = (k', some V) → WF V ∧ ∀ j, (j = 3 ∨ j = 4 ∨ j = 8 ∨ j = 9 ∨ 123 ≤ j) → V j = W j
  | 0, W, k, hW, h => by cases h
  | m + 1, W, k, hW, h => by
    unfold ctL at h
    cases hr : lnP t W k with
    | mk k1 o =>
      rw [hr] at h
      cases o with
      | none => cases h
      | some W1 =>
        have w1 := WF_ln hW hr
        have g1 := ln_keep hW hr
        try dsimp only at h
        split at h
        · cases h
          exact ⟨w1, g1⟩
        · obtain ⟨q1, q2⟩ := ctL_keep m W1 (k1 + 1) w1 (pW_some h)
          exact ⟨q1, fun j hj => (q2 j hj).trans (g1 j hj)⟩
theorem ct_keep {t : TXT} {W V : WW} (hW : WF W) (h : (ctP t W).2 = some V) : WF V ∧ ∀ j, (j = 3 ∨ j = 4 ∨ j = 8 ∨ j = 9 ∨ 123 ≤ j) → V j = W j := by
  have e : ctP t W = ((ctP t W).1, some V) := Prod.ext rfl h
  unfold ctP at e
  by_cases z : tkG t 0 = 37
  · rw [if_pos z] at e
    cases e
    exact ⟨hW, fun _ _ => rfl⟩
  · rw [if_neg z] at e
    exact ctL_keep 14 W 0 hW e
/-! frames -/
def PQ (a k : Nat) : Prop := (237 ≤ a ∧ a < 263) ∨ (203 ≤ a ∧ a < 211) ∨ (a = 201 ∧ k ≠ 1)
def RQ (a : Nat) : Prop := a = 237 ∨ a = 203 ∨ a = 207
theorem okRQ : okR RQ := fun a h => by
  rcases h with h | h | h
  · rw [h]; exact Or.inl isC_sp
  · exact Or.inr (Or.inl h)
  · exact Or.inr (Or.inr h)
theorem PQ_pc {σ σ' : SH} (h : Fr PQ RQ σ σ') : Fr PC RC σ σ' := h.mono (fun a k _ z => by unfold PQ at z; unfold PC; omega) (fun a z => okRQ a z)
def xF (x : XX) (v : Int32) : XX := (x.1, x.2.1, x.2.2.1, v)
section F3
variable {σ σ' τ : SH} {W L : WW} {x : XX}
theorem SpF.fr (h : SpF σ σ') : Fr PQ RQ σ σ' := by
  refine ⟨by show σ.2.2.2.2.2.1 ≤ σ'.2.2.2.2.2.1; rw [h.1]; exact Nat.le_refl _, fun a ha => ⟨⟨by unfold sT; rw [h.1], by unfold sN; rw [h.1]⟩, fun k hk => ?_, fun k z1 z2 => ?_⟩⟩
  · by_cases e : a = 203
    · rcases hk with hk | hk
      · exact absurd (Or.inr (Or.inl e)) hk
      · omega
    · exact h.2.1 a k e
  · refine h.2.2 a k fun z => ?_
    unfold TSp at z
    exact z1 (by omega) (by unfold PQ; omega)
theorem SpF.Z (h : SpF σ σ') : sZ σ' = sZ σ ∧ sS σ' = sS σ := ⟨by unfold sZ; rw [h.1], by unfold sS; rw [h.1]⟩
theorem TS_kp (σ : SH) (k v : Nat) : Kp (fun a j => a = 201 ∧ (j = 6 ∨ j = 7)) σ (TS σ k v) := (Kp.w ⟨rfl, Or.inl rfl⟩).wr ⟨rfl, Or.inr rfl⟩
theorem Kp.pq {P : Nat → Nat → Prop} (h : Kp P σ σ') (hP : ∀ a k, P a k → PQ a k) : Fr PQ RQ σ σ' := h.fr (fun a k _ z => hP a k z) (fun a k z1 z2 => by have := hP a k z2; unfold PQ at this; omega)
theorem InvC.pq (h : InvC σ W L x) (k : Fr PQ RQ σ σ') (g : TG σ') : InvC σ' W L x := h.fr k (fun a z => z) (fun a j z => by unfold PQ at z; unfold QP; omega) g
theorem TB_of {T : Nat} {B : Nat → Nat} (hX : ShX σ) (h : TpC σ T B) : TB σ B := by
  obtain ⟨a1, a2, a3, a4, a5, a6⟩ := hX.2.1
  exact ⟨⟨a1, a2, a3, a4, a5⟩, a6, h.2.2⟩
theorem InvC.ft (h : InvC σ W L x) (v : Int32) : InvC (wI σ 200 11 v) W L (xF x v) ∧ Fr PC RC σ (wI σ 200 11 v) := by
  obtain ⟨⟨a1, a2⟩, ⟨a3, a4⟩, a5, a6, a7, a8⟩ := h
  have hz := a2.1
  have k : Kp (fun a j => a = 200 ∧ j = 11) σ (wI σ 200 11 v) := Kp.w ⟨rfl, rfl⟩
  have f : Fr (fun a j => a = 200 ∧ j = 11) (fun _ => False) σ (wI σ 200 11 v) := k.fr (fun _ _ _ z => z) (fun a j z1 z2 => by omega)
  have ok : okR (fun _ : Nat => False) := fun a z => z.elim
  exact ⟨⟨⟨a1.fr f hz ok, a2.fr f k.Z⟩, ⟨a3.fr a4 isC_now a2 f ok (fun z => z) (fun i j _ _ z => by omega) (fun a j _ z => by omega), a4⟩, a5.fr a2 f ok (by omega) (fun a _ z => z) (fun a j _ _ z => by omega) (fun a j _ z => by omega), a6.fr a2 f ok (by omega) (fun z => z) (fun a j _ _ z => by omega) (fun a j _ z => by omega), a7.fr a2 f (by omega) (fun j => by omega), sI_wIs _ _ _ _⟩, f.mono (fun a j _ z => by unfold PC; omega) (fun a z => z.elim)⟩
/-- the text closed: its fault told, the tape emptied -/
theorem m_120 (h : InvC σ W L x) {t : TXT} {k v : Nat} (hT : TkC τ t) (hk : k ≤ tkN t) (e : σ = TS τ k v) (b : Bool) : rn 120 [.ref 200, .int (bI b)] σ = some (.inl none, wI (wI σ 200 11 (if b = true then -1 else nI (tkE t k))) 201 1 0) ∧ InvC (wI (wI σ 200 11 (if b = true then -1 else nI (tkE t k))) 201 1 0) W L (xT (xF x (if b = true then -1 else nI (tkE t k))) 0 x.2.2.1.2) ∧ Fr PC RC σ (wI (wI σ 200 11 (if b = true then -1 else nI (tkE t k))) 201 1 0) := by
  obtain ⟨c1, f1⟩ := h.ft (if b = true then -1 else nI (tkE t k))
  obtain ⟨c2, f2⟩ := c1.e0
  refine ⟨?_, c2, f1.tr f2⟩
  cases b with
  | true => rw [show bI true = (1 : Int32) from rfl, r_120, if_neg n10, e_120_16, pI_r (tX h.1.1), if_pos rfl, gT0 (show ShX (wI σ 200 11 (-1)) from c1.1.1), pI_r (tTp (show ShX (wI σ 200 11 (-1)) from c1.1.1))]
  | false =>
    have e5 : rn 105 [.ref 201] σ = some (.inl (some (.int (nI (tkE t k)))), σ) := by rw [e]; exact m_105 hT hk
    rw [if_neg (by decide)] at c1
    rw [show bI false = (0 : Int32) from rfl, r_120, if_pos n00, e_120_9, gT0 h.1.1, if_pos (tTp h.1.1), e5, onI_i, pI_r (tX h.1.1), if_neg (by decide), gT0 c1.1.1, pI_r (tTp c1.1.1)]
theorem CV.null {c : Nat} (h : CV σ c W L) : sV σ c 12 = .null ∨ ∃ q, sV σ c 12 = .ref q := by
  rcases h.2.2.1.1 with ⟨z, _⟩ | ⟨q, _, z, _⟩
  · exact Or.inl z
  · exact Or.inr ⟨q, z⟩
/-- the class's county up to the text's end -/
theorem cty_1 (hc : InvC σ W L x) (hs : StA σ) : ∃ σ3 t v, (TxO t ∧ t.1 = x.2.2.1.2 ∧ t.2.1 = x.2.2.1.1) ∧ InvC (TS σ3 (ctP t W).1 v) W L x ∧ Fr PQ RQ σ (TS σ3 (ctP t W).1 v) ∧ (sZ σ3 = sZ σ ∧ sS σ3 = sS σ) ∧ TkC σ3 t ∧ (ctP t W).1 ≤ tkN t ∧ (∀ W', (ctP t W).2 = some W' → CV σ3 237 W' L ∧ WF W') ∧
    rn 119 [.ref 200] σ = (onV (rn 120 [.ref 200, .int (bI (ctP t W).2.isSome)] (TS σ3 (ctP t W).1 v)) (fun σ33 =>
        if (bI (ctP t W).2.isSome = 0 : Prop) then (some (.inr 0, mkC σ33 0 0 6))
          else (exec PP 8 119 49 [some (.ref 200), some (.int (bI (ctP t W).2.isSome))] [] σ33)) (fun e σ => some (.inr e, σ))) := by
  have hX := hc.1.1
  have hz := hc.1.2.1
  have hC := hc.2.1.1
  have hW := hc.2.1.2
  have tp := hc.2.2.2.2.1
  obtain ⟨σ1, e1, k1⟩ := m_6 (σ := σ) (a := 237) (b := 211) isC_sp isC_now (by omega) hX hC.2.2.2.2.2 hC.null
  have f1 : Fr PQ RQ σ σ1 := k1.fr isC_sp (fun q _ z1 z2 => Or.inl ⟨z1, z2⟩) (Or.inl rfl)
  have g1 := hc.1.2.fr f1 k1.Z
  have c1 := hc.pq f1 g1
  have v1 := k1.cv hC hW isC_sp isC_now (hX.2.2.2.2.2.2.2.2 _ isC_sp) hc.1.2
  have s1 : StA σ1 := hs.lo (Lo.pc (PQ_pc f1) hz)
  obtain ⟨σ2, t, e2, k2, t2, tb, tt, z6⟩ := m_98 (TB_of c1.1.1 c1.2.2.2.2.1) s1 c1.2.2.2.2.1.2.1 c1.2.2.2.2.1.1
  have f2 := k2.fr
  have g2 := g1.fr f2 k2.Z.1
  have c2 := c1.pq f2 g2
  obtain ⟨v, hv⟩ := nI_any (sI σ2 201 7)
  have v2 : CV σ2 237 W L := v1.fr (P := fun a j => PQ a j ∧ ¬ (237 ≤ a ∧ a < 263)) (R := fun a => a = 203) hW isC_sp g1 ⟨f2.1, fun a ha => ⟨(f2.2 a ha).1, fun k hk => ?_, fun k z1 z2 => ?_⟩⟩ (fun a z => Or.inr (Or.inl z)) (by omega) (fun i j _ _ z => by omega) (fun a j _ z => by unfold PQ at z; omega)
  · have h3 := m_76 (v := v) c2.1.1 g2.1 t2 v2 hW
    rw [TS_e (k := 0) z6 hv] at h3
    obtain ⟨σ3, v3, e3, k3, n3, w3⟩ := h3
    have f3 : Fr PQ RQ σ2 σ3 := k3.pq (fun a j z => by unfold CwP at z; unfold PQ; omega)
    have g3 := g2.fr f3 k3.Z
    have f4 : Fr PQ RQ σ3 (TS σ3 (ctP t W).1 v3) := (TS_kp σ3 _ v3).pq (fun a j z => by unfold PQ; omega)
    have z2 := k2.Z
    refine ⟨σ3, t, v3, ⟨t2.2.1, tb, tt⟩, (c2.pq f3 g3).pq f4 (g3.fr f4 rfl), ((f1.tr f2).tr f3).tr f4, ⟨by rw [k3.Z, z2.1, k1.Z], by rw [k3.S, z2.2, k1.S]⟩, t2.cw k3, n3, w3, ?_⟩
    have c4 := (c2.pq f3 g3).pq f4 (g3.fr f4 rfl)
    rw [r_119, x3 hX, x2 hX, if_pos (tCo hX isC_sp), e1, onV_i, x0 c1.1.1, if_pos (tTp c1.1.1), e2, onV_i, x1 c2.1.1, x3 c2.1.1, if_pos c2.1.1.2.2.1.1, e3, onI_i, if_pos (tX c4.1.1)]
  · by_cases e : a = 203
    · rcases hk with hk | hk
      · exact absurd e hk
      · omega
    · exact k2.2.1 a k e
  · refine k2.2.2 a k fun z => ?_
    unfold TSp at z
    exact z1 (by omega) ⟨by unfold PQ; omega, by omega⟩
end F3
