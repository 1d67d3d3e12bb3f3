/-! the call county -/
def OpS (cl : SR) (σ : SH) (rf : SH → SR) (ex : List (Nat × Int32)) (W L : WW) (x : XX) : Prop := ∃ (k : Nat) (v : Int32) (W' L' : WW) (x' : XX) (σ1 : SH), Out cl k v σ1 ex ∧ InvC σ1 W' L' x' ∧ InvR σ1 W L x ∧ Lo σ σ1 ∧ Bu σ σ1 ∧ ∀ τ, StA τ → InvC τ W' L' x' → InvR τ W L x → RfA (rf τ) τ v W' L' x' k
section F4
variable {σ σ' τ τ' : SH} {W W' L L' : WW} {x : XX} {t : TXT}
theorem InvR.ct (h : InvR τ W L x) (k : Kp (fun a j => a = 612 ∨ a = 614 ∨ (a = 611 ∧ (j = 0 ∨ j = 7 ∨ 10 ≤ j))) τ τ') (e : sI τ' 612 = W') (eL : tx τ' = L') (hw : WF W') (hl : W' 4 = 1 → LWF L') {r' : Nat} {v : Int32} (h7 : sI τ' 611 7 = nI r') (hr : r' ≤ x.1.1) (hv : sI τ' 611 14 = v) : InvR τ' W' L' ((r', x.1.2), x.2.1, x.2.2.1, v) := by
  obtain ⟨⟨a1, a2⟩, ⟨a3, a4⟩, ⟨a5, a5b⟩, ⟨a6, a6b⟩, ⟨a7, a7b⟩, a8⟩ := h
  have I : ∀ a j, (a = 613 ∨ a = 616 ∨ a = 617 ∨ (a = 611 ∧ (j = 6 ∨ j = 9))) → sI τ' a j = sI τ a j := fun a j z => k.2 a j (by omega)
  refine ⟨⟨a1.kp k, hw, hl⟩, ⟨e, eL⟩, ⟨h7, fun i j z1 z2 => ?_⟩, ⟨?_, fun z => ⟨fun j hj => ?_, fun j hj => ?_⟩⟩, ⟨?_, fun j hj => ?_⟩, hv⟩
  · rw [I _ _ (by omega)]; exact a5b i j (by have : i < r' := z1; omega) z2
  · rw [I _ _ (by omega)]; exact a6
  · rw [I _ _ (by omega)]; exact (a6b z).1 j hj
  · rw [I _ _ (by omega)]; exact (a6b z).2 j hj
  · rw [I _ _ (by omega)]; exact a7
  · rw [I _ _ (by omega)]; exact a7b j hj
theorem Rst_kp (σ : SH) (W : WW) (p b st dp : Nat) : Kp (fun a j => a = 612 ∨ (a = 611 ∧ (j = 10 ∨ j = 12 ∨ j = 13 ∨ j = 16))) σ (Rst σ W p b st dp) := ⟨rfl, fun a k h => Rst_o (by omega) (by omega)⟩
/-- the reference's county up to the text's end -/
theorem cty_2 (hr : InvR τ W L x) (hs : StA τ) (ht : TxO t) (ht1 : t.1 = x.2.2.1.2) (ht2 : t.2.1 = x.2.2.1.1) : ∃ τb W' p b dp y, InvR τb W L (xT x 0 x.2.2.1.2) ∧ Kp RP τ τb ∧ (∀ k, k < 1212 → sI τb 614 k = W k) ∧ sI τb 611 0 = 0 ∧ (∀ j, 363 ≤ j → W' j = W j) ∧ ((ctP t W).2 = none → y = -1 ∧ b = tkE t (ctP t W).1) ∧ (∀ V, (ctP t W).2 = some V → W' = V ∧ ∃ n, n < 100 ∧ y = nI n) ∧
    rn 185 [.ref 611] τ = (if (y < 0 : Prop) then (gI (Rst τb W' p b 0 dp) 112 12 (.ref 611) fun x24 => exec PP 64 185 46 [some (.ref 611), some (.int y), none] [.int x24, .ref 611] (Rst τb W' p b 0 dp)) else (exec PP 64 185 45 [some (.ref 611), some (.int y), none] [.ref 611] (Rst τb W' p b 0 dp))) := by
  have hM := hr.1.1
  have hW := hr.1.2.1
  obtain ⟨τa, p1, p2, p3⟩ := cpy (ρ := τ) (F := fun i τ => exec PP 64 185 2 [some (.ref 611), some (.int (nI i)), none] [] τ) (K := fun τ => exec PP 64 185 27 [some (.ref 611), some (.int (nI 1212)), none] [] τ) (q := 614) (n := 1212) (f := W) (p := 1212) (by
    intro i ρ hi hk
    have mρ := hM.e hk.1
    have e6 : sI ρ 612 i = W i := by rw [hk.2 _ _ (by omega), hr.2.1.1]
    show exec PP 64 185 2 _ _ ρ = _
    rw [e_185_2, if_pos (nI_ltl (n := 1212) hi (by decide)), gR_r mρ.1.1 mρ.1.2.2.2.1, gR_r mρ.1.1 mρ.1.2.1, m_w mρ (by omega), e6, uI_r mρ.2.1.2.2.1 (by rw [mρ.2.2.2.2.1]; omega) (by rw [mρ.2.2.2.2.1]; decide), nI_1]) (by
    intro ρ hk
    show exec PP 64 185 2 _ _ ρ = _
    rw [e_185_2, if_neg (nI_nltl (n := 1212) (by omega) (by decide))]) rfl
  have ra : InvR τa W L x := hr.kp p2 (fun a j z => by unfold QR; omega)
  obtain ⟨τb, q1, q2, q3, q4, q5, q6⟩ := m_187 ra
  have kb : Kp RP τ τb := (p2.mono fun a j z => by unfold RP; omega).tr (q3.mono rp187)
  have sb' : StA τb := hs.lo (Lo.e kb.1 fun a j ha => kb.2 _ _ (by unfold RP; omega))
  have tr : TkR τb t := ⟨q2.1.1, ht, sb', by rw [ht2]; exact q4, fun k hk => by rw [ht1]; exact q2.2.2.2.2.1.2 k hk⟩
  obtain ⟨b0, hb0⟩ := nI_any (sI τb 611 12)
  obtain ⟨d0, hd0⟩ := nI_any (sI τb 611 13)
  obtain ⟨s0, hs0⟩ := nI_any (sI τb 611 16)
  have ee : wI τb 611 16 0 = Rst τb W 0 b0 0 d0 := by
    have := Rst_e (p := 0) q6 hb0 hd0 hs0 q2.2.1.1
    have h2 := Rst_s (σ := τb) (W := W) (p := 0) (b := b0) (st := s0) (dp := d0) 0
    rw [this] at h2
    exact h2
  obtain ⟨W', p, b, y, e, f1, f2, f3⟩ := m_186b (b := b0) (st := 0) (dp := d0) tr hW
  refine ⟨τb, W', p, b, d0, y, q2, kb, fun k hk => ?_, q5, f1, f2, f3, ?_⟩
  · rw [q3.2 _ _ (by omega)]; exact p3 k hk
  · rw [r_185]
    refine p1.trans ?_
    try dsimp only
    rw [e_185_27, if_pos ra.t, r_186, if_pos ra.t, q1, onV_i, pI_r q2.t, ee, if_pos (show sT (Rst τb W 0 b0 0 d0) 611 = 112 from q2.t), e, onI_i]
/-- all as it was -/
theorem cty_back {ρ : SH} (hM : ShM ρ) (h4 : ∀ k, k < 1212 → sI ρ 614 k = W k) (h6 : ∀ k, 1212 ≤ k → sI ρ 612 k = W k) : ∃ τz, exec PP 64 185 92 [some (.ref 611), none, some (.int 0)] [] ρ = some (.inl (some (.int 0)), τz) ∧ Kp (fun a _ => a = 612) ρ τz ∧ sI τz 612 = W := by
  obtain ⟨τz, p1, p2, p3⟩ := cpy (ρ := ρ) (F := fun i τ => exec PP 64 185 92 [some (.ref 611), none, some (.int (nI i))] [] τ) (K := fun τ => some (.inl (some (.int 0)), τ)) (q := 612) (n := 1212) (f := W) (p := 1212) (by
    intro i ρ' hi hk
    have mρ := hM.e hk.1
    have e6 : sI ρ' 614 i = W i := by rw [hk.2 _ _ (by omega)]; exact h4 i hi
    show exec PP 64 185 92 _ _ ρ' = _
    rw [e_185_92, if_pos (nI_ltl (n := 1212) hi (by decide)), gR_r mρ.1.1 mρ.1.2.1, gR_r mρ.1.1 mρ.1.2.2.2.1, aI_r mρ.2.1.2.2.1 (by rw [mρ.2.2.2.2.1]; omega) (by rw [mρ.2.2.2.2.1]; decide), e6, w612 mρ (by omega), nI_1]) (by
    intro ρ' hk
    show exec PP 64 185 92 _ _ ρ' = _
    rw [e_185_92, if_neg (nI_nltl (n := 1212) (by omega) (by decide)), e_185_117]) rfl
  refine ⟨τz, p1, p2.mono fun a j z => z.1, funext fun k => ?_⟩
  by_cases hk : k < 1212
  · exact p3 k hk
  · rw [p2.2 _ _ (by omega)]; exact h6 k (by omega)
/-- the reference refuses -/
theorem cty_no {v : Int32} (hr : InvR τ W L x) (hc : InvC τ W L (xT (xF x v) 0 x.2.2.1.2)) {τb : SH} {p b dp k : Nat} (q2 : InvR τb W L (xT x 0 x.2.2.1.2)) (kb : Kp RP τ τb) (h4 : ∀ k, k < 1212 → sI τb 614 k = W k) (f1 : ∀ j, 363 ≤ j → W' j = W j) (hk : (k : Nat) < 10) {X : SR} (eX : X = exec PP 64 185 92 [some (.ref 611), none, some (.int 0)] [] (wI (wI (Rst τb W' p b 0 dp) 611 14 v) 611 0 (nI k))) : RfA X τ 0 W L (xT (xF x v) 0 x.2.2.1.2) k := by
  have k1 : Kp (fun a j => a = 612 ∨ (a = 611 ∧ (j = 0 ∨ 10 ≤ j))) τb (wI (wI (Rst τb W' p b 0 dp) 611 14 v) 611 0 (nI k)) := (((Rst_kp τb W' p b 0 dp).mono fun a j z => by omega).wr (Or.inr ⟨rfl, by omega⟩)).wr (Or.inr ⟨rfl, by omega⟩)
  obtain ⟨τz, e1, e2, e3⟩ := cty_back (W := W) (ρ := wI (wI (Rst τb W' p b 0 dp) 611 14 v) 611 0 (nI k)) (q2.1.1.kp k1) (fun j hj => by rw [k1.2 _ _ (by omega)]; exact h4 j hj) (fun j hj => by
    rw [sI_wIn (by omega), sI_wIn (by omega), Rst_612]; exact f1 j (by omega))
  have k2 := k1.tr (e2.mono fun a j z => Or.inl z)
  refine RfA.mk' (eX.trans e1) hc (q2.ct (k2.mono fun a j z => by omega) e3 ?_ q2.1.2.1 q2.1.2.2 (r' := x.1.1) ?_ (Nat.le_refl _) ?_) (kb.tr (k2.mono fun a j z => by unfold RP; omega)) ?_
  · rw [← q2.2.1.2]; unfold tx; rw [e3, q2.2.1.1]
  · rw [k2.2 _ _ (by omega)]; exact q2.2.2.1.1
  · rw [e2.2 _ _ (by omega), sI_wIn (by omega), sI_wIs]; rfl
  · rw [e2.2 _ _ (by omega), sI_wIs]
end F4
