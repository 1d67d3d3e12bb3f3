section F5
variable {σ τ : SH} {W L : WW} {x : XX}
theorem op_county (hc : InvC σ W L x) (hr : InvR σ W L x) (hs : StA σ) : OpS (rn 119 [.ref 200] σ) σ (fun τ => rn 185 [.ref 611] τ) [(0, 1), (1, 2)] W L x := by
  obtain ⟨σ3, t, v, ⟨txo, tb, tt⟩, c4, f4, z4, tk, n4, w4, e4⟩ := cty_1 hc hs
  have hz := hc.1.2.1
  have hW := hc.2.1.2
  obtain ⟨e5, c5, f5⟩ := m_120 c4 tk n4 rfl (ctP t W).2.isSome
  rw [e5, onV_i] at e4
  have fP : Fr PC RC σ (wI (wI (TS σ3 (ctP t W).1 v) 200 11 (if (ctP t W).2.isSome = true then -1 else nI (tkE t (ctP t W).1))) 201 1 0) := (PQ_pc f4).tr f5
  cases ho : (ctP t W).2 with
  | none =>
    rw [ho] at e4 c5 fP
    rw [if_neg (show ¬ (none : Option WW).isSome = true by decide)] at e4 c5 fP
    rw [if_pos (show bI (none : Option WW).isSome = 0 from rfl)] at e4
    refine ⟨1, 0, W, L, _, _, Or.inr ⟨by omega, 0, e4, rfl⟩, c5.qs (QS.mk _), (hr.pc hz fP).qs c5.1.2 (QS.mk _), (Lo.pc fP hz).tr ((QS.mk _).lo c5.1.2.1), ⟨?_, ?_, ?_⟩, fun τ st c r => ?_⟩
    · show sZ σ ≤ sZ σ3 + 1; omega
    · show sZ σ3 + 1 ≤ sZ σ + 6; omega
    · show sS σ3 + 6 ≤ sS σ + 900; omega
    · obtain ⟨τb, W', p, b, dp, y, q2, kb, h4, h0, f1, f2, f3, e⟩ := cty_2 (t := t) r st txo tb tt
      obtain ⟨rfl, rfl⟩ := f2 ho
      refine cty_no r c q2 kb h4 f1 (by omega) (W' := W') (p := p) (b := tkE t (ctP t W).1) (dp := dp) ?_
      show rn 185 [.ref 611] τ = _
      have tt1 : sT (Rst τb W' p (tkE t (ctP t W).1) 0 dp) 611 = 112 := q2.t
      rw [e, if_pos (show (-1 : Int32) < 0 by decide), gI_r tt1, Rst_12, e_185_46, pI_r tt1, if_pos (show (-1 : Int32) < 0 by decide), e_185_59, if_pos (show sT (wI (Rst τb W' p (tkE t (ctP t W).1) 0 dp) 611 14 (nI (tkE t (ctP t W).1))) 611 = 112 from tt1), m_216_1 (show sT (wI (Rst τb W' p (tkE t (ctP t W).1) 0 dp) 611 14 (nI (tkE t (ctP t W).1))) 611 = 112 from tt1), onI_i, if_neg n10, e_185_90]
      rfl
  | some V =>
    rw [ho] at e4 c5 fP
    rw [if_pos (show (some V).isSome = true from rfl)] at e4 c5 fP
    rw [if_neg (show ¬ bI (some V).isSome = 0 from (by decide : ¬ bI true = 0))] at e4
    obtain ⟨wV, keep⟩ := ct_keep hW ho
    obtain ⟨v3, -⟩ := w4 V ho
    have V3 : V 3 = W 3 := keep 3 (by omega)
    have V4 : V 4 = W 4 := keep 4 (by omega)
    have b3 : btw (W 3) 0 12 := hW.1.2.2.2.1
    have w3 : W 3 = nI (W 3).toInt.toNat := nI_nI b3.1
    have l12 : (W 3).toInt.toNat ≤ 12 := by have := b3.2; omega
    -- the state behind the text
    generalize hρ : wI (wI (TS σ3 (ctP t W).1 v) 200 11 (-1)) 201 1 0 = ρ at e4 c5 fP
    have eρ : ρ.2 = σ3.2 := by rw [← hρ]; rfl
    have iρ : ∀ a j, a ≠ 200 → a ≠ 201 → sI ρ a j = sI σ3 a j := fun a j h1 h2 => by
      rw [← hρ, sI_wIn (by omega), sI_wIn (by omega), TS_i (by omega)]
    have zρ : sZ ρ = sZ σ ∧ sS ρ = sS σ := by unfold sZ sS; rw [eρ]; exact z4
    have hX := c5.1.1
    have tc := tCo hX isC_now
    have n3 : sI ρ 211 7 = W 3 := c5.2.1.1.2.1.1.2.2.2.1
    rw [e_119_49, x2 hX, gI_r tc, n3] at e4
    by_cases full : (W 3).toInt.toNat < 12
    · rw [if_pos (by rw [w3]; exact nI_ltl (n := 12) full (by decide)), e_119_71, x3 hX, gI_r (tCo hX isC_sp), iρ 237 7 (by omega) (by omega), v3.2.1.1.2.2.2.1, V3, w3, nI_1, pI_r (tCo hX isC_sp)] at e4
      -- the spare's texts
      have kρ : Kp (fun a _ => a = 200 ∨ a = 201) σ3 ρ := ⟨eρ, fun a j h => iρ a j (by omega) (by omega)⟩
      have okF : okR (fun _ : Nat => False) := fun a z => z.elim
      have vρ : CV ρ 237 V L := v3.fr wV isC_sp (show TG σ3 from c4.1.2) (kρ.fr (P := fun a _ => a = 200 ∨ a = 201) (R := fun _ => False) (fun _ _ _ z => z) (fun a j z1 z2 => by omega)) okF (fun z => z) (fun i j _ _ z => by omega) (fun a j _ z => by omega)
      · have v5 := vρ.z' (f := 7) (k := 3) (v := nI ((W 3).toInt.toNat + 1)) (by omega)
        have w5 : WF (uW V 3 (nI ((W 3).toInt.toNat + 1))) := wV.z' (Or.inl ⟨rfl, btw_n (by omega) (by omega)⟩)
        have f6 : Fr (fun a j => a = 237 ∧ j = 7) (fun _ => False) ρ (wI ρ 237 7 (nI ((W 3).toInt.toNat + 1))) := Kp.fr (Q := fun a j => a = 237 ∧ j = 7) (Kp.w ⟨rfl, rfl⟩) (fun _ _ _ z => z) (fun a j z1 z2 => by omega)
        have x6 := hX.fr f6 c5.1.2.1 okF
        have g6 := c5.1.2.fr f6 rfl
        obtain ⟨σ7, e7, k7⟩ := m_6 (σ := wI ρ 237 7 (nI ((W 3).toInt.toNat + 1))) (a := 211) (b := 237) isC_now isC_sp (by omega) x6 v5.2.2.2.2.2 v5.null
        have c7 := k7.cv v5 w5 isC_now isC_sp (x6.2.2.2.2.2.2.2.2 _ isC_now) g6
        have f7 : Fr (fun a j => (211 ≤ a ∧ a < 237) ∨ (a = 237 ∧ j = 7)) (fun a => a = 211) ρ σ7 := (f6.mono (fun _ _ _ z => Or.inr z) (fun _ z => z.elim)).tr (k7.fr isC_now (fun q _ z1 z2 => Or.inl ⟨z1, z2⟩) rfl)
        have okN : okR (fun a => a = 211) := fun a z => Or.inl (by rw [z]; exact isC_now)
        have x7 := hX.fr f7 c5.1.2.1 okN
        have g7 := c5.1.2.fr f7 k7.Z
        have f8 : Fr (fun a j => a = 200 ∧ (j = 9 ∨ j = 10)) (fun _ => False) σ7 (wI (wI σ7 200 9 0) 200 10 0) := Kp.fr (Q := fun a j => a = 200 ∧ (j = 9 ∨ j = 10)) ((Kp.w ⟨rfl, Or.inl rfl⟩).wr ⟨rfl, Or.inr rfl⟩) (fun _ _ _ z => z) (fun a j z1 z2 => by omega)
        have f9 : Fr (fun a j => ((211 ≤ a ∧ a < 237) ∨ (a = 237 ∧ j = 7)) ∨ (a = 200 ∧ (j = 9 ∨ j = 10))) (fun a => a = 211) ρ (wI (wI σ7 200 9 0) 200 10 0) := (f7.mono (fun _ _ _ z => Or.inl z) (fun _ z => z)).tr (f8.mono (fun _ _ _ z => Or.inr z) (fun _ z => z.elim))
        have x9 := x7.fr f8 g7.1 okF
        have c9 := c7.fr w5 isC_now g7 f8 okF (fun z => z) (fun i j _ _ z => by omega) (fun a j _ z => by omega)
        obtain ⟨⟨a1, a2⟩, ⟨a3, a4⟩, a5, a6, a7, a8⟩ := c5
        have fin : InvC (wI (wI σ7 200 9 0) 200 10 0) (uW V 3 (nI ((W 3).toInt.toNat + 1))) L ((0, x.1.2), x.2.1, (0, x.2.2.1.2), -1) := ⟨⟨x9, g7.fr f8 rfl⟩, ⟨c9, w5⟩, ⟨0, ⟨Nat.zero_le _, by omega⟩, ⟨sI_wIs _ _ _ _, by rw [sI_wIn (by omega), sI_wIs]; rfl⟩, fun i hi => absurd hi (Nat.not_lt_zero i)⟩, a6.fr a2 f9 okN (by omega) (by omega) (fun a j _ _ z => by omega) (fun a j _ z => by omega), a7.fr a2 f9 (by omega) (fun j => by omega), by rw [f9.I (by omega) (by omega) (by omega)]; exact a8⟩
        have f10 : Fr PC RC σ (wI (wI σ7 200 9 0) 200 10 0) := fP.tr (f9.mono (fun a j _ z => by unfold PC; omega) (fun a z => Or.inl (by rw [z]; exact isC_now)))
        have z10 : sZ (wI (wI σ7 200 9 0) 200 10 0) = sZ σ ∧ sS (wI (wI σ7 200 9 0) 200 10 0) = sS σ := ⟨(show sZ (wI (wI σ7 200 9 0) 200 10 0) = sZ σ7 from rfl).trans (k7.Z.trans zρ.1), (show sS (wI (wI σ7 200 9 0) 200 10 0) = sS σ7 from rfl).trans (k7.S.trans zρ.2)⟩
        have n7 : sI (wI (wI σ7 200 9 0) 200 10 0) 211 7 = nI ((W 3).toInt.toNat + 1) := by rw [c9.2.1.1.2.2.2.1, uW_s]
        rw [x2 x6, x3 x6, if_pos (tCo x6 isC_now), e7, onV_i, if_pos (tX x7), r_117, pI_r (tX x7), pI_r (show sT (wI σ7 200 9 0) 200 = 111 from tX x7), onV_i, x2 x9, gI_r (tCo x9 isC_now), n7] at e4
        refine ⟨0, nI ((W 3).toInt.toNat + 1), _, L, _, _, Or.inl ⟨rfl, e4⟩, fin, hr.pc hz f10, Lo.pc f10 hz, ⟨by omega, by omega, by omega⟩, fun τ st c r => ?_⟩
        obtain ⟨τb, W', p, b, dp, y, q2, kb, h4, h0, f1, f2, f3, e⟩ := cty_2 (t := t) r st txo tb tt
        obtain ⟨rfl, n, hn, rfl⟩ := f3 V ho
        have tt1 : sT (Rst τb W' p b 0 dp) 611 = 112 := q2.t
        have m1 : ShM (wI (Rst τb W' p b 0 dp) 611 14 (-1)) := q2.1.1.e rfl
        have m2 : ShM (wI (wI (Rst τb W' p b 0 dp) 611 14 (-1)) 612 3 (nI ((W 3).toInt.toNat + 1))) := q2.1.1.e rfl
        have m3 : ShM (wI (wI (wI (Rst τb W' p b 0 dp) 611 14 (-1)) 612 3 (nI ((W 3).toInt.toNat + 1))) 611 7 0) := q2.1.1.e rfl
        have kz : Kp (fun a j => a = 612 ∨ a = 614 ∨ (a = 611 ∧ (j = 0 ∨ j = 7 ∨ 10 ≤ j))) τb (wI (wI (wI (Rst τb W' p b 0 dp) 611 14 (-1)) 612 3 (nI ((W 3).toInt.toNat + 1))) 611 7 0) := ((((Rst_kp τb W' p b 0 dp).mono fun a j z => by omega).wr (by omega)).wr (by omega)).wr (by omega)
        have e612 : sI (wI (wI (wI (Rst τb W' p b 0 dp) 611 14 (-1)) 612 3 (nI ((W 3).toInt.toNat + 1))) 611 7 0) 612 = uW W' 3 (nI ((W 3).toInt.toNat + 1)) := by
          funext j
          rw [sI_wIn (by omega)]
          have := congrFun (sI_upd (wI (Rst τb W' p b 0 dp) 611 14 (-1)) 612 3 (nI ((W 3).toInt.toNat + 1))) j
          rw [this]
          unfold uW
          split
          · rfl
          · exact sI_wIn (by omega)
        refine RfA.mk' (τ2 := wI (wI (wI (Rst τb W' p b 0 dp) 611 14 (-1)) 612 3 (nI ((W 3).toInt.toNat + 1))) 611 7 0) ?_ c (q2.ct kz e612 ?_ w5 (fun z => q2.1.2.2 ?_) (r' := 0) (sI_wIs _ _ _ _) (Nat.zero_le _) ?_) (kb.tr (kz.mono fun a j z => by unfold RP; omega)) ?_
        · show rn 185 [.ref 611] τ = _
          have a3' : ∀ (ρ : SH) (q : Int32 → SR), ShM ρ → aI ρ 1 (.ref 612) 3 q = q (sI ρ 612 3) := fun ρ q m => m_w (j := 3) m (by omega)
          have u3' : ∀ (ρ : SH) (z : Int32) (q : SH → SR), ShM ρ → uI ρ (.ref 612) 3 z q = q (wI ρ 612 3 z) := fun ρ z q m => w612 (j := 3) m (by omega) z q
          have w3' : sI (wI (Rst τb W' p b 0 dp) 611 14 (-1)) 612 3 = nI (W 3).toInt.toNat := by
            rw [sI_wIn (by omega), Rst_612, V3]; exact w3
          rw [e, if_neg (nI_pos (by omega)), e_185_45, pI_r tt1, if_neg (nI_pos (by omega)), e_185_58, if_pos m1.1.1, m_216_0, onI_i, if_pos n00, gR_r m1.1.1 m1.1.2.1, a3' _ _ m1, w3', if_neg (nI_nel (n := 12) (by omega) (by omega) (by decide)), e_185_82, if_pos m1.1.1, m_216_0, onI_i, if_pos n00, e_185_119, gR_r m1.1.1 m1.1.2.1, a3' _ _ m1, w3', nI_1, u3' _ _ _ m1, pI_r m2.1.1, gR_r m3.1.1 m3.1.2.1, a3' _ _ m3, sI_wIn (by omega), sI_wIs]
        · rw [← q2.2.1.2]
          unfold tx
          funext j
          rw [e612, uW_n (by omega), q2.2.1.1]
          exact f1 _ (by omega)
        · rw [uW_n (by omega), V4] at z; exact z
        · rw [sI_wIn (by omega), sI_wIn (by omega), sI_wIs]
        · rw [sI_wIn (by omega), sI_wIn (by omega), sI_wIn (by omega)]
          exact (Rst_o (by omega) (by omega)).trans h0
    · have e12 : (W 3).toInt.toNat = 12 := by omega
      rw [if_neg (by rw [w3, e12]; decide)] at e4
      refine ⟨2, 0, W, L, _, _, Or.inr ⟨by omega, 1, e4, rfl⟩, c5.qs (QS.mk _), (hr.pc hz fP).qs c5.1.2 (QS.mk _), (Lo.pc fP hz).tr ((QS.mk _).lo c5.1.2.1), ⟨?_, ?_, ?_⟩, fun τ st c r => ?_⟩
      · show sZ σ ≤ sZ ρ + 1; omega
      · show sZ ρ + 1 ≤ sZ σ + 6; omega
      · show sS ρ + 6 ≤ sS σ + 900; omega
      · obtain ⟨τb, W', p, b, dp, y, q2, kb, h4, h0, f1, f2, f3, e⟩ := cty_2 (t := t) r st txo tb tt
        obtain ⟨rfl, n, hn, rfl⟩ := f3 V ho
        have tt1 : sT (Rst τb W' p b 0 dp) 611 = 112 := q2.t
        have m1 : ShM (wI (Rst τb W' p b 0 dp) 611 14 (-1)) := q2.1.1.e rfl
        have a3' : ∀ (ρ : SH) (q : Int32 → SR), ShM ρ → aI ρ 1 (.ref 612) 3 q = q (sI ρ 612 3) := fun ρ q m => m_w (j := 3) m (by omega)
        have w3' : sI (wI (Rst τb W' p b 0 dp) 611 14 (-1)) 612 3 = nI 12 := by
          rw [sI_wIn (by omega), Rst_612, V3, w3, e12]
        refine cty_no r c q2 kb h4 f1 (by omega) (W' := W') (p := p) (b := b) (dp := dp) ?_
        show rn 185 [.ref 611] τ = _
        rw [e, if_neg (nI_pos (by omega)), e_185_45, pI_r tt1, if_neg (nI_pos (by omega)), e_185_58, if_pos m1.1.1, m_216_0, onI_i, if_pos n00, gR_r m1.1.1 m1.1.2.1, a3' _ _ m1, w3', if_pos (show nI 12 = (12 : Int32) from rfl), e_185_83, if_pos m1.1.1, m_216_1 m1.1.1, onI_i, if_neg n10]
        rfl
end F5
