section H1
variable {σ τ : SH} {W L : WW} {x : XX}
theorem m_120t (hX : ShX σ) : rn 120 [.ref 200, .int 1] σ = some (.inl none, wI (wI σ 200 11 (-1)) 201 1 0) := by
  have hX' : ShX (wI σ 200 11 (-1)) := hX.kp1 (Kp.w (P := fun _ _ => True) trivial)
  rw [r_120, if_neg n10, e_120_16, pI_r (tX hX), gT0 hX', pI_r (tTp hX')]
theorem op_law (hc : InvC σ W L x) (hr : InvR σ W L x) (hs : StA σ) : OpT (rn 121 [.ref 200] σ) σ (fun τ => rn 217 [.ref 611] τ) [(0, 1)] W L x := by
  obtain ⟨σ3, t, v, R, st, ⟨txo, tb, tt⟩, c4, f4, z4, tk, sa, no, yes⟩ := law_1 hc hs
  have hz := hc.1.2.1
  have hW := hc.2.1.2
  obtain ⟨n4, good⟩ := lawP_good txo W
  have zρ : sZ (TS (RW σ3 R st) (lawP t W).1 v) = sZ σ ∧ sS (TS (RW σ3 R st) (lawP t W).1 v) = sS σ := z4
  cases ho : (lawP t W).2 with
  | none =>
    have e4 := no ho
    obtain ⟨e5, c5, f5⟩ := m_120 c4 tk n4 rfl false
    rw [if_neg (show ¬ false = true by decide)] at e5 c5 f5
    rw [e_121_24, if_pos (tX c4.1.1), show (.int 0 : Value) = .int (bI false) from rfl, e5, onV_i] at e4
    have fP : Fr PC RC σ (wI (wI (TS (RW σ3 R st) (lawP t W).1 v) 200 11 (nI (tkE t (lawP t W).1))) 201 1 0) := (PQ_pc f4).tr f5
    refine ⟨1, 0, W, L, _, _, Or.inr ⟨by omega, 0, e4, rfl⟩, c5.qs (QS.mk _), (hr.pc hz fP).qs c5.1.2 (QS.mk _), (Lo.pc fP hz).tr ((QS.mk _).lo c5.1.2.1), ⟨?_, ?_, ?_⟩, fun τ sτ c r => ?_⟩
    · show sZ σ ≤ sZ σ3 + 1; omega
    · show sZ σ3 + 1 ≤ sZ σ + 6; omega
    · show sS σ3 + 6 ≤ sS σ + 900; omega
    · obtain ⟨τb, W', p, b, s', dp, y, q2, kb, h0, f1, f2, f3, e⟩ := law_2 (t := t) r sτ txo tb tt
      obtain ⟨rfl, rfl⟩ := f2 ho
      have tt1 : sT (Rst τb W' p (tkE t (lawP t W).1) s' dp) 611 = 112 := q2.t
      have kz : Kp (fun a j => a = 612 ∨ a = 614 ∨ (a = 611 ∧ (j = 0 ∨ j = 7 ∨ 10 ≤ j))) τb (wI (wI (Rst τb W' p (tkE t (lawP t W).1) s' dp) 611 14 (nI (tkE t (lawP t W).1))) 611 0 1) := (((Rst_kp τb W' p _ s' dp).mono fun a j z => by omega).wr (by omega)).wr (by omega)
      have e612 : sI (wI (wI (Rst τb W' p (tkE t (lawP t W).1) s' dp) 611 14 (nI (tkE t (lawP t W).1))) 611 0 1) 612 = W' := by
        funext j
        rw [sI_wIn (by omega), sI_wIn (by omega), Rst_612]
      have w363 : ∀ k, k < 363 → W' k = W k := fun k hk => f1 k (by omega)
      have l849 : ∀ k, k < 849 → (fun k => W' (363 + k)) k = L k := fun k hk => by
        show W' (363 + k) = _
        rw [f1 _ (by omega), ← q2.2.1.2, ← q2.2.1.1]; rfl
      have k4 : W' 4 = W 4 := f1 4 (by omega)
      refine ⟨W', fun k => W' (363 + k), RfA.mk' (τ2 := wI (wI (Rst τb W' p (tkE t (lawP t W).1) s' dp) 611 14 (nI (tkE t (lawP t W).1))) 611 0 1) ?_ (c.cg w363 l849) (q2.ct kz e612 ?_ (WF_cg q2.1.2.1 w363) (fun z => (law_cg (q2.1.2.2 (by rw [← k4]; exact z)) l849).1) (r' := x.1.1) ?_ (Nat.le_refl _) ?_) (kb.tr (kz.mono fun a j z => by unfold RP; omega)) (sI_wIs _ _ _ _)⟩
      · show rn 217 [.ref 611] τ = _
        rw [e, if_pos (show (-1 : Int32) < 0 by decide), gI_r tt1, Rst_12, e_217_19, pI_r tt1, if_pos (show (-1 : Int32) < 0 by decide), e_217_32, if_pos (show sT (wI (Rst τb W' p (tkE t (lawP t W).1) s' dp) 611 14 (nI (tkE t (lawP t W).1))) 611 = 112 from tt1), m_216_1 (show sT (wI (Rst τb W' p (tkE t (lawP t W).1) s' dp) 611 14 (nI (tkE t (lawP t W).1))) 611 = 112 from tt1), onI_i, if_neg n10]
      · unfold tx; rw [e612]
      · rw [sI_wIn (by omega), sI_wIn (by omega)]
        exact (Rst_o (by omega) (by omega)).trans q2.2.2.1.1
      · rw [sI_wIn (by omega), sI_wIs]; rfl
  | some q =>
    obtain ⟨V, s, n⟩ := q
    obtain ⟨e4, es, rel, lc⟩ := yes V s n ho
    subst es
    obtain ⟨lg, vW⟩ := good V st n ho
    obtain ⟨lwf, lwa, ln, sz⟩ := LWF_of lg
    obtain ⟨⟨n12, s400⟩, lin, ends, stp⟩ := lg
    -- the law is made
    generalize hρ : TS (RW σ3 R st) (lawP t W).1 v = ρ at c4 f4 e4 zρ
    have eT : ∀ a, sT ρ a = sT σ3 a := fun a => by rw [← hρ]; rfl
    have eV : ∀ a k, sV ρ a k = sV σ3 a k := fun a k => by rw [← hρ]; rfl
    have eI : ∀ a k, 207 ≤ a → a < 210 → sI ρ a k = sI σ3 a k := fun a k h1 h2 => by rw [← hρ, TS_i (by omega)]; exact (RW_kp σ3 R st).2 a k (by omega)
    have e10 : ∀ k, sI ρ 210 k = R k := fun k => by rw [← hρ, TS_i (by omega)]; rfl
    have X4 := c4.1.1
    obtain ⟨⟨v1, v2, v3, v4⟩, tags⟩ := x206 X4
    have g624 := c4.1.2.1
    have kl : ∀ i, i < n → 14 + kN (dr V) i < 38 := fun i hi => by
      have := (lin i hi).1
      unfold btw at this
      unfold kN; omega
    obtain ⟨σf, m1, ⟨m2, m3⟩, m4, ⟨m5, m6, m7, m8, m9, m10⟩⟩ := m_47 (ρ := ρ) (z := sZ ρ) (n := n) (s := st) (hd := fun i => 14 + kN (dr V) i) rfl g624 n12 s400 tags (fun h => by
      rw [eI _ _ (by omega) (by omega), (lc (n - 1) (by omega)).2.2, (lin (n - 1) (by omega)).2.2.1.2]
      rw [if_neg h] at ends
      rw [← ends]) (fun h => by rw [if_pos h] at ends; exact ends) (fun i hi => ⟨(eV _ _).trans (lc i hi).1, by rw [eT]; exact (sa.2.1 _ (kl i hi)).1.1, by have := kl i hi; show 14 + kN (dr V) i < 624; omega⟩)
    have ff : ∀ {P : Nat → Nat → Prop} {Q : Nat → Prop}, Fr P Q ρ σf := ⟨by rw [m2]; omega, fun a ha => ⟨(m4 a ha).1, fun k _ => ((m4 a ha).2 k).1, fun k _ _ => ((m4 a ha).2 k).2⟩⟩
    have gf : TG σf := by
      refine ⟨by rw [m2]; omega, fun q h1 h2 h3 => ?_⟩
      rw [m2] at h2 ⊢
      by_cases e : q < sZ ρ
      · rw [(m4 q e).1.1] at h3
        obtain ⟨b0, b1, b2, b3, b4, b5⟩ := c4.1.2.2 q h1 e h3
        rw [(m4 _ (by omega)).1.1, (m4 _ (by omega)).1.1, (m4 _ (by omega)).1.1, (m4 _ (by omega)).1.1, (m4 _ (by omega)).1.1]
        exact ⟨by omega, b1, b2, b3, b4, b5⟩
      · by_cases e2 : q = sZ ρ
        · subst e2
          exact ⟨Nat.le_refl _, m6⟩
        · exfalso
          rcases (by omega : q = sZ ρ + 1 ∨ q = sZ ρ + 2 ∨ q = sZ ρ + 3 ∨ q = sZ ρ + 4 ∨ q = sZ ρ + 5) with w | w | w | w | w <;> rw [w] at h3
          · rw [m6.1] at h3; omega
          · rw [m6.2.1] at h3; omega
          · rw [m6.2.2.1] at h3; omega
          · rw [m6.2.2.2.1] at h3; omega
          · rw [m6.2.2.2.2] at h3; omega
    have cf : InvC σf W L x := c4.pq ff gf
    have lr : LR σf (sZ ρ) (uW (dr V) 0 (nI n)) := by
      refine ⟨m5, m6, by rw [ln, sz]; exact m7, by rw [m8, uW_s], fun i hi => ?_, fun j hj => ?_⟩
      · rw [ln] at hi
        obtain ⟨w1, w2, w3⟩ := m9 i hi
        have k1 : kN (uW (dr V) 0 (nI n)) i = kN (dr V) i := by unfold kN; rw [uW_n (by omega)]
        rw [k1, uW_n (by omega), uW_n (by omega)]
        exact ⟨w1, w2.trans ((eI _ _ (by omega) (by omega)).trans (lc i hi).2.1), w3.trans ((eI _ _ (by omega) (by omega)).trans (lc i hi).2.2)⟩
      · rw [sz] at hj
        rw [m10 j hj, e10, rel j hj]
        have k1 : scN (uW (dr V) 0 (nI n)) j = scN (dr V) j := by unfold scN; rw [uW_n (by omega)]
        unfold cdI
        rw [k1, uW_n (by omega)]
    have mk : mkL (nI n) ρ = some (.inl (some (.ref (sZ ρ))), σf) := by
      have T0 : sT (mkC ρ 104 0 6) 206 = 107 := by rw [T_mk, if_neg (by omega)]; exact X4.2.2.1.1
      have V0 : ∀ k, sV (mkC ρ 104 0 6) 206 k = sV ρ 206 k := fun k => by rw [V_mk, if_neg (by omega)]
      unfold mkL
      rw [gR_r T0 ((V0 1).trans v1), gR_r T0 ((V0 2).trans v2), gR_r T0 ((V0 3).trans v3), gR_r T0 ((V0 4).trans v4), if_neg (by omega), m1, onV_i]
    -- the text closed
    obtain ⟨cg1, fg1⟩ := cf.ft (-1)
    obtain ⟨cg, fg2⟩ := cg1.e0
    generalize hG : wI (wI σf 200 11 (-1)) 201 1 0 = σg at cg fg2
    have gT : σg.2 = σf.2 := by rw [← hG]; rfl
    have gI' : ∀ a k, a ≠ 200 → a ≠ 201 → sI σg a k = sI σf a k := fun a k h1 h2 => by rw [← hG, sI_wIn (by omega), sI_wIn (by omega)]
    have kG : Kp (fun a _ => a = 200 ∨ a = 201) σf σg := ⟨gT, fun a k h => gI' a k (by omega) (by omega)⟩
    have lrg : LR σg (sZ ρ) (uW (dr V) 0 (nI n)) := lr.kp kG (fun a j h1 h2 h3 => by omega)
    have zg : sZ σg = sZ ρ + 6 := by rw [kG.Z]; exact m2
    have XG := cg.1.1
    -- the county's law
    have cvn := cg.2.1.1.nl (q := sZ ρ) ⟨g624, by omega⟩ lrg lwf lwa
    have w4 := hW.u4
    have fh : Fr (fun _ _ => False) (fun a => a = 211) σg (wV σg 211 12 (.ref (sZ ρ))) := ⟨Nat.le_refl _, fun a ha => ⟨⟨rfl, rfl⟩, fun k hk => if_neg (fun z => by
      rcases hk with hk | hk
      · exact hk z.1
      · exact hk.1 z.2), fun k _ _ => rfl⟩⟩
    have okN : okR (fun a => a = 211) := fun a z => Or.inl (by rw [z]; exact isC_now)
    have okF : okR (fun _ : Nat => False) := fun a z => z.elim
    have XH := XG.fr fh cg.1.2.1 okN
    have gh := cg.1.2.fr fh rfl
    have fi : Fr (fun a j => a = 200 ∧ (j = 9 ∨ j = 10)) (fun _ => False) (wV σg 211 12 (.ref (sZ ρ))) (wI (wI (wV σg 211 12 (.ref (sZ ρ))) 200 9 0) 200 10 0) := Kp.fr (Q := fun a j => a = 200 ∧ (j = 9 ∨ j = 10)) ((Kp.w ⟨rfl, Or.inl rfl⟩).wr ⟨rfl, Or.inr rfl⟩) (fun _ _ _ z => z) (fun a j z1 z2 => by omega)
    have f9 : Fr (fun a j => a = 200 ∧ (j = 9 ∨ j = 10)) (fun a => a = 211) σg (wI (wI (wV σg 211 12 (.ref (sZ ρ))) 200 9 0) 200 10 0) := (fh.mono (fun _ _ _ z => z.elim) (fun _ z => z)).tr (fi.mono (fun _ _ _ z => z) (fun _ z => z.elim))
    have XI := XH.fr fi gh.1 okF
    have cvi := cvn.fr w4 isC_now gh fi okF (fun z => z) (fun i j _ _ z => by omega) (fun a j _ z => by omega)
    obtain ⟨⟨a1, a2⟩, ⟨a3, a4⟩, a5, a6, a7, a8⟩ := cg
    have fin : InvC (wI (wI (wV σg 211 12 (.ref (sZ ρ))) 200 9 0) 200 10 0) (uW W 4 1) (uW (dr V) 0 (nI n)) ((0, x.1.2), x.2.1, (0, x.2.2.1.2), -1) := ⟨⟨XI, gh.fr fi rfl⟩, ⟨cvi, w4⟩, ⟨0, ⟨Nat.zero_le _, by omega⟩, ⟨sI_wIs _ _ _ _, by rw [sI_wIn (by omega), sI_wIs]; rfl⟩, fun i hi => absurd hi (Nat.not_lt_zero i)⟩, a6.fr a2 f9 okN (by omega) (by omega) (fun a j _ _ z => by omega) (fun a j _ z => by omega), a7.fr a2 f9 (by omega) (fun j => by omega), by rw [f9.I (by omega) (by omega) (by omega)]; exact a8⟩
    have f10 : Fr PC RC σ (wI (wI (wV σg 211 12 (.ref (sZ ρ))) 200 9 0) 200 10 0) := ((((PQ_pc f4).tr ff).tr fg1).tr fg2).tr (f9.mono (fun a j _ z => by unfold PC; omega) (fun a z => Or.inl (by rw [z]; exact isC_now)))
    have i0 : sI (wI (wI (wV σg 211 12 (.ref (sZ ρ))) 200 9 0) 200 10 0) (sZ ρ) 0 = nI n := by
      rw [sI_wIn (by omega), sI_wIn (by omega)]
      show sI σg (sZ ρ) 0 = _
      rw [gI' _ _ (by omega) (by omega)]; exact m8
    have t104 : sT (wI (wI (wV σg 211 12 (.ref (sZ ρ))) 200 9 0) 200 10 0) (sZ ρ) = 104 := by
      show sT σg (sZ ρ) = _
      unfold sT; rw [gT]; exact m5.1
    rw [mk, onQ_i, if_neg (by omega), e_121_25, if_pos (tX cf.1.1), m_120t cf.1.1, onV_i, if_neg (by omega), hG, e_121_42, x2 a1, pV_r (tCo a1 isC_now), if_pos (tX XH), r_117, pI_r (tX XH), pI_r (show sT (wI (wV σg 211 12 (.ref (sZ ρ))) 200 9 0) 200 = 111 from tX XH), onV_i, gI_r t104, i0] at e4
    refine ⟨0, nI n, _, _, _, _, Or.inl ⟨rfl, e4⟩, fin, hr.pc hz f10, Lo.pc f10 hz, ⟨?_, ?_, ?_⟩, fun τ sτ c r => ?_⟩
    · show sZ σ ≤ sZ σg; omega
    · show sZ σg ≤ sZ σ + 6; omega
    · show sS σg ≤ sS σ + 900
      have : sS σg = sS σf := kG.S
      omega
    · obtain ⟨τb, W', p, b, s', dp, y, q2, kb, h0, f1, f2, f3, e⟩ := law_2 (t := t) r sτ txo tb tt
      obtain ⟨rfl, rfl⟩ := f3 V st n ho
      have tt1 : sT (Rst τb W' p b s' dp) 611 = 112 := q2.t
      have mm : ShM (wI (Rst τb W' p b s' dp) 611 14 (-1)) := q2.1.1.e rfl
      obtain ⟨τz, l1, l2, l3, l4⟩ := law_3 (n := n) mm
      have kz : Kp (fun a j => a = 612 ∨ a = 614 ∨ (a = 611 ∧ (j = 0 ∨ j = 7 ∨ 10 ≤ j))) τb τz := (((Rst_kp τb W' p b s' dp).mono fun a j z => by omega).wr (by omega)).tr (l2.mono fun a j z => by omega)
      have eW : ∀ j, sI (wI (Rst τb W' p b s' dp) 611 14 (-1)) 612 j = W' j := fun j => by rw [sI_wIn (by omega), Rst_612]
      have e612 : ∀ k, sI τz 612 k = if k = 4 then 1 else if 363 ≤ k ∧ k < 1212 then (if k + 849 = 1212 then nI n else W' (k + 849)) else (if k = 1212 then nI n else W' k) := fun k => by
        rw [congrFun l4 k]
        unfold uW
        by_cases z4 : k = 4
        · rw [if_pos z4, if_pos z4]
        · rw [if_neg z4, if_neg z4]
          try dsimp only
          rw [eW, eW]
      have w363 : ∀ k, k < 363 → sI τz 612 k = uW W 4 1 k := fun k hk => by
        rw [e612]
        unfold uW
        by_cases z4 : k = 4
        · rw [if_pos z4, if_pos z4]
        · rw [if_neg z4, if_neg z4, if_neg (by omega), if_neg (by omega)]; exact f1 k (by omega)
      have l849 : ∀ k, k < 849 → tx τz k = uW (dr W') 0 (nI n) k := fun k hk => by
        show sI τz 612 (363 + k) = _
        rw [e612, if_neg (by omega), if_pos (by omega)]
        unfold uW dr
        by_cases z0 : k = 0
        · rw [if_pos z0, if_pos (by omega)]
        · rw [if_neg z0, if_neg (by omega), show 363 + k + 849 = 1212 + k by omega]
      refine ⟨sI τz 612, tx τz, RfA.mk' (τ2 := τz) ?_ (c.cg w363 l849) (q2.ct kz rfl rfl (WF_cg w4 w363) (fun _ => (law_cg lwf l849).1) (r' := 0) l3 (Nat.zero_le _) ?_) (kb.tr (kz.mono fun a j z => by unfold RP; omega)) ?_⟩
      · show rn 217 [.ref 611] τ = _
        rw [e, if_neg (nI_pos (by omega)), e_217_18, pI_r tt1, if_neg (nI_pos (by omega)), e_217_31, if_pos mm.1.1, m_216_0, onI_i, if_pos n00, l1]
      · rw [l2.2 _ _ (by omega), sI_wIs]
      · rw [l2.2 _ _ (by omega), sI_wIn (by omega)]
        exact (Rst_o (by omega) (by omega)).trans h0
end H1
