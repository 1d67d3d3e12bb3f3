/-! a minute passes -/
def RS (a k : Nat) : Prop := MJ a k ∨ (a = 612 ∧ k < 363)
def tkW (W : WW) : WW := uW W 5 (if (W 5 < 9999 : Prop) then W 5 + 1 else W 5)
def mnG (L : WW) (f : WW → WW) : Nat → WW × Int32 → WW × Int32 := fun _ p => (tkW (seF (f p.1) L).1, p.2 + (seF (f p.1) L).2)
def mnF (L : WW) (f : WW → WW) (n : Nat) (W : WW) : WW × Int32 := fo (mnG L f) 0 n (W, 0)
theorem d6_01 {W : WW} (hw : WF W) {d : Nat} (hd : d < nD W) : de W d 6 = 0 ∨ de W d 6 = 1 := by
  have wd6 := (hw.2.2.2 d hd).2.2.2.2.2.1
  unfold btw at wd6
  have z0 : (0 : Int32).toInt = 0 := by decide
  have z1 : (1 : Int32).toInt = 1 := by decide
  rcases (by omega : (de W d 6).toInt = 0 ∨ (de W d 6).toInt = 1) with e | e
  · exact Or.inl (Int32.toInt_inj.mp (by rw [e, z0]))
  · exact Or.inr (Int32.toInt_inj.mp (by rw [e, z1]))
theorem tkW_w {W : WW} (hw : WF W) : WF (tkW W) := by
  have h5 := hw.1.2.2.2.2.2.1
  refine hw.h (Or.inl ⟨rfl, ?_⟩)
  have z : (9999 : Int32).toInt = 9999 := by decide
  have z1 : (1 : Int32).toInt = 1 := by decide
  unfold btw at h5 ⊢
  split
  case isTrue y =>
    rw [tlt, z] at y
    rw [tA (by rw [z1]; omega) (by rw [z1]; omega), z1]; omega
  case isFalse y => omega
section B1
variable {σ τ : SH} {W L : WW} {c : Nat}
theorem tx_kp {τ' : SH} {Q : Nat → Nat → Prop} (k : Kp Q τ τ') (h : ∀ j, ¬ Q 612 (363 + j)) : tx τ' = tx τ := funext fun j => k.2 _ _ (h j)
theorem t279 (hM : ShM τ) (he : sI τ 612 = W) (hw : WF W) {d : Nat} (hd : d < nD W) (ho : de W d 4 ≠ -1) {x2 : Int32} (h2 : x2 = 0 ∨ x2 = 1) : ∃ τ', exec PP 9 279 77 [some (.ref 611), some (.int (nI d)), some (.int x2), some (.int (de W d 4)), none] [] τ = some (.inl (some (.int x2)), τ') ∧ Kp (fun a k => a = 612 ∧ k < 363) τ τ' ∧ sI τ' 612 = inW W d := by
  have h5 := (WF_nB hw).2
  have h8 := (WF_nD hw).2
  obtain ⟨eo, o2⟩ := ow_b hw hd ho
  have q : ∀ f, 67 + 7 * d + f < 2061 → rn 257 [.ref 611, .int (nI d), .int (OfNat.ofNat f)] τ = some (.inl (some (.int (de W d f))), τ) := fun f hf => by
    have := m_257 (d := d) (f := f) hM hf
    rw [he] at this
    exact this
  have w5 : sI τ 612 5 = W 5 := by rw [he]
  have g : rn 270 [.ref 611, .int (de W d 4), .int (de W d 3)] τ = some (.inl none, wI τ 612 (52 + 3 * ow W d + 0) (ern (br W (ow W d) 0) (de W d 3))) := by
    rw [eo, m_270 hM (by omega), he]
  have base : exec PP 9 279 77 [some (.ref 611), some (.int (nI d)), some (.int x2), some (.int (de W d 4)), none] [] τ = (if (de W d 6 = 1 : Prop) then (if (W 5 = de W d 2 : Prop) then (if (de W d 5 = 0 : Prop) then some (.inl (some (.int x2)), wI τ 612 (52 + 3 * ow W d + 0) (ern (br W (ow W d) 0) (de W d 3))) else some (.inl (some (.int x2)), τ)) else some (.inl (some (.int x2)), τ)) else some (.inl (some (.int x2)), τ)) := by
    rw [e_279_77, if_pos hM.1.1, q 6 (by omega), onI_i, gR_r hM.1.1 hM.1.2.1, r612_5 hM, w5, if_pos hM.1.1, q 2 (by omega), onI_i, if_pos hM.1.1, q 5 (by omega), onI_i, if_pos hM.1.1, q 3 (by omega), onI_i, if_pos hM.1.1, g, onV_i, if_pos h2, e_279_123, if_pos h2]
  by_cases z : de W d 6 ≠ 0 ∧ de W d 2 = W 5 ∧ de W d 5 = 0
  · have z6 : de W d 6 = 1 := (d6_01 hw hd).resolve_left z.1
    refine ⟨_, by rw [base, if_pos z6, if_pos z.2.1.symm, if_pos z.2.2], Kp.w ⟨rfl, by omega⟩, ?_⟩
    rw [sI_upd, he]
    unfold inW
    rw [if_pos z]
  · refine ⟨τ, ?_, Kp.rf _, ?_⟩
    · rw [base]
      by_cases z1 : de W d 6 = 1
      · rw [if_pos z1]
        by_cases z2 : W 5 = de W d 2
        · rw [if_pos z2, if_neg (fun z3 => z ⟨by rw [z1]; decide, z2.symm, z3⟩)]
        · rw [if_neg z2]
      · rw [if_neg z1]
    · unfold inW
      rw [if_neg z]; exact he
theorem m_279 (hM : ShM τ) (he : sI τ 612 = W) (hL : tx τ = L) (hw : WF W) (hl : W 4 = 1 → LWF L) (ha : W 4 = 1 → LWA L) {d : Nat} (hd : d < nD W) (ho : de W d 4 ≠ -1) : ∃ τ', rn 279 [.ref 611, .int (nI d)] τ = some (.inl (some (.int (bI (litB W d)))), τ') ∧ Kp RS τ τ' ∧ sI τ' 612 = inW (if litB W d = true then pyW W L d else W) d := by
  have h5 := (WF_nB hw).2
  have h8 := (WF_nD hw).2
  obtain ⟨eo, o2⟩ := ow_b hw hd ho
  have q : ∀ f, 67 + 7 * d + f < 2061 → rn 257 [.ref 611, .int (nI d), .int (OfNat.ofNat f)] τ = some (.inl (some (.int (de W d f))), τ) := fun f hf => by
    have := m_257 (d := d) (f := f) hM hf
    rw [he] at this
    exact this
  have w5 : sI τ 612 5 = W 5 := by rw [he]
  have w6 : sI τ 612 6 = W 6 := by rw [he]
  have b0 := btw_nI (hw.2.2.2 d hd).1
  have b5 := btw_nI hw.1.2.2.2.2.2.1
  have b6 := btw_nI hw.1.2.2.2.2.2.2.1
  have lit := m_237 hM (by rw [he]; exact hw) (g := (de W d 0).toInt.toNat) (a := (W 6).toInt.toNat) (j := (W 5).toInt.toNat) (by omega) (by omega) (by omega)
  rw [← b0.1, ← b5.1, ← b6.1, he] at lit
  have lit' : rn 237 [.ref 611, .int (de W d 0), .int (W 6), .int (W 5)] τ = some (.inl (some (.int (bI (litB W d)))), τ) := lit
  by_cases lt : litB W d = true
  · rw [if_pos lt]
    rw [lt] at lit' ⊢
    obtain ⟨ρ1, p1, p2⟩ := m_266 ⟨hM, by rw [he]; exact hw, by rw [he, hL]; exact hl⟩ (b := ow W d) (d := d) (j := (W 5).toInt.toNat) (by omega) (by rw [he]; exact hd) (by omega)
    rw [← eo, ← b5.1, he, hL, show pay W L (ow W d) d (W 5).toInt.toNat = pyI W L d from rfl] at p1
    have m1 := hM.kp p2
    have e1 : sI ρ1 612 = W := by rw [← he]; exact funext fun j => p2.2 _ _ (by unfold MJ; omega)
    let ρ2 := wI ρ1 612 (67 + 7 * d + 5) (de W d 5 + 1)
    have m2 : ShM ρ2 := m1
    have e2 : sI ρ2 612 = uW W (67 + 7 * d + 5) (de W d 5 + 1) := by
      show sI (wI ρ1 612 (67 + 7 * d + 5) (de W d 5 + 1)) 612 = _
      rw [sI_upd, e1]
    have g := m_270 m2 (b := ow W d) (by omega) (pyI W L d)
    rw [e2, br_u (by omega), ← eo] at g
    let ρ3 := wI ρ2 612 (52 + 3 * ow W d + 0) (ern (br W (ow W d) 0) (pyI W L d))
    have m3 : ShM ρ3 := m1
    have e3 : sI ρ3 612 = uW (uW W (67 + 7 * d + 5) (de W d 5 + 1)) (52 + 3 * ow W d + 0) (ern (br W (ow W d) 0) (pyI W L d)) := by
      show sI (wI ρ2 612 (52 + 3 * ow W d + 0) (ern (br W (ow W d) 0) (pyI W L d))) 612 = _
      rw [sI_upd, e2]
    obtain ⟨ρ4, q1, q2, q3⟩ := m_280 m3 e3 (d := d) (by omega) (pyI W L d)
    have e4 : sI ρ4 612 = pyW W L d := q3
    have m4 := m3.kp q2
    have w4 := pyW_w hw hl ha hd ho
    obtain ⟨o4, o5⟩ := pyW_o (L := L) hw hd ho
    obtain ⟨ρ5, t1, t2, t3⟩ := t279 m4 e4 w4 (d := d) (by rw [(pyW_k (W := W) (L := L) (d := d)).n.2.2]; exact hd) o4 (x2 := 1) (Or.inr rfl)
    have e44 : de (pyW W L d) d 4 = de W d 4 := pyW_d (by omega) (by omega) (by omega) (by omega)
    rw [e44] at t1
    refine ⟨ρ5, ?_, ?_, t3⟩
    · have a5 : sI ρ1 612 (67 + 7 * d + 5) = de W d 5 := by rw [e1]; rfl
      rw [r_279, if_pos hM.1.1, q 0 (by omega), onI_i, gR_r hM.1.1 hM.1.2.1, r612_6 hM, w6, gR_r hM.1.1 hM.1.2.1, r612_5 hM, w5, if_pos hM.1.1, lit', onI_i, if_pos hM.1.1, q 4 (by omega), onI_i, show bI true = (1 : Int32) from rfl, if_neg (by decide), gR_r hM.1.1 hM.1.2.1, r612_5 hM, w5, if_pos hM.1.1, p1, onI_i, gR_r m1.1.1 m1.1.2.1, m_205 (d := d) (f := 5), onI_i, m_w m1 (show 67 + 7 * d + 5 < 2061 by omega), a5, w612 m1 (show 67 + 7 * d + 5 < 2061 by omega), if_pos m2.1.1]
      show onV (rn 270 [.ref 611, .int (de W d 4), .int (pyI W L d)] ρ2) _ _ = _
      rw [g, onV_i]
      show (if sT ρ3 611 = 112 then (onV (rn 280 [.ref 611, .int (nI d), .int (pyI W L d)] ρ3) _ _) else none) = _
      rw [if_pos m3.1.1, q1, onV_i, ← t1, e_279_77]
    · exact (((p2.mono fun a k z => Or.inl z).wr (Or.inr ⟨rfl, by omega⟩)).wr (Or.inr ⟨rfl, by omega⟩)).tr ((q2.mono fun a k z => Or.inr z).tr (t2.mono fun a k z => Or.inr z))
  · have lf : litB W d = false := by cases h : litB W d with
      | true => exact absurd h lt
      | false => rfl
    rw [if_neg lt]
    rw [lf] at lit' ⊢
    obtain ⟨ρ5, t1, t2, t3⟩ := t279 hM he hw hd ho (x2 := 0) (Or.inl rfl)
    refine ⟨ρ5, ?_, t2.mono fun a k z => Or.inr z, t3⟩
    rw [r_279, if_pos hM.1.1, q 0 (by omega), onI_i, gR_r hM.1.1 hM.1.2.1, r612_6 hM, w6, gR_r hM.1.1 hM.1.2.1, r612_5 hM, w5, if_pos hM.1.1, lit', onI_i, if_pos hM.1.1, q 4 (by omega), onI_i, show bI false = (0 : Int32) from rfl, if_pos rfl]
    exact t1
/-- one minute in the reference -/
theorem m_277 (hM : ShM τ) (he : sI τ 612 = W) (hL : tx τ = L) (hw : WF W) (hl : W 4 = 1 → LWF L) (ha : W 4 = 1 → LWA L) {x1 : Int32} {f : WW → WW} (hf : f = if x1 = 0 then drW else stW) : ∃ τ', rn 277 [.ref 611, .int x1] τ = some (.inl (some (.int (seF (f W) L).2)), τ') ∧ Kp RS τ τ' ∧ sI τ' 612 = tkW (seF (f W) L).1 ∧ WF (tkW (seF (f W) L).1) ∧ tkW (seF (f W) L).1 4 = W 4 := by
  obtain ⟨τ1, a1, a2, a3, a4, a5⟩ := m_277a hM he hw (x1 := x1)
  have ef : (if x1 = 0 then drW W else stW W) = f W := by
    rw [hf]; split <;> rfl
  rw [ef] at a3 a4 a5
  generalize f W = U at a3 a4 a5
  have M1 := hM.kp a2
  have u4 : U 4 = W 4 := a5 4 (by omega)
  have hlU : U 4 = 1 → LWF L := by rw [u4]; exact hl
  have haU : U 4 = 1 → LWA L := by rw [u4]; exact ha
  have L1 : tx τ1 = L := (tx_kp a2 (fun j => by omega)).trans hL
  obtain ⟨d1, d2⟩ := WF_nD a4
  obtain ⟨τ2, e, k1, k2, k3, k4⟩ := lpS (F := fun i (p : WW × Int32) σ => exec PP 10 277 87 [some (.ref 611), none, some (.int p.2), some (.int (nI i))] [] σ) (g := seG L) (K := fun p σ => exec PP 10 277 139 [some (.ref 611), none, some (.int p.2), some (.int (nI (nD U)))] [] σ) (I := fun i p ρ => Kp RS τ1 ρ ∧ sI ρ 612 = p.1 ∧ WF p.1 ∧ KpS U p.1) (n := nD U) (by
    rintro d ⟨V, n⟩ ρ hi ⟨hf, hv, hW, hk⟩
    try dsimp only at hv hW hk
    have mρ := M1.kp hf
    have nn := hk.n
    have hd : d < nD V := by omega
    have v4 : V 4 = W 4 := (hk 4 (by omega) (by omega)).trans u4
    have q204 := m_204 mρ
    rw [hv, hk 2 (by omega) (by omega), d1] at q204
    have q256 := m_256 (d := d) mρ (by omega)
    have q258 := m_258 (d := d) mρ (by omega) (V 5)
    rw [hv] at q256 q258
    have w5 : sI ρ 612 5 = V 5 := by rw [hv]
    have Lρ : tx ρ = L := (tx_kp hf (fun j z => by unfold RS MJ at z; omega)).trans L1
    have hstep : exec PP 10 277 87 [some (.ref 611), none, some (.int n), some (.int (nI d))] [] ρ = (if onB V d = true then (onI (rn 279 [.ref 611, .int (nI d)] ρ) (fun x34 σ32 => if (x34 = 0 : Prop) then (exec PP 10 277 87 [some (.ref 611), none, some (.int (n + 0)), some (.int (nI (d + 1)))] [] σ32) else (exec PP 10 277 87 [some (.ref 611), none, some (.int (n + 1)), some (.int (nI (d + 1)))] [] σ32)) (fun e s => some (.inr e, s))) else exec PP 10 277 87 [some (.ref 611), none, some (.int n), some (.int (nI (d + 1)))] [] ρ) := by
      rw [e_277_87, if_pos mρ.1.1, q204, onI_i, if_pos (nI_lt hi (by omega)), if_pos mρ.1.1, q256, onI_i]
      by_cases z : de V d 4 = -1
      · have nb : onB V d = false := by unfold onB; exact decide_eq_false (fun q => q.1 z)
        rw [nb, decide_eq_false (fun q => q z), if_pos (by decide), if_neg (by decide), e_277_133, nI_1]
      · rw [decide_eq_true z, if_neg (by decide), gR_r mρ.1.1 mρ.1.2.1, r612_5 mρ, w5, if_pos mρ.1.1, q258, onI_i]
        by_cases y : (de V d 1).toInt ≤ (V 5).toInt ∧ (V 5).toInt ≤ (de V d 2).toInt
        · have nb : onB V d = true := by unfold onB; exact decide_eq_true ⟨z, y.1, y.2⟩
          rw [decide_eq_true y, if_neg (by decide), nb, if_pos rfl, if_pos mρ.1.1]
          simp only [e_277_130, e_277_131, nI_1]
        · have nb : onB V d = false := by unfold onB; exact decide_eq_false (fun q => y q.2)
          rw [decide_eq_false y, if_pos (by decide), nb, if_neg (by decide), e_277_133, nI_1]
    by_cases on : onB V d = true
    · have ho : de V d 4 ≠ -1 := by unfold onB at on; exact (of_decide_eq_true on).1
      obtain ⟨ρ1, p1, p2, p3⟩ := m_279 mρ hv Lρ hW (by rw [v4]; exact hl) (by rw [v4]; exact ha) hd ho
      refine ⟨ρ1, ?_, hf.tr p2, ?_, ?_, ?_⟩
      · show exec PP 10 277 87 _ _ ρ = exec PP 10 277 87 [some (.ref 611), none, some (.int (seI V d n)), _] _ ρ1
        rw [hstep, if_pos on, p1, onI_i]
        unfold seI
        cases lt : litB V d with
        | true => rw [show bI true = (1 : Int32) from rfl, if_neg (by decide), if_pos ⟨on, rfl⟩]
        | false => rw [show bI false = (0 : Int32) from rfl, if_pos rfl, if_neg (fun z => by cases z.2), Int32.add_zero]
      · show sI ρ1 612 = seW V L d
        unfold seW
        rw [if_pos on]; exact p3
      · exact seW_w hW (fun z => hl (v4 ▸ z)) (fun z => ha (v4 ▸ z)) hd
      · exact fun k x y => (seW_k k x y).trans (hk k x y)
    · refine ⟨ρ, ?_, hf, ?_, ?_, ?_⟩
      · show exec PP 10 277 87 _ _ ρ = exec PP 10 277 87 [some (.ref 611), none, some (.int (seI V d n)), _] _ ρ
        have en : seI V d n = n := if_neg (fun z => on z.1)
        rw [en, hstep, if_neg on]
      · show sI ρ 612 = seW V L d
        unfold seW
        rw [if_neg on]; exact hv
      · exact seW_w hW (fun z => hl (v4 ▸ z)) (fun z => ha (v4 ▸ z)) hd
      · exact fun k x y => (seW_k k x y).trans (hk k x y)) (by
    rintro ⟨V, n⟩ ρ ⟨hf, hv, hW, hk⟩
    try dsimp only at hv hW hk
    have mρ := M1.kp hf
    have q204 := m_204 mρ
    rw [hv, hk 2 (by omega) (by omega), d1] at q204
    show exec PP 10 277 87 _ _ ρ = _
    rw [e_277_87, if_pos mρ.1.1, q204, onI_i, if_neg (nI_nlt (Nat.le_refl _) (by omega))]) (nD U) 0 (U, 0) τ1 (by omega) ⟨Kp.rf _, a3, a4, fun _ _ _ => rfl⟩
  rw [show fo (seG L) 0 (nD U) (U, 0) = seF U L from rfl] at e k2 k3 k4
  generalize seF U L = p at e k2 k3 k4
  have m2 := M1.kp k1
  have w5 : sI τ2 612 5 = p.1 5 := by rw [k2]
  have b5 := k3.1.2.2.2.2.2.1
  have tk : (if (p.1 5 + 1 < 9999 : Prop) then p.1 5 + 1 else 9999) = (if (p.1 5 < 9999 : Prop) then p.1 5 + 1 else p.1 5) := by
    have z : (9999 : Int32).toInt = 9999 := by decide
    have z1 : (1 : Int32).toInt = 1 := by decide
    unfold btw at b5
    have e1 : (p.1 5 + 1).toInt = (p.1 5).toInt + 1 := by rw [tA (by rw [z1]; omega) (by rw [z1]; omega), z1]
    by_cases y1 : (p.1 5).toInt < 9998
    · rw [if_pos (by rw [tlt, e1, z]; omega), if_pos (by rw [tlt, z]; omega)]
    · rw [if_neg (by rw [tlt, e1, z]; omega)]
      by_cases y2 : (p.1 5).toInt < 9999
      · rw [if_pos (by rw [tlt, z]; omega)]
        exact Int32.toInt_inj.mp (by rw [e1, z]; omega)
      · rw [if_neg (by rw [tlt, z]; omega)]
        exact Int32.toInt_inj.mp (by rw [z]; omega)
  refine ⟨wI τ2 612 5 (if (p.1 5 < 9999 : Prop) then p.1 5 + 1 else p.1 5), ?_, ((a2.mono fun a k z => Or.inr z).tr k1).wr (Or.inr ⟨rfl, by omega⟩), by rw [sI_upd, k2]; rfl, tkW_w k3, ?_⟩
  · refine a1.trans (e.trans ?_)
    rw [e_277_139, gR_r m2.1.1 m2.1.2.1, gR_r m2.1.1 m2.1.2.1, r612_5 m2, w5, m_328, onI_i, w612_5 m2, tk]
  · unfold tkW
    rw [uW_n (by omega), k4 4 (by omega) (by omega)]; exact u4
/-- minutes in the reference -/
theorem m_276 (hM : ShM τ) (he : sI τ 612 = W) (hL : tx τ = L) (hw : WF W) (hl : W 4 = 1 → LWF L) (ha : W 4 = 1 → LWA L) {x1 : Int32} {f : WW → WW} (hf : f = if x1 = 0 then drW else stW) {n : Nat} (hn : n ≤ 200) : ∃ τ', rn 276 [.ref 611, .int (nI n), .int x1] τ = some (.inl (some (.int (mnF L f n W).2)), τ') ∧ Kp RS τ τ' ∧ sI τ' 612 = (mnF L f n W).1 ∧ WF (mnF L f n W).1 ∧ (mnF L f n W).1 4 = W 4 := by
  rw [r_276]
  obtain ⟨τ', e, k1, k2, k3, k4⟩ := lpS (F := fun i (p : WW × Int32) σ => exec PP 11 276 5 [some (.ref 611), some (.int (nI n)), some (.int x1), some (.int p.2), some (.int (nI i))] [] σ) (g := mnG L f) (K := fun p σ => some (.inl (some (.int p.2)), σ)) (I := fun i p ρ => Kp RS τ ρ ∧ sI ρ 612 = p.1 ∧ WF p.1 ∧ p.1 4 = W 4) (n := n) (by
    rintro i ⟨V, m⟩ ρ hi ⟨hk, hv, hW, h4⟩
    try dsimp only at hv hW h4
    have mρ := hM.kp hk
    have Lρ : tx ρ = L := (tx_kp hk (fun j z => by unfold RS MJ at z; omega)).trans hL
    obtain ⟨ρ', p1, p2, p3, p4, p5⟩ := m_277 mρ hv Lρ hW (by rw [h4]; exact hl) (by rw [h4]; exact ha) hf
    refine ⟨ρ', ?_, hk.tr p2, p3, p4, p5.trans h4⟩
    show exec PP 11 276 5 _ _ ρ = exec PP 11 276 5 _ _ ρ'
    rw [e_276_5, if_pos (nI_lt hi (by omega)), if_pos mρ.1.1, p1, onI_i, nI_1]
    rfl) (by
    rintro ⟨V, m⟩ ρ ⟨hk, hv, hW, h4⟩
    show exec PP 11 276 5 _ _ ρ = _
    rw [e_276_5, if_neg (nI_nlt (Nat.le_refl _) (by omega)), e_276_25]) n 0 (W, 0) τ (by omega) ⟨Kp.rf _, he, hw, rfl⟩
  exact ⟨τ', e, k1, k2, k3, k4⟩
/-- minutes in the program -/
theorem m_17 (h : CV σ c W L) (hw : WF W) {x1 : Int32} {f : WW → WW} (hf : f = if x1 = 0 then id else drW) {n : Nat} (hn : n ≤ 200) : ∃ σ', rn 17 [.ref c, .int (nI n), .int x1] σ = some (.inl (some (.int (mnF L f n W).2)), σ') ∧ CV σ' c (mnF L f n W).1 L ∧ WF (mnF L f n W).1 ∧ Kp (JS c σ) σ σ' := by
  rw [r_17]
  obtain ⟨σ', e, k1, k2, k3⟩ := lpS (F := fun i (p : WW × Int32) σ => exec PP 6 17 5 [some (.ref c), some (.int (nI n)), some (.int x1), some (.int p.2), some (.int (nI i))] [] σ) (g := mnG L f) (K := fun p σ => some (.inl (some (.int p.2)), σ)) (I := fun i p ρ => CV ρ c p.1 L ∧ WF p.1 ∧ Kp (JS c σ) σ ρ) (n := n) (by
    rintro i ⟨V, m⟩ ρ hi ⟨hv, hW, hk⟩
    try dsimp only at hv hW
    have tail : ∀ (ρ1 : SH) (U : WW), CV ρ1 c U L → WF U → Kp (JS c σ) σ ρ1 → ∃ ρ2, (if sT ρ1 c = 101 then (onI (rn 19 [.ref c] ρ1) (fun x23 σ21 => gI σ21 101 10 (.ref c) fun x24 => if (x24 < 9999 : Prop) then (gI σ21 101 10 (.ref c) fun x25 => pI σ21 101 10 (.ref c) (x25 + 1) fun σ26 => exec PP 6 17 5 [some (.ref c), some (.int (nI n)), some (.int x1), some (.int (m + x23)), some (.int (nI i + 1))] [] σ26) else (exec PP 6 17 46 [some (.ref c), some (.int (nI n)), some (.int x1), some (.int (m + x23)), some (.int (nI i))] [] σ21)) (fun e s => some (.inr e, s))) else none) = exec PP 6 17 5 [some (.ref c), some (.int (nI n)), some (.int x1), some (.int (m + (seF U L).2)), some (.int (nI (i + 1)))] [] ρ2 ∧ CV ρ2 c (tkW (seF U L).1) L ∧ WF (tkW (seF U L).1) ∧ Kp (JS c σ) σ ρ2 := by
      intro ρ1 U u1 u2 u3
      obtain ⟨ρ2, q1, q2, q3, q4, q5⟩ := m_19 u1 u2
      have kk : Kp (JS c σ) σ ρ2 := u3.tr (q5.mono fun a k z => (JS_e (c := c) u3.1) ▸ z)
      have t2 := q2.1.1.1.1
      have hc := q2.1.2
      rw [if_pos u1.1.1.1.1, q1, onI_i, gI_r t2, q2.2.1.1.2.2.2.2.2.2.1]
      have z2 := q2.z (f := 10) (k := 5) (v := if ((seF U L).1 5 < 9999 : Prop) then (seF U L).1 5 + 1 else (seF U L).1 5) (by omega)
      by_cases y : (seF U L).1 5 < 9999
      · refine ⟨wI ρ2 c 10 ((seF U L).1 5 + 1), ?_, ?_, tkW_w q3, kk.wr (Or.inl (by omega))⟩
        · rw [if_pos y, gI_r t2, q2.2.1.1.2.2.2.2.2.2.1, pI_r t2, nI_1]
        · rw [if_pos y] at z2
          unfold tkW
          rw [if_pos y]; exact z2
      · refine ⟨ρ2, ?_, ?_, tkW_w q3, kk⟩
        · rw [if_neg y, e_17_46, nI_1]
        · unfold tkW
          rw [if_neg y, uW_id rfl]; exact q2
    by_cases z : x1 = 0
    · have fi : f = id := by rw [hf, if_pos z]
      obtain ⟨ρ2, t1, t2, t3, t4⟩ := tail ρ V hv hW hk
      refine ⟨ρ2, ?_, ?_, ?_, t4⟩
      · show exec PP 6 17 5 _ _ ρ = exec PP 6 17 5 [_, _, _, some (.int (m + (seF (f V) L).2)), _] _ ρ2
        rw [fi, e_17_5, if_pos (nI_lt hi (by omega)), if_pos z, e_17_19]
        exact t1
      · show CV ρ2 c (tkW (seF (f V) L).1) L
        rw [fi]; exact t2
      · show WF (tkW (seF (f V) L).1)
        rw [fi]; exact t3
    · have fi : f = drW := by rw [hf, if_neg z]
      obtain ⟨ρ1, q1, q2, q3, q4, q5⟩ := m_18 hv hW
      obtain ⟨ρ2, t1, t2, t3, t4⟩ := tail ρ1 (drW V) q2 q3 (hk.tr (q5.mono fun a k z => Or.inl z))
      refine ⟨ρ2, ?_, ?_, ?_, t4⟩
      · show exec PP 6 17 5 _ _ ρ = exec PP 6 17 5 [_, _, _, some (.int (m + (seF (f V) L).2)), _] _ ρ2
        rw [fi, e_17_5, if_pos (nI_lt hi (by omega)), if_neg z, if_pos hv.1.1.1.1, q1, onV_i]
        exact t1
      · show CV ρ2 c (tkW (seF (f V) L).1) L
        rw [fi]; exact t2
      · show WF (tkW (seF (f V) L).1)
        rw [fi]; exact t3) (by
    rintro ⟨V, m⟩ ρ ⟨hv, hW, hk⟩
    show exec PP 6 17 5 _ _ ρ = _
    rw [e_17_5, if_neg (nI_nlt (Nat.le_refl _) (by omega)), e_17_52]) n 0 (W, 0) σ (by omega) ⟨h, hw, Kp.rf _⟩
  exact ⟨σ', e, k1, k2, k3⟩
end B1
