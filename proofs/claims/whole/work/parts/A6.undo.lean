/-! seed, undo, image, back -/
section A6
variable {σ τ : SH} {W L : WW} {x : XX}
theorem Opr.gen {cl : SR} {rf : SH → SR} {ex : List (Nat × Int32)} {v : Int32} {W' L' : WW} {x' : XX} {σ1 : SH} (hc : InvC σ W L x) (hr : InvR σ W L x) (ho : cl = some (.inl (some (.int v)), σ1)) (c1 : InvC σ1 W' L' x') (fr : Fr PC RC σ σ1) (z : sZ σ1 = sZ σ ∧ sS σ1 = sS σ)
    (href : ∀ τ, InvR τ W L x → ∃ τ2, rf τ = some (.inl (some (.int v)), τ2) ∧ InvR τ2 W' L' x' ∧ Kp RP τ τ2 ∧ sI τ2 611 0 = 0) : Opr cl σ rf ex W L x := by
  refine ⟨0, v, W', L', x', σ1, Or.inl ⟨rfl, ho⟩, c1, hr.pc hc.1.2.1 fr, Lo.pc fr hc.1.2.1, ⟨by omega, by omega, by omega⟩, fun τ c r => ?_⟩
  obtain ⟨τ2, e1, e2, e3, e4⟩ := href τ r
  exact RfA.mk' e1 c e2 e3 e4
theorem op_seed (hc : InvC σ W L x) (hr : InvR σ W L x) (x0 : Int32) : Opr (rn 113 [.ref 200, .int x0] σ) σ (fun τ => rn 315 [.ref 611, .int x0] τ) [] W L x := by
  have hx := hc.1.1
  have tc := tCo hx isC_now
  have cw := hc.2.1.1.2.1
  obtain ⟨c1, f1⟩ := hc.now (σ' := wI σ 211 11 x0) (W' := uW W 9 x0) (Kp.w (by omega)) (hc.2.1.1.z (by omega)) hc.2.1.2.r9
  refine Opr.gen (v := W 9) (W' := uW W 9 x0) (L' := L) (x' := x) (σ1 := wI σ 211 11 x0) hc hr ?_ c1 f1 ⟨rfl, rfl⟩ fun τ r => ?_
  · rw [r_113, x2 hx, gI_r tc, x2 hx, pI_r tc, cw.1.2.2.2.2.2.2.2]
  · have r0 := r.z 0
    refine ⟨wI (wI τ 611 0 0) 612 9 x0, ?_, r0.now (Kp.w ⟨rfl, by omega⟩) (by rw [sI_upd, r0.2.1.1]) hc.2.1.2.r9 (uW_n (by omega)), (rp0 τ 0).wr (by unfold RP; omega), ?_⟩
    · show rn 315 _ τ = _
      rw [r_315, pI_r r.t, g612 r0, r612_9 r0.1.1, g612 r0, w612_9 r0.1.1, r0.2.1.1]
    · rw [sI_wIn (by omega), sI_wIs]
/-- a reference's row copied -/
theorem cpy {ρ : SH} {F : Nat → SH → SR} {K : SH → SR} {q n p : Nat} {f : Nat → Int32} (hs : ∀ i τ, i < n → Kp (fun a k => a = q ∧ k < n) ρ τ → F i τ = F (i + 1) (wI τ q i (f i))) (he : ∀ τ, Kp (fun a k => a = q ∧ k < n) ρ τ → F n τ = K τ) (hp : p = n) : ∃ τ, F 0 ρ = K τ ∧ Kp (fun a k => a = q ∧ k < n) ρ τ ∧ ∀ k, k < n → sI τ q k = f k := by
  obtain ⟨τ, e, k, c⟩ := lpS (F := fun i (_ : Unit) τ => F i τ) (g := fun _ u => u) (K := fun _ τ => K τ) (I := fun i _ τ => Kp (fun a k => a = q ∧ k < n) ρ τ ∧ ∀ k, k < i → sI τ q k = f k) (n := n) (by
    rintro i u τ hi ⟨hk, hc⟩
    refine ⟨_, hs i τ hi hk, hk.wr ⟨rfl, hi⟩, fun k hk' => ?_⟩
    by_cases z : k = i
    · rw [z, sI_wIs]
    · rw [sI_wIn (by omega)]; exact hc k (by omega)) (by
    rintro u τ ⟨hk, hc⟩
    exact he τ hk) n 0 () ρ (by omega) ⟨Kp.rf _, fun k hk => by omega⟩
  exact ⟨τ, e, k, c⟩
theorem op_undo (hc : InvC σ W L x) (hr : InvR σ W L x) : Opr (rn 114 [.ref 200] σ) σ (fun τ => rn 181 [.ref 611] τ) [] W L x := by
  obtain ⟨⟨r, P⟩, xr⟩ := x
  have hc' := hc
  obtain ⟨⟨a1, a2⟩, ⟨a3, a4⟩, ⟨o, ⟨o1, o2⟩, ⟨o3, o4⟩, o5⟩, a6, a7, a8⟩ := hc
  try dsimp only at o1 o2 o3 o4 o5 a6 a7 a8
  have hz := a2.1
  by_cases hr0 : r = 0
  · subst hr0
    refine Opr.gen (v := 0) (W' := W) (L' := L) (x' := ((0, P), xr)) (σ1 := σ) hc' hr ?_ hc' (Fr.rf σ) ⟨rfl, rfl⟩ fun τ r => ?_
    · rw [r_114, xI a1, o3, if_pos (show nI 0 = (0 : Int32) from rfl)]
    · have r0 := r.z 0
      refine ⟨wI τ 611 0 0, ?_, r0, rp0 τ 0, sI_wIs _ _ _ _⟩
      show rn 181 _ τ = _
      rw [r_181, pI_r r.t, gI_r r0.t, r0.2.2.1.1, if_pos (show nI 0 = (0 : Int32) from rfl)]
  · have hm : (o + (r - 1)) % 12 < 12 := Nat.mod_lt _ (by decide)
    have hcp := isC_pa hm
    have hl := isC_lt hcp
    obtain ⟨b1, b2⟩ := o5 (r - 1) (by omega)
    have f0 : Fr (fun a k => a = 200 ∧ k = 10) (fun _ => False) σ (wI σ 200 10 (nI (r - 1))) := Kp.fr (Q := fun a k => a = 200 ∧ k = 10) (Kp.w ⟨rfl, rfl⟩) (fun _ _ _ z => z) (fun a k z1 z2 => by omega)
    have okF : okR (fun _ : Nat => False) := fun a z => z.elim
    have s0 := a1.fr f0 hz okF
    have t0 := a2.fr f0 rfl
    have b3 := b1.fr b2 hcp a2 f0 okF (fun z => z) (fun i j _ _ z => by omega) (fun a j _ z => by omega)
    have hv : sV (wI σ 200 10 (nI (r - 1))) (299 + 26 * ((o + (r - 1)) % 12)) 12 = .null ∨ ∃ q, sV (wI σ 200 10 (nI (r - 1))) (299 + 26 * ((o + (r - 1)) % 12)) 12 = .ref q := by
      rcases b3.2.2.1.1 with ⟨z, _⟩ | ⟨q, _, z, _⟩
      · exact Or.inl z
      · exact Or.inr ⟨q, z⟩
    obtain ⟨σ1, e1, k1⟩ := m_6 (σ := wI σ 200 10 (nI (r - 1))) (a := 211) (b := 299 + 26 * ((o + (r - 1)) % 12)) isC_now hcp (by omega) s0 b3.2.2.2.2.2 hv
    have f1 : Fr (fun a k => (211 ≤ a ∧ a < 237) ∨ (a = 200 ∧ k = 10)) (fun a => a = 211) σ σ1 := (f0.mono (fun _ _ _ z => Or.inr z) (fun _ z => z.elim)).tr (k1.fr isC_now (fun q _ z1 z2 => Or.inl ⟨z1, z2⟩) rfl)
    have ok1 : okR (fun a => a = 211) := fun a z => Or.inl (by rw [z]; exact isC_now)
    have c1 := k1.cv b3 b2 isC_now hcp (s0.2.2.2.2.2.2.2.2 _ isC_now) t0
    have eW : ∀ k, k < 363 → (fun k => if k < 363 then P (r - 1) k else W k) k = P (r - 1) k := fun k hk => if_pos hk
    have wf' := WF_cg b2 eW
    have i10 : sI σ1 200 10 = nI (r - 1) := by rw [k1.2.2.1 _ _ (by omega), sI_wIs]
    have i9 : sI σ1 200 9 = nI o := by rw [f1.I (by omega) (by omega) (by omega)]; exact o4
    refine Opr.gen (v := 1) (W' := fun k => if k < 363 then P (r - 1) k else W k) (L' := L) (x' := ((r - 1, P), xr)) (σ1 := σ1) hc' hr ?_ ⟨⟨a1.fr f1 hz ok1, a2.fr f1 k1.Z⟩, ⟨c1.cg b2 eW (fun _ _ => rfl), wf'⟩, ⟨o, ⟨show r - 1 ≤ 12 by omega, o2⟩, ⟨i10, i9⟩, fun i hi => ?_⟩, a6.fr a2 f1 ok1 (by omega) (by omega) (fun a j _ _ z => by omega) (fun a j _ z => by omega), a7.fr a2 f1 (by omega) (fun j z => by omega), ?_⟩ (f1.mono (fun a k _ z => by unfold PC; omega) (fun a z => Or.inl (by rw [z]; exact isC_now))) ⟨k1.Z, k1.S⟩ fun τ r' => ?_
    · rw [r_114, xI a1, o3, if_neg (nI_nel (n := 0) hr0 (by omega) (by decide)), e_114_9, xI a1, o3, sub_1 (by omega), pI_r (tX a1), x2 s0, x5 s0, xI s0, xI s0, sI_wIn (by omega), o4, sI_wIs, nI_add, irm12 (by omega), aR_r (by rw [s0.2.2.2.1.1]; decide) (by rw [s0.2.2.2.1.2.1]; exact hm) (by rw [s0.2.2.2.1.2.1]; decide) (s0.2.2.2.1.2.2 _ hm), if_pos (tCo s0 isC_now), e1, onV_i]
    · obtain ⟨d1, d2⟩ := o5 i (by have : i < r - 1 := hi; omega)
      have hj : (o + i) % 12 < 12 := Nat.mod_lt _ (by decide)
      exact ⟨d1.fr d2 (isC_pa hj) a2 f1 ok1 (by omega) (fun i j _ _ z => by omega) (fun a j _ z => by omega), d2⟩
    · rw [f1.I (by omega) (by omega) (by omega)]; exact a8
    · have r0 := r'.z 0
      have m0 := r0.1.1
      obtain ⟨τ2, q1, q2, q3⟩ := cpy (ρ := wI (wI τ 611 0 0) 611 7 (nI (r - 1))) (F := fun i τ => exec PP 1 181 26 [some (.ref 611), some (.int (nI i))] [] τ) (K := fun τ => some (.inl (some (.int 1)), τ)) (q := 612) (n := 363) (f := P (r - 1)) (p := 363) (by
        intro i ρ hi hk
        have e2 : ρ.2 = (wI τ 611 0 0).2 := hk.1
        have mρ := m0.e e2
        have e7 : sI ρ 611 7 = nI (r - 1) := by rw [hk.2 _ _ (by omega), sI_wIs]
        have e6 : sI ρ 616 (363 * (r - 1) + i) = P (r - 1) i := by
          rw [hk.2 _ _ (by omega), sI_wIn (by omega)]
          exact r0.2.2.1.2 (r - 1) i (by show r - 1 < r; omega) hi
        show exec PP 1 181 26 _ _ ρ = _
        rw [e_181_26, if_pos (nI_ltl (n := 363) hi (by decide)), gR_r mρ.1.1 mρ.1.2.1, gR_r mρ.1.1 mρ.1.2.2.2.2.2.1, gI_r mρ.1.1, e7, show (363 : Int32) = nI 363 from rfl, pk_mul, nI_add, aI_r mρ.2.1.2.2.2.2.1 (by rw [mρ.2.2.2.2.2.2.1]; omega) (by rw [mρ.2.2.2.2.2.2.1]; decide), e6, w612 mρ (by omega), nI_1]) (by
        intro ρ hk
        show exec PP 1 181 26 _ _ ρ = _
        rw [e_181_26, if_neg (nI_nltl (n := 363) (by omega) (by decide)), e_181_60]) rfl
      have kk : Kp (fun a k => (a = 612 ∧ k < 363) ∨ (a = 611 ∧ k = 7)) (wI τ 611 0 0) τ2 := (Kp.w (Or.inr ⟨rfl, rfl⟩)).tr (q2.mono fun a k z => Or.inl z)
      have e612 : sI τ2 612 = fun k => if k < 363 then P (r - 1) k else W k := by
        funext k
        by_cases hk : k < 363
        · rw [if_pos hk]; exact q3 k hk
        · rw [if_neg hk, kk.2 _ _ (by omega), r0.2.1.1]
      obtain ⟨g1, ⟨g3, g4⟩, ⟨g5, g5b⟩, ⟨g6, g6b⟩, ⟨g7, g7b⟩, g8⟩ := r0
      have w4 : (fun k => if k < 363 then P (r - 1) k else W k) 4 = P (r - 1) 4 := rfl
      refine ⟨τ2, ?_, ⟨⟨m0.kp kk, wf', fun z => b1.lw (w4 ▸ z)⟩, ⟨e612, ?_⟩, ⟨?_, fun i j z1 z2 => ?_⟩, ⟨?_, fun z => ⟨fun j hj => ?_, fun j hj => ?_⟩⟩, ⟨?_, fun j hj => ?_⟩, ?_⟩, (rp0 τ 0).tr (kk.mono fun a k z => by unfold RP; omega), ?_⟩
      · show rn 181 _ τ = _
        rw [r_181, pI_r r'.t, gI_r (show sT (wI τ 611 0 0) 611 = 112 from r'.t), g5, if_neg (nI_nel (n := 0) hr0 (by omega) (by decide)), e_181_14, gI_r (show sT (wI τ 611 0 0) 611 = 112 from r'.t), g5, sub_1 (by show 0 < r; omega), pI_r (show sT (wI τ 611 0 0) 611 = 112 from r'.t)]
        exact q1
      · rw [← g4]; funext k; exact kk.2 _ _ (by omega)
      · show sI τ2 611 7 = nI (r - 1)
        rw [q2.2 _ _ (by omega), sI_wIs]
      · rw [kk.2 _ _ (by omega)]; exact g5b i j (by have : i < r - 1 := z1; show i < r; omega) z2
      · rw [kk.2 _ _ (by omega)]; exact g6
      · rw [kk.2 _ _ (by omega)]; exact (g6b z).1 j hj
      · rw [kk.2 _ _ (by omega)]; exact (g6b z).2 j hj
      · rw [kk.2 _ _ (by omega)]; exact g7
      · rw [kk.2 _ _ (by omega)]; exact g7b j hj
      · rw [kk.2 _ _ (by omega)]; exact g8
      · rw [kk.2 _ _ (by omega), sI_wIs]
end A6
