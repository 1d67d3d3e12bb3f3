/-! words fed -/
def byt (x : Int32) (j : Nat) : Int32 := ush x (nI (24 - 8 * j)) &&& 255
theorem and255 (y : Int32) : ∃ b, b < 256 ∧ y &&& 255 = nI b := by
  obtain ⟨j, hj, e⟩ := pk_andE y (m := 255) 8 (by decide)
  exact ⟨j, by omega, e⟩
theorem sh8 (x : Int32) {j : Nat} (hj : j < 4) : shr x (nI (24 - 8 * j)) &&& 255 = byt x j := by
  have m : ∀ i, i < 32 → (255#32).getLsbD i = decide (i < 8) := by decide
  have key : ∀ n : Nat, n ≤ 24 → (x.toBitVec.sshiftRight n) &&& 255#32 = (x.toBitVec >>> n) &&& 255#32 := fun n hn => by
    refine BitVec.eq_of_getLsbD_eq fun i hi => ?_
    rw [BitVec.getLsbD_and, BitVec.getLsbD_and, m i hi]
    by_cases h : i < 8
    · rw [BitVec.getLsbD_ushiftRight, BitVec.getLsbD_sshiftRight]
      simp [h, show ¬ 32 ≤ i by omega, show n + i < 32 by omega]
    · simp [h]
  refine Int32.toBitVec_inj.mp ?_
  rcases (by omega : j = 0 ∨ j = 1 ∨ j = 2 ∨ j = 3) with e | e | e | e <;> subst e
  · exact key 24 (by omega)
  · exact key 16 (by omega)
  · exact key 8 (by omega)
  · exact key 0 (by omega)
theorem i2b_a (y : Int32) : i2b y = i2b (y &&& 255) ∧ i2b (i2b y) = i2b y := by
  have m : ∀ i, i < 32 → (255#32).getLsbD i = decide (i < 8) := by decide
  constructor
  · unfold i2b
    have : y.toInt8 = (y &&& 255).toInt8 := by
      refine Int8.toBitVec_inj.mp ?_
      show y.toBitVec.signExtend 8 = (y.toBitVec &&& 255#32).signExtend 8
      refine BitVec.eq_of_getLsbD_eq fun i hi => ?_
      rw [BitVec.getLsbD_signExtend, BitVec.getLsbD_signExtend, BitVec.getLsbD_and, m i (by omega)]
      simp [hi, show i < 32 by omega]
    rw [this]
  · unfold i2b
    rw [Int8.toInt8_toInt32]
section B9
variable {σ σ' τ τ' : SH} {W L : WW} {x x' : XX}
theorem ShX.kp1 {Q : Nat → Nat → Prop} (h : ShX σ) (k : Kp Q σ σ') : ShX σ' := h.ag fun a _ => ⟨k.T a, k.N a, fun j _ _ _ => k.V a j⟩
theorem m_97 (hx : ShX σ) {l : Nat} (hl : sI σ 201 1 = nI l) (h4 : l + 4 ≤ 400) (v : Int32) : ∃ σ', rn 97 [.ref 201, .int v] σ = some (.inl none, σ') ∧ Kp (fun a k => (a = 201 ∧ k = 1) ∨ a = 202) σ σ' ∧ sI σ' 201 1 = nI (l + 4) ∧ ∀ k, sI σ' 202 k = if l ≤ k ∧ k < l + 4 then byt v (k - l) else sI σ 202 k := by
  obtain ⟨σ', e, k1, k2, k3⟩ := lpS (F := fun i (_ : Unit) σ => exec PP 1 97 3 [some (.ref 201), some (.int v), some (.int (if i < 4 then nI (24 - 8 * i) else -8))] [] σ) (g := fun _ u => u) (K := fun _ σ => some (.inl none, σ)) (I := fun i _ ρ => Kp (fun a k => (a = 201 ∧ k = 1) ∨ a = 202) σ ρ ∧ sI ρ 201 1 = nI (l + i) ∧ ∀ k, sI ρ 202 k = if l ≤ k ∧ k < l + i then byt v (k - l) else sI σ 202 k) (n := 4) (by
    rintro i u ρ hi ⟨hk, h1, h2⟩
    have t1 : sT ρ 201 = 110 := (hk.T _).trans (tTp hx)
    have v0 : sV ρ 201 0 = .ref 202 := (hk.V _ _).trans hx.2.1.2.1
    have t2 : sT ρ 202 = 1 := (hk.T _).trans hx.2.1.2.2.2.2.2.1
    have n2 : sN ρ 202 = 400 := (hk.N _).trans hx.2.1.2.2.2.2.2.2.1
    have ne : ¬ nI (24 - 8 * i) < (0 : Int32) := nI_nltl (n := 0) (by omega) (by omega)
    have nx : nI (24 - 8 * i) + (-8) = (if i + 1 < 4 then nI (24 - 8 * (i + 1)) else -8) := by
      rcases (by omega : i = 0 ∨ i = 1 ∨ i = 2 ∨ i = 3) with e | e | e | e <;> subst e <;> decide
    refine ⟨wI (wI ρ 202 (l + i) (byt v i)) 201 1 (nI (l + i + 1)), ?_, (hk.wr (Or.inr rfl)).wr (Or.inl ⟨rfl, rfl⟩), by rw [sI_wIs]; rfl, fun k => ?_⟩
    · show exec PP 1 97 3 _ _ ρ = exec PP 1 97 3 _ _ _
      rw [if_pos hi, e_97_3, if_neg ne, gI_r t1, h1, gR_r t1 v0, aN_r (n := 400) (by rw [t2]; decide) n2, if_pos (nI_lt (by omega) (by decide)), gR_r t1 v0, gI_r t1, h1, uI_r t2 (by rw [n2]; omega) (by rw [n2]; decide), gI_r (show sT (wI ρ 202 (l + i) (ush v (nI (24 - 8 * i)) &&& 255)) 201 = 110 from t1), sI_wIn (by omega), h1, nI_1, pI_r (show sT (wI ρ 202 (l + i) (ush v (nI (24 - 8 * i)) &&& 255)) 201 = 110 from t1), nx]
      rfl
    · rw [sI_wIn (by omega)]
      by_cases e : k = l + i
      · rw [e, sI_wIs, if_pos (by omega), show l + i - l = i by omega]
      · rw [sI_wIn (by omega), h2 k]
        by_cases y : l ≤ k ∧ k < l + i
        · rw [if_pos y, if_pos (by omega)]
        · rw [if_neg y, if_neg (by omega)]) (by
    rintro u ρ ⟨hk, h1, h2⟩
    show exec PP 1 97 3 _ _ ρ = _
    rw [if_neg (by omega), e_97_3, if_pos (by decide), e_97_51]) 4 0 () σ (by omega) ⟨Kp.rf _, hl, fun k => by rw [if_neg (by omega)]⟩
  exact ⟨σ', by rw [r_97]; exact e, k1, k2, k3⟩
def fw (v0 v1 v2 v3 v4 : Int32) (i : Nat) : Int32 := if i = 0 then v0 else if i = 1 then v1 else if i = 2 then v2 else if i = 3 then v3 else v4
def fB (v0 v1 v2 v3 v4 : Int32) (T : Nat) (B : Nat → Nat) (k : Nat) : Nat := if T ≤ k ∧ k < T + 20 then (byt (fw v0 v1 v2 v3 v4 ((k - T) / 4)) ((k - T) % 4)).toInt.toNat else B k
theorem byt_n (x : Int32) (j : Nat) : byt x j = nI (byt x j).toInt.toNat ∧ (byt x j).toInt.toNat < 256 := by
  obtain ⟨b, hb, e⟩ := and255 (ush x (nI (24 - 8 * j)))
  have : byt x j = nI b := e
  rw [this, tnI (by omega)]
  exact ⟨rfl, by omega⟩
theorem op_feed (hc : InvC σ W L x) (hr : InvR σ W L x) (v0 v1 v2 v3 v4 : Int32) : Opr (rn 107 [.ref 200, .int v0, .int v1, .int v2, .int v3, .int v4] σ) σ (fun τ => rn 182 [.ref 611, .int v0, .int v1, .int v2, .int v3, .int v4] τ) [] W L x := by
  obtain ⟨xa, xb, ⟨T, B⟩, xf⟩ := x
  have hx := hc.1.1
  obtain ⟨t1, t2, t3⟩ := hc.2.2.2.2.1
  try dsimp only at t1 t2 t3
  have e20 : nI T + 20 = nI (T + 20) := by rw [show (20 : Int32) = nI 20 from rfl, nI_add]
  have z4 : (400 : Int32).toInt = 400 := by decide
  by_cases y : 400 < T + 20
  · have yy : (400 : Int32) < nI (T + 20) := by rw [tlt, z4, tnI (by omega)]; omega
    refine Opr.gen (v := -1) (W' := W) (L' := L) (x' := (xa, xb, (T, B), xf)) (σ1 := σ) hc hr ?_ hc (Fr.rf σ) ⟨rfl, rfl⟩ fun τ r => ⟨wI τ 611 0 0, ?_, r.z 0, rp0 τ 0, sI_wIs _ _ _ _⟩
    · rw [r_107, gT0 hx, tpI hx, t1, e20, if_pos yy]
    · show rn 182 _ τ = _
      rw [r_182, pI_r r.t, gI_r (r.z 0).t, (r.z 0).2.2.2.2.1.1, e20, if_pos yy]
  · have yy : ¬ (400 : Int32) < nI (T + 20) := by rw [tlt, z4, tnI (by omega)]; omega
    obtain ⟨s1, a1, k1, l1, c1⟩ := m_97 hx t1 (by omega) v0
    have x1 := hx.kp1 k1
    obtain ⟨s2, a2, k2, l2, c2⟩ := m_97 x1 l1 (by omega) v1
    have x2' := x1.kp1 k2
    obtain ⟨s3, a3, k3, l3, c3⟩ := m_97 x2' l2 (by omega) v2
    have x3' := x2'.kp1 k3
    obtain ⟨s4, a4, k4, l4, c4⟩ := m_97 x3' l3 (by omega) v3
    have x4' := x3'.kp1 k4
    obtain ⟨s5, a5, k5, l5, c5⟩ := m_97 x4' l4 (by omega) v4
    have x5' := x4'.kp1 k5
    have kk := (((k1.tr k2).tr k3).tr k4).tr k5
    have cc : ∀ k, sI s5 202 k = if T ≤ k ∧ k < T + 20 then byt (fw v0 v1 v2 v3 v4 ((k - T) / 4)) ((k - T) % 4) else sI σ 202 k := fun k => by
      rw [c5, c4, c3, c2, c1]
      by_cases z : T ≤ k ∧ k < T + 20
      · rw [if_pos z]
        unfold fw
        rcases (by omega : (k - T) / 4 = 0 ∨ (k - T) / 4 = 1 ∨ (k - T) / 4 = 2 ∨ (k - T) / 4 = 3 ∨ (k - T) / 4 = 4) with e | e | e | e | e <;> rw [e]
        · rw [if_neg (by omega), if_neg (by omega), if_neg (by omega), if_neg (by omega), if_pos (by omega), if_pos rfl, show (k - T) % 4 = k - T by omega]
        · rw [if_neg (by omega), if_neg (by omega), if_neg (by omega), if_pos (by omega), if_neg (by omega), if_pos rfl, show (k - T) % 4 = k - (T + 4) by omega]
        · rw [if_neg (by omega), if_neg (by omega), if_pos (by omega), if_neg (by omega), if_neg (by omega), if_pos rfl, show (k - T) % 4 = k - (T + 4 + 4) by omega]
        · rw [if_neg (by omega), if_pos (by omega), if_neg (by omega), if_neg (by omega), if_neg (by omega), if_pos rfl, show (k - T) % 4 = k - (T + 4 + 4 + 4) by omega]
        · rw [if_pos (by omega), if_neg (by omega), if_neg (by omega), if_neg (by omega), if_neg (by omega), show (k - T) % 4 = k - (T + 4 + 4 + 4 + 4) by omega]
      · rw [if_neg z, if_neg (by omega), if_neg (by omega), if_neg (by omega), if_neg (by omega), if_neg (by omega)]
    obtain ⟨cN, fN⟩ := hc.tp kk (T := T + 20) (B := fB v0 v1 v2 v3 v4 T B) ⟨l5, by omega, fun k hk => by
      rw [cc k]
      unfold fB
      by_cases z : T ≤ k ∧ k < T + 20
      · rw [if_pos z, if_pos z]; exact ⟨(byt_n _ _).2, (byt_n _ _).1⟩
      · rw [if_neg z, if_neg z]; exact t3 k hk⟩
    refine Opr.gen (v := nI (T + 20)) (W' := W) (L' := L) (x' := (xa, xb, (T + 20, fB v0 v1 v2 v3 v4 T B), xf)) (σ1 := s5) hc hr ?_ cN fN ⟨kk.Z, kk.S⟩ fun τ r => ?_
    · rw [r_107, gT0 hx, tpI hx, t1, e20, if_neg yy, e_107_18, gT0 hx, if_pos (tTp hx), a1, onV_i, gT0 x1, if_pos (tTp x1), a2, onV_i, gT0 x2', if_pos (tTp x2'), a3, onV_i, gT0 x3', if_pos (tTp x3'), a4, onV_i, gT0 x4', if_pos (tTp x4'), a5, onV_i, gT0 x5', tpI x5', l5]
    · have r0 := r.z 0
      have m0 := r0.1.1
      obtain ⟨g7, g7b⟩ := r0.2.2.2.2.1
      try dsimp only at g7 g7b
      let ρ5 := wI (wI (wI (wI (wI (wI τ 611 0 0) 618 0 v0) 618 1 v1) 618 2 v2) 618 3 v3) 618 4 v4
      have k0 : Kp (fun a _ => a = 618) (wI τ 611 0 0) ρ5 := (((((Kp.rf (P := fun a _ => a = 618) (wI τ 611 0 0)).wr rfl).wr rfl).wr rfl).wr rfl).wr rfl
      have w8 : ∀ i, i < 5 → sI ρ5 618 i = fw v0 v1 v2 v3 v4 i := fun i hi => by
        show sI (wI (wI (wI (wI (wI (wI τ 611 0 0) 618 0 v0) 618 1 v1) 618 2 v2) 618 3 v3) 618 4 v4) 618 i = _
        unfold fw
        rcases (by omega : i = 0 ∨ i = 1 ∨ i = 2 ∨ i = 3 ∨ i = 4) with e | e | e | e | e <;> subst e <;> simp [sI_wI]
      have g15 : ∀ (ρ : SH) (k : Nat → SR), ρ.2 = τ.2 → gR ρ 112 15 (.ref 611) k = k 618 := fun ρ k e => gR_r (m0.e e).1.1 (m0.e e).1.2.2.2.2.2.2.2.1
      have u8 : ∀ (ρ : SH) (j : Nat) (v : Int32) (k : SH → SR), ρ.2 = τ.2 → j < 5 → uI ρ (.ref 618) (nI j) v k = k (wI ρ 618 j v) := fun ρ j v k e hj => uI_r (m0.e e).2.1.2.2.2.2.2.2.1 (by rw [(m0.e e).2.2.2.2.2.2.2.2.1]; exact hj) (by rw [(m0.e e).2.2.2.2.2.2.2.2.1]; decide)
      obtain ⟨ρ6, d1, d2, d3⟩ := lpS (F := fun i (_ : Unit) σ => exec PP 1 182 60 [some (.ref 611), (if i = 0 then some (.int v0) else none), (if i = 0 then some (.int v1) else none), (if i = 0 then some (.int v2) else none), (if i = 0 then some (.int v3) else none), (if i = 0 then some (.int v4) else none), some (.int (nI i))] [] σ) (g := fun _ u => u) (K := fun _ σ => exec PP 1 182 106 [some (.ref 611), none, none, none, none, none, some (.int 20)] [] σ) (I := fun i _ ρ => Kp (fun a _ => a = 617) ρ5 ρ ∧ ∀ k, sI ρ 617 k = if T ≤ k ∧ k < T + i then sb (fB v0 v1 v2 v3 v4 T B k) else sI ρ5 617 k) (n := 20) (by
        rintro i u ρ hi ⟨hk, h1⟩
        have e0 : ρ.2 = τ.2 := hk.1.trans k0.1
        have mρ := m0.e e0
        have e9 : sI ρ 611 9 = nI T := by rw [hk.2 _ _ (by omega), k0.2 _ _ (by omega)]; exact g7
        have e8 : sI ρ 618 (i / 4) = fw v0 v1 v2 v3 v4 (i / 4) := by rw [hk.2 _ _ (by omega)]; exact w8 _ (by omega)
        have q1 : nI i / 4 = nI (i / 4) := by
          refine Int32.toInt_inj.mp ?_
          rw [div4 (by rw [tnI (by omega)]; omega), tnI (by omega), tnI (by omega)]; omega
        have q2 : (24 : Int32) - 8 * irm (nI i) 4 = nI (24 - 8 * (i % 4)) := by
          rw [show irm (nI i) 4 = nI (i % 4) from pk_rem (d := 4) (by omega) (by decide) (by decide)]
          rcases (by omega : i % 4 = 0 ∨ i % 4 = 1 ∨ i % 4 = 2 ∨ i % 4 = 3) with e | e | e | e <;> rw [e] <;> decide
        have bb := byt_n (fw v0 v1 v2 v3 v4 (i / 4)) (i % 4)
        have by1 : i2b (i2b (shr (fw v0 v1 v2 v3 v4 (i / 4)) (nI (24 - 8 * (i % 4))))) = sb (fB v0 v1 v2 v3 v4 T B (T + i)) := by
          rw [(i2b_a _).2, (i2b_a _).1, sh8 _ (Nat.mod_lt _ (by decide))]
          unfold fB sb
          rw [if_pos (by omega), show T + i - T = i by omega, ← bb.1]
        refine ⟨wI ρ 617 (T + i) (sb (fB v0 v1 v2 v3 v4 T B (T + i))), ?_, hk.wr rfl, fun k => ?_⟩
        · show exec PP 1 182 60 _ _ ρ = exec PP 1 182 60 _ _ _
          rw [e_182_60, if_pos (nI_ltl (n := 20) hi (by decide)), gR_r mρ.1.1 mρ.1.2.2.2.2.2.2.1, gI_r mρ.1.1, e9, g15 ρ _ e0, q1, aI_r mρ.2.1.2.2.2.2.2.2.1 (by rw [mρ.2.2.2.2.2.2.2.2.1]; omega) (by rw [mρ.2.2.2.2.2.2.2.2.1]; decide), e8, q2, nI_add, uB_r mρ.2.1.2.2.2.2.2.1 (by rw [mρ.2.2.2.2.2.2.2.1]; omega) (by rw [mρ.2.2.2.2.2.2.2.1]; decide), by1, nI_1, if_neg (show ¬ i + 1 = 0 by omega), if_neg (show ¬ i + 1 = 0 by omega), if_neg (show ¬ i + 1 = 0 by omega), if_neg (show ¬ i + 1 = 0 by omega), if_neg (show ¬ i + 1 = 0 by omega)]
        · by_cases e : k = T + i
          · rw [e, sI_wIs, if_pos (by omega)]
          · rw [sI_wIn (by omega), h1 k]
            by_cases z : T ≤ k ∧ k < T + i
            · rw [if_pos z, if_pos (by omega)]
            · rw [if_neg z, if_neg (by omega)]) (by
        rintro u ρ ⟨hk, h1⟩
        show exec PP 1 182 60 _ _ ρ = _
        rw [e_182_60, if_neg (nI_nltl (n := 20) (by omega) (by decide))]
        rfl) 20 0 () ρ5 (by omega) ⟨Kp.rf _, fun k => by rw [if_neg (by omega)]⟩
      have e6 : ρ6.2 = τ.2 := d2.1.trans k0.1
      have m6 := m0.e e6
      have e9 : sI ρ6 611 9 = nI T := by rw [d2.2 _ _ (by omega), k0.2 _ _ (by omega)]; exact g7
      have kz : Kp (fun a k => a = 618 ∨ a = 617 ∨ (a = 611 ∧ k = 9)) (wI τ 611 0 0) (wI ρ6 611 9 (nI (T + 20))) := ((k0.mono fun a k z => Or.inl z).tr (d2.mono fun a k z => Or.inr (Or.inl z))).wr (Or.inr (Or.inr ⟨rfl, rfl⟩))
      refine ⟨wI ρ6 611 9 (nI (T + 20)), ?_, r0.tp kz (fun a j z => by unfold QR; omega) ⟨sI_wIs _ _ _ _, fun k hk => ?_⟩, (rp0 τ 0).tr (kz.mono fun a k z => by unfold RP; omega), ?_⟩
      · show rn 182 _ τ = _
        rw [r_182, pI_r r.t, gI_r r0.t, g7, e20, if_neg yy, e_182_20, g15 _ _ (by rfl), show (0 : Int32) = nI 0 from rfl, u8 _ _ _ _ (by rfl) (by omega), g15 _ _ (by rfl), show (1 : Int32) = nI 1 from rfl, u8 _ _ _ _ (by rfl) (by omega), g15 _ _ (by rfl), show (2 : Int32) = nI 2 from rfl, u8 _ _ _ _ (by rfl) (by omega), g15 _ _ (by rfl), show (3 : Int32) = nI 3 from rfl, u8 _ _ _ _ (by rfl) (by omega), g15 _ _ (by rfl), show (4 : Int32) = nI 4 from rfl, u8 _ _ _ _ (by rfl) (by omega)]
        refine d1.trans ?_
        rw [e_182_106, gI_r m6.1.1, e9, e20, pI_r m6.1.1, gI_r (show sT (wI ρ6 611 9 (nI (T + 20))) 611 = 112 from m6.1.1), sI_wIs]
      · rw [sI_wIn (by omega), d3 k]
        by_cases z : T ≤ k ∧ k < T + 20
        · rw [if_pos z]
        · rw [if_neg z, k0.2 _ _ (by omega)]
          unfold fB
          rw [if_neg z]; exact g7b k hk
      · rw [kz.2 _ _ (by omega), sI_wIs]
end B9
