section QL
variable {σ : SH} {W L : WW}
theorem g23 (h : QQ σ W L) (k : Nat → SR) : gR σ 112 23 (.ref 611) k = k 622 := gR_r h.m.1.1 h.m.1.2.2.2.2.2.2.2.2.2.2.2
theorem a622 (h : QQ σ W L) {j : Nat} (hj : j < 192) (k : Int32 → SR) : aI σ 1 (.ref 622) (nI j) k = k (sI σ 622 j) := aI_r h.m.2.1.2.2.2.2.2.2.2.2.2.2 (by rw [h.m.2.2.2.2.2.2.2.2.2.2.2.2]; exact hj) (by rw [h.m.2.2.2.2.2.2.2.2.2.2.2.2]; decide)
theorem w622 (h : QQ σ W L) {j : Nat} (hj : j < 192) (x : Int32) (k : SH → SR) : uI σ (.ref 622) (nI j) x k = k (wI σ 622 j x) := uI_r h.m.2.1.2.2.2.2.2.2.2.2.2.2 (by rw [h.m.2.2.2.2.2.2.2.2.2.2.2.2]; exact hj) (by rw [h.m.2.2.2.2.2.2.2.2.2.2.2.2]; decide)
def K4 (a _k : Nat) : Prop := a = 622
theorem QQ.k4 (h : QQ σ W L) {σ' : SH} (k : Kp K4 σ σ') : QQ σ' W L := h.k (k.mono fun a k z => by unfold K4 at z; unfold Scr; omega)
/-- the reference's table, from row b0 on, of row b0 - 1 the first t0 -/
def LsT (σ : SH) (n : Nat) (f : Nat → Nat → Nat) (b0 : Nat) : Prop := ∀ b, b0 ≤ b → b ≤ n → ∀ t, t < 32 → sI σ 622 (32 * b + t) = nI (lsN n f (n - b) t)
theorem m_301 (h : QQ σ W L) {b t : Nat} (hb : b < 6) (ht : t < 32) : rn 301 [.ref 611, .int (nI b), .int (nI t)] σ = some (.inl (some (.int (sI σ 622 (32 * b + t)))), σ) := by
  rw [r_301, g23 h, ix_32 b hb t ht, a622 h (by omega)]
theorem m_300 (h : QQ σ W L) {T : Nat} {B : Nat → Nat} (ht : TP σ T B) (hp : placeB W B T = true) {b t k : Nat} (hb : b < nB W) (ht2 : t < 32) (hk : k < nB W) (hL : LsT σ (nB W) (wkN W B) (b + 1)) : rn 300 [.ref 611, .int (nI b), .int (nI t), .int (nI k)] σ = some (.inl (some (.int (nI (lv (nB W) (wkN W B) (nB W - (b + 1)) t k)))), σ) := by
  have h5 := (WF_nB h.w).2
  obtain ⟨p1, p2⟩ := placeB_iff.mp hp
  obtain ⟨-, -, b3⟩ := ht.2 k (by omega)
  have b16 := p2 k hk
  rw [r_300, g8 h, a617 h (by omega), b3, sb_nI (by omega), if_pos h.tM, m_296 h hb b16, onI_i, if_pos h.tM, nI_1, or_nI k (by omega) t ht2, m_301 h (by omega) (or_lt5 k (by omega) t ht2), onI_i, hL (b + 1) (Nat.le_refl _) (by omega) _ (or_lt5 k (by omega) t ht2), nI_add]
  unfold lv wkN
  rw [show nB W - (nB W - (b + 1) + 1) = b by omega]
theorem m_299 (h : QQ σ W L) {T : Nat} {B : Nat → Nat} (ht : TP σ T B) (hp : placeB W B T = true) : ∃ σ', rn 299 [.ref 611] σ = some (.inl none, σ') ∧ Kp K4 σ σ' ∧ LsT σ' (nB W) (wkN W B) 0 := by
  have h5 := (WF_nB h.w).2
  obtain ⟨p1, p2⟩ := placeB_iff.mp hp
  rw [r_299]
  obtain ⟨σ0, e1, e2, e3⟩ := lpS (F := fun t (_ : Unit) σ => exec PP 5 299 2 [some (.ref 611), some (.int (nI t)), none, none, none] [] σ) (g := fun _ u => u) (K := fun _ σ => exec PP 5 299 28 [some (.ref 611), none, none, none, none] [] σ) (I := fun t _ σ' => Kp K4 σ σ' ∧ ∀ q, q < t → sI σ' 622 (32 * nB W + q) = 0) (n := 32) (by
    intro t u σ1 hlt hI
    have h1 := h.k4 hI.1
    refine ⟨wI σ1 622 (32 * nB W + t) 0, ?_, hI.1.wr rfl, fun q hq => ?_⟩
    · rw [e_299_2, if_pos (nI_ltl hlt (by decide)), g23 h1, if_pos h1.tM, q201 h1, onI_i, ix_32 _ (by omega) _ hlt, w622 h1 (by omega), nI_1]
    · by_cases e : q = t
      · subst e; exact sI_wIs _ _ _ _
      · rw [sI_wIn (by omega)]; exact hI.2 q (by omega)) (by
    intro u σ1 hI
    rw [e_299_2, if_neg (nI_nltl (Nat.le_refl 32) (by decide)), e_299_28, e_299_28]) 32 0 () σ (by omega) ⟨Kp.rf _, fun q hq => by omega⟩
  have h0 := h.k4 e2
  have key : ∀ (b : Nat) (σ1 : SH), b ≤ nB W → Kp K4 σ σ1 → LsT σ1 (nB W) (wkN W B) b → ∃ σ', exec PP 5 299 35 [some (.ref 611), some (.int (nI b - 1)), none, none, none] [] σ1 = some (.inl none, σ') ∧ Kp K4 σ σ' ∧ LsT σ' (nB W) (wkN W B) 0 := by
    intro b
    induction b with
    | zero =>
      intro σ1 _ hk hL
      refine ⟨σ1, ?_, hk, hL⟩
      rw [e_299_35, if_pos (by decide), e_299_114]
    | succ b ih =>
      intro σ1 hb hk hL
      obtain ⟨σ2, f1, f2, f3, f4⟩ := lpS (F := fun t (o : Option Value) σ => exec PP 5 299 41 [some (.ref 611), some (.int (nI b)), some (.int (nI t)), o, none] [] σ) (g := fun t _ => some (.int (nI (lsN (nB W) (wkN W B) (nB W - b) t)))) (K := fun _ σ => exec PP 5 299 108 [some (.ref 611), some (.int (nI b)), none, none, none] [] σ) (I := fun t _ σ' => Kp K4 σ σ' ∧ LsT σ' (nB W) (wkN W B) (b + 1) ∧ ∀ q, q < t → sI σ' 622 (32 * b + q) = nI (lsN (nB W) (wkN W B) (nB W - b) q)) (n := 32) (by
        rintro t o σ3 hlt ⟨g1, g2, g3⟩
        have h3 := h.k4 g1
        have ht3 := ht.kp g1 (by unfold K4; omega) (by unfold K4; omega)
        have inner := lpI (F := fun k x => exec PP 5 299 54 [some (.ref 611), some (.int (nI b)), some (.int (nI t)), some (.int (nI x)), some (.int (nI k))] [] σ3) (g := lmg t (lv (nB W) (wkN W B) (nB W - (b + 1)) t)) (K := fun x => exec PP 5 299 91 [some (.ref 611), some (.int (nI b)), some (.int (nI t)), some (.int (nI x)), none] [] σ3) (I := fun _ x => x ≤ 100000000) (n := nB W) (by
          intro k x hk2 hx
          refine ⟨?_, by
            unfold lmg
            split
            · exact hx
            · split <;> omega⟩
          try dsimp only
          rw [e_299_54, if_pos h3.tM, q201 h3, onI_i, if_pos (nI_lt hk2 (by omega)), m_292 _ (by omega), onI_i, iB, bt_nI _ (by omega)]
          cases c : t.testBit k
          · have l0 : ¬ lv (nB W) (wkN W B) (nB W - (b + 1)) t k < x → lmg t (lv (nB W) (wkN W B) (nB W - (b + 1)) t) k x = x := fun z => (if_neg (by rw [c]; decide)).trans (if_neg z)
            have l1 : lv (nB W) (wkN W B) (nB W - (b + 1)) t k < x → lmg t (lv (nB W) (wkN W B) (nB W - (b + 1)) t) k x = lv (nB W) (wkN W B) (nB W - (b + 1)) t k := fun z => (if_neg (by rw [c]; decide)).trans (if_pos z)
            have lb : lv (nB W) (wkN W B) (nB W - (b + 1)) t k ≤ 100000015 := by
              have q1 := wk_le h.w p2 (nB W - (nB W - (b + 1) + 1)) k (by omega) hk2
              have q2 := lsN_le (n := nB W) (f := wkN W B) (nB W - (b + 1)) (t ||| 2 ^ k)
              unfold lv
              omega
            rw [if_pos rfl, if_pos h3.tM, m_300 h3 ht3 hp (by omega) hlt hk2 g2, onI_i, m_328, onI_i]
            by_cases q : lv (nB W) (wkN W B) (nB W - (b + 1)) t k < x
            · rw [if_pos (nI_lt q (by omega)), l1 q, nI_1]
            · rw [if_neg (nI_nlt (by omega) (by omega)), l0 q, nI_1]
          · rw [if_neg (by decide), e_299_85, nI_1, show lmg t (lv (nB W) (wkN W B) (nB W - (b + 1)) t) k x = x from if_pos c]) (by
          intro x hx
          try dsimp only
          rw [e_299_54, if_pos h3.tM, q201 h3, onI_i, if_neg (nI_nlt (Nat.le_refl _) (by omega)), e_299_91, e_299_91]) (nB W) 0 100000000 (by omega) (Nat.le_refl _)
        have v2 : fo (lmg t (lv (nB W) (wkN W B) (nB W - (b + 1)) t)) 0 (nB W) 100000000 = lsN (nB W) (wkN W B) (nB W - b) t := by
          rw [← lsN_s, show nB W - (b + 1) + 1 = nB W - b by omega]
        rw [v2] at inner
        refine ⟨wI σ3 622 (32 * b + t) (nI (lsN (nB W) (wkN W B) (nB W - b) t)), ?_, g1.wr rfl, fun b' q1 q2 t' q3 => ?_, fun q hq => ?_⟩
        · rw [e_299_41, if_pos (nI_ltl hlt (by decide))]
          refine inner.trans ?_
          rw [e_299_91, g23 h3, ix_32 b (by omega) t hlt, w622 h3 (by omega), nI_1]
        · rw [sI_wIn (by omega)]; exact g2 b' q1 q2 t' q3
        · by_cases e : q = t
          · subst e; exact sI_wIs _ _ _ _
          · rw [sI_wIn (by omega)]; exact g3 q (by omega)) (by
        intro o σ3 hI
        rw [e_299_41, if_neg (nI_nltl (Nat.le_refl 32) (by decide)), e_299_108, e_299_108]) 32 0 none σ1 (by omega) ⟨hk, hL, fun q hq => by omega⟩
      obtain ⟨σ', k1, k2, k3⟩ := ih σ2 (by omega) f2 (fun b' q1 q2 t' q3 => by
        by_cases e : b' = b
        · subst e; exact f4 t' q3
        · exact f3 b' (by omega) q2 t' q3)
      refine ⟨σ', ?_, k2, k3⟩
      have hm : nI (b + 1) - 1 = nI b := nI_pred b
      have hm2 : nI b + -1 = nI b - 1 := by rw [Int32.sub_eq_add_neg]
      rw [e_299_35, hm, if_neg (nI_pos (by omega))]
      refine f1.trans ?_
      rw [e_299_108, hm2]
      exact k1
  obtain ⟨σ', k1, k2, k3⟩ := key (nB W) σ0 (Nat.le_refl _) e2 (fun b q1 q2 t q3 => by
    have : b = nB W := by omega
    subst this
    rw [e3 t q3, Nat.sub_self]; rfl)
  refine ⟨σ', e1.trans ?_, k2, k3⟩
  rw [e_299_28, if_pos h0.tM, q201 h0, onI_i]
  exact k1
/-- from the table on -/
theorem m_298' (h : QQ σ W L) {T : Nat} {B : Nat → Nat} (ht : TP σ T B) (hp : placeB W B T = true) {x : Int32} (hx : x = -1 ∨ ∃ b, b < nB W ∧ x = nI b) (o2 o3 o4 o5 : Option Value) : ∃ σ', exec PP 6 298 106 [some (.ref 611), some (.int x), o2, o3, o4, o5] [] σ = some (.inl (some (.int (if x = -1 then nI (lsN (nB W) (wkN W B) (nB W) 0) else nI (plN (nB W) (wkN W B) x.toInt.toNat)))), σ') ∧ Kp K4 σ σ' := by
  have h5 := (WF_nB h.w).2
  obtain ⟨p1, p2⟩ := placeB_iff.mp hp
  have wk := wk_le h.w p2
  have P32 : 2 ^ nB W ≤ 32 := Nat.pow_le_pow_right (n := 2) (by omega) h5
  obtain ⟨σ', e1, e2, e3⟩ := m_299 h ht hp
  have h1 := h.k4 e2
  have ht1 := ht.kp e2 (by unfold K4; omega) (by unfold K4; omega)
  refine ⟨σ', ?_, e2⟩
  rw [e_298_106, if_pos h.tM, e1, onV_i]
  rcases hx with hx | ⟨b, hb, hx⟩
  · rw [if_pos hx, if_pos hx, if_pos h1.tM, show (0 : Int32) = nI 0 from rfl, m_301 h1 (by omega) (by omega), onI_i, e3 0 (by omega) (by omega) 0 (by omega), Nat.sub_zero]
  · have hne : ¬ x = -1 := by rw [hx]; exact nI_neg (by omega)
    have hxb : x.toInt.toNat = b := by rw [hx, tnI (by omega)]; rfl
    rw [if_neg hne, if_neg hne, e_298_122, hxb, hx]
    refine lpI (F := fun w (s : Nat × Nat) => exec PP 6 298 130 [some (.ref 611), some (.int (nI b)), none, some (.int (nI s.1)), some (.int (nI s.2)), some (.int (nI w))] [] σ') (g := plg (nB W) (wkN W B)) (K := fun s => some (.inl (some (.int (nI s.2))), σ')) (I := fun w s => s.1 < 2 ^ nB W ∧ pc s.1 = w) (n := b + 1) ?_ ?_ (b + 1) 0 (0, 0) (by omega) ⟨Nat.one_le_two_pow, pc_0⟩
    · rintro w s hw ⟨i1, i2⟩
      try dsimp only
      obtain ⟨k, q1, q2, q3⟩ := pl_ex h5 wk (r := nB W - (w + 1)) i1 (by omega)
      have eg : plg (nB W) (wkN W B) w s = (s.1 ||| 2 ^ k, k) := by unfold plg; rw [q1]
      rw [eg]
      have h32 : s.1 < 32 := by omega
      refine ⟨?_, or_lt _ h5 k q2 _ i1, ?_⟩
      · obtain ⟨k1, -, -, k4⟩ := fi_some _ _ _ q1
        have L1 : LsT σ' (nB W) (wkN W B) (w + 1) := fun b' z1 z2 => e3 b' (by omega) z2
        have one : ∀ i, i < nB W → exec PP 6 298 139 [some (.ref 611), some (.int (nI b)), none, some (.int (nI s.1)), some (.int (nI i)), some (.int (nI w))] [] σ' = if plp (nB W) (wkN W B) (nB W - (w + 1)) s.1 i = true then exec PP 6 298 173 [some (.ref 611), some (.int (nI b)), none, some (.int (nI s.1)), some (.int (nI i)), some (.int (nI w))] [] σ' else exec PP 6 298 139 [some (.ref 611), some (.int (nI b)), none, some (.int (nI s.1)), some (.int (nI (i + 1))), some (.int (nI w))] [] σ' := fun i hi => by
          rw [e_298_139, m_292 _ (by omega), onI_i, iB, bt_nI _ (by omega)]
          unfold plp
          cases c : s.1.testBit i
          · have hl := lv_bd h5 wk (r := nB W - (w + 1)) i1 (by omega) hi c
            have hb2 := lsN_bd h5 wk (nB W - w) s.1 i1 (by omega)
            rw [if_pos rfl, if_pos h1.tM, m_300 h1 ht1 hp (by omega) h32 hi L1, onI_i, if_pos h1.tM, m_301 h1 (by omega) h32, onI_i, e3 w (by omega) (by omega) _ h32, show nB W - (w + 1) + 1 = nB W - w by omega]
            by_cases q : lv (nB W) (wkN W B) (nB W - (w + 1)) s.1 i = lsN (nB W) (wkN W B) (nB W - w) s.1
            · rw [if_pos (by rw [q]), if_pos (by simp [q])]
            · rw [if_neg (fun z => q ((nI_eq (by omega) (by omega)).mp z)), nI_1, if_neg (by simp [q])]
          · rw [if_neg (by decide), e_298_167, nI_1, if_neg (by simp)]
        have go : ∀ d i, i + d = k → exec PP 6 298 139 [some (.ref 611), some (.int (nI b)), none, some (.int (nI s.1)), some (.int (nI i)), some (.int (nI w))] [] σ' = exec PP 6 298 173 [some (.ref 611), some (.int (nI b)), none, some (.int (nI s.1)), some (.int (nI k)), some (.int (nI w))] [] σ' := by
          intro d
          induction d with
          | zero =>
            intro i hi
            have : i = k := by omega
            subst this
            rw [one i q2, if_pos k1]
          | succ d ih =>
            intro i hi
            rw [one i (by omega), if_neg (by rw [k4 i (by omega) (by omega)]; decide)]
            exact ih (i + 1) (by omega)
        have g0 := go k 0 (by omega)
        rw [e_298_130, if_neg (nI_nlt (by omega) (by omega))]
        refine g0.trans ?_
        rw [e_298_173, or_nI k (by omega) _ h32, nI_1]
      · show pc (s.1 ||| 2 ^ k) = w + 1
        rw [(pc_or k (by omega) _ h32 q3).1, i2]
    · rintro s ⟨i1, i2⟩
      try dsimp only
      rw [e_298_130, if_pos (nI_lt (by omega) (by omega)), e_298_186]
end QL
