/-! the next acre that tells most: c sets, w of them wet an acre -/
def agG (c : Nat) (w : Nat → Nat) (i : Nat) : Nat := if w i < c - w i then c - w i else w i
def asg (c : Nat) (w : Nat → Nat) : Nat → Nat × Nat → Nat × Nat := fun i s => if agG c w i < s.2 then (i, agG c w i) else s
def asN (c : Nat) (w : Nat → Nat) : Int32 := if c < 2 then -1 else nI (fo (asg c w) 0 16 (0, c)).1
theorem asg_lt {c : Nat} {w : Nat → Nat} : ∀ (k i : Nat) (s : Nat × Nat), s.1 < 16 → i + k ≤ 16 → (fo (asg c w) i k s).1 < 16
  | 0, _, _, h, _ => h
  | k + 1, i, s, h, hk => by
    rw [fo_one]
    refine asg_lt k (i + 1) _ ?_ (by omega)
    unfold asg
    split
    · show i < 16; omega
    · exact h
section QJ
variable {σ : SH} {W L : WW}
theorem m_42 (h : QQ σ W L) {x : Int32} : ∃ σ', rn 42 [.ref 290, .int x] σ = some (.inl none, σ') ∧ Kp K1 σ σ' ∧ ∀ q, q < 16 → sI σ' 291 q = if bt x q = true then sI σ 291 q + 1 else sI σ 291 q := by
  rw [r_42]
  obtain ⟨σ', h1, h2⟩ := lpS (F := fun i (_ : Unit) σ => exec PP 2 42 2 [some (.ref 290), some (.int x), some (.int (nI i))] [] σ) (g := fun _ u => u) (K := fun _ σ => some (.inl none, σ)) (I := fun i _ σ' => Kp K1 σ σ' ∧ ∀ q, q < 16 → sI σ' 291 q = if q < i ∧ bt x q = true then sI σ 291 q + 1 else sI σ 291 q) (n := 16) (by
    intro i u σ1 hi hI
    have h' := h.k1 hI.1
    cases c : bt x i
    · refine ⟨σ1, ?_, hI.1, fun q hq => ?_⟩
      · rw [e_42_2, if_pos (nI_ltl hi (by decide)), m_128 _ (by omega), onI_i, iB, c, if_pos rfl, e_42_26, nI_1]
      · rw [hI.2 q hq]
        by_cases e2 : q < i ∧ bt x q = true
        · rw [if_pos e2, if_pos ⟨by omega, e2.2⟩]
        · rw [if_neg e2, if_neg (fun z => by
            by_cases e : q = i
            · subst e; rw [c] at z; cases z.2
            · exact e2 ⟨by omega, z.2⟩)]
    · refine ⟨wI σ1 291 i (sI σ1 291 i + 1), ?_, hI.1.wr rfl, fun q hq => ?_⟩
      · rw [e_42_2, if_pos (nI_ltl hi (by decide)), m_128 _ (by omega), onI_i, iB, c, if_neg (by decide), fc1 h'.x, st_r h'.x hi, st_w h'.x hi, nI_1]
      · by_cases e : q = i
        · subst e
          rw [sI_wIs, hI.2 q hq, if_neg (by omega), if_pos ⟨by omega, c⟩]
        · rw [sI_wIn (by omega), hI.2 q hq]
          by_cases e2 : q < i ∧ bt x q = true
          · rw [if_pos e2, if_pos ⟨by omega, e2.2⟩]
          · rw [if_neg e2, if_neg (fun z => e2 ⟨by omega, z.2⟩)]) (by
    intro u σ1 hI
    rw [e_42_2, if_neg (nI_nltl (Nat.le_refl 16) (by decide)), e_42_32]) 16 0 () σ (by omega) ⟨Kp.rf _, fun q hq => by rw [if_neg (by omega)]⟩
  refine ⟨σ', h1, h2.1, fun q hq => ?_⟩
  rw [h2.2 q hq]
  by_cases c : bt x q = true
  · rw [if_pos ⟨hq, c⟩, if_pos c]
  · rw [if_neg (fun z => c z.2), if_neg c]
theorem m_43 (h : QQ σ W L) {c : Nat} {w : Nat → Nat} (hc : c ≤ 64) (hw : ∀ i, w i ≤ c) (hs : ∀ i, i < 16 → sI σ 291 i = nI (w i)) : rn 43 [.ref 290, .int (nI c)] σ = some (.inl (some (.int (nI (fo (asg c w) 0 16 (0, c)).1))), σ) := by
  rw [r_43]
  refine lpI (F := fun i (s : Nat × Nat) => exec PP 1 43 7 [some (.ref 290), some (.int (nI c)), some (.int (nI s.1)), some (.int (nI s.2)), some (.int (nI i)), none] [] σ) (g := asg c w) (K := fun s => some (.inl (some (.int (nI s.1))), σ)) (I := fun _ s => s.2 ≤ 64) (n := 16) ?_ ?_ 16 0 (0, c) (by omega) hc
  · intro i s hi hI
    try dsimp only
    have hwi := hw i
    have hG : agG c w i ≤ 64 := by unfold agG; split <;> omega
    refine ⟨?_, by unfold asg; split <;> (try dsimp only) <;> omega⟩
    have d1 : nI c - nI (w i) = nI (c - w i) := pk_sub hwi
    have a0 : ¬ agG c w i < s.2 → asg c w i s = s := fun z => if_neg z
    have a1 : agG c w i < s.2 → asg c w i s = (i, agG c w i) := fun z => if_pos z
    rw [e_43_7, if_pos (nI_ltl hi (by decide)), fc1 h.x, st_r h.x hi, hs i hi, fc1 h.x, st_r h.x hi, hs i hi, d1]
    by_cases q : c - w i < w i
    · have eG : agG c w i = w i := if_neg (by omega)
      rw [if_pos (nI_lt q (by omega)), fc1 h.x, st_r h.x hi, hs i hi, e_43_52]
      by_cases z : w i < s.2
      · rw [if_pos (nI_lt z (by omega)), a1 (by omega), eG, nI_1]
      · rw [if_neg (nI_nlt (by omega) (by omega)), a0 (by omega), e_43_66, nI_1]
    · have eG : agG c w i = c - w i := by unfold agG; split <;> omega
      rw [if_neg (nI_nlt (by omega) (by omega)), e_43_43, fc1 h.x, st_r h.x hi, hs i hi, d1]
      by_cases z : c - w i < s.2
      · rw [if_pos (nI_lt z (by omega)), a1 (by omega), eG, nI_1]
      · rw [if_neg (nI_nlt (by omega) (by omega)), a0 (by omega), e_43_66, nI_1]
  · intro s hI
    try dsimp only
    rw [e_43_7, if_neg (nI_nltl (Nat.le_refl 16) (by decide)), e_43_72]
def wtN (W : WW) (B : Nat → Nat) (T j a : Nat) : Nat := cnt (fun m => fitN W B T j m && wby W m a j) (2 ^ nS W)
theorem m_41 (h : QQ σ W L) {B : Nat → Nat} {T j : Nat} (hd : TD σ B T) (hj : j < 2147483648) : ∃ σ', rn 41 [.ref 290, .int (nI j)] σ = some (.inl (some (.int (asN (cnt (fitN W B T j) (2 ^ nS W)) (wtN W B T j)))), σ') ∧ Kp K1 σ σ' := by
  obtain ⟨p1, p2⟩ := P64 h
  obtain ⟨σ0, c1, c2, c3⟩ := m_29 h
  rw [r_41, if_pos (tFc h.x), c1, onV_i]
  obtain ⟨σ', h1, h2⟩ := lpS (F := fun m (s : Nat) σ => exec PP 4 41 8 [some (.ref 290), some (.int (nI j)), some (.int (nI s)), some (.int (nI m))] [] σ) (g := fun m s => if fitN W B T j m = true then s + 1 else s) (K := fun s σ => exec PP 4 41 49 [some (.ref 290), none, some (.int (nI s)), none] [] σ) (I := fun m _ σ' => Kp K1 σ σ' ∧ ∀ q, q < 16 → sI σ' 291 q = nI (cnt (fun m => fitN W B T j m && wby W m q j) m)) (n := 2 ^ nS W) (by
    intro m s σ1 hm hI
    have h' := h.k1 hI.1
    have hd' := hd.k1 hI.1
    have q64 := P64 h'
    have g0 : fitN W B T j m = false → (if fitN W B T j m = true then s + 1 else s) = s := fun z => if_neg (by rw [z]; decide)
    have g1 : fitN W B T j m = true → (if fitN W B T j m = true then s + 1 else s) = s + 1 := fun z => if_pos z
    cases c : fitN W B T j m
    · refine ⟨σ1, ?_, hI.1, fun q hq => ?_⟩
      · rw [e_41_8, fc0 h'.x, c4 h', p2, if_pos (nI_lt hm (by omega)), if_pos (tFc h'.x), m_38 h' hd' hj, onI_i, iB, c, if_pos rfl, e_41_43, nI_1, if_neg (by decide)]
      · rw [cnt_s, if_neg (by rw [c, Bool.false_and]; decide)]; exact hI.2 q hq
    · obtain ⟨σ2, g1, g2, g3⟩ := m_42 h' (x := aub W m j)
      refine ⟨σ2, ?_, hI.1.tr g2, fun q hq => ?_⟩
      · rw [e_41_8, fc0 h'.x, c4 h', p2, if_pos (nI_lt hm (by omega)), if_pos (tFc h'.x), m_38 h' hd' hj, onI_i, iB, c, if_neg (by decide), if_pos (tFc h'.x), m_39 h' hj, onI_i, if_pos (tFc h'.x), g1, onV_i, nI_1, nI_1, if_pos rfl]
      · rw [g3 q hq, hI.2 q hq, cnt_s, c, Bool.true_and, b_aub W m j (by omega), decide_eq_true hq, Bool.true_and]
        cases wby W m q j
        · rw [if_neg (by decide), if_neg (by decide)]
        · rw [if_pos rfl, if_pos rfl, nI_1]) (by
    intro s σ1 hI
    have h' := h.k1 hI.1
    rw [e_41_8, fc0 h'.x, c4 h', p2, if_neg (nI_nlt (Nat.le_refl _) (by omega)), e_41_49, e_41_49]) (2 ^ nS W) 0 0 σ0 (by omega) ⟨c2, fun q hq => c3 q hq⟩
  have h' := h.k1 h2.1
  refine ⟨σ', h1.trans ?_, h2.1⟩
  have hcl := cnt_le (fitN W B T j) (2 ^ nS W)
  show exec PP 4 41 49 [some (.ref 290), none, some (.int (nI (cnt (fitN W B T j) (2 ^ nS W)))), none] [] σ' = _
  rw [e_41_49]
  unfold asN
  by_cases z : cnt (fitN W B T j) (2 ^ nS W) < 2
  · rw [if_pos (nI_ltl z (by decide)), if_pos z, e_41_63]
  · rw [if_neg (nI_nltl (n := 2) (by omega) (by omega)), if_neg z, e_41_58, if_pos (tFc h'.x), m_43 h' (w := wtN W B T j) (by omega) (fun i => cnt_mono (fun q e => by rw [Bool.and_eq_true] at e; exact e.1) _) h2.2, onI_i]
/-! in the reference -/
def asr (c : Nat) (w : Nat → Nat) : Nat → Int32 × Nat → Int32 × Nat := fun i s => if c < 2 ∨ ¬ agG c w i < s.2 then s else (nI i, agG c w i)
theorem as_eq {c : Nat} {w : Nat → Nat} (hc : c ≤ 64) (hw : ∀ i, w i ≤ c) : (fo (asr c w) 0 16 (-1, 100000000)).1 = asN c w := by
  unfold asN
  by_cases z : c < 2
  · rw [if_pos z, fo_id (g := asr c w) 16 0 (-1, 100000000) (fun i s _ _ => if_pos (Or.inl z))]
  · rw [if_neg z]
    have G0 : agG c w 0 ≤ c := by
      have := hw 0
      unfold agG; split <;> omega
    have r0 : asr c w 0 (-1, 100000000) = (nI 0, agG c w 0) := if_neg (fun q => q.elim z (fun q => q (show agG c w 0 < 100000000 by omega)))
    have a0 : asg c w 0 (0, c) = (0, agG c w 0) := by
      unfold asg
      by_cases q : agG c w 0 < c
      · rw [if_pos q]
      · rw [if_neg q]
        have : agG c w 0 = c := by omega
        rw [this]
    have e1 : fo (asr c w) 0 (15 + 1) (-1, 100000000) = fo (asr c w) (0 + 1) 15 (asr c w 0 (-1, 100000000)) := fo_one _ _ _ _
    have e2 : fo (asg c w) 0 (15 + 1) (0, c) = fo (asg c w) (0 + 1) 15 (asg c w 0 (0, c)) := fo_one _ _ _ _
    rw [r0] at e1
    rw [a0] at e2
    have R := fo_rel (g := asr c w) (g' := asg c w) (R := fun s t => s = (nI t.1, t.2)) 15 (0 + 1) (nI 0, agG c w 0) (0, agG c w 0) rfl (fun i s t _ _ e => by
      subst e
      unfold asr asg
      by_cases q : agG c w i < t.2
      · rw [if_neg (fun y => y.elim z (fun y => y q)), if_pos q]
      · rw [if_pos (Or.inr q), if_neg q])
    have e3 : fo (asr c w) 0 16 (-1, 100000000) = (nI (fo (asg c w) 0 16 (0, c)).1, (fo (asg c w) 0 16 (0, c)).2) := by
      refine e1.trans (R.trans ?_)
      have : fo (asg c w) 0 16 (0, c) = fo (asg c w) (0 + 1) 15 (0, agG c w 0) := e2
      rw [this]
    rw [e3]
theorem m_306' (h : QQ σ W L) {B : Nat → Nat} {T j : Nat} (ht : TP σ T B) (hl : sI σ 611 11 = nI T) (hok : toldB B T = true) (hj : j < 2147483648) (o2 o3 o4 o5 o6 o7 : Option Value) : exec PP 5 306 33 [some (.ref 611), some (.int (nI j)), o2, o3, o4, o5, o6, o7] [] σ = some (.inl (some (.int (asN (cnt (fitN W B T j) (2 ^ nS W)) (wtN W B T j)))), σ) := by
  obtain ⟨p1, p2⟩ := P64 h
  have hcl := cnt_le (fitN W B T j) (2 ^ nS W)
  have hwl : ∀ i, wtN W B T j i ≤ cnt (fitN W B T j) (2 ^ nS W) := fun i => cnt_mono (fun q e => by rw [Bool.and_eq_true] at e; exact e.1) _
  rw [e_306_33, ← as_eq (by omega) hwl]
  generalize hC : cnt (fitN W B T j) (2 ^ nS W) = C at hcl hwl ⊢
  refine lpI (F := fun a (s : Int32 × Nat) => exec PP 5 306 42 [some (.ref 611), some (.int (nI j)), some (.int s.1), some (.int (nI s.2)), some (.int (nI a)), none, none, none] [] σ) (g := asr C (wtN W B T j)) (K := fun s => some (.inl (some (.int s.1)), σ)) (I := fun _ s => s.2 ≤ 100000000) (n := 16) ?_ ?_ 16 0 (-1, 100000000) (by omega) (Nat.le_refl _)
  · intro a s ha hI
    try dsimp only
    have hwa := hwl a
    have hG : agG C (wtN W B T j) a ≤ 64 := by unfold agG; split <;> omega
    refine ⟨?_, by unfold asr; split <;> (try dsimp only) <;> omega⟩
    rw [e_306_42, if_pos (nI_ltl ha (by decide))]
    have key := lp0 (F := fun m (x : Nat × Nat) => exec PP 5 306 58 [some (.ref 611), some (.int (nI j)), some (.int s.1), some (.int (nI s.2)), some (.int (nI a)), some (.int (nI x.1)), some (.int (nI x.2)), some (.int (nI m))] [] σ) (g := fun m x => (if fitN W B T j m = true then x.1 + 1 else x.1, if (fitN W B T j m && wby W m a j) = true then x.2 + 1 else x.2)) (K := fun x => exec PP 5 306 113 [some (.ref 611), some (.int (nI j)), some (.int s.1), some (.int (nI s.2)), some (.int (nI a)), some (.int (nI x.1)), some (.int (nI x.2)), none] [] σ) (n := 2 ^ nS W) (by
      intro m x hm
      try dsimp only
      rw [e_306_58, if_pos h.tM, q195 h, onI_i, p2, if_pos (nI_lt hm (by omega)), if_pos h.tM, m_304 h ht hl hok hj, onI_i, iB]
      cases fitN W B T j m
      · rw [if_pos rfl, e_306_107, if_neg (by decide), Bool.false_and, if_neg (by decide), nI_1]
      · rw [if_neg (by decide), e_306_82, if_pos h.tM, m_305 h ha hj, onI_i, iB, if_pos rfl, Bool.true_and]
        cases wby W m a j
        · rw [if_pos rfl, e_306_103, if_neg (by decide), nI_1, nI_1, Int32.add_zero]
        · rw [if_neg (by decide), e_306_104, if_pos rfl, nI_1, nI_1, nI_1]) (by
      intro x
      try dsimp only
      rw [e_306_58, if_pos h.tM, q195 h, onI_i, p2, if_neg (nI_nlt (Nat.le_refl _) (by omega)), e_306_113, e_306_113]) (2 ^ nS W) 0 (0, 0) (by omega)
    refine key.trans ?_
    have R1 := fo_rel (g := fun m (x : Nat × Nat) => (if fitN W B T j m = true then x.1 + 1 else x.1, if (fitN W B T j m && wby W m a j) = true then x.2 + 1 else x.2)) (g' := fun m s => if fitN W B T j m = true then s + 1 else s) (R := fun x s => x.1 = s) (2 ^ nS W) 0 (0, 0) 0 rfl (fun m x s _ _ e => by subst e; rfl)
    have R2 := fo_rel (g := fun m (x : Nat × Nat) => (if fitN W B T j m = true then x.1 + 1 else x.1, if (fitN W B T j m && wby W m a j) = true then x.2 + 1 else x.2)) (g' := fun m s => if (fitN W B T j m && wby W m a j) = true then s + 1 else s) (R := fun x s => x.2 = s) (2 ^ nS W) 0 (0, 0) 0 rfl (fun m x s _ _ e => by subst e; rfl)
    have R1' : (fo (fun m (x : Nat × Nat) => (if fitN W B T j m = true then x.1 + 1 else x.1, if (fitN W B T j m && wby W m a j) = true then x.2 + 1 else x.2)) 0 (2 ^ nS W) (0, 0)).1 = C := R1.trans hC
    have R2' : (fo (fun m (x : Nat × Nat) => (if fitN W B T j m = true then x.1 + 1 else x.1, if (fitN W B T j m && wby W m a j) = true then x.2 + 1 else x.2)) 0 (2 ^ nS W) (0, 0)).2 = wtN W B T j a := R2
    rw [R1', R2', e_306_113, pk_sub hwa, m_327, onI_i]
    have eG : (if (nI (wtN W B T j a) < nI (C - wtN W B T j a) : Prop) then nI (C - wtN W B T j a) else nI (wtN W B T j a)) = nI (agG C (wtN W B T j) a) := by
      unfold agG
      by_cases q : wtN W B T j a < C - wtN W B T j a
      · rw [if_pos (nI_lt q (by omega)), if_pos q]
      · rw [if_neg (nI_nlt (by omega) (by omega)), if_neg q]
    rw [eG]
    have r0 : (C < 2 ∨ ¬ agG C (wtN W B T j) a < s.2) → asr C (wtN W B T j) a s = s := fun z => if_pos z
    have r1 : ¬ (C < 2 ∨ ¬ agG C (wtN W B T j) a < s.2) → asr C (wtN W B T j) a s = (nI a, agG C (wtN W B T j) a) := fun z => if_neg z
    by_cases z : C < 2
    · rw [if_pos (nI_ltl z (by decide)), e_306_146, r0 (Or.inl z), nI_1]
    · rw [if_neg (nI_nltl (n := 2) (by omega) (by omega))]
      by_cases q : agG C (wtN W B T j) a < s.2
      · rw [if_pos (nI_lt q (by omega)), e_306_140, r1 (fun y => y.elim z (fun y => y q)), nI_1]
      · rw [if_neg (nI_nlt (by omega) (by omega)), e_306_146, r0 (Or.inr q), nI_1]
  · intro s hI
    try dsimp only
    rw [e_306_42, if_neg (nI_nltl (Nat.le_refl 16) (by decide)), e_306_152]
end QJ
