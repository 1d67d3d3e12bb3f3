/-! the class reads conditions: row 210 of steps, 206.5 how many -/
def RW (σ : SH) (R : Nat → Int32) (st : Nat) : SH := (fun a j => if a = 210 then R j else if a = 206 ∧ j = 5 then nI st else σ.1 a j, σ.2)
def Rel (R : Nat → Int32) (W : WW) (st : Nat) : Prop := ∀ j, j < st → R j = cdI (dr W) j
def Sty (σ ρ : SH) : Prop := ρ.2 = σ.2 ∧ ∀ a j, a < 200 → sI ρ a j = sI σ a j
def RX0 (e : Nat) (σ : SH) : SR := some (.inr e, σ)
section G1
variable {σ : SH} {R : Nat → Int32} {W W' : WW} {st k v : Nat} {t : TXT}
theorem RW_kp (σ : SH) (R : Nat → Int32) (st : Nat) : Kp (fun a j => a = 210 ∨ (a = 206 ∧ j = 5)) σ (RW σ R st) := ⟨rfl, fun a j h => by
  show (if a = 210 then R j else if a = 206 ∧ j = 5 then nI st else σ.1 a j) = σ.1 a j
  rw [if_neg (fun z => h (Or.inl z)), if_neg (fun z => h (Or.inr z))]⟩
theorem RW_w (j : Nat) (x : Int32) : wI (RW σ R st) 210 j x = RW σ (uW R j x) st := by
  refine Prod.ext ?_ rfl
  funext a i
  show (if a = 210 ∧ i = j then x else if a = 210 then R i else if a = 206 ∧ i = 5 then nI st else σ.1 a i) = if a = 210 then (if i = j then x else R i) else if a = 206 ∧ i = 5 then nI st else σ.1 a i
  by_cases h1 : a = 210
  · by_cases h2 : i = j <;> simp [h1, h2]
  · simp [h1]
theorem RW_s (s' : Nat) : wI (RW σ R st) 206 5 (nI s') = RW σ R s' := by
  refine Prod.ext ?_ rfl
  funext a i
  show (if a = 206 ∧ i = 5 then nI s' else if a = 210 then R i else if a = 206 ∧ i = 5 then nI st else σ.1 a i) = if a = 210 then R i else if a = 206 ∧ i = 5 then nI s' else σ.1 a i
  by_cases h1 : a = 206
  · by_cases h2 : i = 5 <;> simp [h1, h2]
  · simp [h1]
theorem RW_5 : sI (RW σ R st) 206 5 = nI st := rfl
theorem RW_210 (j : Nat) : sI (RW σ R st) 210 j = R j := rfl
theorem TkC.rw' (h : TkC σ t) : TkC (RW σ R st) t := h.kp (RW_kp σ R st) (fun a j z => by omega)
theorem sty_rw : Sty σ (TS (RW σ R st) k v) := ⟨rfl, fun a j ha => by rw [TS_i (by omega)]; exact (RW_kp σ R st).2 a j (by omega)⟩
theorem m_91 (hX : ShX σ) (hs : st < 400) (x : Int32) : rn 91 [.ref 206, .int x] (TS (RW σ R st) k v) = some (.inl none, TS (RW σ (uW R st x) (st + 1)) k v) := by
  have t7 : ∀ (R : Nat → Int32) (st : Nat), sT (TS (RW σ R st) k v) 206 = 107 := fun _ _ => hX.2.2.1.1
  have v4 : ∀ (R : Nat → Int32) (st : Nat), sV (TS (RW σ R st) k v) 206 4 = .ref 210 := fun _ _ => hX.2.2.1.2.2.2.2.2.1
  have t210 : sT (TS (RW σ R st) k v) 210 = 1 := hX.2.2.1.2.2.2.2.2.2.2.2.2.2.2.2.1
  have n210 : sN (TS (RW σ R st) k v) 210 = 400 := hX.2.2.1.2.2.2.2.2.2.2.2.2.2.2.2.2
  rw [r_91, gI_r (t7 _ _), TS_i (by omega), RW_5, gR_r (t7 _ _) (v4 _ _), aN_r (n := 400) (by rw [t210]; decide) n210, if_pos (nI_lt hs (by decide)), gR_r (t7 _ _) (v4 _ _), gI_r (t7 _ _), TS_i (by omega), RW_5, uI_r t210 (by rw [n210]; exact hs) (by rw [n210]; decide), TS_w (by omega), RW_w, gI_r (t7 _ _), TS_i (by omega), RW_5, nI_1, pI_r (t7 _ _), TS_w (by omega), RW_s]
theorem Rel.em (h : Rel R W st) {c n : Nat} {x : Int32} (hc : c ≤ 14) (hx : x = if c = 8 then nI n else nI (cdN c)) : Rel (uW R st x) (em W st c n) (st + 1) := by
  intro j hj
  unfold cdI
  by_cases e : j = st
  · subst e
    rw [uW_s, em_sc hc, dr_n, em_n]; exact hx
  · rw [uW_n e, scD, em_o (by omega), ← scD, dr_n, em_o (by omega), ← dr_n W j]
    exact h j (by omega)
theorem Rel.cg (h : Rel R W st) (hw : ∀ j, 1261 ≤ j → j < 1261 + 2 * st → W' j = W j) : Rel R W' st := by
  intro j hj
  unfold cdI
  rw [scD, hw _ (by omega) (by omega), ← scD, dr_n, hw _ (by omega) (by omega), ← dr_n W j]
  exact h j hj
end G1
def ClA (σ : SH) (t : TXT) (A : Nat → WW → Nat → LPr) (E : SH → SR) : Prop := ∀ R W st k v, k ≤ tkN t → st + 2 ≤ k → Rel R W st → ∃ R' v' st', E (TS (RW σ R st) k v) = some (.inl (some (.int (bI (A k W st).2.isSome))), TS (RW σ R' st') (A k W st).1 v') ∧ ∀ W' s', (A k W st).2 = some (W', s') → st' = s' ∧ Rel R' W' s'
def ClB (σ : SH) (t : TXT) (A : Nat → WW → Nat → LPr) (E M : SH → SR) : Prop := ∀ R W st k v, k ≤ tkN t → st + 2 ≤ k → Rel R W st → ∃ R' v' st', ((A k W st).2 = none → E (TS (RW σ R st) k v) = some (.inl (some (.int 0)), TS (RW σ R' st') (A k W st).1 v')) ∧ ∀ W' s', (A k W st).2 = some (W', s') → E (TS (RW σ R st) k v) = M (TS (RW σ R' s') (A k W st).1 v') ∧ Rel R' W' s'
section G1b
variable {σ : SH} {t : TXT} {A : Nat → WW → Nat → LPr} {ty : Bool}
theorem ClA.b {E Lp M : SH → SR} (h : ClA σ t A E) (hL : ∀ ρ, Sty σ ρ → Lp ρ = onI (E ρ) (fun x ρ' => if (x = 0 : Prop) then some (.inl (some (.int 0)), ρ') else M ρ') RX0) : ClB σ t A Lp M := by
  intro R W st k v hk hs hr
  obtain ⟨R', v', st', e, c⟩ := h R W st k v hk hs hr
  refine ⟨R', v', st', fun hn => ?_, fun W' s' hv => ?_⟩
  · rw [hL _ sty_rw, e, hn, onI_i]; exact if_pos n00
  · obtain ⟨rfl, c2⟩ := c W' s' hv
    refine ⟨?_, c2⟩
    rw [hL _ sty_rw, e, hv, onI_i]; exact if_neg n10
theorem ClA_rp (hX : ShX σ) (hT : TkC σ t) (gA : Gd t ty A) {sg cd : Nat} (hsg : sg < 37) (hcd : cd ≤ 14 ∧ cd ≠ 8) {Lp M P : Nat → SH → SR} (hL : ∀ i, i < 400 → ClB σ t A (Lp i) (M i)) (hM0 : ∀ ρ, Sty σ ρ → M 0 ρ = P 0 ρ)
    (hM : ∀ i ρ, 0 < i → i < 400 → Sty σ ρ → M i ρ = onV (rn 91 [.ref 206, .int (nI (cdN cd))] ρ) (fun ρ' => P i ρ') RX0)
    (hP : ∀ i ρ, Sty σ ρ → P i ρ = onI (rn 103 [.ref 201, .ref sg] ρ) (fun x ρ' => if (x = 0 : Prop) then some (.inl (some (.int 1)), ρ') else Lp (i + 1) ρ') RX0) : ClA σ t (rpP t sg cd A) (Lp 0) := by
  have n4 := hT.2.1.n
  have loop : ∀ f i R W st k v, tkN t < k + f → i + 2 ≤ k → k ≤ tkN t → st + 2 ≤ k → Rel R W st → ∃ R' v' st', P i (TS (RW σ R st) k v) = some (.inl (some (.int (bI (lpP t sg cd A f k W st).2.isSome))), TS (RW σ R' st') (lpP t sg cd A f k W st).1 v') ∧ ∀ W' s', (lpP t sg cd A f k W st).2 = some (W', s') → st' = s' ∧ Rel R' W' s' := by
    intro f
    induction f with
    | zero => intro i R W st k v h1 h2 h3 h4 h5; omega
    | succ f ih =>
      intro i R W st k v h1 h2 h3 h4 h5
      rw [hP i _ sty_rw]
      unfold lpP
      by_cases e : tkG t k = sg
      · have hk1 := hT.2.1.lt e (by omega)
        rw [if_pos e, m_103y hT.rw' e (by omega), onI_i, if_neg n10]
        obtain ⟨R1, v1, s1, c0, c1⟩ := hL (i + 1) (by omega) R W st (k + 1) v hk1 (by omega) h5
        obtain ⟨g1, g2⟩ := gA (k + 1) W st hk1 (by omega)
        cases hr : A (k + 1) W st with
        | mk k' o =>
          rw [hr] at c0 c1 g1 g2
          cases o with
          | none => exact ⟨R1, v1, s1, c0 rfl, fun W' s' z => by cases z⟩
          | some q =>
            obtain ⟨W1, s2⟩ := q
            obtain ⟨e1, rel⟩ := c1 W1 s2 rfl
            obtain ⟨⟨b1, b2⟩, -⟩ := g2 W1 s2 rfl
            try dsimp only at e1 g1 b1 b2 ⊢
            rw [e1, hM (i + 1) _ (by omega) (by omega) sty_rw, m_91 hX (by omega), onV_i]
            exact ih (i + 1) _ _ (s2 + 1) k' v1 (by omega) (by omega) g1 (by omega) (rel.em (n := 0) hcd.1 (by rw [if_neg hcd.2]))
      · rw [if_neg e, m_103n hT.rw' e (by omega) h3, onI_i, if_pos n00]
        exact ⟨R, v, st, rfl, fun W' s' z => by cases z; exact ⟨rfl, h5⟩⟩
  intro R W st k v hk hs hr
  obtain ⟨R1, v1, s1, c0, c1⟩ := hL 0 (by omega) R W st k v hk hs hr
  obtain ⟨g1, g2⟩ := gA k W st hk hs
  unfold rpP
  cases hA : A k W st with
  | mk k' o =>
    rw [hA] at c0 c1 g1 g2
    cases o with
    | none => exact ⟨R1, v1, s1, c0 rfl, fun W' s' z => by cases z⟩
    | some q =>
      obtain ⟨W1, s2⟩ := q
      obtain ⟨e1, rel⟩ := c1 W1 s2 rfl
      obtain ⟨⟨b1, b2⟩, -⟩ := g2 W1 s2 rfl
      try dsimp only at e1 g1 b1 b2 ⊢
      rw [e1, hM0 _ sty_rw]
      exact loop 401 0 R1 W1 s2 k' v1 (by omega) (by omega) g1 (by omega) rel
/-- parts of sums -/
theorem Sty.x {ρ : SH} (hX : ShX σ) (h : Sty σ ρ) : (∀ c : Nat → SR, gR ρ 107 0 (.ref 206) c = c 201) ∧ sT ρ 201 = 110 ∧ sT ρ 206 = 107 := ⟨fun c => g107 hX h.1 c, t110 hX h.1, t107 hX h.1⟩
theorem Sty.cd {ρ : SH} (hS : StA σ) (h : Sty σ ρ) {i : Nat} (hi : i < 38) (c : Int32 → SR) : gI ρ 109 1 (.ref i) c = c (nthD sgC i 0) := by
  rw [gI_r (show sT ρ i = 109 by unfold sT; rw [h.1]; exact (hS.2.1 i hi).1.1), h.2 i 1 (by omega), (hS.2.1 i hi).1.2.1]
theorem sgC_f : ∀ i, i < 38 → (nthD sgC i 0 < 1000 ↔ i < 18 ∨ 32 ≤ i) ∧ (nthD sgC i 0 < 1006 ↔ i < 24 ∨ 32 ≤ i) ∧ (18 ≤ i → i ≤ 23 → nthD sgC i 0 = nI (cdN (i - 18))) := by decide +kernel
theorem ClB_pt (hX : ShX σ) (hT : TkC σ t) (hS : StA σ) (i : Nat) (hi : i < 400) : ClB σ t (ptP t) (fun ρ => exec PP 2 92 2 [some (.ref 206), some (.int (nI i)), none] [] ρ) (fun ρ => exec PP 2 92 92 [some (.ref 206), some (.int (nI i)), none] [] ρ) := by
  intro R W st k v hk hs hr
  have n4 := hT.2.1.n
  have sx : ∀ (R : Nat → Int32) (st k v : Nat), Sty σ (TS (RW σ R st) k v) := fun _ _ _ _ => sty_rw
  have l := tkG_l38 (t := t) k
  have o2 : ∀ (o : Option Value) (ρ : SH), exec PP 2 92 92 [some (.ref 206), some (.int (nI i)), o] [] ρ = exec PP 2 92 92 [some (.ref 206), some (.int (nI i)), none] [] ρ := fun o ρ => by rw [e_92_92, e_92_92]
  have base : exec PP 2 92 2 [some (.ref 206), some (.int (nI i)), none] [] (TS (RW σ R st) k v) = (onI (rn 104 [.ref 201, .int 0, .int 999] (TS (RW σ R st) k v)) (fun x28 σ26 => if (x28 = 0 : Prop) then (exec PP 2 92 45 [some (.ref 206), some (.int (nI i)), some (.ref (tkG t k))] [] σ26) else (gR σ26 107 0 (.ref 206) fun a29 => gI σ26 110 7 (.ref a29) fun x30 => if sT σ26 206 = 107 then (onV (rn 91 [.ref 206, .int x30] σ26) (fun σ31 => exec PP 2 92 92 [some (.ref 206), some (.int (nI i)), some (.ref (tkG t k))] [] σ31) RX0) else none)) RX0) := by
    rw [e_92_2, if_pos (nI_ltl (n := 400) hi (by decide)), (Sty.x hX (sx R st k v)).1, if_pos (Sty.x hX (sx R st k v)).2.1, m_102 hT.rw' hk, onR_i, (Sty.x hX (sx R st k v)).1, if_pos (Sty.x hX (sx R st k v)).2.1]
    rfl
  unfold ptP
  by_cases e : tkG t k = 35
  · have hv := (hT.2.1.num e).2.2.2
    rw [if_pos e]
    refine ⟨uW R st (nI (tkV t k)), tkV t k, 0, fun z => (by cases z), fun W' s' z => ?_⟩
    cases z
    refine ⟨?_, hr.em (n := tkV t k) (by omega) (by rw [if_pos rfl])⟩
    try dsimp only
    rw [base, m_104yl (lo := 0) (hi := 999) hT.rw' e (by omega) hv (by omega), onI_i, if_neg n10, (Sty.x hX (sx R st (k + 1) (tkV t k))).1, gI_r (Sty.x hX (sx R st (k + 1) (tkV t k))).2.1, TS_v, if_pos (Sty.x hX (sx R st (k + 1) (tkV t k))).2.2, m_91 hX (by omega), onV_i, o2]
  rw [if_neg e]
  have b2 : exec PP 2 92 2 [some (.ref 206), some (.int (nI i)), none] [] (TS (RW σ R st) k v) = exec PP 2 92 45 [some (.ref 206), some (.int (nI i)), some (.ref (tkG t k))] [] (TS (RW σ R st) k v) := by
    rw [base, m_104nl (lo := 0) (hi := 999) hT.rw' hk (by omega) (fun z => e z.1), onI_i, if_pos n00]
  obtain ⟨c1, c2, c3⟩ := sgC_f (tkG t k) l
  by_cases e2 : 18 ≤ tkG t k ∧ tkG t k ≤ 23
  · rw [if_pos e2]
    refine ⟨uW R st (nthD sgC (tkG t k) 0), v, 0, fun z => (by cases z), fun W' s' z => ?_⟩
    cases z
    refine ⟨?_, hr.em (n := 0) (by omega) (by rw [if_neg (by omega)]; exact c3 e2.1 e2.2)⟩
    try dsimp only
    rw [b2, e_92_45, Sty.cd hS (sx R st k v) l, if_neg (fun z => by have := c1.mp z; omega), Sty.cd hS (sx R st k v) l, Sty.cd hS (sx R st k v) (i := 24) (by omega), if_pos (show nthD sgC (tkG t k) 0 < nthD sgC 24 0 from c2.mpr (by omega)), (Sty.x hX (sx R st k v)).1, if_pos (Sty.x hX (sx R st k v)).2.1, m_103y hT.rw' rfl (by omega), onI_i, if_neg n10, Sty.cd hS (sx R st (k + 1) v) l, if_pos (Sty.x hX (sx R st (k + 1) v)).2.2, m_91 hX (by omega), onV_i, o2]
  rw [if_neg e2]
  refine ⟨R, v, st, fun _ => ?_, fun W' s' z => by cases z⟩
  try dsimp only
  rw [b2, e_92_45, Sty.cd hS (sx R st k v) l]
  by_cases z : nthD sgC (tkG t k) 0 < 1000
  · rw [if_pos z, e_92_90]
  · rw [if_neg z, Sty.cd hS (sx R st k v) l, Sty.cd hS (sx R st k v) (i := 24) (by omega), if_neg (fun y => by
      have y' : tkG t k < 24 ∨ 32 ≤ tkG t k := c2.mp y
      by_cases q : tkG t k < 18 ∨ 32 ≤ tkG t k
      · exact z (c1.mpr q)
      · omega), e_92_90]
theorem m_92 (hX : ShX σ) (hT : TkC σ t) (hS : StA σ) : ClA σ t (rpP t 27 9 (ptP t)) (fun ρ => rn 92 [.ref 206] ρ) := by
  have := ClA_rp (ty := false) (A := ptP t) (sg := 27) (cd := 9) hX hT (Gd_pt hT.2.1) (by omega) (by omega) (Lp := fun i ρ => exec PP 2 92 2 [some (.ref 206), some (.int (nI i)), none] [] ρ) (M := fun i ρ => exec PP 2 92 92 [some (.ref 206), some (.int (nI i)), none] [] ρ) (P := fun i ρ => exec PP 2 92 106 [some (.ref 206), some (.int (nI i)), none] [] ρ) (fun i hi => ClB_pt hX hT hS i hi) (fun ρ h => by
    try dsimp only
    rw [e_92_92, if_neg (show ¬ (0 : Int32) < nI 0 by decide)]) (fun i ρ h0 hi h => by
    try dsimp only
    rw [e_92_92, if_pos (l_lt (n := 0) h0 (by omega)), Sty.cd hS h (i := 27) (by omega), if_pos (Sty.x hX h).2.2]
    rw [show nthD sgC 27 0 = nI (cdN 9) by decide]
    congr 1
    funext ρ'
    rw [e_92_106]) (fun i ρ h => by
    try dsimp only
    rw [e_92_106, (Sty.x hX h).1, if_pos (Sty.x hX h).2.1]
    congr 1
    funext x ρ'
    rw [e_92_121, nI_1])
  intro R W st k v hk hs hr
  obtain ⟨R', v', st', e, c⟩ := this R W st k v hk hs hr
  exact ⟨R', v', st', (r_92 _ _).trans e, c⟩
end G1b
