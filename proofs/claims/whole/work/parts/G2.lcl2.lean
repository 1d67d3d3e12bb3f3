section G2
variable {σ : SH} {t : TXT}
theorem bI_s {q : WW × Nat} : ¬ bI (some q).isSome = 0 := (by decide : ¬ bI true = 0)
theorem bI_nn : bI (none : Option (WW × Nat)).isSome = 0 := rfl
theorem m_90c (hX : ShX σ) (hT : TkC σ t) (hS : StA σ) (d : Nat) (o1 o2 o3 : Option Value) : ClA σ t (cmP t) (fun ρ => exec PP (d + 8) 90 132 [some (.ref 206), o1, o2, o3] [] ρ) := by
  intro R W st k v hk hs hr
  have n4 := hT.2.1.n
  have sx : ∀ (R : Nat → Int32) (st k v : Nat), Sty σ (TS (RW σ R st) k v) := fun _ _ _ _ => sty_rw
  obtain ⟨R1, v1, s1, e1, c1⟩ := m_92 hX hT hS R W st k v hk hs hr
  obtain ⟨g1, g2⟩ := Gd_su hT.2.1 k W st hk hs
  try dsimp only at e1 ⊢
  rw [e_90_132, if_pos (Sty.x hX (sx R st k v)).2.2, e1, onI_i]
  unfold cmP
  cases hA : rpP t 27 9 (ptP t) k W st with
  | mk k' o =>
    rw [hA] at c1 g1 g2
    cases o with
    | none =>
      try dsimp only
      rw [if_pos bI_nn]
      exact ⟨R1, v1, s1, rfl, fun W' s' z => by cases z⟩
    | some q =>
      obtain ⟨W1, s2⟩ := q
      obtain ⟨rfl, rel⟩ := c1 W1 s2 rfl
      obtain ⟨⟨b1, b2⟩, -⟩ := g2 W1 s1 rfl
      try dsimp only at g1 b1 b2 ⊢
      have l := tkG_l38 (t := t) k'
      rw [if_neg bI_s, e_90_141, (Sty.x hX (sx R1 s1 k' v1)).1, if_pos (Sty.x hX (sx R1 s1 k' v1)).2.1, m_102 hT.rw' g1, onR_i, if_pos (show tkG t k' < 38 ∧ 28 < 38 from ⟨l, by omega⟩)]
      have go : ∀ z : tkG t k' = 28 ∨ tkG t k' = 29, ∃ R' v' st', exec PP (d + 8) 90 165 [some (.ref 206), none, none, some (.ref (tkG t k'))] [] (TS (RW σ R1 s1) k' v1) = some (.inl (some (.int (bI (match rpP t 27 9 (ptP t) (k' + 1) W1 s1 with
            | (k2, none) => (k2, none)
            | (k2, some (W2, st2)) => (k2, some (em W2 st2 (tkG t k' - 18) 0, st2 + 1)) : LPr).2.isSome))), TS (RW σ R' st') (match rpP t 27 9 (ptP t) (k' + 1) W1 s1 with
            | (k2, none) => (k2, none)
            | (k2, some (W2, st2)) => (k2, some (em W2 st2 (tkG t k' - 18) 0, st2 + 1)) : LPr).1 v') ∧ ∀ W' s', (match rpP t 27 9 (ptP t) (k' + 1) W1 s1 with
            | (k2, none) => (k2, none)
            | (k2, some (W2, st2)) => (k2, some (em W2 st2 (tkG t k' - 18) 0, st2 + 1)) : LPr).2 = some (W', s') → st' = s' ∧ Rel R' W' s' := fun z => by
        have hk1 := hT.2.1.lt (k := k') rfl (by omega)
        obtain ⟨R2, v2, s2, e2, c2⟩ := m_92 hX hT hS R1 W1 s1 (k' + 1) v1 hk1 (by omega) rel
        obtain ⟨h1, h2⟩ := Gd_su hT.2.1 (k' + 1) W1 s1 hk1 (by omega)
        try dsimp only at e2
        rw [e_90_165, (Sty.x hX (sx R1 s1 k' v1)).1, if_pos (Sty.x hX (sx R1 s1 k' v1)).2.1, m_103y hT.rw' rfl (by omega), onI_i, if_neg n10, if_pos (Sty.x hX (sx R1 s1 (k' + 1) v1)).2.2, e2, onI_i]
        cases hA2 : rpP t 27 9 (ptP t) (k' + 1) W1 s1 with
        | mk k2 o2 =>
          rw [hA2] at c2 h1 h2
          cases o2 with
          | none =>
            try dsimp only
            rw [if_pos bI_nn]
            exact ⟨R2, v2, s2, rfl, fun W' s' z => by cases z⟩
          | some q2 =>
            obtain ⟨W2, s3⟩ := q2
            obtain ⟨rfl, rel2⟩ := c2 W2 s3 rfl
            obtain ⟨⟨d1, d2⟩, -⟩ := h2 W2 s2 rfl
            try dsimp only at h1 d1 d2 ⊢
            rw [if_neg bI_s, e_90_185, Sty.cd hS (sx R2 s2 k2 v2) l, if_pos (Sty.x hX (sx R2 s2 k2 v2)).2.2, m_91 hX (by omega), onV_i]
            refine ⟨_, v2, s2 + 1, rfl, fun W' s' y => ?_⟩
            cases y
            exact ⟨rfl, rel2.em (n := 0) (by omega) (by rcases z with z | z <;> rw [z] <;> decide)⟩
      by_cases z8 : tkG t k' = 28
      · rw [if_pos z8, if_pos (Or.inl z8)]; exact go (Or.inl z8)
      rw [if_neg z8, if_pos (show tkG t k' < 38 ∧ 29 < 38 from ⟨l, by omega⟩)]
      by_cases z9 : tkG t k' = 29
      · rw [if_pos z9, if_pos (Or.inr z9)]; exact go (Or.inr z9)
      rw [if_neg z9, if_neg (fun y => y.elim z8 z9)]
      exact ⟨R1, v1, s1, rfl, fun W' s' z => by cases z⟩
/-- behind not and brackets -/
theorem m_90t (hX : ShX σ) (hT : TkC σ t) (hS : StA σ) (d : Nat) {nt op : Nat → WW → Nat → LPr} (o1 o3 : Option Value) {R : Nat → Int32} {W : WW} {st k v : Nat} (hk : k ≤ tkN t) (hs : st + 2 ≤ k) (hr : Rel R W st) (e1 : tkG t k ≠ 32) (e2 : tkG t k ≠ 26) : ∃ R' v' st', exec PP (d + 8) 90 101 [some (.ref 206), o1, some (.ref (tkG t k)), o3] [] (TS (RW σ R st) k v) = some (.inl (some (.int (bI (at1 t nt op k W st).2.isSome))), TS (RW σ R' st') (at1 t nt op k W st).1 v') ∧ ∀ W' s', (at1 t nt op k W st).2 = some (W', s') → st' = s' ∧ Rel R' W' s' := by
  have n4 := hT.2.1.n
  have sx : ∀ (R : Nat → Int32) (st k v : Nat), Sty σ (TS (RW σ R st) k v) := fun _ _ _ _ => sty_rw
  have l := tkG_l38 (t := t) k
  unfold at1
  rw [if_neg e1, if_neg e2, e_90_101, if_pos (show tkG t k < 38 ∧ 24 < 38 from ⟨l, by omega⟩)]
  by_cases e3 : tkG t k = 24
  · rw [if_pos e3, if_pos e3, e_90_115, Sty.cd hS (sx R st k v) l, if_pos (Sty.x hX (sx R st k v)).2.2, m_91 hX (by omega), onV_i, (Sty.x hX (sx (uW R st (nthD sgC (tkG t k) 0)) (st + 1) k v)).1, if_pos (Sty.x hX (sx (uW R st (nthD sgC (tkG t k) 0)) (st + 1) k v)).2.1, m_103y hT.rw' rfl (by omega), onI_i, if_pos n01]
    refine ⟨_, v, st + 1, rfl, fun W' s' y => ?_⟩
    cases y
    exact ⟨rfl, hr.em (n := 0) (by omega) (by rw [e3]; decide)⟩
  rw [if_neg e3, if_neg e3, if_pos (show tkG t k < 38 ∧ 25 < 38 from ⟨l, by omega⟩)]
  by_cases e4 : tkG t k = 25
  · rw [if_pos e4, if_pos e4, Sty.cd hS (sx R st k v) l, if_pos (Sty.x hX (sx R st k v)).2.2, m_91 hX (by omega), onV_i, (Sty.x hX (sx (uW R st (nthD sgC (tkG t k) 0)) (st + 1) k v)).1, if_pos (Sty.x hX (sx (uW R st (nthD sgC (tkG t k) 0)) (st + 1) k v)).2.1, m_103y hT.rw' rfl (by omega), onI_i, if_pos n01]
    refine ⟨_, v, st + 1, rfl, fun W' s' y => ?_⟩
    cases y
    exact ⟨rfl, hr.em (n := 0) (by omega) (by rw [e4]; decide)⟩
  rw [if_neg e4, if_neg e4]
  exact m_90c hX hT hS d _ _ _ R W st k v hk hs hr
theorem m_90z (hX : ShX σ) (hT : TkC σ t) (hS : StA σ) (d : Nat) : ClA σ t (at1 t badP badP) (fun ρ => exec PP (d + 8) 90 0 (lcl PP 90 [.ref 206, .int (nI 6)]) [] ρ) := by
  intro R W st k v hk hs hr
  have sx : ∀ (R : Nat → Int32) (st k v : Nat), Sty σ (TS (RW σ R st) k v) := fun _ _ _ _ => sty_rw
  have l := tkG_l38 (t := t) k
  try dsimp only
  rw [r_90, (Sty.x hX (sx R st k v)).1, if_pos (Sty.x hX (sx R st k v)).2.1, m_102 hT.rw' hk, onR_i, if_pos (show tkG t k < 38 ∧ 26 < 38 from ⟨l, by omega⟩)]
  by_cases e2 : tkG t k = 26
  · rw [if_pos e2, e_90_22, if_neg (show ¬ nI 6 < 6 by decide), e_90_39]
    unfold at1
    rw [if_neg (show ¬ tkG t k = 32 by omega), if_pos e2]
    exact ⟨R, v, st, rfl, fun W' s' z => by cases z⟩
  rw [if_neg e2, if_pos (show tkG t k < 38 ∧ 32 < 38 from ⟨l, by omega⟩)]
  by_cases e1 : tkG t k = 32
  · rw [if_pos e1, if_neg (show ¬ nI 6 < 6 by decide), e_90_39]
    unfold at1
    rw [if_pos e1]
    exact ⟨R, v, st, rfl, fun W' s' z => by cases z⟩
  rw [if_neg e1]
  exact m_90t hX hT hS d _ _ hk hs hr e1 e2
theorem m_90s (hX : ShX σ) (hT : TkC σ t) (hS : StA σ) (d q : Nat) (hq : q < 6) {nt op : Nat → WW → Nat → LPr} (gn : Gd t true nt) (go : Gd t true op) (hn : ClA σ t nt (fun ρ => exec PP (d + 7) 90 0 (lcl PP 90 [.ref 206, .int (nI (q + 1))]) [] ρ)) (ho : ClA σ t op (fun ρ => exec PP (d + 7) 88 0 (lcl PP 88 [.ref 206, .int (nI (q + 1))]) [] ρ)) : ClA σ t (at1 t nt op) (fun ρ => exec PP (d + 8) 90 0 (lcl PP 90 [.ref 206, .int (nI q)]) [] ρ) := by
  intro R W st k v hk hs hr
  have n4 := hT.2.1.n
  have sx : ∀ (R : Nat → Int32) (st k v : Nat), Sty σ (TS (RW σ R st) k v) := fun _ _ _ _ => sty_rw
  have l := tkG_l38 (t := t) k
  try dsimp only
  rw [r_90, (Sty.x hX (sx R st k v)).1, if_pos (Sty.x hX (sx R st k v)).2.1, m_102 hT.rw' hk, onR_i, if_pos (show tkG t k < 38 ∧ 26 < 38 from ⟨l, by omega⟩)]
  by_cases e2 : tkG t k = 26
  · have hk1 := hT.2.1.lt e2 (by omega)
    obtain ⟨R1, v1, s1, c0, c1⟩ := hn R W st (k + 1) v hk1 (by omega) hr
    obtain ⟨g1, g2⟩ := gn (k + 1) W st hk1 (by omega)
    try dsimp only at c0
    rw [if_pos e2, e_90_22, if_pos (nI_ltl (n := 6) hq (by decide)), (Sty.x hX (sx R st k v)).1, if_pos (Sty.x hX (sx R st k v)).2.1, m_103y hT.rw' rfl (by omega), onI_i, if_neg n10, e_90_41, if_pos (show tkG t k < 38 ∧ 32 < 38 from ⟨l, by omega⟩), if_neg (by omega), e_90_77, if_pos (Sty.x hX (sx R st (k + 1) v)).2.2, nI_1, c0, onI_i]
    unfold at1
    rw [if_neg (show ¬ tkG t k = 32 by omega), if_pos e2]
    cases hA : nt (k + 1) W st with
    | mk k' o =>
      rw [hA] at c1 g1 g2
      cases o with
      | none =>
        try dsimp only
        rw [if_pos bI_nn]
        exact ⟨R1, v1, s1, rfl, fun W' s' z => by cases z⟩
      | some p =>
        obtain ⟨W1, s2⟩ := p
        obtain ⟨rfl, rel⟩ := c1 W1 s2 rfl
        obtain ⟨⟨b1, b2⟩, -⟩ := g2 W1 s1 rfl
        try dsimp only at g1 b1 b2 ⊢
        rw [if_neg bI_s, e_90_89, Sty.cd hS (sx R1 s1 k' v1) (i := 26) (by omega), if_pos (Sty.x hX (sx R1 s1 k' v1)).2.2, m_91 hX (by omega), onV_i]
        refine ⟨_, v1, s1 + 1, rfl, fun W' s' y => ?_⟩
        cases y
        exact ⟨rfl, rel.em (n := 0) (by omega) (by decide)⟩
  rw [if_neg e2, if_pos (show tkG t k < 38 ∧ 32 < 38 from ⟨l, by omega⟩)]
  by_cases e1 : tkG t k = 32
  · have hk1 := hT.2.1.lt e1 (by omega)
    obtain ⟨R1, v1, s1, c0, c1⟩ := ho R W st (k + 1) v hk1 (by omega) hr
    obtain ⟨g1, g2⟩ := go (k + 1) W st hk1 (by omega)
    try dsimp only at c0
    rw [if_pos e1, if_pos (nI_ltl (n := 6) hq (by decide)), (Sty.x hX (sx R st k v)).1, if_pos (Sty.x hX (sx R st k v)).2.1, m_103y hT.rw' rfl (by omega), onI_i, if_neg n10, e_90_41, if_pos (show tkG t k < 38 ∧ 32 < 38 from ⟨l, by omega⟩), if_pos e1, if_pos (Sty.x hX (sx R st (k + 1) v)).2.2, nI_1, c0, onI_i]
    unfold at1
    rw [if_pos e1]
    cases hA : op (k + 1) W st with
    | mk k' o =>
      rw [hA] at c1 g1 g2
      cases o with
      | none =>
        try dsimp only
        rw [if_pos bI_nn, e_90_75]
        exact ⟨R1, v1, s1, rfl, fun W' s' z => by cases z⟩
      | some p =>
        obtain ⟨W1, s2⟩ := p
        obtain ⟨rfl, rel⟩ := c1 W1 s2 rfl
        try dsimp only at g1 ⊢
        rw [if_neg bI_s, (Sty.x hX (sx R1 s1 k' v1)).1, if_pos (Sty.x hX (sx R1 s1 k' v1)).2.1]
        by_cases e3 : tkG t k' = 33
        · rw [if_pos e3, m_103y hT.rw' e3 (by omega), onI_i, if_neg n10, e_90_76, if_pos n01]
          exact ⟨R1, v1, s1, rfl, fun W' s' y => by cases y; exact ⟨rfl, rel⟩⟩
        · rw [if_neg e3, m_103n hT.rw' e3 (by omega) g1, onI_i, if_pos n00, e_90_75]
          exact ⟨R1, v1, s1, rfl, fun W' s' y => by cases y⟩
  rw [if_neg e1]
  exact m_90t hX hT hS d _ _ hk hs hr e1 e2
theorem m_89 (hX : ShX σ) (hT : TkC σ t) (hS : StA σ) (d : Nat) {A : Nat → WW → Nat → LPr} (gA : Gd t true A) {q : Int32} (hA : ClA σ t A (fun ρ => exec PP (d + 7) 90 0 (lcl PP 90 [.ref 206, .int q]) [] ρ)) : ClA σ t (rpP t 30 13 A) (fun ρ => exec PP (d + 8) 89 0 (lcl PP 89 [.ref 206, .int q]) [] ρ) := by
  have := ClA_rp (ty := true) (A := A) (sg := 30) (cd := 13) hX hT gA (by omega) (by omega) (Lp := fun i ρ => exec PP (d + 8) 89 2 [some (.ref 206), some (.int q), some (.int (nI i))] [] ρ) (M := fun i ρ => exec PP (d + 8) 89 19 [some (.ref 206), some (.int q), some (.int (nI i))] [] ρ) (P := fun i ρ => exec PP (d + 8) 89 33 [some (.ref 206), some (.int q), some (.int (nI i))] [] ρ) (fun i hi => hA.b fun ρ h => by
    try dsimp only
    rw [e_89_2, if_pos (nI_ltl (n := 400) hi (by decide)), if_pos (Sty.x hX h).2.2]
    rfl) (fun ρ h => by
    try dsimp only
    rw [e_89_19, if_neg (show ¬ (0 : Int32) < nI 0 by decide)]) (fun i ρ h0 hi h => by
    try dsimp only
    rw [e_89_19, if_pos (l_lt (n := 0) h0 (by omega)), Sty.cd hS h (i := 30) (by omega), if_pos (Sty.x hX h).2.2]
    rw [show nthD sgC 30 0 = nI (cdN 13) by decide]
    congr 1
    funext ρ'
    rw [e_89_33]) (fun i ρ h => by
    try dsimp only
    rw [e_89_33, (Sty.x hX h).1, if_pos (Sty.x hX h).2.1]
    congr 1
    funext x ρ'
    rw [e_89_48, nI_1])
  intro R W st k v hk hs hr
  obtain ⟨R', v', st', e, c⟩ := this R W st k v hk hs hr
  exact ⟨R', v', st', (r_89 _ _ _ _).trans e, c⟩
theorem m_88 (hX : ShX σ) (hT : TkC σ t) (hS : StA σ) (d : Nat) {A : Nat → WW → Nat → LPr} (gA : Gd t true A) {q : Int32} (hA : ClA σ t A (fun ρ => exec PP (d + 7) 89 0 (lcl PP 89 [.ref 206, .int q]) [] ρ)) : ClA σ t (rpP t 31 14 A) (fun ρ => exec PP (d + 8) 88 0 (lcl PP 88 [.ref 206, .int q]) [] ρ) := by
  have := ClA_rp (ty := true) (A := A) (sg := 31) (cd := 14) hX hT gA (by omega) (by omega) (Lp := fun i ρ => exec PP (d + 8) 88 2 [some (.ref 206), some (.int q), some (.int (nI i))] [] ρ) (M := fun i ρ => exec PP (d + 8) 88 19 [some (.ref 206), some (.int q), some (.int (nI i))] [] ρ) (P := fun i ρ => exec PP (d + 8) 88 33 [some (.ref 206), some (.int q), some (.int (nI i))] [] ρ) (fun i hi => hA.b fun ρ h => by
    try dsimp only
    rw [e_88_2, if_pos (nI_ltl (n := 400) hi (by decide)), if_pos (Sty.x hX h).2.2]
    rfl) (fun ρ h => by
    try dsimp only
    rw [e_88_19, if_neg (show ¬ (0 : Int32) < nI 0 by decide)]) (fun i ρ h0 hi h => by
    try dsimp only
    rw [e_88_19, if_pos (l_lt (n := 0) h0 (by omega)), Sty.cd hS h (i := 31) (by omega), if_pos (Sty.x hX h).2.2]
    rw [show nthD sgC 31 0 = nI (cdN 14) by decide]
    congr 1
    funext ρ'
    rw [e_88_33]) (fun i ρ h => by
    try dsimp only
    rw [e_88_33, (Sty.x hX h).1, if_pos (Sty.x hX h).2.1]
    congr 1
    funext x ρ'
    rw [e_88_48, nI_1])
  intro R W st k v hk hs hr
  obtain ⟨R', v', st', e, c⟩ := this R W st k v hk hs hr
  exact ⟨R', v', st', (r_88 _ _ _ _).trans e, c⟩
theorem m_90 (hX : ShX σ) (hT : TkC σ t) (hS : StA σ) : ∀ r, r ≤ 6 → ∀ d, 3 * r ≤ d → ClA σ t (atP t r) (fun ρ => exec PP (d + 8) 90 0 (lcl PP 90 [.ref 206, .int (nI (6 - r))]) [] ρ)
  | 0, _, d, _ => m_90z hX hT hS d
  | r + 1, hr, d, hd => by
    obtain ⟨d', rfl⟩ : ∃ d', d = d' + 3 := ⟨d - 3, by omega⟩
    have h := fun d hd => m_90 hX hT hS r (by omega) d hd
    have gA := Gd_at hT.2.1 r
    have gB := Gd_rp hT.2.1 gA (sg := 30) (cd := 13) (by omega) (by omega) (fun T => rfl)
    have e : 6 - (r + 1) + 1 = 6 - r := by omega
    refine m_90s hX hT hS (d' + 3) (6 - (r + 1)) (by omega) gA (Gd_rp hT.2.1 gB (sg := 31) (cd := 14) (by omega) (by omega) (fun T => rfl)) ?_ ?_
    · rw [e]; exact h (d' + 2) (by omega)
    · rw [e]; exact m_88 hX hT hS (d' + 2) gB (m_89 hX hT hS (d' + 1) gA (h d' (by omega)))
theorem m_88t (hX : ShX σ) (hT : TkC σ t) (hS : StA σ) : ClA σ t (cdP t 6) (fun ρ => exec PP 60 88 0 (lcl PP 88 [.ref 206, .int 0]) [] ρ) := by
  have gA := Gd_at hT.2.1 6
  exact m_88 hX hT hS 52 (Gd_rp hT.2.1 gA (sg := 30) (cd := 13) (by omega) (by omega) (fun T => rfl)) (m_89 hX hT hS 51 gA (m_90 hX hT hS 6 (by omega) 50 (by omega)))
end G2
