/-! a county copied -/
def DB (σ : SH) (c : Nat) : Prop := ∀ d, d < 8 → sI σ (c + 18 + d) 6 = 0 ∨ sI σ (c + 18 + d) 6 = 1
/-- a county c that holds the numbers W and the law L -/
def CI (σ : SH) (c : Nat) (W L : WW) : Prop := CW σ c W ∧ WF W ∧ LawC σ c W L ∧ LG σ c W ∧ DB σ c
theorem isC_dis {a b : Nat} (ha : isC a) (hb : isC b) (h : a ≠ b) : a + 26 ≤ b ∨ b + 26 ≤ a := by
  rcases ha with e | e | e | ⟨i, e1, e2⟩ <;> rcases hb with f | f | f | ⟨j, f1, f2⟩ <;> omega
section CO
variable {σ : SH}
theorem kwa {τ : SH} {a f : Nat} {x : Int32} (k : Kp (fun q _ => q = a) σ τ) : Kp (fun q _ => q = a) σ (wI τ a f x) := k.wr rfl
theorem m_94 {a b : Nat} (hab : a ≠ b) (ta : sT σ a = 108) (tb : sT σ b = 108) : ∃ σ', rn 94 [.ref a, .ref b] σ = some (.inl none, σ') ∧ Kp (fun q _ => q = a) σ σ' ∧ ∀ k, k < 7 → sI σ' a k = sI σ b k := by
  have g : ∀ (τ : SH) f (k : Int32 → SR), sT τ b = sT σ b → gI τ 108 f (.ref b) k = k (sI τ b f) := fun τ f k e => gI_r (e.trans tb)
  have p : ∀ (τ : SH) f x (k : SH → SR), sT τ a = sT σ a → pI τ 108 f (.ref a) x k = k (wI τ a f x) := fun τ f x k e => pI_r (e.trans ta)
  have n : ∀ (τ : SH) (f x : _) j, sI (wI τ a f x) b j = sI τ b j := fun τ f x j => sI_wIn (fun q => hab q.1.symm)
  refine ⟨_, by rw [r_94, g _ _ _ (by rfl), p _ _ _ _ (by rfl), g _ _ _ (by rfl), p _ _ _ _ (by rfl), g _ _ _ (by rfl), p _ _ _ _ (by rfl), g _ _ _ (by rfl), p _ _ _ _ (by rfl), g _ _ _ (by rfl), p _ _ _ _ (by rfl), g _ _ _ (by rfl), p _ _ _ _ (by rfl), g _ _ _ (by rfl), p _ _ _ _ (by rfl)], kwa (kwa (kwa (kwa (kwa (kwa (kwa (Kp.rf σ))))))), fun k hk => ?_⟩
  simp only [n]
  rcases (by omega : k = 0 ∨ k = 1 ∨ k = 2 ∨ k = 3 ∨ k = 4 ∨ k = 5 ∨ k = 6) with e | e | e | e | e | e | e <;> subst e <;> simp [sI_wI]
theorem m_1 {a b : Nat} (hab : a ≠ b) (ta : sT σ a = 100) (tb : sT σ b = 100) : ∃ σ', rn 1 [.ref a, .ref b] σ = some (.inl none, σ') ∧ Kp (fun q _ => q = a) σ σ' ∧ ∀ k, k < 3 → sI σ' a k = sI σ b k := by
  have g : ∀ (τ : SH) f (k : Int32 → SR), sT τ b = sT σ b → gI τ 100 f (.ref b) k = k (sI τ b f) := fun τ f k e => gI_r (e.trans tb)
  have p : ∀ (τ : SH) f x (k : SH → SR), sT τ a = sT σ a → pI τ 100 f (.ref a) x k = k (wI τ a f x) := fun τ f x k e => pI_r (e.trans ta)
  have n : ∀ (τ : SH) (f x : _) j, sI (wI τ a f x) b j = sI τ b j := fun τ f x j => sI_wIn (fun q => hab q.1.symm)
  refine ⟨_, by rw [r_1, g _ _ _ (by rfl), p _ _ _ _ (by rfl), g _ _ _ (by rfl), p _ _ _ _ (by rfl), g _ _ _ (by rfl), p _ _ _ _ (by rfl)], kwa (kwa (kwa (Kp.rf σ))), fun k hk => ?_⟩
  simp only [n]
  rcases (by omega : k = 0 ∨ k = 1 ∨ k = 2) with e | e | e <;> subst e <;> simp [sI_wI]
theorem m_22 {a b : Nat} (hab : a ≠ b) (ta : sT σ a = 102) (tb : sT σ b = 102) (hb : sI σ b 6 = 0 ∨ sI σ b 6 = 1) : ∃ σ', rn 22 [.ref a, .ref b] σ = some (.inl none, σ') ∧ Kp (fun q _ => q = a) σ σ' ∧ ∀ k, k < 7 → sI σ' a k = sI σ b k := by
  have g : ∀ (τ : SH) f (k : Int32 → SR), sT τ b = sT σ b → gI τ 102 f (.ref b) k = k (sI τ b f) := fun τ f k e => gI_r (e.trans tb)
  have p : ∀ (τ : SH) f x (k : SH → SR), sT τ a = sT σ a → pI τ 102 f (.ref a) x k = k (wI τ a f x) := fun τ f x k e => pI_r (e.trans ta)
  have n : ∀ (τ : SH) (f x : _) j, sI (wI τ a f x) b j = sI τ b j := fun τ f x j => sI_wIn (fun q => hab q.1.symm)
  have pb : ∀ (τ : SH) x (k : SH → SR), sT τ a = sT σ a → (x = 0 ∨ x = 1) → pB τ 102 6 (.ref a) x k = k (wI τ a 6 x) := fun τ x k e h => pB_r (e.trans ta) h
  refine ⟨_, by rw [r_22, g _ _ _ (by rfl), p _ _ _ _ (by rfl), g _ _ _ (by rfl), p _ _ _ _ (by rfl), g _ _ _ (by rfl), p _ _ _ _ (by rfl), g _ _ _ (by rfl), p _ _ _ _ (by rfl), g _ _ _ (by rfl), p _ _ _ _ (by rfl), g _ _ _ (by rfl), p _ _ _ _ (by rfl), g _ _ _ (by rfl), pb _ _ _ (by rfl) (by simp only [n]; exact hb)], kwa (kwa (kwa (kwa (kwa (kwa (kwa (Kp.rf σ))))))), fun k hk => ?_⟩
  simp only [n]
  rcases (by omega : k = 0 ∨ k = 1 ∨ k = 2 ∨ k = 3 ∨ k = 4 ∨ k = 5 ∨ k = 6) with e | e | e | e | e | e | e <;> subst e <;> simp [sI_wI]
/-- what a copy of county b into county a leaves -/
def Cp (a b : Nat) (σ σ' : SH) : Prop := σ'.2.2 = σ.2.2 ∧ (∀ q k, sV σ' q k = if q = a ∧ k = 12 then sV σ b 12 else sV σ q k) ∧ (∀ q k, ¬ (a ≤ q ∧ q < a + 26) → sI σ' q k = sI σ q k) ∧
  (∀ k, 4 ≤ k → k < 12 → sI σ' a k = sI σ b k) ∧ (∀ s k, s < 6 → k < 7 → sI σ' (a + 7 + s) k = sI σ (b + 7 + s) k) ∧ (∀ s k, s < 5 → k < 3 → sI σ' (a + 13 + s) k = sI σ (b + 13 + s) k) ∧ (∀ s k, s < 8 → k < 7 → sI σ' (a + 18 + s) k = sI σ (b + 18 + s) k) ∧
  (sI σ' (a + 4) 0 = sI σ (b + 4) 0 ∧ sI σ' (a + 4) 1 = sI σ (b + 4) 1 ∧ ∀ k, k < 240 → sI σ' (a + 5) k = sI σ (b + 5) k)
theorem m_51 {a b ra rb : Nat} (hab : a ≠ b ∧ ra ≠ rb ∧ ra ≠ a ∧ ra ≠ b ∧ rb ≠ a ∧ rb ≠ b) (ta : sT σ a = 105) (tb : sT σ b = 105) (va : sV σ a 2 = .ref ra) (vb : sV σ b 2 = .ref rb) (tra : sT σ ra = 1) (trb : sT σ rb = 1) (na : sN σ ra = 240) (nb : sN σ rb = 240) : ∃ σ', rn 51 [.ref a, .ref b] σ = some (.inl none, σ') ∧ Kp (fun q _ => q = a ∨ q = ra) σ σ' ∧ sI σ' a 0 = sI σ b 0 ∧ sI σ' a 1 = sI σ b 1 ∧ ∀ k, k < 240 → sI σ' ra k = sI σ rb k := by
  have n : ∀ (τ : SH) (f x : _) j, sI (wI τ a f x) b j = sI τ b j := fun τ f x j => sI_wIn (fun q => hab.1 q.1.symm)
  refine ⟨cpI (wI (wI σ a 0 (sI σ b 0)) a 1 (sI σ b 1)) rb 0 ra 0 240, ?_, ⟨rfl, fun q k hq => ?_⟩, ?_, ?_, fun k hk => ?_⟩
  · rw [r_51, gI_r tb, pI_r ta, gI_r (show sT (wI σ a 0 (sI σ b 0)) b = 105 from tb), n, pI_r (show sT (wI σ a 0 (sI σ b 0)) a = 105 from ta)]
    generalize hτ : wI (wI σ a 0 (sI σ b 0)) a 1 (sI σ b 1) = τ
    have e2 : τ.2 = σ.2 := by rw [← hτ]; rfl
    have T : ∀ q, sT τ q = sT σ q := fun q => by unfold sT; rw [e2]
    have N : ∀ q, sN τ q = sN σ q := fun q => by unfold sN; rw [e2]
    have V : ∀ q k, sV τ q k = sV σ q k := fun q k => by unfold sV; rw [e2]
    rw [gR_r ((T b).trans tb) ((V b 2).trans vb), gR_r ((T a).trans ta) ((V a 2).trans va), gR_r ((T a).trans ta) ((V a 2).trans va), aN_r (n := 240) (by rw [T, tra]; decide) ((N ra).trans na)]
    have c1 : (nI 240).toNatClampNeg = 240 := nI_cl (by decide)
    have c0 : (0 : Int32).toNatClampNeg = 0 := by decide
    unfold acp aRef
    try dsimp only
    rw [if_pos ⟨(T rb).trans trb, (T ra).trans tra, fun e => hab.2.1 e.symm, by decide, by decide, nI_pos (by decide), by rw [c1, c0, N, nb]; decide, by rw [c1, c0, N, na]; decide⟩, c1, c0]
  · unfold cpI sI
    try dsimp only
    rw [if_neg (fun z => hq (Or.inr z.1))]
    show sI (wI (wI σ a 0 (sI σ b 0)) a 1 (sI σ b 1)) q k = sI σ q k
    rw [sI_wIn (fun z => hq (Or.inl z.1)), sI_wIn (fun z => hq (Or.inl z.1))]
  · unfold cpI
    show (if a = ra ∧ 0 ≤ 0 ∧ 0 < 0 + 240 then _ else _) = _
    rw [if_neg (fun z => hab.2.2.1 z.1.symm)]
    show sI (wI (wI σ a 0 (sI σ b 0)) a 1 (sI σ b 1)) a 0 = sI σ b 0
    simp [sI_wI]
  · unfold cpI
    show (if a = ra ∧ 0 ≤ 1 ∧ 1 < 0 + 240 then _ else _) = _
    rw [if_neg (fun z => hab.2.2.1 z.1.symm)]
    show sI (wI (wI σ a 0 (sI σ b 0)) a 1 (sI σ b 1)) a 1 = sI σ b 1
    simp [sI_wI]
  · unfold cpI
    show (if ra = ra ∧ 0 ≤ k ∧ k < 0 + 240 then (wI (wI σ a 0 (sI σ b 0)) a 1 (sI σ b 1)).1 rb (0 + (k - 0)) else _) = _
    rw [if_pos ⟨rfl, by omega, by omega⟩, show 0 + (k - 0) = k by omega]
    show sI (wI (wI σ a 0 (sI σ b 0)) a 1 (sI σ b 1)) rb k = sI σ rb k
    rw [sI_wIn (fun z => hab.2.2.2.2.1 z.1), sI_wIn (fun z => hab.2.2.2.2.1 z.1)]
theorem m_6 {a b : Nat} (ha : isC a) (hb : isC b) (hab : a ≠ b) (hx : ShX σ) (hd : DB σ b) (hv : sV σ b 12 = .null ∨ ∃ q, sV σ b 12 = .ref q) : ∃ σ', rn 6 [.ref a, .ref b] σ = some (.inl none, σ') ∧ Cp a b σ σ' := by
  have hdis := isC_dis ha hb hab
  have hsa := hx.2.2.2.2.2.2.2.2 a ha
  have hsb := hx.2.2.2.2.2.2.2.2 b hb
  have la := isC_lt ha
  have lb := isC_lt hb
  rw [r_6]
  -- showers
  obtain ⟨σ1, e1, k1, c1⟩ := lpS (F := fun i (_ : Unit) σ => exec PP 2 6 2 [some (.ref a), some (.ref b), some (.int (nI i))] [] σ) (g := fun _ u => u) (K := fun _ σ => exec PP 2 6 34 [some (.ref a), some (.ref b), some (.int 0)] [] σ) (I := fun i _ τ => Kp (fun q _ => a + 7 ≤ q ∧ q < a + 26) σ τ ∧ ∀ s k, s < i → k < 7 → sI τ (a + 7 + s) k = sI σ (b + 7 + s) k) (n := 6) (by
    rintro i u τ hi ⟨hk, hc⟩
    have sa := hsa.kp hk
    have sb' := hsb.kp hk
    have ta := (sa.2.2.2.1 i hi).2
    obtain ⟨τ', g1, g2, g3⟩ := m_94 (a := a + 7 + i) (b := b + 7 + i) (by omega) ta (sb'.2.2.2.1 i hi).2
    refine ⟨τ', ?_, hk.tr (g2.mono fun q _ z => by omega), fun s k hs hk7 => ?_⟩
    · rw [e_6_2, gR_r sa.1.1 sa.1.2.1, aN_r (n := 6) (by rw [sa.2.1.1]; decide) sa.2.1.2.1, if_pos (nI_lt hi (by decide)), gR_r sa.1.1 sa.1.2.1, cS sa hi, gR_r sb'.1.1 sb'.1.2.1, cS sb' hi, if_pos ta, g1, onV_i, nI_1]
    · by_cases e : s = i
      · subst e
        rw [g3 k hk7, hk.2 (b + 7 + s) k (by omega)]
      · rw [g2.2 (a + 7 + s) k (by omega)]; exact hc s k (by omega) hk7) (by
    rintro u τ ⟨hk, hc⟩
    have sa := hsa.kp hk
    rw [e_6_2, gR_r sa.1.1 sa.1.2.1, aN_r (n := 6) (by rw [sa.2.1.1]; decide) sa.2.1.2.1, if_neg (nI_nlt (Nat.le_refl _) (by decide)), e_6_32]) 6 0 () σ (by omega) ⟨Kp.rf _, fun s k hs _ => by omega⟩
  -- brokers
  obtain ⟨σ2, e2, k2, c2⟩ := lpS (F := fun i (_ : Unit) σ => exec PP 2 6 34 [some (.ref a), some (.ref b), some (.int (nI i))] [] σ) (g := fun _ u => u) (K := fun _ σ => exec PP 2 6 66 [some (.ref a), some (.ref b), some (.int 0)] [] σ) (I := fun i _ τ => Kp (fun q _ => a + 13 ≤ q ∧ q < a + 26) σ1 τ ∧ ∀ s k, s < i → k < 3 → sI τ (a + 13 + s) k = sI σ (b + 13 + s) k) (n := 5) (by
    rintro i u τ hi ⟨hk, hc⟩
    have sa := (hsa.kp k1).kp hk
    have sb' := (hsb.kp k1).kp hk
    have ta := (sa.2.2.2.2.1 i hi).2
    obtain ⟨τ', g1, g2, g3⟩ := m_1 (a := a + 13 + i) (b := b + 13 + i) (by omega) ta (sb'.2.2.2.2.1 i hi).2
    refine ⟨τ', ?_, hk.tr (g2.mono fun q _ z => by omega), fun s k hs hk7 => ?_⟩
    · rw [e_6_34, gR_r sa.1.1 sa.1.2.2.1, aN_r (n := 5) (by rw [sa.2.1.2.2.1]; decide) sa.2.1.2.2.2.1, if_pos (nI_lt hi (by decide)), gR_r sa.1.1 sa.1.2.2.1, cB sa hi, gR_r sb'.1.1 sb'.1.2.2.1, cB sb' hi, if_pos ta, g1, onV_i, nI_1]
    · by_cases e : s = i
      · subst e
        rw [g3 k hk7, hk.2 (b + 13 + s) k (by omega), k1.2 (b + 13 + s) k (by omega)]
      · rw [g2.2 (a + 13 + s) k (by omega)]; exact hc s k (by omega) hk7) (by
    rintro u τ ⟨hk, hc⟩
    have sa := (hsa.kp k1).kp hk
    rw [e_6_34, gR_r sa.1.1 sa.1.2.2.1, aN_r (n := 5) (by rw [sa.2.1.2.2.1]; decide) sa.2.1.2.2.2.1, if_neg (nI_nlt (Nat.le_refl _) (by decide)), e_6_64]) 5 0 () σ1 (by omega) ⟨Kp.rf _, fun s k hs _ => by omega⟩
  -- deeds
  obtain ⟨σ3, e3, k3, c3⟩ := lpS (F := fun i (_ : Unit) σ => exec PP 2 6 66 [some (.ref a), some (.ref b), some (.int (nI i))] [] σ) (g := fun _ u => u) (K := fun _ σ => exec PP 2 6 96 [some (.ref a), some (.ref b), none] [] σ) (I := fun i _ τ => Kp (fun q _ => a + 18 ≤ q ∧ q < a + 26) σ2 τ ∧ ∀ s k, s < i → k < 7 → sI τ (a + 18 + s) k = sI σ (b + 18 + s) k) (n := 8) (by
    rintro i u τ hi ⟨hk, hc⟩
    have sa := ((hsa.kp k1).kp k2).kp hk
    have sb' := ((hsb.kp k1).kp k2).kp hk
    have ta := (sa.2.2.2.2.2 i hi).2
    have bk : ∀ k, sI τ (b + 18 + i) k = sI σ (b + 18 + i) k := fun k => by rw [hk.2 _ k (by omega), k2.2 _ k (by omega), k1.2 _ k (by omega)]
    obtain ⟨τ', g1, g2, g3⟩ := m_22 (a := a + 18 + i) (b := b + 18 + i) (by omega) ta (sb'.2.2.2.2.2 i hi).2 (by rw [bk]; exact hd i hi)
    refine ⟨τ', ?_, hk.tr (g2.mono fun q _ z => by omega), fun s k hs hk7 => ?_⟩
    · rw [e_6_66, gR_r sa.1.1 sa.1.2.2.2.1, aN_r (n := 8) (by rw [sa.2.1.2.2.2.2.1]; decide) sa.2.1.2.2.2.2.2, if_pos (nI_lt hi (by decide)), gR_r sa.1.1 sa.1.2.2.2.1, cD sa hi, gR_r sb'.1.1 sb'.1.2.2.2.1, cD sb' hi, if_pos ta, g1, onV_i, nI_1]
    · by_cases e : s = i
      · subst e
        rw [g3 k hk7, bk]
      · rw [g2.2 (a + 18 + s) k (by omega)]; exact hc s k (by omega) hk7) (by
    rintro u τ ⟨hk, hc⟩
    have sa := ((hsa.kp k1).kp k2).kp hk
    rw [e_6_66, gR_r sa.1.1 sa.1.2.2.2.1, aN_r (n := 8) (by rw [sa.2.1.2.2.2.2.1]; decide) sa.2.1.2.2.2.2.2, if_neg (nI_nlt (Nat.le_refl _) (by decide)), e_6_96, e_6_96]) 8 0 () σ2 (by omega) ⟨Kp.rf _, fun s k hs _ => by omega⟩
  have sa := ((hsa.kp k1).kp k2).kp k3
  have sb' := ((hsb.kp k1).kp k2).kp k3
  obtain ⟨σ4, e4, k4, c4a, c4b, c4c⟩ := m_51 (σ := σ3) (a := a + 4) (b := b + 4) (ra := a + 5) (rb := b + 5) (by omega) sa.2.2.1.1 sb'.2.2.1.1 sa.2.2.1.2.1 sb'.2.2.1.2.1 sa.2.2.1.2.2.1 sb'.2.2.1.2.2.1 sa.2.2.1.2.2.2.1 sb'.2.2.1.2.2.2.1
  have K4 : Kp (fun q _ => a + 4 ≤ q ∧ q < a + 26) σ σ4 := (((k1.mono fun q _ z => by omega).tr (k2.mono fun q _ z => by omega)).tr (k3.mono fun q _ z => by omega)).tr (k4.mono fun q _ z => by omega)
  have sa4 := hsa.kp K4
  have sb4 := hsb.kp K4
  have gb : ∀ (τ : SH) f (k : Int32 → SR), τ.2 = σ4.2 → gI τ 101 f (.ref b) k = k (sI τ b f) := fun τ f k e => gI_r (by unfold sT; rw [e]; exact sb4.1.1)
  have pa : ∀ (τ : SH) f x (k : SH → SR), τ.2 = σ4.2 → pI τ 101 f (.ref a) x k = k (wI τ a f x) := fun τ f x k e => pI_r (by unfold sT; rw [e]; exact sa4.1.1)
  have nb : ∀ (τ : SH) (f x : _) j, sI (wI τ a f x) b j = sI τ b j := fun τ f x j => sI_wIn (fun q => hab q.1.symm)
  have b4 : ∀ j, sI σ4 b j = sI σ b j := fun j => K4.2 b j (by omega)
  let σ5 := wI (wI (wI (wI (wI (wI (wI (wI σ4 a 4 (sI σ b 4)) a 5 (sI σ b 5)) a 6 (sI σ b 6)) a 7 (sI σ b 7)) a 8 (sI σ b 8)) a 9 (sI σ b 9)) a 10 (sI σ b 10)) a 11 (sI σ b 11)
  have K5 : Kp (fun q _ => a ≤ q ∧ q < a + 26) σ σ5 := ((((((((K4.mono fun q _ z => (by omega : a ≤ q ∧ q < a + 26)).wr (by omega)).wr (by omega)).wr (by omega)).wr (by omega)).wr (by omega)).wr (by omega)).wr (by omega)).wr (by omega)
  have v5 : sV σ5 b 12 = sV σ b 12 := K5.V b 12
  have t5b : sT σ5 b = 101 := (K5.T b).trans hsb.1.1
  have t5a : sT σ5 a = 101 := (K5.T a).trans hsa.1.1
  have fin : ∃ σ', (gQ σ5 101 12 (.ref b) (pV σ5 101 12 (.ref a) (.null) fun σ42 => some (.inl none, σ42)) (fun a41 => pV σ5 101 12 (.ref a) (.ref a41) fun σ43 => some (.inl none, σ43))) = some (.inl none, σ') ∧ σ' = wV σ5 a 12 (sV σ b 12) := by
    rcases hv with hv | ⟨q, hv⟩
    · exact ⟨_, by rw [gQ_n t5b (v5.trans hv)]; exact if_pos t5a, by rw [hv]⟩
    · exact ⟨_, by rw [gQ_r t5b (v5.trans hv)]; exact if_pos t5a, by rw [hv]⟩
  obtain ⟨σ6, f1, f2⟩ := fin
  have r5 : ∀ q k, q ≠ a → sI σ5 q k = sI σ4 q k := fun q k hq => by
    show sI (wI (wI (wI (wI (wI (wI (wI (wI σ4 a 4 _) a 5 _) a 6 _) a 7 _) a 8 _) a 9 _) a 10 _) a 11 _) q k = _
    rw [sI_wIn (fun z => hq z.1), sI_wIn (fun z => hq z.1), sI_wIn (fun z => hq z.1), sI_wIn (fun z => hq z.1), sI_wIn (fun z => hq z.1), sI_wIn (fun z => hq z.1), sI_wIn (fun z => hq z.1), sI_wIn (fun z => hq z.1)]
  have i6 : ∀ q k, sI σ6 q k = sI σ5 q k := fun q k => by rw [f2]; rfl
  refine ⟨σ6, ?_, by rw [f2]; show σ5.2.2 = σ.2.2; exact congrArg Prod.snd K5.1, fun q k => ?_, fun q k hq => ?_, fun k h1 h2 => ?_, fun s k hs hk => ?_, fun s k hs hk => ?_, fun s k hs hk => ?_, ?_, ?_, fun k hk => ?_⟩
  · refine e1.trans (e2.trans (e3.trans ?_))
    rw [e_6_96, gR_r sa.1.1 sa.1.2.2.2.2.1, gR_r sb'.1.1 sb'.1.2.2.2.2.1, if_pos sa.2.2.1.1, e4, onV_i, gb _ _ _ (by rfl), pa _ _ _ _ (by rfl), gb _ _ _ (by rfl), pa _ _ _ _ (by rfl), gb _ _ _ (by rfl), pa _ _ _ _ (by rfl), gb _ _ _ (by rfl), pa _ _ _ _ (by rfl), gb _ _ _ (by rfl), pa _ _ _ _ (by rfl), gb _ _ _ (by rfl), pa _ _ _ _ (by rfl), gb _ _ _ (by rfl), pa _ _ _ _ (by rfl), gb _ _ _ (by rfl), pa _ _ _ _ (by rfl)]
    simp only [nb, b4]
    exact f1
  · rw [f2]
    show (if q = a ∧ k = 12 then sV σ b 12 else sV σ5 q k) = _
    rw [K5.V]
  · rw [i6]; exact K5.2 q k hq
  · rw [i6]
    show sI (wI (wI (wI (wI (wI (wI (wI (wI σ4 a 4 _) a 5 _) a 6 _) a 7 _) a 8 _) a 9 _) a 10 _) a 11 _) a k = _
    rcases (by omega : k = 4 ∨ k = 5 ∨ k = 6 ∨ k = 7 ∨ k = 8 ∨ k = 9 ∨ k = 10 ∨ k = 11) with e | e | e | e | e | e | e | e <;> subst e <;> simp [sI_wI]
  · rw [i6, r5 _ _ (by omega), k4.2 _ _ (by omega), k3.2 _ _ (by omega), k2.2 _ _ (by omega)]; exact c1 s k hs hk
  · rw [i6, r5 _ _ (by omega), k4.2 _ _ (by omega), k3.2 _ _ (by omega)]; exact c2 s k hs hk
  · rw [i6, r5 _ _ (by omega), k4.2 _ _ (by omega)]; exact c3 s k hs hk
  · rw [i6, r5 _ _ (by omega), c4a, k3.2 _ _ (by omega), k2.2 _ _ (by omega), k1.2 _ _ (by omega)]
  · rw [i6, r5 _ _ (by omega), c4b, k3.2 _ _ (by omega), k2.2 _ _ (by omega), k1.2 _ _ (by omega)]
  · rw [i6, r5 _ _ (by omega), c4c k hk, k3.2 _ _ (by omega), k2.2 _ _ (by omega), k1.2 _ _ (by omega)]
end CO
