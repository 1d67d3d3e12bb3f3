theorem fo_rel {α β : Type} {g : Nat → α → α} {g' : Nat → β → β} {R : α → β → Prop} : ∀ (k i : Nat) (a : α) (b : β), R a b → (∀ j a b, i ≤ j → j < i + k → R a b → R (g j a) (g' j b)) → R (fo g i k a) (fo g' i k b)
  | 0, _, _, _, h, _ => h
  | k + 1, i, a, b, h, hs => fo_rel k (i + 1) (g i a) (g' i b) (hs i a b (Nat.le_refl _) (by omega) h) fun j a b h1 h2 => hs j a b (by omega) (by omega)
/-! rows of weddings -/
def wdg (W : WW) (d j : Nat) (k : Int32) : Nat → Nat × Nat × Int32 → Nat × Nat × Int32 := fun i s => if j + i < s.2.1 ∨ arN W (rdN W) (j + i) = none then s else (s.1 + 1, j + i + d, if nI s.1 = k then nI (j + i) else s.2.2)
def wdR (k : Int32) (s : Nat × Nat × Int32) : Int32 := if k = -1 then nI s.1 else s.2.2
def wdN (W : WW) (d j : Nat) (k : Int32) : Int32 := wdR k (fo (wdg W d j k) 0 96 (0, j, -1))
theorem wd_keep {W : WW} {d j c0 : Nat} {k : Int32} (hk : k = nI c0) : ∀ (r i : Nat) (s : Nat × Nat × Int32), c0 < s.1 → s.1 + r ≤ 1000 → (fo (wdg W d j k) i r s).2.2 = s.2.2
  | 0, _, _, _, _ => rfl
  | r + 1, i, s, h1, h2 => by
    show (fo (wdg W d j k) (i + 1) r (wdg W d j k i s)).2.2 = s.2.2
    unfold wdg
    by_cases c : j + i < s.2.1 ∨ arN W (rdN W) (j + i) = none
    · rw [if_pos c]; exact wd_keep hk r (i + 1) s h1 (by omega)
    · rw [if_neg c, if_neg (show ¬ nI s.1 = k from fun e => by
        rw [hk] at e
        have := (nI_eq (a := s.1) (b := c0) (by omega) (by omega)).mp e
        omega)]
      exact wd_keep hk r (i + 1) (s.1 + 1, j + i + d, s.2.2) (show c0 < s.1 + 1 by omega) (show s.1 + 1 + r ≤ 1000 by omega)
section QC
variable {σ : SH} {W L : WW}
theorem m_46' (h : QQ σ W L) {d j : Nat} {k : Int32} (hd : d ≤ 20) (hj : j ≤ 9999) : ∀ (r i c s : Nat), i + r = 96 → c ≤ i → s ≤ j + i + 20 → exec PP 5 46 9 [some (.ref 290), some (.int (nI d)), some (.int (nI j)), some (.int k), some (.int (nI c)), some (.int (nI s)), some (.int (nI (j + i)))] [] σ = some (.inl (some (.int (wdR k (fo (wdg W d j k) i r (c, s, -1))))), σ)
  | 0, i, c, s, hi, hc, hs => by
    have : i = 96 := by omega
    subst this
    rw [e_46_9, if_neg (nI_nltal (by omega)), e_46_69]
    show _ = (some (.inl (some (.int (if k = -1 then nI c else -1))), σ) : SR)
    by_cases e : k = -1
    · rw [if_pos e, if_pos e, e_46_80]
    · rw [if_neg e, if_neg e, e_46_79]
  | r + 1, i, c, s, hi, hc, hs => by
    have st : fo (wdg W d j k) i (r + 1) (c, s, -1) = fo (wdg W d j k) (i + 1) r (wdg W d j k i (c, s, -1)) := rfl
    rw [st, e_46_9, if_pos (nI_ltal (n := 96) (by omega) (by omega))]
    by_cases c1 : j + i < s
    · rw [if_pos (nI_lt c1 (by omega)), e_46_63, nI_1a, m_46' h hd hj r (i + 1) c s (by omega) (by omega) (by omega), show wdg W d j k i (c, s, -1) = (c, s, -1) from if_pos (Or.inl c1)]
    rw [if_neg (nI_nlt (by omega) (by omega)), fc0 h.x, fc0 h.x, c8 h, if_pos h.tC, q20 h h.rd.2 (by omega), onI_i]
    cases c2 : arN W (rdN W) (j + i) with
    | none => rw [if_pos (show oI none = -1 from rfl), e_46_63, nI_1a, m_46' h hd hj r (i + 1) c s (by omega) (by omega) (by omega), show wdg W d j k i (c, s, -1) = (c, s, -1) from if_pos (Or.inr c2)]
    | some g =>
      have hg := arN_lt h.rd.2 c2
      have hn : ¬ (j + i < s ∨ arN W (rdN W) (j + i) = none) := fun z => z.elim c1 (fun z => by rw [c2] at z; cases z)
      rw [if_neg (show ¬ oI (some g) = -1 from nI_neg (by omega)), show wdg W d j k i (c, s, -1) = (c + 1, j + i + d, if nI c = k then nI (j + i) else -1) from if_neg hn]
      by_cases e : nI c = k
      · rw [if_pos e, if_pos e]
        unfold wdR
        rw [if_neg (by rw [← e]; exact nI_neg (by omega)), wd_keep e.symm r (i + 1) (c + 1, j + i + d, nI (j + i)) (Nat.lt_succ_self c) (show c + 1 + r ≤ 1000 by omega)]
      · rw [if_neg e, if_neg e, e_46_54, nI_1a, nI_1, nI_add, m_46' h hd hj r (i + 1) (c + 1) (j + i + d) (by omega) (by omega) (by omega)]
theorem m_46 (h : QQ σ W L) {d j : Nat} {k : Int32} (hd : d ≤ 20) (hj : j ≤ 9999) : rn 46 [.ref 290, .int (nI d), .int (nI j), .int k] σ = some (.inl (some (.int (wdN W d j k))), σ) := by
  rw [r_46]
  exact m_46' h hd hj 96 0 0 j (by omega) (by omega) (by omega)
theorem m_246' (h : QQ σ W L) {d j : Nat} {k : Int32} (hd : d ≤ 20) (hj : j ≤ 9999) (o4 o5 o6 o7 : Option Value) : exec PP 6 246 37 [some (.ref 611), some (.int (nI d)), some (.int (nI j)), some (.int k), o4, o5, o6, o7] [] σ = some (.inl (some (.int (wdN W d j k))), σ) := by
  rw [e_246_37]
  refine lpI (F := fun i (s : Nat × Nat × Int32) => exec PP 6 246 49 [some (.ref 611), some (.int (nI d)), some (.int (nI j)), some (.int k), some (.int (nI s.1)), some (.int (nI s.2.1)), some (.int s.2.2), some (.int (nI (j + i)))] [] σ) (g := wdg W d j k) (K := fun s => some (.inl (some (.int (wdR k s))), σ)) (I := fun i s => s.2.1 ≤ j + i + 20) (n := 96) ?_ ?_ 96 0 (0, j, -1) (by omega) (by show j ≤ j + 0 + 20; omega)
  · intro i s hi hs
    try dsimp only
    have w1 : (j + i < s.2.1 ∨ arN W (rdN W) (j + i) = none) → wdg W d j k i s = s := fun z => if_pos z
    have w2 : ¬ (j + i < s.2.1 ∨ arN W (rdN W) (j + i) = none) → wdg W d j k i s = (s.1 + 1, j + i + d, if nI s.1 = k then nI (j + i) else s.2.2) := fun z => if_neg z
    rw [e_246_49, if_pos (nI_ltal hi (by omega))]
    by_cases c1 : j + i < s.2.1
    · rw [if_pos (nI_lt c1 (by omega)), e_246_108, nI_1a, w1 (Or.inl c1)]
      exact ⟨rfl, by omega⟩
    rw [if_neg (nI_nlt (by omega) (by omega)), gw h, aw6 h, if_pos h.tM, q232 h h.rd.2 (by omega), onI_i, iB]
    cases c2 : arN W (rdN W) (j + i) with
    | none =>
      rw [if_pos (show (none : Option Nat).isSome = false from rfl), e_246_108, nI_1a, w1 (Or.inr c2)]
      exact ⟨rfl, by omega⟩
    | some g =>
      rw [if_neg (show ¬ (some g).isSome = false by simp), e_246_84, w2 (fun z => z.elim c1 (fun z => by rw [c2] at z; cases z))]
      refine ⟨?_, by show j + i + d ≤ j + (i + 1) + 20; omega⟩
      by_cases e : nI s.1 = k
      · rw [if_pos e, if_pos e, e_246_97, nI_1a, nI_1, nI_add]
      · rw [if_neg e, if_neg e, e_246_95, nI_1a, nI_1, nI_add]
  · intro s hs
    try dsimp only
    rw [e_246_49, if_neg (nI_nltal (by omega)), e_246_114]
    unfold wdR
    by_cases e : k = -1
    · rw [if_pos e, if_pos e, e_246_126]
    · rw [if_neg e, if_neg e, e_246_124]
/-! until it is dry -/
def drg (W : WW) : Nat → Int32 → Int32 := fun s n => if sh W s 6 = 2 then n else if n < sh W s 3 + 1 - nI (miN W) then sh W s 3 + 1 - nI (miN W) else n
def drN (W : WW) : Int32 := if 200 < fo (drg W) 0 (nS W) 0 then -1 else fo (drg W) 0 (nS W) 0
theorem m_25 (h : QQ σ W L) : rn 25 [.ref 290] σ = some (.inl (some (.int (drN W))), σ) := by
  have h6 := (WF_nS h.w).2
  rw [r_25]
  refine lp0 (F := fun s n => exec PP 1 25 4 [some (.ref 290), some (.int n), some (.int (nI s)), none, none] [] σ) (g := drg W) (K := fun n => some (.inl (some (.int (if 200 < n then -1 else n))), σ)) (n := nS W) ?_ ?_ (nS W) 0 0 (by omega)
  · intro s n hs
    try dsimp only
    rw [e_25_4, fc0 h.x, c4 h, if_pos (nI_lt hs (by omega)), fc0 h.x, cs0 h, cS' h hs, gS h hs (by omega), fc0 h.x, c10 h, gS h hs (by omega)]
    unfold drg
    by_cases c : sh W s 6 = 2
    · rw [if_pos c, if_pos c, e_25_58, nI_1]
    · rw [if_neg c, if_neg c]
      by_cases c2 : n < sh W s 3 + 1 - nI (miN W)
      · rw [if_pos c2, if_pos c2, nI_1]
      · rw [if_neg c2, if_neg c2, e_25_58, nI_1]
  · intro n
    try dsimp only
    rw [e_25_4, fc0 h.x, c4 h, if_neg (nI_nlt (Nat.le_refl _) (by omega)), e_25_64]
    by_cases c : 200 < n
    · rw [if_pos c, if_pos c, e_25_76]
    · rw [if_neg c, if_neg c, e_25_75]
theorem m_247 (h : QQ σ W L) : rn 247 [.ref 611] σ = some (.inl (some (.int (drN W))), wI σ 611 0 0) := by
  have h6 := (WF_nS h.w).2
  have hm := h.mi
  have h' : QQ (wI σ 611 0 0) W L := h.qs (Kp.qs (Kp.w (by unfold Scr; omega)))
  rw [r_247, pI_r h.tM]
  generalize wI σ 611 0 0 = σ at h' ⊢
  have z0 : (0 : Int32).toInt = 0 := by decide
  have z1 : (1 : Int32).toInt = 1 := by decide
  have zm : (nI (miN W)).toInt = miN W := tnI (by omega)
  have key := lp0 (F := fun s l => exec PP 2 247 9 [some (.ref 611), some (.int l), some (.int (nI s))] [] σ) (g := fun s l => if sh W s 6 = 2 then l else if l < sh W s 3 then sh W s 3 else l) (K := fun l => some (.inl (some (.int (if 200 < (if 0 < l + 1 - nI (miN W) then l + 1 - nI (miN W) else 0) then -1 else (if 0 < l + 1 - nI (miN W) then l + 1 - nI (miN W) else 0)))), σ)) (n := nS W) (by
    intro s l hs
    try dsimp only
    rw [e_247_9, if_pos h'.tM, q195 h', onI_i, if_pos (nI_lt hs (by omega)), if_pos h'.tM, q221 (f := 6) h' (by omega), onI_i]
    by_cases c : sh W s 6 = 2
    · rw [if_pos c, if_pos c, e_247_42, nI_1]
    · rw [if_neg c, if_neg c, e_247_32, if_pos h'.tM, q221 (f := 3) h' (by omega), onI_i, m_327, onI_i, nI_1]) (by
    intro l
    try dsimp only
    rw [e_247_9, if_pos h'.tM, q195 h', onI_i, if_neg (nI_nlt (Nat.le_refl _) (by omega)), e_247_49, gw h', aw5 h', m_327, onI_i]
    by_cases c : 200 < (if 0 < l + 1 - nI (miN W) then l + 1 - nI (miN W) else 0)
    · rw [if_pos c, if_pos c, e_247_76]
    · rw [if_neg c, if_neg c, e_247_75]) (nS W) 0 (-1) (by omega)
  refine key.trans ?_
  have R := fo_rel (g := drg W) (g' := fun s l => if sh W s 6 = 2 then l else if l < sh W s 3 then sh W s 3 else l) (R := fun n l => (n = if 0 < l + 1 - nI (miN W) then l + 1 - nI (miN W) else 0) ∧ btw l (-1) 999) (nS W) 0 0 (-1) (by
    have : (-1 : Int32).toInt = -1 := by decide
    refine ⟨?_, by unfold btw; omega⟩
    rw [if_neg]
    have e1 : (-1 + 1 : Int32).toInt = 0 := by decide
    rw [tlt, tS] <;> rw [e1, zm] <;> omega) (fun s n l h1 h2 hR => by
    obtain ⟨hn, hl⟩ := hR
    have w3 := (h'.w.2.1 s (by omega)).2.2.2.1
    unfold btw at w3 hl
    have l1 : (l + 1).toInt = l.toInt + 1 := by rw [tA] <;> rw [z1] <;> omega
    have t1 : (sh W s 3 + 1).toInt = (sh W s 3).toInt + 1 := by rw [tA] <;> rw [z1] <;> omega
    have l2 : (l + 1 - nI (miN W)).toInt = l.toInt + 1 - miN W := by rw [tS] <;> rw [l1, zm] <;> omega
    have t2 : (sh W s 3 + 1 - nI (miN W)).toInt = (sh W s 3).toInt + 1 - miN W := by rw [tS] <;> rw [t1, zm] <;> omega
    unfold drg
    by_cases c : sh W s 6 = 2
    · simp only [if_pos c]; exact ⟨hn, by unfold btw; omega⟩
    · simp only [if_neg c]
      have hn2 : n.toInt = if 0 < l.toInt + 1 - miN W then l.toInt + 1 - miN W else 0 := by
        rw [hn]
        by_cases c0 : 0 < l + 1 - nI (miN W)
        · rw [if_pos c0, l2, if_pos]
          rw [tlt, l2, z0] at c0; exact c0
        · rw [if_neg c0, z0, if_neg]
          rw [tlt, l2, z0] at c0; exact c0
      refine ⟨?_, ?_⟩
      · rw [teq]
        by_cases c1 : n < sh W s 3 + 1 - nI (miN W)
        · rw [if_pos c1]
          rw [tlt, t2] at c1
          by_cases c2 : l < sh W s 3
          · rw [if_pos c2, if_pos]
            rw [tlt, t2, z0]
            split at hn2 <;> omega
          · rw [if_neg c2]
            rw [tlt] at c2
            split at hn2 <;> omega
        · rw [if_neg c1]
          rw [tlt, t2] at c1
          by_cases c2 : l < sh W s 3
          · rw [if_pos c2]
            rw [tlt] at c2
            rw [if_neg (by rw [tlt, t2, z0]; split at hn2 <;> omega), z0]
            split at hn2 <;> omega
          · rw [if_neg c2, hn]
      · by_cases c2 : l < sh W s 3
        · rw [if_pos c2]; unfold btw; omega
        · rw [if_neg c2]; unfold btw; omega)
  unfold drN
  rw [R.1]
/-! odds -/
def odg (W : WW) (a j : Nat) : Nat → Int64 × Int64 → Int64 × Int64 := fun s x => if wetp W a j s = true then (x.1 * (if sh W s 6 = 1 then 0 else (100 - sh W s 5).toInt64), x.2 * 100) else x
theorem odg_n {W : WW} {a j s : Nat} {x : Int64 × Int64} (c : wetp W a j s = false) : odg W a j s x = x := if_neg (by rw [c]; decide)
theorem odg_1 {W : WW} {a j s : Nat} {x : Int64 × Int64} (c : wetp W a j s = true) (c3 : sh W s 6 = 1) : odg W a j s x = (x.1 * 0, x.2 * 100) := (if_pos c).trans (by rw [if_pos c3])
theorem odg_0 {W : WW} {a j s : Nat} {x : Int64 × Int64} (c : wetp W a j s = true) (c3 : ¬ sh W s 6 = 1) : odg W a j s x = (x.1 * (100 - sh W s 5).toInt64, x.2 * 100) := (if_pos c).trans (by rw [if_neg c3])
theorem wetp_2 {W : WW} {a j s : Nat} (c : sh W s 6 = 2) : wetp W a j s = false := by simp [wetp, c]
theorem wetp_n {W : WW} {a j s : Nat} (c : lies W s a j = false) : wetp W a j s = false := by simp [wetp, c]
theorem wetp_y {W : WW} {a j s : Nat} (c1 : ¬ sh W s 6 = 2) (c : lies W s a j = true) : wetp W a j s = true := by simp [wetp, c, c1]
def odR (x : Int64 × Int64) : Int32 := ((10000 * (x.2 - x.1)) / x.2).toInt32
def odN (W : WW) (a j : Nat) : Int32 := odR (fo (odg W a j) 0 (nS W) (1, 1))
def p100 (m : Nat) : Int64 := Int64.ofNat (100 ^ m)
theorem p100_s : ∀ m, m < 7 → p100 m * 100 = p100 (m + 1) := by decide +kernel
theorem p100_e : ∀ m, m < 7 → odR (0, p100 m) = 10000 ∧ p100 m ≠ 0 ∧ ¬ lcm (p100 m) 1 < 0 := by decide +kernel
theorem od_pw {W : WW} {a j : Nat} : ∀ (r i m : Nat) (y : Int64), m + r ≤ 6 → ∃ m', m' ≤ m + r ∧ (fo (odg W a j) i r (y, p100 m)).2 = p100 m'
  | 0, _, m, _, _ => ⟨m, by omega, rfl⟩
  | r + 1, i, m, y, h => by
    have st : fo (odg W a j) i (r + 1) (y, p100 m) = fo (odg W a j) (i + 1) r (odg W a j i (y, p100 m)) := rfl
    rw [st]
    unfold odg
    by_cases c : wetp W a j i = true
    · rw [if_pos c]
      show ∃ m', m' ≤ m + (r + 1) ∧ (fo (odg W a j) (i + 1) r (_, p100 m * 100)).2 = p100 m'
      rw [p100_s m (by omega)]
      obtain ⟨m', e1, e2⟩ := od_pw (W := W) (a := a) (j := j) r (i + 1) (m + 1) (y * if sh W i 6 = 1 then 0 else (100 - sh W i 5).toInt64) (by omega)
      exact ⟨m', by omega, e2⟩
    · rw [if_neg c]
      obtain ⟨m', e1, e2⟩ := od_pw (W := W) (a := a) (j := j) r (i + 1) m y (by omega)
      exact ⟨m', by omega, e2⟩
theorem od_z {W : WW} {a j : Nat} : ∀ (r i : Nat) (x : Int64), (fo (odg W a j) i r (0, x)).1 = 0
  | 0, _, _ => rfl
  | r + 1, i, x => by
    have st : fo (odg W a j) i (r + 1) (0, x) = fo (odg W a j) (i + 1) r (odg W a j i (0, x)) := rfl
    rw [st]
    unfold odg
    by_cases c : wetp W a j i = true
    · rw [if_pos c]
      show (fo (odg W a j) (i + 1) r (0 * _, x * 100)).1 = 0
      rw [Int64.zero_mul]
      exact od_z r (i + 1) _
    · rw [if_neg c]; exact od_z r (i + 1) x
theorem m_34' (h : QQ σ W L) {a j : Nat} (ha : a < 16) (hj : j < 2147483648) : ∀ (r i m : Nat) (y : Int64), i + r = nS W → m ≤ i → exec PP 2 34 8 [some (.ref 290), some (.int (nI a)), some (.int (nI j)), some (.long (p100 m)), none, some (.long y), none, some (.int (nI i)), none] [] σ = some (.inl (some (.int (odR (fo (odg W a j) i r (y, p100 m))))), σ)
  | 0, i, m, y, hi, hm => by
    have h6 := (WF_nS h.w).2
    have : i = nS W := by omega
    subst this
    obtain ⟨-, p2, p3⟩ := p100_e m (by omega)
    rw [e_34_8, fc0 h.x, c4 h, if_neg (nI_nlt (Nat.le_refl _) (by omega)), e_34_93, if_neg p3, e_34_103, if_neg p2]
    rfl
  | r + 1, i, m, y, hi, hm => by
    have h6 := (WF_nS h.w).2
    have hs : i < nS W := by omega
    have st : fo (odg W a j) i (r + 1) (y, p100 m) = fo (odg W a j) (i + 1) r (odg W a j i (y, p100 m)) := rfl
    rw [st, e_34_8, fc0 h.x, c4 h, if_pos (nI_lt hs (by omega)), fc0 h.x, cs0 h, cS' h hs, gS h hs (by omega)]
    by_cases c : sh W i 6 = 2
    · rw [if_pos c, e_34_87, nI_1, odg_n (wetp_2 c)]
      exact m_34' h ha hj r (i + 1) m y (by omega) (by omega)
    rw [if_neg c, if_pos (tS' h hs), q95 h hs hj, onI_i, m_128 _ (by omega), onI_i, iB, b_bs _ (by omega) (by omega), decide_eq_true ha, Bool.true_and]
    cases c2 : lies W i a j
    · rw [if_pos rfl, e_34_87, nI_1, odg_n (wetp_n c2)]
      exact m_34' h ha hj r (i + 1) m y (by omega) (by omega)
    · rw [if_neg (by decide), gS h hs (by omega)]
      by_cases c3 : sh W i 6 = 1
      · rw [if_pos c3, odg_1 (wetp_y c c2) c3]
        show _ = (some (.inl (some (.int (odR (fo (odg W a j) (i + 1) r (y * 0, p100 m * 100))))), σ) : SR)
        rw [Int64.mul_zero, p100_s m (by omega)]
        obtain ⟨m', e1, e2⟩ := od_pw (W := W) (a := a) (j := j) r (i + 1) (m + 1) 0 (by omega)
        have e3 := od_z (W := W) (a := a) (j := j) r (i + 1) (p100 (m + 1))
        have e4 : fo (odg W a j) (i + 1) r (0, p100 (m + 1)) = (0, p100 m') := Prod.ext e3 e2
        rw [e4, (p100_e m' (by omega)).1]
      · rw [if_neg c3, odg_0 (wetp_y c c2) c3, e_34_67, gS h hs (by omega), nI_1, p100_s m (by omega)]
        exact m_34' h ha hj r (i + 1) (m + 1) _ (by omega) (by omega)
theorem m_34 (h : QQ σ W L) {a j : Nat} (ha : a < 16) (hj : j < 2147483648) : rn 34 [.ref 290, .int (nI a), .int (nI j)] σ = some (.inl (some (.int (odN W a j))), σ) := by
  rw [r_34]
  exact m_34' h ha hj (nS W) 0 0 1 (by omega) (by omega)
theorem m_285 (h : QQ σ W L) {a j : Nat} (ha : a < 16) (hj : j < 2147483648) : rn 285 [.ref 611, .int (nI a), .int (nI j)] σ = some (.inl (some (.int (odN W a j))), σ) := by
  have h6 := (WF_nS h.w).2
  rw [r_285]
  refine lpI (F := fun s (x : Int64 × Int64) => exec PP 3 285 8 [some (.ref 611), some (.int (nI a)), some (.int (nI j)), some (.long x.1), none, some (.long x.2), none, some (.int (nI s))] [] σ) (g := odg W a j) (K := fun x => some (.inl (some (.int (odR x))), σ)) (I := fun s x => ∃ m, m ≤ s ∧ x.2 = p100 m) (n := nS W) ?_ ?_ (nS W) 0 (1, 1) (by omega) ⟨0, by omega, rfl⟩
  · rintro s x hs ⟨m, hm, hx⟩
    try dsimp only
    rw [e_285_8, if_pos h.tM, q195 h, onI_i, if_pos (nI_lt hs (by omega)), if_pos h.tM, q234 h hs ha hj, onI_i, iB]
    cases c2 : lies W s a j
    · rw [if_pos rfl, e_285_81, nI_1, odg_n (wetp_n c2)]
      exact ⟨rfl, m, by omega, hx⟩
    rw [if_neg (by decide), if_pos h.tM, q221 (f := 6) h (by omega), onI_i]
    by_cases c : sh W s 6 = 2
    · rw [if_pos c, e_285_81, nI_1, odg_n (wetp_2 c)]
      exact ⟨rfl, m, by omega, hx⟩
    rw [if_neg c, e_285_43, if_pos h.tM, q221 (f := 6) h (by omega), onI_i]
    have hx2 : ∃ m', m' ≤ s + 1 ∧ x.2 * 100 = p100 m' := ⟨m + 1, by omega, by rw [hx, p100_s m (by omega)]⟩
    by_cases c3 : sh W s 6 = 1
    · rw [if_pos c3, odg_1 (wetp_y c c2) c3, e_285_71, nI_1]
      exact ⟨rfl, hx2⟩
    · rw [if_neg c3, odg_0 (wetp_y c c2) c3, e_285_60, if_pos h.tM, q221 (f := 5) h (by omega), onI_i, nI_1]
      exact ⟨rfl, hx2⟩
  · rintro x ⟨m, hm, hx⟩
    try dsimp only
    rw [e_285_8, if_pos h.tM, q195 h, onI_i, if_neg (nI_nlt (Nat.le_refl _) (by omega)), e_285_87, if_neg (by rw [hx]; exact (p100_e m (by omega)).2.1)]
    rfl
/-! hope -/
def dA (W : WW) (d : Nat) : Nat := (de W d 0).toInt.toNat
def dB (W : WW) (d : Nat) : Nat := (de W d 1).toInt.toNat
def dE (W : WW) (d : Nat) : Nat := (de W d 2).toInt.toNat
theorem WF_dA {W : WW} (h : WF W) {d : Nat} (hd : d < nD W) : de W d 0 = nI (dA W d) ∧ dA W d < 16 := by
  obtain ⟨a, b⟩ := btw_nI (h.2.2.2 d hd).1
  exact ⟨a, by unfold dA; omega⟩
theorem WF_dB {W : WW} (h : WF W) {d : Nat} (hd : d < nD W) : de W d 1 = nI (dB W d) ∧ dB W d ≤ 999 := by
  obtain ⟨a, b⟩ := btw_nI (h.2.2.2 d hd).2.1
  exact ⟨a, by unfold dB; omega⟩
theorem WF_dE {W : WW} (h : WF W) {d : Nat} (hd : d < nD W) : de W d 2 = nI (dE W d) ∧ dE W d ≤ 999 := by
  obtain ⟨a, b⟩ := btw_nI (h.2.2.2 d hd).2.2.1
  exact ⟨a, by unfold dE; omega⟩
def hpN (W : WW) (d : Nat) : Int32 := fo (fun i s => if ftN (rdN W) (dB W d + i) = some (dA W d) then s + odN W (dA W d) (dB W d + i) else s) 0 (dE W d + 1 - dB W d) 0 / 100
theorem m_35 (h : QQ σ W L) {d : Nat} (hd : d < nD W) : rn 35 [.ref 290, .ref (229 + d)] σ = some (.inl (some (.int (hpN W d))), σ) := by
  obtain ⟨a1, a2⟩ := WF_dA h.w hd
  obtain ⟨b1, b2⟩ := WF_dB h.w hd
  obtain ⟨e1, e2⟩ := WF_dE h.w hd
  rw [r_35, gD h hd (by omega), b1]
  refine lp0 (F := fun i s => exec PP 4 35 7 [some (.ref 290), some (.ref (229 + d)), some (.int s), some (.int (nI (dB W d + i)))] [] σ) (g := fun i s => if ftN (rdN W) (dB W d + i) = some (dA W d) then s + odN W (dA W d) (dB W d + i) else s) (K := fun s => some (.inl (some (.int (s / 100))), σ)) (n := dE W d + 1 - dB W d) ?_ ?_ (dE W d + 1 - dB W d) 0 0 (by omega)
  · intro i s hi
    try dsimp only
    rw [e_35_7, gD h hd (by omega), e1, if_neg (nI_nlt (by omega) (by omega)), fc0 h.x, c8 h, m_145 h.rd.2 (by omega), onI_i, gD h hd (by omega), a1]
    by_cases c : ftN (rdN W) (dB W d + i) = some (dA W d)
    · rw [if_pos ((oI_ft h.rd.2 a2).mpr c), gD h hd (by omega), a1, if_pos (tFc h.x), m_34 h a2 (by omega), onI_i, if_pos c, nI_1a]
    · rw [if_neg (fun z => c ((oI_ft h.rd.2 a2).mp z)), e_35_45, if_neg c, nI_1a]
  · intro s
    try dsimp only
    rw [e_35_7, gD h hd (by omega), e1, if_pos (nI_lt (by omega) (by omega)), e_35_51]
theorem m_287 (h : QQ σ W L) {d : Nat} (hd : d < nD W) : rn 287 [.ref 611, .int (nI d)] σ = some (.inl (some (.int (hpN W d))), σ) := by
  have h8 := (WF_nD h.w).2
  obtain ⟨a1, a2⟩ := WF_dA h.w hd
  obtain ⟨b1, b2⟩ := WF_dB h.w hd
  obtain ⟨e1, e2⟩ := WF_dE h.w hd
  rw [r_287, if_pos h.tM, q257 (f := 1) h (by omega), onI_i, b1]
  refine lp0 (F := fun i s => exec PP 5 287 9 [some (.ref 611), some (.int (nI d)), some (.int s), some (.int (nI (dB W d + i)))] [] σ) (g := fun i s => if ftN (rdN W) (dB W d + i) = some (dA W d) then s + odN W (dA W d) (dB W d + i) else s) (K := fun s => some (.inl (some (.int (s / 100))), σ)) (n := dE W d + 1 - dB W d) ?_ ?_ (dE W d + 1 - dB W d) 0 0 (by omega)
  · intro i s hi
    try dsimp only
    rw [e_287_9, if_pos h.tM, q257 (f := 2) h (by omega), onI_i, e1, if_neg (nI_nlt (by omega) (by omega)), gw h, aw6 h, m_230 h.rd.2 (by omega), onI_i, if_pos h.tM, q257 (f := 0) h (by omega), onI_i, a1]
    by_cases c : ftN (rdN W) (dB W d + i) = some (dA W d)
    · rw [if_pos ((oI_ft h.rd.2 a2).mpr c), if_pos h.tM, q257 (f := 0) h (by omega), onI_i, a1, if_pos h.tM, m_285 h a2 (by omega), onI_i, if_pos c, nI_1a]
    · rw [if_neg (fun z => c ((oI_ft h.rd.2 a2).mp z)), e_287_53, if_neg c, nI_1a]
  · intro s
    try dsimp only
    rw [e_287_9, if_pos h.tM, q257 (f := 2) h (by omega), onI_i, e1, if_pos (nI_lt (by omega) (by omega)), e_287_59]
end QC
