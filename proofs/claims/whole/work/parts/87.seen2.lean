theorem fi_some_iff {p : Nat → Bool} {k i : Nat} : (fi p i k).isSome = true ↔ ∃ q, i ≤ q ∧ q < i + k ∧ p q = true := by
  have h := fi_none_iff (p := p) k i
  cases e : fi p i k with
  | none =>
    rw [e] at h
    have h1 := h.mp rfl
    exact ⟨fun z => (by cases z), fun ⟨q, a, b, c⟩ => by rw [h1 q a b] at c; cases c⟩
  | some j =>
    obtain ⟨a, b, c, -⟩ := fi_some k i j e
    exact ⟨fun _ => ⟨j, b, c, a⟩, fun _ => rfl⟩
/-- how many -/
def cnt (p : Nat → Bool) (n : Nat) : Nat := fo (fun i s => if p i = true then s + 1 else s) 0 n 0
theorem cnt_s (p : Nat → Bool) (n : Nat) : cnt p (n + 1) = if p n = true then cnt p n + 1 else cnt p n := by
  unfold cnt
  rw [fo_last, Nat.zero_add]
theorem cnt_le (p : Nat → Bool) : ∀ n, cnt p n ≤ n
  | 0 => Nat.le_refl 0
  | n + 1 => by
    have := cnt_le p n
    rw [cnt_s]
    split <;> omega
theorem cnt_mono {p q : Nat → Bool} (h : ∀ i, q i = true → p i = true) : ∀ n, cnt q n ≤ cnt p n
  | 0 => Nat.le_refl 0
  | n + 1 => by
    have := cnt_mono h n
    rw [cnt_s, cnt_s]
    by_cases c : q n = true
    · rw [if_pos c, if_pos (h n c)]; omega
    · rw [if_neg c]; split <;> omega
def aub (W : WW) (m j : Nat) : Int32 := fo (fun s x => if m.testBit s = true then x ||| bs (fun a => lies W s a j) 16 else x) 0 (nS W) 0
theorem b_aub' (W : WW) (m j : Nat) {a : Nat} (ha : a < 32) : ∀ (k i : Nat) (x : Int32), bt (fo (fun s x => if m.testBit s = true then x ||| bs (fun a => lies W s a j) 16 else x) i k x) a = (bt x a || (decide (a < 16) && (fi (fun s => m.testBit s && lies W s a j) i k).isSome))
  | 0, _, x => by simp [fo, fi]
  | k + 1, i, x => by
    rw [fo_one, b_aub' W m j ha k (i + 1), show fi (fun s => m.testBit s && lies W s a j) i (k + 1) = if (m.testBit i && lies W i a j) = true then some i else fi (fun s => m.testBit s && lies W s a j) (i + 1) k from rfl]
    cases c : m.testBit i
    · simp
    · rw [if_pos rfl, b_or, b_bs _ (by omega) ha]
      cases lies W i a j <;> cases decide (a < 16) <;> simp
theorem b_aub (W : WW) (m j : Nat) {a : Nat} (ha : a < 32) : bt (aub W m j) a = (decide (a < 16) && wby W m a j) := by
  unfold aub
  rw [b_aub' W m j ha, b_0, Bool.false_or]
  rfl
theorem b_tw {B : Nat → Nat} {a : Nat} (ha : a < 32) : ∀ (k i : Nat) (x : Int32), (∀ q, i ≤ q → q < i + k → B (2 * q) < 16) → bt (fo (twg B) i k x) a = (bt x a || (fi (fun q => decide (B (2 * q + 1) = 1) && decide (a = B (2 * q))) i k).isSome)
  | 0, _, x, _ => by simp [fo, fi]
  | k + 1, i, x, h => by
    rw [fo_one, b_tw ha k (i + 1) _ (fun q h1 h2 => h q (by omega) (by omega)), show fi (fun q => decide (B (2 * q + 1) = 1) && decide (a = B (2 * q))) i (k + 1) = if (decide (B (2 * i + 1) = 1) && decide (a = B (2 * i))) = true then some i else fi (fun q => decide (B (2 * q + 1) = 1) && decide (a = B (2 * q))) (i + 1) k from rfl]
    have hb := h i (Nat.le_refl _) (by omega)
    unfold twg
    by_cases c : B (2 * i + 1) = 1
    · rw [if_pos c, decide_eq_true c, b_or, b_sl1 (by omega) ha]
      by_cases e : a = B (2 * i) <;> simp [e]
    · rw [if_neg c, decide_eq_false c]; simp
theorem b_td {B : Nat → Nat} {a : Nat} (ha : a < 32) : ∀ (k i : Nat) (x : Int32), (∀ q, i ≤ q → q < i + k → B (2 * q) < 16) → bt (fo (tdg B) i k x) a = (bt x a || (fi (fun q => !decide (B (2 * q + 1) = 1) && decide (a = B (2 * q))) i k).isSome)
  | 0, _, x, _ => by simp [fo, fi]
  | k + 1, i, x, h => by
    rw [fo_one, b_td ha k (i + 1) _ (fun q h1 h2 => h q (by omega) (by omega)), show fi (fun q => !decide (B (2 * q + 1) = 1) && decide (a = B (2 * q))) i (k + 1) = if (!decide (B (2 * i + 1) = 1) && decide (a = B (2 * i))) = true then some i else fi (fun q => !decide (B (2 * q + 1) = 1) && decide (a = B (2 * q))) (i + 1) k from rfl]
    have hb := h i (Nat.le_refl _) (by omega)
    unfold tdg
    by_cases c : B (2 * i + 1) = 1
    · rw [if_pos c, decide_eq_true c]; simp
    · rw [if_neg c, decide_eq_false c, b_or, b_sl1 (by omega) ha]
      by_cases e : a = B (2 * i) <;> simp [e]
theorem told_eq {W : WW} {B : Nat → Nat} {T m j : Nat} (hok : toldB B T = true) : (aub W m j &&& fo (twg B) 0 (T / 2) 0 = fo (twg B) 0 (T / 2) 0 ∧ aub W m j &&& fo (tdg B) 0 (T / 2) 0 = 0) ↔ (fi (fun i => !fit2 W B m j i) 0 (T / 2)).isNone = true := by
  obtain ⟨⟨t1, t2⟩, t3⟩ := toldB_iff.mp hok
  rw [fi_none_iff]
  have tw : ∀ a, a < 32 → bt (fo (twg B) 0 (T / 2) 0) a = (fi (fun q => decide (B (2 * q + 1) = 1) && decide (a = B (2 * q))) 0 (T / 2)).isSome := fun a ha => by
    rw [b_tw ha _ _ _ (fun q _ h2 => (t3 q (by omega)).1), b_0, Bool.false_or]
  have td : ∀ a, a < 32 → bt (fo (tdg B) 0 (T / 2) 0) a = (fi (fun q => !decide (B (2 * q + 1) = 1) && decide (a = B (2 * q))) 0 (T / 2)).isSome := fun a ha => by
    rw [b_td ha _ _ _ (fun q _ h2 => (t3 q (by omega)).1), b_0, Bool.false_or]
  refine ⟨fun ⟨e1, e2⟩ i _ hi => ?_, fun e => ⟨b_ext fun a ha => ?_, b_ext fun a ha => ?_⟩⟩
  · obtain ⟨b1, b2⟩ := t3 i (by omega)
    unfold fit2
    by_cases c : B (2 * i + 1) = 1
    · have w1 : bt (fo (twg B) 0 (T / 2) 0) (B (2 * i)) = true := by
        rw [tw _ (by omega), fi_some_iff]
        exact ⟨i, by omega, hi, by simp [c]⟩
      have := congrArg (fun x => bt x (B (2 * i))) e1
      try dsimp only at this
      rw [b_and, w1, Bool.and_true, b_aub W m j (by omega), decide_eq_true b1, Bool.true_and] at this
      rw [this, decide_eq_true c]; rfl
    · have w1 : bt (fo (tdg B) 0 (T / 2) 0) (B (2 * i)) = true := by
        rw [td _ (by omega), fi_some_iff]
        exact ⟨i, by omega, hi, by simp [c]⟩
      have := congrArg (fun x => bt x (B (2 * i))) e2
      try dsimp only at this
      rw [b_and, w1, Bool.and_true, b_aub W m j (by omega), decide_eq_true b1, Bool.true_and, b_0] at this
      rw [this, decide_eq_false c]; rfl
  · rw [b_and]
    cases w1 : bt (fo (twg B) 0 (T / 2) 0) a
    · simp
    · rw [tw a ha, fi_some_iff] at w1
      obtain ⟨q, h1, h2, h3⟩ := w1
      rw [Bool.and_eq_true, decide_eq_true_iff, decide_eq_true_iff] at h3
      have := e q h1 h2
      unfold fit2 at this
      rw [decide_eq_true h3.1] at this
      have b1 := (t3 q (by omega)).1
      rw [b_aub W m j ha, h3.2, decide_eq_true b1]
      cases hw : wby W m (B (2 * q)) j
      · rw [hw] at this; exact absurd this (by decide)
      · rfl
  · rw [b_and, b_0]
    cases w1 : bt (fo (tdg B) 0 (T / 2) 0) a
    · simp
    · rw [td a ha, fi_some_iff] at w1
      obtain ⟨q, h1, h2, h3⟩ := w1
      rw [Bool.and_eq_true, Bool.not_eq_true', decide_eq_true_iff, decide_eq_false_iff_not] at h3
      have := e q h1 h2
      unfold fit2 at this
      rw [decide_eq_false h3.1] at this
      have b1 := (t3 q (by omega)).1
      rw [b_aub W m j ha, h3.2, decide_eq_true b1]
      cases hw : wby W m (B (2 * q)) j
      · rfl
      · rw [hw] at this; exact absurd this (by decide)
section QI
variable {σ : SH} {W L : WW}
theorem m_39 (h : QQ σ W L) {m j : Nat} (hj : j < 2147483648) : rn 39 [.ref 290, .int (nI m), .int (nI j)] σ = some (.inl (some (.int (aub W m j))), σ) := by
  have h6 := (WF_nS h.w).2
  rw [r_39]
  refine lp0 (F := fun s x => exec PP 2 39 5 [some (.ref 290), some (.int (nI m)), some (.int (nI j)), some (.int x), some (.int (nI s))] [] σ) (g := fun s x => if m.testBit s = true then x ||| bs (fun a => lies W s a j) 16 else x) (K := fun x => some (.inl (some (.int x)), σ)) (n := nS W) ?_ ?_ (nS W) 0 0 (by omega)
  · intro s x hs
    try dsimp only
    rw [e_39_5, fc0 h.x, c4 h, if_pos (nI_lt hs (by omega)), m_128 _ (by omega), onI_i, iB, bt_nI _ (by omega)]
    cases c : m.testBit s
    · rw [if_pos rfl, e_39_43, if_neg (by decide), nI_1]
    · rw [if_neg (by decide), fc0 h.x, cs0 h, cS' h hs, if_pos (tS' h hs), q95 h hs hj, onI_i, if_pos rfl, nI_1]
  · intro x
    try dsimp only
    rw [e_39_5, fc0 h.x, c4 h, if_neg (nI_nlt (Nat.le_refl _) (by omega)), e_39_49]
/-- what was told, in the forecast -/
def TD (σ : SH) (B : Nat → Nat) (T : Nat) : Prop := sI σ 290 2 = fo (twg B) 0 (T / 2) 0 ∧ sI σ 290 3 = fo (tdg B) 0 (T / 2) 0 ∧ toldB B T = true
theorem TD.k1 {B : Nat → Nat} {T : Nat} {σ' : SH} (h : TD σ B T) (k : Kp K1 σ σ') : TD σ' B T := ⟨(k.2 290 2 (by unfold K1; omega)).trans h.1, (k.2 290 3 (by unfold K1; omega)).trans h.2.1, h.2.2⟩
theorem m_38 (h : QQ σ W L) {B : Nat → Nat} {T m j : Nat} (hd : TD σ B T) (hj : j < 2147483648) : rn 38 [.ref 290, .int (nI m), .int (nI j)] σ = some (.inl (some (.int (bI (fitN W B T j m)))), σ) := by
  have h6 := (WF_nS h.w).2
  rw [r_38]
  have key := lpE (F := fun s => exec PP 3 38 2 [some (.ref 290), some (.int (nI m)), some (.int (nI j)), some (.int (nI s)), none] [] σ) (p := fun s => !stO W m s) (R := fun _ => some (.inl (some (.int 0)), σ)) (K := exec PP 3 38 58 [some (.ref 290), some (.int (nI m)), some (.int (nI j)), none, none] [] σ) (n := nS W) (by
    intro s hs
    try dsimp only
    rw [e_38_2, fc0 h.x, c4 h, if_pos (nI_lt hs (by omega)), fc0 h.x, cs0 h, cS' h hs, gS h hs (by omega), m_128 _ (by omega), onI_i, iB, bt_nI _ (by omega)]
    have w6 := (h.w.2.1 s hs).2.2.2.2.2.2
    unfold btw at w6
    have z0 : (0 : Int32).toInt = 0 := by decide
    have z1 : (1 : Int32).toInt = 1 := by decide
    have z2 : (2 : Int32).toInt = 2 := by decide
    unfold stO
    cases c : m.testBit s
    · rw [if_pos rfl, e_38_44]
      by_cases c1 : sh W s 6 = 1
      · rw [if_pos c1, if_pos (by simp [c1])]
      · rw [if_neg c1, e_38_52, nI_1, if_neg (by simp [c1])]
    · rw [if_neg (by decide)]
      by_cases c2 : sh W s 6 = 2
      · rw [if_pos c2, e_38_50, if_pos (by simp [c2])]
      · rw [if_neg c2, e_38_52, nI_1, if_neg]
        have : sh W s 6 = 0 ∨ sh W s 6 = 1 := by
          rw [teq] at c2
          rw [teq, teq, z0, z1]
          omega
        rcases this with e | e <;> simp [e]) (by
    try dsimp only
    rw [e_38_2, fc0 h.x, c4 h, if_neg (nI_nlt (Nat.le_refl _) (by omega)), e_38_58, e_38_58]) (nS W) 0 (by omega)
  refine key.trans ?_
  unfold fitN
  cases e : fi (fun s => !stO W m s) 0 (nS W) with
  | some q => rfl
  | none =>
    try dsimp only
    have te := told_eq (W := W) (m := m) (j := j) hd.2.2
    rw [e_38_58, if_pos (tFc h.x), m_39 h hj, onI_i, fcI h.x, fcI h.x, hd.1]
    by_cases c1 : aub W m j &&& fo (twg B) 0 (T / 2) 0 = fo (twg B) 0 (T / 2) 0
    · rw [if_pos c1, fcI h.x, hd.2.1]
      by_cases c2 : aub W m j &&& fo (tdg B) 0 (T / 2) 0 = 0
      · rw [if_pos c2, e_38_92, te.mp ⟨c1, c2⟩]; rfl
      · rw [if_neg c2, e_38_91]
        have : (fi (fun i => !fit2 W B m j i) 0 (T / 2)).isNone = false := by
          cases q : (fi (fun i => !fit2 W B m j i) 0 (T / 2)).isNone
          · rfl
          · exact absurd (te.mpr q).2 c2
        rw [this]; rfl
    · rw [if_neg c1, e_38_91]
      have : (fi (fun i => !fit2 W B m j i) 0 (T / 2)).isNone = false := by
        cases q : (fi (fun i => !fit2 W B m j i) 0 (T / 2)).isNone
        · rfl
        · exact absurd (te.mpr q).1 c1
      rw [this]; rfl
theorem P64 (h : QQ σ W L) : 2 ^ nS W ≤ 64 ∧ shl 1 (nI (nS W)) = nI (2 ^ nS W) := by
  have h6 := (WF_nS h.w).2
  exact ⟨Nat.pow_le_pow_right (n := 2) (by omega) h6, shl1N _ (by omega)⟩
theorem m_40 (h : QQ σ W L) {B : Nat → Nat} {T j : Nat} (hd : TD σ B T) (hj : j < 2147483648) : rn 40 [.ref 290, .int (nI j)] σ = some (.inl (some (.int (nI (cnt (fitN W B T j) (2 ^ nS W))))), σ) := by
  obtain ⟨p1, p2⟩ := P64 h
  rw [r_40]
  refine lp0 (F := fun m s => exec PP 4 40 4 [some (.ref 290), some (.int (nI j)), some (.int (nI s)), some (.int (nI m))] [] σ) (g := fun m s => if fitN W B T j m = true then s + 1 else s) (K := fun s => some (.inl (some (.int (nI s))), σ)) (n := 2 ^ nS W) ?_ ?_ (2 ^ nS W) 0 0 (by omega)
  · intro m s hm
    try dsimp only
    rw [e_40_4, fc0 h.x, c4 h, p2, if_pos (nI_lt hm (by omega)), if_pos (tFc h.x), m_38 h hd hj, onI_i, iB]
    cases fitN W B T j m
    · rw [if_pos rfl, e_40_29, if_neg (by decide), nI_1]
    · rw [if_neg (by decide), if_pos rfl, nI_1, nI_1]
  · intro s
    try dsimp only
    rw [e_40_4, fc0 h.x, c4 h, p2, if_neg (nI_nlt (Nat.le_refl _) (by omega)), e_40_35]
def ang (W : WW) (B : Nat → Nat) (T j : Nat) : Nat → Int32 → Int32 := fun m x => if fitN W B T j m = true then x &&& nI m else x
def suN (W : WW) (B : Nat → Nat) (T j : Nat) : Int32 := if cnt (fitN W B T j) (2 ^ nS W) = 0 then 0 else fo (ang W B T j) 0 (2 ^ nS W) (nI (2 ^ nS W - 1))
theorem an_rel (h6 : nS W ≤ 6) (B : Nat → Nat) (T j : Nat) : ∀ n, n ≤ 2 ^ nS W → (cnt (fitN W B T j) n = 0 → fo (ang W B T j) 0 n (-1) = -1) ∧ (cnt (fitN W B T j) n ≠ 0 → fo (ang W B T j) 0 n (-1) = fo (ang W B T j) 0 n (nI (2 ^ nS W - 1)) ∧ fo (ang W B T j) 0 n (-1) ≠ -1) ∧ (cnt (fitN W B T j) n = 0 → fo (ang W B T j) 0 n (nI (2 ^ nS W - 1)) = nI (2 ^ nS W - 1))
  | 0, _ => ⟨fun _ => rfl, fun e => absurd rfl e, fun _ => rfl⟩
  | n + 1, hn => by
    obtain ⟨i1, i2, i3⟩ := an_rel h6 B T j n (by omega)
    have p1 : 2 ^ nS W ≤ 64 := Nat.pow_le_pow_right (n := 2) (by omega) h6
    rw [cnt_s, fo_last, fo_last, Nat.zero_add]
    have m1 : ∀ x : Int32, x &&& nI n ≠ -1 := fun x e => by
      have := congrArg (fun y => bt y 31) e
      try dsimp only at this
      rw [b_and, bt_nI _ (by omega), b_m1 31 (by omega), Nat.testBit_lt_two_pow (by omega : n < 2 ^ 31)] at this
      simp at this
    by_cases c : fitN W B T j n = true
    · have s1 : ∀ x, ang W B T j n x = x &&& nI n := fun x => if_pos c
      rw [if_pos c, s1, s1]
      refine ⟨fun e => by omega, fun _ => ⟨?_, m1 _⟩, fun e => by omega⟩
      by_cases z : cnt (fitN W B T j) n = 0
      · rw [i1 z, i3 z]
        refine b_ext fun i hi => ?_
        rw [b_and, b_and, b_m1 i hi, bt_nI _ hi, bt_nI _ hi, Bool.true_and, Nat.testBit_two_pow_sub_one]
        by_cases q : i < nS W
        · rw [decide_eq_true q, Bool.true_and]
        · have : n < 2 ^ i := Nat.lt_of_lt_of_le (by omega : n < 2 ^ nS W) (Nat.pow_le_pow_right (by omega) (by omega))
          rw [Nat.testBit_lt_two_pow this, Bool.and_false]
      · rw [(i2 z).1]
    · have s0 : ∀ x, ang W B T j n x = x := fun x => if_neg c
      rw [if_neg c, s0, s0]
      exact ⟨i1, i2, i3⟩
theorem m_37 (h : QQ σ W L) {B : Nat → Nat} {T j : Nat} (hd : TD σ B T) (hj : j < 2147483648) : rn 37 [.ref 290, .int (nI j)] σ = some (.inl (some (.int (suN W B T j))), σ) := by
  obtain ⟨p1, p2⟩ := P64 h
  have key := lp0 (F := fun m x => exec PP 4 37 4 [some (.ref 290), some (.int (nI j)), some (.int x), some (.int (nI m))] [] σ) (g := ang W B T j) (K := fun x => some (.inl (some (.int (if x = -1 then 0 else x))), σ)) (n := 2 ^ nS W) (by
    intro m x hm
    try dsimp only
    rw [e_37_4, fc0 h.x, c4 h, p2, if_pos (nI_lt hm (by omega)), if_pos (tFc h.x), m_38 h hd hj, onI_i, iB]
    unfold ang
    cases fitN W B T j m
    · rw [if_pos rfl, e_37_30, if_neg (by decide), nI_1]
    · rw [if_neg (by decide), if_pos rfl, nI_1]) (by
    intro x
    try dsimp only
    rw [e_37_4, fc0 h.x, c4 h, p2, if_neg (nI_nlt (Nat.le_refl _) (by omega)), e_37_36]
    by_cases c : x = -1
    · rw [if_pos c, if_pos c, e_37_46]
    · rw [if_neg c, if_neg c, e_37_45]) (2 ^ nS W) 0 (-1) (by omega)
  rw [r_37]
  refine key.trans ?_
  obtain ⟨i1, i2, i3⟩ := an_rel (WF_nS h.w).2 B T j (2 ^ nS W) (Nat.le_refl _)
  unfold suN
  by_cases z : cnt (fitN W B T j) (2 ^ nS W) = 0
  · rw [if_pos z, if_pos (i1 z)]
  · rw [if_neg z, if_neg (i2 z).2, (i2 z).1]
theorem m_302' (h : QQ σ W L) {B : Nat → Nat} {T j : Nat} (ht : TP σ T B) (hl : sI σ 611 11 = nI T) (hok : toldB B T = true) (hj : j < 2147483648) {su : Int32} (o3 o4 o5 : Option Value) : exec PP 5 302 33 [some (.ref 611), some (.int (nI j)), some (.int su), o3, o4, o5] [] σ = some (.inl (some (.int (if su = 0 then nI (cnt (fitN W B T j) (2 ^ nS W)) else suN W B T j))), σ) := by
  obtain ⟨p1, p2⟩ := P64 h
  have p0 : 1 ≤ 2 ^ nS W := Nat.one_le_two_pow
  rw [e_302_33, if_pos h.tM, q195 h, onI_i, p2, sub_1 (by omega)]
  have key := lp0 (F := fun m (x : Nat × Int32) => exec PP 5 302 48 [some (.ref 611), some (.int (nI j)), some (.int su), some (.int (nI x.1)), some (.int x.2), some (.int (nI m))] [] σ) (g := fun m x => (if fitN W B T j m = true then x.1 + 1 else x.1, ang W B T j m x.2)) (K := fun x => exec PP 5 302 88 [none, none, some (.int su), some (.int (nI x.1)), some (.int x.2), none] [] σ) (n := 2 ^ nS W) (by
    intro m x hm
    try dsimp only
    rw [e_302_48, if_pos h.tM, q195 h, onI_i, p2, if_pos (nI_lt hm (by omega)), if_pos h.tM, m_304 h ht hl hok hj, onI_i, iB]
    unfold ang
    cases fitN W B T j m
    · rw [if_pos rfl, e_302_82, if_neg (by decide), if_neg (by decide), nI_1]
    · rw [if_neg (by decide), e_302_72, if_pos rfl, if_pos rfl, nI_1, nI_1]) (by
    intro x
    try dsimp only
    rw [e_302_48, if_pos h.tM, q195 h, onI_i, p2, if_neg (nI_nlt (Nat.le_refl _) (by omega)), e_302_88, e_302_88]) (2 ^ nS W) 0 (0, nI (2 ^ nS W - 1)) (by omega)
  refine key.trans ?_
  have R := fo_rel (g := fun m (x : Nat × Int32) => (if fitN W B T j m = true then x.1 + 1 else x.1, ang W B T j m x.2)) (g' := fun m s => if fitN W B T j m = true then s + 1 else s) (R := fun x s => x.1 = s) (2 ^ nS W) 0 (0, nI (2 ^ nS W - 1)) 0 rfl (fun m x s _ _ e => by
    subst e
    rfl)
  have R2 := fo_rel (g := fun m (x : Nat × Int32) => (if fitN W B T j m = true then x.1 + 1 else x.1, ang W B T j m x.2)) (g' := ang W B T j) (R := fun x s => x.2 = s) (2 ^ nS W) 0 (0, nI (2 ^ nS W - 1)) (nI (2 ^ nS W - 1)) rfl (fun m x s _ _ e => by
    subst e
    rfl)
  rw [R, R2, e_302_88]
  have hc := cnt_le (fitN W B T j) (2 ^ nS W)
  have cz : nI (fo (fun m s => if fitN W B T j m = true then s + 1 else s) 0 (2 ^ nS W) 0) = 0 ↔ cnt (fitN W B T j) (2 ^ nS W) = 0 := nI_0' (x := cnt (fitN W B T j) (2 ^ nS W)) (by omega)
  by_cases c : su = 0
  · rw [if_pos c, if_pos c, e_302_106]; rfl
  · rw [if_neg c, if_neg c, e_302_96]
    unfold suN
    by_cases z : cnt (fitN W B T j) (2 ^ nS W) = 0
    · rw [if_pos (cz.mpr z), if_pos z, e_302_106]
    · rw [if_neg (fun q => z (cz.mp q)), if_neg z, e_302_104]
end QI
