/-! the tape: bytes B, so many T; a byte with its sign -/
def sb (b : Nat) : Int32 := i2b (nI b)
theorem sb_t : ∀ b, b < 256 → (sb b).toInt = if b < 128 then (b : Int) else b - 256 := by decide +kernel
def TP (σ : SH) (T : Nat) (B : Nat → Nat) : Prop := T ≤ 400 ∧ ∀ k, k < T → B k < 256 ∧ sI σ 202 k = nI (B k) ∧ sI σ 617 k = sb (B k)
theorem TP.kp {σ σ' : SH} {T : Nat} {B : Nat → Nat} {P : Nat → Nat → Prop} (h : TP σ T B) (k : Kp P σ σ') (h1 : ∀ j, ¬ P 202 j) (h2 : ∀ j, ¬ P 617 j) : TP σ' T B := ⟨h.1, fun i hi => by
  rw [k.2 202 i (h1 i), k.2 617 i (h2 i)]
  exact h.2 i hi⟩
theorem fo_all (p : Nat → Bool) : ∀ (k i : Nat) (b : Bool), fo (fun d b => b && p d) i k b = (b && (fi (fun d => !p d) i k).isNone)
  | 0, _, b => by simp [fo, fi]
  | k + 1, i, b => by
    rw [fo_one, fo_all p k (i + 1), show fi (fun d => !p d) i (k + 1) = if (!p i) = true then some i else fi (fun d => !p d) (i + 1) k from rfl]
    cases p i <;> simp
theorem fi_none_iff {p : Nat → Bool} : ∀ (k i : Nat), (fi p i k).isNone = true ↔ ∀ q, i ≤ q → q < i + k → p q = false
  | 0, i => ⟨fun _ q h1 h2 => by omega, fun _ => rfl⟩
  | k + 1, i => by
    rw [show fi p i (k + 1) = if p i = true then some i else fi p (i + 1) k from rfl]
    by_cases c : p i = true
    · rw [if_pos c]
      exact ⟨fun e => (by cases e), fun e => by rw [e i (Nat.le_refl _) (by omega)] at c; cases c⟩
    · rw [if_neg c, fi_none_iff k (i + 1)]
      refine ⟨fun e q h1 h2 => ?_, fun e q h1 h2 => e q (by omega) (by omega)⟩
      by_cases z : q = i
      · subst z; simpa using c
      · exact e q (by omega) (by omega)
/-- whether the tape tells acres, wet or not -/
def okP (B : Nat → Nat) (i : Nat) : Bool := decide (B (2 * i) < 16 ∧ B (2 * i + 1) ≤ 1)
def toldB (B : Nat → Nat) (T : Nat) : Bool := decide (T ≤ 40 ∧ T % 2 = 0) && (fi (fun i => !okP B i) 0 (T / 2)).isNone
theorem toldB_iff {B : Nat → Nat} {T : Nat} : toldB B T = true ↔ (T ≤ 40 ∧ T % 2 = 0) ∧ ∀ i, i < T / 2 → B (2 * i) < 16 ∧ B (2 * i + 1) ≤ 1 := by
  unfold toldB
  rw [Bool.and_eq_true, decide_eq_true_iff, fi_none_iff]
  refine ⟨fun ⟨a, b⟩ => ⟨a, fun i hi => ?_⟩, fun ⟨a, b⟩ => ⟨a, fun i _ hi => ?_⟩⟩
  · have := b i (by omega) (by omega)
    unfold okP at this
    simpa using this
  · unfold okP
    rw [decide_eq_true (b i (by omega))]; rfl
def twg (B : Nat → Nat) : Nat → Int32 → Int32 := fun i s => if B (2 * i + 1) = 1 then s ||| shl 1 (nI (B (2 * i))) else s
def tdg (B : Nat → Nat) : Nat → Int32 → Int32 := fun i s => if B (2 * i + 1) = 1 then s else s ||| shl 1 (nI (B (2 * i)))
/-- where the class writes what was told -/
def K2 (a k : Nat) : Prop := a = 290 ∧ (k = 2 ∨ k = 3)
section QH
variable {σ : SH} {W L : WW}
theorem K2.scr {σ0 σ' : SH} (k : Kp K2 σ0 σ') : Kp (Scr σ0) σ0 σ' := k.mono fun a k z => by unfold K2 at z; unfold Scr; omega
theorem m_36 (h : QQ σ W L) {T : Nat} {B : Nat → Nat} (ht : TP σ T B) (hl : sI σ 201 1 = nI T) : ∃ σ', rn 36 [.ref 290, .ref 201] σ = some (.inl (some (.int (bI (toldB B T)))), σ') ∧ Kp K2 σ σ' ∧ (toldB B T = true → sI σ' 290 2 = fo (twg B) 0 (T / 2) 0 ∧ sI σ' 290 3 = fo (tdg B) 0 (T / 2) 0) := by
  have hT := ht.1
  have k1 : Kp K2 σ (wI (wI σ 290 2 0) 290 3 0) := (Kp.w (by unfold K2; omega)).wr (by unfold K2; omega)
  have q2 : sI (wI (wI σ 290 2 0) 290 3 0) 290 2 = 0 := by rw [sI_wIn (by omega), sI_wIs]
  have q3 : sI (wI (wI σ 290 2 0) 290 3 0) 290 3 = 0 := sI_wIs _ _ _ _
  rw [r_36, pI_r (tFc h.x), pI_r (show sT (wI σ 290 2 0) 290 = 103 from tFc h.x)]
  generalize wI (wI σ 290 2 0) 290 3 0 = σ0 at k1 q2 q3 ⊢
  have hx0 := (h.qs (K2.scr k1).qs).x
  have hl0 : sI σ0 201 1 = nI T := by rw [k1.2 201 1 (by unfold K2; omega)]; exact hl
  rw [tpI hx0, hl0]
  have t40 : ((40 : Int32) < nI T) ↔ 40 < T := nI_ltI (a := 40) (by decide) (by omega)
  by_cases c1 : 40 < T
  · refine ⟨σ0, ?_, k1, fun e => ?_⟩
    · rw [if_pos (t40.mpr c1), e_36_28]
      have : toldB B T = false := by unfold toldB; rw [decide_eq_false (by omega)]; rfl
      rw [this]; rfl
    · have := (toldB_iff.mp e).1.1; omega
  rw [if_neg (fun z => c1 (t40.mp z)), tpI hx0, hl0, irm2 (by omega)]
  by_cases c2 : T % 2 = 0
  case neg =>
    refine ⟨σ0, ?_, k1, fun e => ?_⟩
    · rw [if_neg (fun z => c2 ((nI_0' (by omega)).mp z))]
      have : toldB B T = false := by unfold toldB; rw [decide_eq_false (by omega)]; rfl
      rw [this]; rfl
    · exact absurd (toldB_iff.mp e).1.2 c2
  rw [if_pos ((nI_0' (by omega)).mpr c2), e_36_30]
  have key : ∀ (r i : Nat) (σ1 : SH), i + r = T / 2 → Kp K2 σ σ1 → sI σ1 290 2 = fo (twg B) 0 i 0 → sI σ1 290 3 = fo (tdg B) 0 i 0 → ∃ σ', exec PP 1 36 32 [some (.ref 290), some (.ref 201), some (.int (nI (2 * i)))] [] σ1 = some (.inl (some (.int (bI ((fi (fun i => !okP B i) i r).isNone)))), σ') ∧ Kp K2 σ σ' ∧ ((fi (fun i => !okP B i) i r).isNone = true → sI σ' 290 2 = fo (twg B) 0 (T / 2) 0 ∧ sI σ' 290 3 = fo (tdg B) 0 (T / 2) 0) := by
    intro r
    induction r with
    | zero =>
      intro i σ1 hi hk f2 f3
      have hx := (h.qs (K2.scr hk).qs).x
      have hl1 : sI σ1 201 1 = nI T := by rw [hk.2 201 1 (by unfold K2; omega)]; exact hl
      have ei : i = T / 2 := by omega
      refine ⟨σ1, ?_, hk, fun _ => by rw [← ei]; exact ⟨f2, f3⟩⟩
      rw [e_36_32, tpI hx, hl1, nI_1, if_neg (nI_nlt (by omega) (by omega)), e_36_122]
      rfl
    | succ r ih =>
      intro i σ1 hi hk f2 f3
      have hx := (h.qs (K2.scr hk).qs).x
      have hl1 : sI σ1 201 1 = nI T := by rw [hk.2 201 1 (by unfold K2; omega)]; exact hl
      have ht1 := ht.kp hk (by unfold K2; omega) (by unfold K2; omega)
      obtain ⟨b1, b2, -⟩ := ht1.2 (2 * i) (by omega)
      obtain ⟨d1, d2, -⟩ := ht1.2 (2 * i + 1) (by omega)
      have st : fi (fun i => !okP B i) i (r + 1) = if (!okP B i) = true then some i else fi (fun i => !okP B i) (i + 1) r := rfl
      rw [st, e_36_32, tpI hx, hl1, nI_1, if_pos (nI_lt (by omega) (by omega)), tp0 hx, tpb hx (by omega), b2]
      have e16 : (nI (B (2 * i)) < 16) ↔ B (2 * i) < 16 := nI_ltI (b := 16) (by omega) (by decide)
      by_cases c3 : B (2 * i) < 16
      case neg =>
        have ok : okP B i = false := by unfold okP; rw [decide_eq_false (by omega)]
        refine ⟨σ1, ?_, hk, fun e => ?_⟩
        · rw [if_neg (fun z => c3 (e16.mp z)), e_36_65, ok]; rfl
        · rw [ok] at e; cases e
      rw [if_pos (e16.mpr c3), tp0 hx, tpb hx (by omega), d2]
      have e1 : ((1 : Int32) < nI (B (2 * i + 1))) ↔ 1 < B (2 * i + 1) := nI_ltI (a := 1) (by decide) (by omega)
      by_cases c4 : 1 < B (2 * i + 1)
      · have ok : okP B i = false := by unfold okP; rw [decide_eq_false (by omega)]
        refine ⟨σ1, ?_, hk, fun e => ?_⟩
        · rw [if_pos (e1.mpr c4), ok]; rfl
        · rw [ok] at e; cases e
      have ok : okP B i = true := by unfold okP; rw [decide_eq_true (by omega)]
      rw [if_neg (fun z => c4 (e1.mp z)), ok, if_neg (by decide), e_36_67, tp0 hx, nI_1, tpb hx (by omega), d2]
      have eq1 : nI (B (2 * i + 1)) = 1 ↔ B (2 * i + 1) = 1 := nI_eq (b := 1) (by omega) (by decide)
      have i2 : nI (2 * i) + 2 = nI (2 * (i + 1)) := by
        rw [show (2 : Int32) = nI 2 from rfl, nI_add, show 2 * i + 2 = 2 * (i + 1) by omega]
      have n2 : fo (twg B) 0 (i + 1) 0 = twg B i (fo (twg B) 0 i 0) := by rw [fo_last, Nat.zero_add]
      have n3 : fo (tdg B) 0 (i + 1) 0 = tdg B i (fo (tdg B) 0 i 0) := by rw [fo_last, Nat.zero_add]
      by_cases c5 : B (2 * i + 1) = 1
      · rw [if_pos (eq1.mpr c5), fcI hx, tp0 hx, tpb hx (by omega), b2, pI_r (tFc hx), e_36_116, i2]
        refine ih (i + 1) _ (by omega) (hk.wr (by unfold K2; omega)) ?_ ?_
        · rw [sI_wIs, n2, f2]; exact (if_pos c5).symm
        · rw [sI_wIn (by omega), n3, f3]; exact (if_pos c5).symm
      · rw [if_neg (fun z => c5 (eq1.mp z)), e_36_99, fcI hx, tp0 hx, tpb hx (by omega), b2, pI_r (tFc hx), i2]
        refine ih (i + 1) _ (by omega) (hk.wr (by unfold K2; omega)) ?_ ?_
        · rw [sI_wIn (by omega), n2, f2]; exact (if_neg c5).symm
        · rw [sI_wIs, n3, f3]; exact (if_neg c5).symm
  obtain ⟨σ', e1, e2, e3⟩ := key (T / 2) 0 σ0 (by omega) k1 q2 q3
  have et : toldB B T = (fi (fun i => !okP B i) 0 (T / 2)).isNone := by unfold toldB; rw [decide_eq_true ⟨by omega, c2⟩, Bool.true_and]
  rw [et]
  exact ⟨σ', e1, e2, e3⟩
/-! in the reference: the tape is at 617, its end at 611's 11 -/
theorem g8 (h : QQ σ W L) (k : Nat → SR) : gR σ 112 8 (.ref 611) k = k 617 := gR_r h.m.1.1 h.m.1.2.2.2.2.2.2.1
theorem a617 (h : QQ σ W L) {j : Nat} (hj : j < 400) (k : Int32 → SR) : aI σ 2 (.ref 617) (nI j) k = k (sI σ 617 j) := aI_r h.m.2.1.2.2.2.2.2.1 (by rw [h.m.2.2.2.2.2.2.2.1]; exact hj) (by rw [h.m.2.2.2.2.2.2.2.1]; decide)
theorem mI (h : QQ σ W L) (f : Nat) (k : Int32 → SR) : gI σ 112 f (.ref 611) k = k (sI σ 611 f) := gI_r h.tM
theorem sb_16 {b : Nat} (hb : b < 256) : (!decide (0 ≤ (sb b).toInt ∧ (sb b).toInt ≤ 15)) = !decide (b < 16) := by
  have := sb_t b hb
  by_cases c : b < 16
  · rw [decide_eq_true c, decide_eq_true (by split at this <;> omega)]
  · rw [decide_eq_false c, decide_eq_false (by split at this <;> omega)]
theorem sb_nI {b : Nat} (hb : b < 128) : sb b = nI b := by
  rw [teq, sb_t b (by omega), if_pos hb, tnI (by omega)]
theorem m_303 (h : QQ σ W L) {T : Nat} {B : Nat → Nat} (ht : TP σ T B) (hl : sI σ 611 11 = nI T) : rn 303 [.ref 611] σ = some (.inl (some (.int (bI (toldB B T)))), σ) := by
  have hT := ht.1
  have key : ∀ (r i : Nat), i + r = T / 2 → T % 2 = 0 → exec PP 3 303 26 [some (.ref 611), some (.int 1), some (.int (nI (2 * i)))] [] σ = some (.inl (some (.int (bI ((fi (fun i => !okP B i) i r).isNone)))), σ) := by
    intro r
    induction r with
    | zero =>
      intro i hi h2
      rw [e_303_26, mI h, hl, if_neg (nI_nlt (by omega) (by omega)), e_303_78]; rfl
    | succ r ih =>
      intro i hi h2
      obtain ⟨b1, -, b3⟩ := ht.2 (2 * i) (by omega)
      obtain ⟨d1, -, d3⟩ := ht.2 (2 * i + 1) (by omega)
      have st : fi (fun i => !okP B i) i (r + 1) = if (!okP B i) = true then some i else fi (fun i => !okP B i) (i + 1) r := rfl
      have i2 : nI (2 * i) + 2 = nI (2 * (i + 1)) := by
        rw [show (2 : Int32) = nI 2 from rfl, nI_add, show 2 * i + 2 = 2 * (i + 1) by omega]
      have bad : ∀ o1 : Option Value, okP B i = false → exec PP 3 303 70 [some (.ref 611), o1, some (.int (nI (2 * i)))] [] σ = some (.inl (some (.int (bI ((fi (fun i => !okP B i) i (r + 1)).isNone)))), σ) := fun o1 ok => by
        rw [e_303_70, i2, e_303_26, mI h, hl, st, ok]
        by_cases c : 2 * (i + 1) < T
        · rw [if_pos (nI_lt c (by omega)), if_pos rfl, e_303_78]; rfl
        · rw [if_neg (nI_nlt (by omega) (by omega)), e_303_78]; rfl
      have e0 : (0 : Int32).toInt = 0 := by decide
      have e1 : (1 : Int32).toInt = 1 := by decide
      have sd := sb_t (B (2 * i + 1)) d1
      rw [e_303_26, mI h, hl, if_pos (nI_lt (by omega) (by omega)), if_neg (by decide), g8 h, a617 h (by omega), b3, m_229, onI_i, iB, sb_16 b1]
      by_cases c3 : B (2 * i) < 16
      case neg =>
        rw [if_neg (by simp [c3])]
        exact bad _ (by unfold okP; rw [decide_eq_false (by omega)])
      rw [if_pos (by simp [c3]), g8 h, nI_1, a617 h (by omega), d3, m_220, onI_i, iB, e0, e1]
      by_cases c4 : 1 < B (2 * i + 1)
      · rw [if_pos (by rw [decide_eq_false]; split at sd <;> omega)]
        exact bad _ (by unfold okP; rw [decide_eq_false (by omega)])
      · have ok : okP B i = true := by unfold okP; rw [decide_eq_true (by omega)]
        rw [if_neg (by rw [decide_eq_true (by split at sd <;> omega)]; decide), e_303_71, i2, st, ok, if_neg (by decide)]
        exact ih (i + 1) (by omega) h2
  have fl : toldB B T = false → exec PP 3 303 22 [some (.ref 611), none, none] [] σ = some (.inl (some (.int (bI (toldB B T)))), σ) := fun e => by
    rw [e_303_22, e_303_26, mI h, hl, e]
    by_cases c : (0 : Int32) < nI T
    · rw [if_pos c, if_pos rfl, e_303_78]; rfl
    · rw [if_neg c, e_303_78]; rfl
  have t40 : ((40 : Int32) < nI T) ↔ 40 < T := nI_ltI (a := 40) (by decide) (by omega)
  rw [r_303, mI h, hl, irm2 (by omega)]
  by_cases c2 : T % 2 = 0
  · rw [if_pos ((nI_0' (by omega)).mpr c2), mI h, hl]
    by_cases c1 : 40 < T
    · rw [if_pos (t40.mpr c1)]
      exact fl (by unfold toldB; rw [decide_eq_false (by omega)]; rfl)
    · rw [if_neg (fun z => c1 (t40.mp z)), e_303_23]
      have et : toldB B T = (fi (fun i => !okP B i) 0 (T / 2)).isNone := by unfold toldB; rw [decide_eq_true ⟨by omega, c2⟩, Bool.true_and]
      rw [et]
      exact key (T / 2) 0 (by omega) c2
  · rw [if_neg (fun z => c2 ((nI_0' (by omega)).mp z))]
    exact fl (by unfold toldB; rw [decide_eq_false (by omega)]; rfl)
/-! which showers fit -/
def wby (W : WW) (m a j : Nat) : Bool := (fi (fun s => m.testBit s && lies W s a j) 0 (nS W)).isSome
def stO (W : WW) (m s : Nat) : Bool := decide (sh W s 6 = 0) || (m.testBit s == decide (sh W s 6 = 1))
def fit2 (W : WW) (B : Nat → Nat) (m j i : Nat) : Bool := wby W m (B (2 * i)) j == decide (B (2 * i + 1) = 1)
def fitN (W : WW) (B : Nat → Nat) (T j m : Nat) : Bool := (fi (fun s => !stO W m s) 0 (nS W)).isNone && (fi (fun i => !fit2 W B m j i) 0 (T / 2)).isNone
theorem m_305 (h : QQ σ W L) {m a j : Nat} (ha : a < 16) (hj : j < 2147483648) : rn 305 [.ref 611, .int (nI m), .int (nI a), .int (nI j)] σ = some (.inl (some (.int (bI (wby W m a j)))), σ) := by
  have h6 := (WF_nS h.w).2
  rw [r_305]
  have key := lp0 (F := fun s (b : Bool) => exec PP 3 305 6 [some (.ref 611), some (.int (nI m)), some (.int (nI a)), some (.int (nI j)), some (.int (bI b)), some (.int (nI s))] [] σ) (g := fun s b => b || (m.testBit s && lies W s a j)) (K := fun b => some (.inl (some (.int (bI b))), σ)) (n := nS W) (by
    intro s b hs
    try dsimp only
    rw [e_305_6, if_pos h.tM, q195 h, onI_i, if_pos (nI_lt hs (by omega)), iB]
    cases b
    · rw [if_pos rfl, m_292 _ (by omega), onI_i, iB, bt_nI _ (by omega)]
      cases c : m.testBit s
      · rw [if_pos rfl, e_305_44, nI_1]; rfl
      · rw [if_neg (by decide), if_pos h.tM, q234 h hs ha hj, onI_i, iB]
        cases lies W s a j
        · rw [if_pos rfl, e_305_44, nI_1]; rfl
        · rw [if_neg (by decide), e_305_45, nI_1]; rfl
    · rw [if_neg (by decide), e_305_40, e_305_45, nI_1]; rfl) (by
    intro b
    try dsimp only
    rw [e_305_6, if_pos h.tM, q195 h, onI_i, if_neg (nI_nlt (Nat.le_refl _) (by omega)), e_305_53, if_pos (bI_01 b)]) (nS W) 0 false (by omega)
  refine key.trans ?_
  rw [fo_any]
  rfl
theorem m_304 (h : QQ σ W L) {T : Nat} {B : Nat → Nat} (ht : TP σ T B) (hl : sI σ 611 11 = nI T) (hok : toldB B T = true) {m j : Nat} (hj : j < 2147483648) : rn 304 [.ref 611, .int (nI m), .int (nI j)] σ = some (.inl (some (.int (bI (fitN W B T j m)))), σ) := by
  have h6 := (WF_nS h.w).2
  obtain ⟨⟨t1, t2⟩, t3⟩ := toldB_iff.mp hok
  have l1 := lp0 (F := fun s (b : Bool) => exec PP 4 304 5 [some (.ref 611), some (.int (nI m)), some (.int (nI j)), some (.int (bI b)), some (.int (nI s))] [] σ) (g := fun s b => b && stO W m s) (K := fun b => exec PP 4 304 70 [some (.ref 611), some (.int (nI m)), some (.int (nI j)), some (.int (bI b)), some (.int 0)] [] σ) (n := nS W) (by
    intro s b hs
    try dsimp only
    rw [e_304_5, if_pos h.tM, q195 h, onI_i, if_pos (nI_lt hs (by omega)), iB]
    cases b
    · rw [if_pos rfl, e_304_59, nI_1]; rfl
    · rw [if_neg (by decide), if_pos h.tM, q221 (f := 6) h (by omega), onI_i]
      unfold stO
      by_cases c0 : sh W s 6 = 0
      · rw [if_pos c0, e_304_55, e_304_60, nI_1, decide_eq_true c0]; rfl
      · rw [if_neg c0, m_292 _ (by omega), onI_i, if_pos h.tM, q221 (f := 6) h (by omega), onI_i, bt_nI _ (by omega), decide_eq_false c0]
        by_cases c1 : sh W s 6 = 1
        · rw [if_pos c1, e_304_52, decide_eq_true c1]
          cases m.testBit s
          · rw [if_neg (by decide), e_304_59, nI_1]; rfl
          · rw [if_pos (by decide), e_304_60, nI_1]; rfl
        · rw [if_neg c1, e_304_51, iB, decide_eq_false c1]
          cases m.testBit s
          · rw [if_pos rfl, e_304_60, nI_1]; rfl
          · rw [if_neg (by decide), e_304_59, nI_1]; rfl) (by
    intro b
    try dsimp only
    rw [e_304_5, if_pos h.tM, q195 h, onI_i, if_neg (nI_nlt (Nat.le_refl _) (by omega)), e_304_67]) (nS W) 0 true (by omega)
  have l2 := fun b0 => lp0 (F := fun i (b : Bool) => exec PP 4 304 70 [some (.ref 611), some (.int (nI m)), some (.int (nI j)), some (.int (bI b)), some (.int (nI (2 * i)))] [] σ) (g := fun i b => b && fit2 W B m j i) (K := fun b => some (.inl (some (.int (bI b))), σ)) (n := T / 2) (by
    intro i b hi
    try dsimp only
    obtain ⟨b1, b2⟩ := t3 i hi
    obtain ⟨-, -, b3⟩ := ht.2 (2 * i) (by omega)
    obtain ⟨-, -, d3⟩ := ht.2 (2 * i + 1) (by omega)
    have i2 : nI (2 * i) + 2 = nI (2 * (i + 1)) := by
        rw [show (2 : Int32) = nI 2 from rfl, nI_add, show 2 * i + 2 = 2 * (i + 1) by omega]
    rw [e_304_70, mI h, hl, if_pos (nI_lt (by omega) (by omega)), iB]
    cases b
    · rw [if_pos rfl, e_304_121, i2]; rfl
    · rw [if_neg (by decide), g8 h, a617 h (by omega), b3, if_pos h.tM, sb_nI (by omega), m_305 h b1 hj, onI_i, g8 h, nI_1, a617 h (by omega), d3, sb_nI (by omega)]
      have eq1 : nI (B (2 * i + 1)) = 1 ↔ B (2 * i + 1) = 1 := nI_eq (b := 1) (by omega) (by decide)
      unfold fit2
      by_cases c : B (2 * i + 1) = 1
      · rw [if_pos (eq1.mpr c), e_304_114, decide_eq_true c]
        cases wby W m (B (2 * i)) j
        · rw [if_neg (by decide), e_304_121, i2]; rfl
        · rw [if_pos (by decide), e_304_122, i2]; rfl
      · rw [if_neg (fun z => c (eq1.mp z)), e_304_113, iB, decide_eq_false c]
        cases wby W m (B (2 * i)) j
        · rw [if_pos rfl, e_304_122, i2]; rfl
        · rw [if_neg (by decide), e_304_121, i2]; rfl) (by
    intro b
    try dsimp only
    rw [e_304_70, mI h, hl, if_neg (nI_nlt (by omega) (by omega)), e_304_129, if_pos (bI_01 b)]) (T / 2) 0 b0 (by omega)
  rw [r_304]
  refine l1.trans ((l2 _).trans ?_)
  rw [fo_all, fo_all]
  rfl
end QH
