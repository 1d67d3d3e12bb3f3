/-! who walks where: f b k how long broker b walks to place k; n brokers -/
def lmg (t : Nat) (v : Nat → Nat) : Nat → Nat → Nat := fun k x => if t.testBit k = true then x else if v k < x then v k else x
def lsN (n : Nat) (f : Nat → Nat → Nat) : Nat → Nat → Nat
  | 0, _ => 0
  | r + 1, t => fo (lmg t (fun k => f (n - (r + 1)) k + lsN n f r (t ||| 2 ^ k))) 0 n 100000000
def lv (n : Nat) (f : Nat → Nat → Nat) (r t k : Nat) : Nat := f (n - (r + 1)) k + lsN n f r (t ||| 2 ^ k)
theorem lsN_s (n : Nat) (f : Nat → Nat → Nat) (r t : Nat) : lsN n f (r + 1) t = fo (lmg t (lv n f r t)) 0 n 100000000 := rfl
def pc (t : Nat) : Nat := (bc (nI t)).toInt.toNat
theorem pc_bc : ∀ t, t < 32 → bc (nI t) = nI (pc t) ∧ pc t ≤ 5 := by decide +kernel
theorem pc_or : ∀ k, k < 5 → ∀ t, t < 32 → t.testBit k = false → pc (t ||| 2 ^ k) = pc t + 1 ∧ t < t ||| 2 ^ k := by decide +kernel
theorem or_lt : ∀ n, n ≤ 5 → ∀ k, k < n → ∀ t, t < 2 ^ n → t ||| 2 ^ k < 2 ^ n := by decide +kernel
theorem or_lt5 : ∀ k, k < 5 → ∀ t, t < 32 → t ||| 2 ^ k < 32 := by decide +kernel
theorem pc_free : ∀ n, n ≤ 5 → ∀ t, t < 2 ^ n → pc t ≤ n ∧ (pc t < n ↔ t < 2 ^ n - 1) ∧ (pc t < n → ∃ k, k < n ∧ t.testBit k = false) := by decide +kernel
theorem pc_0 : pc 0 = 0 := by decide +kernel
theorem or_nI : ∀ k, k < 5 → ∀ t, t < 32 → nI t ||| shl 1 (nI k) = nI (t ||| 2 ^ k) := by decide +kernel
theorem ix_32 : ∀ b, b < 6 → ∀ t, t < 32 → shl (nI b) 5 + nI t = nI (32 * b + t) := by decide +kernel
theorem lmg_le {t : Nat} {v : Nat → Nat} {n I k0 : Nat} (h : k0 < n) (hf : t.testBit k0 = false) : fo (lmg t v) 0 n I ≤ v k0 := by
  have := fo_inv (g := lmg t v) (I := fun i x => i ≤ k0 ∨ x ≤ v k0) n 0 I (Or.inl (by omega)) (fun j x h1 h2 hI => by
    unfold lmg
    by_cases c : t.testBit j = true
    · rw [if_pos c]
      rcases hI with hI | hI
      · left
        by_cases e : j = k0
        · subst e; rw [hf] at c; cases c
        · omega
      · exact Or.inr hI
    · rw [if_neg c]
      by_cases e : j = k0
      · subst e
        right
        split <;> omega
      · rcases hI with hI | hI
        · left; omega
        · right; split <;> omega)
  rcases this with h1 | h1
  · omega
  · exact h1
theorem lmg_init {t : Nat} {v : Nat → Nat} {n I : Nat} : fo (lmg t v) 0 n I ≤ I := by
  have := fo_inv (g := lmg t v) (I := fun _ x => x ≤ I) n 0 I (Nat.le_refl _) (fun j x _ _ hI => by
    unfold lmg
    split
    · exact hI
    · split <;> omega)
  exact this
theorem lmg_at {t : Nat} {v : Nat → Nat} {n I : Nat} : fo (lmg t v) 0 n I = I ∨ ∃ k, k < n ∧ t.testBit k = false ∧ v k = fo (lmg t v) 0 n I := by
  have := fo_inv (g := lmg t v) (I := fun i x => x = I ∨ ∃ k, k < i ∧ t.testBit k = false ∧ v k = x) n 0 I (Or.inl rfl) (fun j x h1 h2 hI => by
    have keep : (x = I ∨ ∃ k, k < j + 1 ∧ t.testBit k = false ∧ v k = x) := hI.elim Or.inl (fun ⟨k, a, b, c⟩ => Or.inr ⟨k, by omega, b, c⟩)
    unfold lmg
    cases c : t.testBit j
    · rw [if_neg (by decide)]
      split
      · exact Or.inr ⟨j, by omega, c, rfl⟩
      · exact keep
    · rw [if_pos rfl]; exact keep)
  rw [Nat.zero_add] at this
  exact this
theorem lmg_two {t : Nat} {v : Nat → Nat} {n : Nat} (hv : ∀ k, k < n → t.testBit k = false → v k < 1000) (hx : ∃ k, k < n ∧ t.testBit k = false) : fo (lmg t v) 0 n 1000 = fo (lmg t v) 0 n 100000000 := by
  obtain ⟨k0, k1, k2⟩ := hx
  have key : ∀ i, i ≤ n → fo (lmg t v) 0 i 1000 = fo (lmg t v) 0 i 100000000 ∨ (fo (lmg t v) 0 i 1000 = 1000 ∧ fo (lmg t v) 0 i 100000000 = 100000000 ∧ i ≤ k0) := by
    intro i
    induction i with
    | zero => exact fun _ => Or.inr ⟨rfl, rfl, by omega⟩
    | succ i ih =>
      intro hi
      rw [fo_last, fo_last, Nat.zero_add]
      rcases ih (by omega) with e | ⟨e1, e2, e3⟩
      · rw [e]; exact Or.inl rfl
      · rw [e1, e2]
        unfold lmg
        cases c : t.testBit i
        · have := hv i (by omega) c
          have n1 : ¬ (false = true) := by decide
          rw [if_neg n1, if_neg n1, if_pos this, if_pos (show v i < 100000000 by omega)]
          exact Or.inl rfl
        · rw [if_pos rfl, if_pos rfl]
          refine Or.inr ⟨rfl, rfl, ?_⟩
          by_cases z : i = k0
          · subst z; rw [k2] at c; cases c
          · omega
  rcases key n (Nat.le_refl _) with e | ⟨-, -, e⟩
  · exact e
  · omega
theorem lsN_le {n : Nat} {f : Nat → Nat → Nat} : ∀ r t, lsN n f r t ≤ 100000000
  | 0, _ => by show 0 ≤ _; omega
  | r + 1, t => lmg_init
theorem lsN_bd {n : Nat} (hn : n ≤ 5) {f : Nat → Nat → Nat} (hf : ∀ b k, b < n → k < n → f b k ≤ 15) : ∀ r t, t < 2 ^ n → pc t + r = n → lsN n f r t ≤ 15 * r
  | 0, _, _, _ => Nat.le_refl 0
  | r + 1, t, ht, hp => by
    have h32 : t < 32 := Nat.lt_of_lt_of_le ht (Nat.pow_le_pow_right (n := 2) (by omega) hn)
    obtain ⟨k0, k1, k2⟩ := (pc_free n hn t ht).2.2 (by omega)
    have h1 : lsN n f (r + 1) t ≤ lv n f r t k0 := lmg_le k1 k2
    have h2 := lsN_bd hn hf r (t ||| 2 ^ k0) (or_lt n hn k0 k1 t ht) (by rw [(pc_or k0 (by omega) t h32 k2).1]; omega)
    have h3 := hf (n - (r + 1)) k0 (by omega) k1
    unfold lv at h1
    omega
theorem lv_bd {n : Nat} (hn : n ≤ 5) {f : Nat → Nat → Nat} (hf : ∀ b k, b < n → k < n → f b k ≤ 15) {r t k : Nat} (ht : t < 2 ^ n) (hp : pc t + (r + 1) = n) (hk : k < n) (hfr : t.testBit k = false) : lv n f r t k < 1000 := by
  have h32 : t < 32 := Nat.lt_of_lt_of_le ht (Nat.pow_le_pow_right (n := 2) (by omega) hn)
  have h2 := lsN_bd hn hf r (t ||| 2 ^ k) (or_lt n hn k hk t ht) (by rw [(pc_or k (by omega) t h32 hfr).1]; omega)
  have h3 := hf (n - (r + 1)) k (by omega) hk
  unfold lv
  omega
/-- the first place that keeps the minutes fewest -/
def plp (n : Nat) (f : Nat → Nat → Nat) (r t k : Nat) : Bool := !t.testBit k && decide (lv n f r t k = lsN n f (r + 1) t)
theorem pl_ex {n : Nat} (hn : n ≤ 5) {f : Nat → Nat → Nat} (hf : ∀ b k, b < n → k < n → f b k ≤ 15) {r t : Nat} (ht : t < 2 ^ n) (hp : pc t + (r + 1) = n) : ∃ k, fi (plp n f r t) 0 n = some k ∧ k < n ∧ t.testBit k = false := by
  have hb := lsN_bd hn hf (r + 1) t ht hp
  have : ∃ k, k < n ∧ plp n f r t k = true := by
    rcases lmg_at (t := t) (v := lv n f r t) (n := n) (I := 100000000) with e | ⟨k, a, b, c⟩
    · have : lsN n f (r + 1) t = 100000000 := e
      omega
    · refine ⟨k, a, ?_⟩
      unfold plp
      rw [b, lsN_s, c, decide_eq_true rfl]; rfl
  obtain ⟨k, a, b⟩ := this
  have hs : (fi (plp n f r t) 0 n).isSome = true := fi_some_iff.mpr ⟨k, by omega, by omega, b⟩
  cases e : fi (plp n f r t) 0 n with
  | none => rw [e] at hs; cases hs
  | some q =>
    obtain ⟨c1, -, c3, -⟩ := fi_some _ _ _ e
    refine ⟨q, rfl, by omega, ?_⟩
    unfold plp at c1
    rw [Bool.and_eq_true, Bool.not_eq_true'] at c1
    exact c1.1
def plg (n : Nat) (f : Nat → Nat → Nat) : Nat → Nat × Nat → Nat × Nat := fun b s => match fi (plp n f (n - (b + 1)) s.1) 0 n with
  | some k => (s.1 ||| 2 ^ k, k)
  | none => s
def plN (n : Nat) (f : Nat → Nat → Nat) (b : Nat) : Nat := (fo (plg n f) 0 (b + 1) (0, 0)).2
section QK
variable {σ : SH} {W L : WW}
/-- how long each walks to each told place -/
def wkN (W : WW) (B : Nat → Nat) (b k : Nat) : Nat := mtN W b (B k)
theorem wk_le (hW : WF W) {B : Nat → Nat} (hB : ∀ k, k < nB W → B k < 16) : ∀ b k, b < nB W → k < nB W → wkN W B b k ≤ 15 := fun b k hb hk => by
  have := mtN_lt hW hb (hB k hk)
  unfold wkN
  omega
theorem a298 (h : ShX σ) {j : Nat} (hj : j < 32) (k : Int32 → SR) : aI σ 1 (.ref 298) (nI j) k = k (sI σ 298 j) := aI_r h.2.2.2.2.2.2.1.2.2.2.2.2.1 (by rw [h.2.2.2.2.2.2.1.2.2.2.2.2.2.2.2.2.2.2]; exact hj) (by rw [h.2.2.2.2.2.2.1.2.2.2.2.2.2.2.2.2.2.2]; decide)
theorem w298 (h : ShX σ) {j : Nat} (hj : j < 32) (x : Int32) (k : SH → SR) : uI σ (.ref 298) (nI j) x k = k (wI σ 298 j x) := uI_r h.2.2.2.2.2.2.1.2.2.2.2.2.1 (by rw [h.2.2.2.2.2.2.1.2.2.2.2.2.2.2.2.2.2.2]; exact hj) (by rw [h.2.2.2.2.2.2.1.2.2.2.2.2.2.2.2.2.2.2]; decide)
theorem a297 (h : ShX σ) {j : Nat} (hj : j < 5) (k : Int32 → SR) : aI σ 1 (.ref 297) (nI j) k = k (sI σ 297 j) := aI_r h.2.2.2.2.2.2.1.2.2.2.2.1 (by rw [h.2.2.2.2.2.2.1.2.2.2.2.2.2.2.2.2.2.1]; exact hj) (by rw [h.2.2.2.2.2.2.1.2.2.2.2.2.2.2.2.2.2.1]; decide)
theorem w297 (h : ShX σ) {j : Nat} (hj : j < 5) (x : Int32) (k : SH → SR) : uI σ (.ref 297) (nI j) x k = k (wI σ 297 j x) := uI_r h.2.2.2.2.2.2.1.2.2.2.2.1 (by rw [h.2.2.2.2.2.2.1.2.2.2.2.2.2.2.2.2.2.1]; exact hj) (by rw [h.2.2.2.2.2.2.1.2.2.2.2.2.2.2.2.2.2.1]; decide)
/-- rows 297, 298 -/
def K3 (a _k : Nat) : Prop := a = 297 ∨ a = 298
theorem QQ.k3 (h : QQ σ W L) {σ' : SH} (k : Kp K3 σ σ') : QQ σ' W L := h.k (k.mono fun a k z => by unfold K3 at z; unfold Scr; omega)
def placeB (W : WW) (B : Nat → Nat) (T : Nat) : Bool := decide (T = nB W) && (fi (fun k => !decide (B k < 16)) 0 (nB W)).isNone
theorem placeB_iff {B : Nat → Nat} {T : Nat} : placeB W B T = true ↔ T = nB W ∧ ∀ k, k < nB W → B k < 16 := by
  unfold placeB
  rw [Bool.and_eq_true, decide_eq_true_iff, fi_none_iff]
  refine ⟨fun ⟨a, b⟩ => ⟨a, fun i hi => ?_⟩, fun ⟨a, b⟩ => ⟨a, fun i _ hi => ?_⟩⟩
  · have := b i (by omega) (by omega)
    simpa using this
  · rw [decide_eq_true (b i (by omega))]; rfl
theorem m_65 (h : QQ σ W L) {T : Nat} {B : Nat → Nat} (ht : TP σ T B) (hl : sI σ 201 1 = nI T) : ∃ σ', rn 65 [.ref 292, .ref 201] σ = some (.inl (some (.int (bI (placeB W B T)))), σ') ∧ Kp K3 σ σ' ∧ (placeB W B T = true → ∀ k, k < nB W → sI σ' 297 k = nI (B k)) := by
  have h5 := (WF_nB h.w).2
  have hT := ht.1
  rw [r_65, tpI h.x, hl, mk0 h.x, c5 h]
  by_cases c : T = nB W
  case neg =>
    have e : placeB W B T = false := by unfold placeB; rw [decide_eq_false c]; rfl
    refine ⟨σ, ?_, Kp.rf _, fun z => by rw [e] at z; cases z⟩
    rw [if_neg (fun z => c ((nI_eq (by omega) (by omega)).mp z)), e]; rfl
  rw [if_pos (by rw [c]), e_65_16]
  have key : ∀ (r i : Nat) (σ1 : SH), i + r = nB W → Kp K3 σ σ1 → (∀ k, k < i → sI σ1 297 k = nI (B k)) → ∃ σ', exec PP 1 65 18 [some (.ref 292), some (.ref 201), some (.int (nI i))] [] σ1 = some (.inl (some (.int (bI ((fi (fun k => !decide (B k < 16)) i r).isNone)))), σ') ∧ Kp K3 σ σ' ∧ ((fi (fun k => !decide (B k < 16)) i r).isNone = true → ∀ k, k < nB W → sI σ' 297 k = nI (B k)) := by
    intro r
    induction r with
    | zero =>
      intro i σ1 hi hk hv
      have h1 := h.k3 hk
      have ei : i = nB W := by omega
      refine ⟨σ1, ?_, hk, fun _ k hk2 => hv k (by omega)⟩
      rw [e_65_18, mk0 h1.x, c5 h1, if_neg (nI_nlt (by omega) (by omega)), e_65_60]; rfl
    | succ r ih =>
      intro i σ1 hi hk hv
      have h1 := h.k3 hk
      have ht1 := ht.kp hk (by unfold K3; omega) (by unfold K3; omega)
      obtain ⟨b1, b2, -⟩ := ht1.2 i (by omega)
      have e16 : (nI (B i) < 16) ↔ B i < 16 := nI_ltI (b := 16) (by omega) (by decide)
      have st : fi (fun k => !decide (B k < 16)) i (r + 1) = if (!decide (B i < 16)) = true then some i else fi (fun k => !decide (B k < 16)) (i + 1) r := rfl
      rw [st, e_65_18, mk0 h1.x, c5 h1, if_pos (nI_lt (by omega) (by omega)), tp0 h1.x, tpb h1.x (by omega), b2]
      by_cases c3 : B i < 16
      · rw [if_pos (e16.mpr c3), e_65_42, mk6 h1.x, tp0 h1.x, tpb h1.x (by omega), b2, w297 h1.x (by omega), nI_1, decide_eq_true c3, if_neg (by decide)]
        refine ih (i + 1) _ (by omega) (hk.wr (Or.inl rfl)) (fun k hk2 => ?_)
        by_cases e : k = i
        · subst e; exact sI_wIs _ _ _ _
        · rw [sI_wIn (by omega)]; exact hv k (by omega)
      · refine ⟨σ1, ?_, hk, fun z => by rw [decide_eq_false c3] at z; cases z⟩
        rw [if_neg (fun z => c3 (e16.mp z)), decide_eq_false c3]; rfl
  obtain ⟨σ', e1, e2, e3⟩ := key (nB W) 0 σ (by omega) (Kp.rf _) (fun k hk => by omega)
  have ep : placeB W B T = (fi (fun k => !decide (B k < 16)) 0 (nB W)).isNone := by unfold placeB; rw [decide_eq_true c, Bool.true_and]
  rw [ep]
  exact ⟨σ', e1, e2, e3⟩
/-- the class's table -/
def FW (σ : SH) (n : Nat) (f : Nat → Nat → Nat) (t0 : Nat) : Prop := ∀ t, t0 ≤ t → t < 2 ^ n → sI σ 298 t = nI (lsN n f (n - pc t) t)
theorem m_67 (h : QQ σ W L) {B : Nat → Nat} (hB : ∀ k, k < nB W → B k < 16) (hP : ∀ k, k < nB W → sI σ 297 k = nI (B k)) {t k : Nat} (hF : FW σ (nB W) (wkN W B) (t + 1)) (ht : t < 2 ^ nB W) (hk : k < nB W) (hfr : t.testBit k = false) (hp : pc t < nB W) : rn 67 [.ref 292, .int (nI t), .int (nI (pc t)), .int (nI k)] σ = some (.inl (some (.int (nI (lv (nB W) (wkN W B) (nB W - (pc t + 1)) t k)))), σ) := by
  have h5 := (WF_nB h.w).2
  have h32 : t < 32 := Nat.lt_of_lt_of_le ht (Nat.pow_le_pow_right (n := 2) (by omega) h5)
  obtain ⟨q1, q2⟩ := pc_or k (by omega) t h32 hfr
  have q3 := or_lt _ h5 k hk t ht
  rw [r_67, mk0 h.x, cs1 h, cB' h hp, mk6 h.x, a297 h.x (by omega), hP k hk, if_pos (tB' h hp), m_3 h hp (hB k hk), onI_i, mk7 h.x, or_nI k (by omega) t h32, a298 h.x (or_lt5 k (by omega) t h32), hF (t ||| 2 ^ k) (by omega) q3, q1, nI_add]
  unfold lv wkN
  rw [show nB W - (nB W - (pc t + 1) + 1) = pc t by omega]
theorem m_66 (h : QQ σ W L) {B : Nat → Nat} (hB : ∀ k, k < nB W → B k < 16) (hP : ∀ k, k < nB W → sI σ 297 k = nI (B k)) : ∃ σ', rn 66 [.ref 292] σ = some (.inl none, σ') ∧ Kp (fun a _ => a = 298) σ σ' ∧ FW σ' (nB W) (wkN W B) 0 := by
  have h5 := (WF_nB h.w).2
  have wk := wk_le h.w hB
  have P32 : 2 ^ nB W ≤ 32 := Nat.pow_le_pow_right (n := 2) (by omega) h5
  have P1 : 1 ≤ 2 ^ nB W := Nat.one_le_two_pow
  have k8 : ∀ {σ' : SH}, Kp (fun a _ => a = 298) σ σ' → QQ σ' W L := fun k => h.k3 (k.mono fun a k z => Or.inr z)
  have key : ∀ (t : Nat) (σ1 : SH) (o1 o4 : Option Value), t < 2 ^ nB W → Kp (fun a _ => a = 298) σ σ1 → FW σ1 (nB W) (wkN W B) t → ∃ σ', exec PP 4 66 23 [some (.ref 292), o1, some (.int (nI t - 1)), none, o4, none] [] σ1 = some (.inl none, σ') ∧ Kp (fun a _ => a = 298) σ σ' ∧ FW σ' (nB W) (wkN W B) 0 := by
    intro t
    induction t with
    | zero =>
      intro σ1 o1 o4 _ hk hF
      refine ⟨σ1, ?_, hk, hF⟩
      rw [e_66_23, if_pos (by decide), e_66_104]
    | succ t ih =>
      intro σ1 o1 o4 ht hk hF
      have h1 := k8 hk
      have ht0 : t < 2 ^ nB W := by omega
      have h32 : t < 32 := by omega
      obtain ⟨pb1, pb2⟩ := pc_bc t h32
      obtain ⟨pf1, pf2, pf3⟩ := pc_free _ h5 t ht0
      have hp : pc t < nB W := pf2.mpr (by omega)
      have hP1 : ∀ k, k < nB W → sI σ1 297 k = nI (B k) := fun k hk2 => by rw [hk.2 297 k (by omega)]; exact hP k hk2
      have inner := lpI (F := fun k x => exec PP 4 66 40 [some (.ref 292), none, some (.int (nI t)), some (.int (nI (pc t))), some (.int (nI x)), some (.int (nI k))] [] σ1) (g := lmg t (lv (nB W) (wkN W B) (nB W - (pc t + 1)) t)) (K := fun x => exec PP 4 66 90 [some (.ref 292), none, some (.int (nI t)), none, some (.int (nI x)), none] [] σ1) (I := fun _ x => x ≤ 1000) (n := nB W) (by
        intro k x hk2 hx
        have hlt := fun c => lv_bd h5 wk (r := nB W - (pc t + 1)) ht0 (by omega) hk2 c
        refine ⟨?_, by
          unfold lmg
          cases c : t.testBit k
          · have := hlt c
            rw [if_neg (by decide)]; split <;> omega
          · rw [if_pos rfl]; exact hx⟩
        try dsimp only
        rw [e_66_40, mk0 h1.x, c5 h1, if_pos (nI_lt hk2 (by omega)), m_128 _ (by omega), onI_i, iB, bt_nI _ (by omega)]
        cases c : t.testBit k
        · have l0 : ¬ lv (nB W) (wkN W B) (nB W - (pc t + 1)) t k < x → lmg t (lv (nB W) (wkN W B) (nB W - (pc t + 1)) t) k x = x := fun z => (if_neg (by rw [c]; decide)).trans (if_neg z)
          have l1 : lv (nB W) (wkN W B) (nB W - (pc t + 1)) t k < x → lmg t (lv (nB W) (wkN W B) (nB W - (pc t + 1)) t) k x = lv (nB W) (wkN W B) (nB W - (pc t + 1)) t k := fun z => (if_neg (by rw [c]; decide)).trans (if_pos z)
          have hl := hlt c
          have m67 := m_67 h1 hB hP1 hF ht0 hk2 c hp
          rw [if_pos rfl, if_pos (tMk h1.x), m67, onI_i]
          by_cases q : lv (nB W) (wkN W B) (nB W - (pc t + 1)) t k < x
          · rw [if_pos (nI_lt q (by omega)), if_pos (tMk h1.x), m67, onI_i, l1 q, nI_1]
          · rw [if_neg (nI_nlt (by omega) (by omega)), e_66_84, l0 q, nI_1]
        · rw [if_neg (by decide), e_66_84, nI_1, show lmg t (lv (nB W) (wkN W B) (nB W - (pc t + 1)) t) k x = x from if_pos c]) (by
        intro x hx
        try dsimp only
        rw [e_66_40, mk0 h1.x, c5 h1, if_neg (nI_nlt (Nat.le_refl _) (by omega)), e_66_90, e_66_90]) (nB W) 0 1000 (by omega) (Nat.le_refl _)
      have v2 : fo (lmg t (lv (nB W) (wkN W B) (nB W - (pc t + 1)) t)) 0 (nB W) 1000 = lsN (nB W) (wkN W B) (nB W - pc t) t := by
        rw [lmg_two (fun k hk2 c => lv_bd h5 wk ht0 (by omega) hk2 c) (pf3 hp), ← lsN_s, show nB W - (pc t + 1) + 1 = nB W - pc t by omega]
      rw [v2] at inner
      have hk' : Kp (fun a _ => a = 298) σ (wI σ1 298 t (nI (lsN (nB W) (wkN W B) (nB W - pc t) t))) := hk.wr rfl
      obtain ⟨σ', e1, e2, e3⟩ := ih (wI σ1 298 t (nI (lsN (nB W) (wkN W B) (nB W - pc t) t))) none (some (.int (nI (lsN (nB W) (wkN W B) (nB W - pc t) t)))) ht0 hk' (fun t' h1 h2 => by
        by_cases e : t' = t
        · subst e; exact sI_wIs _ _ _ _
        · rw [sI_wIn (by omega)]; exact hF t' (by omega) h2)
      refine ⟨σ', ?_, e2, e3⟩
      have hm : nI (t + 1) - 1 = nI t := nI_pred t
      rw [e_66_23, hm, if_neg (nI_pos (by omega)), m_325, onI_i, pb1]
      refine (inner.trans ?_)
      rw [e_66_90, mk7 h1.x, w298 h1.x h32]
      have hm2 : nI t + -1 = nI t - 1 := by rw [Int32.sub_eq_add_neg]
      rw [hm2]
      exact e1
  have pa : pc (2 ^ nB W - 1) = nB W := by
    obtain ⟨pf1, pf2, -⟩ := pc_free _ h5 (2 ^ nB W - 1) (by omega)
    have : ¬ pc (2 ^ nB W - 1) < nB W := fun z => by have := pf2.mp z; omega
    omega
  obtain ⟨σ', e1, e2, e3⟩ := key (2 ^ nB W - 1) (wI σ 298 (2 ^ nB W - 1) 0) (some (.int (nI (2 ^ nB W - 1)))) none (by omega) (Kp.w rfl) (fun t h1 h2 => by
    have : t = 2 ^ nB W - 1 := by omega
    subst this
    rw [sI_wIs, pa, Nat.sub_self]; rfl)
  refine ⟨σ', ?_, e2, e3⟩
  rw [r_66, mk0 h.x, c5 h, mk7 h.x, shl1N _ (by omega), sub_1 (by omega), w298 h.x (by omega)]
  exact e1
theorem m_70 (h : QQ σ W L) {B : Nat → Nat} (hB : ∀ k, k < nB W → B k < 16) (hP : ∀ k, k < nB W → sI σ 297 k = nI (B k)) (hF : FW σ (nB W) (wkN W B) 0) {t : Nat} (ht : t < 2 ^ nB W) (hp : pc t < nB W) : rn 70 [.ref 292, .int (nI t), .int (nI (pc t))] σ = some (.inl (some (.int (oI (fi (plp (nB W) (wkN W B) (nB W - (pc t + 1)) t) 0 (nB W))))), σ) := by
  have h5 := (WF_nB h.w).2
  have wk := wk_le h.w hB
  have P32 : 2 ^ nB W ≤ 32 := Nat.pow_le_pow_right (n := 2) (by omega) h5
  have hF1 : FW σ (nB W) (wkN W B) (t + 1) := fun t' h1 h2 => hF t' (by omega) h2
  rw [r_70]
  have key := lpE (F := fun k => exec PP 4 70 2 [some (.ref 292), some (.int (nI t)), some (.int (nI (pc t))), some (.int (nI k))] [] σ) (p := plp (nB W) (wkN W B) (nB W - (pc t + 1)) t) (R := fun k => some (.inl (some (.int (nI k))), σ)) (K := some (.inl (some (.int (-1))), σ)) (n := nB W) (by
    intro k hk
    try dsimp only
    have e1 := hF t (by omega) ht
    have hb := lsN_bd h5 wk (nB W - pc t) t ht (by omega)
    rw [e_70_2, mk0 h.x, c5 h, if_pos (nI_lt hk (by omega)), m_128 _ (by omega), onI_i, iB, bt_nI _ (by omega)]
    unfold plp
    cases c : t.testBit k
    · have hl := lv_bd h5 wk (r := nB W - (pc t + 1)) ht (by omega) hk c
      rw [if_pos rfl, if_pos (tMk h.x), m_67 h hB hP hF1 ht hk c hp, onI_i, mk7 h.x, a298 h.x (by omega), e1, show nB W - (pc t + 1) + 1 = nB W - pc t by omega]
      by_cases q : lv (nB W) (wkN W B) (nB W - (pc t + 1)) t k = lsN (nB W) (wkN W B) (nB W - pc t) t
      · rw [if_pos (by rw [q]), if_pos (by simp [q])]
      · rw [if_neg (fun z => q ((nI_eq (by omega) (by omega)).mp z)), e_70_39, nI_1, if_neg (by simp [q])]
    · rw [if_neg (by decide), e_70_39, nI_1, if_neg (by simp)]) (by
    try dsimp only
    rw [e_70_2, mk0 h.x, c5 h, if_neg (nI_nlt (Nat.le_refl _) (by omega)), e_70_45]) (nB W) 0 (by omega)
  refine key.trans ?_
  cases fi (plp (nB W) (wkN W B) (nB W - (pc t + 1)) t) 0 (nB W) <;> rfl
theorem m_69 (h : QQ σ W L) {B : Nat → Nat} (hB : ∀ k, k < nB W → B k < 16) (hP : ∀ k, k < nB W → sI σ 297 k = nI (B k)) (hF : FW σ (nB W) (wkN W B) 0) {b : Nat} (hb : b < nB W) : rn 69 [.ref 292, .int (nI b)] σ = some (.inl (some (.int (nI (plN (nB W) (wkN W B) b)))), σ) := by
  have h5 := (WF_nB h.w).2
  have wk := wk_le h.w hB
  have P32 : 2 ^ nB W ≤ 32 := Nat.pow_le_pow_right (n := 2) (by omega) h5
  rw [r_69]
  refine lpI (F := fun w (s : Nat × Nat) => exec PP 5 69 7 [some (.ref 292), some (.int (nI b)), some (.int (nI s.1)), some (.int (if w = 0 then -1 else nI s.2)), some (.int (nI w))] [] σ) (g := plg (nB W) (wkN W B)) (K := fun s => some (.inl (some (.int (nI s.2))), σ)) (I := fun w s => s.1 < 2 ^ nB W ∧ pc s.1 = w) (n := b + 1) ?_ ?_ (b + 1) 0 (0, 0) (by omega) ⟨Nat.one_le_two_pow, pc_0⟩
  · rintro w s hw ⟨i1, i2⟩
    try dsimp only
    obtain ⟨k, e1, e2, e3⟩ := pl_ex h5 wk (r := nB W - (w + 1)) i1 (by omega)
    have eg : plg (nB W) (wkN W B) w s = (s.1 ||| 2 ^ k, k) := by unfold plg; rw [e1]
    rw [eg]
    have h32 : s.1 < 32 := by omega
    refine ⟨?_, or_lt _ h5 k e2 _ i1, ?_⟩
    · have m70 := m_70 h hB hP hF i1 (by omega)
      rw [i2] at m70
      rw [e_69_7, if_neg (nI_nlt (by omega) (by omega)), if_pos (tMk h.x), m70, onI_i, e1, if_neg (show ¬ oI (some k) = -1 from nI_neg (by omega)), e_69_28, show oI (some k) = nI k from rfl, or_nI k (by omega) _ h32, nI_1, if_neg (by omega)]
    · show pc (s.1 ||| 2 ^ k) = w + 1
      rw [(pc_or k (by omega) _ h32 e3).1, i2]
  · rintro s ⟨i1, i2⟩
    try dsimp only
    rw [e_69_7, if_pos (nI_lt (by omega) (by omega)), e_69_40, if_neg (by omega)]
end QK
