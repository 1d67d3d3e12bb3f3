/-! What SM's heap says of the machine's heap. D: the state and arguments at the law's entry, real addresses, the formatter, classes, slots -/
abbrev SD : Type := State × Array Value × (Nat → Nat) × Value × (Nat → ClassId) × (Nat → Nat → Nat)
def tr (D : SD) : Value → Value
  | .ref n => if n = 39 then D.2.2.2.1 else .ref (D.2.2.1 n)
  | v => v
def fv (D : SD) (σ : SH) (a c k : Nat) : Value := if isRf c k = true then tr D (sV σ a k) else .int (sI σ a k)
/-- as long as a row says, as far as the machine can tell -/
def szB (cell : Cell) (n : Nat) : Prop := n ≤ cell.slots.size ∧ cell.slots.size.toInt32 = Int32.ofNat n
theorem szB.of {cell : Cell} {n : Nat} (h : cell.slots.size = n) : szB cell n := ⟨Nat.le_of_eq h.symm, by rw [h]⟩
theorem szB.nin {cell : Cell} {n : Nat} {i : Int32} (h : szB cell n) (hin : ¬ (i < 0 ∨ n ≤ i.toNatClampNeg)) : ¬ (i < 0 ∨ cell.slots.size ≤ i.toNatClampNeg) := fun z => hin (z.imp_right (Nat.le_trans h.1))
def okInt (D : SD) (σ : SH) (H : Heap) (a : Nat) : Prop := ∃ cell : Cell, H[D.2.2.1 a]? = some cell ∧ D.1.isArrayOf cell .int ∧ cell.vm ≠ .unknown ∧ cell.slots.size = sN σ a ∧ ∀ i, i < sN σ a → cell.slots[i]? = some (.int (sI σ a i))
def okByt (D : SD) (σ : SH) (H : Heap) (a : Nat) : Prop := ∃ cell : Cell, H[D.2.2.1 a]? = some cell ∧ D.1.isArrayOf cell .byte ∧ cell.vm ≠ .unknown ∧ szB cell (sN σ a) ∧ ∀ i, i < sN σ a → cell.slots[i]? = some (.int (sI σ a i))
def okLng (D : SD) (σ : SH) (H : Heap) (a : Nat) : Prop := ∃ cell : Cell, H[D.2.2.1 a]? = some cell ∧ D.1.isArrayOf cell .long ∧ cell.vm ≠ .unknown ∧ cell.slots.size = sN σ a ∧ ∀ i, i < sN σ a → cell.slots[i]? = some (.long (sJ σ a i))
def okRow (D : SD) (σ : SH) (H : Heap) (a c : Nat) : Prop := ∃ (cell : Cell) (kA : Class) (comp : ClassId), H[D.2.2.1 a]? = some cell ∧ (∀ q, cell.vm ≠ .statics q) ∧ cell.vm ≠ .unknown ∧ D.1.vm.classes[cell.cls]? = some kA ∧ kA.kind = .array comp (.object (cN c)) ∧ (sT σ a ≠ 6 → D.1.vm.findClass (cN c) = some comp) ∧ szB cell (sN σ a) ∧ ∀ i, i < sN σ a → cell.slots[i]? = some (tr D (sV σ a i))
def okObj (D : SD) (σ : SH) (H : Heap) (a c : Nat) : Prop := ∃ cell : Cell, H[D.2.2.1 a]? = some cell ∧ cell.cls = D.2.2.2.2.1 c ∧ cell.vm.isStatics = false ∧ cell.vm ≠ .unknown ∧ (200 ≤ a → cell.vm = .none) ∧ ∀ k, k < nf c → cell.slots[D.2.2.2.2.2 c k]? = some (fv D σ a c k)
def okC (D : SD) (σ : SH) (H : Heap) (a : Nat) : Prop :=
  ((sT σ a = 1 ∨ sT σ a = 4) → okInt D σ H a) ∧ ((sT σ a = 2 ∨ sT σ a = 5) → okByt D σ H a) ∧ (sT σ a = 3 → okLng D σ H a) ∧
  (∀ c, (sT σ a = 10 + c ∧ c < 90) ∨ (sT σ a = 6 ∧ c = 9) → okRow D σ H a c) ∧ (∀ c, sT σ a = 100 + c → c < 14 → okObj D σ H a c)
def Rep (D : SD) (σ : SH) (H : Heap) : Prop := 200 ≤ sZ σ ∧ H.size = D.1.heap.size + (sZ σ - 200) ∧ (∀ q, q < D.1.heap.size → H[q]? = D.1.heap[q]?) ∧
  (∀ a, a < 200 → sT σ a = 0 ∨ sT σ a = 4 ∨ sT σ a = 5 ∨ sT σ a = 6 ∨ sT σ a = 109 ∨ sT σ a = 113) ∧ (∀ a, sZ σ ≤ a → sT σ a = 0) ∧ sT σ 39 = 0 ∧ ∀ a, okC D σ H a
/-- a static's value -/
def stOk (D : SD) (n : Nat) : Prop := va_Z (nthD stTab n ("", "", "")).1 (nthD stTab n ("", "", "")).2.1 (nthD stTab n ("", "", "")).2.2 (tr D (.ref n)) (fun q => D.1.heap.size ≤ q) D.1 D.1.heap
/-- a field as the tables have it -/
def FF (s : State) (D : SD) (c k : Nat) : Prop := ∃ cf kf fi fd, s.fieldFound? (fT c k).1 (fT c k).2.1 (fT c k).2.2.1 = some (cf, kf, fi, fd) ∧ fd.isStatic = false ∧ fd.slot = D.2.2.2.2.2 c k
def Wld (l : Launch) (D : SD) : Prop := l.stackTraces = false ∧ (∀ w ∈ lw_tbl, w.before D.2.1 D.1 = true) ∧ (∀ a, 200 ≤ a → D.2.2.1 a = D.1.heap.size + (a - 200)) ∧ (∀ a, a < 200 → D.2.2.1 a < D.1.heap.size) ∧ (D.2.2.2.1 = .null ∨ ∃ q, D.2.2.2.1 = .ref q) ∧
  (∀ c, c < 14 → (D.1.vm.findClass (cN c) = some (D.2.2.2.2.1 c) ∧ (c ≠ 9 → c ≠ 13 → ClassAt D.1 (cN c) (D.2.2.2.2.1 c))) ∧ ∀ k, k < nf c → FF D.1 D c k) ∧ (∀ a b, a < 38 → b < 38 → D.2.2.1 a = D.2.2.1 b → a = b) ∧ (∀ n, n < 40 → stOk D n) ∧
  va_Z "java/lang/String" "COMPACT_STRINGS" "Z" (.int 1) (fun q => D.1.heap.size ≤ q) D.1 D.1.heap ∧ (∀ q ∈ srTab, vk_R "ArchEndsModel" q.2.1 q.2.2 (D.2.2.1 q.1) D.1) ∧
  vx_Zq Bundle.tN "UNASSIGNED_STACK" Bundle.steD (fun q => D.1.heap.size ≤ q) D.1 D.1.heap ∧ vx_Zq Bundle.tN "SUPPRESSED_SENTINEL" Bundle.listD (fun q => D.1.heap.size ≤ q) D.1 D.1.heap ∧
  (∀ c, c < 13 → c ≠ 9 → ∀ j k, j < nf c → k < nf c → j ≠ k → D.2.2.2.2.2 c j ≠ D.2.2.2.2.2 c k) ∧
  (∀ x y, x < 5 → y < 5 → x ≠ y → va_Nc (eN x) (eN y) D.1)
/-- the pairs of set locals -/
def prs (D : SD) (L : SL) : List (Nat × Value) := (List.range L.length).filterMap fun i => match L[i]? with
  | some (some v) => some (i, tr D v)
  | _ => none
def lR (D : SD) (ls : Array Slot) (n : Nat) (L : SL) : Prop := L.length ≤ n ∧ lv_has ls n (prs D L)
theorem prs_mem {D : SD} {L : SL} {q : Nat × Value} : q ∈ prs D L ↔ ∃ v, L[q.1]? = some (some v) ∧ q.2 = tr D v := by
  unfold prs
  rw [List.mem_filterMap]
  constructor
  · rintro ⟨i, _, h⟩
    split at h
    · rename_i v hv
      cases h
      exact ⟨v, hv, rfl⟩
    · cases h
  · rintro ⟨v, h1, h2⟩
    refine ⟨q.1, List.mem_range.mpr (List.getElem?_eq_some_iff.mp h1).1, ?_⟩
    rw [h1]
    dsimp only
    rw [← h2]
theorem lR_get {D : SD} {ls : Array Slot} {n i : Nat} {L : SL} {v : Value} (h : lR D ls n L) (hv : L[i]? = some (some v)) : ls[i]? = some (.val (tr D v)) := h.2.2.2 (i, tr D v) (prs_mem.mpr ⟨v, hv, rfl⟩)
theorem lR_of {D : SD} {ls : Array Slot} {n : Nat} {L : SL} {l : List (Nat × Value)} (hn : L.length ≤ n) (h : lv_has ls n l) (hl : ∀ i v, L[i]? = some (some v) → (i, tr D v) ∈ l) : lR D ls n L := by
  refine ⟨hn, h.1, h.2.1, fun q hq => ?_⟩
  obtain ⟨v, h1, h2⟩ := prs_mem.mp hq
  have := h.2.2 _ (hl q.1 v h1)
  rw [h2]
  exact this
theorem tr_ref {D : SD} (hfm : D.2.2.2.1 = .null ∨ ∃ q, D.2.2.2.1 = .ref q) (a : Nat) : tr D (.ref a) = .null ∨ ∃ q, tr D (.ref a) = .ref q := by
  unfold tr
  dsimp only
  split
  · exact hfm
  · exact Or.inr ⟨_, rfl⟩
theorem tr_at {D : SD} {a : Nat} (h : a ≠ 39) : tr D (.ref a) = .ref (D.2.2.1 a) := if_neg h
theorem tr_cat {D : SD} (hfm : D.2.2.2.1 = .null ∨ ∃ q, D.2.2.2.1 = .ref q) (v : Value) : (tr D v).category = cat2 v := by
  cases v
  case ref a => rcases tr_ref hfm a with q | ⟨b, q⟩ <;> rw [q] <;> rfl
  all_goals rfl
theorem ok1_tr {D : SD} {w : Value} (hfm : D.2.2.2.1 = .null ∨ ∃ q, D.2.2.2.1 = .ref q) (h : ok1 (some (some w)) = true) : ¬ (tr D w).category = 2 := by
  rw [tr_cat hfm]
  cases w <;> simp [ok1, cat2] at h ⊢
theorem stL_len {L L' : SL} {i : Nat} {v : Value} (h : stL L i v = some L') : i < L.length ∧ L' = L.set i (some v) ∧ (i = 0 ∨ ok1 L[i - 1]? = true) := by
  unfold stL at h
  split at h
  · rename_i hi
    split at h
    · rename_i h0
      cases h
      exact ⟨hi, rfl, Or.inl h0⟩
    · split at h
      · rename_i h1
        cases h
        exact ⟨hi, rfl, Or.inr h1⟩
      · cases h
  · cases h
/-- behind a store of one word -/
theorem lR_st {D : SD} {ls ls' : Array Slot} {n i : Nat} {L L' : SL} {v : Value} (hfm : D.2.2.2.1 = .null ∨ ∃ q, D.2.2.2.1 = .ref q) (h : lR D ls n L) (hs : stL L i v = some L')
    (hl : lv_has ls' n ((i, tr D v) :: (prs D L).filter (fun q => !(q.1 == i) && !(q.1 + 1 == i && q.2.category == 2)))) : lR D ls' n L' := by
  obtain ⟨hi, rfl, ho⟩ := stL_len hs
  refine lR_of (by rw [List.length_set]; exact h.1) hl fun j w hj => ?_
  by_cases e : j = i
  · subst e
    rw [List.getElem?_set_self hi] at hj
    cases hj
    exact List.mem_cons_self
  · rw [List.getElem?_set_ne (fun q => e q.symm)] at hj
    refine List.mem_cons_of_mem _ (List.mem_filter.mpr ⟨prs_mem.mpr ⟨w, hj, rfl⟩, ?_⟩)
    simp only [Bool.and_eq_true, Bool.not_eq_true', beq_eq_false_iff_ne, ne_eq, Bool.and_eq_false_iff]
    refine ⟨e, ?_⟩
    by_cases e2 : j + 1 = i
    · refine Or.inr ?_
      rcases ho with h0 | h1
      · omega
      · have : i - 1 = j := by omega
        rw [this, hj] at h1
        exact ok1_tr hfm h1
    · exact Or.inl e2
theorem kil_get : ∀ (L : SL) (m i : Nat) (v : Value), (kilL m L)[i]? = some (some v) → L[i]? = some (some v)
  | [], _, _, _, h => by simp [kilL] at h
  | x :: r, m, 0, v, h => by
    simp only [kilL, List.getElem?_cons_zero] at h ⊢
    split at h
    · cases h
    · exact h
  | x :: r, m, i + 1, v, h => by
    simp only [kilL, List.getElem?_cons_succ] at h ⊢
    exact kil_get r (m / 2) i v h
theorem kil_len : ∀ (L : SL) (m : Nat), (kilL m L).length = L.length
  | [], _ => rfl
  | x :: r, m => by simp [kilL, kil_len r (m / 2)]
theorem lR_kil {D : SD} {ls : Array Slot} {n m : Nat} {L : SL} (h : lR D ls n L) : lR D ls n (kilL m L) :=
  lR_of (by rw [kil_len]; exact h.1) h.2 fun i v hv => prs_mem.mpr ⟨v, kil_get L m i v hv, rfl⟩
