/-! SM's heap only grows -/
def Gro (σ : SH) (r : SR) : Prop := ∀ res σ', r = some (res, σ') → sZ σ ≤ sZ σ' ∧ sS σ ≤ sS σ'
theorem Gro.nn (σ : SH) : Gro σ none := fun _ _ h => nomatch h
theorem Gro.to {σ σ2 : SH} {r : SR} (h : Gro σ2 r) (h1 : sZ σ ≤ sZ σ2) (h2 : sS σ ≤ sS σ2) : Gro σ r := fun a b e => ⟨Nat.le_trans h1 (h a b e).1, Nat.le_trans h2 (h a b e).2⟩
theorem Gro.rt (σ : SH) (v : Option Value ⊕ Nat) : Gro σ (some (v, σ)) := fun a b e => by cases e; exact ⟨Nat.le_refl _, Nat.le_refl _⟩
theorem Gro.ite {c : Prop} [Decidable c] {σ : SH} {a b : SR} (h1 : c → Gro σ a) (h2 : ¬ c → Gro σ b) : Gro σ (if c then a else b) := by
  by_cases h : c
  · rw [if_pos h]; exact h1 h
  · rw [if_neg h]; exact h2 h
theorem Gro.aRef {σ : SH} {v : Value} {k : Nat → SR} (h : ∀ a, Gro σ (k a)) : Gro σ (aRef v k) := by
  cases v <;> first | exact h _ | exact Gro.nn _
theorem Gro.rd2 {σ : SH} {v : Value} {n : SR} {k : Nat → SR} (hn : Gro σ n) (h : ∀ a, Gro σ (k a)) : Gro σ (rd2 v n k) := by
  cases v <;> first | exact h _ | exact hn | exact Gro.nn _
theorem Gro.onV {σ : SH} {r : SR} {k : SH → SR} {kx : Nat → SH → SR} (hr : Gro σ r) (h : ∀ σ, Gro σ (k σ)) (hx : ∀ e σ, Gro σ (kx e σ)) : Gro σ (onV r k kx) := by
  rcases r with _ | ⟨⟨_ | v⟩ | e, σ1⟩
  · exact Gro.nn _
  · exact (h σ1).to (hr _ _ rfl).1 (hr _ _ rfl).2
  · exact Gro.nn _
  · exact (hx e σ1).to (hr _ _ rfl).1 (hr _ _ rfl).2
theorem Gro.onI {σ : SH} {r : SR} {k : Int32 → SH → SR} {kx : Nat → SH → SR} (hr : Gro σ r) (h : ∀ x σ, Gro σ (k x σ)) (hx : ∀ e σ, Gro σ (kx e σ)) : Gro σ (onI r k kx) := by
  rcases r with _ | ⟨⟨_ | v⟩ | e, σ1⟩
  · exact Gro.nn _
  · exact Gro.nn _
  · cases v <;> first | exact Gro.nn _ | exact (h _ σ1).to (hr _ _ rfl).1 (hr _ _ rfl).2
  · exact (hx e σ1).to (hr _ _ rfl).1 (hr _ _ rfl).2
theorem Gro.onR {σ : SH} {r : SR} {k : Nat → SH → SR} {kx : Nat → SH → SR} (hr : Gro σ r) (h : ∀ x σ, Gro σ (k x σ)) (hx : ∀ e σ, Gro σ (kx e σ)) : Gro σ (onR r k kx) := by
  rcases r with _ | ⟨⟨_ | v⟩ | e, σ1⟩
  · exact Gro.nn _
  · exact Gro.nn _
  · cases v <;> first | exact Gro.nn _ | exact (h _ σ1).to (hr _ _ rfl).1 (hr _ _ rfl).2
  · exact (hx e σ1).to (hr _ _ rfl).1 (hr _ _ rfl).2
theorem Gro.onQ {σ : SH} {r : SR} {kn : SH → SR} {k : Nat → SH → SR} {kx : Nat → SH → SR} (hr : Gro σ r) (hn : ∀ σ, Gro σ (kn σ)) (h : ∀ x σ, Gro σ (k x σ)) (hx : ∀ e σ, Gro σ (kx e σ)) : Gro σ (onQ r kn k kx) := by
  rcases r with _ | ⟨⟨_ | v⟩ | e, σ1⟩
  · exact Gro.nn _
  · exact Gro.nn _
  · cases v <;> first | exact Gro.nn _ | exact (h _ σ1).to (hr _ _ rfl).1 (hr _ _ rfl).2 | exact (hn σ1).to (hr _ _ rfl).1 (hr _ _ rfl).2
  · exact (hx e σ1).to (hr _ _ rfl).1 (hr _ _ rfl).2
theorem Gro.doC {σ : SH} {r : Nat} {a : SR} {L : SL} {st : List Value} {k : SL → List Value → SH → SR} {kx : Nat → SH → SR} (hr : Gro σ a) (h : ∀ L st σ, Gro σ (k L st σ)) (hx : ∀ e σ, Gro σ (kx e σ)) : Gro σ (doC r a L st k kx) := by
  match r with
  | 0 => exact Gro.onV hr (fun _ => h _ _ _) hx
  | 1 => exact Gro.onI hr (fun _ _ => h _ _ _) hx
  | 2 => exact Gro.onR hr (fun _ _ => h _ _ _) hx
  | n + 3 => exact Gro.onQ hr (fun _ => h _ _ _) (fun _ _ => h _ _ _) hx
theorem Gro.kxc (h : Option Int32) (e : Nat) (σ : SH) : Gro σ (kxc h e σ) := by
  cases h with
  | none => exact Gro.rt _ _
  | some c => exact Gro.ite (fun _ => Gro.nn _) (fun _ => Gro.rt _ _)
theorem Gro.tsw {σ : SH} {x : Int32} {d : SR} {E : Nat → SR} (hd : Gro σ d) (hE : ∀ t, Gro σ (E t)) : ∀ (ts : List Int) (i : Int), Gro σ (tsw x i ts d E)
  | [], _ => hd
  | t :: r, i => Gro.ite (fun _ => hE _) (fun _ => Gro.tsw hd hE r (i + 1))
theorem Gro.cnd {σ : SH} {c : ClassFile.Cond} {x y : Int32} {a b : SR} (ha : Gro σ a) (hb : Gro σ b) : Gro σ (cnd c x y a b) := by
  cases c <;> exact Gro.ite (fun _ => by assumption) (fun _ => by assumption)
set_option maxHeartbeats 4000000 in
theorem step1_gro {C : Nat → List Value → SH → SR} {X : Nat → Nat → Option Int32} {E : Nat → SL → List Value → SH → SR} {pc : Nat} {i : Instr} {L : SL} {st : List Value} {σ : SH} {k : SL → List Value → SH → SR}
    (hC : ∀ id a σ, Gro σ (C id a σ)) (hE : ∀ p L st σ, Gro σ (E p L st σ)) (hk : ∀ L st σ, Gro σ (k L st σ)) : Gro σ (step1 C X E pc i L st σ k) := by
  unfold step1
  cases i
  all_goals dsimp only
  all_goals repeat' first
    | exact hk _ _ σ
    | exact hE _ _ _ σ
    | exact Gro.nn _
    | exact Gro.rt _ _
    | exact Gro.doC (hC _ _ _) hk (fun _ _ => Gro.kxc _ _ _)
    | exact Gro.doC (hC _ _ _) hk (fun _ _ => Gro.nn _)
    | exact Gro.tsw (hE _ _ _ _) (fun _ => hE _ _ _ _) _ _
    | exact Gro.cnd (hE _ _ _ _) (hk _ _ _)
    | exact Gro.aRef (fun _ => Gro.ite (fun _ => hk _ _ _) (fun _ => Gro.nn _))
    | exact Gro.aRef (fun _ => Gro.ite (fun _ => Gro.aRef (fun _ => hk _ _ _)) (fun _ => Gro.nn _))
    | exact Gro.aRef (fun _ => Gro.ite (fun _ => Gro.rd2 (hk _ _ _) (fun _ => hk _ _ _)) (fun _ => Gro.nn _))
    | exact Gro.aRef (fun _ => Gro.ite (fun _ => (hk _ _ _).to (Nat.le_refl _) (Nat.le_refl _)) (fun _ => Gro.nn _))
    | exact Gro.aRef (fun _ => Gro.ite (fun _ => Gro.rd2 ((hk _ _ _).to (Nat.le_refl _) (Nat.le_refl _)) (fun _ => (hk _ _ _).to (Nat.le_refl _) (Nat.le_refl _))) (fun _ => Gro.nn _))
    | exact Gro.aRef (fun _ => Gro.aRef (fun _ => Gro.ite (fun _ => (hk _ _ _).to (Nat.le_refl _) (Nat.le_refl _)) (fun _ => Gro.nn _)))
    | exact (hk _ _ _).to (Nat.le_succ _) (Nat.le_add_right _ _)
    | exact (Gro.rt _ _).to (Nat.le_succ _) (Nat.le_add_right _ _)
    | exact Gro.ite (fun _ => Gro.nn _) (fun _ => (hk _ _ _).to (Nat.le_succ _) (Nat.le_add_right _ _))
    | refine Gro.ite (fun _ => ?_) (fun _ => ?_)
    | split
theorem runL_gro {C : Nat → List Value → SH → SR} {X : Nat → Nat → Option Int32} {E : Nat → SL → List Value → SH → SR}
    (hC : ∀ id a σ, Gro σ (C id a σ)) (hE : ∀ p L st σ, Gro σ (E p L st σ)) : ∀ (is : List (Nat × Instr)) (L : SL) (st : List Value) (σ : SH), Gro σ (runL C X E is L st σ)
  | [], _, _, _ => Gro.nn _
  | r :: is, L, st, σ => step1_gro hC hE (fun L st σ => runL_gro hC hE is L st σ)
theorem execN_gro (P : SP) : ∀ (n d m pc : Nat) (L : SL) (st : List Value) (σ : SH), Gro σ (execN P n d m pc L st σ)
  | 0, _, _, _, _, _, _ => Gro.nn _
  | n + 1, d, m, pc, L, st, σ => by
    unfold execN
    refine runL_gro (fun id a σ => ?_) (fun p L st σ => execN_gro P n d m p L st σ) _ _ _ _
    cases calD P d id with
    | none => exact Gro.nn _
    | some d' => exact execN_gro P n d' id 0 _ _ _
