def Le (a b : SR) : Prop := ∀ y, a = some y → b = some y
theorem Le.rf (a : SR) : Le a a := fun _ h => h
theorem Le.nn (b : SR) : Le none b := fun _ h => nomatch h
theorem Le.ite {c : Prop} [Decidable c] {a b a' b' : SR} (h1 : c → Le a a') (h2 : ¬ c → Le b b') : Le (if c then a else b) (if c then a' else b') := by
  by_cases h : c
  · rw [if_pos h, if_pos h]; exact h1 h
  · rw [if_neg h, if_neg h]; exact h2 h
theorem Le.aRef {v : Value} {k k' : Nat → SR} (h : ∀ a, Le (k a) (k' a)) : Le (aRef v k) (aRef v k') := by
  cases v <;> first | exact h _ | exact Le.nn _
theorem Le.rd2 {v : Value} {n n' : SR} {k k' : Nat → SR} (hn : Le n n') (h : ∀ a, Le (k a) (k' a)) : Le (rd2 v n k) (rd2 v n' k') := by
  cases v <;> first | exact h _ | exact hn | exact Le.nn _
theorem Le.onV {r r' : SR} {k k' : SH → SR} {kx kx' : Nat → SH → SR} (hr : Le r r') (h : ∀ σ, Le (k σ) (k' σ)) (hx : ∀ e σ, Le (kx e σ) (kx' e σ)) : Le (onV r k kx) (onV r' k' kx') := by
  rcases r with _ | ⟨⟨_ | v⟩ | e, σ⟩
  · exact Le.nn _
  · rw [hr _ rfl]; exact h σ
  · exact Le.nn _
  · rw [hr _ rfl]; exact hx e σ
theorem Le.onI {r r' : SR} {k k' : Int32 → SH → SR} {kx kx' : Nat → SH → SR} (hr : Le r r') (h : ∀ x σ, Le (k x σ) (k' x σ)) (hx : ∀ e σ, Le (kx e σ) (kx' e σ)) : Le (onI r k kx) (onI r' k' kx') := by
  rcases r with _ | ⟨⟨_ | v⟩ | e, σ⟩
  · exact Le.nn _
  · exact Le.nn _
  · cases v <;> first | exact Le.nn _ | (rw [hr _ rfl]; exact h _ σ)
  · rw [hr _ rfl]; exact hx e σ
theorem Le.onR {r r' : SR} {k k' : Nat → SH → SR} {kx kx' : Nat → SH → SR} (hr : Le r r') (h : ∀ x σ, Le (k x σ) (k' x σ)) (hx : ∀ e σ, Le (kx e σ) (kx' e σ)) : Le (onR r k kx) (onR r' k' kx') := by
  rcases r with _ | ⟨⟨_ | v⟩ | e, σ⟩
  · exact Le.nn _
  · exact Le.nn _
  · cases v <;> first | exact Le.nn _ | (rw [hr _ rfl]; exact h _ σ)
  · rw [hr _ rfl]; exact hx e σ
theorem Le.onQ {r r' : SR} {kn kn' : SH → SR} {k k' : Nat → SH → SR} {kx kx' : Nat → SH → SR} (hr : Le r r') (hn : ∀ σ, Le (kn σ) (kn' σ)) (h : ∀ x σ, Le (k x σ) (k' x σ)) (hx : ∀ e σ, Le (kx e σ) (kx' e σ)) : Le (onQ r kn k kx) (onQ r' kn' k' kx') := by
  rcases r with _ | ⟨⟨_ | v⟩ | e, σ⟩
  · exact Le.nn _
  · exact Le.nn _
  · cases v <;> first | exact Le.nn _ | (rw [hr _ rfl]; first | exact h _ σ | exact hn σ)
  · rw [hr _ rfl]; exact hx e σ
theorem Le.doC {r : Nat} {a a' : SR} {L : SL} {st : List Value} {k k' : SL → List Value → SH → SR} {kx kx' : Nat → SH → SR} (hr : Le a a') (h : ∀ L st σ, Le (k L st σ) (k' L st σ)) (hx : ∀ e σ, Le (kx e σ) (kx' e σ)) : Le (doC r a L st k kx) (doC r a' L st k' kx') := by
  match r with
  | 0 => exact Le.onV hr (fun _ => h _ _ _) hx
  | 1 => exact Le.onI hr (fun _ _ => h _ _ _) hx
  | 2 => exact Le.onR hr (fun _ _ => h _ _ _) hx
  | n + 3 => exact Le.onQ hr (fun _ => h _ _ _) (fun _ _ => h _ _ _) hx
theorem Le.tsw {x : Int32} {d d' : SR} {E E' : Nat → SR} (hd : Le d d') (hE : ∀ t, Le (E t) (E' t)) : ∀ (ts : List Int) (i : Int), Le (tsw x i ts d E) (tsw x i ts d' E')
  | [], _ => hd
  | t :: r, i => Le.ite (fun _ => hE _) (fun _ => Le.tsw hd hE r (i + 1))
theorem Le.cnd {c : ClassFile.Cond} {x y : Int32} {a b a' b' : SR} (ha : Le a a') (hb : Le b b') : Le (cnd c x y a b) (cnd c x y a' b') := by
  cases c <;> exact Le.ite (fun _ => by assumption) (fun _ => by assumption)
set_option maxHeartbeats 4000000 in
theorem step1_mono {C C' : Nat → List Value → SH → SR} {X : Nat → Nat → Option Int32} {E E' : Nat → SL → List Value → SH → SR} {pc : Nat} {i : Instr} {L : SL} {st : List Value} {σ : SH} {k k' : SL → List Value → SH → SR}
    (hC : ∀ id a σ, Le (C id a σ) (C' id a σ)) (hE : ∀ p L st σ, Le (E p L st σ) (E' p L st σ)) (hk : ∀ L st σ, Le (k L st σ) (k' L st σ)) : Le (step1 C X E pc i L st σ k) (step1 C' X E' pc i L st σ k') := by
  unfold step1
  cases i
  all_goals dsimp only
  all_goals repeat' first
    | exact hk _ _ _
    | exact hE _ _ _ _
    | exact Le.nn _
    | exact Le.rf _
    | exact hC _ _ _
    | exact Le.doC (hC _ _ _) hk (fun _ _ => Le.rf _)
    | exact Le.tsw (hE _ _ _ _) (fun _ => hE _ _ _ _) _ _
    | exact Le.cnd (hE _ _ _ _) (hk _ _ _)
    | exact Le.aRef (fun _ => Le.ite (fun _ => hk _ _ _) (fun _ => Le.rf _))
    | exact Le.aRef (fun _ => Le.ite (fun _ => Le.aRef (fun _ => hk _ _ _)) (fun _ => Le.rf _))
    | exact Le.aRef (fun _ => Le.ite (fun _ => Le.rd2 (hk _ _ _) (fun _ => hk _ _ _)) (fun _ => Le.rf _))
    | exact Le.aRef (fun _ => Le.aRef (fun _ => Le.ite (fun _ => hk _ _ _) (fun _ => Le.rf _)))
    | refine Le.ite (fun _ => ?_) (fun _ => ?_)
    | split
theorem runL_mono {C C' : Nat → List Value → SH → SR} {X : Nat → Nat → Option Int32} {E E' : Nat → SL → List Value → SH → SR}
    (hC : ∀ id a σ, Le (C id a σ) (C' id a σ)) (hE : ∀ p L st σ, Le (E p L st σ) (E' p L st σ)) : ∀ (is : List (Nat × Instr)) (L : SL) (st : List Value) (σ : SH), Le (runL C X E is L st σ) (runL C' X E' is L st σ)
  | [], _, _, _ => Le.nn _
  | r :: is, L, st, σ => step1_mono hC hE (fun L st σ => runL_mono hC hE is L st σ)
theorem execN_succ (P : SP) : ∀ (n d m pc : Nat) (L : SL) (st : List Value) (σ : SH), Le (execN P n d m pc L st σ) (execN P (n + 1) d m pc L st σ)
  | 0, _, _, _, _, _, _ => Le.nn _
  | n + 1, d, m, pc, L, st, σ => by
    unfold execN
    refine runL_mono (fun id a σ => ?_) (fun p L st σ => execN_succ P n d m p L st σ) _ _ _ _
    cases calD P d id with
    | none => exact Le.nn _
    | some d' => exact execN_succ P n d' id 0 _ _ _
theorem execN_mono (P : SP) {n n' : Nat} (h : n ≤ n') (d m pc : Nat) (L : SL) (st : List Value) (σ : SH) : Le (execN P n d m pc L st σ) (execN P n' d m pc L st σ) := by
  induction h with
  | refl => exact Le.rf _
  | step _ ih => exact fun y h => execN_succ P _ d m pc L st σ y (ih y h)
/-- the machine's answer with whatever fuel it needs -/
noncomputable def exec (P : SP) (d m pc : Nat) (L : SL) (st : List Value) (σ : SH) : SR := @dite SR (∃ n y, execN P n d m pc L st σ = some y) (Classical.propDecidable _) (fun h => some (Classical.choose (Classical.choose_spec h))) (fun _ => none)
theorem exec_of {P : SP} {n d m pc : Nat} {L : SL} {st : List Value} {σ : SH} {y : (Option Value ⊕ Nat) × SH} (h : execN P n d m pc L st σ = some y) : exec P d m pc L st σ = some y := by
  have hx : ∃ n y, execN P n d m pc L st σ = some y := ⟨n, y, h⟩
  unfold exec
  rw [dif_pos hx]
  have h2 := Classical.choose_spec (Classical.choose_spec hx)
  have h3 := execN_mono P (Nat.le_max_left n (Classical.choose hx)) d m pc L st σ _ h
  have h4 := execN_mono P (Nat.le_max_right n (Classical.choose hx)) d m pc L st σ _ h2
  exact h4.symm.trans h3
theorem exec_to {P : SP} {d m pc : Nat} {L : SL} {st : List Value} {σ : SH} {y : (Option Value ⊕ Nat) × SH} (h : exec P d m pc L st σ = some y) : ∃ n, execN P n d m pc L st σ = some y := by
  unfold exec at h
  by_cases hx : ∃ n y, execN P n d m pc L st σ = some y
  · rw [dif_pos hx] at h
    exact ⟨_, h ▸ Classical.choose_spec (Classical.choose_spec hx)⟩
  · rw [dif_neg hx] at h
    cases h
/-- a call -/
noncomputable def callE (P : SP) (d : Nat) (id : Nat) (args : List Value) (σ : SH) : SR := match calD P d id with
  | some d' => exec P d' id 0 (lcl P id args) [] σ
  | none => none
theorem Le.eq {a b : SR} (h1 : Le a b) (h2 : Le b a) : a = b := by
  cases a with
  | some y => exact (h1 y rfl).symm
  | none =>
    cases b with
    | none => rfl
    | some y => exact h2 y rfl
