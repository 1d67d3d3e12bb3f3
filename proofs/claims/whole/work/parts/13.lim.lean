/-- a chain and its limit -/
def Lim (f : Nat → SR) (g : SR) : Prop := (∀ n n', n ≤ n' → Le (f n) (f n')) ∧ ∀ y, g = some y → ∃ n, f n = some y
theorem Lim.rf (a : SR) : Lim (fun _ => a) a := ⟨fun _ _ _ => Le.rf _, fun _ h => ⟨0, h⟩⟩
theorem Lim.ite {c : Prop} [Decidable c] {a b : Nat → SR} {a' b' : SR} (h1 : c → Lim a a') (h2 : ¬ c → Lim b b') : Lim (fun n => if c then a n else b n) (if c then a' else b') := by
  by_cases h : c
  · simp only [if_pos h]; exact h1 h
  · simp only [if_neg h]; exact h2 h
theorem Lim.aRef {v : Value} {k : Nat → Nat → SR} {k' : Nat → SR} (h : ∀ a, Lim (fun n => k n a) (k' a)) : Lim (fun n => aRef v (k n)) (aRef v k') := by
  cases v <;> first | exact h _ | exact Lim.rf _
theorem Lim.rd2 {v : Value} {n : Nat → SR} {n' : SR} {k : Nat → Nat → SR} {k' : Nat → SR} (hn : Lim n n') (h : ∀ a, Lim (fun n => k n a) (k' a)) : Lim (fun i => rd2 v (n i) (k i)) (rd2 v n' k') := by
  cases v <;> first | exact h _ | exact hn | exact Lim.rf _
theorem Lim.two {f g : Nat → SR} {f' : SR} {y z : (Option Value ⊕ Nat) × SH} (hf : Lim f f') (e : f' = some y) (hg : ∀ n n', n ≤ n' → Le (g n) (g n')) (e2 : ∃ n, g n = some z) : ∃ n, f n = some y ∧ g n = some z := by
  obtain ⟨n1, h1⟩ := hf.2 y e
  obtain ⟨n2, h2⟩ := e2
  exact ⟨max n1 n2, hf.1 _ _ (Nat.le_max_left _ _) _ h1, hg _ _ (Nat.le_max_right _ _) _ h2⟩
theorem Lim.onV {r : Nat → SR} {r' : SR} {k : Nat → SH → SR} {k' : SH → SR} {kx : Nat → SH → SR} (hr : Lim r r') (h : ∀ σ, Lim (fun n => k n σ) (k' σ)) : Lim (fun n => onV (r n) (k n) kx) (onV r' k' kx) := by
  refine ⟨fun n n' hn => Le.onV (hr.1 n n' hn) (fun σ => (h σ).1 n n' hn) (fun _ _ => Le.rf _), fun y hy => ?_⟩
  rcases hr' : r' with _ | ⟨⟨_ | v⟩ | e, σ⟩
  · rw [hr'] at hy; cases hy
  · rw [hr'] at hy
    obtain ⟨n, a, b⟩ := hr.two hr' (h σ).1 ((h σ).2 y hy)
    exact ⟨n, by dsimp only; rw [a]; exact b⟩
  · rw [hr'] at hy; cases hy
  · rw [hr'] at hy
    obtain ⟨n, a⟩ := hr.2 _ hr'
    exact ⟨n, by dsimp only; rw [a]; exact hy⟩
theorem Lim.onI {r : Nat → SR} {r' : SR} {k : Nat → Int32 → SH → SR} {k' : Int32 → SH → SR} {kx : Nat → SH → SR} (hr : Lim r r') (h : ∀ x σ, Lim (fun n => k n x σ) (k' x σ)) : Lim (fun n => onI (r n) (k n) kx) (onI r' k' kx) := by
  refine ⟨fun n n' hn => Le.onI (hr.1 n n' hn) (fun x σ => (h x σ).1 n n' hn) (fun _ _ => Le.rf _), fun y hy => ?_⟩
  rcases hr' : r' with _ | ⟨⟨_ | v⟩ | e, σ⟩
  · rw [hr'] at hy; cases hy
  · rw [hr'] at hy; cases hy
  · rw [hr'] at hy
    cases v with
    | int x =>
      obtain ⟨n, a, b⟩ := hr.two hr' (h x σ).1 ((h x σ).2 y hy)
      exact ⟨n, by dsimp only; rw [a]; exact b⟩
    | _ => cases hy
  · rw [hr'] at hy
    obtain ⟨n, a⟩ := hr.2 _ hr'
    exact ⟨n, by dsimp only; rw [a]; exact hy⟩
theorem Lim.onR {r : Nat → SR} {r' : SR} {k : Nat → Nat → SH → SR} {k' : Nat → SH → SR} {kx : Nat → SH → SR} (hr : Lim r r') (h : ∀ x σ, Lim (fun n => k n x σ) (k' x σ)) : Lim (fun n => onR (r n) (k n) kx) (onR r' k' kx) := by
  refine ⟨fun n n' hn => Le.onR (hr.1 n n' hn) (fun x σ => (h x σ).1 n n' hn) (fun _ _ => Le.rf _), fun y hy => ?_⟩
  rcases hr' : r' with _ | ⟨⟨_ | v⟩ | e, σ⟩
  · rw [hr'] at hy; cases hy
  · rw [hr'] at hy; cases hy
  · rw [hr'] at hy
    cases v with
    | ref x =>
      obtain ⟨n, a, b⟩ := hr.two hr' (h x σ).1 ((h x σ).2 y hy)
      exact ⟨n, by dsimp only; rw [a]; exact b⟩
    | _ => cases hy
  · rw [hr'] at hy
    obtain ⟨n, a⟩ := hr.2 _ hr'
    exact ⟨n, by dsimp only; rw [a]; exact hy⟩
theorem Lim.onQ {r : Nat → SR} {r' : SR} {m : Nat → SH → SR} {m' : SH → SR} {k : Nat → Nat → SH → SR} {k' : Nat → SH → SR} {kx : Nat → SH → SR} (hr : Lim r r') (hm : ∀ σ, Lim (fun n => m n σ) (m' σ)) (h : ∀ x σ, Lim (fun n => k n x σ) (k' x σ)) : Lim (fun n => onQ (r n) (m n) (k n) kx) (onQ r' m' k' kx) := by
  refine ⟨fun n n' hn => Le.onQ (hr.1 n n' hn) (fun σ => (hm σ).1 n n' hn) (fun x σ => (h x σ).1 n n' hn) (fun _ _ => Le.rf _), fun y hy => ?_⟩
  rcases hr' : r' with _ | ⟨⟨_ | v⟩ | e, σ⟩
  · rw [hr'] at hy; cases hy
  · rw [hr'] at hy; cases hy
  · rw [hr'] at hy
    cases v with
    | ref x =>
      obtain ⟨n, a, b⟩ := hr.two hr' (h x σ).1 ((h x σ).2 y hy)
      exact ⟨n, by dsimp only; rw [a]; exact b⟩
    | null =>
      obtain ⟨n, a, b⟩ := hr.two hr' (hm σ).1 ((hm σ).2 y hy)
      exact ⟨n, by dsimp only; rw [a]; exact b⟩
    | _ => cases hy
  · rw [hr'] at hy
    obtain ⟨n, a⟩ := hr.2 _ hr'
    exact ⟨n, by dsimp only; rw [a]; exact hy⟩
theorem Lim.doC {r : Nat} {a : Nat → SR} {a' : SR} {L : SL} {st : List Value} {k : Nat → SL → List Value → SH → SR} {k' : SL → List Value → SH → SR} {kx : Nat → SH → SR} (hr : Lim a a') (h : ∀ L st σ, Lim (fun n => k n L st σ) (k' L st σ)) : Lim (fun n => doC r (a n) L st (k n) kx) (doC r a' L st k' kx) := by
  match r with
  | 0 => exact Lim.onV hr (fun _ => h _ _ _)
  | 1 => exact Lim.onI hr (fun _ _ => h _ _ _)
  | 2 => exact Lim.onR hr (fun _ _ => h _ _ _)
  | n + 3 => exact Lim.onQ hr (fun _ => h _ _ _) (fun _ _ => h _ _ _)
theorem Lim.tsw {x : Int32} {d : Nat → SR} {d' : SR} {E : Nat → Nat → SR} {E' : Nat → SR} (hd : Lim d d') (hE : ∀ t, Lim (fun n => E n t) (E' t)) : ∀ (ts : List Int) (i : Int), Lim (fun n => tsw x i ts (d n) (E n)) (tsw x i ts d' E')
  | [], _ => hd
  | t :: r, i => Lim.ite (fun _ => hE _) (fun _ => Lim.tsw hd hE r (i + 1))
theorem Lim.cnd {c : ClassFile.Cond} {x y : Int32} {a b : Nat → SR} {a' b' : SR} (ha : Lim a a') (hb : Lim b b') : Lim (fun n => cnd c x y (a n) (b n)) (cnd c x y a' b') := by
  cases c <;> exact Lim.ite (fun _ => by assumption) (fun _ => by assumption)
set_option maxHeartbeats 4000000 in
theorem step1_lim {C : Nat → Nat → List Value → SH → SR} {C' : Nat → List Value → SH → SR} {X : Nat → Nat → Option Int32} {E : Nat → Nat → SL → List Value → SH → SR} {E' : Nat → SL → List Value → SH → SR} {pc : Nat} {i : Instr} {L : SL} {st : List Value} {σ : SH} {k : Nat → SL → List Value → SH → SR} {k' : SL → List Value → SH → SR}
    (hC : ∀ id a σ, Lim (fun n => C n id a σ) (C' id a σ)) (hE : ∀ p L st σ, Lim (fun n => E n p L st σ) (E' p L st σ)) (hk : ∀ L st σ, Lim (fun n => k n L st σ) (k' L st σ)) : Lim (fun n => step1 (C n) X (E n) pc i L st σ (k n)) (step1 C' X E' pc i L st σ k') := by
  unfold step1
  cases i
  all_goals dsimp only
  all_goals repeat' first
    | exact hk _ _ _
    | exact hE _ _ _ _
    | exact Lim.rf _
    | exact hC _ _ _
    | exact Lim.doC (hC _ _ _) hk
    | exact Lim.tsw (hE _ _ _ _) (fun _ => hE _ _ _ _) _ _
    | exact Lim.cnd (hE _ _ _ _) (hk _ _ _)
    | exact Lim.aRef (fun _ => Lim.ite (fun _ => hk _ _ _) (fun _ => Lim.rf _))
    | exact Lim.aRef (fun _ => Lim.ite (fun _ => Lim.aRef (fun _ => hk _ _ _)) (fun _ => Lim.rf _))
    | exact Lim.aRef (fun _ => Lim.ite (fun _ => Lim.rd2 (hk _ _ _) (fun _ => hk _ _ _)) (fun _ => Lim.rf _))
    | exact Lim.aRef (fun _ => Lim.aRef (fun _ => Lim.ite (fun _ => hk _ _ _) (fun _ => Lim.rf _)))
    | refine Lim.ite (fun _ => ?_) (fun _ => ?_)
    | split
theorem runL_lim {C : Nat → Nat → List Value → SH → SR} {C' : Nat → List Value → SH → SR} {X : Nat → Nat → Option Int32} {E : Nat → Nat → SL → List Value → SH → SR} {E' : Nat → SL → List Value → SH → SR}
    (hC : ∀ id a σ, Lim (fun n => C n id a σ) (C' id a σ)) (hE : ∀ p L st σ, Lim (fun n => E n p L st σ) (E' p L st σ)) : ∀ (is : List (Nat × Instr)) (L : SL) (st : List Value) (σ : SH), Lim (fun n => runL (C n) X (E n) is L st σ) (runL C' X E' is L st σ)
  | [], _, _, _ => Lim.rf _
  | r :: is, L, st, σ => step1_lim hC hE (fun L st σ => runL_lim hC hE is L st σ)
/-- THE MACHINE'S EQUATION -/
theorem exec_eq (P : SP) (d m pc : Nat) (L : SL) (st : List Value) (σ : SH) : exec P d m pc L st σ = runL (callE P d) (P.2.2.1 m) (exec P d m) (seek pc (P.1 m)) L st σ := by
  refine Le.eq (fun y h => ?_) (fun y h => ?_)
  · obtain ⟨n, hn⟩ := exec_to h
    cases n with
    | zero => cases hn
    | succ n =>
      unfold execN at hn
      refine runL_mono (fun id a σ => ?_) (fun p L st σ y h => exec_of h) _ _ _ _ y hn
      unfold callE
      cases calD P d id with
      | none => exact Le.nn _
      | some d' => exact fun y h => exec_of h
  · have hl := runL_lim (C := fun n id args σ => match calD P d id with
      | some d' => execN P n d' id 0 (lcl P id args) [] σ
      | none => none) (C' := callE P d) (X := P.2.2.1 m) (E := fun n pc L st σ => execN P n d m pc L st σ) (E' := exec P d m) (fun id a σ => by
        unfold callE
        cases calD P d id with
        | none => exact Lim.rf _
        | some d' => exact ⟨fun _ _ hn => execN_mono P hn _ _ _ _ _ _, fun _ h => exec_to h⟩) (fun p L st σ => ⟨fun _ _ hn => execN_mono P hn _ _ _ _ _ _, fun _ h => exec_to h⟩) (seek pc (P.1 m)) L st σ
    obtain ⟨n, hn⟩ := hl.2 y h
    exact exec_of (n := n + 1) (by unfold execN; exact hn)
