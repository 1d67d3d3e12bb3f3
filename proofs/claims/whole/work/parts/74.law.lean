theorem nI_nltl {a n : Nat} (h : n ≤ a) (ha : a < 2147483648) : ¬ nI a < (OfNat.ofNat n : Int32) := nI_nlt h ha
theorem nI_ltl {a n : Nat} (h : a < n) (hn : n < 2147483648) : nI a < (OfNat.ofNat n : Int32) := nI_lt h hn
theorem l_lt {a n : Nat} (h : n < a) (ha : a < 2147483648) : (OfNat.ofNat n : Int32) < nI a := nI_lt h ha
theorem l_nlt {a n : Nat} (h : a ≤ n) (hn : n < 2147483648) : ¬ (OfNat.ofNat n : Int32) < nI a := nI_nlt h hn
theorem nI_nel {a n : Nat} (h : a ≠ n) (ha : a < 2147483648) (hn : n < 2147483648) : ¬ nI a = (OfNat.ofNat n : Int32) := fun e => h ((nI_eq ha hn).mp e)
/-! THE LAW: L 0 how many lines; line i: L (1 + 4 i) its kind, L (2 + 4 i) its number, L (3 + 4 i), L (4 + 4 i) its steps; step j: L (49 + 2 j) its code, L (50 + 2 j) its number -/
def lnN (L : WW) : Nat := (L 0).toInt.toNat
def kN (L : WW) (i : Nat) : Nat := (L (1 + 4 * i)).toInt.toNat
def frN (L : WW) (i : Nat) : Nat := (L (3 + 4 * i)).toInt.toNat
def toN (L : WW) (i : Nat) : Nat := (L (4 + 4 * i)).toInt.toNat
def scN (L : WW) (j : Nat) : Nat := (L (49 + 2 * j)).toInt.toNat
def szN (L : WW) : Nat := if lnN L = 0 then 0 else toN L (lnN L - 1)
/-- the types that a step leaves: true for what holds or not -/
def ty1 (c : Nat) (T : List Bool) : Option (List Bool) :=
  if c < 6 ∨ c = 8 then some (false :: T) else if c < 8 then some (true :: T) else if c = 12 then (match T with
    | true :: r => some (true :: r)
    | _ => none) else (match T with
    | x :: y :: r => if c = 9 then (if x = false ∧ y = false then some (false :: r) else none) else if c < 12 then (if x = false ∧ y = false then some (true :: r) else none) else (if x = true ∧ y = true then some (true :: r) else none)
    | _ => none)
def tyR (L : WW) : Nat → Nat → List Bool → Option (List Bool)
  | _, 0, T => some T
  | i, k + 1, T => match ty1 (scN L i) T with
    | some T' => tyR L (i + 1) k T'
    | none => none
def op2 (c : Nat) (a b : Int32) : Int32 := if c = 9 then a + b else if c = 10 then bI (decide (a < b)) else if c = 11 then bI (decide (b < a)) else if c = 13 then bI (decide (a + b = 2)) else bI (decide (0 < a + b))
def ev1 (F : Nat → Int32) (c : Nat) (n : Int32) (S : List Int32) : List Int32 := if c < 8 then F c :: S else if c = 8 then n :: S else if c = 12 then (match S with
    | a :: r => (1 - a) :: r
    | [] => []) else (match S with
    | b :: a :: r => op2 c a b :: r
    | S => S)
def VT : List Int32 → List Bool → Prop
  | [], [] => True
  | v :: S, t :: T => (t = true → v = 0 ∨ v = 1) ∧ VT S T
  | _, _ => False
theorem VT.len : ∀ {S : List Int32} {T : List Bool}, VT S T → S.length = T.length
  | [], [], _ => rfl
  | _ :: _, _ :: _, h => by simp [VT.len h.2]
  | [], _ :: _, h => h.elim
  | _ :: _, [], h => h.elim
theorem op2_bool {c : Nat} (h : c ≠ 9) (a b : Int32) : op2 c a b = 0 ∨ op2 c a b = 1 := by
  unfold op2
  rw [if_neg h]
  repeat' split
  all_goals exact bI_01 _
theorem VT.ev {F : Nat → Int32} {c : Nat} {n : Int32} {S : List Int32} {T T' : List Bool} (hF : (F 6 = 0 ∨ F 6 = 1) ∧ (F 7 = 0 ∨ F 7 = 1)) (h : VT S T) (ht : ty1 c T = some T') : VT (ev1 F c n S) T' := by
  unfold ty1 at ht
  unfold ev1
  by_cases h1 : c < 6 ∨ c = 8
  · rw [if_pos h1] at ht
    cases ht
    by_cases h8 : c < 8
    · rw [if_pos h8]; exact ⟨(fun q => by cases q), h⟩
    · rw [if_neg h8, if_pos (by omega)]; exact ⟨(fun q => by cases q), h⟩
  rw [if_neg h1] at ht
  by_cases h2 : c < 8
  · rw [if_pos h2] at ht
    cases ht
    rw [if_pos h2]
    refine ⟨fun _ => ?_, h⟩
    rcases (by omega : c = 6 ∨ c = 7) with e | e <;> subst e
    · exact hF.1
    · exact hF.2
  rw [if_neg h2] at ht
  rw [if_neg h2, if_neg (by omega)]
  by_cases h3 : c = 12
  · rw [if_pos h3] at ht
    rw [if_pos h3]
    match S, T, h, ht with
    | a :: S, true :: T, h, ht =>
      cases ht
      refine ⟨fun _ => ?_, h.2⟩
      rcases h.1 rfl with e | e <;> subst e
      · exact Or.inr (by decide)
      · exact Or.inl (by decide)
    | a :: S, false :: T, h, ht => cases ht
    | [], [], h, ht => cases ht
  rw [if_neg h3] at ht
  rw [if_neg h3]
  match S, T, h, ht with
  | b :: a :: S, x :: y :: T, h, ht =>
    dsimp only at ht ⊢
    by_cases h9 : c = 9
    · rw [if_pos h9] at ht
      split at ht
      · cases ht
        exact ⟨(fun q => by cases q), h.2.2⟩
      · cases ht
    · rw [if_neg h9] at ht
      have hb := op2_bool h9 a b
      split at ht
      · split at ht
        · cases ht
          exact ⟨fun _ => hb, h.2.2⟩
        · cases ht
      · split at ht
        · cases ht
          exact ⟨fun _ => hb, h.2.2⟩
        · cases ht
  | [b], [x], h, ht => cases ht
  | [], [], h, ht => cases ht
/-- a stack in a row: its top is the last -/
def Stk (arr : Nat → Int32) : List Int32 → Prop
  | [] => True
  | v :: S => arr S.length = v ∧ Stk arr S
theorem Stk.keep {arr arr' : Nat → Int32} : ∀ {S : List Int32}, Stk arr S → (∀ i, i < S.length → arr' i = arr i) → Stk arr' S
  | [], _, _ => trivial
  | v :: S, h, hk => ⟨(hk S.length (by simp)).trans h.1, Stk.keep h.2 fun i hi => hk i (by simp; omega)⟩
def cdN (c : Nat) : Nat := if c < 8 then 1000 + c else if c = 9 then 1101 else if c = 10 then 1102 else if c = 11 then 1103 else if c = 12 then 1100 else if c = 13 then 1104 else 1105
/-- a step as the class has it -/
def cdI (L : WW) (j : Nat) : Int32 := if scN L j = 8 then L (50 + 2 * j) else nI (cdN (scN L j))
def LWF (L : WW) : Prop := btw (L 0) 0 12 ∧ (∀ i, i < lnN L → btw (L (1 + 4 * i)) 0 2 ∧ (L (3 + 4 * i) = nI (frN L i) ∧ L (4 + 4 * i) = nI (toN L i)) ∧ (frN L i = if i = 0 then 0 else toN L (i - 1)) ∧ frN L i ≤ toN L i ∧ toN L i ≤ szN L ∧ (tyR L (frN L i) (toN L i - frN L i) [] = some [] ∨ tyR L (frN L i) (toN L i - frN L i) [] = some [true])) ∧
  szN L ≤ 400 ∧ ∀ j, j < szN L → L (49 + 2 * j) = nI (scN L j) ∧ scN L j ≤ 14 ∧ (scN L j = 8 → btw (L (50 + 2 * j)) 0 999)
def LR (σ : SH) (q : Nat) (L : WW) : Prop :=
  (sT σ q = 104 ∧ sV σ q 1 = .ref (q + 1) ∧ sV σ q 2 = .ref (q + 2) ∧ sV σ q 3 = .ref (q + 3) ∧ sV σ q 4 = .ref (q + 4) ∧ sV σ q 5 = .ref (q + 5)) ∧
  (sT σ (q + 1) = 19 ∧ sT σ (q + 2) = 1 ∧ sT σ (q + 3) = 1 ∧ sT σ (q + 4) = 1 ∧ sT σ (q + 5) = 1) ∧
  (sN σ (q + 1) = lnN L ∧ sN σ (q + 2) = lnN L ∧ sN σ (q + 3) = lnN L ∧ sN σ (q + 4) = szN L ∧ sN σ (q + 5) = szN L + 1) ∧
  sI σ q 0 = L 0 ∧ (∀ i, i < lnN L → sV σ (q + 1) i = .ref (14 + kN L i) ∧ sI σ (q + 2) i = L (2 + 4 * i) ∧ sI σ (q + 3) i = L (4 + 4 * i)) ∧ ∀ j, j < szN L → sI σ (q + 4) j = cdI L j
theorem LWF_n {L : WW} (h : LWF L) : L 0 = nI (lnN L) ∧ lnN L ≤ 12 := by
  have := h.1
  unfold btw at this
  exact ⟨nI_nI this.1, by unfold lnN; omega⟩
theorem LWF_k {L : WW} (h : LWF L) {i : Nat} (hi : i < lnN L) : L (1 + 4 * i) = nI (kN L i) ∧ kN L i ≤ 2 := by
  have := (h.2.1 i hi).1
  unfold btw at this
  exact ⟨nI_nI this.1, by unfold kN; omega⟩
theorem LR.kp {σ σ' : SH} {q : Nat} {L : WW} {P : Nat → Nat → Prop} (h : LR σ q L) (k : Kp P σ σ') (hP : ∀ a j, q ≤ a → a < q + 5 → ¬ P a j) : LR σ' q L := by
  obtain ⟨h1, h2, h3, h4, h5, h6⟩ := h
  refine ⟨?_, ?_, ?_, ?_, fun i hi => ?_, fun j hj => ?_⟩
  · simp only [k.T, k.V]; exact h1
  · simp only [k.T]; exact h2
  · simp only [k.N]; exact h3
  · rw [k.2 q 0 (hP _ _ (by omega) (by omega))]; exact h4
  · obtain ⟨a, b, c⟩ := h5 i hi
    rw [k.V, k.2 (q + 2) i (hP _ _ (by omega) (by omega)), k.2 (q + 3) i (hP _ _ (by omega) (by omega))]
    exact ⟨a, b, c⟩
  · rw [k.2 (q + 4) j (hP _ _ (by omega) (by omega))]; exact h6 j hj
def evR (L : WW) (F : Nat → Int32) (i k : Nat) (S : List Int32) : List Int32 := fo (fun j S => ev1 F (scN L j) (L (50 + 2 * j)) S) i k S
def evL (L : WW) (F : Nat → Int32) (i : Nat) : Bool := match evR L F (frN L i) (toN L i - frN L i) [] with
  | [] => true
  | v :: _ => decide (v = 1)
theorem add_m1 {n : Nat} (h : 0 < n) : nI n + -1 = nI (n - 1) := by
  obtain ⟨m, rfl⟩ : ∃ m, n = m + 1 := ⟨n - 1, by omega⟩
  exact pk_m1 m
theorem sub_1 {n : Nat} (h : 0 < n) : nI n - 1 = nI (n - 1) := by
  obtain ⟨m, rfl⟩ : ∃ m, n = m + 1 := ⟨n - 1, by omega⟩
  exact nI_pred m
theorem tyR_step {L : WW} {i k : Nat} {T E : List Bool} (h : tyR L i (k + 1) T = some E) : ∃ T', ty1 (scN L i) T = some T' ∧ tyR L (i + 1) k T' = some E := by
  unfold tyR at h
  split at h
  · rename_i T' hT
    exact ⟨T', hT, h⟩
  · cases h
theorem ty1_2 {c : Nat} {T T' : List Bool} {S : List Int32} (hS : VT S T) (h : ty1 c T = some T') (h8 : ¬ c ≤ 8) (h12 : c ≠ 12) : ∃ a b r, S = b :: a :: r ∧ ((c = 13 ∨ c = 14) → (a = 0 ∨ a = 1) ∧ (b = 0 ∨ b = 1)) := by
  unfold ty1 at h
  rw [if_neg (by omega), if_neg (by omega), if_neg h12] at h
  match S, T, hS, h with
  | b :: a :: r, x :: y :: t, hS, h =>
    refine ⟨a, b, r, rfl, fun hc => ?_⟩
    dsimp only at h
    rw [if_neg (by omega), if_neg (by omega)] at h
    split at h
    · rename_i hh
      exact ⟨hS.2.1 hh.2, hS.1 hh.1⟩
    · cases h
  | [b], [x], _, h => cases h
  | [], [], _, h => cases h
theorem ty1_1 {T T' : List Bool} {S : List Int32} (hS : VT S T) (h : ty1 12 T = some T') : ∃ a r, S = a :: r := by
  unfold ty1 at h
  rw [if_neg (by omega), if_neg (by omega), if_pos rfl] at h
  match S, T, hS, h with
  | a :: r, _ :: _, _, _ => exact ⟨a, r, rfl⟩
  | [], [], _, h => cases h
theorem op_and : ∀ a b : Int32, (a = 0 ∨ a = 1) → (b = 0 ∨ b = 1) → a &&& b = op2 13 a b ∧ a ||| b = op2 14 a b := by
  rintro a b (rfl | rfl) (rfl | rfl) <;> decide
theorem aI_z {σ : SH} {a t : Nat} {k : Int32 → SR} (h : sT σ a = t) (hj : 0 < sN σ a) (hn : sN σ a < 2147483648) : aI σ t (.ref a) 0 k = k (sI σ a 0) := aI_r (j := 0) h hj hn
/-- a line's condition, in the class -/
theorem m_49 {σ0 : SH} {q fa : Nat} {L : WW} {F : Nat → Int32} (hL : LR σ0 q L) (hw : LWF L) (hf1 : sT σ0 fa = 1) (hf2 : sN σ0 fa = 8) (hff : ∀ k, k < 8 → sI σ0 fa k = F k) (hne : fa ≠ q + 5) (hF : (F 6 = 0 ∨ F 6 = 1) ∧ (F 7 = 0 ∨ F 7 = 1)) {i : Nat} (hi : i < lnN L) :
    ∃ σ', rn 49 [.ref q, .int (nI i), .ref fa] σ0 = some (.inl (some (.int (bI (evL L F i)))), σ') ∧ Kp (fun a _ => a = q + 5) σ0 σ' := by
  obtain ⟨h12a, h12⟩ := LWF_n hw
  obtain ⟨w1, ⟨w2, w3⟩, w4, w5, w6, w7⟩ := hw.2.1 i hi
  have hsz := hw.2.2.1
  have start : rn 49 [.ref q, .int (nI i), .ref fa] σ0 = exec PP 1 49 20 [some (.ref q), some (.int (nI i)), some (.ref fa), some (.int (nI 0)), some (.int (nI (frN L i))), none, none, none] [] σ0 := by
    rw [r_49]
    by_cases h0 : i = 0
    · subst h0
      rw [if_pos (show nI 0 = 0 from rfl), e_49_18, w4, if_pos rfl]; rfl
    · rw [if_neg (show ¬ nI i = 0 from fun e => h0 ((nI_eq (b := 0) (by omega) (by decide)).mp e)), e_49_10, gR_r hL.1.1 hL.1.2.2.2.1, sub_1 (by omega), aI_r hL.2.1.2.2.1 (by rw [hL.2.2.1.2.2.1]; omega) (by rw [hL.2.2.1.2.2.1]; omega), (hL.2.2.2.2.1 (i - 1) (by omega)).2.2, ((hw.2.1 (i - 1) (by omega)).2.1).2, w4, if_neg h0]
      rfl
  have key9 := lpS (F := fun j (S : List Int32) σ => exec PP 1 49 20 [some (.ref q), some (.int (nI i)), some (.ref fa), some (.int (nI S.length)), some (.int (nI j)), none, none, none] [] σ) (g := fun j S => ev1 F (scN L j) (L (50 + 2 * j)) S)
    (K := fun S σ => exec PP 1 49 281 [some (.ref q), some (.int (nI i)), some (.ref fa), some (.int (nI S.length)), some (.int (nI (toN L i))), none, none, none] [] σ)
    (I := fun j S σ => Kp (fun a _ => a = q + 5) σ0 σ ∧ Stk (sI σ (q + 5)) S ∧ S.length + frN L i ≤ j ∧ ∃ T E, VT S T ∧ tyR L j (toN L i - j) T = some E ∧ (E = [] ∨ E = [true])) (n := toN L i) ?_ ?_ (toN L i - frN L i) (frN L i) [] σ0 (by omega) ⟨Kp.rf _, trivial, by simp, [], (if tyR L (frN L i) (toN L i - frN L i) [] = some [] then [] else [true]), trivial, ?_, ?_⟩
  · obtain ⟨σ', h1, hk, hst, hlen, T, E, hv, hty, hE⟩ := key9
    rw [start]
    have hS : ∃ S', S' = fo (fun j S => ev1 F (scN L j) (L (50 + 2 * j)) S) (frN L i) (toN L i - frN L i) [] := ⟨_, rfl⟩
    obtain ⟨S', hS'⟩ := hS
    rw [← hS'] at h1 hst hlen hv
    have hev : evR L F (frN L i) (toN L i - frN L i) [] = S' := hS'.symm
    refine ⟨σ', ?_, hk⟩
    refine h1.trans ?_
    rw [Nat.sub_self] at hty
    have hTE : T = E := Option.some.inj hty
    subst hTE
    unfold evL
    rw [hev]
    have hL' := hL.kp hk (fun a j h1 h2 => by omega)
    rcases hE with rfl | rfl
    · match S', hv with
      | [], _ => rw [e_49_281, if_pos (show nI ([] : List Int32).length = 0 from rfl), e_49_294, e_49_299]; rfl
    · match S', hv with
      | [v], hv =>
        have hst1 : sI σ' (q + 5) 0 = v := hst.1
        rw [e_49_281, if_neg (show ¬ nI [v].length = 0 from (by decide : ¬ nI 1 = 0)), gR_r hL'.1.1 hL'.1.2.2.2.2.2, aI_z hL'.2.1.2.2.2.2 (by rw [hL'.2.2.1.2.2.2.2]; omega) (by rw [hL'.2.2.1.2.2.2.2]; omega), hst1]
        rcases hv.1 rfl with rfl | rfl
        · rw [if_pos rfl, e_49_298]; rfl
        · rw [if_neg (by decide), e_49_299]; rfl
  · rintro j S σ hj ⟨hk, hst, hlen, T, E, hv, hty, hE⟩
    try dsimp only
    have hL' := hL.kp hk (fun a j h1 h2 => by omega)
    obtain ⟨T', t1, t2⟩ := tyR_step (k := toN L i - (j + 1)) (by rw [show toN L i - (j + 1) + 1 = toN L i - j by omega]; exact hty)
    have hjs : j < szN L := by omega
    obtain ⟨s1, s2, s3⟩ := hw.2.2.2 j hjs
    have hcd : sI σ (q + 4) j = cdI L j := hL'.2.2.2.2.2 j hjs
    have n5 : sN σ (q + 5) = szN L + 1 := hL'.2.2.1.2.2.2.2
    have base : exec PP 1 49 20 [some (.ref q), some (.int (nI i)), some (.ref fa), some (.int (nI S.length)), some (.int (nI j)), none, none, none] [] σ = (if ((cdI L j - 1000) < nI 8 : Prop) then (gR σ 104 5 (.ref q) fun a26 =>
      aN σ (.ref a26) fun x27 =>
      if (nI S.length < x27 : Prop) then (gR σ 104 5 (.ref q) fun a28 =>
        if (cdI L j < 1000 : Prop) then (exec PP 1 49 86 [some (.ref q), some (.int (nI i)), some (.ref fa), some (.int (nI S.length)), some (.int (nI j)), some (.int (cdI L j)), none, none] [.int (cdI L j), .int (nI S.length), .ref a28] σ)
        else (exec PP 1 49 78 [some (.ref q), some (.int (nI i)), some (.ref fa), some (.int (nI S.length)), some (.int (nI j)), some (.int (cdI L j)), none, none] [.int (nI S.length), .ref a28] σ))
      else (exec PP 1 49 93 [some (.ref q), some (.int (nI i)), some (.ref fa), some (.int (nI S.length)), some (.int (nI j)), some (.int (cdI L j)), none, none] [] σ))
    else (exec PP 1 49 93 [some (.ref q), some (.int (nI i)), some (.ref fa), some (.int (nI S.length)), some (.int (nI j)), some (.int (cdI L j)), none, none] [] σ)) := by
      rw [e_49_20, gR_r hL'.1.1 hL'.1.2.2.2.1, aI_r hL'.2.1.2.2.1 (by rw [hL'.2.2.1.2.2.1]; omega) (by rw [hL'.2.2.1.2.2.1]; omega), (hL'.2.2.2.2.1 i hi).2.2, w3, if_pos (nI_lt hj (by omega)), gR_r hL'.1.1 hL'.1.2.2.2.2.1, aI_r hL'.2.1.2.2.2.1 (by rw [hL'.2.2.1.2.2.2.1]; omega) (by rw [hL'.2.2.1.2.2.2.1]; omega), hcd, aN_r (n := 8) (by rw [hk.T, hf1]; decide) (by rw [hk.N, hf2])]
    have key : ∃ (w : Int32) (r : List Int32), exec PP 1 49 20 [some (.ref q), some (.int (nI i)), some (.ref fa), some (.int (nI S.length)), some (.int (nI j)), none, none, none] [] σ = exec PP 1 49 20 [some (.ref q), some (.int (nI i)), some (.ref fa), some (.int (nI (r.length + 1))), some (.int (nI (j + 1))), none, none, none] [] (wI σ (q + 5) r.length w) ∧ ev1 F (scN L j) (L (50 + 2 * j)) S = w :: r ∧ Stk (sI σ (q + 5)) r ∧ r.length ≤ S.length := by
      rw [base]
      by_cases c8 : scN L j = 8
      · have hx : cdI L j = L (50 + 2 * j) := if_pos c8
        have hb := s3 c8
        unfold btw at hb
        have t1000 : (1000 : Int32).toInt = 1000 := by decide
        have t8 : (nI 8).toInt = 8 := by decide
        refine ⟨L (50 + 2 * j), S, ?_, by unfold ev1; rw [if_neg (by omega), if_pos c8], hst, Nat.le_refl _⟩
        rw [hx, if_pos (by rw [tlt, tS] <;> rw [t1000] <;> omega), gR_r hL'.1.1 hL'.1.2.2.2.2.2, aN_r (n := szN L + 1) (by rw [hL'.2.1.2.2.2.2]; decide) n5, if_pos (nI_lt (by omega) (by omega)), gR_r hL'.1.1 hL'.1.2.2.2.2.2, if_pos (by rw [tlt, t1000]; omega), e_49_86, uI_r hL'.2.1.2.2.2.2 (by rw [n5]; omega) (by rw [n5]; omega), e_49_275, nI_1, nI_1]
      have hx : cdI L j = nI (cdN (scN L j)) := if_neg c8
      by_cases c7 : scN L j < 8
      · have hn : cdN (scN L j) = 1000 + scN L j := if_pos c7
        have hsub : nI (1000 + scN L j) - 1000 = nI (scN L j) := by
          have := pk_sub (a := 1000 + scN L j) (b := 1000) (by omega)
          rw [Nat.add_sub_cancel_left] at this
          exact this
        refine ⟨F (scN L j), S, ?_, by unfold ev1; rw [if_pos c7], hst, Nat.le_refl _⟩
        rw [hx, hn, hsub, if_pos (nI_lt c7 (by decide)), gR_r hL'.1.1 hL'.1.2.2.2.2.2, aN_r (n := szN L + 1) (by rw [hL'.2.1.2.2.2.2]; decide) n5, if_pos (nI_lt (by omega) (by omega)), gR_r hL'.1.1 hL'.1.2.2.2.2.2, if_neg (nI_nltl (n := 1000) (by omega) (by omega)), e_49_78, hsub, aI_r (by rw [hk.T]; exact hf1) (by rw [hk.N, hf2]; exact c7) (by rw [hk.N, hf2]; decide), hk.2 fa _ hne, hff _ c7, uI_r hL'.2.1.2.2.2.2 (by rw [n5]; omega) (by rw [n5]; omega), e_49_275, nI_1, nI_1]
      by_cases c12 : scN L j = 12
      · rw [c12] at t1
        obtain ⟨a, r, rfl⟩ := ty1_1 hv t1
        have hn : cdN (scN L j) = 1100 := by rw [c12]; rfl
        refine ⟨1 - a, r, ?_, by unfold ev1; rw [if_neg (by omega), if_neg (by omega), if_pos c12], hst.2, by simp⟩
        have hl1 : nI (a :: r).length - 1 = nI r.length := by rw [sub_1 (by simp)]; rfl
        have hln : (a :: r).length = r.length + 1 := rfl
        rw [hln] at hlen
        rw [hx, hn, if_neg (by decide), e_49_93, if_pos (show nI 1100 = 1100 from rfl), if_neg (nI_nltl (n := 1) (by simp) (by rw [hln]; omega)), gR_r hL'.1.1 hL'.1.2.2.2.2.2, gR_r hL'.1.1 hL'.1.2.2.2.2.2, hl1, aI_r hL'.2.1.2.2.2.2 (by rw [n5]; omega) (by rw [n5]; omega), hst.1, uI_r hL'.2.1.2.2.2.2 (by rw [n5]; omega) (by rw [n5]; omega), e_49_275, nI_1, hln]
      obtain ⟨a, b, r, rfl, hab⟩ := ty1_2 hv t1 (by omega) c12
      have hln : (b :: a :: r).length = r.length + 2 := rfl
      rw [hln] at hlen
      refine ⟨op2 (scN L j) a b, r, ?_, by unfold ev1; rw [if_neg (by omega), if_neg (by omega), if_neg c12], hst.2.2, by rw [hln]; omega⟩
      have hm1 : nI (r.length + 2) + -1 = nI (r.length + 1) := pk_m1 (r.length + 1)
      have hm2 : nI (r.length + 1) - 1 = nI r.length := nI_pred r.length
      have sb : sI σ (q + 5) (r.length + 1) = b := hst.1
      have sa : sI σ (q + 5) r.length = a := hst.2.1
      have b3 : ∀ n, n = 1101 ∨ n = 1102 ∨ n = 1103 ∨ n = 1104 ∨ n = 1105 → cdN (scN L j) = n → (if ((cdI L j - 1000) < nI 8 : Prop) then (gR σ 104 5 (.ref q) fun a26 =>
      aN σ (.ref a26) fun x27 =>
      if (nI (b :: a :: r).length < x27 : Prop) then (gR σ 104 5 (.ref q) fun a28 =>
        if (cdI L j < 1000 : Prop) then (exec PP 1 49 86 [some (.ref q), some (.int (nI i)), some (.ref fa), some (.int (nI (b :: a :: r).length)), some (.int (nI j)), some (.int (cdI L j)), none, none] [.int (cdI L j), .int (nI (b :: a :: r).length), .ref a28] σ)
        else (exec PP 1 49 78 [some (.ref q), some (.int (nI i)), some (.ref fa), some (.int (nI (b :: a :: r).length)), some (.int (nI j)), some (.int (cdI L j)), none, none] [.int (nI (b :: a :: r).length), .ref a28] σ))
      else (exec PP 1 49 93 [some (.ref q), some (.int (nI i)), some (.ref fa), some (.int (nI (b :: a :: r).length)), some (.int (nI j)), some (.int (cdI L j)), none, none] [] σ))
    else (exec PP 1 49 93 [some (.ref q), some (.int (nI i)), some (.ref fa), some (.int (nI (b :: a :: r).length)), some (.int (nI j)), some (.int (cdI L j)), none, none] [] σ)) =
        (if nI n = 1101 then (exec PP 1 49 184 [some (.ref q), some (.int (nI i)), some (.ref fa), some (.int (nI (r.length + 1))), some (.int (nI j)), some (.int (nI n)), some (.int a), some (.int b)] [] σ)
    else if nI n = 1102 then (exec PP 1 49 200 [some (.ref q), some (.int (nI i)), some (.ref fa), some (.int (nI (r.length + 1))), some (.int (nI j)), some (.int (nI n)), some (.int a), some (.int b)] [] σ)
    else if nI n = 1103 then (exec PP 1 49 223 [some (.ref q), some (.int (nI i)), some (.ref fa), some (.int (nI (r.length + 1))), some (.int (nI j)), some (.int (nI n)), some (.int a), some (.int b)] [] σ)
    else if nI n = 1104 then (exec PP 1 49 246 [some (.ref q), some (.int (nI i)), some (.ref fa), some (.int (nI (r.length + 1))), some (.int (nI j)), some (.int (nI n)), some (.int a), some (.int b)] [] σ)
    else (exec PP 1 49 262 [some (.ref q), some (.int (nI i)), some (.ref fa), some (.int (nI (r.length + 1))), some (.int (nI j)), some (.int (nI n)), some (.int a), some (.int b)] [] σ)) := fun n hn5 hn => by
        rw [hx, hn, hln, if_neg (by rcases hn5 with e | e | e | e | e <;> subst e <;> decide), e_49_93, if_neg (by rcases hn5 with e | e | e | e | e <;> subst e <;> decide), e_49_127, if_neg (nI_nltl (n := 2) (by omega) (by omega)), gR_r hL'.1.1 hL'.1.2.2.2.2.2, hm1, hm2, aI_r hL'.2.1.2.2.2.2 (by rw [n5]; omega) (by rw [n5]; omega), sa, gR_r hL'.1.1 hL'.1.2.2.2.2.2, aI_r hL'.2.1.2.2.2.2 (by rw [n5]; omega) (by rw [n5]; omega), sb]
      have u5 : ∀ (w : Int32) (k : SH → SR), uI σ (.ref (q + 5)) (nI r.length) w k = k (wI σ (q + 5) r.length w) := fun w k => uI_r hL'.2.1.2.2.2.2 (by rw [n5]; omega) (by rw [n5]; omega)
      rcases (by omega : scN L j = 9 ∨ scN L j = 10 ∨ scN L j = 11 ∨ scN L j = 13 ∨ scN L j = 14) with e | e | e | e | e
      · rw [b3 1101 (by decide) (by rw [e]; rfl), if_pos (by decide), e_49_184, gR_r hL'.1.1 hL'.1.2.2.2.2.2, hm2, u5, e_49_275, nI_1, e]; rfl
      · rw [b3 1102 (by decide) (by rw [e]; rfl), if_neg (by decide), if_pos (by decide), e_49_200, gR_r hL'.1.1 hL'.1.2.2.2.2.2, hm2, e]
        by_cases hlt : a < b
        · rw [if_pos hlt, e_49_219, u5, e_49_275, nI_1, show op2 10 a b = 1 by simp [op2, bI, hlt]]
        · rw [if_neg hlt, e_49_218, u5, e_49_275, nI_1, show op2 10 a b = 0 by simp [op2, bI, hlt]]
      · rw [b3 1103 (by decide) (by rw [e]; rfl), if_neg (by decide), if_neg (by decide), if_pos (by decide), e_49_223, gR_r hL'.1.1 hL'.1.2.2.2.2.2, hm2, e]
        by_cases hlt : b < a
        · rw [if_pos hlt, e_49_242, u5, e_49_275, nI_1, show op2 11 a b = 1 by simp [op2, bI, hlt]]
        · rw [if_neg hlt, e_49_241, u5, e_49_275, nI_1, show op2 11 a b = 0 by simp [op2, bI, hlt]]
      · obtain ⟨ha, hb⟩ := hab (Or.inl e)
        rw [b3 1104 (by decide) (by rw [e]; rfl), if_neg (by decide), if_neg (by decide), if_neg (by decide), if_pos (by decide), e_49_246, gR_r hL'.1.1 hL'.1.2.2.2.2.2, hm2, u5, e_49_275, nI_1, e, (op_and a b ha hb).1]
      · obtain ⟨ha, hb⟩ := hab (Or.inr e)
        rw [b3 1105 (by decide) (by rw [e]; rfl), if_neg (by decide), if_neg (by decide), if_neg (by decide), if_neg (by decide), e_49_262, gR_r hL'.1.1 hL'.1.2.2.2.2.2, hm2, u5, nI_1, e, (op_and a b ha hb).2]
    obtain ⟨w, r, k1, k2, k3, k4⟩ := key
    refine ⟨wI σ (q + 5) r.length w, ?_, hk.wr rfl, ?_, ?_, T', E, hv.ev hF t1, t2, hE⟩
    · rw [k1, k2]; rfl
    · rw [k2]; exact ⟨sI_wIs _ _ _ _, k3.keep fun z hz => sI_wIn (by omega)⟩
    · rw [k2]; show r.length + 1 + frN L i ≤ j + 1; omega
  · rintro S σ ⟨hk, -⟩
    try dsimp only
    have hL' := hL.kp hk (fun a j h1 h2 => by omega)
    rw [e_49_20, gR_r hL'.1.1 hL'.1.2.2.2.1, aI_r hL'.2.1.2.2.1 (by rw [hL'.2.2.1.2.2.1]; omega) (by rw [hL'.2.2.1.2.2.1]; omega), (hL'.2.2.2.2.1 i hi).2.2, w3, if_neg (nI_nlt (Nat.le_refl _) (by omega))]
  · split
    · rename_i h; exact h
    · rename_i h
      rcases w7 with w7 | w7
      · exact absurd w7 h
      · exact w7
  · split
    · exact Or.inl rfl
    · exact Or.inr rfl
