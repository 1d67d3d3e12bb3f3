/-! what a call leaves as it was -/
def Stq (σ : SH) (a : Nat) : Prop := 629 ≤ a ∧ sT σ (a - 5) = 104
/-- numbers but at P and on laws' stacks; references but at counties' laws and rows of signs of R -/
def Fr (P : Nat → Nat → Prop) (R : Nat → Prop) (σ σ' : SH) : Prop := sZ σ ≤ sZ σ' ∧ ∀ a, a < sZ σ → (sT σ' a = sT σ a ∧ sN σ' a = sN σ a) ∧ (∀ k, (¬ R a ∨ (k ≠ 12 ∧ a ≠ 203 ∧ a ≠ 207)) → sV σ' a k = sV σ a k) ∧ ∀ k, (a < 624 → ¬ P a k) → (624 ≤ a → ¬ Stq σ a) → sI σ' a k = sI σ a k
section FR
variable {σ σ' σ'' : SH} {P : Nat → Nat → Prop} {R : Nat → Prop}
theorem Fr.rf (σ : SH) : Fr P R σ σ := ⟨Nat.le_refl _, fun _ _ => ⟨⟨rfl, rfl⟩, fun _ _ => rfl, fun _ _ _ => rfl⟩⟩
theorem Fr.tr (h : Fr P R σ σ') (h' : Fr P R σ' σ'') : Fr P R σ σ'' := by
  have z := h.1
  have z' := h'.1
  refine ⟨by omega, fun a ha => ?_⟩
  obtain ⟨⟨a1, a2⟩, a3, a4⟩ := h.2 a ha
  obtain ⟨⟨b1, b2⟩, b3, b4⟩ := h'.2 a (by omega)
  refine ⟨⟨b1.trans a1, b2.trans a2⟩, fun k hk => (b3 k hk).trans (a3 k hk), fun k x y => (b4 k x fun u v => y u ⟨v.1, ?_⟩).trans (a4 k x y)⟩
  have := v.2
  rw [(h.2 (a - 5) (by omega)).1.1] at this
  exact this
theorem Fr.mono {P' : Nat → Nat → Prop} {R' : Nat → Prop} (h : Fr P R σ σ') (hP : ∀ a k, a < 624 → P a k → P' a k) (hR : ∀ a, R a → R' a) : Fr P' R' σ σ' := ⟨h.1, fun a ha => ⟨(h.2 a ha).1, fun k hk => (h.2 a ha).2.1 k (hk.imp (fun z y => z (hR a y)) id), fun k x y => (h.2 a ha).2.2 k (fun u v => x u (hP a k u v)) y⟩⟩
theorem Kp.fr {Q : Nat → Nat → Prop} (h : Kp Q σ σ') (hP : ∀ a k, a < 624 → Q a k → P a k) (hS : ∀ a k, 624 ≤ a → Q a k → Stq σ a) : Fr P R σ σ' := ⟨by rw [h.Z]; exact Nat.le_refl _, fun a _ => ⟨⟨h.T a, h.N a⟩, fun k _ => h.V a k, fun k x y => h.2 a k fun z => by
  by_cases e : a < 624
  · exact x e (hP a k e z)
  · exact y (by omega) (hS a k (by omega) z)⟩⟩
theorem Fr.mk (σ : SH) (t n s : Nat) : Fr P R σ (mkC σ t n s) := ⟨Nat.le_succ _, fun a ha => ⟨⟨if_neg (by omega), if_neg (by omega)⟩, fun k _ => if_neg (by omega), fun k _ _ => if_neg (by omega)⟩⟩
theorem Fr.T (h : Fr P R σ σ') {a : Nat} (ha : a < sZ σ) : sT σ' a = sT σ a := (h.2 a ha).1.1
theorem Fr.N (h : Fr P R σ σ') {a : Nat} (ha : a < sZ σ) : sN σ' a = sN σ a := (h.2 a ha).1.2
theorem Fr.V (h : Fr P R σ σ') {a k : Nat} (ha : a < sZ σ) (hk : ¬ R a ∨ (k ≠ 12 ∧ a ≠ 203 ∧ a ≠ 207)) : sV σ' a k = sV σ a k := (h.2 a ha).2.1 k hk
theorem Fr.I (h : Fr P R σ σ') {a k : Nat} (ha : a < sZ σ) (h6 : a < 624) (hp : ¬ P a k) : sI σ' a k = sI σ a k := (h.2 a ha).2.2 k (fun _ => hp) (fun z => by omega)
theorem isC_not {c i : Nat} (h : isC c) (hi : 0 < i) (h2 : i < 26) : ¬ isC (c + i) := fun g => by
  rcases isC_dis h g (by omega) with z | z <;> omega
/-- whose references may go -/
def okR (R : Nat → Prop) : Prop := ∀ a, R a → isC a ∨ a = 203 ∨ a = 207
theorem okR_n {a : Nat} (hR : okR R) (h : ¬ isC a) (h2 : a ≠ 203) (h3 : a ≠ 207) : ¬ R a := fun z => by rcases hR a z with z | z | z <;> contradiction
theorem ShC.fr {c : Nat} (h : ShC σ c) (g : Fr P R σ σ') (hz : 624 ≤ sZ σ) (hR : okR R) (hc : isC c) : ShC σ' c := by
  have hb := isC_lt hc
  have T : ∀ i, i < 26 → sT σ' (c + i) = sT σ (c + i) := fun i hi => g.T (by omega)
  have N : ∀ i, i < 26 → sN σ' (c + i) = sN σ (c + i) := fun i hi => g.N (by omega)
  have V : ∀ i k, i < 26 → (i = 0 → k ≠ 12) → sV σ' (c + i) k = sV σ (c + i) k := fun i k hi hk => g.V (by omega) (by
    by_cases e : i = 0
    · exact Or.inr ⟨hk e, by omega, by omega⟩
    · exact Or.inl (okR_n hR (isC_not hc (by omega) hi) (by omega) (by omega)))
  obtain ⟨⟨p1, p2, p3, p4, p5, p6⟩, ⟨q1, q2, q3, q4, q5, q6⟩, ⟨r1, r2, r3, r4, r5, r6⟩, s1, s2, s3⟩ := h
  refine ⟨⟨(T 0 (by omega)).trans p1, (V 0 0 (by omega) (by omega)).trans p2, (V 0 1 (by omega) (by omega)).trans p3, (V 0 2 (by omega) (by omega)).trans p4, (V 0 3 (by omega) (by omega)).trans p5, (V 0 13 (by omega) (by omega)).trans p6⟩, ⟨(T 1 (by omega)).trans q1, (N 1 (by omega)).trans q2, (T 2 (by omega)).trans q3, (N 2 (by omega)).trans q4, (T 3 (by omega)).trans q5, (N 3 (by omega)).trans q6⟩, ⟨(T 4 (by omega)).trans r1, (V 4 2 (by omega) (by omega)).trans r2, (T 5 (by omega)).trans r3, (N 5 (by omega)).trans r4, (T 6 (by omega)).trans r5, (N 6 (by omega)).trans r6⟩, fun i hi => ⟨(V 1 i (by omega) (by omega)).trans (s1 i hi).1, ?_⟩, fun i hi => ⟨(V 2 i (by omega) (by omega)).trans (s2 i hi).1, ?_⟩, fun i hi => ⟨(V 3 i (by omega) (by omega)).trans (s3 i hi).1, ?_⟩⟩
  · rw [show c + 7 + i = c + (7 + i) by omega, T _ (by omega), ← show c + 7 + i = c + (7 + i) by omega]; exact (s1 i hi).2
  · rw [show c + 13 + i = c + (13 + i) by omega, T _ (by omega), ← show c + 13 + i = c + (13 + i) by omega]; exact (s2 i hi).2
  · rw [show c + 18 + i = c + (18 + i) by omega, T _ (by omega), ← show c + 18 + i = c + (18 + i) by omega]; exact (s3 i hi).2
theorem isC_no {a : Nat} (h : a = 200 ∨ a = 201 ∨ a = 206 ∨ (289 ≤ a ∧ a < 299) ∨ a < 211 ∨ 611 ≤ a) : ¬ isC a := fun z => by rcases z with e | e | e | ⟨j, e1, e2⟩ <;> omega
theorem ShX.fr (h : ShX σ) (g : Fr P R σ σ') (hz : 624 ≤ sZ σ) (hR : okR R) : ShX σ' := by
  have T : ∀ a, a < 624 → sT σ' a = sT σ a := fun a ha => g.T (by omega)
  have N : ∀ a, a < 624 → sN σ' a = sN σ a := fun a ha => g.N (by omega)
  have V : ∀ a k, (a = 200 ∨ a = 201 ∨ a = 206 ∨ (289 ≤ a ∧ a < 299)) → sV σ' a k = sV σ a k := fun a k ha => g.V (by omega) (Or.inl (okR_n hR (isC_no (by omega)) (by omega) (by omega)))
  obtain ⟨h1, h2, h3, ⟨h4, h4b, h4c⟩, h5, h6, h7, h8, h9⟩ := h
  refine ⟨?_, ?_, ?_, ⟨?_, ?_, fun i hi => ?_⟩, ?_, ?_, ?_, ?_, fun c hc => (h9 c hc).fr g hz hR hc⟩
  · rw [T 200 (by decide), V 200 0, V 200 1, V 200 2, V 200 3, V 200 4, V 200 5, V 200 6, V 200 7] <;> first | exact h1 | decide
  · rw [T 201 (by decide), T 202 (by decide), T 203 (by decide), T 204 (by decide), T 205 (by decide), N 202 (by decide), N 203 (by decide), N 204 (by decide), N 205 (by decide), V 201 0, V 201 2, V 201 3, V 201 4] <;> first | exact h2 | decide
  · rw [T 206 (by decide), T 207 (by decide), T 208 (by decide), T 209 (by decide), T 210 (by decide), N 207 (by decide), N 208 (by decide), N 209 (by decide), N 210 (by decide), V 206 0, V 206 1, V 206 2, V 206 3, V 206 4] <;> first | exact h3 | decide
  · rw [T 289 (by decide)]; exact h4
  · rw [N 289 (by decide)]; exact h4b
  · rw [V 289 i (by decide)]; exact h4c i hi
  · rw [T 290 (by decide), T 291 (by decide), N 291 (by decide), V 290 0, V 290 1] <;> first | exact h5 | decide
  · rw [T 292 (by decide), V 292 0, V 292 1, V 292 2, V 292 3, V 292 4, V 292 5, V 292 6, V 292 7] <;> first | exact h6 | decide
  · rw [T 293 (by decide), T 294 (by decide), T 295 (by decide), T 296 (by decide), T 297 (by decide), T 298 (by decide), N 293 (by decide), N 294 (by decide), N 295 (by decide), N 296 (by decide), N 297 (by decide), N 298 (by decide)]; exact h7
  · rw [T 623 (by decide), N 623 (by decide)]; exact h8
theorem LR.fr {q : Nat} {L : WW} (h : LR σ q L) (hq : 624 ≤ q) (hz : q < sZ σ) (g : TG σ) (k : Fr P R σ σ') (hR : okR R) : LR σ' q L := by
  obtain ⟨t0, t1, t2, t3, t4, t5⟩ := g.2 q hq hz h.1.1
  have T : ∀ i, i < 6 → sT σ' (q + i) = sT σ (q + i) := fun i hi => k.T (by omega)
  have N : ∀ i, i < 6 → sN σ' (q + i) = sN σ (q + i) := fun i hi => k.N (by omega)
  have V : ∀ i j, i < 6 → sV σ' (q + i) j = sV σ (q + i) j := fun i j hi => k.V (by omega) (Or.inl (okR_n hR (isC_no (by omega)) (by omega) (by omega)))
  have I : ∀ i j, i < 5 → sI σ' (q + i) j = sI σ (q + i) j := fun i j hi => (k.2 _ (by omega)).2.2 j (fun z => by omega) (fun _ h6 => by
    obtain ⟨u0, u1, u2, u3, u4, u5⟩ := g.2 (q + i - 5) (by have := h6.1; omega) (by omega) h6.2
    have h104 := h.1.1
    have h629 := h6.1
    rcases (by omega : i = 0 ∨ i = 1 ∨ i = 2 ∨ i = 3 ∨ i = 4) with e | e | e | e | e <;> subst e
    · rw [show q + 0 - 5 + 5 = q by omega] at u5; omega
    · rw [show q + 1 - 5 + 4 = q by omega] at u4; omega
    · rw [show q + 2 - 5 + 3 = q by omega] at u3; omega
    · rw [show q + 3 - 5 + 2 = q by omega] at u2; omega
    · rw [show q + 4 - 5 + 1 = q by omega] at u1; omega)
  obtain ⟨⟨p1, p2, p3, p4, p5, p6⟩, ⟨q1, q2, q3, q4, q5⟩, ⟨r1, r2, r3, r4, r5⟩, s1, s2, s3⟩ := h
  refine ⟨⟨(T 0 (by omega)).trans p1, (V 0 1 (by omega)).trans p2, (V 0 2 (by omega)).trans p3, (V 0 3 (by omega)).trans p4, (V 0 4 (by omega)).trans p5, (V 0 5 (by omega)).trans p6⟩, ⟨(T 1 (by omega)).trans q1, (T 2 (by omega)).trans q2, (T 3 (by omega)).trans q3, (T 4 (by omega)).trans q4, (T 5 (by omega)).trans q5⟩, ⟨(N 1 (by omega)).trans r1, (N 2 (by omega)).trans r2, (N 3 (by omega)).trans r3, (N 4 (by omega)).trans r4, (N 5 (by omega)).trans r5⟩, (I 0 0 (by omega)).trans s1, fun i hi => ⟨(V 1 i (by omega)).trans (s2 i hi).1, (I 2 i (by omega)).trans (s2 i hi).2.1, (I 3 i (by omega)).trans (s2 i hi).2.2⟩, fun j hj => (I 4 j (by omega)).trans (s3 j hj)⟩
theorem LawC.fr {c : Nat} {W L : WW} (h : LawC σ c W L) (g : TG σ) (k : Fr P R σ σ') (hR : okR R) (hv : sV σ' c 12 = sV σ c 12) : LawC σ' c W L := by
  rcases h with ⟨a1, a2⟩ | ⟨q, a1, a2, a3, a4, a5⟩
  · exact Or.inl ⟨hv.trans a1, a2⟩
  · have := k.1
    exact Or.inr ⟨q, by omega, hv.trans a2, a3.fr a1.1 (by omega) g k hR, a4, a5⟩
theorem CV.fr {c : Nat} {W L : WW} (h : CV σ c W L) (hW : WF W) (hc : isC c) (g : TG σ) (k : Fr P R σ σ') (hR : okR R) (hv : ¬ R c) (hP : ∀ i j, i < 26 → i ≠ 6 → ¬ P (c + i) j) (h0 : ∀ a j, a < 200 → ¬ P a j) : CV σ' c W L := by
  have hb := isC_lt hc
  have hz := g.1
  have s6 := (WF_nS hW).2
  have b5 := (WF_nB hW).2
  have d8 := (WF_nD hW).2
  have I : ∀ i j, i < 26 → i ≠ 6 → sI σ' (c + i) j = sI σ (c + i) j := fun i j hi h6 => k.I (by omega) (by omega) (hP i j hi h6)
  obtain ⟨⟨g1, g2⟩, ⟨c1, c2, c3, c4⟩, ⟨g5, g6⟩, g7, ⟨nx, l1, l2, l3, l4⟩, g9⟩ := h
  refine ⟨⟨g1.fr k hz hR hc, g2⟩, ⟨?_, fun s f x y => ?_, fun s f x y => ?_, fun s f x y => ?_⟩, ⟨g5.fr g k hR (k.V (by omega) (Or.inl hv)), g6⟩, fun s hs => ?_, ⟨nx, l1, ?_, ?_, fun ago col x y => ?_⟩, fun d hd => ?_⟩
  · have I0 : ∀ j, sI σ' c j = sI σ c j := fun j => I 0 j (by omega) (by omega)
    simp only [I0]; exact c1
  · rw [show c + 7 + s = c + (7 + s) by omega, I _ f (by omega) (by omega), ← show c + 7 + s = c + (7 + s) by omega]; exact c2 s f x y
  · rw [show c + 13 + s = c + (13 + s) by omega, I _ f (by omega) (by omega), ← show c + 13 + s = c + (13 + s) by omega]; exact c3 s f x y
  · rw [show c + 18 + s = c + (18 + s) by omega, I _ f (by omega) (by omega), ← show c + 18 + s = c + (18 + s) by omega]; exact c4 s f x y
  · rw [k.T (by omega), k.I (by omega) (by omega) (h0 s 1 (by omega))]; exact g7 s hs
  · rw [I 4 1 (by omega) (by omega)]; exact l2
  · rw [I 4 0 (by omega) (by omega)]; exact l3
  · rw [I 5 _ (by omega) (by omega)]; exact l4 ago col x y
  · rw [show c + 18 + d = c + (18 + d) by omega, I _ 6 (by omega) (by omega), ← show c + 18 + d = c + (18 + d) by omega]; exact g9 d hd
/-- a copy -/
theorem Cp.T {a b : Nat} (h : Cp a b σ σ') (q : Nat) : sT σ' q = sT σ q := by unfold sT; rw [h.1]
theorem Cp.N {a b : Nat} (h : Cp a b σ σ') (q : Nat) : sN σ' q = sN σ q := by unfold sN; rw [h.1]
theorem Cp.Z {a b : Nat} (h : Cp a b σ σ') : sZ σ' = sZ σ := by unfold sZ; rw [h.1]
theorem Cp.S {a b : Nat} (h : Cp a b σ σ') : sS σ' = sS σ := by unfold sS; rw [h.1]
theorem Cp.fr {a b : Nat} (h : Cp a b σ σ') (ha : isC a) (hP : ∀ q k, a ≤ q → q < a + 26 → P q k) (hR : R a) : Fr P R σ σ' := by
  have hb := isC_lt ha
  refine ⟨by rw [h.Z]; exact Nat.le_refl _, fun q hq => ⟨⟨h.T q, h.N q⟩, fun k hk => ?_, fun k x y => h.2.2.1 q k fun z => x (by omega) (hP q k z.1 z.2)⟩⟩
  rw [h.2.1 q k, if_neg]
  rintro ⟨rfl, e⟩
  rcases hk with hk | hk
  · exact hk hR
  · exact hk.1 e
theorem Cp.cv {a b : Nat} {W L : WW} (k : Cp a b σ σ') (h : CV σ b W L) (hW : WF W) (ha : isC a) (hb : isC b) (hs : ShC σ a) (g : TG σ) : CV σ' a W L := by
  have la := isC_lt ha
  have hz := g.1
  have f : Fr (fun q _ => a ≤ q ∧ q < a + 26) (fun q => q = a) σ σ' := k.fr ha (fun q _ x y => ⟨x, y⟩) rfl
  have hR : okR (fun q => q = a) := fun q e => Or.inl (by rw [e]; exact ha)
  have s6 := (WF_nS hW).2
  have b5 := (WF_nB hW).2
  have d8 := (WF_nD hW).2
  obtain ⟨k1, k2, k3, k4, k5, k6, k7, k8, k9, k10⟩ := k
  obtain ⟨⟨g1, g2⟩, ⟨⟨c1, d2, d3, d4, d5, d6, d7, e8⟩, c2, c3, c4⟩, ⟨g5, g6⟩, g7, ⟨nx, l1, l2, l3, l4⟩, g9⟩ := h
  refine ⟨⟨hs.fr f hz hR ha, by omega, by omega⟩, ⟨?_, fun s f x y => ?_, fun s f x y => ?_, fun s f x y => ?_⟩, ⟨?_, g6⟩, fun s hs => ?_, ⟨nx, l1, k9.trans l2, k8.trans l3, fun ago col x y => ?_⟩, fun d hd => ?_⟩
  · rw [k4 4 (by omega) (by omega), k4 5 (by omega) (by omega), k4 6 (by omega) (by omega), k4 7 (by omega) (by omega), k4 8 (by omega) (by omega), k4 9 (by omega) (by omega), k4 10 (by omega) (by omega), k4 11 (by omega) (by omega)]; exact ⟨c1, d2, d3, d4, d5, d6, d7, e8⟩
  · rw [k5 s f (by omega) y]; exact c2 s f x y
  · rw [k6 s f (by omega) y]; exact c3 s f x y
  · rw [k7 s f (by omega) y]; exact c4 s f x y
  · have v : sV σ' a 12 = sV σ b 12 := by rw [k2 a 12, if_pos ⟨rfl, rfl⟩]
    rcases g5 with ⟨a1, a2⟩ | ⟨q, a1, a2, a3, a4, a5⟩
    · exact Or.inl ⟨v.trans a1, a2⟩
    · exact Or.inr ⟨q, by have := f.1; omega, v.trans a2, a3.fr a1.1 (by omega) g f hR, a4, a5⟩
  · rw [f.T (by omega), f.I (by omega) (by omega) (by omega)]; exact g7 s hs
  · have : lgN W ≤ 60 := (WF_lg hW).2
    rw [k10 _ (by omega)]; exact l4 ago col x y
  · rw [k7 d 6 hd (by omega)]; exact g9 d hd
theorem TG.fr (h : TG σ) (g : Fr P R σ σ') (hz : sZ σ' = sZ σ) : TG σ' := by
  refine ⟨by rw [hz]; exact h.1, fun q hq hq1 hq2 => ?_⟩
  rw [hz] at hq1
  rw [g.T hq1] at hq2
  obtain ⟨b0, b1, b2, b3, b4, b5⟩ := h.2 q hq hq1 hq2
  rw [g.T (by omega), g.T (by omega), g.T (by omega), g.T (by omega), g.T (by omega)]
  exact ⟨by omega, b1, b2, b3, b4, b5⟩
theorem TG.mk (h : TG σ) {n s t : Nat} (ht : t ≠ 104) : TG (mkC σ t n s) := by
  have Z : sZ (mkC σ t n s) = sZ σ + 1 := rfl
  have T : ∀ q, q < sZ σ → sT (mkC σ t n s) q = sT σ q := fun q hq => if_neg (by omega)
  refine ⟨by rw [Z]; have := h.1; omega, fun q hq hq1 hq2 => ?_⟩
  by_cases e : q = sZ σ
  · have : sT (mkC σ t n s) q = t := if_pos e
    exact absurd (this.symm.trans hq2) ht
  · rw [T q (by omega)] at hq2
    obtain ⟨b0, b1, b2, b3, b4, b5⟩ := h.2 q hq (by omega) hq2
    rw [T _ (by omega), T _ (by omega), T _ (by omega), T _ (by omega), T _ (by omega)]
    exact ⟨by omega, b1, b2, b3, b4, b5⟩
end FR
