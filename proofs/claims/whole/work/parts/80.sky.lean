/-! questions of the sky: the same numbers in class and reference -/
section QA
variable {σ : SH} {W L : WW}
theorem QQ.x (h : QQ σ W L) : ShX σ := h.1
theorem QQ.s (h : QQ σ W L) : ShC σ 211 := h.2.1.1
theorem QQ.c (h : QQ σ W L) : CW σ 211 W := h.2.1.2.1
theorem QQ.w (h : QQ σ W L) : WF W := h.2.1.2.2.1
theorem QQ.m (h : QQ σ W L) : ShM σ := h.2.2.1.1
theorem QQ.e (h : QQ σ W L) : sI σ 612 = W := h.2.2.2.1.1
theorem QQ.l (h : QQ σ W L) : tx σ = L := h.2.2.2.1.2
theorem QQ.g (h : QQ σ W L) : TG σ := h.2.2.2.2
theorem QQ.tM (h : QQ σ W L) : sT σ 611 = 112 := h.m.1.1
theorem QQ.tC (h : QQ σ W L) : sT σ 211 = 101 := h.s.1.1
theorem QQ.we (h : QQ σ W L) : WF (sI σ 612) := by rw [h.e]; exact h.w
def rdN (W : WW) : Nat := (W 6).toInt.toNat
def miN (W : WW) : Nat := (W 5).toInt.toNat
theorem QQ.rd (h : QQ σ W L) : W 6 = nI (rdN W) ∧ rdN W < 16 := by
  have := WF_rd h.w
  unfold rdN
  exact ⟨this.1, by omega⟩
theorem QQ.mi (h : QQ σ W L) : W 5 = nI (miN W) ∧ miN W ≤ 9999 := WF_m h.w
theorem gw (h : QQ σ W L) (k : Nat → SR) : gR σ 112 1 (.ref 611) k = k 612 := gR_r h.m.1.1 h.m.1.2.1
theorem aw (h : QQ σ W L) {j : Nat} (hj : j < 2061) (k : Int32 → SR) : aI σ 1 (.ref 612) (nI j) k = k (W j) := by
  rw [m_w h.m hj, h.e]
theorem aw5 (h : QQ σ W L) (k : Int32 → SR) : aI σ 1 (.ref 612) 5 k = k (nI (miN W)) := (aw h (j := 5) (by decide) k).trans (by rw [h.mi.1])
theorem aw6 (h : QQ σ W L) (k : Int32 → SR) : aI σ 1 (.ref 612) 6 k = k (nI (rdN W)) := (aw h (j := 6) (by decide) k).trans (by rw [h.rd.1])
theorem aw7 (h : QQ σ W L) (k : Int32 → SR) : aI σ 1 (.ref 612) 7 k = k (W 7) := aw h (j := 7) (by decide) k
theorem c8 (h : QQ σ W L) (k : Int32 → SR) : gI σ 101 8 (.ref 211) k = k (nI (rdN W)) := by
  rw [gI_r h.tC, h.c.1.2.2.2.2.1, h.rd.1]
theorem c10 (h : QQ σ W L) (k : Int32 → SR) : gI σ 101 10 (.ref 211) k = k (nI (miN W)) := by
  rw [gI_r h.tC, h.c.1.2.2.2.2.2.2.1, h.mi.1]
theorem c4 (h : QQ σ W L) (k : Int32 → SR) : gI σ 101 4 (.ref 211) k = k (nI (nS W)) := by
  rw [gI_r h.tC, h.c.1.1, (WF_nS h.w).1]
theorem c5 (h : QQ σ W L) (k : Int32 → SR) : gI σ 101 5 (.ref 211) k = k (nI (nB W)) := by
  rw [gI_r h.tC, h.c.1.2.1, (WF_nB h.w).1]
theorem c6 (h : QQ σ W L) (k : Int32 → SR) : gI σ 101 6 (.ref 211) k = k (nI (nD W)) := by
  rw [gI_r h.tC, h.c.1.2.2.1, (WF_nD h.w).1]
theorem cs0 (h : QQ σ W L) (k : Nat → SR) : gR σ 101 0 (.ref 211) k = k 212 := gR_r h.s.1.1 h.s.1.2.1
theorem cs1 (h : QQ σ W L) (k : Nat → SR) : gR σ 101 1 (.ref 211) k = k 213 := gR_r h.s.1.1 h.s.1.2.2.1
theorem cs2 (h : QQ σ W L) (k : Nat → SR) : gR σ 101 2 (.ref 211) k = k 214 := gR_r h.s.1.1 h.s.1.2.2.2.1
theorem cS' (h : QQ σ W L) {s : Nat} (hs : s < nS W) (k : Nat → SR) : aR σ (.ref 212) (nI s) k = k (218 + s) := cS h.s (by have := (WF_nS h.w).2; omega) k
theorem cB' (h : QQ σ W L) {b : Nat} (hb : b < nB W) (k : Nat → SR) : aR σ (.ref 213) (nI b) k = k (224 + b) := cB h.s (by have := (WF_nB h.w).2; omega) k
theorem cD' (h : QQ σ W L) {d : Nat} (hd : d < nD W) (k : Nat → SR) : aR σ (.ref 214) (nI d) k = k (229 + d) := cD h.s (by have := (WF_nD h.w).2; omega) k
theorem tS' (h : QQ σ W L) {s : Nat} (hs : s < nS W) : sT σ (218 + s) = 108 := (h.s.2.2.2.1 s (by have := (WF_nS h.w).2; omega)).2
theorem tB' (h : QQ σ W L) {b : Nat} (hb : b < nB W) : sT σ (224 + b) = 100 := (h.s.2.2.2.2.1 b (by have := (WF_nB h.w).2; omega)).2
theorem tD' (h : QQ σ W L) {d : Nat} (hd : d < nD W) : sT σ (229 + d) = 102 := (h.s.2.2.2.2.2 d (by have := (WF_nD h.w).2; omega)).2
theorem gS (h : QQ σ W L) {s f : Nat} (hs : s < nS W) (hf : f < 7) (k : Int32 → SR) : gI σ 108 f (.ref (218 + s)) k = k (sh W s f) := by
  rw [gI_r (tS' h hs)]; exact congrArg k (h.c.2.1 s f hs hf)
theorem gB (h : QQ σ W L) {b f : Nat} (hb : b < nB W) (hf : f < 3) (k : Int32 → SR) : gI σ 100 f (.ref (224 + b)) k = k (br W b f) := by
  rw [gI_r (tB' h hb)]; exact congrArg k (h.c.2.2.1 b f hb hf)
theorem gD (h : QQ σ W L) {d f : Nat} (hd : d < nD W) (hf : f < 7) (k : Int32 → SR) : gI σ 102 f (.ref (229 + d)) k = k (de W d f) := by
  rw [gI_r (tD' h hd)]; exact congrArg k (h.c.2.2.2 d f hd hf)
theorem q11 (h : QQ σ W L) {a j : Nat} (ha : a < 16) (hj : j < 2147483648) : rn 11 [.ref 211, .int (nI a), .int (nI j)] σ = some (.inl (some (.int (wetB W a j))), σ) := m_11 h.s h.c h.w ha hj
theorem q20 (h : QQ σ W L) {a j : Nat} (ha : a < 16) (hj : j < 2147483648) : rn 20 [.ref 211, .int (nI a), .int (nI j)] σ = some (.inl (some (.int (oI (arN W a j)))), σ) := m_20 h.s h.c h.w ha hj
theorem q95 (h : QQ σ W L) {s j : Nat} (hs : s < nS W) (hj : j < 2147483648) : rn 95 [.ref (218 + s), .int (nI j)] σ = some (.inl (some (.int (bs (fun a => lies W s a j) 16))), σ) := by
  obtain ⟨w0, w1, w2, w3, w4, w5, w6⟩ := h.w.2.1 s hs
  have hf := fun f hf => h.c.2.1 s f hs hf
  have := m_95 (q := 218 + s) (tS' h hs) (by rw [hf 0 (by omega)]; exact w0) (by rw [hf 1 (by omega)]; exact w1) (by rw [hf 2 (by omega)]; exact w2) (by rw [hf 3 (by omega)]; exact w3) (by rw [hf 4 (by omega)]; exact w4) hj
  rw [hf 0 (by omega), hf 1 (by omega), hf 2 (by omega), hf 3 (by omega), hf 4 (by omega)] at this
  exact this
theorem q233 (h : QQ σ W L) {a j : Nat} (ha : a < 16) (hj : j < 2147483648) : rn 233 [.ref 611, .int (nI a), .int (nI j)] σ = some (.inl (some (.int (wetB W a j))), σ) := by
  have := m_233 h.m h.we ha hj; rw [h.e] at this; exact this
theorem q232 (h : QQ σ W L) {a j : Nat} (ha : a < 16) (hj : j < 2147483648) : rn 232 [.ref 611, .int (nI a), .int (nI j)] σ = some (.inl (some (.int (bI (arN W a j).isSome))), σ) := by
  have := m_232 h.m h.we ha hj; rw [h.e] at this; exact this
theorem q237 (h : QQ σ W L) {g a j : Nat} (hg : g < 16) (ha : a < 16) (hj : j < 2147483648) : rn 237 [.ref 611, .int (nI g), .int (nI a), .int (nI j)] σ = some (.inl (some (.int (bI (decide (arN W a j = some g))))), σ) := by
  have := m_237 h.m h.we hg ha hj; rw [h.e] at this; exact this
theorem q234 (h : QQ σ W L) {s a j : Nat} (hs : s < nS W) (ha : a < 16) (hj : j < 2147483648) : rn 234 [.ref 611, .int (nI s), .int (nI a), .int (nI j)] σ = some (.inl (some (.int (bI (lies W s a j)))), σ) := by
  have := m_234 h.m h.we (by rw [h.e]; exact hs) ha hj; rw [h.e] at this; exact this
theorem q195 (h : QQ σ W L) : rn 195 [.ref 611] σ = some (.inl (some (.int (nI (nS W)))), σ) := by rw [m_195 h.m, h.e, (WF_nS h.w).1]
theorem q201 (h : QQ σ W L) : rn 201 [.ref 611] σ = some (.inl (some (.int (nI (nB W)))), σ) := by rw [m_201 h.m, h.e, (WF_nB h.w).1]
theorem q204 (h : QQ σ W L) : rn 204 [.ref 611] σ = some (.inl (some (.int (nI (nD W)))), σ) := by rw [m_204 h.m, h.e, (WF_nD h.w).1]
theorem q221 (h : QQ σ W L) {s f : Nat} (hs : 10 + 7 * s + f < 2061) : rn 221 [.ref 611, .int (nI s), .int (OfNat.ofNat f)] σ = some (.inl (some (.int (sh W s f))), σ) := by rw [m_221 h.m hs, h.e]
theorem q251 (h : QQ σ W L) {b f : Nat} (hs : 52 + 3 * b + f < 2061) : rn 251 [.ref 611, .int (nI b), .int (OfNat.ofNat f)] σ = some (.inl (some (.int (br W b f))), σ) := by rw [m_251 h.m hs, h.e]
theorem q257 (h : QQ σ W L) {d f : Nat} (hs : 67 + 7 * d + f < 2061) : rn 257 [.ref 611, .int (nI d), .int (OfNat.ofNat f)] σ = some (.inl (some (.int (de W d f))), σ) := by rw [m_257 h.m hs, h.e]
theorem q256 (h : QQ σ W L) {d : Nat} (hd : d < 8) : rn 256 [.ref 611, .int (nI d)] σ = some (.inl (some (.int (bI (decide (de W d 4 ≠ -1))))), σ) := by rw [m_256 h.m hd, h.e]
theorem q258 (h : QQ σ W L) {d : Nat} (hd : d < 8) (x : Int32) : rn 258 [.ref 611, .int (nI d), .int x] σ = some (.inl (some (.int (bI (decide ((de W d 1).toInt ≤ x.toInt ∧ x.toInt ≤ (de W d 2).toInt))))), σ) := by rw [m_258 h.m hd, h.e]
end QA
theorem oI_sm {o : Option Nat} {a : Nat} (ho : ∀ x, o = some x → x < 16) (ha : a < 16) : oI o = nI a ↔ o = some a := by
  cases o with
  | none => exact ⟨fun e => absurd e.symm (nI_neg (by omega)), fun e => by cases e⟩
  | some x =>
    have := ho x rfl
    refine ⟨fun e => ?_, fun e => by cases e; rfl⟩
    rw [(nI_eq (a := x) (b := a) (by omega) (by omega)).mp e]
theorem oI_no {o : Option Nat} (ho : ∀ x, o = some x → x < 16) : oI o = -1 ↔ o = none := by
  cases o with
  | none => exact ⟨fun _ => rfl, fun _ => rfl⟩
  | some x =>
    have := ho x rfl
    exact ⟨fun e => absurd e (nI_neg (by omega)), fun e => by cases e⟩
theorem oI_ar {W : WW} {a j g : Nat} (ha : a < 16) (hg : g < 16) : oI (arN W a j) = nI g ↔ arN W a j = some g := oI_sm (fun _ e => arN_lt ha e) hg
theorem oI_ft {a j g : Nat} (ha : a < 16) (hg : g < 16) : oI (ftN a j) = nI g ↔ ftN a j = some g := oI_sm (fun _ e => ftN_lt ha e) hg
theorem nI_lta {j i n : Nat} (h : i < n) (hb : j + n < 2147483648) : nI (j + i) < nI j + nI n := by rw [nI_add]; exact nI_lt (by omega) (by omega)
theorem nI_nlta {j n : Nat} (hb : j + n < 2147483648) : ¬ nI (j + n) < nI j + nI n := by rw [nI_add]; exact nI_nlt (Nat.le_refl _) (by omega)
theorem nI_ltal {j i n : Nat} (h : i < n) (hb : j + n < 2147483648) : nI (j + i) < nI j + (OfNat.ofNat n : Int32) := nI_lta h hb
theorem nI_nltal {j n : Nat} (hb : j + n < 2147483648) : ¬ nI (j + n) < nI j + (OfNat.ofNat n : Int32) := nI_nlta hb
theorem nI_1a (j i : Nat) : nI (j + i) + 1 = nI (j + (i + 1)) := nI_1 _
theorem fo_last {α : Type} (g : Nat → α → α) : ∀ (k i : Nat) (a : α), fo g i (k + 1) a = g (i + k) (fo g i k a)
  | 0, _, _ => rfl
  | k + 1, i, a => by
    show fo g (i + 1) (k + 1) (g i a) = g (i + (k + 1)) (fo g (i + 1) k (g i a))
    rw [fo_last g k (i + 1), show i + 1 + k = i + (k + 1) by omega]
/-- a count -/
def ctg (p : Nat → Bool) : Nat → Int32 → Int32 := fun i s => if p i = true then s + 1 else s
def stN (W : WW) (r a j n : Nat) : Int32 := fo (ctg (fun i => decide (arN W r (j + i) = some a))) 0 n 0
/-- the first of the most -/
def bestG (f : Nat → Int32) : Nat := fo (fun i b => if f b < f i then i else b) 1 15 0
theorem bestG_lt {f : Nat → Int32} {k : Nat} (hk : k ≤ 15) : fo (fun i b => if f b < f i then i else b) 1 k 0 < 16 := by
  have := fo_inv (g := fun i b => if f b < f i then i else b) (I := fun i b => b < i) k 1 0 (by omega) (fun j b h1 h2 h3 => by
    try dsimp only
    split <;> omega)
  omega
section QB
variable {σ : SH} {W L : WW}
theorem m_26 (h : QQ σ W L) {a j : Nat} (ha : a < 16) (hj : j < 2147483648) : rn 26 [.ref 290, .int (nI a), .int (nI j)] σ = some (.inl (some (.int (bs (fun f => decide (arN W f j = some a)) 16))), σ) := by
  rw [r_26]
  refine lp0 (F := fun f b => exec PP 5 26 5 [some (.ref 290), some (.int (nI a)), some (.int (nI j)), some (.int b), some (.int (nI f))] [] σ) (g := bsg (fun f => decide (arN W f j = some a))) (K := fun b => some (.inl (some (.int b)), σ)) (n := 16) ?_ ?_ 16 0 0 (by omega)
  · intro f b hf
    try dsimp only
    rw [e_26_5, if_pos (nI_ltl hf (by decide)), fc0 h.x, if_pos h.tC, q20 h hf hj, onI_i]
    unfold bsg
    by_cases c : arN W f j = some a
    · rw [if_pos ((oI_ar hf ha).mpr c), if_pos (by simp [c]), nI_1]
    · rw [if_neg (fun z => c ((oI_ar hf ha).mp z)), e_26_33, if_neg (by simp [c]), nI_1]
  · intro b
    try dsimp only
    rw [e_26_5, if_neg (nI_nltl (Nat.le_refl 16) (by decide)), e_26_39]
theorem m_27 (h : QQ σ W L) {a j n : Nat} (ha : a < 16) (hj : j ≤ 9999) (hn : n ≤ 96) : rn 27 [.ref 290, .int (nI a), .int (nI j), .int (nI n)] σ = some (.inl (some (.int (stN W (rdN W) a j n))), σ) := by
  rw [r_27]
  refine lp0 (F := fun i s => exec PP 5 27 6 [some (.ref 290), some (.int (nI a)), some (.int (nI j)), some (.int (nI n)), some (.int s), some (.int (nI (j + i)))] [] σ) (g := ctg (fun i => decide (arN W (rdN W) (j + i) = some a))) (K := fun s => some (.inl (some (.int s)), σ)) (n := n) ?_ ?_ n 0 0 (by omega)
  · intro i s hi
    try dsimp only
    rw [e_27_6, if_pos (nI_lta hi (by omega)), fc0 h.x, fc0 h.x, c8 h, if_pos h.tC, q20 h h.rd.2 (by omega), onI_i]
    unfold ctg
    by_cases c : arN W (rdN W) (j + i) = some a
    · rw [if_pos ((oI_ar h.rd.2 ha).mpr c), if_pos (by simp [c]), nI_1a]
    · rw [if_neg (fun z => c ((oI_ar h.rd.2 ha).mp z)), e_27_37, if_neg (by simp [c]), nI_1a]
  · intro b
    try dsimp only
    rw [e_27_6, if_neg (nI_nlta (by omega)), e_27_43]
theorem m_240 (h : QQ σ W L) {a r j n : Nat} (ha : a < 16) (hr : r < 16) (hj : j ≤ 9999) (hn : n ≤ 96) : rn 240 [.ref 611, .int (nI a), .int (nI r), .int (nI j), .int (nI n)] σ = some (.inl (some (.int (stN W r a j n))), σ) := by
  rw [r_240]
  refine lp0 (F := fun i s => exec PP 6 240 6 [some (.ref 611), some (.int (nI a)), some (.int (nI r)), some (.int (nI j)), some (.int (nI n)), some (.int s), some (.int (nI i))] [] σ) (g := ctg (fun i => decide (arN W r (j + i) = some a))) (K := fun s => some (.inl (some (.int s)), σ)) (n := n) ?_ ?_ n 0 0 (by omega)
  · intro i s hi
    try dsimp only
    rw [e_240_6, if_pos (nI_lt hi (by omega)), if_pos h.tM, nI_add, q237 h ha hr (by omega), onI_i, iB]
    unfold ctg
    cases c : decide (arN W r (j + i) = some a)
    · rw [if_pos rfl, e_240_32, if_neg (fun z => absurd (c.symm.trans z) (by decide)), nI_1, Int32.add_zero]
    · rw [if_neg (by decide), e_240_33, if_pos c, nI_1]
  · intro b
    try dsimp only
    rw [e_240_6, if_neg (nI_nlt (Nat.le_refl _) (by omega)), e_240_42]
/-- the row of counts -/
def K1 (a _k : Nat) : Prop := a = 291
theorem K1.scr {σ0 σ' : SH} (k : Kp K1 σ0 σ') : Kp (Scr σ0) σ0 σ' := k.mono fun a k z => by unfold K1 at z; unfold Scr; omega
theorem QQ.k1 (h : QQ σ W L) {σ' : SH} (k : Kp K1 σ σ') : QQ σ' W L := h.qs (K1.scr k).qs
theorem m_29 (h : QQ σ W L) : ∃ σ', rn 29 [.ref 290] σ = some (.inl none, σ') ∧ Kp K1 σ σ' ∧ ∀ i, i < 16 → sI σ' 291 i = 0 := by
  rw [r_29]
  obtain ⟨σ', h1, h2⟩ := lpS (F := fun i (_ : Unit) σ => exec PP 1 29 2 [some (.ref 290), some (.int (nI i))] [] σ) (g := fun _ u => u) (K := fun _ σ => some (.inl none, σ)) (I := fun i _ σ' => Kp K1 σ σ' ∧ ∀ q, q < i → sI σ' 291 q = 0) (n := 16) (by
    intro i u σ1 hi hI
    have h' := h.k1 hI.1
    refine ⟨wI σ1 291 i 0, ?_, hI.1.wr rfl, fun q hq => ?_⟩
    · rw [e_29_2, if_pos (nI_ltl hi (by decide)), fc1 h'.x, st_w h'.x hi, nI_1]
    · by_cases e : q = i
      · subst e; exact sI_wIs _ _ _ _
      · rw [sI_wIn (by omega)]; exact hI.2 q (by omega)) (by
    intro u σ1 hI
    rw [e_29_2, if_neg (nI_nltl (Nat.le_refl 16) (by decide)), e_29_21]) 16 0 () σ (by omega) ⟨Kp.rf _, fun q hq => by omega⟩
  exact ⟨σ', h1, h2.1, h2.2⟩
theorem m_30 (h : QQ σ W L) {f : Nat → Int32} (hf : ∀ i, i < 16 → sI σ 291 i = f i) : rn 30 [.ref 290] σ = some (.inl (some (.int (nI (bestG f)))), σ) := by
  rw [r_30]
  refine lpI (F := fun i b => exec PP 1 30 4 [some (.ref 290), some (.int (nI b)), some (.int (nI i))] [] σ) (g := fun i b => if f b < f i then i else b) (K := fun b => some (.inl (some (.int (nI b))), σ)) (I := fun i b => b < i) (n := 16) ?_ ?_ 15 1 0 (by omega) (by omega)
  · intro i b hi hb
    try dsimp only
    refine ⟨?_, by split <;> omega⟩
    rw [e_30_4, if_pos (nI_ltl hi (by decide)), fc1 h.x, st_r h.x hi, fc1 h.x, st_r h.x (by omega), hf i hi, hf b (by omega)]
    by_cases c : f b < f i
    · rw [if_pos c, if_pos c, nI_1]
    · rw [if_neg c, if_neg c, e_30_27, nI_1]
  · intro b hb
    try dsimp only
    rw [e_30_4, if_neg (nI_nltl (Nat.le_refl 16) (by decide)), e_30_33]
theorem m_28 (h : QQ σ W L) {j n : Nat} (hj : j ≤ 9999) (hn : n ≤ 96) : ∃ σ', rn 28 [.ref 290, .int (nI j), .int (nI n)] σ = some (.inl (some (.int (nI (bestG (fun a => stN W (rdN W) a j n))))), σ') ∧ Kp K1 σ σ' := by
  obtain ⟨σ0, c1, c2, c3⟩ := m_29 h
  rw [r_28, if_pos (tFc h.x), c1, onV_i]
  obtain ⟨σ', h1, h2⟩ := lpS (F := fun i (_ : Unit) σ => exec PP 5 28 6 [some (.ref 290), some (.int (nI j)), some (.int (nI n)), some (.int (nI (j + i))), none] [] σ) (g := fun _ u => u) (K := fun _ σ => exec PP 5 28 53 [some (.ref 290), none, none, none, none] [] σ) (I := fun i _ σ' => Kp K1 σ σ' ∧ ∀ q, q < 16 → sI σ' 291 q = stN W (rdN W) q j i) (n := n) (by
    intro i u σ1 hi hI
    have h' := h.k1 hI.1
    have nx : ∀ q, stN W (rdN W) q j (i + 1) = if decide (arN W (rdN W) (j + i) = some q) = true then stN W (rdN W) q j i + 1 else stN W (rdN W) q j i := fun q => by
      unfold stN
      rw [fo_last, Nat.zero_add]
      rfl
    cases c : arN W (rdN W) (j + i) with
    | none =>
      refine ⟨σ1, ?_, hI.1, fun q hq => ?_⟩
      · rw [e_28_6, if_pos (nI_lta hi (by omega)), fc0 h'.x, fc0 h'.x, c8 h', if_pos h'.tC, q20 h' h'.rd.2 (by omega), onI_i, c, if_pos (show oI none = -1 from rfl), e_28_47, nI_1a]
      · rw [nx, c, if_neg (by simp)]; exact hI.2 q hq
    | some g =>
      have hg := arN_lt h.rd.2 c
      refine ⟨wI σ1 291 g (sI σ1 291 g + 1), ?_, hI.1.wr rfl, fun q hq => ?_⟩
      · rw [e_28_6, if_pos (nI_lta hi (by omega)), fc0 h'.x, fc0 h'.x, c8 h', if_pos h'.tC, q20 h' h'.rd.2 (by omega), onI_i, c, if_neg (show ¬ oI (some g) = -1 from nI_neg (by omega)), fc1 h'.x, show oI (some g) = nI g from rfl, st_r h'.x hg, st_w h'.x hg, nI_1a]
      · rw [nx, c]
        by_cases e : q = g
        · subst e
          rw [sI_wIs, if_pos (by simp), hI.2 q hq]
        · rw [sI_wIn (by omega), if_neg (by simp; omega)]; exact hI.2 q hq) (by
    intro u σ1 hI
    rw [e_28_6, if_neg (nI_nlta (by omega)), e_28_53, e_28_53]) n 0 () σ0 (by omega) ⟨c2, fun q hq => c3 q hq⟩
  have h' := h.k1 h2.1
  refine ⟨σ', ?_, h2.1⟩
  refine h1.trans ?_
  rw [e_28_53, if_pos (tFc h'.x), m_30 h' (f := fun a => stN W (rdN W) a j n) h2.2, onI_i]
theorem m_31 (h : QQ σ W L) {a j : Nat} (ha : a < 16) (hj : j ≤ 9999) : rn 31 [.ref 290, .int (nI a), .int (nI j)] σ = some (.inl (some (.int (match fi (fun i => decide (arN W (rdN W) (j + i) = some a)) 0 200 with
    | some i => nI (j + i)
    | none => -1))), σ) := by
  rw [r_31]
  have key := lpE (F := fun i => exec PP 5 31 2 [some (.ref 290), some (.int (nI a)), some (.int (nI j)), some (.int (nI (j + i)))] [] σ) (p := fun i => decide (arN W (rdN W) (j + i) = some a)) (R := fun i => some (.inl (some (.int (nI (j + i)))), σ)) (K := some (.inl (some (.int (-1))), σ)) (n := 200) ?_ ?_ 200 0 (by omega)
  · refine key.trans ?_
    cases fi (fun i => decide (arN W (rdN W) (j + i) = some a)) 0 200 <;> rfl
  · intro i hi
    try dsimp only
    rw [e_31_2, if_pos (nI_ltal hi (by omega)), fc0 h.x, fc0 h.x, c8 h, if_pos h.tC, q20 h h.rd.2 (by omega), onI_i]
    by_cases c : arN W (rdN W) (j + i) = some a
    · rw [if_pos ((oI_ar h.rd.2 ha).mpr c), if_pos (by simp [c])]
    · rw [if_neg (fun z => c ((oI_ar h.rd.2 ha).mp z)), e_31_32, if_neg (by simp [c]), nI_1a]
  · try dsimp only
    rw [e_31_2, if_neg (nI_nltal (by omega)), e_31_38]
theorem m_33 (h : QQ σ W L) {a j : Nat} (ha : a < 16) (hj : j < 2147483648) : ∃ σ', rn 33 [.ref 290, .int (nI a), .int (nI j)] σ = some (.inl none, σ') ∧ Kp K1 σ σ' ∧ ∀ q, q < 16 → sI σ' 291 q = if ftN q j = some a then sI σ 291 q + 1 else sI σ 291 q := by
  rw [r_33]
  obtain ⟨σ', h1, h2⟩ := lpS (F := fun i (_ : Unit) σ => exec PP 4 33 2 [some (.ref 290), some (.int (nI a)), some (.int (nI j)), some (.int (nI i))] [] σ) (g := fun _ u => u) (K := fun _ σ => some (.inl none, σ)) (I := fun i _ σ' => Kp K1 σ σ' ∧ ∀ q, q < 16 → sI σ' 291 q = if q < i ∧ ftN q j = some a then sI σ 291 q + 1 else sI σ 291 q) (n := 16) (by
    intro i u σ1 hi hI
    have h' := h.k1 hI.1
    by_cases c : ftN i j = some a
    · refine ⟨wI σ1 291 i (sI σ1 291 i + 1), ?_, hI.1.wr rfl, fun q hq => ?_⟩
      · rw [e_33_2, if_pos (nI_ltl hi (by decide)), m_145 hi hj, onI_i, if_pos ((oI_ft hi ha).mpr c), fc1 h'.x, st_r h'.x hi, st_w h'.x hi, nI_1]
      · by_cases e : q = i
        · subst e
          rw [sI_wIs, hI.2 q hq, if_neg (by omega), if_pos ⟨by omega, c⟩]
        · rw [sI_wIn (by omega), hI.2 q hq]
          by_cases e2 : q < i ∧ ftN q j = some a
          · rw [if_pos e2, if_pos ⟨by omega, e2.2⟩]
          · rw [if_neg e2, if_neg (fun z => e2 ⟨by omega, z.2⟩)]
    · refine ⟨σ1, ?_, hI.1, fun q hq => ?_⟩
      · rw [e_33_2, if_pos (nI_ltl hi (by decide)), m_145 hi hj, onI_i, if_neg (fun z => c ((oI_ft hi ha).mp z)), e_33_27, nI_1]
      · rw [hI.2 q hq]
        by_cases e2 : q < i ∧ ftN q j = some a
        · rw [if_pos e2, if_pos ⟨by omega, e2.2⟩]
        · rw [if_neg e2, if_neg (fun z => by
            by_cases e : q = i
            · subst e; exact c z.2
            · exact e2 ⟨by omega, z.2⟩)]) (by
    intro u σ1 hI
    rw [e_33_2, if_neg (nI_nltl (Nat.le_refl 16) (by decide)), e_33_33]) 16 0 () σ (by omega) ⟨Kp.rf _, fun q hq => by rw [if_neg (by omega)]⟩
  refine ⟨σ', h1, h2.1, fun q hq => ?_⟩
  rw [h2.2 q hq]
  by_cases c : ftN q j = some a
  · rw [if_pos ⟨hq, c⟩, if_pos c]
  · rw [if_neg (fun z => c z.2), if_neg c]
theorem ar_ft {W : WW} {q a j : Nat} : arN W q j = some a ↔ ftN q j = some a ∧ wetB W a j ≠ 0 := by
  unfold arN
  cases h : ftN q j with
  | none => exact ⟨fun e => (by cases e), fun e => (by cases e.1)⟩
  | some f =>
    try dsimp only
    by_cases z : wetB W f j = 0
    · rw [if_pos z]
      exact ⟨fun e => (by cases e), fun e => (by cases e.1; exact absurd z e.2)⟩
    · rw [if_neg z]
      exact ⟨fun e => (by cases e; exact ⟨rfl, z⟩), fun e => e.1⟩
theorem m_32 (h : QQ σ W L) {a j n : Nat} (ha : a < 16) (hj : j ≤ 9999) (hn : n ≤ 96) : ∃ σ', rn 32 [.ref 290, .int (nI a), .int (nI j), .int (nI n)] σ = some (.inl (some (.int (nI (bestG (fun r => stN W r a j n))))), σ') ∧ Kp K1 σ σ' := by
  obtain ⟨σ0, c1, c2, c3⟩ := m_29 h
  rw [r_32, if_pos (tFc h.x), c1, onV_i]
  obtain ⟨σ', h1, h2⟩ := lpS (F := fun i (_ : Unit) σ => exec PP 5 32 7 [some (.ref 290), some (.int (nI a)), some (.int (nI j)), some (.int (nI n)), some (.int (nI (j + i)))] [] σ) (g := fun _ u => u) (K := fun _ σ => exec PP 5 32 41 [some (.ref 290), none, none, none, none] [] σ) (I := fun i _ σ' => Kp K1 σ σ' ∧ ∀ q, q < 16 → sI σ' 291 q = stN W q a j i) (n := n) (by
    intro i u σ1 hi hI
    have h' := h.k1 hI.1
    have nx : ∀ q, stN W q a j (i + 1) = if decide (arN W q (j + i) = some a) = true then stN W q a j i + 1 else stN W q a j i := fun q => by
      unfold stN
      rw [fo_last, Nat.zero_add]
      rfl
    by_cases z : wetB W a (j + i) = 0
    · refine ⟨σ1, ?_, hI.1, fun q hq => ?_⟩
      · rw [e_32_7, if_pos (nI_lta hi (by omega)), fc0 h'.x, if_pos h'.tC, q11 h' ha (by omega), onI_i, if_pos z, e_32_35, nI_1a]
      · rw [nx, if_neg (by rw [decide_eq_true_iff, ar_ft]; exact fun e => e.2 z)]; exact hI.2 q hq
    · obtain ⟨σ2, g1, g2, g3⟩ := m_33 h' ha (j := j + i) (by omega)
      refine ⟨σ2, ?_, hI.1.tr g2, fun q hq => ?_⟩
      · rw [e_32_7, if_pos (nI_lta hi (by omega)), fc0 h'.x, if_pos h'.tC, q11 h' ha (by omega), onI_i, if_neg z, if_pos (tFc h'.x), g1, onV_i, nI_1a]
      · rw [nx, g3 q hq, hI.2 q hq]
        by_cases c : ftN q (j + i) = some a
        · rw [if_pos c, if_pos (by rw [decide_eq_true_iff, ar_ft]; exact ⟨c, z⟩)]
        · rw [if_neg c, if_neg (by rw [decide_eq_true_iff, ar_ft]; exact fun e => c e.1)]) (by
    intro u σ1 hI
    rw [e_32_7, if_neg (nI_nlta (by omega)), e_32_41, e_32_41]) n 0 () σ0 (by omega) ⟨c2, fun q hq => c3 q hq⟩
  have h' := h.k1 h2.1
  refine ⟨σ', ?_, h2.1⟩
  refine h1.trans ?_
  rw [e_32_41, if_pos (tFc h'.x), m_30 h' (f := fun r => stN W r a j n) h2.2, onI_i]
/-- spray -/
def sprN (W : WW) (j : Nat) : Int32 := fo (fun f b => match ftN f j with
  | none => b
  | some g => b &&& (shl 1 (nI g) ^^^ (-1))) 0 16 (bs (fun a => decide (wetB W a j ≠ 0)) 16)
theorem m_44 (h : QQ σ W L) {j : Nat} (hj : j < 2147483648) : rn 44 [.ref 290, .int (nI j)] σ = some (.inl (some (.int (sprN W j))), σ) := by
  have l1 := lp0 (F := fun a b => exec PP 4 44 4 [some (.ref 290), some (.int (nI j)), some (.int b), some (.int (nI a)), none] [] σ) (g := bsg (fun a => decide (wetB W a j ≠ 0))) (K := fun b => exec PP 4 44 36 [none, some (.int (nI j)), some (.int b), some (.int 0), none] [] σ) (n := 16) (by
    intro a b ha
    try dsimp only
    rw [e_44_4, if_pos (nI_ltl ha (by decide)), fc0 h.x, if_pos h.tC, q11 h ha hj, onI_i]
    unfold bsg
    by_cases z : wetB W a j = 0
    · rw [if_pos z, e_44_28, if_neg (by simp [z]), nI_1]
    · rw [if_neg z, if_pos (by simp [z]), nI_1]) (by
    intro b
    try dsimp only
    rw [e_44_4, if_neg (nI_nltl (Nat.le_refl 16) (by decide)), e_44_34]) 16 0 0 (by omega)
  have l2 := lp0 (F := fun f b => exec PP 4 44 36 [none, some (.int (nI j)), some (.int b), some (.int (nI f)), none] [] σ) (g := fun f b => match ftN f j with
  | none => b
  | some g => b &&& (shl 1 (nI g) ^^^ (-1))) (K := fun b => some (.inl (some (.int b)), σ)) (n := 16) (by
    intro f b hf
    try dsimp only
    rw [e_44_36, if_pos (nI_ltl hf (by decide)), m_145 hf hj, onI_i]
    cases c : ftN f j with
    | none => rw [if_pos (show oI none = -1 from rfl), e_44_64, nI_1]
    | some g =>
      have hg := ftN_lt hf c
      rw [if_neg (show ¬ oI (some g) = -1 from nI_neg (by omega)), nI_1]; rfl) (by
    intro b
    try dsimp only
    rw [e_44_36, if_neg (nI_nltl (Nat.le_refl 16) (by decide)), e_44_70]) 16 0 (bs (fun a => decide (wetB W a j ≠ 0)) 16) (by omega)
  rw [r_44]
  exact l1.trans l2
def bothN (W : WW) (a b j n : Nat) : Int32 := fo (ctg (fun i => (arN W a (j + i)).isSome && (arN W b (j + i)).isSome)) 0 n 0
theorem m_45 (h : QQ σ W L) {a b j n : Nat} (ha : a < 16) (hb : b < 16) (hj : j ≤ 9999) (hn : n ≤ 96) : rn 45 [.ref 290, .int (nI a), .int (nI b), .int (nI j), .int (nI n)] σ = some (.inl (some (.int (bothN W a b j n))), σ) := by
  rw [r_45]
  refine lp0 (F := fun i s => exec PP 5 45 6 [some (.ref 290), some (.int (nI a)), some (.int (nI b)), some (.int (nI j)), some (.int (nI n)), some (.int s), some (.int (nI (j + i)))] [] σ) (g := ctg (fun i => (arN W a (j + i)).isSome && (arN W b (j + i)).isSome)) (K := fun s => some (.inl (some (.int s)), σ)) (n := n) ?_ ?_ n 0 0 (by omega)
  · intro i s hi
    try dsimp only
    rw [e_45_6, if_pos (nI_lta hi (by omega)), fc0 h.x, if_pos h.tC, q20 h ha (by omega), onI_i]
    unfold ctg
    cases c : arN W a (j + i) with
    | none => rw [if_pos (show oI none = -1 from rfl), e_45_46, if_neg (by simp [c]), nI_1a]
    | some g =>
      have hg := arN_lt ha c
      rw [if_neg (show ¬ oI (some g) = -1 from nI_neg (by omega)), fc0 h.x, if_pos h.tC, q20 h hb (by omega), onI_i]
      cases c2 : arN W b (j + i) with
      | none => rw [if_pos (show oI none = -1 from rfl), e_45_46, if_neg (by simp [c2]), nI_1a]
      | some g2 =>
        have hg2 := arN_lt hb c2
        rw [if_neg (show ¬ oI (some g2) = -1 from nI_neg (by omega)), if_pos (by simp [c, c2]), nI_1a]
  · intro b
    try dsimp only
    rw [e_45_6, if_neg (nI_nlta (by omega)), e_45_52]
end QB
