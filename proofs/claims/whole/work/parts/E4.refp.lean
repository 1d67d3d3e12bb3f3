/-! the reference's readers: world W, at byte p, the last thing's begin b, st steps, dp deep -/
def Rst (σ : SH) (W : WW) (p b st dp : Nat) : SH := (fun a k => if a = 612 then W k else if a = 611 then (if k = 10 then nI p else if k = 12 then nI b else if k = 13 then nI dp else if k = 16 then nI st else σ.1 a k) else σ.1 a k, σ.2)
section RSTs
variable {σ : SH} {W : WW} {p b st dp : Nat}
theorem Rst_p (p' : Nat) : wI (Rst σ W p b st dp) 611 10 (nI p') = Rst σ W p' b st dp := by
  refine Prod.ext ?_ rfl
  funext a k
  show (if a = 611 ∧ k = 10 then nI p' else (Rst σ W p b st dp).1 a k) = (Rst σ W p' b st dp).1 a k
  unfold Rst
  by_cases h1 : a = 611
  · by_cases h2 : k = 10 <;> simp [h1, h2]
  · simp [h1]
theorem Rst_b (p' : Nat) : wI (Rst σ W p b st dp) 611 12 (nI p') = Rst σ W p p' st dp := by
  refine Prod.ext ?_ rfl
  funext a k
  show (if a = 611 ∧ k = 12 then nI p' else (Rst σ W p b st dp).1 a k) = (Rst σ W p p' st dp).1 a k
  unfold Rst
  by_cases h1 : a = 611
  · by_cases h2 : k = 12 <;> simp [h1, h2]
  · simp [h1]
theorem Rst_d (p' : Nat) : wI (Rst σ W p b st dp) 611 13 (nI p') = Rst σ W p b st p' := by
  refine Prod.ext ?_ rfl
  funext a k
  show (if a = 611 ∧ k = 13 then nI p' else (Rst σ W p b st dp).1 a k) = (Rst σ W p b st p').1 a k
  unfold Rst
  by_cases h1 : a = 611
  · by_cases h2 : k = 13 <;> simp [h1, h2]
  · simp [h1]
theorem Rst_s (p' : Nat) : wI (Rst σ W p b st dp) 611 16 (nI p') = Rst σ W p b p' dp := by
  refine Prod.ext ?_ rfl
  funext a k
  show (if a = 611 ∧ k = 16 then nI p' else (Rst σ W p b st dp).1 a k) = (Rst σ W p b p' dp).1 a k
  unfold Rst
  by_cases h1 : a = 611
  · by_cases h2 : k = 16 <;> simp [h1, h2]
  · simp [h1]
theorem Rst_w (j : Nat) (v : Int32) : wI (Rst σ W p b st dp) 612 j v = Rst σ (uW W j v) p b st dp := by
  refine Prod.ext ?_ rfl
  funext a k
  show (if a = 612 ∧ k = j then v else (Rst σ W p b st dp).1 a k) = (Rst σ (uW W j v) p b st dp).1 a k
  unfold Rst uW
  by_cases h1 : a = 612
  · by_cases h2 : k = j <;> simp [h1, h2]
  · simp [h1]
theorem Rst_10 : sI (Rst σ W p b st dp) 611 10 = nI p := rfl
theorem Rst_12 : sI (Rst σ W p b st dp) 611 12 = nI b := rfl
theorem Rst_13 : sI (Rst σ W p b st dp) 611 13 = nI dp := rfl
theorem Rst_16 : sI (Rst σ W p b st dp) 611 16 = nI st := rfl
theorem Rst_11 : sI (Rst σ W p b st dp) 611 11 = sI σ 611 11 := rfl
theorem Rst_617 (k : Nat) : sI (Rst σ W p b st dp) 617 k = sI σ 617 k := rfl
theorem Rst_612 (k : Nat) : sI (Rst σ W p b st dp) 612 k = W k := rfl
theorem Rst_o {a k : Nat} (h : a ≠ 612) (h1 : a = 611 → k ≠ 10 ∧ k ≠ 12 ∧ k ≠ 13 ∧ k ≠ 16) : sI (Rst σ W p b st dp) a k = sI σ a k := by
  show (if a = 612 then W k else if a = 611 then (if k = 10 then nI p else if k = 12 then nI b else if k = 13 then nI dp else if k = 16 then nI st else σ.1 a k) else σ.1 a k) = σ.1 a k
  rw [if_neg h]
  by_cases z : a = 611
  · obtain ⟨q1, q2, q3, q4⟩ := h1 z
    rw [if_pos z, if_neg q1, if_neg q2, if_neg q3, if_neg q4]
  · rw [if_neg z]
end RSTs
def TkR (σ : SH) (t : TXT) : Prop := ShM σ ∧ TxO t ∧ StA σ ∧ sI σ 611 11 = nI t.2.1 ∧ ∀ k, k < 400 → sI σ 617 k = sb (t.1 k)
/-- before thing k -/
def tAt (t : TXT) (k p : Nat) : Prop := k ≤ tkN t ∧ p ≤ tkE t k ∧ ∀ q, p ≤ q → q < tkE t k → t.1 q = 32
section TAT
variable {t : TXT}
theorem TxO.le (h : TxO t) {k : Nat} (hk : k ≤ tkN t) : tkE t k ≤ t.2.1 := by
  by_cases z : k < tkN t
  · have := (h.k z).1; omega
  · rw [tkE_ge (by omega)]; exact Nat.le_refl _
theorem TxO.at0 (h : TxO t) : tAt t 0 0 := ⟨by omega, by omega, fun q _ hq => h.1.1.2.2 q hq⟩
theorem TxO.ats (h : TxO t) {k : Nat} (hk : k < tkN t) : tAt t (k + 1) (tkE t k + tkS t k) := ⟨hk, (h.k hk).1.2.1, fun q x y => (h.k hk).2.1 q x y⟩
theorem TxO.ate {k : Nat} (hk : k ≤ tkN t) : tAt t k (tkE t k) := ⟨hk, by omega, fun q x y => by omega⟩
/-- behind the letters of thing k -/
def tkL (t : TXT) (k : Nat) : Nat := if k < tkN t ∧ kdN (t.1 (tkE t k)) = 1 then tkE t k + tkS t k else tkE t k
theorem TxO.lle (h : TxO t) {k : Nat} (hk : k ≤ tkN t) : tkE t k ≤ tkL t k ∧ tkL t k ≤ t.2.1 := by
  have := h.le hk
  unfold tkL
  split
  · rename_i z
    have := (h.k z.1).1; omega
  · omega
end TAT
section E4
variable {σ : SH} {t : TXT} {W : WW} {p b st dp k : Nat}
theorem m_189 (h : TkR σ t) {lo hi : Nat} (hp : p ≤ t.2.1) (hl : lo < 128) (hh : hi < 128) : rn 189 [.ref 611, .int (nI lo), .int (nI hi)] (Rst σ W p b st dp) = some (.inl (some (.int (bI (decide (p < t.2.1 ∧ lo ≤ t.1 p ∧ t.1 p ≤ hi))))), Rst σ W p b st dp) := by
  have tt : sT (Rst σ W p b st dp) 611 = 112 := h.1.1.1
  have hT := h.2.1.2.1
  rw [r_189, gI_r tt, gI_r tt, Rst_10, Rst_11, h.2.2.2.1]
  by_cases c : p < t.2.1
  · have hB := h.2.1.2.2 p (by omega)
    have s1 := sb_t (t.1 p) hB
    have rd : ∀ q : Int32 → SR, aI (Rst σ W p b st dp) 2 (.ref 617) (nI p) q = q (sb (t.1 p)) := fun q => by
      rw [aI_r (show sT (Rst σ W p b st dp) 617 = 2 from h.1.2.1.2.2.2.2.2.1) (by rw [show sN (Rst σ W p b st dp) 617 = 400 from h.1.2.2.2.2.2.2.2.1]; omega) (by rw [show sN (Rst σ W p b st dp) 617 = 400 from h.1.2.2.2.2.2.2.2.1]; decide), Rst_617, h.2.2.2.2 p (by omega)]
    have v8 : sV (Rst σ W p b st dp) 611 8 = .ref 617 := h.1.1.2.2.2.2.2.2.1
    have el : (nI lo).toInt = lo := tnI (by omega)
    have eh : (nI hi).toInt = hi := tnI (by omega)
    rw [if_pos (nI_lt c (by omega)), gR_r tt v8, gI_r tt, Rst_10, rd, gR_r tt v8, gI_r tt, Rst_10, rd]
    by_cases c1 : sb (t.1 p) < nI lo
    · rw [if_pos c1, e_189_41, decide_eq_false (fun z => by rw [tlt, el, s1] at c1; split at c1 <;> omega)]; rfl
    · rw [if_neg c1]
      by_cases c2 : nI hi < sb (t.1 p)
      · rw [if_pos c2, e_189_41, decide_eq_false (fun z => by rw [tlt, eh, s1] at c2; split at c2 <;> omega)]; rfl
      · rw [if_neg c2, e_189_42, if_pos (Or.inr rfl), decide_eq_true (by
          rw [tlt, el, s1] at c1
          rw [tlt, eh, s1] at c2
          split at c1 <;> split at c2 <;> omega)]; rfl
  · rw [if_neg (nI_nlt (by omega) (by omega)), e_189_41, decide_eq_false (fun z => c z.1)]; rfl
theorem Rst_tt (h : TkR σ t) : sT (Rst σ W p b st dp) 611 = 112 := h.1.1.1
theorem m_188' (h : TkR σ t) {q : Nat} (hq : q ≤ t.2.1) (he : q = t.2.1 ∨ t.1 q ≠ 32) : ∀ m p, p + m = q → (∀ r, p ≤ r → r < q → t.1 r = 32) → exec PP 2 188 0 [some (.ref 611)] [] (Rst σ W p b st dp) = some (.inl none, Rst σ W q q st dp)
  | 0, p, hm, _ => by
    have : p = q := by omega
    subst this
    rw [e_188_0, if_pos (Rst_tt h), show (.int 32 : Value) = .int (nI 32) from rfl, m_189 h hq (by omega) (by omega), onI_i, iB, decide_eq_false (fun z => by omega), if_pos rfl, e_188_24, gI_r (Rst_tt h), Rst_10, pI_r (Rst_tt h), Rst_b]
  | m + 1, p, hm, hb => by
    have := hb p (by omega) (by omega)
    rw [e_188_0, if_pos (Rst_tt h), show (.int 32 : Value) = .int (nI 32) from rfl, m_189 h (by omega) (by omega) (by omega), onI_i, iB, decide_eq_true (by omega), if_neg (by decide), gI_r (Rst_tt h), Rst_10, nI_1, pI_r (Rst_tt h), Rst_p]
    exact m_188' h hq he m (p + 1) (by omega) fun r x y => hb r (by omega) y
theorem m_188 (h : TkR σ t) (ha : tAt t k p) : rn 188 [.ref 611] (Rst σ W p b st dp) = some (.inl none, Rst σ W (tkE t k) (tkE t k) st dp) := by
  have le := h.2.1.le ha.1
  refine ((r_188 611 _).trans (e_188_0 611 _).symm).trans (m_188' h le ?_ (tkE t k - p) p (by have := ha.2.1; omega) ha.2.2)
  by_cases z : k < tkN t
  · exact Or.inr fun e => (h.2.1.k z).2.2.1 (kdN_32.mpr e)
  · exact Or.inl (tkE_ge (by omega))
theorem m_191' (h : TkR σ t) {q : Nat} (hq : q ≤ t.2.1) (he : q = t.2.1 ∨ kdN (t.1 q) ≠ 1) : ∀ m p, p + m = q → (∀ r, p ≤ r → r < q → kdN (t.1 r) = 1) → exec PP 3 191 4 [some (.ref 611)] [] (Rst σ W p b st dp) = some (.inl none, Rst σ W q b st dp)
  | 0, p, hm, _ => by
    have : p = q := by omega
    subst this
    rw [e_191_4, if_pos (Rst_tt h), show (.int 97 : Value) = .int (nI 97) from rfl, show (.int 122 : Value) = .int (nI 122) from rfl, m_189 h hq (by omega) (by omega), onI_i, iB, decide_eq_false (fun z => by have := kd1.mpr z.2; omega), if_pos rfl, e_191_28]
  | m + 1, p, hm, hb => by
    have := kd1.mp (hb p (by omega) (by omega))
    rw [e_191_4, if_pos (Rst_tt h), show (.int 97 : Value) = .int (nI 97) from rfl, show (.int 122 : Value) = .int (nI 122) from rfl, m_189 h (by omega) (by omega) (by omega), onI_i, iB, decide_eq_true (by omega), if_neg (by decide), gI_r (Rst_tt h), Rst_10, nI_1, pI_r (Rst_tt h), Rst_p]
    exact m_191' h hq he m (p + 1) (by omega) fun r x y => hb r (by omega) y
theorem m_191 (h : TkR σ t) (ha : tAt t k p) : rn 191 [.ref 611] (Rst σ W p b st dp) = some (.inl none, Rst σ W (tkL t k) (tkE t k) st dp) := by
  have le := h.2.1.le ha.1
  have ll := h.2.1.lle ha.1
  rw [r_191, if_pos (Rst_tt h), m_188 h ha, onV_i]
  refine m_191' h ll.2 ?_ (tkL t k - tkE t k) (tkE t k) (by omega) (fun r x y => ?_)
  · unfold tkL
    by_cases z : k < tkN t ∧ kdN (t.1 (tkE t k)) = 1
    · rw [if_pos z]
      obtain ⟨⟨a1, a2, a3⟩, a4, a5, a6, a7, a8⟩ := h.2.1.k z.1
      by_cases e : tkE t k + tkS t k < t.2.1
      · rcases a8 e with q | q
        · omega
        · rw [z.2] at q; exact Or.inr q
      · exact Or.inl (by omega)
    · rw [if_neg z]
      by_cases y : k < tkN t
      · exact Or.inr fun e => z ⟨y, e⟩
      · exact Or.inl (tkE_ge (by omega))
  · unfold tkL at y
    by_cases z : k < tkN t ∧ kdN (t.1 (tkE t k)) = 1
    · rw [if_pos z] at y
      exact ((h.2.1.k z.1).2.2.2.1 r x y).trans z.2
    · rw [if_neg z] at y; omega
/-- which sign the reference's strings tell -/
def rsgN (j : Nat) : Nat := nthD [0, 6, 7, 8, 9, 10, 1, 11, 12, 2, 13, 3, 4, 5, 14, 15, 16, 17, 26, 24, 25, 18, 19, 20, 21, 22, 23, 30, 31] j 0
theorem rs_ch : ∀ j, j < 29 → (chL (38 + j)).length = (chL (rsgN j)).length ∧ (∀ k, k < (chL (38 + j)).length → chN (38 + j) k = chN (rsgN j) k) ∧ rsgN j < 35 ∧ kdN (chN (rsgN j) 0) = 1 := by decide +kernel
theorem m_193' (h : TkR σ t) {j : Nat} (hj : j < 29) (hb : b ≤ p) (hp : p ≤ t.2.1) : rn 193 [.ref 611, .ref (120 + j)] (Rst σ W p b st dp) = some (.inl (some (.int (bI (decide (mt t.1 b (p - b) (38 + j)))))), Rst σ W p b st dp) := by
  have tt : sT (Rst σ W p b st dp) 611 = 112 := h.1.1.1
  have hT := h.2.1.2.1
  have ha : StrA (Rst σ W p b st dp) (120 + j) (150 + j) (38 + j) := (h.2.2.1.2.2 j hj).lo (Lo.e rfl fun a k ha => Rst_o (by omega) (by omega)) (by omega) (by omega)
  have hl := ch_len (38 + j) (by omega)
  have v8 : sV (Rst σ W p b st dp) 611 8 = .ref 617 := h.1.1.2.2.2.2.2.2.1
  have rd : ∀ (r : Nat) (q : Int32 → SR), r < 400 → aI (Rst σ W p b st dp) 2 (.ref 617) (nI r) q = q (sb (t.1 r)) := fun r q hr => by
    rw [aI_r (show sT (Rst σ W p b st dp) 617 = 2 from h.1.2.1.2.2.2.2.2.1) (by rw [show sN (Rst σ W p b st dp) 617 = 400 from h.1.2.2.2.2.2.2.2.1]; omega) (by rw [show sN (Rst σ W p b st dp) 617 = 400 from h.1.2.2.2.2.2.2.2.1]; decide), Rst_617, h.2.2.2.2 r hr]
  have z0 : ∀ o3, exec PP 5 193 24 [some (.ref 611), some (.ref (120 + j)), some (.int 0), some (.int o3)] [] (Rst σ W p b st dp) = some (.inl (some (.int 0)), Rst σ W p b st dp) := fun o3 => by
    rw [e_193_24, if_pos rfl, e_193_67, if_pos (Or.inl rfl)]
  rw [r_193, gI_r tt, gI_r tt, Rst_10, Rst_12, if_pos ha.1, m_318 ha, onI_i, nI_sub hb]
  by_cases e : p - b = (chL (38 + j)).length
  · rw [if_pos (by rw [e]), e_193_21]
    have key := lpE (F := fun i => exec PP 5 193 24 [some (.ref 611), some (.ref (120 + j)), some (.int 1), some (.int (nI i))] [] (Rst σ W p b st dp)) (p := fun i => decide (t.1 (b + i) ≠ chN (38 + j) i)) (R := fun _ => some (.inl (some (.int 0)), Rst σ W p b st dp)) (K := some (.inl (some (.int 1)), Rst σ W p b st dp)) (n := (chL (38 + j)).length) (by
      intro i hi
      try dsimp only
      have hc := (ch_ok (38 + j) (by omega) i (by omega)).2
      have hB := h.2.1.2.2 (b + i) (by omega)
      rw [e_193_24, if_neg (show ¬ (1 : Int32) = 0 by decide), if_pos ha.1, m_318 ha, onI_i, if_pos (nI_lt hi (by omega)), gR_r tt v8, gI_r tt, Rst_12, nI_add, rd _ _ (by omega), if_pos ha.1, m_320 ha (by omega) hi, onI_i]
      by_cases c : t.1 (b + i) = chN (38 + j) i
      · rw [if_pos (by rw [c]; exact sb_nI hc), e_193_60, nI_1, if_neg (by simp [c])]
      · rw [if_neg (fun z => by
          have s1 := sb_t _ hB
          rw [z, tnI (by omega)] at s1
          split at s1 <;> omega), e_193_59, z0, if_pos (by simp [c])]) (by
      try dsimp only
      rw [e_193_24, if_neg (show ¬ (1 : Int32) = 0 by decide), if_pos ha.1, m_318 ha, onI_i, if_neg (nI_nlt (Nat.le_refl _) (by omega)), e_193_67, if_pos (Or.inr rfl)]) (chL (38 + j)).length 0 (by omega)
    refine key.trans ?_
    cases f : fi (fun i => decide (t.1 (b + i) ≠ chN (38 + j) i)) 0 (chL (38 + j)).length with
    | none =>
      try dsimp only
      rw [decide_eq_true (show mt t.1 b (p - b) (38 + j) from ⟨e, fun i hi => by have := fi_none _ _ f i (by omega) (by omega); simpa using this⟩)]
      rfl
    | some i =>
      try dsimp only
      obtain ⟨q1, q2, q3, -⟩ := fi_some _ _ _ f
      rw [decide_eq_false (show ¬ mt t.1 b (p - b) (38 + j) from fun z => by have := z.2 i (by omega); simp [this] at q1)]
      rfl
  · rw [if_neg (fun z => e ((nI_eq (by omega) (by omega)).mp z)), e_193_20, z0, decide_eq_false (fun z => e z.1)]
    rfl
theorem m_193 (h : TkR σ t) {j : Nat} (hj : j < 29) (hk : k ≤ tkN t) : rn 193 [.ref 611, .ref (120 + j)] (Rst σ W (tkL t k) (tkE t k) st dp) = some (.inl (some (.int (bI (decide (tkG t k = rsgN j))))), Rst σ W (tkL t k) (tkE t k) st dp) := by
  have ll := h.2.1.lle hk
  obtain ⟨c1, c2, c3, c4⟩ := rs_ch j hj
  have f := ch_fst (rsgN j) c3
  rw [m_193' h hj ll.1 ll.2]
  have mm : ∀ s, mt t.1 (tkE t k) s (38 + j) ↔ mt t.1 (tkE t k) s (rsgN j) := fun s => ⟨fun z => ⟨z.1.trans c1, fun i hi => (z.2 i hi).trans (c2 i (by rw [← z.1]; exact hi))⟩, fun z => ⟨z.1.trans c1.symm, fun i hi => (z.2 i hi).trans (c2 i (by rw [c1, ← z.1]; exact hi)).symm⟩⟩
  have key : mt t.1 (tkE t k) (tkL t k - tkE t k) (38 + j) ↔ tkG t k = rsgN j := by
    rw [mm]
    by_cases z : k < tkN t
    · have a1 := (h.2.1.k z).1.1
      rw [tkG_lt z, sgN_w a1 c3]
      by_cases y : kdN (t.1 (tkE t k)) = 1
      · unfold tkL
        rw [if_pos ⟨z, y⟩, Nat.add_sub_cancel_left]
      · unfold tkL
        rw [if_neg (fun w => y w.2), Nat.sub_self]
        constructor
        · intro q; have := q.1; omega
        · intro q
          have := q.2 0 (by omega)
          rw [Nat.add_zero] at this
          rw [this] at y
          exact absurd c4 y
    · rw [tkG_ge (by omega)]
      unfold tkL
      rw [if_neg (fun w => z w.1), Nat.sub_self]
      constructor
      · intro q; have := q.1; omega
      · intro q; omega
  rw [decide_eq_decide.mpr key]
/-- passes -/
theorem m_199y (h : TkR σ t) {j : Nat} (hj : j < 29) (ha : tAt t k p) (e : tkG t k = rsgN j) : rn 199 [.ref 611, .ref (120 + j)] (Rst σ W p b st dp) = some (.inl (some (.int 1)), Rst σ W (tkE t k + tkS t k) (tkE t k) st dp) ∧ k < tkN t ∧ tkL t k = tkE t k + tkS t k := by
  obtain ⟨c1, c2, c3, c4⟩ := rs_ch j hj
  have z := h.2.1.lt e (by omega)
  have a1 := (h.2.1.k z).1.1
  have e' := e
  rw [tkG_lt z, sgN_w a1 c3] at e'
  have y := e'.2 0 (by omega)
  rw [Nat.add_zero] at y
  have el : tkL t k = tkE t k + tkS t k := if_pos ⟨z, by rw [y]; exact c4⟩
  refine ⟨?_, z, el⟩
  rw [r_199, if_pos (Rst_tt h), m_191 h ha, onV_i, if_pos (Rst_tt h), m_193 h hj ha.1, onI_i, iB, decide_eq_true e, if_neg (by decide), el]
theorem m_199n (h : TkR σ t) {j : Nat} (hj : j < 29) (ha : tAt t k p) (e : tkG t k ≠ rsgN j) : rn 199 [.ref 611, .ref (120 + j)] (Rst σ W p b st dp) = some (.inl (some (.int 0)), Rst σ W (tkE t k) (tkE t k) st dp) := by
  rw [r_199, if_pos (Rst_tt h), m_191 h ha, onV_i, if_pos (Rst_tt h), m_193 h hj ha.1, onI_i, iB, decide_eq_false e, if_pos rfl, e_199_14, gI_r (Rst_tt h), Rst_12, pI_r (Rst_tt h), Rst_p]
/-- one sign -/
theorem m_211y (h : TkR σ t) {i c : Nat} (hi : i < 35) (hc : (chL i).length = 1 ∧ chN i 0 = c) (ha : tAt t k p) (e : tkG t k = i) : rn 211 [.ref 611, .int (nI c)] (Rst σ W p b st dp) = some (.inl (some (.int 1)), Rst σ W (tkE t k + tkS t k) (tkE t k) st dp) ∧ k < tkN t := by
  have z := h.2.1.lt e (by omega)
  obtain ⟨⟨a1, a2, a3⟩, -⟩ := h.2.1.k z
  have hT := h.2.1.2.1
  have e' := e
  rw [tkG_lt z, sgN_w a1 hi] at e'
  have y := e'.2 0 (by omega)
  rw [Nat.add_zero] at y
  have l := (ch_ok i (by omega) 0 (by omega)).2
  have s1 : tkS t k = 1 := e'.1.trans hc.1
  refine ⟨?_, z⟩
  rw [r_211, if_pos (Rst_tt h), m_188 h ha, onV_i, if_pos (Rst_tt h), m_189 h (by omega) (by omega) (by omega), onI_i, iB, decide_eq_true (by omega), if_neg (by decide), e_211_15, gI_r (Rst_tt h), Rst_10, nI_1, pI_r (Rst_tt h), Rst_p, s1]
theorem m_211n (h : TkR σ t) {i c : Nat} (hi : i < 35) (hc : (chL i).length = 1 ∧ chN i 0 = c) (ha : tAt t k p) (e : tkG t k ≠ i) : rn 211 [.ref 611, .int (nI c)] (Rst σ W p b st dp) = some (.inl (some (.int 0)), Rst σ W (tkE t k) (tkE t k) st dp) := by
  have l := (ch_ok i (by omega) 0 (by omega)).2
  have f := ch_fst i hi
  have le := h.2.1.le ha.1
  have ne : ¬ (tkE t k < t.2.1 ∧ c ≤ t.1 (tkE t k) ∧ t.1 (tkE t k) ≤ c) := fun w => by
    by_cases z : k < tkN t
    · obtain ⟨⟨a1, a2, a3⟩, a4, a5, a6, a7, a8⟩ := h.2.1.k z
      have eb : t.1 (tkE t k) = chN i 0 := by omega
      refine e ?_
      rw [tkG_lt z, sgN_w a1 hi]
      have s1 := a7 (by rw [eb]; exact f.2.2.2.2.mp hc.1)
      exact ⟨s1.trans hc.1.symm, fun j hj => by rw [show j = 0 by omega, Nat.add_zero]; exact eb⟩
    · have := tkE_ge (t := t) (k := k) (by omega)
      omega
  rw [r_211, if_pos (Rst_tt h), m_188 h ha, onV_i, if_pos (Rst_tt h), m_189 h le (by omega) (by omega), onI_i, iB, decide_eq_false ne, if_pos rfl]
end E4
