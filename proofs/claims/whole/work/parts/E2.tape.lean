/-! the class's tape split -/
def TSp (a k : Nat) : Prop := (a = 201 ∧ (k = 5 ∨ k = 6)) ∨ a = 204 ∨ a = 205
section E2
variable {σ τ : SH} {B : Nat → Nat}
theorem TB.e (h : TB σ B) (e : τ.2 = σ.2) (hb : ∀ k, sI τ 202 k = sI σ 202 k) : TB τ B := by
  have T : ∀ q, sT τ q = sT σ q := fun q => by unfold sT; rw [e]
  have N : ∀ q, sN τ q = sN σ q := fun q => by unfold sN; rw [e]
  have V : ∀ q k, sV τ q k = sV σ q k := fun q k => by unfold sV; rw [e]
  unfold TB at h ⊢
  simp only [T, N, V, hb]
  exact h
theorem TB.kp {P : Nat → Nat → Prop} (h : TB σ B) (k : Kp P σ τ) (hP : ∀ j, ¬ P 202 j) : TB τ B := h.e k.1 (fun j => k.2 _ _ (hP j))
theorem StA.kp {P : Nat → Nat → Prop} (h : StA σ) (k : Kp P σ τ) (hP : ∀ a j, a < 200 → ¬ P a j) : StA τ := h.lo (Lo.e k.1 fun a j ha => k.2 _ _ (hP a j ha))
/-- the first loop -/
theorem sp_1 (h : TB σ B) {T : Nat} (hT : T ≤ 400) (h1 : sI σ 201 1 = nI T) (h5 : sI σ 201 5 = 0) : ∃ σ' n g s, exec PP 7 98 14 [some (.ref 201), some (.int 3), some (.int 0), none] [] σ = exec PP 7 98 112 [some (.ref 201), none, some (.int 0), none] [] σ' ∧ Kp TSp σ σ' ∧ Tok B T n g s ∧ sI σ' 201 5 = nI n ∧ sI σ' 201 6 = sI σ 201 6 ∧ ∀ k, k < n → sI σ' 204 k = nI (g k) ∧ sI σ' 205 k = nI (s k) := by
  suffices main : ∀ m i (τ : SH) (n : Nat) (g s : Nat → Nat) (o : Option Value), i + m = T → Kp TSp σ τ → Tok B i n g s → sI τ 201 5 = nI n → sI τ 201 6 = sI σ 201 6 → (∀ k, k < n → sI τ 204 k = nI (g k) ∧ sI τ 205 k = nI (s k)) → ∃ σ' n g s, exec PP 7 98 14 [some (.ref 201), some (.int (nI (if i = 0 then 3 else kdN (B (i - 1))))), some (.int (nI i)), o] [] τ = exec PP 7 98 112 [some (.ref 201), none, some (.int 0), none] [] σ' ∧ Kp TSp σ σ' ∧ Tok B T n g s ∧ sI σ' 201 5 = nI n ∧ sI σ' 201 6 = sI σ 201 6 ∧ ∀ k, k < n → sI σ' 204 k = nI (g k) ∧ sI σ' 205 k = nI (s k) by
    exact main T 0 σ 0 (fun _ => 0) (fun _ => 0) none (by omega) (Kp.rf _) tok_0 h5 rfl (fun k hk => by omega)
  intro m
  induction m with
  | zero =>
    intro i τ n g s o hi hk ht e5 e6 hc
    have hb := h.kp hk (by unfold TSp; omega)
    have e1 : sI τ 201 1 = nI T := (hk.2 _ _ (by unfold TSp; omega)).trans h1
    refine ⟨τ, n, g, s, ?_, hk, by rw [← show i = T by omega]; exact ht, e5, e6, hc⟩
    rw [e_98_14, gI_r hb.1.1, e1, if_neg (nI_nlt (by omega) (by omega)), e_98_110]
  | succ m ih =>
    intro i τ n g s o hi hk ht e5 e6 hc
    have hb := h.kp hk (by unfold TSp; omega)
    have e1 : sI τ 201 1 = nI T := (hk.2 _ _ (by unfold TSp; omega)).trans h1
    have hB := (h.2.2 i (by omega)).1
    have kl := kdN_le (B i)
    have kl2 := kdN_le (B (i - 1))
    have nT : n ≤ i := ht.1.1
    have step : exec PP 7 98 14 [some (.ref 201), some (.int (nI (if i = 0 then 3 else kdN (B (i - 1))))), some (.int (nI i)), o] [] τ = (if nI (kdN (B i)) = 3 then (exec PP 7 98 66 [some (.ref 201), some (.int (nI (if i = 0 then 3 else kdN (B (i - 1))))), some (.int (nI i)), some (.int (nI (kdN (B i))))] [] τ)
      else (if nI (kdN (B i)) = 32 then (exec PP 7 98 66 [some (.ref 201), some (.int (nI (if i = 0 then 3 else kdN (B (i - 1))))), some (.int (nI i)), some (.int (nI (kdN (B i))))] [] τ)
        else (if nI (kdN (B i)) = nI (if i = 0 then 3 else kdN (B (i - 1))) then (gR τ 110 4 (.ref 201) fun a27 =>
            gI τ 110 5 (.ref 201) fun x28 =>
            aI τ 1 (.ref a27) (x28 - 1) fun x29 =>
            uI τ (.ref a27) (x28 - 1) (x29 + 1) fun σ30 =>
            exec PP 7 98 102 [some (.ref 201), some (.int (nI (if i = 0 then 3 else kdN (B (i - 1))))), some (.int (nI i)), some (.int (nI (kdN (B i))))] [] σ30)
          else (exec PP 7 98 66 [some (.ref 201), some (.int (nI (if i = 0 then 3 else kdN (B (i - 1))))), some (.int (nI i)), some (.int (nI (kdN (B i))))] [] τ)))) := by
      rw [e_98_14, gI_r hb.1.1, e1, if_pos (nI_lt (by omega) (by omega)), gR_r hb.1.1 hb.1.2.1, hb.b (by omega), m_99 hB, onI_i]
    have nx : (if i + 1 = 0 then 3 else kdN (B (i + 1 - 1))) = kdN (B i) := by rw [if_neg (by omega), Nat.add_sub_cancel]
    have new : kdN (B i) ≠ 32 → (kdN (B i) = 3 ∨ i = 0 ∨ kdN (B i) ≠ kdN (B (i - 1))) → ∃ σ' n' g' s', exec PP 7 98 66 [some (.ref 201), some (.int (nI (if i = 0 then 3 else kdN (B (i - 1))))), some (.int (nI i)), some (.int (nI (kdN (B i))))] [] τ = exec PP 7 98 112 [some (.ref 201), none, some (.int 0), none] [] σ' ∧ Kp TSp σ σ' ∧ Tok B T n' g' s' ∧ sI σ' 201 5 = nI n' ∧ sI σ' 201 6 = sI σ 201 6 ∧ ∀ k, k < n' → sI σ' 204 k = nI (g' k) ∧ sI σ' 205 k = nI (s' k) := fun hn hn2 => by
      obtain ⟨σ', n', g', s', q1, q2⟩ := ih (i + 1) (wI (wI (wI τ 204 n (nI i)) 205 n 1) 201 5 (nI (n + 1))) (n + 1) (upN g n i) (upN s n 1) (some (.int (nI (kdN (B i))))) (by omega) (((hk.wr (by unfold TSp; omega)).wr (by unfold TSp; omega)).wr (by unfold TSp; omega)) (tok_new ht hn hn2) (sI_wIs _ _ _ _) (by rw [sI_wIn (by omega), sI_wIn (by omega), sI_wIn (by omega)]; exact e6) (fun k hk' => by
        by_cases e : k = n
        · subst e
          rw [sI_wIn (by omega), sI_wIn (by omega), sI_wIs, upN_s, sI_wIn (by omega), sI_wIs, upN_s]
          exact ⟨rfl, rfl⟩
        · rw [sI_wIn (by omega), sI_wIn (by omega), sI_wIn (by omega), upN_n e, sI_wIn (by omega), sI_wIn (by omega), sI_wIn (by omega), upN_n e]
          exact hc k (by omega))
      rw [nx] at q1
      refine ⟨σ', n', g', s', ?_, q2⟩
      rw [e_98_66, if_neg (nI_nel (n := 32) hn (by omega) (by decide)), gR_r hb.1.1 hb.1.2.2.2.1, gI_r hb.1.1, e5, uI_r hb.2.1.2.2.2.2.1 (by rw [hb.2.1.2.2.2.2.2.1]; omega) (by rw [hb.2.1.2.2.2.2.2.1]; decide)]
      have b2 : TB (wI τ 204 n (nI i)) B := hb.e rfl (fun k => sI_wIn (by omega))
      rw [gR_r b2.1.1 b2.1.2.2.2.2, gI_r b2.1.1, sI_wIn (by omega), e5, uI_r b2.2.1.2.2.2.2.2.2.1 (by rw [b2.2.1.2.2.2.2.2.2.2]; omega) (by rw [b2.2.1.2.2.2.2.2.2.2]; decide)]
      have b3 : TB (wI (wI τ 204 n (nI i)) 205 n 1) B := b2.e rfl (fun k => sI_wIn (by omega))
      rw [gI_r b3.1.1, sI_wIn (by omega), sI_wIn (by omega), e5, nI_1, pI_r b3.1.1, nI_1]
      exact q1
    rw [step]
    by_cases c3 : kdN (B i) = 3
    · rw [if_pos (by rw [c3]; rfl)]
      exact new (by omega) (Or.inl c3)
    rw [if_neg (nI_nel (n := 3) c3 (by omega) (by decide))]
    by_cases c32 : kdN (B i) = 32
    · rw [if_pos (by rw [c32]; rfl), e_98_66, if_pos (by rw [c32]; rfl), e_98_102, nI_1, ← nx]
      exact ih (i + 1) τ n g s _ (by omega) hk (tok_blank ht (kdN_32.mp c32)) e5 e6 hc
    rw [if_neg (nI_nel (n := 32) c32 (by omega) (by decide))]
    by_cases c : i ≠ 0 ∧ kdN (B i) = kdN (B (i - 1))
    · obtain ⟨n0, tk⟩ := tok_ext ht (by omega) c32 c3 c.2
      have hs := (ht.2 (n - 1) (by omega)).1
      rw [if_pos (by rw [if_neg c.1, c.2]), gR_r hb.1.1 hb.1.2.2.2.2, gI_r hb.1.1, e5, sub_1 n0, aI_r hb.2.1.2.2.2.2.2.2.1 (by rw [hb.2.1.2.2.2.2.2.2.2]; omega) (by rw [hb.2.1.2.2.2.2.2.2.2]; decide), (hc (n - 1) (by omega)).2, nI_1, uI_r hb.2.1.2.2.2.2.2.2.1 (by rw [hb.2.1.2.2.2.2.2.2.2]; omega) (by rw [hb.2.1.2.2.2.2.2.2.2]; decide), e_98_102, nI_1, ← nx]
      refine ih (i + 1) _ n g (upN s (n - 1) (s (n - 1) + 1)) _ (by omega) (hk.wr (by unfold TSp; omega)) tk (by rw [sI_wIn (by omega)]; exact e5) (by rw [sI_wIn (by omega)]; exact e6) (fun k hk' => ⟨by rw [sI_wIn (by omega)]; exact (hc k hk').1, ?_⟩)
      by_cases e : k = n - 1
      · rw [e, sI_wIs, upN_s]
      · rw [sI_wIn (by omega), upN_n e]; exact (hc k hk').2
    · rw [if_neg (fun z => c (by
        by_cases i0 : i = 0
        · rw [if_pos i0] at z; exact absurd ((nI_eq (by omega) (by omega)).mp z) c3
        · rw [if_neg i0] at z; exact ⟨i0, (nI_eq (by omega) (by omega)).mp z⟩))]
      exact new c32 (Or.inr (by omega))
/-- the class's things: row 203 of signs, 204 of begins, 205 of sizes -/
def TkC (σ : SH) (t : TXT) : Prop := TB σ t.1 ∧ TxO t ∧ (sI σ 201 5 = nI (tkN t)) ∧ (∀ k, k ≤ tkN t → sV σ 203 k = .ref (tkG t k) ∧ sI σ 204 k = nI (tkE t k)) ∧ ∀ k, k < tkN t → sI σ 205 k = nI (tkS t k)
/-- what a split leaves -/
def SpF (σ σ' : SH) : Prop := σ'.2.2 = σ.2.2 ∧ (∀ a k, a ≠ 203 → sV σ' a k = sV σ a k) ∧ ∀ a k, ¬ TSp a k → sI σ' a k = sI σ a k
theorem m_98 (h : TB σ B) (hs : StA σ) {T : Nat} (hT : T ≤ 400) (h1 : sI σ 201 1 = nI T) : ∃ σ' t, rn 98 [.ref 201] σ = some (.inl none, σ') ∧ SpF σ σ' ∧ TkC σ' t ∧ t.1 = B ∧ t.2.1 = T ∧ sI σ' 201 6 = 0 := by
  have b0 : TB (wI (wI σ 201 5 0) 201 6 0) B := h.e rfl (fun k => by rw [sI_wIn (by omega), sI_wIn (by omega)])
  obtain ⟨σ1, n, g, s, q1, q2, q3, q4, q5, q6⟩ := sp_1 b0 hT (by rw [sI_wIn (by omega), sI_wIn (by omega)]; exact h1) (by rw [sI_wIn (by omega), sI_wIs])
  have k1 : Kp TSp σ σ1 := ((Kp.w (by unfold TSp; omega)).wr (by unfold TSp; omega)).tr q2
  have b1 := b0.kp q2 (by unfold TSp; omega)
  have s1 := hs.kp k1 (fun a j ha => by unfold TSp; omega)
  have e1 : sI σ1 201 1 = nI T := (k1.2 _ _ (by unfold TSp; omega)).trans h1
  have tx : TxO (B, T, n, g, s) := ⟨q3, hT, fun k hk => (h.2.2 k hk).1⟩
  have n4 := tx.n
  have eN : tkN (B, T, n, g, s) = n := rfl
  -- a state in which some signs are known
  obtain ⟨σ2, p1, ⟨r1, r2, r3⟩, p2⟩ := lpS (F := fun k (_ : Unit) σ => exec PP 7 98 112 [some (.ref 201), none, some (.int (nI k)), none] [] σ) (g := fun _ u => u) (K := fun _ σ => exec PP 7 98 148 [some (.ref 201), none, some (.int (nI n)), none] [] σ) (I := fun i _ ρ => (ρ.2.2 = σ1.2.2 ∧ ρ.1 = σ1.1 ∧ ∀ a k, a ≠ 203 → sV ρ a k = sV σ1 a k) ∧ ∀ k, k < i → sV ρ 203 k = .ref (tkG (B, T, n, g, s) k)) (n := n) (by
    rintro i u ρ hi ⟨⟨r1, r2, r3⟩, hc⟩
    have T' : ∀ q, sT ρ q = sT σ1 q := fun q => by unfold sT; rw [r1]
    have N' : ∀ q, sN ρ q = sN σ1 q := fun q => by unfold sN; rw [r1]
    have I' : ∀ q k, sI ρ q k = sI σ1 q k := fun q k => by unfold sI; rw [r2]
    have bρ : TB ρ B := by
      obtain ⟨⟨c1, c2, c3, c4, c5⟩, c6, c7⟩ := b1
      refine ⟨⟨(T' _).trans c1, (r3 _ _ (by omega)).trans c2, (r3 _ _ (by omega)).trans c3, (r3 _ _ (by omega)).trans c4, (r3 _ _ (by omega)).trans c5⟩, ?_, fun k hk => by rw [I']; exact c7 k hk⟩
      simp only [T', N']
      exact c6
    have sρ : StA ρ := s1.lo fun a ha => ⟨T' a, N' a, fun k => ⟨r3 a k (by omega), I' a k⟩⟩
    obtain ⟨⟨a1, a2, a3⟩, -⟩ := tx.k (k := i) hi
    have a3' : tkE (B, T, n, g, s) (i + 1) ≤ T := a3
    have eg : g i = tkE (B, T, n, g, s) i := (tkE_lt (t := (B, T, n, g, s)) hi).symm
    have es : s i = tkS (B, T, n, g, s) i := rfl
    have ee : tkG (B, T, n, g, s) i = sgN B (g i) (s i) := by rw [tkG_lt (t := (B, T, n, g, s)) hi, eg, es]
    refine ⟨wV ρ 203 i (.ref (tkG (B, T, n, g, s) i)), ?_, ⟨r1, r2, fun a k ha => ?_⟩, fun k hk => ?_⟩
    · try dsimp only
      have l38 := tkG_l38 (t := (B, T, n, g, s)) i
      rw [e_98_112, gI_r bρ.1.1, I', q4, if_pos (nI_lt hi (by omega)), gR_r bρ.1.1 bρ.1.2.2.1, gR_r bρ.1.1 bρ.1.2.2.2.1, aI_r bρ.2.1.2.2.2.2.1 (by rw [bρ.2.1.2.2.2.2.2.1]; omega) (by rw [bρ.2.1.2.2.2.2.2.1]; decide), I', (q6 i hi).1, gR_r bρ.1.1 bρ.1.2.2.2.2, aI_r bρ.2.1.2.2.2.2.2.2.1 (by rw [bρ.2.1.2.2.2.2.2.2.2]; omega) (by rw [bρ.2.1.2.2.2.2.2.2.2]; decide), I', (q6 i hi).2, if_pos bρ.1.1, m_100 bρ sρ (by omega) (by omega), onR_i, ← ee, uR_r (by rw [bρ.2.1.2.2.1]; decide) (by rw [bρ.2.1.2.2.1, (sρ.2.1 _ l38).1.1]) (by rw [bρ.2.1.2.2.2.1]; omega) (by rw [bρ.2.1.2.2.2.1]; decide), nI_1]
    · show (if a = 203 ∧ k = i then _ else sV ρ a k) = _
      rw [if_neg (fun z => ha z.1)]; exact r3 a k ha
    · show (if 203 = 203 ∧ k = i then _ else sV ρ 203 k) = _
      by_cases e : k = i
      · rw [if_pos ⟨rfl, e⟩, e]
      · rw [if_neg (fun z => e z.2)]; exact hc k (by omega)) (by
    rintro u ρ ⟨⟨r1, r2, r3⟩, hc⟩
    have t1 : sT ρ 201 = 110 := by unfold sT; rw [r1]; exact b1.1.1
    have i5 : sI ρ 201 5 = nI n := by unfold sI; rw [r2]; exact q4
    try dsimp only
    rw [e_98_112, gI_r t1, i5, if_neg (nI_nlt (Nat.le_refl _) (by omega))]) n 0 () σ1 (by omega) ⟨⟨rfl, rfl, fun _ _ _ => rfl⟩, fun k hk => by omega⟩
  have T' : ∀ q, sT σ2 q = sT σ1 q := fun q => by unfold sT; rw [r1]
  have N' : ∀ q, sN σ2 q = sN σ1 q := fun q => by unfold sN; rw [r1]
  have I' : ∀ q k, sI σ2 q k = sI σ1 q k := fun q k => by unfold sI; rw [r2]
  have b2 : TB σ2 B := by
    obtain ⟨⟨c1, c2, c3, c4, c5⟩, c6, c7⟩ := b1
    refine ⟨⟨(T' _).trans c1, (r3 _ _ (by omega)).trans c2, (r3 _ _ (by omega)).trans c3, (r3 _ _ (by omega)).trans c4, (r3 _ _ (by omega)).trans c5⟩, ?_, fun k hk => by rw [I']; exact c7 k hk⟩
    simp only [T', N']
    exact c6
  have s2 : StA σ2 := s1.lo fun a ha => ⟨T' a, N' a, fun k => ⟨r3 a k (by omega), I' a k⟩⟩
  have b3 : TB (wV σ2 203 n (.ref 37)) B := by
    obtain ⟨⟨c1, c2, c3, c4, c5⟩, c6, c7⟩ := b2
    have V : ∀ a k, a ≠ 203 → sV (wV σ2 203 n (.ref 37)) a k = sV σ2 a k := fun a k ha => if_neg (fun z => ha z.1)
    exact ⟨⟨c1, (V _ _ (by omega)).trans c2, (V _ _ (by omega)).trans c3, (V _ _ (by omega)).trans c4, (V _ _ (by omega)).trans c5⟩, c6, c7⟩
  refine ⟨wI (wV σ2 203 n (.ref 37)) 204 n (nI T), (B, T, n, g, s), ?_, ⟨?_, fun a k ha => ?_, fun a k hk => ?_⟩, ⟨b3.e rfl (fun k => sI_wIn (by omega)), tx, ?_, fun k hk => ⟨?_, ?_⟩, fun k hk => ?_⟩, rfl, rfl, ?_⟩
  · rw [r_98, pI_r h.1.1, pI_r (show sT (wI σ 201 5 0) 201 = 110 from h.1.1)]
    refine q1.trans (p1.trans ?_)
    try dsimp only
    rw [e_98_148, gR_r b2.1.1 b2.1.2.2.1, gI_r b2.1.1, I', q4, uR_r (by rw [b2.2.1.2.2.1]; decide) (by rw [b2.2.1.2.2.1, (s2.2.1 37 (by omega)).1.1]) (by rw [b2.2.1.2.2.2.1]; omega) (by rw [b2.2.1.2.2.2.1]; decide), gR_r b3.1.1 b3.1.2.2.2.1, gI_r b3.1.1, gI_r b3.1.1, show sI (wV σ2 203 n (.ref 37)) 201 5 = nI n from (I' 201 5).trans q4, show sI (wV σ2 203 n (.ref 37)) 201 1 = nI T from (I' 201 1).trans e1, uI_r b3.2.1.2.2.2.2.1 (by rw [b3.2.1.2.2.2.2.2.1]; omega) (by rw [b3.2.1.2.2.2.2.2.1]; decide)]
  · show σ2.2.2 = σ.2.2
    rw [r1, k1.1]
  · show (if a = 203 ∧ k = n then _ else sV σ2 a k) = sV σ a k
    rw [if_neg (fun z => ha z.1), r3 a k ha, k1.V]
  · have ne : ¬ (a = 204 ∧ k = n) := fun z => hk (by unfold TSp; omega)
    show (if a = 204 ∧ k = n then nI T else sI σ2 a k) = _
    rw [if_neg ne, I']; exact k1.2 a k hk
  · show (if 201 = 204 ∧ 5 = n then nI T else sI σ2 201 5) = _
    rw [if_neg (by omega), I']; exact q4
  · show (if 203 = 203 ∧ k = n then _ else sV σ2 203 k) = _
    by_cases e : k = n
    · rw [if_pos ⟨rfl, e⟩, tkG_ge (by rw [e]; exact Nat.le_refl n)]
    · rw [if_neg (fun z => e z.2)]; exact p2 k (by rw [eN] at hk; omega)
  · show (if 204 = 204 ∧ k = n then nI T else sI σ2 204 k) = _
    by_cases e : k = n
    · rw [if_pos ⟨rfl, e⟩, tkE_ge (by rw [e]; exact Nat.le_refl n)]
    · rw [if_neg (fun z => e z.2), I']
      have : k < n := by rw [eN] at hk; omega
      rw [(q6 k this).1, tkE_lt (t := (B, T, n, g, s)) this]
  · show (if 205 = 204 ∧ k = n then nI T else sI σ2 205 k) = _
    rw [if_neg (by omega), I']
    exact (q6 k hk).2
  · show (if 201 = 204 ∧ 6 = n then nI T else sI σ2 201 6) = _
    rw [if_neg (by omega), I', q5, sI_wIs]
end E2
