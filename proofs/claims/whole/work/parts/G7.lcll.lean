/-! the class's lines: rows 207 of heads, 208 of amounts, 209 of ends -/
def LnC (σ : SH) (W : WW) (n : Nat) : Prop := ∀ i, i < n → sV σ 207 i = .ref (14 + kN (dr W) i) ∧ sI σ 208 i = dr W (2 + 4 * i) ∧ sI σ 209 i = dr W (4 + 4 * i)
def LcF (σ σ' : SH) : Prop := σ'.2.2 = σ.2.2 ∧ (∀ a k, a ≠ 207 → sV σ' a k = sV σ a k) ∧ ∀ a k, a ≠ 208 → a ≠ 209 → sI σ' a k = sI σ a k
section G7
variable {σ σ' σ'' : SH} {t : TXT} {W W' : WW} {R : Nat → Int32} {st k v n : Nat}
theorem LcF.rf (σ : SH) : LcF σ σ := ⟨rfl, fun _ _ _ => rfl, fun _ _ _ _ => rfl⟩
theorem LcF.tr (h : LcF σ σ') (g : LcF σ' σ'') : LcF σ σ'' := ⟨g.1.trans h.1, fun a k ha => (g.2.1 a k ha).trans (h.2.1 a k ha), fun a k h1 h2 => (g.2.2 a k h1 h2).trans (h.2.2 a k h1 h2)⟩
theorem LcF.T (h : LcF σ σ') (a : Nat) : sT σ' a = sT σ a := by unfold sT; rw [h.1]
theorem LcF.N (h : LcF σ σ') (a : Nat) : sN σ' a = sN σ a := by unfold sN; rw [h.1]
theorem ShX.lc (h : ShX σ) (g : LcF σ σ') : ShX σ' := h.ag fun a _ => ⟨g.T a, g.N a, fun k _ _ h7 => g.2.1 a k h7⟩
theorem StA.lc (h : StA σ) (g : LcF σ σ') : StA σ' := h.lo fun a ha => ⟨g.T a, g.N a, fun k => ⟨g.2.1 a k (by omega), g.2.2 a k (by omega) (by omega)⟩⟩
theorem TkC.lc (h : TkC σ t) (g : LcF σ σ') : TkC σ' t := by
  obtain ⟨⟨⟨b1, b2, b3, b4, b5⟩, b6, b7⟩, tx, h5, h3, h4⟩ := h
  have I : ∀ a j, a < 206 → sI σ' a j = sI σ a j := fun a j ha => g.2.2 a j (by omega) (by omega)
  have V : ∀ a j, a < 206 → sV σ' a j = sV σ a j := fun a j ha => g.2.1 a j (by omega)
  refine ⟨⟨⟨(g.T _).trans b1, (V _ _ (by omega)).trans b2, (V _ _ (by omega)).trans b3, (V _ _ (by omega)).trans b4, (V _ _ (by omega)).trans b5⟩, ?_, fun j hj => ⟨(b7 j hj).1, (I _ _ (by omega)).trans (b7 j hj).2⟩⟩, tx, (I _ _ (by omega)).trans h5, fun j hj => ⟨(V _ _ (by omega)).trans (h3 j hj).1, (I _ _ (by omega)).trans (h3 j hj).2⟩, fun j hj => (I _ _ (by omega)).trans (h4 j hj)⟩
  simp only [g.T, g.N]
  exact b6
theorem RW_c {a j : Nat} {x : Int32} (h : a ≠ 210) (h2 : ¬ (a = 206 ∧ j = 5)) : wI (RW σ R st) a j x = RW (wI σ a j x) R st := by
  refine Prod.ext ?_ rfl
  funext c i
  show (if c = a ∧ i = j then x else if c = 210 then R i else if c = 206 ∧ i = 5 then nI st else σ.1 c i) = if c = 210 then R i else if c = 206 ∧ i = 5 then nI st else if c = a ∧ i = j then x else σ.1 c i
  by_cases e : c = a ∧ i = j
  · rw [if_pos e, if_neg (by omega), if_neg (by omega), if_pos e]
  · rw [if_neg e, if_neg e]
theorem lc_w {a j : Nat} {x : Int32} (h : a = 208 ∨ a = 209) : LcF σ (wI σ a j x) := ⟨rfl, fun _ _ _ => rfl, fun b i h1 h2 => sI_wIn (by omega)⟩
theorem lc_v {j : Nat} {x : Value} : LcF σ (wV σ 207 j x) := ⟨rfl, fun b i h1 => if_neg (fun z => h1 z.1), fun _ _ _ _ => rfl⟩
theorem LnC.s (h : LnC σ W n) (hn : n < 12) {kd a e : Nat} (hk : kd ≤ 2) (hc : sV σ' 207 n = .ref (14 + kd) ∧ sI σ' 208 n = nI a ∧ sI σ' 209 n = nI e) (ho : ∀ i, i < n → sV σ' 207 i = sV σ 207 i ∧ sI σ' 208 i = sI σ 208 i ∧ sI σ' 209 i = sI σ 209 i) (hw : ∀ j, j < 1213 + 4 * n → W' j = W j) (hf : W' (1213 + 4 * n) = nI kd ∧ W' (1213 + 4 * n + 1) = nI a ∧ W' (1213 + 4 * n + 3) = nI e) : LnC σ' W' (n + 1) := by
  intro i hi
  by_cases z : i = n
  · subst z
    rw [dr_at W' (show 1212 + (2 + 4 * i) = 1213 + 4 * i + 1 by omega), dr_at W' (show 1212 + (4 + 4 * i) = 1213 + 4 * i + 3 by omega), hf.2.1, hf.2.2]
    refine ⟨?_, hc.2.1, hc.2.2⟩
    have : kN (dr W') i = kd := by
      unfold kN
      rw [dr_at W' (show 1212 + (1 + 4 * i) = 1213 + 4 * i by omega), hf.1, tnI (by omega)]; rfl
    rw [this]; exact hc.1
  · obtain ⟨o1, o2, o3⟩ := ho i (by omega)
    obtain ⟨p1, p2, p3⟩ := h i (by omega)
    have d : ∀ q, q < 1 + 4 * n → dr W' q = dr W q := fun q hq => by unfold dr; exact hw _ (by omega)
    have : kN (dr W') i = kN (dr W) i := by unfold kN; rw [d _ (by omega)]
    rw [this, d _ (by omega), d _ (by omega)]
    exact ⟨o1.trans p1, o2.trans p2, o3.trans p3⟩
theorem x206 (hX : ShX σ) : (sV σ 206 1 = .ref 207 ∧ sV σ 206 2 = .ref 208 ∧ sV σ 206 3 = .ref 209 ∧ sV σ 206 4 = .ref 210) ∧ (sT σ 207 = 19 ∧ sN σ 207 = 12 ∧ sT σ 208 = 1 ∧ sN σ 208 = 12 ∧ sT σ 209 = 1 ∧ sN σ 209 = 12 ∧ sT σ 210 = 1 ∧ sN σ 210 = 400) := by
  obtain ⟨a0, a1, a2, a3, a4, a5, a6⟩ := hX.2.2.1
  exact ⟨⟨a2, a3, a4, a5⟩, a6⟩
theorem m_87 (hX : ShX σ) (hT : TkC σ t) (hS : StA σ) (hn : n < 12) (hk : k ≤ tkN t) (hs : st ≤ k) (hr : Rel R W st) (hl : LnC σ W n) : ∃ σ' R' v' st', rn 87 [.ref 206, .int (nI n)] (TS (RW σ R st) k v) = some (.inl (some (.int (bI (lwP t n k W st).2.isSome))), TS (RW σ' R' st') (lwP t n k W st).1 v') ∧ LcF σ σ' ∧ ∀ V s', (lwP t n k W st).2 = some (V, s') → st' = s' ∧ Rel R' V s' ∧ LnC σ' V (n + 1) := by
  have n4 := hT.2.1.n
  have l := tkG_l38 (t := t) k
  have sx : ∀ (σ : SH) (R : Nat → Int32) (st k v : Nat), Sty σ (TS (RW σ R st) k v) := fun _ _ _ _ _ => sty_rw
  have go : (14 ≤ tkG t k ∧ tkG t k ≤ 16) → ∃ σ' R' v' st', exec PP 61 87 31 [some (.ref 206), some (.int (nI n)), some (.ref (tkG t k))] [] (TS (RW σ R st) k v) = some (.inl (some (.int (bI (lwP t n k W st).2.isSome))), TS (RW σ' R' st') (lwP t n k W st).1 v') ∧ LcF σ σ' ∧ ∀ V s', (lwP t n k W st).2 = some (V, s') → st' = s' ∧ Rel R' V s' ∧ LnC σ' V (n + 1) := fun g => by
    have k1 := hT.2.1.lt (k := k) rfl (by omega)
    unfold lwP
    rw [if_pos g, e_87_31, (Sty.x hX (sx σ R st k v)).1, if_pos (Sty.x hX (sx σ R st k v)).2.1, m_103y hT.rw' rfl (by omega), onI_i, if_neg n10, (Sty.x hX (sx σ R st (k + 1) v)).1, if_pos (Sty.x hX (sx σ R st (k + 1) v)).2.1]
    by_cases e2 : tkG t (k + 1) = 35 ∧ tkV t (k + 1) ≤ 99
    · have k2 := hT.2.1.lt e2.1 (by omega)
      obtain ⟨⟨v1, v2, v3, v4⟩, t1, t2, t3, t4, t5, t6, t7, t8⟩ := x206 hX
      have F1 : LcF σ (wV σ 207 n (.ref (tkG t k))) := lc_v
      have F2 : LcF σ (wI (wV σ 207 n (.ref (tkG t k))) 208 n (nI (tkV t (k + 1)))) := F1.tr (lc_w (Or.inl rfl))
      have X2 := hX.lc F2
      have T2 := hT.lc F2
      have S2 := hS.lc F2
      have hd := hd_f (W := W) (n := n) (kd := tkG t k - 14) (a := tkV t (k + 1)) (st := st)
      have rel1 : Rel R (hdW W n (tkG t k - 14) (tkV t (k + 1)) st) st := hr.cg (fun j h1 h2 => hd_o (by omega))
      have last : ∀ (R1 : Nat → Int32) (s1 k1 w1 : Nat), exec PP 61 87 100 [some (.ref 206), some (.int (nI n)), some (.ref (tkG t k))] [] (TS (RW (wI (wV σ 207 n (.ref (tkG t k))) 208 n (nI (tkV t (k + 1)))) R1 s1) k1 w1) = some (.inl (some (.int 1)), TS (RW (wI (wI (wV σ 207 n (.ref (tkG t k))) 208 n (nI (tkV t (k + 1)))) 209 n (nI s1)) R1 s1) k1 w1) := fun R1 s1 k1 w1 => by
        rw [e_87_100, gR_r (show sT (TS (RW (wI (wV σ 207 n (.ref (tkG t k))) 208 n (nI (tkV t (k + 1)))) R1 s1) k1 w1) 206 = 107 from X2.2.2.1.1) (show sV (TS (RW (wI (wV σ 207 n (.ref (tkG t k))) 208 n (nI (tkV t (k + 1)))) R1 s1) k1 w1) 206 3 = .ref 209 from (x206 X2).1.2.2.1), gI_r (show sT (TS (RW (wI (wV σ 207 n (.ref (tkG t k))) 208 n (nI (tkV t (k + 1)))) R1 s1) k1 w1) 206 = 107 from X2.2.2.1.1), TS_i (by omega), RW_5, uI_r (show sT (TS (RW (wI (wV σ 207 n (.ref (tkG t k))) 208 n (nI (tkV t (k + 1)))) R1 s1) k1 w1) 209 = 1 from t5) (by rw [show sN (TS (RW (wI (wV σ 207 n (.ref (tkG t k))) 208 n (nI (tkV t (k + 1)))) R1 s1) k1 w1) 209 = 12 from t6]; exact hn) (by rw [show sN (TS (RW (wI (wV σ 207 n (.ref (tkG t k))) 208 n (nI (tkV t (k + 1)))) R1 s1) k1 w1) 209 = 12 from t6]; decide), TS_w (by omega), RW_c (by omega) (by omega)]
      have cells : ∀ s1, (sV (wI (wI (wV σ 207 n (.ref (tkG t k))) 208 n (nI (tkV t (k + 1)))) 209 n (nI s1)) 207 n = .ref (14 + (tkG t k - 14)) ∧ sI (wI (wI (wV σ 207 n (.ref (tkG t k))) 208 n (nI (tkV t (k + 1)))) 209 n (nI s1)) 208 n = nI (tkV t (k + 1)) ∧ sI (wI (wI (wV σ 207 n (.ref (tkG t k))) 208 n (nI (tkV t (k + 1)))) 209 n (nI s1)) 209 n = nI s1) ∧ ∀ i, i < n → sV (wI (wI (wV σ 207 n (.ref (tkG t k))) 208 n (nI (tkV t (k + 1)))) 209 n (nI s1)) 207 i = sV σ 207 i ∧ sI (wI (wI (wV σ 207 n (.ref (tkG t k))) 208 n (nI (tkV t (k + 1)))) 209 n (nI s1)) 208 i = sI σ 208 i ∧ sI (wI (wI (wV σ 207 n (.ref (tkG t k))) 208 n (nI (tkV t (k + 1)))) 209 n (nI s1)) 209 i = sI σ 209 i := fun s1 => by
        refine ⟨⟨?_, ?_, sI_wIs _ _ _ _⟩, fun i hi => ⟨if_neg (by omega), ?_, ?_⟩⟩
        · rw [show 14 + (tkG t k - 14) = tkG t k by omega]; exact if_pos ⟨rfl, rfl⟩
        · rw [sI_wIn (by omega), sI_wIs]
        · rw [sI_wIn (by omega), sI_wIn (by omega)]; rfl
        · rw [sI_wIn (by omega), sI_wIn (by omega)]; rfl
      have base : exec PP 61 87 57 [some (.ref 206), some (.int (nI n)), some (.ref (tkG t k))] [] (TS (RW σ R st) (k + 1 + 1) (tkV t (k + 1))) = onI (rn 103 [.ref 201, .ref 17] (TS (RW (wI (wV σ 207 n (.ref (tkG t k))) 208 n (nI (tkV t (k + 1)))) R st) (k + 2) (tkV t (k + 1)))) (fun x30 σ28 => if (x30 = 0 : Prop) then (exec PP 61 87 100 [some (.ref 206), some (.int (nI n)), some (.ref (tkG t k))] [] σ28) else (if sT σ28 206 = 107 then (onI (exec PP 60 88 0 (lcl PP 88 [.ref 206, .int 0]) [] σ28) (fun x33 σ31 => if (x33 = 0 : Prop) then (some (.inl (some (.int 0)), σ31)) else (exec PP 61 87 100 [some (.ref 206), some (.int (nI n)), some (.ref (tkG t k))] [] σ31)) RX0) else none)) RX0 := by
        have X1 := hX.lc F1
        have tA : sT (TS (RW σ R st) (k + 1 + 1) (tkV t (k + 1))) 206 = 107 := hX.2.2.1.1
        have tB : sT (TS (RW (wV σ 207 n (.ref (tkG t k))) R st) (k + 1 + 1) (tkV t (k + 1))) 206 = 107 := hX.2.2.1.1
        rw [e_87_57, gR_r tA (show sV (TS (RW σ R st) (k + 1 + 1) (tkV t (k + 1))) 206 1 = .ref 207 from v1), uR_r (by rw [show sT (TS (RW σ R st) (k + 1 + 1) (tkV t (k + 1))) 207 = 19 from t1]; decide) (by rw [show sT (TS (RW σ R st) (k + 1 + 1) (tkV t (k + 1))) 207 = 19 from t1]; exact (hS.2.1 _ l).1.1) (by rw [show sN (TS (RW σ R st) (k + 1 + 1) (tkV t (k + 1))) 207 = 12 from t2]; exact hn) (by rw [show sN (TS (RW σ R st) (k + 1 + 1) (tkV t (k + 1))) 207 = 12 from t2]; decide), show wV (TS (RW σ R st) (k + 1 + 1) (tkV t (k + 1))) 207 n (.ref (tkG t k)) = TS (RW (wV σ 207 n (.ref (tkG t k))) R st) (k + 1 + 1) (tkV t (k + 1)) from rfl, gR_r tB (show sV (TS (RW (wV σ 207 n (.ref (tkG t k))) R st) (k + 1 + 1) (tkV t (k + 1))) 206 2 = .ref 208 from (x206 X1).1.2.1), (Sty.x X1 (sx _ R st (k + 1 + 1) (tkV t (k + 1)))).1, gI_r (Sty.x X1 (sx _ R st (k + 1 + 1) (tkV t (k + 1)))).2.1, TS_v, uI_r (show sT (TS (RW (wV σ 207 n (.ref (tkG t k))) R st) (k + 1 + 1) (tkV t (k + 1))) 208 = 1 from t3) (by rw [show sN (TS (RW (wV σ 207 n (.ref (tkG t k))) R st) (k + 1 + 1) (tkV t (k + 1))) 208 = 12 from t4]; exact hn) (by rw [show sN (TS (RW (wV σ 207 n (.ref (tkG t k))) R st) (k + 1 + 1) (tkV t (k + 1))) 208 = 12 from t4]; decide), TS_w (by omega), RW_c (by omega) (by omega), (Sty.x X2 (sx _ R st (k + 1 + 1) (tkV t (k + 1)))).1, if_pos (Sty.x X2 (sx _ R st (k + 1 + 1) (tkV t (k + 1)))).2.1]
        rfl
      rw [if_pos e2, m_104yl (lo := 0) (hi := 99) hT.rw' e2.1 (by omega) e2.2 (by omega), onI_i, if_neg n10, base]
      by_cases e3 : tkG t (k + 2) = 17
      · have k3 := hT.2.1.lt e3 (by omega)
        obtain ⟨R1, w1, s1, c0, c1⟩ := m_88t X2 T2 S2 R (hdW W n (tkG t k - 14) (tkV t (k + 1)) st) st (k + 3) (tkV t (k + 1)) k3 (by omega) rel1
        obtain ⟨g1, g2⟩ := Gd_cd hT.2.1 6 (k + 3) (hdW W n (tkG t k - 14) (tkV t (k + 1)) st) st k3 (by omega)
        try dsimp only at c0
        rw [if_pos e3, m_103y T2.rw' e3 (by omega), onI_i, if_neg n10, if_pos (Sty.x X2 (sx _ R st (k + 2 + 1) (tkV t (k + 1)))).2.2, c0, onI_i]
        cases hr2 : cdP t 6 (k + 3) (hdW W n (tkG t k - 14) (tkV t (k + 1)) st) st with
        | mk k' o =>
          rw [hr2] at c1 g1 g2
          cases o with
          | none =>
            try dsimp only
            rw [if_pos bI_nn]
            exact ⟨_, R1, w1, s1, rfl, F2, fun V s' z => by cases z⟩
          | some q =>
            obtain ⟨W2, s2⟩ := q
            obtain ⟨rfl, rel2⟩ := c1 W2 s2 rfl
            obtain ⟨⟨b1, b2⟩, ⟨⟨q1, q2⟩, q3, q4⟩⟩ := g2 W2 s1 rfl
            try dsimp only at g1 b1 b2 ⊢
            rw [if_neg bI_s, last]
            refine ⟨_, R1, w1, s1, rfl, F2.tr (lc_w (Or.inr rfl)), fun V s' z => ?_⟩
            cases z
            refine ⟨rfl, rel2.cg (fun j h1 h2 => uW_n (by omega)), hl.s hn (kd := tkG t k - 14) (a := tkV t (k + 1)) (e := s1) (by omega) (cells s1).1 (cells s1).2 (fun j hj => ?_) ⟨?_, ?_, uW_s _ _ _⟩⟩
            · rw [uW_n (by omega), q2 _ (by omega), hd_o (by omega)]
            · rw [uW_n (by omega), q2 _ (by omega)]; exact hd.1
            · rw [uW_n (by omega), q2 _ (by omega)]; exact hd.2.1
      · rw [if_neg e3, m_103n T2.rw' e3 (by omega) k2, onI_i, if_pos n00, last]
        refine ⟨_, R, _, st, rfl, F2.tr (lc_w (Or.inr rfl)), fun V s' z => ?_⟩
        cases z
        refine ⟨rfl, hr.cg (fun j h1 h2 => by rw [uW_n (by omega), hd_o (by omega)]), hl.s hn (kd := tkG t k - 14) (a := tkV t (k + 1)) (e := st) (by omega) (cells st).1 (cells st).2 (fun j hj => ?_) ⟨?_, ?_, uW_s _ _ _⟩⟩
        · rw [uW_n (by omega), hd_o (by omega)]
        · rw [uW_n (by omega)]; exact hd.1
        · rw [uW_n (by omega)]; exact hd.2.1
    · rw [if_neg e2, m_104nl (lo := 0) (hi := 99) hT.rw' k1 (by omega) (fun z => e2 ⟨z.1, z.2.2⟩), onI_i, if_pos n00]
      exact ⟨σ, R, v, st, rfl, LcF.rf σ, fun V s' z => by cases z⟩
  rw [r_87, (Sty.x hX (sx σ R st k v)).1, if_pos (Sty.x hX (sx σ R st k v)).2.1, m_102 hT.rw' hk, onR_i, if_pos (show tkG t k < 38 ∧ 14 < 38 from ⟨l, by omega⟩)]
  by_cases g0 : tkG t k = 14
  · rw [if_pos g0]; exact go (by omega)
  rw [if_neg g0, if_pos (show tkG t k < 38 ∧ 15 < 38 from ⟨l, by omega⟩)]
  by_cases g1 : tkG t k = 15
  · rw [if_pos g1]; exact go (by omega)
  rw [if_neg g1, if_pos (show tkG t k < 38 ∧ 16 < 38 from ⟨l, by omega⟩)]
  by_cases g2 : tkG t k = 16
  · rw [if_pos g2]; exact go (by omega)
  rw [if_neg g2]
  unfold lwP
  rw [if_neg (by omega)]
  exact ⟨σ, R, v, st, rfl, LcF.rf σ, fun V s' z => by cases z⟩
end G7
