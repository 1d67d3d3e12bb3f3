/-! THE LAW'S TEXT, read: where it ends or is wrong; the world with its draft, and the steps -/
abbrev LPr : Type := Nat × Option (WW × Nat)
def em (W : WW) (st c n : Nat) : WW := uW (uW W (1261 + 2 * st) (nI c)) (1261 + 2 * st + 1) (nI n)
def ptP (t : TXT) (k : Nat) (W : WW) (st : Nat) : LPr := if tkG t k = 35 then (k + 1, some (em W st 8 (tkV t k), st + 1)) else if 18 ≤ tkG t k ∧ tkG t k ≤ 23 then (k + 1, some (em W st (tkG t k - 18) 0, st + 1)) else (k, none)
def lpP (t : TXT) (sg cd : Nat) (A : Nat → WW → Nat → LPr) : Nat → Nat → WW → Nat → LPr
  | 0, k, _, _ => (k, none)
  | f + 1, k, W, st => if tkG t k = sg then (match A (k + 1) W st with
    | (k', none) => (k', none)
    | (k', some (W', st')) => lpP t sg cd A f k' (em W' st' cd 0) (st' + 1)) else (k, some (W, st))
def rpP (t : TXT) (sg cd : Nat) (A : Nat → WW → Nat → LPr) (k : Nat) (W : WW) (st : Nat) : LPr := match A k W st with
  | (k', none) => (k', none)
  | (k', some (W', st')) => lpP t sg cd A 401 k' W' st'
def cmP (t : TXT) (k : Nat) (W : WW) (st : Nat) : LPr := match rpP t 27 9 (ptP t) k W st with
  | (k', none) => (k', none)
  | (k', some (W', st')) => if tkG t k' = 28 ∨ tkG t k' = 29 then (match rpP t 27 9 (ptP t) (k' + 1) W' st' with
    | (k2, none) => (k2, none)
    | (k2, some (W2, st2)) => (k2, some (em W2 st2 (tkG t k' - 18) 0, st2 + 1))) else (k', none)
def at1 (t : TXT) (nt op : Nat → WW → Nat → LPr) (k : Nat) (W : WW) (st : Nat) : LPr :=
  if tkG t k = 32 then (match op (k + 1) W st with
    | (k', none) => (k', none)
    | (k', some (W', st')) => if tkG t k' = 33 then (k' + 1, some (W', st')) else (k', none))
  else if tkG t k = 26 then (match nt (k + 1) W st with
    | (k', none) => (k', none)
    | (k', some (W', st')) => (k', some (em W' st' 12 0, st' + 1)))
  else if tkG t k = 24 then (k + 1, some (em W st 6 0, st + 1)) else if tkG t k = 25 then (k + 1, some (em W st 7 0, st + 1)) else cmP t k W st
def badP (k : Nat) (_ : WW) (_ : Nat) : LPr := (k - 1, none)
def atP (t : TXT) : Nat → Nat → WW → Nat → LPr
  | 0 => at1 t badP badP
  | r + 1 => at1 t (atP t r) (rpP t 31 14 (rpP t 30 13 (atP t r)))
def cdP (t : TXT) (r : Nat) : Nat → WW → Nat → LPr := rpP t 31 14 (rpP t 30 13 (atP t r))
/-! what the steps are -/
def dr (W : WW) : WW := fun k => W (1212 + k)
theorem dr_c (W : WW) (j : Nat) : dr W (49 + 2 * j) = W (1261 + 2 * j) := by unfold dr; rw [show 1212 + (49 + 2 * j) = 1261 + 2 * j by omega]
theorem dr_n (W : WW) (j : Nat) : dr W (50 + 2 * j) = W (1261 + 2 * j + 1) := by unfold dr; rw [show 1212 + (50 + 2 * j) = 1261 + 2 * j + 1 by omega]
theorem scD (W : WW) (j : Nat) : scN (dr W) j = (W (1261 + 2 * j)).toInt.toNat := by unfold scN; rw [dr_c]
def okSt (W : WW) (j : Nat) : Prop := W (1261 + 2 * j) = nI (scN (dr W) j) ∧ scN (dr W) j ≤ 14 ∧ (scN (dr W) j = 8 → btw (W (1261 + 2 * j + 1)) 0 999)
def Seg (W W' : WW) (st st' : Nat) (I O : List Bool) : Prop := (st ≤ st' ∧ ∀ j, (j < 1261 + 2 * st ∨ 1261 + 2 * st' ≤ j) → W' j = W j) ∧ (∀ T, tyR (dr W') st (st' - st) (I ++ T) = some (O ++ T)) ∧ ∀ j, st ≤ j → j < st' → okSt W' j
theorem tyR_app (L : WW) : ∀ (a i b : Nat) (T : List Bool), tyR L i (a + b) T = (match tyR L i a T with
  | some T' => tyR L (i + a) b T'
  | none => none)
  | 0, i, b, T => by rw [Nat.zero_add]; rfl
  | a + 1, i, b, T => by
    rw [show a + 1 + b = a + b + 1 by omega]
    show (match ty1 (scN L i) T with | some T' => tyR L (i + 1) (a + b) T' | none => none) = _
    show _ = (match (match ty1 (scN L i) T with | some T' => tyR L (i + 1) a T' | none => none) with | some T' => tyR L (i + (a + 1)) b T' | none => none)
    cases ty1 (scN L i) T with
    | none => rfl
    | some T' =>
      have := tyR_app L a (i + 1) b T'
      rw [show i + 1 + a = i + (a + 1) by omega] at this
      exact this
theorem okSt_cg {W W' : WW} {j : Nat} (h : okSt W j) (h1 : W' (1261 + 2 * j) = W (1261 + 2 * j)) (h2 : W' (1261 + 2 * j + 1) = W (1261 + 2 * j + 1)) : okSt W' j := by
  unfold okSt at h ⊢
  rw [scD, h1, h2, ← scD]
  exact h
theorem Seg.rf (W : WW) (st : Nat) (I : List Bool) : Seg W W st st I I := ⟨⟨Nat.le_refl _, fun _ _ => rfl⟩, fun T => by rw [Nat.sub_self]; rfl, fun j h1 h2 => by omega⟩
theorem Seg.tr {W W1 W2 : WW} {s s1 s2 : Nat} {I M O : List Bool} (h : Seg W W1 s s1 I M) (g : Seg W1 W2 s1 s2 M O) : Seg W W2 s s2 I O := by
  obtain ⟨⟨a1, a2⟩, a3, a4⟩ := h
  obtain ⟨⟨b1, b2⟩, b3, b4⟩ := g
  refine ⟨⟨by omega, fun j hj => (b2 j (by omega)).trans (a2 j (by omega))⟩, fun T => ?_, fun j h1 h2 => ?_⟩
  · rw [show s2 - s = (s1 - s) + (s2 - s1) by omega, tyR_app, tyR_cg (L := dr W1) (L' := dr W2) (s1 - s) s _ (fun j h1 h2 => by rw [dr_c, dr_c]; exact b2 _ (by omega)), a3 T]
    try dsimp only
    rw [show s + (s1 - s) = s1 by omega]
    exact b3 T
  · by_cases z : j < s1
    · exact okSt_cg (a4 j h1 z) (b2 _ (by omega)) (b2 _ (by omega))
    · exact b4 j (by omega) h2
theorem Seg.ap {W W' : WW} {s s' : Nat} {I O : List Bool} (h : Seg W W' s s' I O) (X : List Bool) : Seg W W' s s' (I ++ X) (O ++ X) := ⟨h.1, fun T => by rw [List.append_assoc, List.append_assoc]; exact h.2.1 (X ++ T), h.2.2⟩
theorem em_o {W : WW} {st c n j : Nat} (h : j < 1261 + 2 * st ∨ 1261 + 2 * st + 2 ≤ j) : em W st c n j = W j := by unfold em; rw [uW_n (by omega), uW_n (by omega)]
theorem em_c {W : WW} {st c n : Nat} : em W st c n (1261 + 2 * st) = nI c := by unfold em; rw [uW_n (by omega), uW_s]
theorem em_n {W : WW} {st c n : Nat} : em W st c n (1261 + 2 * st + 1) = nI n := uW_s _ _ _
theorem em_sc {W : WW} {st c n : Nat} (hc : c ≤ 14) : scN (dr (em W st c n)) st = c := by rw [scD, em_c, tnI (by omega)]; rfl
theorem Seg.emi {W : WW} {st c n : Nat} {I O : List Bool} (hc : c ≤ 14) (hn : n ≤ 999) (ht : ∀ T, ty1 c (I ++ T) = some (O ++ T)) : Seg W (em W st c n) st (st + 1) I O := by
  refine ⟨⟨by omega, fun j hj => em_o (by omega)⟩, fun T => ?_, fun j h1 h2 => ?_⟩
  · rw [Nat.add_sub_cancel_left]
    show (match ty1 (scN (dr (em W st c n)) st) (I ++ T) with | some T' => tyR _ (st + 1) 0 T' | none => none) = _
    rw [em_sc hc, ht T]
    rfl
  · have : j = st := by omega
    subst this
    unfold okSt
    rw [em_sc hc, em_c, em_n]
    exact ⟨rfl, hc, fun _ => btw_n (by omega) (by omega)⟩
/-- a good reader -/
def Gd (t : TXT) (ty : Bool) (A : Nat → WW → Nat → LPr) : Prop := ∀ k W st, k ≤ tkN t → st + 2 ≤ k → (A k W st).1 ≤ tkN t ∧ ∀ W' st', (A k W st).2 = some (W', st') → (k < (A k W st).1 ∧ st' + k ≤ st + (A k W st).1) ∧ Seg W W' st st' [] [ty]
section G0
variable {t : TXT}
theorem Gd_pt (h : TxO t) : Gd t false (ptP t) := by
  intro k W st hk hs
  unfold ptP
  by_cases e : tkG t k = 35
  · have hv := h.num e
    rw [if_pos e]
    refine ⟨hv.1, fun W' st' z => ?_⟩
    cases z
    exact ⟨⟨Nat.lt_succ_self k, by show st + 1 + k ≤ st + (k + 1); omega⟩, Seg.emi (by omega) hv.2.2.2 (fun T => rfl)⟩
  rw [if_neg e]
  by_cases e2 : 18 ≤ tkG t k ∧ tkG t k ≤ 23
  · rw [if_pos e2]
    refine ⟨h.lt rfl (by omega), fun W' st' z => ?_⟩
    cases z
    exact ⟨⟨Nat.lt_succ_self k, by show st + 1 + k ≤ st + (k + 1); omega⟩, Seg.emi (by omega) (by omega) (fun T => if_pos (by omega))⟩
  rw [if_neg e2]
  exact ⟨hk, fun W' st' z => by cases z⟩
theorem Gd_lp (h : TxO t) {ty : Bool} {A : Nat → WW → Nat → LPr} (hA : Gd t ty A) {sg cd : Nat} (hsg : sg ≠ 37) (hcd : cd ≤ 14) (hty : ∀ T, ty1 cd (ty :: ty :: T) = some (ty :: T)) : ∀ f k W st, k ≤ tkN t → st + 2 ≤ k → (lpP t sg cd A f k W st).1 ≤ tkN t ∧ ∀ W' st', (lpP t sg cd A f k W st).2 = some (W', st') → (k ≤ (lpP t sg cd A f k W st).1 ∧ st' + k ≤ st + (lpP t sg cd A f k W st).1) ∧ Seg W W' st st' [ty] [ty]
  | 0, k, W, st, hk, hs => ⟨hk, fun W' st' z => by cases z⟩
  | f + 1, k, W, st, hk, hs => by
    unfold lpP
    by_cases e : tkG t k = sg
    · rw [if_pos e]
      have hk1 := h.lt e hsg
      obtain ⟨a1, a2⟩ := hA (k + 1) W st hk1 (by omega)
      cases hr : A (k + 1) W st with
      | mk k' o =>
        rw [hr] at a1 a2
        cases o with
        | none => exact ⟨a1, fun W' st' z => by cases z⟩
        | some q =>
          obtain ⟨W1, s1⟩ := q
          obtain ⟨⟨b1, b2⟩, b3⟩ := a2 W1 s1 rfl
          try dsimp only at a1 b1 b2 ⊢
          obtain ⟨c1, c2⟩ := Gd_lp h hA hsg hcd hty f k' (em W1 s1 cd 0) (s1 + 1) a1 (by omega)
          refine ⟨c1, fun W' st' z => ?_⟩
          obtain ⟨⟨d1, d2⟩, d3⟩ := c2 W' st' z
          exact ⟨⟨by omega, by omega⟩, ((b3.ap [ty]).tr (Seg.emi (I := [ty] ++ [ty]) (O := [ty]) hcd (by omega) hty)).tr d3⟩
    · rw [if_neg e]
      refine ⟨hk, fun W' st' z => ?_⟩
      cases z
      exact ⟨⟨Nat.le_refl _, Nat.le_refl _⟩, Seg.rf _ _ _⟩
theorem Gd_rp (h : TxO t) {ty : Bool} {A : Nat → WW → Nat → LPr} (hA : Gd t ty A) {sg cd : Nat} (hsg : sg ≠ 37) (hcd : cd ≤ 14) (hty : ∀ T, ty1 cd (ty :: ty :: T) = some (ty :: T)) : Gd t ty (rpP t sg cd A) := by
  intro k W st hk hs
  unfold rpP
  obtain ⟨a1, a2⟩ := hA k W st hk hs
  cases hr : A k W st with
  | mk k' o =>
    rw [hr] at a1 a2
    cases o with
    | none => exact ⟨a1, fun W' st' z => by cases z⟩
    | some q =>
      obtain ⟨W1, s1⟩ := q
      obtain ⟨⟨b1, b2⟩, b3⟩ := a2 W1 s1 rfl
      try dsimp only at a1 b1 b2 ⊢
      obtain ⟨c1, c2⟩ := Gd_lp h hA hsg hcd hty 401 k' W1 s1 a1 (by omega)
      refine ⟨c1, fun W' st' z => ?_⟩
      obtain ⟨⟨d1, d2⟩, d3⟩ := c2 W' st' z
      exact ⟨⟨by omega, by omega⟩, b3.tr d3⟩
theorem Gd_su (h : TxO t) : Gd t false (rpP t 27 9 (ptP t)) := Gd_rp h (Gd_pt h) (by omega) (by omega) (fun T => rfl)
theorem Gd_cm (h : TxO t) : Gd t true (cmP t) := by
  intro k W st hk hs
  unfold cmP
  obtain ⟨a1, a2⟩ := Gd_su h k W st hk hs
  cases hr : rpP t 27 9 (ptP t) k W st with
  | mk k' o =>
    rw [hr] at a1 a2
    cases o with
    | none => exact ⟨a1, fun W' st' z => by cases z⟩
    | some q =>
      obtain ⟨W1, s1⟩ := q
      obtain ⟨⟨b1, b2⟩, b3⟩ := a2 W1 s1 rfl
      try dsimp only at a1 b1 b2 ⊢
      by_cases e : tkG t k' = 28 ∨ tkG t k' = 29
      · rw [if_pos e]
        have hk1 := h.lt (k := k') rfl (by omega)
        obtain ⟨c1, c2⟩ := Gd_su h (k' + 1) W1 s1 hk1 (by omega)
        cases hr2 : rpP t 27 9 (ptP t) (k' + 1) W1 s1 with
        | mk k2 o2 =>
          rw [hr2] at c1 c2
          cases o2 with
          | none => exact ⟨c1, fun W' st' z => by cases z⟩
          | some q2 =>
            obtain ⟨W2, s2⟩ := q2
            obtain ⟨⟨d1, d2⟩, d3⟩ := c2 W2 s2 rfl
            try dsimp only at c1 d1 d2 ⊢
            refine ⟨c1, fun W' st' z => ?_⟩
            cases z
            refine ⟨⟨by omega, by omega⟩, (b3.tr (d3.ap [false])).tr (Seg.emi (by omega) (by omega) (fun T => ?_))⟩
            rcases e with e | e <;> rw [e] <;> rfl
      · rw [if_neg e]
        exact ⟨a1, fun W' st' z => by cases z⟩
theorem Gd_at1 (h : TxO t) {nt op : Nat → WW → Nat → LPr} (hn : ∀ k W st, tkG t k = 26 → st + 2 ≤ k → (nt (k + 1) W st).1 ≤ tkN t ∧ ∀ W' st', (nt (k + 1) W st).2 = some (W', st') → (k + 1 < (nt (k + 1) W st).1 ∧ st' + (k + 1) ≤ st + (nt (k + 1) W st).1) ∧ Seg W W' st st' [] [true]) (ho : ∀ k W st, tkG t k = 32 → st + 2 ≤ k → (op (k + 1) W st).1 ≤ tkN t ∧ ∀ W' st', (op (k + 1) W st).2 = some (W', st') → (k + 1 < (op (k + 1) W st).1 ∧ st' + (k + 1) ≤ st + (op (k + 1) W st).1) ∧ Seg W W' st st' [] [true]) : Gd t true (at1 t nt op) := by
  intro k W st hk hs
  unfold at1
  by_cases e1 : tkG t k = 32
  · rw [if_pos e1]
    obtain ⟨a1, a2⟩ := ho k W st e1 hs
    cases hr : op (k + 1) W st with
    | mk k' o =>
      rw [hr] at a1 a2
      cases o with
      | none => exact ⟨a1, fun W' st' z => by cases z⟩
      | some q =>
        obtain ⟨W1, s1⟩ := q
        obtain ⟨⟨b1, b2⟩, b3⟩ := a2 W1 s1 rfl
        try dsimp only at a1 b1 b2 ⊢
        by_cases e3 : tkG t k' = 33
        · rw [if_pos e3]
          refine ⟨h.lt e3 (by omega), fun W' st' z => ?_⟩
          cases z
          exact ⟨⟨by show k < k' + 1; omega, by show s1 + k ≤ st + (k' + 1); omega⟩, b3⟩
        · rw [if_neg e3]
          exact ⟨a1, fun W' st' z => by cases z⟩
  rw [if_neg e1]
  by_cases e2 : tkG t k = 26
  · rw [if_pos e2]
    obtain ⟨a1, a2⟩ := hn k W st e2 hs
    cases hr : nt (k + 1) W st with
    | mk k' o =>
      rw [hr] at a1 a2
      cases o with
      | none => exact ⟨a1, fun W' st' z => by cases z⟩
      | some q =>
        obtain ⟨W1, s1⟩ := q
        obtain ⟨⟨b1, b2⟩, b3⟩ := a2 W1 s1 rfl
        try dsimp only at a1 b1 b2 ⊢
        refine ⟨a1, fun W' st' z => ?_⟩
        cases z
        exact ⟨⟨by omega, by omega⟩, b3.tr (Seg.emi (by omega) (by omega) (fun T => rfl))⟩
  rw [if_neg e2]
  by_cases e3 : tkG t k = 24
  · rw [if_pos e3]
    refine ⟨h.lt e3 (by omega), fun W' st' z => ?_⟩
    cases z
    exact ⟨⟨Nat.lt_succ_self k, by show st + 1 + k ≤ st + (k + 1); omega⟩, Seg.emi (by omega) (by omega) (fun T => rfl)⟩
  rw [if_neg e3]
  by_cases e4 : tkG t k = 25
  · rw [if_pos e4]
    refine ⟨h.lt e4 (by omega), fun W' st' z => ?_⟩
    cases z
    exact ⟨⟨Nat.lt_succ_self k, by show st + 1 + k ≤ st + (k + 1); omega⟩, Seg.emi (by omega) (by omega) (fun T => rfl)⟩
  rw [if_neg e4]
  exact Gd_cm h k W st hk hs
theorem Gd_at (h : TxO t) : ∀ r, Gd t true (atP t r)
  | 0 => Gd_at1 h (fun k W st e hs => ⟨by show k + 1 - 1 ≤ tkN t; have := h.lt e (by omega); omega, fun W' st' z => by cases z⟩) (fun k W st e hs => ⟨by show k + 1 - 1 ≤ tkN t; have := h.lt e (by omega); omega, fun W' st' z => by cases z⟩)
  | r + 1 => Gd_at1 h (fun k W st e hs => Gd_at h r (k + 1) W st (h.lt e (by omega)) (by omega)) (fun k W st e hs => Gd_rp h (Gd_rp h (Gd_at h r) (sg := 30) (cd := 13) (by omega) (by omega) (fun T => rfl)) (sg := 31) (cd := 14) (by omega) (by omega) (fun T => rfl) (k + 1) W st (h.lt e (by omega)) (by omega))
theorem Gd_cd (h : TxO t) (r : Nat) : Gd t true (cdP t r) := Gd_rp h (Gd_rp h (Gd_at h r) (sg := 30) (cd := 13) (by omega) (by omega) (fun T => rfl)) (sg := 31) (cd := 14) (by omega) (by omega) (fun T => rfl)
end G0
