/-! a line's condition, in the reference -/
theorem m_val {σ : SH} (hM : ShM σ) {j : Nat} (hj : j < 400) {k : Int32 → SR} : aI σ 1 (.ref 619) (nI j) k = k (sI σ 619 j) := aI_r hM.2.1.2.2.2.2.2.2.2.1 (by rw [hM.2.2.2.2.2.2.2.2.2.1]; exact hj) (by rw [hM.2.2.2.2.2.2.2.2.2.1]; decide)
theorem m_vau {σ : SH} (hM : ShM σ) {j : Nat} (hj : j < 400) {x : Int32} {k : SH → SR} : uI σ (.ref 619) (nI j) x k = k (wI σ 619 j x) := uI_r hM.2.1.2.2.2.2.2.2.2.1 (by rw [hM.2.2.2.2.2.2.2.2.2.1]; exact hj) (by rw [hM.2.2.2.2.2.2.2.2.2.1]; decide)
def tx (σ : SH) : WW := fun k => sI σ 612 (363 + k)
theorem tx_at (σ : SH) (k : Nat) : sI σ 612 (363 + k) = tx σ k := rfl
theorem i24 (a m s : Nat) : nI a + nI m * nI s = nI (a + m * s) := by rw [pk_mul, nI_add]
theorem m_253 {σ0 : SH} (hM : ShM σ0) (hW : WF (sI σ0 612)) (hw : LWF (tx σ0)) {a j w : Nat} (ha : sI σ0 611 18 = nI a) (hj : sI σ0 611 19 = nI j) (hww : sI σ0 611 20 = nI w) (ha2 : a < 16) (hj2 : j < 2147483648) (hw2 : w < 5) {i : Nat} (hi : i < lnN (tx σ0)) :
    ∃ σ', rn 253 [.ref 611, .int (nI i)] σ0 = some (.inl (some (.int (bI (evL (tx σ0) (FC (sI σ0 612) a j w) i)))), σ') ∧ Kp (fun a _ => a = 619) σ0 σ' := by
  obtain ⟨h12a, h12⟩ := LWF_n hw
  obtain ⟨w1, ⟨w2, w3⟩, w4, w5, w6, w7⟩ := hw.2.1 i hi
  have hsz := hw.2.2.1
  have hF := FC_01 (sI σ0 612) a j w
  have i0 : (364 : Int32) + 4 * nI i = nI (364 + 4 * i) := i24 364 4 i
  have i2 : nI (364 + 4 * i) + 2 = nI (363 + (3 + 4 * i)) := by rw [show (2 : Int32) = nI 2 from rfl, nI_add]; congr 1; omega
  have i3 : nI (364 + 4 * i) + 3 = nI (363 + (4 + 4 * i)) := by rw [show (3 : Int32) = nI 3 from rfl, nI_add]; congr 1; omega
  have start : rn 253 [.ref 611, .int (nI i)] σ0 = exec PP 6 253 20 [some (.ref 611), some (.int (nI i)), some (.int (nI 0)), some (.int (nI (364 + 4 * i))), some (.int (nI (frN (tx σ0) i))), none, none, none, none] [] σ0 := by
    rw [r_253, gR_r hM.1.1 hM.1.2.1, i0, i2, m_w hM (by omega), tx_at, w2]; rfl
  -- the first local is read no more: any value will do
  have key9 := lpS (F := fun j9 (S : List Int32) σ => exec PP 6 253 20 [some (.ref 611), (if j9 = frN (tx σ0) i then some (.int (nI i)) else none), some (.int (nI S.length)), some (.int (nI (364 + 4 * i))), some (.int (nI j9)), none, none, none, none] [] σ) (g := fun j9 S => ev1 (FC (sI σ0 612) a j w) (scN (tx σ0) j9) (tx σ0 (50 + 2 * j9)) S)
    (K := fun S σ => exec PP 6 253 259 [some (.ref 611), none, some (.int (nI S.length)), some (.int (nI (364 + 4 * i))), some (.int (nI (toN (tx σ0) i))), none, none, none, none] [] σ)
    (I := fun j9 S σ => Kp (fun a _ => a = 619) σ0 σ ∧ Stk (sI σ 619) S ∧ S.length + frN (tx σ0) i ≤ j9 ∧ ∃ T E, VT S T ∧ tyR (tx σ0) j9 (toN (tx σ0) i - j9) T = some E ∧ (E = [] ∨ E = [true])) (n := toN (tx σ0) i) ?_ ?_ (toN (tx σ0) i - frN (tx σ0) i) (frN (tx σ0) i) [] σ0 (by omega) ⟨Kp.rf _, trivial, by simp, [], (if tyR (tx σ0) (frN (tx σ0) i) (toN (tx σ0) i - frN (tx σ0) i) [] = some [] then [] else [true]), trivial, ?_, ?_⟩
  · obtain ⟨σ', ⟨h1, hk, hst, hlen, T, E, hv, hty, hE⟩⟩ := key9
    rw [start]
    have hS : ∃ S', S' = fo (fun j9 S => ev1 (FC (sI σ0 612) a j w) (scN (tx σ0) j9) (tx σ0 (50 + 2 * j9)) S) (frN (tx σ0) i) (toN (tx σ0) i - frN (tx σ0) i) [] := ⟨_, rfl⟩
    obtain ⟨S', hS'⟩ := hS
    rw [← hS'] at h1 hst hlen hv
    have hev : evR (tx σ0) (FC (sI σ0 612) a j w) (frN (tx σ0) i) (toN (tx σ0) i - frN (tx σ0) i) [] = S' := hS'.symm
    refine ⟨σ', ?_, hk⟩
    simp only [if_true] at h1
    refine h1.trans ?_
    rw [Nat.sub_self] at hty
    have hTE : T = E := Option.some.inj hty
    subst hTE
    unfold evL
    rw [hev]
    have hM' := hM.kp hk
    rcases hE with rfl | rfl
    · match S', hv with
      | [], _ => rw [e_253_259, if_pos (show nI ([] : List Int32).length = 0 from rfl), e_253_273, e_253_278]; rfl
    · match S', hv with
      | [v], hv =>
        have hst1 : sI σ' 619 0 = v := hst.1
        rw [e_253_259, if_neg (show ¬ nI [v].length = 0 from (by decide : ¬ nI 1 = 0)), gR_r hM'.1.1 hM'.1.2.2.2.2.2.2.2.2.1, show aI σ' 1 (.ref 619) 0 = aI σ' 1 (.ref 619) (nI 0) from rfl, m_val hM' (by omega), hst1]
        rcases hv.1 rfl with rfl | rfl
        · rw [if_neg (by decide), e_253_277]; rfl
        · rw [if_pos rfl, e_253_278]; rfl
  · rintro j9 S σ hj9 ⟨hk, hst, hlen, T, E, hv, hty, hE⟩
    try dsimp only
    have hM' := hM.kp hk
    have h612 : sI σ 612 = sI σ0 612 := funext fun k => hk.2 612 k (by omega)
    have h18 : sI σ 611 18 = nI a := (hk.2 611 18 (by omega)).trans ha
    have h19 : sI σ 611 19 = nI j := (hk.2 611 19 (by omega)).trans hj
    have h20 : sI σ 611 20 = nI w := (hk.2 611 20 (by omega)).trans hww
    obtain ⟨T', t1, t2⟩ := tyR_step (k := toN (tx σ0) i - (j9 + 1)) (by rw [show toN (tx σ0) i - (j9 + 1) + 1 = toN (tx σ0) i - j9 by omega]; exact hty)
    have hjs : j9 < szN (tx σ0) := by omega
    obtain ⟨s1, s2, s3⟩ := hw.2.2.2 j9 hjs
    have hcd : sI σ 612 (412 + 2 * j9) = nI (scN (tx σ0) j9) := by rw [h612, ← s1]; show sI σ0 612 (412 + 2 * j9) = sI σ0 612 (363 + (49 + 2 * j9)); congr 1; omega
    have hcn : sI σ 612 (412 + 2 * j9 + 1) = tx σ0 (50 + 2 * j9) := by rw [h612]; show sI σ0 612 (412 + 2 * j9 + 1) = sI σ0 612 (363 + (50 + 2 * j9)); congr 1; omega
    have gv : ∀ k : Nat → SR, gR σ 112 17 (.ref 611) k = k 619 := fun k => gR_r hM'.1.1 hM'.1.2.2.2.2.2.2.2.2.1
    have gw : ∀ k : Nat → SR, gR σ 112 1 (.ref 611) k = k 612 := fun k => gR_r hM'.1.1 hM'.1.2.1
    have i4 : (412 : Int32) + 2 * nI j9 = nI (412 + 2 * j9) := i24 412 2 j9
    have hto : sI σ 612 (363 + (4 + 4 * i)) = nI (toN (tx σ0) i) := by rw [h612]; exact w3
    have base : ∀ o1 : Option Value, exec PP 6 253 20 [some (.ref 611), o1, some (.int (nI S.length)), some (.int (nI (364 + 4 * i))), some (.int (nI j9)), none, none, none, none] [] σ = (if (8 < nI (scN (tx σ0) j9) : Prop) then (exec PP 6 253 88 [some (.ref 611), none, some (.int (nI S.length)), some (.int (nI (364 + 4 * i))), some (.int (nI j9)), some (.int (nI (scN (tx σ0) j9))), none, none, none] [] σ)
      else exec PP 6 253 253 [some (.ref 611), none, some (.int (nI S.length + 1)), some (.int (nI (364 + 4 * i))), some (.int (nI j9)), some (.int (nI (scN (tx σ0) j9))), none, none, none] [] (wI σ 619 S.length (if scN (tx σ0) j9 < 8 then FC (sI σ0 612) a j w (scN (tx σ0) j9) else tx σ0 (50 + 2 * j9)))) := fun o1 => by
      rw [e_253_20, gw, i3, m_w hM' (by omega), hto, if_pos (nI_lt hj9 (by omega)), gw, i4, m_w hM' (by omega), hcd]
      by_cases c8 : 8 < scN (tx σ0) j9
      · rw [if_pos (l_lt (n := 8) c8 (by omega)), if_pos (l_lt (n := 8) c8 (by omega))]
      · have hn8 : ¬ (8 : Int32) < nI (scN (tx σ0) j9) := nI_nlt (b := scN (tx σ0) j9) (a := 8) (by omega) (by decide)
        rw [if_neg hn8, if_neg hn8, gv, gw, nI_1, m_w hM' (by omega), hcn, if_pos hM'.1.1, m_254 hM' (by rw [h612]; exact hW) h18 h19 h20 ha2 hj2 hw2 (by omega), onI_i, m_vau hM' (by omega), h612]
    have key : ∃ (v : Int32) (r : List Int32), (∀ o1 : Option Value, exec PP 6 253 20 [some (.ref 611), o1, some (.int (nI S.length)), some (.int (nI (364 + 4 * i))), some (.int (nI j9)), none, none, none, none] [] σ = exec PP 6 253 20 [some (.ref 611), none, some (.int (nI (r.length + 1))), some (.int (nI (364 + 4 * i))), some (.int (nI (j9 + 1))), none, none, none, none] [] (wI σ 619 r.length v)) ∧ ev1 (FC (sI σ0 612) a j w) (scN (tx σ0) j9) (tx σ0 (50 + 2 * j9)) S = v :: r ∧ Stk (sI σ 619) r ∧ r.length ≤ S.length := by
      by_cases c8 : 8 < scN (tx σ0) j9
      · have h8 : (8 : Int32) < nI (scN (tx σ0) j9) := nI_lt (a := 8) c8 (by omega)
        have q1 : nI (scN (tx σ0) j9) = 12 ↔ scN (tx σ0) j9 = 12 := nI_eq (b := 12) (by omega) (by decide)
        by_cases c12 : scN (tx σ0) j9 = 12
        · rw [c12] at t1
          obtain ⟨a9, r, rfl⟩ := ty1_1 hv t1
          have hln : (a9 :: r).length = r.length + 1 := rfl
          rw [hln] at hlen
          refine ⟨1 - a9, r, fun o1 => ?_, by unfold ev1; rw [if_neg (by omega), if_neg (by omega), if_pos c12], hst.2, by simp⟩
          rw [base, if_pos h8, e_253_88, if_pos (q1.mpr c12), gv, gv, hln, nI_pred, m_val hM' (by omega), hst.1, m_vau hM' (by omega), e_253_253, nI_1]
        · obtain ⟨a9, b9, r, rfl, hab⟩ := ty1_2 hv t1 (by omega) c12
          have hln : (b9 :: a9 :: r).length = r.length + 2 := rfl
          rw [hln] at hlen
          refine ⟨op2 (scN (tx σ0) j9) a9 b9, r, fun o1 => ?_, by unfold ev1; rw [if_neg (by omega), if_neg (by omega), if_neg c12], hst.2.2, by rw [hln]; omega⟩
          have hm1 : nI (r.length + 2) + -1 = nI (r.length + 1) := pk_m1 (r.length + 1)
          have hm2 : nI (r.length + 1) - 1 = nI r.length := nI_pred r.length
          have sb : sI σ 619 (r.length + 1) = b9 := hst.1
          have sa : sI σ 619 r.length = a9 := hst.2.1
          have qe : ∀ n : Nat, n < 15 → ((nI (scN (tx σ0) j9) = nI n) ↔ scN (tx σ0) j9 = n) := fun n hn => nI_eq (by omega) (by omega)
          rw [base, if_pos h8, e_253_88, if_neg (fun z => c12 (q1.mp z)), e_253_116, gv, hln, hm1, hm2, m_val hM' (by omega), sa, gv, m_val hM' (by omega), sb]
          have uv : ∀ (x : Int32) (k : SH → SR), uI σ (.ref 619) (nI r.length) x k = k (wI σ 619 r.length x) := fun x k => m_vau hM' (by omega)
          have f218 : ∀ (c : Nat) (o8 : Option Value) (z : Int32), c ≠ 9 → c < 15 → (z = 0 ∨ z = 1) → exec PP 6 253 218 [some (.ref 611), none, some (.int (nI (r.length + 1))), some (.int (nI (364 + 4 * i))), some (.int (nI j9)), some (.int (nI c)), some (.int a9), some (.int b9), o8] [.int z] σ = exec PP 6 253 20 [some (.ref 611), none, some (.int (nI (r.length + 1))), some (.int (nI (364 + 4 * i))), some (.int (nI (j9 + 1))), none, none, none, none] [] (wI σ 619 r.length z) := fun c o8 z hc hc15 hz => by
            rw [e_253_218, gv, if_neg (nI_nel (n := 9) hc (by omega) (by decide)), e_253_242, hm2]
            rcases hz with rfl | rfl
            · rw [if_pos rfl, e_253_251, uv, nI_1]
            · rw [if_neg (by decide), e_253_252, uv, nI_1]
          rcases (by omega : scN (tx σ0) j9 = 9 ∨ scN (tx σ0) j9 = 10 ∨ scN (tx σ0) j9 = 11 ∨ scN (tx σ0) j9 = 13 ∨ scN (tx σ0) j9 = 14) with e | e | e | e | e <;> rw [e]
          · rw [if_neg (by decide), e_253_159, if_neg (by decide), e_253_181, if_neg (by decide), e_253_205]
            have hop : op2 9 a9 b9 = a9 + b9 := rfl
            split
            · rw [e_253_218, gv, if_pos (by decide), e_253_252, hm2, uv, nI_1, hop]
            · rw [e_253_217, gv, if_pos (by decide), e_253_252, hm2, uv, nI_1, hop]
          · rw [if_pos (by decide)]
            by_cases hlt : a9 < b9
            · rw [if_pos hlt, f218 10 _ _ (by decide) (by decide) (Or.inr rfl), show op2 10 a9 b9 = 1 by simp [op2, bI, hlt]]
            · rw [if_neg hlt, e_253_155, f218 10 _ _ (by decide) (by decide) (Or.inl rfl), show op2 10 a9 b9 = 0 by simp [op2, bI, hlt]]
          · rw [if_neg (by decide), e_253_159, if_pos (by decide)]
            by_cases hlt : b9 < a9
            · rw [if_pos hlt, f218 11 _ _ (by decide) (by decide) (Or.inr rfl), show op2 11 a9 b9 = 1 by simp [op2, bI, hlt]]
            · rw [if_neg hlt, e_253_177, f218 11 _ _ (by decide) (by decide) (Or.inl rfl), show op2 11 a9 b9 = 0 by simp [op2, bI, hlt]]
          · rw [if_neg (by decide), e_253_159, if_neg (by decide), e_253_181, if_pos (by decide)]
            by_cases hlt : a9 + b9 = 2
            · rw [if_pos hlt, f218 13 _ _ (by decide) (by decide) (Or.inr rfl), show op2 13 a9 b9 = 1 by simp [op2, bI, hlt]]
            · rw [if_neg hlt, e_253_201, f218 13 _ _ (by decide) (by decide) (Or.inl rfl), show op2 13 a9 b9 = 0 by simp [op2, bI, hlt]]
          · rw [if_neg (by decide), e_253_159, if_neg (by decide), e_253_181, if_neg (by decide), e_253_205]
            by_cases hlt : 0 < a9 + b9
            · rw [if_pos hlt, f218 14 _ _ (by decide) (by decide) (Or.inr rfl), show op2 14 a9 b9 = 1 by simp [op2, bI, hlt]]
            · rw [if_neg hlt, e_253_217, gv, if_neg (by decide), e_253_242, if_pos rfl, e_253_251, hm2, uv, nI_1, show op2 14 a9 b9 = 0 by simp [op2, bI, hlt]]
      · have hn8 : ¬ (8 : Int32) < nI (scN (tx σ0) j9) := nI_nlt (b := scN (tx σ0) j9) (a := 8) (by omega) (by decide)
        refine ⟨_, S, fun o1 => by rw [base, if_neg hn8, e_253_253, nI_1, nI_1], ?_, hst, Nat.le_refl _⟩
        unfold ev1
        by_cases c7 : scN (tx σ0) j9 < 8
        · rw [if_pos c7, if_pos c7]
        · rw [if_neg c7, if_neg c7, if_pos (by omega)]
    obtain ⟨v, r, k1, k2, k3, k4⟩ := key
    refine ⟨wI σ 619 r.length v, ?_, hk.wr rfl, ?_, ?_, T', E, hv.ev hF t1, t2, hE⟩
    · rw [k1, k2, if_neg (by omega)]; rfl
    · rw [k2]; exact ⟨sI_wIs _ _ _ _, k3.keep fun z hz => sI_wIn (by omega)⟩
    · rw [k2]; show r.length + 1 + frN (tx σ0) i ≤ j9 + 1; omega
  · rintro S σ ⟨hk, -⟩
    try dsimp only
    have hM' := hM.kp hk
    have h612 : sI σ 612 = sI σ0 612 := funext fun k => hk.2 612 k (by omega)
    have hto : sI σ 612 (363 + (4 + 4 * i)) = nI (toN (tx σ0) i) := by rw [h612]; exact w3
    rw [e_253_20, gR_r hM'.1.1 hM'.1.2.1, i3, m_w hM' (by omega), hto, if_neg (nI_nlt (Nat.le_refl _) (by omega))]
  · split
    · rename_i h; exact h
    · rename_i h
      rcases w7 with w7 | w7
      · exact absurd w7 h
      · exact w7
  · split
    · exact Or.inl rfl
    · exact Or.inr rfl
/-! sums of lines that hold -/
def smg (L : WW) (F : Nat → Int32) (kd : Nat) : Nat → Int32 → Int32 := fun i s => if kN L i = kd ∧ evL L F i = true then s + L (2 + 4 * i) else s
def smL (L : WW) (F : Nat → Int32) (kd : Nat) : Int32 := fo (smg L F kd) 0 (lnN L) 0
/-- in the class -/
theorem m_48 {σ0 : SH} {q fa kd : Nat} {L : WW} {F : Nat → Int32} (hL : LR σ0 q L) (hw : LWF L) (hf1 : sT σ0 fa = 1) (hf2 : sN σ0 fa = 8) (hff : ∀ k, k < 8 → sI σ0 fa k = F k) (hne : fa ≠ q + 5) (hF : (F 6 = 0 ∨ F 6 = 1) ∧ (F 7 = 0 ∨ F 7 = 1)) (hkd : kd < 3) :
    ∃ σ', rn 48 [.ref q, .ref (14 + kd), .ref fa] σ0 = some (.inl (some (.int (smL L F kd))), σ') ∧ Kp (fun a _ => a = q + 5) σ0 σ' := by
  obtain ⟨n1, n2⟩ := LWF_n hw
  rw [r_48]
  have key9 := lpS (F := fun i s σ => exec PP 2 48 5 [some (.ref q), some (.ref (14 + kd)), some (.ref fa), some (.int s), some (.int (nI i))] [] σ) (g := smg L F kd) (K := fun s σ => some (.inl (some (.int s)), σ)) (I := fun _ _ σ => Kp (fun a _ => a = q + 5) σ0 σ) (n := lnN L) ?_ ?_ (lnN L) 0 0 σ0 (by omega) (Kp.rf _)
  · obtain ⟨σ', h1, h2⟩ := key9
    exact ⟨σ', h1, h2⟩
  · intro i s σ hi hk
    try dsimp only
    have hL' := hL.kp hk (fun a j h1 h2 => by omega)
    obtain ⟨k1, k2⟩ := LWF_k hw hi
    obtain ⟨v1, v2, v3⟩ := hL'.2.2.2.2.1 i hi
    have e0 : exec PP 2 48 5 [some (.ref q), some (.ref (14 + kd)), some (.ref fa), some (.int s), some (.int (nI i))] [] σ = if kN L i = kd then (onI (rn 49 [.ref q, .int (nI i), .ref fa] σ) (fun x26 σ24 =>
      if (x26 = 0 : Prop) then (exec PP 2 48 45 [some (.ref q), some (.ref (14 + kd)), some (.ref fa), some (.int s), some (.int (nI i))] [] σ24)
        else (gR σ24 104 2 (.ref q) fun a27 =>
          aI σ24 1 (.ref a27) (nI i) fun x28 =>
          exec PP 2 48 5 [some (.ref q), some (.ref (14 + kd)), some (.ref fa), some (.int (s + x28)), some (.int (nI i + 1))] [] σ24)) (fun e25 σ24x => some (.inr e25, σ24x))) else (exec PP 2 48 45 [some (.ref q), some (.ref (14 + kd)), some (.ref fa), some (.int s), some (.int (nI i))] [] σ) := by
      rw [e_48_5, gI_r hL'.1.1, hL'.2.2.2.1, n1, if_pos (nI_lt hi (by omega)), gR_r hL'.1.1 hL'.1.2.1, aR_r (by rw [hL'.2.1.1]; decide) (by rw [hL'.2.2.1.1]; exact hi) (by rw [hL'.2.2.1.1]; omega) v1, if_pos (by omega), if_pos hL'.1.1]
      by_cases e : kN L i = kd
      · rw [if_pos (by omega), if_pos e]
      · rw [if_neg (by omega), if_neg e]
    rw [e0]
    unfold smg
    by_cases e : kN L i = kd
    · obtain ⟨σ2, g1, g2⟩ := m_49 hL' hw (by rw [hk.T]; exact hf1) (by rw [hk.N]; exact hf2) (fun k hk9 => by rw [hk.2 fa k hne]; exact hff k hk9) hne hF hi
      have hL2 := hL'.kp g2 (fun a j h1 h2 => by omega)
      rw [if_pos e, g1, onI_i, iB]
      refine ⟨σ2, ?_, hk.tr g2⟩
      cases hv : evL L F i
      · rw [if_pos rfl, e_48_45, if_neg (by simp), nI_1]
      · rw [if_neg (by decide), gR_r hL2.1.1 hL2.1.2.2.1, aI_r hL2.2.1.2.1 (by rw [hL2.2.2.1.2.1]; exact hi) (by rw [hL2.2.2.1.2.1]; omega), (hL2.2.2.2.2.1 i hi).2.1, if_pos ⟨e, rfl⟩, nI_1]
    · exact ⟨σ, by rw [if_neg e, e_48_45, if_neg (fun z => e z.1), nI_1], hk⟩
  · intro s σ hk
    try dsimp only
    have hL' := hL.kp hk (fun a j h1 h2 => by omega)
    rw [e_48_5, gI_r hL'.1.1, hL'.2.2.2.1, n1, if_neg (nI_nlt (Nat.le_refl _) (by omega)), e_48_51]
/-- what the law says together of an acre, a minute, a broker -/
def jdg (W L : WW) (kd a j w : Nat) : Int32 := if W 4 = 1 then smL L (FC W a j w) kd else 0
/-- where the reference writes while it judges -/
def MJ (a k : Nat) : Prop := a = 619 ∨ (a = 611 ∧ (k = 18 ∨ k = 19 ∨ k = 20))
/-- in the reference -/
theorem m_252 {σ : SH} (hM : ShM σ) (hW : WF (sI σ 612)) (hw : sI σ 612 4 = 1 → LWF (tx σ)) {kd a j w : Nat} (hkd : kd < 3) (ha : a < 16) (hj : j < 2147483648) (hw2 : w < 5) :
    ∃ σ', rn 252 [.ref 611, .int (nI kd), .int (nI a), .int (nI j), .int (nI w)] σ = some (.inl (some (.int (jdg (sI σ 612) (tx σ) kd a j w))), σ') ∧ Kp MJ σ σ' := by
  have hM1 : ShM (wI (wI (wI σ 611 18 (nI a)) 611 19 (nI j)) 611 20 (nI w)) := hM
  have hk0 : Kp MJ σ (wI (wI (wI σ 611 18 (nI a)) 611 19 (nI j)) 611 20 (nI w)) := ((Kp.w (by unfold MJ; simp)).wr (by unfold MJ; simp)).wr (by unfold MJ; simp)
  rw [r_252, pI_r hM.1.1, pI_r (show sT (wI σ 611 18 (nI a)) 611 = 112 from hM.1.1), pI_r (show sT (wI (wI σ 611 18 (nI a)) 611 19 (nI j)) 611 = 112 from hM.1.1)]
  generalize hσ1 : wI (wI (wI σ 611 18 (nI a)) 611 19 (nI j)) 611 20 (nI w) = σ1 at hM1 hk0
  have q18 : sI σ1 611 18 = nI a := by rw [← hσ1, sI_wIn (by omega), sI_wIn (by omega), sI_wIs]
  have q19 : sI σ1 611 19 = nI j := by rw [← hσ1, sI_wIn (by omega), sI_wIs]
  have q20 : sI σ1 611 20 = nI w := by rw [← hσ1, sI_wIs]
  have h612 : sI σ1 612 = sI σ 612 := funext fun k => hk0.2 612 k (by unfold MJ; omega)
  have htx : tx σ1 = tx σ := by unfold tx; rw [h612]
  have gw : ∀ (σ2 : SH), ShM σ2 → ∀ k : Nat → SR, gR σ2 112 1 (.ref 611) k = k 612 := fun σ2 h k => gR_r h.1.1 h.1.2.1
  have c4 : ∀ (σ2 : SH), ShM σ2 → ∀ k : Int32 → SR, aI σ2 1 (.ref 612) 4 k = k (sI σ2 612 4) := fun σ2 h k => m_w (j := 4) h (by omega)
  unfold jdg
  by_cases h4 : sI σ 612 4 = 1
  · rw [if_pos h4]
    have hw' := hw h4
    obtain ⟨n1, n2⟩ := LWF_n hw'
    have key9 := lpS (F := fun i s σ => exec PP 7 252 22 [some (.ref 611), some (.int (nI kd)), (if i = 0 then some (.int (nI a)) else none), (if i = 0 then some (.int (nI j)) else none), (if i = 0 then some (.int (nI w)) else none), some (.int s), some (.int (nI i))] [] σ) (g := smg (tx σ) (FC (sI σ 612) a j w) kd) (K := fun s σ => some (.inl (some (.int s)), σ)) (I := fun _ _ σ2 => Kp (fun a _ => a = 619) σ1 σ2) (n := lnN (tx σ)) ?_ ?_ (lnN (tx σ)) 0 0 σ1 (by omega) (Kp.rf _)
    · obtain ⟨σ', h1, h2⟩ := key9
      refine ⟨σ', ?_, hk0.tr (h2.mono fun a k h => Or.inl h)⟩
      simp only [if_true] at h1
      exact h1
    · intro i s σ2 hi hk
      try dsimp only
      have hM2 := hM1.kp hk
      have h6 : sI σ2 612 = sI σ 612 := (funext fun k => hk.2 612 k (by omega)).trans h612
      have ht2 : tx σ2 = tx σ := by unfold tx; rw [h6]
      obtain ⟨k1, k2⟩ := LWF_k hw' hi
      have i0 : (364 : Int32) + 4 * nI i = nI (363 + (1 + 4 * i)) := by rw [show (364 : Int32) + 4 * nI i = nI (364 + 4 * i) from i24 364 4 i]; congr 1; omega
      have i1 : nI (363 + (1 + 4 * i)) + 1 = nI (363 + (2 + 4 * i)) := by rw [nI_1]; congr 1; omega
      have hkk : sI σ2 612 (363 + (1 + 4 * i)) = nI (kN (tx σ) i) := by rw [h6]; exact k1
      have e0 : ∀ o2 o3 o4 : Option Value, exec PP 7 252 22 [some (.ref 611), some (.int (nI kd)), o2, o3, o4, some (.int s), some (.int (nI i))] [] σ2 = if kN (tx σ) i = kd then (onI (rn 253 [.ref 611, .int (nI i)] σ2) (fun x29 σ27 =>
        if (x29 = 0 : Prop) then (exec PP 7 252 91 [some (.ref 611), some (.int (nI kd)), none, none, none, some (.int s), some (.int (nI i))] [] σ27)
          else (gR σ27 112 1 (.ref 611) fun a30 =>
            aI σ27 1 (.ref a30) (nI (363 + (2 + 4 * i))) fun x31 =>
            exec PP 7 252 22 [some (.ref 611), some (.int (nI kd)), none, none, none, some (.int (s + x31)), some (.int (nI i + 1))] [] σ27)) (fun e28 σ27x => some (.inr e28, σ27x))) else (exec PP 7 252 91 [some (.ref 611), some (.int (nI kd)), none, none, none, some (.int s), some (.int (nI i))] [] σ2) := fun o2 o3 o4 => by
        rw [e_252_22, gw _ hM2, c4 _ hM2, h6, if_pos h4, gw _ hM2, show (363 : Int32) = nI (363 + 0) from rfl, m_w hM2 (by omega), h6, tx_at, n1, if_pos (nI_lt hi (by omega)), gw _ hM2, i0, m_w hM2 (by omega), hkk, i1, if_pos hM2.1.1]
        by_cases e : kN (tx σ) i = kd
        · rw [if_pos (by rw [e]), if_pos e]
        · rw [if_neg (fun z => e ((nI_eq (by omega) (by omega)).mp z)), if_neg e]
      have hn1 : ¬ i + 1 = 0 := by omega
      rw [e0]
      simp only [if_neg hn1]
      unfold smg
      by_cases e : kN (tx σ) i = kd
      · obtain ⟨σ3, g1, g2⟩ := m_253 hM2 (by rw [h6]; exact hW) (by rw [ht2]; exact hw') ((hk.2 611 18 (by omega)).trans q18) ((hk.2 611 19 (by omega)).trans q19) ((hk.2 611 20 (by omega)).trans q20) ha hj hw2 (i := i) (by rw [ht2]; exact hi)
        rw [ht2, h6] at g1
        have hM3 := hM2.kp g2
        have h63 : sI σ3 612 = sI σ 612 := (funext fun k => g2.2 612 k (by omega)).trans h6
        rw [if_pos e, g1, onI_i, iB]
        refine ⟨σ3, ?_, hk.tr g2⟩
        cases hv : evL (tx σ) (FC (sI σ 612) a j w) i
        · rw [if_pos rfl, e_252_91, if_neg (by simp), nI_1]
        · rw [if_neg (by decide), gw _ hM3, m_w hM3 (by omega), h63, tx_at, if_pos ⟨e, rfl⟩, nI_1]
      · exact ⟨σ2, by rw [if_neg e, e_252_91, if_neg (fun z => e z.1), nI_1], hk⟩
    · intro s σ2 hk
      try dsimp only
      have hM2 := hM1.kp hk
      have h6 : sI σ2 612 = sI σ 612 := (funext fun k => hk.2 612 k (by omega)).trans h612
      rw [e_252_22, gw _ hM2, c4 _ hM2, h6, if_pos h4, gw _ hM2, show (363 : Int32) = nI (363 + 0) from rfl, m_w hM2 (by omega), h6, tx_at, n1, if_neg (nI_nlt (Nat.le_refl _) (by omega)), e_252_97]
  · rw [if_neg h4]
    refine ⟨σ1, ?_, hk0⟩
    rw [e_252_22, gw _ hM1, c4 _ hM1, h612, if_neg h4, e_252_97]
