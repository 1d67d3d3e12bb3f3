/-! Math.abs, max, min: the kit's own rows -/
theorem mt_ok : (lw_tbl.contains (.static Lib.Math.abs.name) && lw_tbl.contains (.initialized "java/lang/Math") && lw_tbl.contains (.code Lib.Math.abs.name Lib.Math.abs.code 1 (some .int)) && lw_tbl.contains (.static Lib.Math.max.name) && lw_tbl.contains (.code Lib.Math.max.name Lib.Math.max.code 2 (some .int)) && lw_tbl.contains (.static Lib.Math.min.name) && lw_tbl.contains (.code Lib.Math.min.name Lib.Math.min.code 2 (some .int)) && decide (yOf 326 = Lib.Math.abs.name) && decide (yOf 327 = Lib.Math.max.name) && decide (yOf 328 = Lib.Math.min.name)) = true := by decide +kernel
theorem m_abs (d : Nat) (v : Value) (σ : SH) (y : (Option Value ⊕ Nat) × SH) (h : exec PP d 326 0 (lcl PP 326 [v]) [] σ = some y) : ∃ x, v = .int x ∧ y = (.inl (some (.int (if 0 ≤ x then x else 0 - x))), σ) := by
  have e9 : ∀ x, exec PP d 326 9 [some (.int x)] [] σ = some (.inl (some (.int x)), σ) := fun x => (exec_eq PP d 326 9 _ _ σ).trans rfl
  have e10 : ∀ (o : Option Value) (w : Int32), exec PP d 326 10 [o] [.int w] σ = some (.inl (some (.int w)), σ) := fun o w => (exec_eq PP d 326 10 _ _ σ).trans rfl
  cases v with
  | int x =>
    have e0 : exec PP d 326 0 (lcl PP 326 [.int x]) [] σ = if (x < 0 : Prop) then (exec PP d 326 10 [some (.int x)] [.int (-x)] σ) else (exec PP d 326 9 [some (.int x)] [] σ) := (exec_eq PP d 326 0 _ _ σ).trans rfl
    rw [e0, e9, e10] at h
    refine ⟨x, rfl, ?_⟩
    split at h
    · rename_i hx
      cases h
      rw [if_neg (Int32.not_le.mpr hx), show (0 : Int32) - x = -x from Int32.zero_sub x]
    · rename_i hx
      cases h
      rw [if_pos (Int32.not_lt.mp hx)]
  | _ =>
    rw [show exec PP d 326 0 (lcl PP 326 [_]) [] σ = none from (exec_eq PP d 326 0 _ _ σ).trans rfl] at h
    cases h
theorem m_max (d : Nat) (v w : Value) (σ : SH) (y : (Option Value ⊕ Nat) × SH) (h : exec PP d 327 0 (lcl PP 327 [v, w]) [] σ = some y) : ∃ x z, v = .int x ∧ w = .int z ∧ y = (.inl (some (.int (if x < z then z else x))), σ) := by
  have e9 : ∀ (o : Option Value) (x : Int32), exec PP d 327 9 [o, some (.int x)] [] σ = some (.inl (some (.int x)), σ) := fun o x => (exec_eq PP d 327 9 _ _ σ).trans rfl
  have e10 : ∀ (o o2 : Option Value) (w : Int32), exec PP d 327 10 [o, o2] [.int w] σ = some (.inl (some (.int w)), σ) := fun o o2 w => (exec_eq PP d 327 10 _ _ σ).trans rfl
  cases v with
  | int x => cases w with
    | int z =>
      have e0 : exec PP d 327 0 (lcl PP 327 [.int x, .int z]) [] σ = if (x < z : Prop) then (exec PP d 327 9 [some (.int x), some (.int z)] [] σ) else (exec PP d 327 10 [some (.int x), some (.int z)] [.int x] σ) := (exec_eq PP d 327 0 _ _ σ).trans rfl
      rw [e0, e9, e10] at h
      refine ⟨x, z, rfl, rfl, ?_⟩
      split at h <;> cases h
      · rename_i hx; rw [if_pos hx]
      · rename_i hx; rw [if_neg hx]
    | _ =>
      rw [show exec PP d 327 0 (lcl PP 327 [_, _]) [] σ = none from (exec_eq PP d 327 0 _ _ σ).trans rfl] at h
      cases h
  | _ =>
    rw [show exec PP d 327 0 (lcl PP 327 [_, _]) [] σ = none from (exec_eq PP d 327 0 _ _ σ).trans rfl] at h
    cases h
theorem m_min (d : Nat) (v w : Value) (σ : SH) (y : (Option Value ⊕ Nat) × SH) (h : exec PP d 328 0 (lcl PP 328 [v, w]) [] σ = some y) : ∃ x z, v = .int x ∧ w = .int z ∧ y = (.inl (some (.int (if z < x then z else x))), σ) := by
  have e9 : ∀ (o : Option Value) (x : Int32), exec PP d 328 9 [o, some (.int x)] [] σ = some (.inl (some (.int x)), σ) := fun o x => (exec_eq PP d 328 9 _ _ σ).trans rfl
  have e10 : ∀ (o o2 : Option Value) (w : Int32), exec PP d 328 10 [o, o2] [.int w] σ = some (.inl (some (.int w)), σ) := fun o o2 w => (exec_eq PP d 328 10 _ _ σ).trans rfl
  cases v with
  | int x => cases w with
    | int z =>
      have e0 : exec PP d 328 0 (lcl PP 328 [.int x, .int z]) [] σ = if (z < x : Prop) then (exec PP d 328 9 [some (.int x), some (.int z)] [] σ) else (exec PP d 328 10 [some (.int x), some (.int z)] [.int x] σ) := (exec_eq PP d 328 0 _ _ σ).trans rfl
      rw [e0, e9, e10] at h
      refine ⟨x, z, rfl, rfl, ?_⟩
      split at h <;> cases h
      · rename_i hx; rw [if_pos hx]
      · rename_i hx; rw [if_neg hx]
    | _ =>
      rw [show exec PP d 328 0 (lcl PP 328 [_, _]) [] σ = none from (exec_eq PP d 328 0 _ _ σ).trans rfl] at h
      cases h
  | _ =>
    rw [show exec PP d 328 0 (lcl PP 328 [_, _]) [] σ = none from (exec_eq PP d 328 0 _ _ σ).trans rfl] at h
    cases h
section MA
variable {p : Program} {l : Launch} {e : Env} {R : Room} {s : State} {m : MethodId} {args : Array Value} {below : List Frame} {meth : Method} {c : Code} {D : SD} {mi d z0 y0 nn : Nat} {res : Option Value ⊕ Nat} {σf : SH}
variable {E : Nat → SL → List Value → SH → SR} {X : Nat → Nat → Option Int32} {pc pos : Nat} {nx : Option Nat} {L : SL} {st : List Value} {σ : SH} {k : SL → List Value → SH → SR}
theorem cm_static {n : Nat} (hn : n / 10000 = 326 ∨ n / 10000 = 327 ∨ n / 10000 = 328) (hW : Wld l D) (hF : Frm p R s m meth c D mi d) (hk : ∀ q, nx = some q → ∀ L st σ2, k L st σ2 = some (res, σf) → Go p l e R s m args below meth c D mi z0 y0 res σf q L st σ2)
    (hG : ∀ L st σ2, k L st σ2 = some (res, σf) → sZ σ2 ≤ sZ σf ∧ sS σ2 ≤ sS σf) (hRm : sZ σf ≤ z0 + R.cells ∧ sS σf ≤ y0 + R.slots) (hok : okI mi pc nx pos (.invokestatic n) = true) (h : step1 (CN nn d) X E pc (.invokestatic n) L st σ k = some (res, σf)) : Go p l e R s m args below meth c D mi z0 y0 res σf pc L st σ := by
  have hs := hF.2.2.2.2.2.2.2.2.1
  have hR1 := hF.2.2.2.2.2.2.2.2.2.1
  have hR2 := hF.2.2.2.2.2.2.2.2.2.2
  have ho := mt_ok
  simp only [Bool.and_eq_true, decide_eq_true_eq] at ho
  obtain ⟨⟨⟨⟨⟨⟨⟨⟨⟨w1, w2⟩, w3⟩, w4⟩, w5⟩, w6⟩, w7⟩, n6⟩, n7⟩, n8⟩ := ho
  have wd : ∀ w : Cond, lw_tbl.contains w = true → goodWord w = true → w.before args s = true := fun w h1 h2 => word_at hs (good_of_word h2) (hW.2.1 _ (List.contains_iff_mem.mp h1))
  simp only [okI] at hok
  split at hok
  · rename_i x hd
    simp only [nxIs, Bool.and_eq_true, decide_eq_true_eq] at hok
    obtain ⟨⟨⟨⟨⟨hnx, hid⟩, hkd⟩, hw⟩, hpar⟩, _⟩ := hok
    simp only [step1] at h
    intro H locs cells slots ls r1 r2 r3 r4 r5
    obtain ⟨⟨hle, hw8, hwt⟩, h⟩ := ite_some h
    have hml : c.maxLocals = ls.size := by rw [hF.2.2.1]; exact r2.2.1.symm
    rcases hn with hn | hn | hn
    · rw [hn] at hw hpar h
      rw [n6] at hw hpar
      have h1 : n / 10 % 10 = 1 := by
        have : (parseMethodDescriptor Lib.Math.abs.name.desc).map (fun q => q.parameters.length) = some 1 := by decide +kernel
        rw [this] at hpar
        exact (Option.some.inj hpar).symm
      rw [h1] at hle hw8 hwt h
      cases st with
      | nil => simp at hle
      | cons v st =>
        have key : ∀ r, CN nn d 326 [v] σ = some r → ∃ x, v = .int x ∧ r = (.inl (some (.int (if 0 ≤ x then x else 0 - x))), σ) := fun r hc => by
          obtain ⟨d', _, hx⟩ := CN_some hc
          exact m_abs d' v σ r (exec_of hx)
        rcases doC_some h with ⟨w, σ1, hc, hh⟩ | ⟨y, σ1, hc, hh⟩
        · obtain ⟨x0, rfl, hr⟩ := key _ hc
          cases hr
          have hg := hG _ _ _ hh
          exact va_mabs hF.1 hF.2.1 hml hF.2.2.2.1 (wd_at hW hs hw) (wd _ w1 rfl) (wd _ w2 rfl) (wd _ w3 rfl) (by omega) (by have := cat_sum (D := D) hW.2.2.2.2.1 st; rw [this]; simp only [List.drop_succ_cons, List.drop_zero] at hw8; omega) (by omega) (by omega) hd (hk _ hnx _ _ _ hh H locs cells slots ls r1 r2 r3 r4 r5)
        · obtain ⟨x0, _, hr⟩ := key _ hc
          cases hr
    · rw [hn] at hw hpar h
      rw [n7] at hw hpar
      have h1 : n / 10 % 10 = 2 := by
        have : (parseMethodDescriptor Lib.Math.max.name.desc).map (fun q => q.parameters.length) = some 2 := by decide +kernel
        rw [this] at hpar
        exact (Option.some.inj hpar).symm
      rw [h1] at hle hw8 hwt h
      match st, hle with
      | v :: w :: st, _ =>
        have key : ∀ r, CN nn d 327 [w, v] σ = some r → ∃ x z, w = .int x ∧ v = .int z ∧ r = (.inl (some (.int (if x < z then z else x))), σ) := fun r hc => by
          obtain ⟨d', _, hx⟩ := CN_some hc
          exact m_max d' w v σ r (exec_of hx)
        rcases doC_some h with ⟨u, σ1, hc, hh⟩ | ⟨y, σ1, hc, hh⟩
        · obtain ⟨x0, z1, rfl, rfl, hr⟩ := key _ hc
          cases hr
          have hg := hG _ _ _ hh
          exact va_mmax hF.1 hF.2.1 hml hF.2.2.2.1 (wd_at hW hs hw) (wd _ w4 rfl) (wd _ w2 rfl) (wd _ w5 rfl) (by omega) (by have := cat_sum (D := D) hW.2.2.2.2.1 st; rw [this]; simp only [List.drop_succ_cons, List.drop_zero] at hw8; omega) (by omega) (by omega) hd (hk _ hnx _ _ _ hh H locs cells slots ls r1 r2 r3 r4 r5)
        · obtain ⟨x0, z1, _, _, hr⟩ := key _ hc
          cases hr
    · rw [hn] at hw hpar h
      rw [n8] at hw hpar
      have h1 : n / 10 % 10 = 2 := by
        have : (parseMethodDescriptor Lib.Math.min.name.desc).map (fun q => q.parameters.length) = some 2 := by decide +kernel
        rw [this] at hpar
        exact (Option.some.inj hpar).symm
      rw [h1] at hle hw8 hwt h
      match st, hle with
      | v :: w :: st, _ =>
        have key : ∀ r, CN nn d 328 [w, v] σ = some r → ∃ x z, w = .int x ∧ v = .int z ∧ r = (.inl (some (.int (if z < x then z else x))), σ) := fun r hc => by
          obtain ⟨d', _, hx⟩ := CN_some hc
          exact m_min d' w v σ r (exec_of hx)
        rcases doC_some h with ⟨u, σ1, hc, hh⟩ | ⟨y, σ1, hc, hh⟩
        · obtain ⟨x0, z1, rfl, rfl, hr⟩ := key _ hc
          cases hr
          have hg := hG _ _ _ hh
          exact va_mmin hF.1 hF.2.1 hml hF.2.2.2.1 (wd_at hW hs hw) (wd _ w6 rfl) (wd _ w2 rfl) (wd _ w7 rfl) (by omega) (by have := cat_sum (D := D) hW.2.2.2.2.1 st; rw [this]; simp only [List.drop_succ_cons, List.drop_zero] at hw8; omega) (by omega) (by omega) hd (hk _ hnx _ _ _ hh H locs cells slots ls r1 r2 r3 r4 r5)
        · obtain ⟨x0, z1, _, _, hr⟩ := key _ hc
          cases hr
  · cases hok
end MA
