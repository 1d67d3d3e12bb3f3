section SA
variable {p : Program} {l : Launch} {e : Env} {R : Room} {s : State} {m : MethodId} {args : Array Value} {below : List Frame} {meth : Method} {c : Code} {D : SD} {mi d z0 y0 : Nat} {res : Option Value ⊕ Nat} {σf : SH}
variable {C : Nat → List Value → SH → SR} {X : Nat → Nat → Option Int32} {E : Nat → SL → List Value → SH → SR} {pc pos : Nat} {nx : Option Nat} {L : SL} {st : List Value} {σ : SH} {k : SL → List Value → SH → SR}

theorem cat_tr {v : Value} (hfm : D.2.2.2.1 = .null ∨ ∃ q, D.2.2.2.1 = .ref q) (h : cat2 v = 1) : (tr D v).category = 1 := by
  rw [tr_cat hfm]; exact h
theorem sa_iadd (hW : Wld l D) (hF : Frm p R s m meth c D mi d) (hk : ∀ q, nx = some q → ∀ L st σ2, k L st σ2 = some (res, σf) → Go p l e R s m args below meth c D mi z0 y0 res σf q L st σ2) (hE : ∀ t, t < 100000 → ∀ L st σ2, E t L st σ2 = some (res, σf) → Go p l e R s m args below meth c D mi z0 y0 res σf t L st σ2) (hok : okI mi pc nx pos (.iadd) = true) (h : step1 C X E pc (.iadd) L st σ k = some (res, σf)) : Go p l e R s m args below meth c D mi z0 y0 res σf pc L st σ := by
  have hx := hF.1
  have hb := hF.2.1
  simp only [okI, nxIs, Bool.and_eq_true, decide_eq_true_eq] at hok
  simp only [step1] at h
  intro H locs cells slots ls r1 r2 r3 r4 r5
  split at h
  · exact lv_iadd hx hb hok.1 (hk _ hok.2 _ _ _ h H locs cells slots ls r1 r2 r3 r4 r5)
  · cases h

theorem sa_isub (hW : Wld l D) (hF : Frm p R s m meth c D mi d) (hk : ∀ q, nx = some q → ∀ L st σ2, k L st σ2 = some (res, σf) → Go p l e R s m args below meth c D mi z0 y0 res σf q L st σ2) (hE : ∀ t, t < 100000 → ∀ L st σ2, E t L st σ2 = some (res, σf) → Go p l e R s m args below meth c D mi z0 y0 res σf t L st σ2) (hok : okI mi pc nx pos (.isub) = true) (h : step1 C X E pc (.isub) L st σ k = some (res, σf)) : Go p l e R s m args below meth c D mi z0 y0 res σf pc L st σ := by
  have hx := hF.1
  have hb := hF.2.1
  simp only [okI, nxIs, Bool.and_eq_true, decide_eq_true_eq] at hok
  simp only [step1] at h
  intro H locs cells slots ls r1 r2 r3 r4 r5
  split at h
  · exact lv_isub hx hb hok.1 (hk _ hok.2 _ _ _ h H locs cells slots ls r1 r2 r3 r4 r5)
  · cases h

theorem sa_imul (hW : Wld l D) (hF : Frm p R s m meth c D mi d) (hk : ∀ q, nx = some q → ∀ L st σ2, k L st σ2 = some (res, σf) → Go p l e R s m args below meth c D mi z0 y0 res σf q L st σ2) (hE : ∀ t, t < 100000 → ∀ L st σ2, E t L st σ2 = some (res, σf) → Go p l e R s m args below meth c D mi z0 y0 res σf t L st σ2) (hok : okI mi pc nx pos (.imul) = true) (h : step1 C X E pc (.imul) L st σ k = some (res, σf)) : Go p l e R s m args below meth c D mi z0 y0 res σf pc L st σ := by
  have hx := hF.1
  have hb := hF.2.1
  simp only [okI, nxIs, Bool.and_eq_true, decide_eq_true_eq] at hok
  simp only [step1] at h
  intro H locs cells slots ls r1 r2 r3 r4 r5
  split at h
  · exact lv_imul hx hb hok.1 (hk _ hok.2 _ _ _ h H locs cells slots ls r1 r2 r3 r4 r5)
  · cases h

theorem sa_iand (hW : Wld l D) (hF : Frm p R s m meth c D mi d) (hk : ∀ q, nx = some q → ∀ L st σ2, k L st σ2 = some (res, σf) → Go p l e R s m args below meth c D mi z0 y0 res σf q L st σ2) (hE : ∀ t, t < 100000 → ∀ L st σ2, E t L st σ2 = some (res, σf) → Go p l e R s m args below meth c D mi z0 y0 res σf t L st σ2) (hok : okI mi pc nx pos (.iand) = true) (h : step1 C X E pc (.iand) L st σ k = some (res, σf)) : Go p l e R s m args below meth c D mi z0 y0 res σf pc L st σ := by
  have hx := hF.1
  have hb := hF.2.1
  simp only [okI, nxIs, Bool.and_eq_true, decide_eq_true_eq] at hok
  simp only [step1] at h
  intro H locs cells slots ls r1 r2 r3 r4 r5
  split at h
  · exact lv_iand hx hb hok.1 (hk _ hok.2 _ _ _ h H locs cells slots ls r1 r2 r3 r4 r5)
  · cases h

theorem sa_ior (hW : Wld l D) (hF : Frm p R s m meth c D mi d) (hk : ∀ q, nx = some q → ∀ L st σ2, k L st σ2 = some (res, σf) → Go p l e R s m args below meth c D mi z0 y0 res σf q L st σ2) (hE : ∀ t, t < 100000 → ∀ L st σ2, E t L st σ2 = some (res, σf) → Go p l e R s m args below meth c D mi z0 y0 res σf t L st σ2) (hok : okI mi pc nx pos (.ior) = true) (h : step1 C X E pc (.ior) L st σ k = some (res, σf)) : Go p l e R s m args below meth c D mi z0 y0 res σf pc L st σ := by
  have hx := hF.1
  have hb := hF.2.1
  simp only [okI, nxIs, Bool.and_eq_true, decide_eq_true_eq] at hok
  simp only [step1] at h
  intro H locs cells slots ls r1 r2 r3 r4 r5
  split at h
  · exact lv_ior hx hb hok.1 (hk _ hok.2 _ _ _ h H locs cells slots ls r1 r2 r3 r4 r5)
  · cases h

theorem sa_ixor (hW : Wld l D) (hF : Frm p R s m meth c D mi d) (hk : ∀ q, nx = some q → ∀ L st σ2, k L st σ2 = some (res, σf) → Go p l e R s m args below meth c D mi z0 y0 res σf q L st σ2) (hE : ∀ t, t < 100000 → ∀ L st σ2, E t L st σ2 = some (res, σf) → Go p l e R s m args below meth c D mi z0 y0 res σf t L st σ2) (hok : okI mi pc nx pos (.ixor) = true) (h : step1 C X E pc (.ixor) L st σ k = some (res, σf)) : Go p l e R s m args below meth c D mi z0 y0 res σf pc L st σ := by
  have hx := hF.1
  have hb := hF.2.1
  simp only [okI, nxIs, Bool.and_eq_true, decide_eq_true_eq] at hok
  simp only [step1] at h
  intro H locs cells slots ls r1 r2 r3 r4 r5
  split at h
  · exact lv_ixor hx hb hok.1 (hk _ hok.2 _ _ _ h H locs cells slots ls r1 r2 r3 r4 r5)
  · cases h

theorem sa_ishl (hW : Wld l D) (hF : Frm p R s m meth c D mi d) (hk : ∀ q, nx = some q → ∀ L st σ2, k L st σ2 = some (res, σf) → Go p l e R s m args below meth c D mi z0 y0 res σf q L st σ2) (hE : ∀ t, t < 100000 → ∀ L st σ2, E t L st σ2 = some (res, σf) → Go p l e R s m args below meth c D mi z0 y0 res σf t L st σ2) (hok : okI mi pc nx pos (.ishl) = true) (h : step1 C X E pc (.ishl) L st σ k = some (res, σf)) : Go p l e R s m args below meth c D mi z0 y0 res σf pc L st σ := by
  have hx := hF.1
  have hb := hF.2.1
  simp only [okI, nxIs, Bool.and_eq_true, decide_eq_true_eq] at hok
  simp only [step1] at h
  intro H locs cells slots ls r1 r2 r3 r4 r5
  split at h
  · exact lv_ishl hx hb hok.1 (hk _ hok.2 _ _ _ h H locs cells slots ls r1 r2 r3 r4 r5)
  · cases h

theorem sa_ishr (hW : Wld l D) (hF : Frm p R s m meth c D mi d) (hk : ∀ q, nx = some q → ∀ L st σ2, k L st σ2 = some (res, σf) → Go p l e R s m args below meth c D mi z0 y0 res σf q L st σ2) (hE : ∀ t, t < 100000 → ∀ L st σ2, E t L st σ2 = some (res, σf) → Go p l e R s m args below meth c D mi z0 y0 res σf t L st σ2) (hok : okI mi pc nx pos (.ishr) = true) (h : step1 C X E pc (.ishr) L st σ k = some (res, σf)) : Go p l e R s m args below meth c D mi z0 y0 res σf pc L st σ := by
  have hx := hF.1
  have hb := hF.2.1
  simp only [okI, nxIs, Bool.and_eq_true, decide_eq_true_eq] at hok
  simp only [step1] at h
  intro H locs cells slots ls r1 r2 r3 r4 r5
  split at h
  · exact lv_ishr hx hb hok.1 (hk _ hok.2 _ _ _ h H locs cells slots ls r1 r2 r3 r4 r5)
  · cases h

theorem sa_lmul (hW : Wld l D) (hF : Frm p R s m meth c D mi d) (hk : ∀ q, nx = some q → ∀ L st σ2, k L st σ2 = some (res, σf) → Go p l e R s m args below meth c D mi z0 y0 res σf q L st σ2) (hE : ∀ t, t < 100000 → ∀ L st σ2, E t L st σ2 = some (res, σf) → Go p l e R s m args below meth c D mi z0 y0 res σf t L st σ2) (hok : okI mi pc nx pos (.lmul) = true) (h : step1 C X E pc (.lmul) L st σ k = some (res, σf)) : Go p l e R s m args below meth c D mi z0 y0 res σf pc L st σ := by
  have hx := hF.1
  have hb := hF.2.1
  simp only [okI, nxIs, Bool.and_eq_true, decide_eq_true_eq] at hok
  simp only [step1] at h
  intro H locs cells slots ls r1 r2 r3 r4 r5
  split at h
  · exact lv_lmul hx hb hok.1 (hk _ hok.2 _ _ _ h H locs cells slots ls r1 r2 r3 r4 r5)
  · cases h

theorem sa_lsub (hW : Wld l D) (hF : Frm p R s m meth c D mi d) (hk : ∀ q, nx = some q → ∀ L st σ2, k L st σ2 = some (res, σf) → Go p l e R s m args below meth c D mi z0 y0 res σf q L st σ2) (hE : ∀ t, t < 100000 → ∀ L st σ2, E t L st σ2 = some (res, σf) → Go p l e R s m args below meth c D mi z0 y0 res σf t L st σ2) (hok : okI mi pc nx pos (.lsub) = true) (h : step1 C X E pc (.lsub) L st σ k = some (res, σf)) : Go p l e R s m args below meth c D mi z0 y0 res σf pc L st σ := by
  have hx := hF.1
  have hb := hF.2.1
  simp only [okI, nxIs, Bool.and_eq_true, decide_eq_true_eq] at hok
  simp only [step1] at h
  intro H locs cells slots ls r1 r2 r3 r4 r5
  split at h
  · exact lv_lsub hx hb hok.1 (hk _ hok.2 _ _ _ h H locs cells slots ls r1 r2 r3 r4 r5)
  · cases h

theorem sa_iushr (hW : Wld l D) (hF : Frm p R s m meth c D mi d) (hk : ∀ q, nx = some q → ∀ L st σ2, k L st σ2 = some (res, σf) → Go p l e R s m args below meth c D mi z0 y0 res σf q L st σ2) (hE : ∀ t, t < 100000 → ∀ L st σ2, E t L st σ2 = some (res, σf) → Go p l e R s m args below meth c D mi z0 y0 res σf t L st σ2) (hok : okI mi pc nx pos (.iushr) = true) (h : step1 C X E pc (.iushr) L st σ k = some (res, σf)) : Go p l e R s m args below meth c D mi z0 y0 res σf pc L st σ := by
  have hx := hF.1
  have hb := hF.2.1
  simp only [okI, nxIs, Bool.and_eq_true, decide_eq_true_eq] at hok
  simp only [step1] at h
  intro H locs cells slots ls r1 r2 r3 r4 r5
  split at h
  · exact lv_iushr hx hb hok.1 rfl (hk _ hok.2 _ _ _ h H locs cells slots ls r1 r2 r3 r4 r5)
  · cases h

theorem sa_lcmp (hW : Wld l D) (hF : Frm p R s m meth c D mi d) (hk : ∀ q, nx = some q → ∀ L st σ2, k L st σ2 = some (res, σf) → Go p l e R s m args below meth c D mi z0 y0 res σf q L st σ2) (hE : ∀ t, t < 100000 → ∀ L st σ2, E t L st σ2 = some (res, σf) → Go p l e R s m args below meth c D mi z0 y0 res σf t L st σ2) (hok : okI mi pc nx pos (.lcmp) = true) (h : step1 C X E pc (.lcmp) L st σ k = some (res, σf)) : Go p l e R s m args below meth c D mi z0 y0 res σf pc L st σ := by
  have hx := hF.1
  have hb := hF.2.1
  simp only [okI, nxIs, Bool.and_eq_true, decide_eq_true_eq] at hok
  simp only [step1] at h
  intro H locs cells slots ls r1 r2 r3 r4 r5
  split at h
  · exact W.lcmp hx hb hok.1 (hk _ hok.2 _ _ _ h H locs cells slots ls r1 r2 r3 r4 r5)
  · cases h

theorem sa_idiv (hW : Wld l D) (hF : Frm p R s m meth c D mi d) (hk : ∀ q, nx = some q → ∀ L st σ2, k L st σ2 = some (res, σf) → Go p l e R s m args below meth c D mi z0 y0 res σf q L st σ2) (hE : ∀ t, t < 100000 → ∀ L st σ2, E t L st σ2 = some (res, σf) → Go p l e R s m args below meth c D mi z0 y0 res σf t L st σ2) (hok : okI mi pc nx pos (.idiv) = true) (h : step1 C X E pc (.idiv) L st σ k = some (res, σf)) : Go p l e R s m args below meth c D mi z0 y0 res σf pc L st σ := by
  have hx := hF.1
  have hb := hF.2.1
  simp only [okI, nxIs, Bool.and_eq_true, decide_eq_true_eq] at hok
  simp only [step1] at h
  intro H locs cells slots ls r1 r2 r3 r4 r5
  split at h
  · split at h
    · cases h
    · rename_i hne
      exact lv_idiv hx hb hok.1 hne (hk _ hok.2 _ _ _ h H locs cells slots ls r1 r2 r3 r4 r5)
  · cases h

theorem sa_irem (hW : Wld l D) (hF : Frm p R s m meth c D mi d) (hk : ∀ q, nx = some q → ∀ L st σ2, k L st σ2 = some (res, σf) → Go p l e R s m args below meth c D mi z0 y0 res σf q L st σ2) (hE : ∀ t, t < 100000 → ∀ L st σ2, E t L st σ2 = some (res, σf) → Go p l e R s m args below meth c D mi z0 y0 res σf t L st σ2) (hok : okI mi pc nx pos (.irem) = true) (h : step1 C X E pc (.irem) L st σ k = some (res, σf)) : Go p l e R s m args below meth c D mi z0 y0 res σf pc L st σ := by
  have hx := hF.1
  have hb := hF.2.1
  simp only [okI, nxIs, Bool.and_eq_true, decide_eq_true_eq] at hok
  simp only [step1] at h
  intro H locs cells slots ls r1 r2 r3 r4 r5
  split at h
  · split at h
    · cases h
    · rename_i hne
      exact lv_irem hx hb hok.1 hne (hk _ hok.2 _ _ _ h H locs cells slots ls r1 r2 r3 r4 r5)
  · cases h

theorem sa_ldiv (hW : Wld l D) (hF : Frm p R s m meth c D mi d) (hk : ∀ q, nx = some q → ∀ L st σ2, k L st σ2 = some (res, σf) → Go p l e R s m args below meth c D mi z0 y0 res σf q L st σ2) (hE : ∀ t, t < 100000 → ∀ L st σ2, E t L st σ2 = some (res, σf) → Go p l e R s m args below meth c D mi z0 y0 res σf t L st σ2) (hok : okI mi pc nx pos (.ldiv) = true) (h : step1 C X E pc (.ldiv) L st σ k = some (res, σf)) : Go p l e R s m args below meth c D mi z0 y0 res σf pc L st σ := by
  have hx := hF.1
  have hb := hF.2.1
  simp only [okI, nxIs, Bool.and_eq_true, decide_eq_true_eq] at hok
  simp only [step1] at h
  intro H locs cells slots ls r1 r2 r3 r4 r5
  split at h
  · split at h
    · cases h
    · rename_i hne
      exact lv_ldiv hx hb hok.1 hne (hk _ hok.2 _ _ _ h H locs cells slots ls r1 r2 r3 r4 r5)
  · cases h

theorem sa_ineg (hW : Wld l D) (hF : Frm p R s m meth c D mi d) (hk : ∀ q, nx = some q → ∀ L st σ2, k L st σ2 = some (res, σf) → Go p l e R s m args below meth c D mi z0 y0 res σf q L st σ2) (hE : ∀ t, t < 100000 → ∀ L st σ2, E t L st σ2 = some (res, σf) → Go p l e R s m args below meth c D mi z0 y0 res σf t L st σ2) (hok : okI mi pc nx pos (.ineg) = true) (h : step1 C X E pc (.ineg) L st σ k = some (res, σf)) : Go p l e R s m args below meth c D mi z0 y0 res σf pc L st σ := by
  have hx := hF.1
  have hb := hF.2.1
  simp only [okI, nxIs, Bool.and_eq_true, decide_eq_true_eq] at hok
  simp only [step1] at h
  intro H locs cells slots ls r1 r2 r3 r4 r5
  split at h
  · exact lv_ineg hx hb hok.1 (hk _ hok.2 _ _ _ h H locs cells slots ls r1 r2 r3 r4 r5)
  · cases h

theorem sa_i2l (hW : Wld l D) (hF : Frm p R s m meth c D mi d) (hk : ∀ q, nx = some q → ∀ L st σ2, k L st σ2 = some (res, σf) → Go p l e R s m args below meth c D mi z0 y0 res σf q L st σ2) (hE : ∀ t, t < 100000 → ∀ L st σ2, E t L st σ2 = some (res, σf) → Go p l e R s m args below meth c D mi z0 y0 res σf t L st σ2) (hok : okI mi pc nx pos (.i2l) = true) (h : step1 C X E pc (.i2l) L st σ k = some (res, σf)) : Go p l e R s m args below meth c D mi z0 y0 res σf pc L st σ := by
  have hx := hF.1
  have hb := hF.2.1
  simp only [okI, nxIs, Bool.and_eq_true, decide_eq_true_eq] at hok
  simp only [step1] at h
  intro H locs cells slots ls r1 r2 r3 r4 r5
  split at h
  · exact lv_i2l hx hb hok.1 rfl (hk _ hok.2 _ _ _ h H locs cells slots ls r1 r2 r3 r4 r5)
  · cases h

theorem sa_l2i (hW : Wld l D) (hF : Frm p R s m meth c D mi d) (hk : ∀ q, nx = some q → ∀ L st σ2, k L st σ2 = some (res, σf) → Go p l e R s m args below meth c D mi z0 y0 res σf q L st σ2) (hE : ∀ t, t < 100000 → ∀ L st σ2, E t L st σ2 = some (res, σf) → Go p l e R s m args below meth c D mi z0 y0 res σf t L st σ2) (hok : okI mi pc nx pos (.l2i) = true) (h : step1 C X E pc (.l2i) L st σ k = some (res, σf)) : Go p l e R s m args below meth c D mi z0 y0 res σf pc L st σ := by
  have hx := hF.1
  have hb := hF.2.1
  simp only [okI, nxIs, Bool.and_eq_true, decide_eq_true_eq] at hok
  simp only [step1] at h
  intro H locs cells slots ls r1 r2 r3 r4 r5
  split at h
  · exact lv_l2i hx hb hok.1 rfl (hk _ hok.2 _ _ _ h H locs cells slots ls r1 r2 r3 r4 r5)
  · cases h

theorem sa_i2b (hW : Wld l D) (hF : Frm p R s m meth c D mi d) (hk : ∀ q, nx = some q → ∀ L st σ2, k L st σ2 = some (res, σf) → Go p l e R s m args below meth c D mi z0 y0 res σf q L st σ2) (hE : ∀ t, t < 100000 → ∀ L st σ2, E t L st σ2 = some (res, σf) → Go p l e R s m args below meth c D mi z0 y0 res σf t L st σ2) (hok : okI mi pc nx pos (.i2b) = true) (h : step1 C X E pc (.i2b) L st σ k = some (res, σf)) : Go p l e R s m args below meth c D mi z0 y0 res σf pc L st σ := by
  have hx := hF.1
  have hb := hF.2.1
  simp only [okI, nxIs, Bool.and_eq_true, decide_eq_true_eq] at hok
  simp only [step1] at h
  intro H locs cells slots ls r1 r2 r3 r4 r5
  split at h
  · exact lv_i2b hx hb hok.1 rfl (hk _ hok.2 _ _ _ h H locs cells slots ls r1 r2 r3 r4 r5)
  · cases h

theorem sa_i2c (hW : Wld l D) (hF : Frm p R s m meth c D mi d) (hk : ∀ q, nx = some q → ∀ L st σ2, k L st σ2 = some (res, σf) → Go p l e R s m args below meth c D mi z0 y0 res σf q L st σ2) (hE : ∀ t, t < 100000 → ∀ L st σ2, E t L st σ2 = some (res, σf) → Go p l e R s m args below meth c D mi z0 y0 res σf t L st σ2) (hok : okI mi pc nx pos (.i2c) = true) (h : step1 C X E pc (.i2c) L st σ k = some (res, σf)) : Go p l e R s m args below meth c D mi z0 y0 res σf pc L st σ := by
  have hx := hF.1
  have hb := hF.2.1
  simp only [okI, nxIs, Bool.and_eq_true, decide_eq_true_eq] at hok
  simp only [step1] at h
  intro H locs cells slots ls r1 r2 r3 r4 r5
  split at h
  · exact lv_i2c hx hb hok.1 rfl (hk _ hok.2 _ _ _ h H locs cells slots ls r1 r2 r3 r4 r5)
  · cases h

theorem sa_pop (hW : Wld l D) (hF : Frm p R s m meth c D mi d) (hk : ∀ q, nx = some q → ∀ L st σ2, k L st σ2 = some (res, σf) → Go p l e R s m args below meth c D mi z0 y0 res σf q L st σ2) (hE : ∀ t, t < 100000 → ∀ L st σ2, E t L st σ2 = some (res, σf) → Go p l e R s m args below meth c D mi z0 y0 res σf t L st σ2) (hok : okI mi pc nx pos (.pop) = true) (h : step1 C X E pc (.pop) L st σ k = some (res, σf)) : Go p l e R s m args below meth c D mi z0 y0 res σf pc L st σ := by
  have hx := hF.1
  have hb := hF.2.1
  simp only [okI, nxIs, Bool.and_eq_true, decide_eq_true_eq] at hok
  simp only [step1] at h
  intro H locs cells slots ls r1 r2 r3 r4 r5
  split at h
  · split at h
    · rename_i hc
      exact lv_pop hx hb hok.1 (cat_tr hW.2.2.2.2.1 hc) (hk _ hok.2 _ _ _ h H locs cells slots ls r1 r2 r3 r4 r5)
    · cases h
  · cases h

theorem sa_dup (hW : Wld l D) (hF : Frm p R s m meth c D mi d) (hk : ∀ q, nx = some q → ∀ L st σ2, k L st σ2 = some (res, σf) → Go p l e R s m args below meth c D mi z0 y0 res σf q L st σ2) (hE : ∀ t, t < 100000 → ∀ L st σ2, E t L st σ2 = some (res, σf) → Go p l e R s m args below meth c D mi z0 y0 res σf t L st σ2) (hok : okI mi pc nx pos (.dup) = true) (h : step1 C X E pc (.dup) L st σ k = some (res, σf)) : Go p l e R s m args below meth c D mi z0 y0 res σf pc L st σ := by
  have hx := hF.1
  have hb := hF.2.1
  simp only [okI, nxIs, Bool.and_eq_true, decide_eq_true_eq] at hok
  simp only [step1] at h
  intro H locs cells slots ls r1 r2 r3 r4 r5
  split at h
  · split at h
    · rename_i hc
      exact lv_dup hx hb hok.1 (cat_tr hW.2.2.2.2.1 hc) (hk _ hok.2 _ _ _ h H locs cells slots ls r1 r2 r3 r4 r5)
    · cases h
  · cases h

theorem sa_dup2 (hW : Wld l D) (hF : Frm p R s m meth c D mi d) (hk : ∀ q, nx = some q → ∀ L st σ2, k L st σ2 = some (res, σf) → Go p l e R s m args below meth c D mi z0 y0 res σf q L st σ2) (hE : ∀ t, t < 100000 → ∀ L st σ2, E t L st σ2 = some (res, σf) → Go p l e R s m args below meth c D mi z0 y0 res σf t L st σ2) (hok : okI mi pc nx pos (.dup2) = true) (h : step1 C X E pc (.dup2) L st σ k = some (res, σf)) : Go p l e R s m args below meth c D mi z0 y0 res σf pc L st σ := by
  have hx := hF.1
  have hb := hF.2.1
  simp only [okI, nxIs, Bool.and_eq_true, decide_eq_true_eq] at hok
  simp only [step1] at h
  intro H locs cells slots ls r1 r2 r3 r4 r5
  split at h
  · split at h
    · rename_i hc
      exact lv_dup2_11 hx hb hok.1 (cat_tr hW.2.2.2.2.1 hc.1) (cat_tr hW.2.2.2.2.1 hc.2) (hk _ hok.2 _ _ _ h H locs cells slots ls r1 r2 r3 r4 r5)
    · cases h
  · cases h

theorem sa_aconst_null (hW : Wld l D) (hF : Frm p R s m meth c D mi d) (hk : ∀ q, nx = some q → ∀ L st σ2, k L st σ2 = some (res, σf) → Go p l e R s m args below meth c D mi z0 y0 res σf q L st σ2) (hE : ∀ t, t < 100000 → ∀ L st σ2, E t L st σ2 = some (res, σf) → Go p l e R s m args below meth c D mi z0 y0 res σf t L st σ2) (hok : okI mi pc nx pos (.aconst_null) = true) (h : step1 C X E pc (.aconst_null) L st σ k = some (res, σf)) : Go p l e R s m args below meth c D mi z0 y0 res σf pc L st σ := by
  have hx := hF.1
  have hb := hF.2.1
  simp only [okI, nxIs, Bool.and_eq_true, decide_eq_true_eq] at hok
  simp only [step1] at h
  intro H locs cells slots ls r1 r2 r3 r4 r5
  exact lv_null hx hb hok.1 (hk _ hok.2 _ _ _ h H locs cells slots ls r1 r2 r3 r4 r5)

theorem sa_lconst (hW : Wld l D) (hF : Frm p R s m meth c D mi d) (hk : ∀ q, nx = some q → ∀ L st σ2, k L st σ2 = some (res, σf) → Go p l e R s m args below meth c D mi z0 y0 res σf q L st σ2) (hE : ∀ t, t < 100000 → ∀ L st σ2, E t L st σ2 = some (res, σf) → Go p l e R s m args below meth c D mi z0 y0 res σf t L st σ2) {n : Fin 2} (hok : okI mi pc nx pos (.lconst n) = true) (h : step1 C X E pc (.lconst n) L st σ k = some (res, σf)) : Go p l e R s m args below meth c D mi z0 y0 res σf pc L st σ := by
  have hx := hF.1
  have hb := hF.2.1
  simp only [okI, nxIs, Bool.and_eq_true, decide_eq_true_eq] at hok
  simp only [step1] at h
  intro H locs cells slots ls r1 r2 r3 r4 r5
  exact lv_lconst hx hb hok.1 rfl (hk _ hok.2 _ _ _ h H locs cells slots ls r1 r2 r3 r4 r5)

theorem sa_iconst (hW : Wld l D) (hF : Frm p R s m meth c D mi d) (hk : ∀ q, nx = some q → ∀ L st σ2, k L st σ2 = some (res, σf) → Go p l e R s m args below meth c D mi z0 y0 res σf q L st σ2) (hE : ∀ t, t < 100000 → ∀ L st σ2, E t L st σ2 = some (res, σf) → Go p l e R s m args below meth c D mi z0 y0 res σf t L st σ2) {n : Int} (hok : okI mi pc nx pos (.iconst n) = true) (h : step1 C X E pc (.iconst n) L st σ k = some (res, σf)) : Go p l e R s m args below meth c D mi z0 y0 res σf pc L st σ := by
  have hx := hF.1
  have hb := hF.2.1
  simp only [okI, nxIs, Bool.and_eq_true, decide_eq_true_eq] at hok
  simp only [step1] at h
  intro H locs cells slots ls r1 r2 r3 r4 r5
  split at hok
  · rename_i hd
    simp only [Bool.and_eq_true, decide_eq_true_eq] at hok
    exact lv_iconst hx hb hd hok.1 (hk _ hok.2 _ _ _ h H locs cells slots ls r1 r2 r3 r4 r5)
  · rename_i hd
    simp only [Bool.and_eq_true, decide_eq_true_eq] at hok
    exact lv_bipush hx hb hd hok.1 (hk _ hok.2 _ _ _ h H locs cells slots ls r1 r2 r3 r4 r5)
  · rename_i hd
    simp only [Bool.and_eq_true, decide_eq_true_eq] at hok
    exact lv_sipush hx hb hd hok.1 (hk _ hok.2 _ _ _ h H locs cells slots ls r1 r2 r3 r4 r5)
  · rename_i hd
    simp only [Bool.and_eq_true, decide_eq_true_eq] at hok
    exact lv_ldc hx hb hF.2.2.2.1 (wd_at hW hF.2.2.2.2.2.2.2.2.1 hok.1) hd (hk _ hok.2 _ _ _ h H locs cells slots ls r1 r2 r3 r4 r5)
  · rename_i hd
    simp only [Bool.and_eq_true, decide_eq_true_eq] at hok
    exact lv_ldcw hx hb hF.2.2.2.1 (wd_at hW hF.2.2.2.2.2.2.2.2.1 hok.1) hd (hk _ hok.2 _ _ _ h H locs cells slots ls r1 r2 r3 r4 r5)
  · cases hok

theorem sa_ldc2_w (hW : Wld l D) (hF : Frm p R s m meth c D mi d) (hk : ∀ q, nx = some q → ∀ L st σ2, k L st σ2 = some (res, σf) → Go p l e R s m args below meth c D mi z0 y0 res σf q L st σ2) (hE : ∀ t, t < 100000 → ∀ L st σ2, E t L st σ2 = some (res, σf) → Go p l e R s m args below meth c D mi z0 y0 res σf t L st σ2) {n : Nat} (hok : okI mi pc nx pos (.ldc2_w n) = true) (h : step1 C X E pc (.ldc2_w n) L st σ k = some (res, σf)) : Go p l e R s m args below meth c D mi z0 y0 res σf pc L st σ := by
  have hx := hF.1
  have hb := hF.2.1
  simp only [okI, nxIs, Bool.and_eq_true, decide_eq_true_eq] at hok
  simp only [step1] at h
  intro H locs cells slots ls r1 r2 r3 r4 r5
  split at hok
  · rename_i hd
    simp only [Bool.and_eq_true, decide_eq_true_eq] at hok
    exact lv_ldc2 hx hb hF.2.2.2.1 (wd_at hW hF.2.2.2.2.2.2.2.2.1 hok.1) hd (hk _ hok.2 _ _ _ h H locs cells slots ls r1 r2 r3 r4 r5)
  · cases hok

theorem sa_iload (hW : Wld l D) (hF : Frm p R s m meth c D mi d) (hk : ∀ q, nx = some q → ∀ L st σ2, k L st σ2 = some (res, σf) → Go p l e R s m args below meth c D mi z0 y0 res σf q L st σ2) (hE : ∀ t, t < 100000 → ∀ L st σ2, E t L st σ2 = some (res, σf) → Go p l e R s m args below meth c D mi z0 y0 res σf t L st σ2) {n : Nat} (hok : okI mi pc nx pos (.iload n) = true) (h : step1 C X E pc (.iload n) L st σ k = some (res, σf)) : Go p l e R s m args below meth c D mi z0 y0 res σf pc L st σ := by
  have hx := hF.1
  have hb := hF.2.1
  simp only [okI, nxIs, Bool.and_eq_true, decide_eq_true_eq] at hok
  simp only [step1] at h
  intro H locs cells slots ls r1 r2 r3 r4 r5
  split at h
  · rename_i hv
    split at hok
    · rename_i hd
      simp only [Bool.and_eq_true, decide_eq_true_eq] at hok
      obtain ⟨rfl, hn⟩ := hok
      exact lv_iload hx hb hd (lR_get r2 hv) (hk _ hn _ _ _ h H locs cells slots ls r1 r2 r3 r4 r5)
    · rename_i hd
      simp only [Bool.and_eq_true, decide_eq_true_eq] at hok
      exact lv_iload_n hx hb hd hok.1 (lR_get r2 hv) (hk _ hok.2 _ _ _ h H locs cells slots ls r1 r2 r3 r4 r5)
    · cases hok
  · cases h

theorem sa_lload (hW : Wld l D) (hF : Frm p R s m meth c D mi d) (hk : ∀ q, nx = some q → ∀ L st σ2, k L st σ2 = some (res, σf) → Go p l e R s m args below meth c D mi z0 y0 res σf q L st σ2) (hE : ∀ t, t < 100000 → ∀ L st σ2, E t L st σ2 = some (res, σf) → Go p l e R s m args below meth c D mi z0 y0 res σf t L st σ2) {n : Nat} (hok : okI mi pc nx pos (.lload n) = true) (h : step1 C X E pc (.lload n) L st σ k = some (res, σf)) : Go p l e R s m args below meth c D mi z0 y0 res σf pc L st σ := by
  have hx := hF.1
  have hb := hF.2.1
  simp only [okI, nxIs, Bool.and_eq_true, decide_eq_true_eq] at hok
  simp only [step1] at h
  intro H locs cells slots ls r1 r2 r3 r4 r5
  split at h
  · rename_i hv
    split at hok
    · rename_i hd
      simp only [Bool.and_eq_true, decide_eq_true_eq] at hok
      obtain ⟨rfl, hn⟩ := hok
      exact lv_lload hx hb hd (lR_get r2 hv) (hk _ hn _ _ _ h H locs cells slots ls r1 r2 r3 r4 r5)
    · rename_i hd
      simp only [Bool.and_eq_true, decide_eq_true_eq] at hok
      exact lv_lload_n hx hb hd hok.1 (lR_get r2 hv) (hk _ hok.2 _ _ _ h H locs cells slots ls r1 r2 r3 r4 r5)
    · cases hok
  · cases h

theorem sa_push {cc : ByteArray} {n q : Nat} {H : Heap} {locs : List Loc} {cells slots : Nat} {ls : Array Slot} {Q : State → Prop} {rest : List Value} {w : Value} (hx : p.tables.exec = Jvm.exec) (hb : c.code = cc)
    (hd : (decode cc pc = .ok (.aload n, 2) ∧ q = pc + 2) ∨ ∃ j : Fin 4, decode cc pc = .ok (.aload_n j, 1) ∧ (j : Nat) = n ∧ q = pc + 1) (hw : w = .null ∨ ∃ a, w = .ref a) (hl : ls[n]? = some (.val w))
    (kk : W p l e R s m args below meth c H locs cells slots Q (F0 m q ls (w :: rest))) : W p l e R s m args below meth c H locs cells slots Q (F0 m pc ls rest) := by
  rcases hw with rfl | ⟨a, rfl⟩ <;> rcases hd with ⟨h1, rfl⟩ | ⟨j, h1, h2, rfl⟩
  · exact lv_aloadN hx hb h1 hl kk
  · exact lv_aload_nN hx hb h1 h2 hl kk
  · exact lv_aload hx hb h1 hl kk
  · exact lv_aload_n hx hb h1 h2 hl kk

theorem sa_aload (hW : Wld l D) (hF : Frm p R s m meth c D mi d) (hk : ∀ q, nx = some q → ∀ L st σ2, k L st σ2 = some (res, σf) → Go p l e R s m args below meth c D mi z0 y0 res σf q L st σ2) (hE : ∀ t, t < 100000 → ∀ L st σ2, E t L st σ2 = some (res, σf) → Go p l e R s m args below meth c D mi z0 y0 res σf t L st σ2) {n : Nat} (hok : okI mi pc nx pos (.aload n) = true) (h : step1 C X E pc (.aload n) L st σ k = some (res, σf)) : Go p l e R s m args below meth c D mi z0 y0 res σf pc L st σ := by
  have hx := hF.1
  have hb := hF.2.1
  simp only [okI, nxIs, Bool.and_eq_true, decide_eq_true_eq] at hok
  simp only [step1] at h
  intro H locs cells slots ls r1 r2 r3 r4 r5
  have hd : ∃ q, nx = some q ∧ ((decode (bsOf mi) pc = .ok (.aload n, 2) ∧ q = pc + 2) ∨ ∃ j : Fin 4, decode (bsOf mi) pc = .ok (.aload_n j, 1) ∧ (j : Nat) = n ∧ q = pc + 1) := by
    split at hok
    · rename_i hd
      simp only [Bool.and_eq_true, decide_eq_true_eq] at hok
      obtain ⟨rfl, hn⟩ := hok
      exact ⟨_, hn, Or.inl ⟨hd, rfl⟩⟩
    · rename_i hd
      simp only [Bool.and_eq_true, decide_eq_true_eq] at hok
      exact ⟨_, hok.2, Or.inr ⟨_, hd, hok.1, rfl⟩⟩
    · cases hok
  obtain ⟨q, hn, hd⟩ := hd
  split at h
  · rename_i hv
    exact sa_push hx hb hd (tr_ref hW.2.2.2.2.1 _) (lR_get r2 hv) (hk _ hn _ _ _ h H locs cells slots ls r1 r2 r3 r4 r5)
  · rename_i hv
    exact sa_push hx hb hd (Or.inl rfl) (lR_get r2 hv) (hk _ hn _ _ _ h H locs cells slots ls r1 r2 r3 r4 r5)
  · cases h

theorem sa_istore (hW : Wld l D) (hF : Frm p R s m meth c D mi d) (hk : ∀ q, nx = some q → ∀ L st σ2, k L st σ2 = some (res, σf) → Go p l e R s m args below meth c D mi z0 y0 res σf q L st σ2) (hE : ∀ t, t < 100000 → ∀ L st σ2, E t L st σ2 = some (res, σf) → Go p l e R s m args below meth c D mi z0 y0 res σf t L st σ2) {n : Nat} (hok : okI mi pc nx pos (.istore n) = true) (h : step1 C X E pc (.istore n) L st σ k = some (res, σf)) : Go p l e R s m args below meth c D mi z0 y0 res σf pc L st σ := by
  have hx := hF.1
  have hb := hF.2.1
  simp only [okI, nxIs, Bool.and_eq_true, decide_eq_true_eq] at hok
  simp only [step1] at h
  intro H locs cells slots ls r1 r2 r3 r4 r5
  split at h
  · split at h
    · rename_i hs
      have hl := stL_len hs
      have hlt : n < mxOf mi := Nat.lt_of_lt_of_le hl.1 r2.1
      split at hok
      · rename_i hd
        simp only [Bool.and_eq_true, decide_eq_true_eq] at hok
        obtain ⟨rfl, hn⟩ := hok
        exact lv_istore hx hb hd r2.2 hlt rfl (fun ls' hl' => hk _ hn _ _ _ h H locs cells slots ls' r1 (lR_st hW.2.2.2.2.1 r2 hs hl') r3 r4 r5)
      · rename_i hd
        simp only [Bool.and_eq_true, decide_eq_true_eq] at hok
        exact lv_istore_n hx hb hd hok.1 r2.2 hlt rfl (fun ls' hl' => hk _ hok.2 _ _ _ h H locs cells slots ls' r1 (lR_st hW.2.2.2.2.1 r2 hs hl') r3 r4 r5)
      · cases hok
    · cases h
  · cases h

theorem sa_sto {cc : ByteArray} {n q nL : Nat} {H : Heap} {locs : List Loc} {cells slots : Nat} {ls : Array Slot} {Q : State → Prop} {rest : List Value} {w : Value} {lv : List (Nat × Value)} (hx : p.tables.exec = Jvm.exec) (hb : c.code = cc)
    (hd : (decode cc pc = .ok (.astore n, 2) ∧ q = pc + 2) ∨ ∃ j : Fin 4, decode cc pc = .ok (.astore_n j, 1) ∧ (j : Nat) = n ∧ q = pc + 1) (hw : w = .null ∨ ∃ a, w = .ref a) (hl : lv_has ls nL lv) (hn : n < nL)
    (kk : ∀ ls' : Array Slot, lv_has ls' nL ((n, w) :: lv.filter (fun q => !(q.1 == n) && !(q.1 + 1 == n && q.2.category == 2))) → W p l e R s m args below meth c H locs cells slots Q (F0 m q ls' rest)) : W p l e R s m args below meth c H locs cells slots Q (F0 m pc ls (w :: rest)) := by
  rcases hw with rfl | ⟨a, rfl⟩ <;> rcases hd with ⟨h1, rfl⟩ | ⟨j, h1, h2, rfl⟩
  · exact lv_astoreN hx hb h1 hl hn rfl kk
  · exact lv_astore_nN hx hb h1 h2 hl hn rfl kk
  · exact lv_astore hx hb h1 hl hn rfl kk
  · exact lv_astore_n hx hb h1 h2 hl hn rfl kk

theorem sa_astore (hW : Wld l D) (hF : Frm p R s m meth c D mi d) (hk : ∀ q, nx = some q → ∀ L st σ2, k L st σ2 = some (res, σf) → Go p l e R s m args below meth c D mi z0 y0 res σf q L st σ2) (hE : ∀ t, t < 100000 → ∀ L st σ2, E t L st σ2 = some (res, σf) → Go p l e R s m args below meth c D mi z0 y0 res σf t L st σ2) {n : Nat} (hok : okI mi pc nx pos (.astore n) = true) (h : step1 C X E pc (.astore n) L st σ k = some (res, σf)) : Go p l e R s m args below meth c D mi z0 y0 res σf pc L st σ := by
  have hx := hF.1
  have hb := hF.2.1
  simp only [okI, nxIs, Bool.and_eq_true, decide_eq_true_eq] at hok
  simp only [step1] at h
  intro H locs cells slots ls r1 r2 r3 r4 r5
  have hd : ∃ q, nx = some q ∧ ((decode (bsOf mi) pc = .ok (.astore n, 2) ∧ q = pc + 2) ∨ ∃ j : Fin 4, decode (bsOf mi) pc = .ok (.astore_n j, 1) ∧ (j : Nat) = n ∧ q = pc + 1) := by
    split at hok
    · rename_i hd
      simp only [Bool.and_eq_true, decide_eq_true_eq] at hok
      obtain ⟨rfl, hn⟩ := hok
      exact ⟨_, hn, Or.inl ⟨hd, rfl⟩⟩
    · rename_i hd
      simp only [Bool.and_eq_true, decide_eq_true_eq] at hok
      exact ⟨_, hok.2, Or.inr ⟨_, hd, hok.1, rfl⟩⟩
    · cases hok
  obtain ⟨q, hn, hd⟩ := hd
  split at h
  · split at h
    · rename_i hs
      have hl := stL_len hs
      exact sa_sto hx hb hd (tr_ref hW.2.2.2.2.1 _) r2.2 (Nat.lt_of_lt_of_le hl.1 r2.1) (fun ls' hl' => hk _ hn _ _ _ h H locs cells slots ls' r1 (lR_st hW.2.2.2.2.1 r2 hs hl') r3 r4 r5)
    · cases h
  · split at h
    · rename_i hs
      have hl := stL_len hs
      exact sa_sto hx hb hd (Or.inl rfl) r2.2 (Nat.lt_of_lt_of_le hl.1 r2.1) (fun ls' hl' => hk _ hn _ _ _ h H locs cells slots ls' r1 (lR_st hW.2.2.2.2.1 r2 hs hl') r3 r4 r5)
    · cases h
  · cases h

theorem sa_iinc (hW : Wld l D) (hF : Frm p R s m meth c D mi d) (hk : ∀ q, nx = some q → ∀ L st σ2, k L st σ2 = some (res, σf) → Go p l e R s m args below meth c D mi z0 y0 res σf q L st σ2) (hE : ∀ t, t < 100000 → ∀ L st σ2, E t L st σ2 = some (res, σf) → Go p l e R s m args below meth c D mi z0 y0 res σf t L st σ2) {n : Nat} {j : Int} (hok : okI mi pc nx pos (.iinc n j) = true) (h : step1 C X E pc (.iinc n j) L st σ k = some (res, σf)) : Go p l e R s m args below meth c D mi z0 y0 res σf pc L st σ := by
  have hx := hF.1
  have hb := hF.2.1
  simp only [okI, nxIs, Bool.and_eq_true, decide_eq_true_eq] at hok
  simp only [step1] at h
  intro H locs cells slots ls r1 r2 r3 r4 r5
  split at h
  · rename_i hv
    split at h
    · rename_i hs
      have hl := stL_len hs
      obtain ⟨q, hq⟩ := List.getElem?_of_mem (prs_mem (D := D) (L := L) (q := (n, _)).mpr ⟨_, hv, rfl⟩)
      exact lv_iinc hx hb hok.1 r2.2 hq rfl (Nat.lt_of_lt_of_le hl.1 r2.1) rfl (fun ls' hl' => hk _ hok.2 _ _ _ h H locs cells slots ls' r1 (lR_st hW.2.2.2.2.1 r2 hs hl') r3 r4 r5)
    · cases h
  · cases h

theorem lR_st2 {ls ls' : Array Slot} {n i : Nat} {L L' : SL} {x : Int64} (h : lR D ls n L) (hs : stL2 L i (.long x) = some L') (hfm : D.2.2.2.1 = .null ∨ ∃ q, D.2.2.2.1 = .ref q)
    (hl : lv_has ls' n ((i, Value.long x) :: (prs D L).filter (fun q => !(q.1 == i) && (!(q.1 == i + 1) && !(q.1 + 1 == i && q.2.category == 2))))) : i + 1 < n ∧ lR D ls' n L' := by
  unfold stL2 at hs
  split at hs
  · rename_i hi
    have hc : L' = (L.set i (some (.long x))).set (i + 1) none ∧ (i = 0 ∨ ok1 L[i - 1]? = true) := by
      split at hs
      · rename_i h0
        cases hs
        exact ⟨rfl, Or.inl h0⟩
      · split at hs
        · rename_i h1
          cases hs
          exact ⟨rfl, Or.inr h1⟩
        · cases hs
    obtain ⟨rfl, ho⟩ := hc
    refine ⟨Nat.lt_of_lt_of_le hi h.1, lR_of (by rw [List.length_set, List.length_set]; exact h.1) hl fun j w hj => ?_⟩
    by_cases e1 : j = i + 1
    · subst e1
      rw [List.getElem?_set_self (by rw [List.length_set]; exact hi)] at hj
      cases hj
    · rw [List.getElem?_set_ne (fun q => e1 q.symm)] at hj
      by_cases e : j = i
      · subst e
        rw [List.getElem?_set_self (by omega)] at hj
        cases hj
        exact List.mem_cons_self
      · rw [List.getElem?_set_ne (fun q => e q.symm)] at hj
        refine List.mem_cons_of_mem _ (List.mem_filter.mpr ⟨prs_mem.mpr ⟨w, hj, rfl⟩, ?_⟩)
        simp only [Bool.and_eq_true, Bool.not_eq_true', beq_eq_false_iff_ne, ne_eq, Bool.and_eq_false_iff]
        refine ⟨e, e1, ?_⟩
        by_cases e2 : j + 1 = i
        · refine Or.inr ?_
          rcases ho with h0 | h1
          · omega
          · have : i - 1 = j := by omega
            rw [this, hj] at h1
            exact ok1_tr hfm h1
        · exact Or.inl e2
  · cases hs
theorem stL2_lt {L L' : SL} {i : Nat} {v : Value} (hs : stL2 L i v = some L') : i + 1 < L.length := by
  unfold stL2 at hs
  split at hs
  · assumption
  · cases hs

theorem sa_lstore (hW : Wld l D) (hF : Frm p R s m meth c D mi d) (hk : ∀ q, nx = some q → ∀ L st σ2, k L st σ2 = some (res, σf) → Go p l e R s m args below meth c D mi z0 y0 res σf q L st σ2) (hE : ∀ t, t < 100000 → ∀ L st σ2, E t L st σ2 = some (res, σf) → Go p l e R s m args below meth c D mi z0 y0 res σf t L st σ2) {n : Nat} (hok : okI mi pc nx pos (.lstore n) = true) (h : step1 C X E pc (.lstore n) L st σ k = some (res, σf)) : Go p l e R s m args below meth c D mi z0 y0 res σf pc L st σ := by
  have hx := hF.1
  have hb := hF.2.1
  simp only [okI, nxIs, Bool.and_eq_true, decide_eq_true_eq] at hok
  simp only [step1] at h
  intro H locs cells slots ls r1 r2 r3 r4 r5
  split at h
  · split at h
    · rename_i hs
      have hlt : n + 1 < mxOf mi := Nat.lt_of_lt_of_le (stL2_lt hs) r2.1
      split at hok
      · rename_i hd
        simp only [Bool.and_eq_true, decide_eq_true_eq] at hok
        obtain ⟨rfl, hn⟩ := hok
        exact lv_lstore hx hb hd r2.2 hlt rfl (fun ls' hl' => hk _ hn _ _ _ h H locs cells slots ls' r1 (lR_st2 r2 hs hW.2.2.2.2.1 hl').2 r3 r4 r5)
      · rename_i hd
        simp only [Bool.and_eq_true, decide_eq_true_eq] at hok
        exact lv_lstore_n hx hb hd hok.1 r2.2 hlt rfl (fun ls' hl' => hk _ hok.2 _ _ _ h H locs cells slots ls' r1 (lR_st2 r2 hs hW.2.2.2.2.1 hl').2 r3 r4 r5)
      · cases hok
    · cases h
  · cases h

theorem sa_goto (hW : Wld l D) (hF : Frm p R s m meth c D mi d) (hk : ∀ q, nx = some q → ∀ L st σ2, k L st σ2 = some (res, σf) → Go p l e R s m args below meth c D mi z0 y0 res σf q L st σ2) (hE : ∀ t, t < 100000 → ∀ L st σ2, E t L st σ2 = some (res, σf) → Go p l e R s m args below meth c D mi z0 y0 res σf t L st σ2) {t : Int} (hok : okI mi pc nx pos (.goto t) = true) (h : step1 C X E pc (.goto t) L st σ k = some (res, σf)) : Go p l e R s m args below meth c D mi z0 y0 res σf pc L st σ := by
  have hx := hF.1
  have hb := hF.2.1
  simp only [okI, nxIs, Bool.and_eq_true, decide_eq_true_eq] at hok
  simp only [step1] at h
  intro H locs cells slots ls r1 r2 r3 r4 r5
  split at hok
  · rename_i hd
    simp only [Bool.and_eq_true, decide_eq_true_eq] at hok
    exact lv_goto hx hb hd hok.1 (hE _ hok.2 _ _ _ h H locs cells slots ls r1 r2 r3 r4 r5)
  · cases hok

theorem sa_goto_w (hW : Wld l D) (hF : Frm p R s m meth c D mi d) (hk : ∀ q, nx = some q → ∀ L st σ2, k L st σ2 = some (res, σf) → Go p l e R s m args below meth c D mi z0 y0 res σf q L st σ2) (hE : ∀ t, t < 100000 → ∀ L st σ2, E t L st σ2 = some (res, σf) → Go p l e R s m args below meth c D mi z0 y0 res σf t L st σ2) {t : Int} (hpc : pc < 100000) (hok : okI mi pc nx pos (.goto_w t) = true) (h : step1 C X E pc (.goto_w t) L st σ k = some (res, σf)) : Go p l e R s m args below meth c D mi z0 y0 res σf pc L st σ := by
  have hx := hF.1
  have hb := hF.2.1
  simp only [okI, nxIs, Bool.and_eq_true, decide_eq_true_eq] at hok
  simp only [step1] at h
  intro H locs cells slots ls r1 r2 r3 r4 r5
  rw [hok] at h
  exact hE _ hpc _ _ _ h H locs cells slots ls r1 r2 r3 r4 r5

theorem sa_jsr (hW : Wld l D) (hF : Frm p R s m meth c D mi d) (hk : ∀ q, nx = some q → ∀ L st σ2, k L st σ2 = some (res, σf) → Go p l e R s m args below meth c D mi z0 y0 res σf q L st σ2) (hE : ∀ t, t < 100000 → ∀ L st σ2, E t L st σ2 = some (res, σf) → Go p l e R s m args below meth c D mi z0 y0 res σf t L st σ2) {t : Int} (hok : okI mi pc nx pos (.jsr t) = true) (h : step1 C X E pc (.jsr t) L st σ k = some (res, σf)) : Go p l e R s m args below meth c D mi z0 y0 res σf pc L st σ := by
  have hx := hF.1
  have hb := hF.2.1
  simp only [okI, nxIs, Bool.and_eq_true, decide_eq_true_eq] at hok
  simp only [step1] at h
  intro H locs cells slots ls r1 r2 r3 r4 r5
  exact hk _ hok _ _ _ h H locs cells slots ls r1 (lR_kil r2) r3 r4 r5

theorem sa_ret (hW : Wld l D) (hF : Frm p R s m meth c D mi d) (hk : ∀ q, nx = some q → ∀ L st σ2, k L st σ2 = some (res, σf) → Go p l e R s m args below meth c D mi z0 y0 res σf q L st σ2) (hE : ∀ t, t < 100000 → ∀ L st σ2, E t L st σ2 = some (res, σf) → Go p l e R s m args below meth c D mi z0 y0 res σf t L st σ2) {t : Nat} (hok : okI mi pc nx pos (.ret t) = true) (h : step1 C X E pc (.ret t) L st σ k = some (res, σf)) : Go p l e R s m args below meth c D mi z0 y0 res σf pc L st σ := by
  have hx := hF.1
  have hb := hF.2.1
  simp only [okI, nxIs, Bool.and_eq_true, decide_eq_true_eq] at hok
  simp only [step1] at h
  intro H locs cells slots ls r1 r2 r3 r4 r5
  cases h

theorem sa_if_icmp (hW : Wld l D) (hF : Frm p R s m meth c D mi d) (hk : ∀ q, nx = some q → ∀ L st σ2, k L st σ2 = some (res, σf) → Go p l e R s m args below meth c D mi z0 y0 res σf q L st σ2) (hE : ∀ t, t < 100000 → ∀ L st σ2, E t L st σ2 = some (res, σf) → Go p l e R s m args below meth c D mi z0 y0 res σf t L st σ2) {cd : ClassFile.Cond} {t : Int} (hok : okI mi pc nx pos (.if_icmp cd t) = true) (h : step1 C X E pc (.if_icmp cd t) L st σ k = some (res, σf)) : Go p l e R s m args below meth c D mi z0 y0 res σf pc L st σ := by
  have hx := hF.1
  have hb := hF.2.1
  simp only [okI, nxIs, Bool.and_eq_true, decide_eq_true_eq] at hok
  simp only [step1] at h
  intro H locs cells slots ls r1 r2 r3 r4 r5
  split at hok
  · rename_i c2 o2 hd
    simp only [Bool.and_eq_true, decide_eq_true_eq] at hok
    obtain ⟨⟨⟨hcc, ht⟩, hl⟩, hn⟩ := hok
    subst hcc
    split at h
    · cases c2
      · exact lv_icmp_eq hx hb hd ht (fun q => hE _ hl _ _ _ (by rw [show cnd .eq _ _ _ _ = _ from if_pos q] at h; exact h) H locs cells slots ls r1 r2 r3 r4 r5) (fun q => hk _ hn _ _ _ (by rw [show cnd .eq _ _ _ _ = _ from if_neg q] at h; exact h) H locs cells slots ls r1 r2 r3 r4 r5)
      · exact lv_icmp_ne hx hb hd ht (fun q => hE _ hl _ _ _ (by rw [show cnd .ne _ _ _ _ = _ from if_neg q] at h; exact h) H locs cells slots ls r1 r2 r3 r4 r5) (fun q => hk _ hn _ _ _ (by rw [show cnd .ne _ _ _ _ = _ from if_pos q] at h; exact h) H locs cells slots ls r1 r2 r3 r4 r5)
      · exact lv_icmp_lt hx hb hd ht (fun q => hE _ hl _ _ _ (by rw [show cnd .lt _ _ _ _ = _ from if_pos q] at h; exact h) H locs cells slots ls r1 r2 r3 r4 r5) (fun q => hk _ hn _ _ _ (by rw [show cnd .lt _ _ _ _ = _ from if_neg q] at h; exact h) H locs cells slots ls r1 r2 r3 r4 r5)
      · exact lv_icmp_ge hx hb hd ht (fun q => hE _ hl _ _ _ (by rw [show cnd .ge _ _ _ _ = _ from if_neg (Int32.not_lt.mpr q)] at h; exact h) H locs cells slots ls r1 r2 r3 r4 r5) (fun q => hk _ hn _ _ _ (by rw [show cnd .ge _ _ _ _ = _ from if_pos (Int32.not_le.mp q)] at h; exact h) H locs cells slots ls r1 r2 r3 r4 r5)
      · exact lv_icmp_gt hx hb hd ht (fun q => hE _ hl _ _ _ (by rw [show cnd .gt _ _ _ _ = _ from if_pos q] at h; exact h) H locs cells slots ls r1 r2 r3 r4 r5) (fun q => hk _ hn _ _ _ (by rw [show cnd .gt _ _ _ _ = _ from if_neg q] at h; exact h) H locs cells slots ls r1 r2 r3 r4 r5)
      · exact lv_icmp_le hx hb hd ht (fun q => hE _ hl _ _ _ (by rw [show cnd .le _ _ _ _ = _ from if_neg (Int32.not_lt.mpr q)] at h; exact h) H locs cells slots ls r1 r2 r3 r4 r5) (fun q => hk _ hn _ _ _ (by rw [show cnd .le _ _ _ _ = _ from if_pos (Int32.not_le.mp q)] at h; exact h) H locs cells slots ls r1 r2 r3 r4 r5)
    · cases h
  · cases hok

theorem sa_ifCond (hW : Wld l D) (hF : Frm p R s m meth c D mi d) (hk : ∀ q, nx = some q → ∀ L st σ2, k L st σ2 = some (res, σf) → Go p l e R s m args below meth c D mi z0 y0 res σf q L st σ2) (hE : ∀ t, t < 100000 → ∀ L st σ2, E t L st σ2 = some (res, σf) → Go p l e R s m args below meth c D mi z0 y0 res σf t L st σ2) {cd : ClassFile.Cond} {t : Int} (hok : okI mi pc nx pos (.ifCond cd t) = true) (h : step1 C X E pc (.ifCond cd t) L st σ k = some (res, σf)) : Go p l e R s m args below meth c D mi z0 y0 res σf pc L st σ := by
  have hx := hF.1
  have hb := hF.2.1
  simp only [okI, nxIs, Bool.and_eq_true, decide_eq_true_eq] at hok
  simp only [step1] at h
  intro H locs cells slots ls r1 r2 r3 r4 r5
  split at hok
  · rename_i c2 o2 hd
    simp only [Bool.and_eq_true, decide_eq_true_eq] at hok
    obtain ⟨⟨⟨hcc, ht⟩, hl⟩, hn⟩ := hok
    subst hcc
    split at h
    · cases c2
      · exact lv_if_eq hx hb hd ht (fun q => hE _ hl _ _ _ (by rw [show cnd .eq _ _ _ _ = _ from if_pos q] at h; exact h) H locs cells slots ls r1 r2 r3 r4 r5) (fun q => hk _ hn _ _ _ (by rw [show cnd .eq _ _ _ _ = _ from if_neg q] at h; exact h) H locs cells slots ls r1 r2 r3 r4 r5)
      · exact lv_if_ne hx hb hd ht (fun q => hE _ hl _ _ _ (by rw [show cnd .ne _ _ _ _ = _ from if_neg q] at h; exact h) H locs cells slots ls r1 r2 r3 r4 r5) (fun q => hk _ hn _ _ _ (by rw [show cnd .ne _ _ _ _ = _ from if_pos q] at h; exact h) H locs cells slots ls r1 r2 r3 r4 r5)
      · exact lv_if_lt hx hb hd ht (fun q => hE _ hl _ _ _ (by rw [show cnd .lt _ _ _ _ = _ from if_pos q] at h; exact h) H locs cells slots ls r1 r2 r3 r4 r5) (fun q => hk _ hn _ _ _ (by rw [show cnd .lt _ _ _ _ = _ from if_neg q] at h; exact h) H locs cells slots ls r1 r2 r3 r4 r5)
      · exact lv_if_ge hx hb hd ht (fun q => hE _ hl _ _ _ (by rw [show cnd .ge _ _ _ _ = _ from if_neg (Int32.not_lt.mpr q)] at h; exact h) H locs cells slots ls r1 r2 r3 r4 r5) (fun q => hk _ hn _ _ _ (by rw [show cnd .ge _ _ _ _ = _ from if_pos (Int32.not_le.mp q)] at h; exact h) H locs cells slots ls r1 r2 r3 r4 r5)
      · exact lv_if_gt hx hb hd ht (fun q => hE _ hl _ _ _ (by rw [show cnd .gt _ _ _ _ = _ from if_pos q] at h; exact h) H locs cells slots ls r1 r2 r3 r4 r5) (fun q => hk _ hn _ _ _ (by rw [show cnd .gt _ _ _ _ = _ from if_neg q] at h; exact h) H locs cells slots ls r1 r2 r3 r4 r5)
      · exact lv_if_le hx hb hd ht (fun q => hE _ hl _ _ _ (by rw [show cnd .le _ _ _ _ = _ from if_neg (Int32.not_lt.mpr q)] at h; exact h) H locs cells slots ls r1 r2 r3 r4 r5) (fun q => hk _ hn _ _ _ (by rw [show cnd .le _ _ _ _ = _ from if_pos (Int32.not_le.mp q)] at h; exact h) H locs cells slots ls r1 r2 r3 r4 r5)
    · cases h
  · cases hok

theorem sa_if_acmp (hW : Wld l D) (hF : Frm p R s m meth c D mi d) (hk : ∀ q, nx = some q → ∀ L st σ2, k L st σ2 = some (res, σf) → Go p l e R s m args below meth c D mi z0 y0 res σf q L st σ2) (hE : ∀ t, t < 100000 → ∀ L st σ2, E t L st σ2 = some (res, σf) → Go p l e R s m args below meth c D mi z0 y0 res σf t L st σ2) {cd : ACond} {t : Int} (hok : okI mi pc nx pos (.if_acmp cd t) = true) (h : step1 C X E pc (.if_acmp cd t) L st σ k = some (res, σf)) : Go p l e R s m args below meth c D mi z0 y0 res σf pc L st σ := by
  have hx := hF.1
  have hb := hF.2.1
  simp only [okI, nxIs, Bool.and_eq_true, decide_eq_true_eq] at hok
  simp only [step1] at h
  intro H locs cells slots ls r1 r2 r3 r4 r5
  split at hok
  · rename_i c2 o2 hd
    simp only [Bool.and_eq_true, decide_eq_true_eq] at hok
    obtain ⟨⟨⟨hcc, ht⟩, hl⟩, hn⟩ := hok
    subst hcc
    split at h
    · rename_i y x st'
      split at h
      · rename_i hxy
        have ex : tr D (.ref x) = va_rf (some (D.2.2.1 x)) := tr_at (fun q => absurd hxy.1 (by rw [q]; decide))
        have ey : tr D (.ref y) = va_rf (some (D.2.2.1 y)) := tr_at (fun q => absurd hxy.2 (by rw [q]; decide))
        have hi : some (D.2.2.1 x) = some (D.2.2.1 y) → x = y := fun q => hW.2.2.2.2.2.2.1 x y hxy.1 hxy.2 (Option.some.inj q)
        rw [List.map_cons, List.map_cons, ex, ey]
        cases c2
        · exact lv_acmp_eq hx hb hd ht (fun q => hE _ hl _ _ _ (by dsimp only at h; rw [if_pos (hi q)] at h; exact h) H locs cells slots ls r1 r2 r3 r4 r5) (fun q => hk _ hn _ _ _ (by dsimp only at h; rw [if_neg (fun z => q (by rw [z]))] at h; exact h) H locs cells slots ls r1 r2 r3 r4 r5)
        · exact lv_acmp_ne hx hb hd ht (fun q => hE _ hl _ _ _ (by dsimp only at h; rw [if_neg (fun z => q (by rw [z]))] at h; exact h) H locs cells slots ls r1 r2 r3 r4 r5) (fun q => hk _ hn _ _ _ (by dsimp only at h; rw [if_pos (hi q)] at h; exact h) H locs cells slots ls r1 r2 r3 r4 r5)
      · cases h
    · cases h
  · cases hok

theorem sa_ifnull (hW : Wld l D) (hF : Frm p R s m meth c D mi d) (hk : ∀ q, nx = some q → ∀ L st σ2, k L st σ2 = some (res, σf) → Go p l e R s m args below meth c D mi z0 y0 res σf q L st σ2) (hE : ∀ t, t < 100000 → ∀ L st σ2, E t L st σ2 = some (res, σf) → Go p l e R s m args below meth c D mi z0 y0 res σf t L st σ2) {t : Int} (hok : okI mi pc nx pos (.ifnull t) = true) (h : step1 C X E pc (.ifnull t) L st σ k = some (res, σf)) : Go p l e R s m args below meth c D mi z0 y0 res σf pc L st σ := by
  have hx := hF.1
  have hb := hF.2.1
  simp only [okI, nxIs, Bool.and_eq_true, decide_eq_true_eq] at hok
  simp only [step1] at h
  intro H locs cells slots ls r1 r2 r3 r4 r5
  split at hok
  · rename_i hd
    simp only [Bool.and_eq_true, decide_eq_true_eq] at hok
    obtain ⟨⟨ht, hl⟩, hn⟩ := hok
    split at h
    · exact lv_ifnullN hx hb hd ht (hE _ hl _ _ _ h H locs cells slots ls r1 r2 r3 r4 r5)
    · split at h
      · cases h
      · rename_i ha
        rw [List.map_cons, tr_at ha]
        exact lv_ifnull hx hb hd (hk _ hn _ _ _ h H locs cells slots ls r1 r2 r3 r4 r5)
    · cases h
  · cases hok

theorem sa_ifnonnull (hW : Wld l D) (hF : Frm p R s m meth c D mi d) (hk : ∀ q, nx = some q → ∀ L st σ2, k L st σ2 = some (res, σf) → Go p l e R s m args below meth c D mi z0 y0 res σf q L st σ2) (hE : ∀ t, t < 100000 → ∀ L st σ2, E t L st σ2 = some (res, σf) → Go p l e R s m args below meth c D mi z0 y0 res σf t L st σ2) {t : Int} (hok : okI mi pc nx pos (.ifnonnull t) = true) (h : step1 C X E pc (.ifnonnull t) L st σ k = some (res, σf)) : Go p l e R s m args below meth c D mi z0 y0 res σf pc L st σ := by
  have hx := hF.1
  have hb := hF.2.1
  simp only [okI, nxIs, Bool.and_eq_true, decide_eq_true_eq] at hok
  simp only [step1] at h
  intro H locs cells slots ls r1 r2 r3 r4 r5
  split at hok
  · rename_i hd
    simp only [Bool.and_eq_true, decide_eq_true_eq] at hok
    obtain ⟨⟨ht, hl⟩, hn⟩ := hok
    split at h
    · exact lv_ifnonnullN hx hb hd (hk _ hn _ _ _ h H locs cells slots ls r1 r2 r3 r4 r5)
    · split at h
      · cases h
      · rename_i ha
        rw [List.map_cons, tr_at ha]
        exact lv_ifnonnull hx hb hd ht (hE _ hl _ _ _ h H locs cells slots ls r1 r2 r3 r4 r5)
    · cases h
  · cases hok

end SA
