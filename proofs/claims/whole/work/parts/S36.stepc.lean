section SB2
variable {p : Program} {l : Launch} {e : Env} {R : Room} {s : State} {m : MethodId} {args : Array Value} {below : List Frame} {meth : Method} {c : Code} {D : SD} {mi d z0 y0 : Nat} {res : Option Value ⊕ Nat} {σf : SH}
variable {C : Nat → List Value → SH → SR} {X : Nat → Nat → Option Int32} {E : Nat → SL → List Value → SH → SR} {pc pos : Nat} {nx : Option Nat} {L : SL} {st : List Value} {σ : SH} {k : SL → List Value → SH → SR}

theorem okC_int {H : Heap} {a : Nat} (ht : sT σ a = 1) (h : okInt D σ H a) : okC D σ H a := ⟨fun _ => h, fun q => by omega, fun q => by omega, fun c q => by omega, fun c q => by omega⟩
theorem okC_byt {H : Heap} {a : Nat} (ht : sT σ a = 2) (h : okByt D σ H a) : okC D σ H a := ⟨fun q => by omega, fun _ => h, fun q => by omega, fun c q => by omega, fun c q => by omega⟩
theorem okC_lng {H : Heap} {a : Nat} (ht : sT σ a = 3) (h : okLng D σ H a) : okC D σ H a := ⟨fun q => by omega, fun q => by omega, fun _ => h, fun c q => by omega, fun c q => by omega⟩
theorem okC_row {H : Heap} {a n : Nat} (ht : sT σ a = 10 + n) (hn : n < 90) (h : okRow D σ H a n) : okC D σ H a := by
  refine ⟨fun q => by omega, fun q => by omega, fun q => by omega, fun c q => ?_, fun c q => by omega⟩
  have : c = n := by omega
  subst this
  exact h
theorem okC_obj {H : Heap} {a n : Nat} (ht : sT σ a = 100 + n) (h : okObj D σ H a n) : okC D σ H a := by
  refine ⟨fun q => by omega, fun q => by omega, fun q => by omega, fun c q => by omega, fun c q _ => ?_⟩
  have : c = n := by omega
  subst this
  exact h
theorem set_get {cell : Cell} {i j : Nat} {v w : Value} (hi : i < cell.slots.size) (h : j ≠ i → cell.slots[j]? = some w) (h2 : j = i → v = w) : (cell.setSlot i v).slots[j]? = some w := by
  show (cell.slots.setIfInBounds i v)[j]? = some w
  by_cases e : j = i
  · subst e
    rw [Array.getElem?_setIfInBounds_self_of_lt hi, h2 rfl]
  · rw [Array.getElem?_setIfInBounds_ne (fun q => e q.symm)]; exact h e
theorem set_size {cell : Cell} {i : Nat} {v : Value} : (cell.setSlot i v).slots.size = cell.slots.size := by
  show (cell.slots.setIfInBounds i v).size = _
  simp
theorem locs_add {locs : List Loc} {a i : Nat} (hW : Wld l D) (ha : 200 ≤ a) (h : ∀ z ∈ locs, D.1.heap.size ≤ z.base) : ∀ z ∈ locs ++ [⟨D.2.2.1 a, i⟩], D.1.heap.size ≤ z.base := by
  intro z hz
  rcases List.mem_append.mp hz with q | q
  · exact h z q
  · rw [List.mem_singleton.mp q]
    show D.1.heap.size ≤ D.2.2.1 a
    rw [hW.2.2.1 a ha]
    exact Nat.le_add_right _ _

theorem sb_iaload (hW : Wld l D) (hF : Frm p R s m meth c D mi d) (hk : ∀ q, nx = some q → ∀ L st σ2, k L st σ2 = some (res, σf) → Go p l e R s m args below meth c D mi z0 y0 res σf q L st σ2) (hok : okI mi pc nx pos (.iaload) = true) (h : step1 C X E pc (.iaload) L st σ k = some (res, σf)) : Go p l e R s m args below meth c D mi z0 y0 res σf pc L st σ := by
  have hx := hF.1
  have hb := hF.2.1
  have hal := hF.2.2.2.2.2.2.2.2.1.alike
  simp only [okI, nxIs, Bool.and_eq_true, decide_eq_true_eq] at hok
  simp only [step1] at h
  intro H locs cells slots ls r1 r2 r3 r4 r5
  split at h
  · rename_i i v st'
    obtain ⟨a, rfl, h⟩ := aRef_some h
    obtain ⟨⟨ht, hin⟩, h⟩ := ite_some h
    have hin := bin_of hin
    obtain ⟨cell, q1, q2, q3, q4, q5⟩ := (r1.2.2.2.2.2.2 a).1 (Or.inl ht)
    rw [List.map_cons, List.map_cons, tr_at (rep_39 r1 (by omega))]
    exact W.iald hx hb q1 (State.isArrayOf_alike hal q2) q3 (by rw [q4]; exact hin) (q5 _ (by omega)) rfl rfl hok.1 (hk _ hok.2 _ _ _ h H locs cells slots ls r1 r2 r3 r4 r5)
  · cases h

theorem sb_caload (hW : Wld l D) (hF : Frm p R s m meth c D mi d) (hk : ∀ q, nx = some q → ∀ L st σ2, k L st σ2 = some (res, σf) → Go p l e R s m args below meth c D mi z0 y0 res σf q L st σ2) (hok : okI mi pc nx pos (.caload) = true) (h : step1 C X E pc (.caload) L st σ k = some (res, σf)) : Go p l e R s m args below meth c D mi z0 y0 res σf pc L st σ := by
  have hx := hF.1
  have hb := hF.2.1
  have hal := hF.2.2.2.2.2.2.2.2.1.alike
  simp only [okI, nxIs, Bool.and_eq_true, decide_eq_true_eq] at hok
  simp only [step1] at h
  intro H locs cells slots ls r1 r2 r3 r4 r5
  split at h
  · rename_i i v st'
    obtain ⟨a, rfl, h⟩ := aRef_some h
    obtain ⟨⟨ht, hin⟩, h⟩ := ite_some h
    have hin := bin_of hin
    obtain ⟨cell, q1, q2, q3, q4, q5⟩ := (r1.2.2.2.2.2.2 a).1 (Or.inr ht)
    rw [List.map_cons, List.map_cons, tr_at (rep_39 r1 (by omega))]
    exact W.iald hx hb q1 (State.isArrayOf_alike hal q2) q3 (by rw [q4]; exact hin) (q5 _ (by omega)) rfl rfl hok.1 (hk _ hok.2 _ _ _ h H locs cells slots ls r1 r2 r3 r4 r5)
  · cases h

theorem sb_baload (hW : Wld l D) (hF : Frm p R s m meth c D mi d) (hk : ∀ q, nx = some q → ∀ L st σ2, k L st σ2 = some (res, σf) → Go p l e R s m args below meth c D mi z0 y0 res σf q L st σ2) (hok : okI mi pc nx pos (.baload) = true) (h : step1 C X E pc (.baload) L st σ k = some (res, σf)) : Go p l e R s m args below meth c D mi z0 y0 res σf pc L st σ := by
  have hx := hF.1
  have hb := hF.2.1
  have hal := hF.2.2.2.2.2.2.2.2.1.alike
  simp only [okI, nxIs, Bool.and_eq_true, decide_eq_true_eq] at hok
  simp only [step1] at h
  intro H locs cells slots ls r1 r2 r3 r4 r5
  split at h
  · rename_i i v st'
    obtain ⟨a, rfl, h⟩ := aRef_some h
    obtain ⟨⟨ht, hin⟩, h⟩ := ite_some h
    have hin := bin_of hin
    obtain ⟨cell, q1, q2, q3, q4, q5⟩ := (r1.2.2.2.2.2.2 a).2.1 (Or.inl ht)
    rw [List.map_cons, List.map_cons, tr_at (rep_39 r1 (by omega))]
    exact W.bald hx hb q1 (State.isArrayOf_alike hal q2) q3 (szB.nin q4 hin) (q5 _ (by omega)) rfl rfl hok.1 (hk _ hok.2 _ _ _ h H locs cells slots ls r1 r2 r3 r4 r5)
  · cases h

theorem sb_saload (hW : Wld l D) (hF : Frm p R s m meth c D mi d) (hk : ∀ q, nx = some q → ∀ L st σ2, k L st σ2 = some (res, σf) → Go p l e R s m args below meth c D mi z0 y0 res σf q L st σ2) (hok : okI mi pc nx pos (.saload) = true) (h : step1 C X E pc (.saload) L st σ k = some (res, σf)) : Go p l e R s m args below meth c D mi z0 y0 res σf pc L st σ := by
  have hx := hF.1
  have hb := hF.2.1
  have hal := hF.2.2.2.2.2.2.2.2.1.alike
  simp only [okI, nxIs, Bool.and_eq_true, decide_eq_true_eq] at hok
  simp only [step1] at h
  intro H locs cells slots ls r1 r2 r3 r4 r5
  split at h
  · rename_i i v st'
    obtain ⟨a, rfl, h⟩ := aRef_some h
    obtain ⟨⟨ht, hin⟩, h⟩ := ite_some h
    have hin := bin_of hin
    obtain ⟨cell, q1, q2, q3, q4, q5⟩ := (r1.2.2.2.2.2.2 a).2.1 (Or.inr ht)
    rw [List.map_cons, List.map_cons, tr_at (rep_39 r1 (by omega))]
    exact W.bald hx hb q1 (State.isArrayOf_alike hal q2) q3 (szB.nin q4 hin) (q5 _ (by omega)) rfl rfl hok.1 (hk _ hok.2 _ _ _ h H locs cells slots ls r1 r2 r3 r4 r5)
  · cases h

theorem sb_laload (hW : Wld l D) (hF : Frm p R s m meth c D mi d) (hk : ∀ q, nx = some q → ∀ L st σ2, k L st σ2 = some (res, σf) → Go p l e R s m args below meth c D mi z0 y0 res σf q L st σ2) (hok : okI mi pc nx pos (.laload) = true) (h : step1 C X E pc (.laload) L st σ k = some (res, σf)) : Go p l e R s m args below meth c D mi z0 y0 res σf pc L st σ := by
  have hx := hF.1
  have hb := hF.2.1
  have hal := hF.2.2.2.2.2.2.2.2.1.alike
  simp only [okI, nxIs, Bool.and_eq_true, decide_eq_true_eq] at hok
  simp only [step1] at h
  intro H locs cells slots ls r1 r2 r3 r4 r5
  split at h
  · rename_i i v st'
    obtain ⟨a, rfl, h⟩ := aRef_some h
    obtain ⟨⟨ht, hin⟩, h⟩ := ite_some h
    have hin := bin_of hin
    obtain ⟨cell, q1, q2, q3, q4, q5⟩ := (r1.2.2.2.2.2.2 a).2.2.1 ht
    rw [List.map_cons, List.map_cons, tr_at (rep_39 r1 (by omega))]
    exact W.lald hx hb q1 (State.isArrayOf_alike hal q2) q3 (by rw [q4]; exact hin) (q5 _ (by omega)) rfl rfl hok.1 (hk _ hok.2 _ _ _ h H locs cells slots ls r1 r2 r3 r4 r5)
  · cases h

theorem sb_aaload (hW : Wld l D) (hF : Frm p R s m meth c D mi d) (hk : ∀ q, nx = some q → ∀ L st σ2, k L st σ2 = some (res, σf) → Go p l e R s m args below meth c D mi z0 y0 res σf q L st σ2) (hok : okI mi pc nx pos (.aaload) = true) (h : step1 C X E pc (.aaload) L st σ k = some (res, σf)) : Go p l e R s m args below meth c D mi z0 y0 res σf pc L st σ := by
  have hx := hF.1
  have hb := hF.2.1
  have hal := hF.2.2.2.2.2.2.2.2.1.alike
  simp only [okI, nxIs, Bool.and_eq_true, decide_eq_true_eq] at hok
  simp only [step1] at h
  intro H locs cells slots ls r1 r2 r3 r4 r5
  split at h
  · rename_i i v st'
    obtain ⟨a, rfl, h⟩ := aRef_some h
    obtain ⟨⟨⟨ht, ht2⟩, hin⟩, h⟩ := ite_some h
    have hin := bin_of hin
    obtain ⟨b, hv, h⟩ := aRef_some h
    obtain ⟨cell, kA, comp, q1, q2, q3, q4, q5, q6, q7, q8⟩ := (r1.2.2.2.2.2.2 a).2.2.2.1 (sT σ a - 10) (Or.inl ⟨by omega, by omega⟩)
    rw [List.map_cons, List.map_cons, tr_at (rep_39 r1 (by omega))]
    exact W.aald hx hb q1 (State.isArrayOf_alike hal ⟨q2, kA, q4, comp, q5⟩) rfl q3 (szB.nin q7 hin) (q8 _ (by omega)) rfl rfl hok.1 (by rw [hv]; exact hk _ hok.2 _ _ _ h H locs cells slots ls r1 r2 r3 r4 r5)
  · cases h

theorem sb_daload (hW : Wld l D) (hF : Frm p R s m meth c D mi d) (hk : ∀ q, nx = some q → ∀ L st σ2, k L st σ2 = some (res, σf) → Go p l e R s m args below meth c D mi z0 y0 res σf q L st σ2) (hok : okI mi pc nx pos (.daload) = true) (h : step1 C X E pc (.daload) L st σ k = some (res, σf)) : Go p l e R s m args below meth c D mi z0 y0 res σf pc L st σ := by
  have hx := hF.1
  have hb := hF.2.1
  have hal := hF.2.2.2.2.2.2.2.2.1.alike
  simp only [okI, nxIs, Bool.and_eq_true, decide_eq_true_eq] at hok
  simp only [step1] at h
  intro H locs cells slots ls r1 r2 r3 r4 r5
  split at h
  · rename_i i v st'
    obtain ⟨a, rfl, h⟩ := aRef_some h
    obtain ⟨⟨ht, hin⟩, h⟩ := ite_some h
    have hin := bin_of hin
    obtain ⟨b, hv, h⟩ := aRef_some h
    obtain ⟨cell, kA, comp, q1, q2, q3, q4, q5, q6, q7, q8⟩ := (r1.2.2.2.2.2.2 a).2.2.2.1 9 (Or.inr ⟨ht, rfl⟩)
    rw [List.map_cons, List.map_cons, tr_at (rep_39 r1 (by omega))]
    exact W.aald hx hb q1 (State.isArrayOf_alike hal ⟨q2, kA, q4, comp, q5⟩) rfl q3 (szB.nin q7 hin) (q8 _ (by omega)) rfl rfl hok.1 (by rw [hv]; exact hk _ hok.2 _ _ _ h H locs cells slots ls r1 r2 r3 r4 r5)
  · cases h

theorem sb_iastore (hW : Wld l D) (hF : Frm p R s m meth c D mi d) (hk : ∀ q, nx = some q → ∀ L st σ2, k L st σ2 = some (res, σf) → Go p l e R s m args below meth c D mi z0 y0 res σf q L st σ2) (hok : okI mi pc nx pos (.iastore) = true) (h : step1 C X E pc (.iastore) L st σ k = some (res, σf)) : Go p l e R s m args below meth c D mi z0 y0 res σf pc L st σ := by
  have hx := hF.1
  have hb := hF.2.1
  have hal := hF.2.2.2.2.2.2.2.2.1.alike
  simp only [okI, nxIs, Bool.and_eq_true, decide_eq_true_eq] at hok
  simp only [step1] at h
  intro H locs cells slots ls r1 r2 r3 r4 r5
  split at h
  · rename_i x i v st'
    obtain ⟨a, rfl, h⟩ := aRef_some h
    obtain ⟨⟨ht, hin⟩, h⟩ := ite_some h
    have hin := bin_of hin
    obtain ⟨ha, hz⟩ := rep_at r1 (a := a) (by omega) (by omega) (by omega) (by omega) (by omega) (by omega)
    obtain ⟨cell, q1, q2, q3, q4, q5⟩ := (r1.2.2.2.2.2.2 a).1 (Or.inl ht)
    rw [List.map_cons, List.map_cons, List.map_cons, tr_at (rep_39 r1 (by omega))]
    refine W.iast hx hb q1 (State.isArrayOf_alike hal q2) q3 (by rw [q4]; exact hin) rfl rfl hok.1 fun H' e1 e2 e3 => ?_
    have hlt : i.toNatClampNeg < cell.slots.size := by omega
    refine hk _ hok.2 _ _ _ h H' _ cells slots ls (rep_write (a := a) hW r1 ha (fun _ => rfl) (fun _ => rfl) rfl (fun b j hb => if_neg (fun q => hb q.1)) (fun b j hb => rfl) (fun b j hb => rfl) e2 e3 (okC_int ht ⟨_, e1, ⟨q2.1, q2.2⟩, q3, by rw [set_size]; exact q4, fun j hj => ?_⟩)) r2 (locs_add hW ha r3) r4 r5
    refine set_get hlt (fun e => ?_) (fun e => ?_)
    · rw [q5 j hj]
      show some (Value.int (sI σ a j)) = some (Value.int (sI (wI σ a i.toNatClampNeg x) a j))
      rw [show sI (wI σ a i.toNatClampNeg x) a j = sI σ a j from if_neg (fun q => e q.2)]
    · subst e
      show Value.int x = Value.int (sI (wI σ a i.toNatClampNeg x) a i.toNatClampNeg)
      rw [show sI (wI σ a i.toNatClampNeg x) a i.toNatClampNeg = x from if_pos ⟨rfl, rfl⟩]
      
  · cases h

theorem sb_bastore (hW : Wld l D) (hF : Frm p R s m meth c D mi d) (hk : ∀ q, nx = some q → ∀ L st σ2, k L st σ2 = some (res, σf) → Go p l e R s m args below meth c D mi z0 y0 res σf q L st σ2) (hok : okI mi pc nx pos (.bastore) = true) (h : step1 C X E pc (.bastore) L st σ k = some (res, σf)) : Go p l e R s m args below meth c D mi z0 y0 res σf pc L st σ := by
  have hx := hF.1
  have hb := hF.2.1
  have hal := hF.2.2.2.2.2.2.2.2.1.alike
  simp only [okI, nxIs, Bool.and_eq_true, decide_eq_true_eq] at hok
  simp only [step1] at h
  intro H locs cells slots ls r1 r2 r3 r4 r5
  split at h
  · rename_i x i v st'
    obtain ⟨a, rfl, h⟩ := aRef_some h
    obtain ⟨⟨ht, hin⟩, h⟩ := ite_some h
    have hin := bin_of hin
    obtain ⟨ha, hz⟩ := rep_at r1 (a := a) (by omega) (by omega) (by omega) (by omega) (by omega) (by omega)
    obtain ⟨cell, q1, q2, q3, q4, q5⟩ := (r1.2.2.2.2.2.2 a).2.1 (Or.inl ht)
    rw [List.map_cons, List.map_cons, List.map_cons, tr_at (rep_39 r1 (by omega))]
    refine W.bast hx hb q1 (State.isArrayOf_alike hal q2) q3 (szB.nin q4 hin) rfl rfl hok.1 fun H' e1 e2 e3 => ?_
    have hlt : i.toNatClampNeg < cell.slots.size := by have := q4.1; omega
    refine hk _ hok.2 _ _ _ h H' _ cells slots ls (rep_write (a := a) hW r1 ha (fun _ => rfl) (fun _ => rfl) rfl (fun b j hb => if_neg (fun q => hb q.1)) (fun b j hb => rfl) (fun b j hb => rfl) e2 e3 (okC_byt ht ⟨_, e1, ⟨q2.1, q2.2⟩, q3, ⟨by rw [set_size]; exact q4.1, by rw [set_size]; exact q4.2⟩, fun j hj => ?_⟩)) r2 (locs_add hW ha r3) r4 r5
    refine set_get hlt (fun e => ?_) (fun e => ?_)
    · rw [q5 j hj]
      show some (Value.int (sI σ a j)) = some (Value.int (sI (wI σ a i.toNatClampNeg (i2b x)) a j))
      rw [show sI (wI σ a i.toNatClampNeg (i2b x)) a j = sI σ a j from if_neg (fun q => e q.2)]
    · subst e
      show narrow .byte (Value.int x) = Value.int (sI (wI σ a i.toNatClampNeg (i2b x)) a i.toNatClampNeg)
      rw [show sI (wI σ a i.toNatClampNeg (i2b x)) a i.toNatClampNeg = (i2b x) from if_pos ⟨rfl, rfl⟩]
      rfl
  · cases h

theorem sb_lastore (hW : Wld l D) (hF : Frm p R s m meth c D mi d) (hk : ∀ q, nx = some q → ∀ L st σ2, k L st σ2 = some (res, σf) → Go p l e R s m args below meth c D mi z0 y0 res σf q L st σ2) (hok : okI mi pc nx pos (.lastore) = true) (h : step1 C X E pc (.lastore) L st σ k = some (res, σf)) : Go p l e R s m args below meth c D mi z0 y0 res σf pc L st σ := by
  have hx := hF.1
  have hb := hF.2.1
  have hal := hF.2.2.2.2.2.2.2.2.1.alike
  simp only [okI, nxIs, Bool.and_eq_true, decide_eq_true_eq] at hok
  simp only [step1] at h
  intro H locs cells slots ls r1 r2 r3 r4 r5
  split at h
  · rename_i x i v st'
    obtain ⟨a, rfl, h⟩ := aRef_some h
    obtain ⟨⟨ht, hin⟩, h⟩ := ite_some h
    have hin := bin_of hin
    obtain ⟨ha, hz⟩ := rep_at r1 (a := a) (by omega) (by omega) (by omega) (by omega) (by omega) (by omega)
    obtain ⟨cell, q1, q2, q3, q4, q5⟩ := (r1.2.2.2.2.2.2 a).2.2.1 ht
    rw [List.map_cons, List.map_cons, List.map_cons, tr_at (rep_39 r1 (by omega))]
    refine W.last hx hb q1 (State.isArrayOf_alike hal q2) q3 (by rw [q4]; exact hin) rfl rfl hok.1 fun H' e1 e2 e3 => ?_
    have hlt : i.toNatClampNeg < cell.slots.size := by omega
    refine hk _ hok.2 _ _ _ h H' _ cells slots ls (rep_write (a := a) hW r1 ha (fun _ => rfl) (fun _ => rfl) rfl (fun b j hb => rfl) (fun b j hb => rfl) (fun b j hb => if_neg (fun q => hb q.1)) e2 e3 (okC_lng ht ⟨_, e1, ⟨q2.1, q2.2⟩, q3, by rw [set_size]; exact q4, fun j hj => ?_⟩)) r2 (locs_add hW ha r3) r4 r5
    refine set_get hlt (fun e => ?_) (fun e => ?_)
    · rw [q5 j hj]
      show some (Value.long (sJ σ a j)) = some (Value.long (sJ (wJ σ a i.toNatClampNeg x) a j))
      rw [show sJ (wJ σ a i.toNatClampNeg x) a j = sJ σ a j from if_neg (fun q => e q.2)]
    · subst e
      show Value.long x = Value.long (sJ (wJ σ a i.toNatClampNeg x) a i.toNatClampNeg)
      rw [show sJ (wJ σ a i.toNatClampNeg x) a i.toNatClampNeg = x from if_pos ⟨rfl, rfl⟩]
      
  · cases h

theorem sb_aastore (hW : Wld l D) (hF : Frm p R s m meth c D mi d) (hk : ∀ q, nx = some q → ∀ L st σ2, k L st σ2 = some (res, σf) → Go p l e R s m args below meth c D mi z0 y0 res σf q L st σ2) (hok : okI mi pc nx pos (.aastore) = true) (h : step1 C X E pc (.aastore) L st σ k = some (res, σf)) : Go p l e R s m args below meth c D mi z0 y0 res σf pc L st σ := by
  have hx := hF.1
  have hb := hF.2.1
  have hal := hF.2.2.2.2.2.2.2.2.1.alike
  simp only [okI, nxIs, Bool.and_eq_true, decide_eq_true_eq] at hok
  simp only [step1] at h
  intro H locs cells slots ls r1 r2 r3 r4 r5
  split at h
  · rename_i w i v st'
    obtain ⟨a, ev, h2⟩ := aRef_some h
    obtain ⟨b, ew, h3⟩ := aRef_some h2
    obtain ⟨⟨⟨ht, ht2⟩, hbt, hin⟩, h4⟩ := ite_some h3
    clear h h2 h3
    subst ev
    subst ew
    have h := h4
    have hin := bin_of hin
    obtain ⟨ha, hz⟩ := rep_at r1 (a := a) (by omega) (by omega) (by omega) (by omega) (by omega) (by omega)
    obtain ⟨cell, kA, comp, q1, q2, q3, q4, q5, q6, q7, q8⟩ := (r1.2.2.2.2.2.2 a).2.2.2.1 (sT σ a - 10) (Or.inl ⟨by omega, by omega⟩)
    have hc14 : sT σ a - 10 < 14 := by omega
    · obtain ⟨cb, b1, b2, b3, b4, b5, b6⟩ := (r1.2.2.2.2.2.2 b).2.2.2.2 (sT σ a - 10) (by omega) hc14
      obtain ⟨kC, f2, f3⟩ := Vm.findClass_spec (vm := s.vm) (name := cN (sT σ a - 10)) (c := D.2.2.2.2.1 (sT σ a - 10)) (by rw [hal.findClass]; exact (hW.2.2.2.2.2.1 (sT σ a - 10) hc14).1.1)
      obtain ⟨k', hk', he⟩ := hal.2.2 _ _ q4
      have hcomp : comp = D.2.2.2.2.1 (sT σ a - 10) := Option.some.inj ((q6 (by omega)).symm.trans (hW.2.2.2.2.2.1 (sT σ a - 10) hc14).1.1)
      rw [List.map_cons, List.map_cons, List.map_cons, tr_at (rep_39 r1 (a := a) (by omega)), tr_at (rep_39 r1 (a := b) (by omega))]
      refine W.aast hx hb q1 q2 q3 hk' (by rw [he]; exact q5) rfl (hcomp ▸ f2) ⟨fun z => hin (Or.inl z), Nat.lt_of_lt_of_le (Nat.lt_of_not_le (fun z => hin (Or.inr z))) q7.1⟩ b1 (VmData.ne_statics_of b3) (b2 ▸ f2) (by rw [b2, hcomp]; exact va_asg _ _) rfl rfl hok.1 fun H' e1 e2 e3 => ?_
      have hlt : i.toNatClampNeg < cell.slots.size := by have := q7.1; omega
      refine hk _ hok.2 _ _ _ h H' _ cells slots ls (rep_write (a := a) hW r1 ha (fun _ => rfl) (fun _ => rfl) rfl (fun b j hb => rfl) (fun b j hb => if_neg (fun q => hb q.1)) (fun b j hb => rfl) e2 e3 (okC_row (n := sT σ a - 10) (show sT σ a = _ by omega) (by omega) ⟨_, kA, comp, e1, q2, q3, q4, q5, q6, ⟨by rw [set_size]; exact q7.1, by rw [set_size]; exact q7.2⟩, fun j hj => ?_⟩)) r2 (locs_add hW ha r3) r4 r5
      refine set_get hlt (fun e => ?_) (fun e => ?_)
      · rw [q8 j hj]
        rw [show sV (wV σ a i.toNatClampNeg (.ref b)) a j = sV σ a j from if_neg (fun q => e q.2)]
      · subst e
        rw [show sV (wV σ a i.toNatClampNeg (.ref b)) a i.toNatClampNeg = .ref b from if_pos ⟨rfl, rfl⟩, tr_at (rep_39 r1 (a := b) (by omega))]
  · cases h

end SB2
