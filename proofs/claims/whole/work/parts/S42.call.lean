/-! calls -/
section CA
variable {p : Program} {l : Launch} {e : Env} {R : Room} {s : State} {m : MethodId} {args : Array Value} {below : List Frame} {meth : Method} {c : Code} {D : SD} {mi d z0 y0 : Nat} {res : Option Value ⊕ Nat} {σf : SH}
def Sd (D : SD) (l : Launch) (n : Nat) : Prop := ∀ (d mi pc : Nat) (L : SL) (st : List Value) (σ : SH) (res : Option Value ⊕ Nat) (σf : SH), execN PP n d mi pc L st σ = some (res, σf) → mi < 372 → pc < 100000 →
  ∀ (p : Program) (e : Env) (R : Room) (s : State) (m : MethodId) (args : Array Value) (below : List Frame) (meth : Method) (c : Code) (z0 y0 : Nat), Frm p R s m meth c D mi d → sZ σf ≤ z0 + R.cells → sS σf ≤ y0 + R.slots → Go p l e R s m args below meth c D mi z0 y0 res σf pc L st σ
def Pcc (D : SD) (as : List Value) (σ : SH) : Array Value → State → Prop := fun a U => a = (as.map (tr D)).toArray ∧ D.1.WarmedH U.vm ∧ Rep D σ U.heap
theorem pcc_blind {as : List Value} {σ : SH} : FrameBlind (Pcc D as σ) := fun _ _ _ _ h => h
theorem wds_all : ∀ as : List Value, wds as = as.length → ∀ v ∈ as, cat2 v = 1
  | [], _, v, h => by cases h
  | w :: as, h, v, hv => by
    have hge : ∀ bs : List Value, bs.length ≤ wds bs := fun bs => by
      induction bs with
      | nil => exact Nat.le_refl _
      | cons x xs ih =>
        unfold wds at ih ⊢
        rw [List.map_cons, List.sum_cons, List.length_cons]
        have : 1 ≤ cat2 x := by cases x <;> simp [cat2]
        omega
    have h1 := hge as
    have h2 : 1 ≤ cat2 w := by cases w <;> simp [cat2]
    unfold wds at h h1
    rw [List.map_cons, List.sum_cons, List.length_cons] at h
    rcases List.mem_cons.mp hv with rfl | hv
    · omega
    · exact wds_all as (by unfold wds; omega) v hv
theorem lv_args_mem {vs : List Value} (hc : ∀ v ∈ vs, v.category = 1) : ∀ (j i : Nat) (v : Value), vs[i]? = some v → (j + i, v) ∈ lv_args j vs := by
  induction vs with
  | nil => intro j i v h; simp at h
  | cons w ws ih =>
    intro j i v h
    unfold lv_args
    cases i with
    | zero =>
      simp at h
      subst h
      exact List.mem_cons_self
    | succ i =>
      rw [if_neg (by rw [hc w List.mem_cons_self]; decide)]
      have := ih (fun v hv => hc v (List.mem_cons_of_mem _ hv)) (j + 1) i v (by simpa using h)
      rw [show j + 1 + i = j + (i + 1) by omega] at this
      exact List.mem_cons_of_mem _ this
theorem lg_len {vs : List Value} (hc : ∀ v ∈ vs, v.category = 1) : (lg_sl vs).length = vs.length := by
  induction vs with
  | nil => rfl
  | cons w ws ih =>
    unfold lg_sl at ih ⊢
    rw [List.flatMap_cons, List.length_append, ih (fun v hv => hc v (List.mem_cons_of_mem _ hv)), if_neg (by rw [hc w List.mem_cons_self]; decide)]
    simp [Nat.add_comm]
/-- a callee's contract out of SM's run of it -/
theorem met_of {n d' id : Nat} {as : List Value} {σ σ1 : SH} {res : Option Value ⊕ Nat} (hW : Wld l D) (hn : Sd D l n) (hid : id < 372) (hpz : pzB id = true) (hx : execN PP n d' id 0 (lcl PP id as) [] σ = some (res, σ1)) (hwd : wds as = as.length) (hal : as.length ≤ mxOf id) :
    vx_Met l (yOf id) [cwOf id] { frames := d' + 8, cells := sZ σ1 - sZ σ, slots := sS σ1 - sS σ, locals := (d' + 1) * 200 } (Pcc D as σ) (Qc D res σ1) (Xc D res σ1) (sZ σ1 - sZ σ) (sS σ1 - sS σ) (Fr0 D) := by
  have hgr := execN_gro PP n d' id 0 (lcl PP id as) [] σ _ _ hx
  have hcat : ∀ v ∈ as.map (tr D), v.category = 1 := fun v hv => by
    obtain ⟨w, hw, rfl⟩ := List.mem_map.mp hv
    exact cat_tr hW.2.2.2.2.1 (wds_all as hwd w hw)
  have hpl : plainName (yOf id).cls = true := by
    unfold pzB at hpz
    simp only [Bool.and_eq_true] at hpz
    exact hpz.1.1.1.1.1.2
  have body : ∀ (p : Program) (e : Env) (s : State) (m : MethodId) (args : Array Value) (below : List Frame) (meth : Method) (c : Code) (s₁ : State), BodyLoose p l (yOf id) (headSpec [cwOf id] { frames := d' + 8, cells := sZ σ1 - sZ σ, slots := sS σ1 - sS σ, locals := (d' + 1) * 200 }) (bsOf id) (mxOf id) (rtOf id) e s m args below meth c s₁ → c.maxLocals = mxOf id → c.exceptionTable.toList = tableOf (hhOf id) → Pcc D as σ args s →
      W p l e { frames := d' + 8, cells := sZ σ1 - sZ σ, slots := sS σ1 - sS σ, locals := (d' + 1) * 200 } s m args below meth c s.heap [] 0 0 (vx_MQ below (Qc D res σ1) (Xc D res σ1) args s (sZ σ1 - sZ σ) (sS σ1 - sS σ) (Fr0 D)) (entryFrame m args (mxOf id)) := by
    intro p e s m args below meth c s₁ B hml htab hP
    obtain ⟨rfl, hwm, hrep⟩ := hP
    have hF : Frm p { frames := d' + 8, cells := sZ σ1 - sZ σ, slots := sS σ1 - sS σ, locals := (d' + 1) * 200 } s m meth c D id d' := ⟨B.exec, B.bytes, hml, findClass_of_methodNamed B.named, B.notSynchronized, B.returns, (name_of_methodNamed B.named B.method).1, htab, hwm, Nat.le_refl _, Nat.le_refl _⟩
    have hgo := hn d' id 0 _ _ _ _ _ hx hid (by decide) p e _ s m (as.map (tr D)).toArray below meth c (sZ σ) (sS σ) hF (by show sZ σ1 ≤ sZ σ + (sZ σ1 - sZ σ); omega) (by show sS σ1 ≤ sS σ + (sS σ1 - sS σ); omega)
    have hlen : (lg_sl (as.map (tr D))).length ≤ mxOf id := by rw [lg_len hcat, List.length_map]; exact hal
    have hl := lv_entry (as.map (tr D)) hlen
    rw [lg_entry_eq]
    refine hgo s.heap [] 0 0 _ hrep (lR_of ?_ hl fun i v hv => ?_) (fun z hz => by cases hz) rfl rfl
    · show (as.map some ++ List.replicate (nthD mxTab id 0 - as.length) none).length ≤ _
      rw [List.length_append, List.length_map, List.length_replicate]
      unfold mxOf at hal ⊢
      omega
    · have hv' : (as.map some ++ List.replicate (nthD mxTab id 0 - as.length) none)[i]? = some (some v) := hv
      rw [List.getElem?_append] at hv'
      split at hv'
      · rename_i hi
        rw [List.getElem?_map] at hv'
        cases ha : as[i]? with
        | none => rw [ha] at hv'; cases hv'
        | some w =>
          rw [ha] at hv'
          cases hv'
          have := lv_args_mem hcat 0 i (tr D v) (by rw [List.getElem?_map, ha]; rfl)
          rw [Nat.zero_add] at this
          exact this
      · rw [List.getElem?_replicate] at hv'
        split at hv' <;> cases hv'
  by_cases hh : hhOf id = []
  · refine vx_ofW (cc := bsOf id) (maxL := mxOf id) (ret := rtOf id) (ws' := []) hpl (by unfold cwOf; rw [if_pos hh]) fun p e s m args below meth c s₁ B hml htab hP => body p e s m args below meth c s₁ B hml ?_ hP
    rw [hh]
    cases ht : c.exceptionTable.toList with
    | nil => rfl
    | cons x xs => exact absurd (by rw [ht]; exact List.mem_cons_self) (htab x)
  · refine vx_ofWH (cc := bsOf id) (maxL := mxOf id) (ret := rtOf id) (hh := hhOf id) (ws' := []) hpl (by unfold cwOf; rw [if_neg hh]) fun p e s m args below meth c s₁ B hml hP => body p e s m args below meth c s₁ B hml ?_ hP
    have hw : (Cond.codeWith (yOf id) (bsOf id) (mxOf id) (rtOf id) (hhOf id)).before args s = true := by
      have := atoms_spec (ws := [cwOf id]) B.pre (cwOf id) List.mem_cons_self
      unfold cwOf at this
      rw [if_neg hh] at this
      exact this
    exact vx_table (x := yOf id) B hw
end CA
