section SE1
variable {p : Program} {l : Launch} {e : Env} {R : Room} {s : State} {m : MethodId} {args : Array Value} {below : List Frame} {meth : Method} {c : Code} {D : SD} {mi d z0 y0 : Nat} {res : Option Value ⊕ Nat} {σf : SH}
variable {C : Nat → List Value → SH → SR} {X : Nat → Nat → Option Int32} {E : Nat → SL → List Value → SH → SR} {pc pos : Nat} {nx : Option Nat} {L : SL} {st : List Value} {σ : SH} {k : SL → List Value → SH → SR}
theorem fv_wI {a n f j : Nat} {x : Int32} (h : j ≠ f) : fv D (wI σ a f x) a n j = fv D σ a n j := by
  unfold fv
  rw [show sI (wI σ a f x) a j = sI σ a j from if_neg (fun q => h q.2)]
  rfl
theorem fv_wV {a n f j : Nat} {x : Value} (h : j ≠ f) : fv D (wV σ a f x) a n j = fv D σ a n j := by
  unfold fv
  rw [show sV (wV σ a f x) a j = sV σ a j from if_neg (fun q => h q.2)]
  rfl
theorem se_putfield (hW : Wld l D) (hF : Frm p R s m meth c D mi d) (hk : ∀ q, nx = some q → ∀ L st σ2, k L st σ2 = some (res, σf) → Go p l e R s m args below meth c D mi z0 y0 res σf q L st σ2) {n : Nat} (hok : okI mi pc nx pos (.putfield n) = true) (h : step1 C X E pc (.putfield n) L st σ k = some (res, σf)) : Go p l e R s m args below meth c D mi z0 y0 res σf pc L st σ := by
  simp only [okI] at hok
  split at hok
  · rename_i x hd
    simp only [nxIs, Bool.and_eq_true, decide_eq_true_eq] at hok
    obtain ⟨⟨⟨⟨⟨⟨hn, h13⟩, h9⟩, hf⟩, hkd⟩, hfin⟩, hw⟩ := hok
    have hfin' : (fT (n / 1000) (n / 10 % 100)).2.2.2 = false ∨ ((yOf mi).name = "<init>" ∧ (yOf mi).cls = (fT (n / 1000) (n / 10 % 100)).1) := by
      simpa using hfin
    obtain ⟨y1, y2, y3⟩ := tys_at h13 h9 hf
    simp only [step1] at h
    intro H locs cells slots ls r1 r2 r3 r4 r5
    split at h
    · split at h
      · rename_i h0
        obtain ⟨a, rfl, h⟩ := aRef_some h
        obtain ⟨ht, h⟩ := ite_some h
        rw [if_pos h0, decide_eq_true_eq] at hkd
        have hnr : ¬ isRf (n / 1000) (n / 10 % 100) = true := fun q => by
          rcases y3 q with ⟨z, hz⟩ | ⟨z, hz⟩ <;> rw [hkd] at hz <;> cases hz
        exact sb_put (σ' := wI σ a (n / 10 % 100) _) hW hF r1 hd h13 h9 hf hfin' hw r3 ht (by rw [hkd]; rfl) (by rw [hkd]; rfl) (fun _ => rfl) (fun _ => rfl) rfl (fun b j hb => if_neg (fun q => hb q.1)) (fun _ _ _ => rfl) (fun _ _ _ => rfl) (fun j hj => fv_wI hj)
          (by unfold fv; rw [if_neg hnr]; exact congrArg Value.int (if_pos ⟨rfl, rfl⟩)) (fun H' locs' q1 q2 => hk _ hn _ _ _ h H' locs' cells slots ls q1 r2 q2 r4 r5)
      · rename_i h2
        obtain ⟨a, rfl, h⟩ := aRef_some h
        obtain ⟨⟨ht, h01⟩, h⟩ := ite_some h
        rw [if_neg (by omega), if_pos h2, decide_eq_true_eq] at hkd
        have hnr : ¬ isRf (n / 1000) (n / 10 % 100) = true := fun q => by
          rcases y3 q with ⟨z, hz⟩ | ⟨z, hz⟩ <;> rw [hkd] at hz <;> cases hz
        exact sb_put (σ' := wI σ a (n / 10 % 100) _) hW hF r1 hd h13 h9 hf hfin' hw r3 ht (by rw [hkd]; rcases h01 with rfl | rfl <;> rfl) (by rw [hkd]; rcases h01 with rfl | rfl <;> rfl) (fun _ => rfl) (fun _ => rfl) rfl (fun b j hb => if_neg (fun q => hb q.1)) (fun _ _ _ => rfl) (fun _ _ _ => rfl) (fun j hj => fv_wI hj)
          (by unfold fv; rw [if_neg hnr]; exact congrArg Value.int (if_pos ⟨rfl, rfl⟩)) (fun H' locs' q1 q2 => hk _ hn _ _ _ h H' locs' cells slots ls q1 r2 q2 r4 r5)
      · rename_i h1
        obtain ⟨a, rfl, h⟩ := aRef_some h
        obtain ⟨ht, h⟩ := ite_some h
        rw [if_neg (by omega), if_neg (by omega)] at hkd
        have hnar : ∀ v : Value, (v = .null ∨ ∃ q, v = .ref q) → narrow (fy (n / 1000) (n / 10 % 100)) v = v ∧ fits (fy (n / 1000) (n / 10 % 100)) v = true := fun v hv => by
          rcases y3 hkd with ⟨z, hz⟩ | ⟨z, hz⟩ <;> rw [hz] <;> rcases hv with rfl | ⟨q, rfl⟩ <;> exact ⟨rfl, rfl⟩
        rcases rd2_some h with ⟨rfl, h⟩ | ⟨b, rfl, h⟩
        · exact sb_put (σ' := wV σ a (n / 10 % 100) .null) hW hF r1 hd h13 h9 hf hfin' hw r3 ht (hnar _ (Or.inl rfl)).1 (hnar _ (Or.inl rfl)).2 (fun _ => rfl) (fun _ => rfl) rfl (fun _ _ _ => rfl) (fun b j hb => if_neg (fun q => hb q.1)) (fun _ _ _ => rfl) (fun j hj => fv_wV hj)
            (by unfold fv; rw [if_pos hkd]; exact congrArg (tr D) (if_pos ⟨rfl, rfl⟩)) (fun H' locs' q1 q2 => hk _ hn _ _ _ h H' locs' cells slots ls q1 r2 q2 r4 r5)
        · exact sb_put (σ' := wV σ a (n / 10 % 100) (.ref b)) hW hF r1 hd h13 h9 hf hfin' hw r3 ht (hnar _ (tr_ref hW.2.2.2.2.1 b)).1 (hnar _ (tr_ref hW.2.2.2.2.1 b)).2 (fun _ => rfl) (fun _ => rfl) rfl (fun _ _ _ => rfl) (fun b j hb => if_neg (fun q => hb q.1)) (fun _ _ _ => rfl) (fun j hj => fv_wV hj)
            (by unfold fv; rw [if_pos hkd]; exact congrArg (tr D) (if_pos ⟨rfl, rfl⟩)) (fun H' locs' q1 q2 => hk _ hn _ _ _ h H' locs' cells slots ls q1 r2 q2 r4 r5)
      · cases h
    · cases h
  · cases hok
theorem se_nest {i : Nat} {w : Cond} (hW : Wld l D) (hot : w.onTables = true) (h : wAtN i w = true) : va_Nw w D.1 := by
  unfold wAtN at h
  rw [decide_eq_true_eq] at h
  exact va_Nw.of hot (hW.2.1 w (List.mem_of_getElem? h))
theorem se_ldc (hW : Wld l D) (hF : Frm p R s m meth c D mi d) (hk : ∀ q, nx = some q → ∀ L st σ2, k L st σ2 = some (res, σf) → Go p l e R s m args below meth c D mi z0 y0 res σf q L st σ2) {n : Nat} (hok : okI mi pc nx pos (.ldc n) = true) (h : step1 C X E pc (.ldc n) L st σ k = some (res, σf)) : Go p l e R s m args below meth c D mi z0 y0 res σf pc L st σ := by
  simp only [okI] at hok
  split at hok
  · rename_i x hd
    simp only [nxIs, Bool.and_eq_true, decide_eq_true_eq] at hok
    obtain ⟨⟨⟨hcl, h39⟩, hany⟩, hn⟩ := hok
    simp only [step1] at h
    intro H locs cells slots ls r1 r2 r3 r4 r5
    obtain ⟨q, hq, hq2⟩ := List.any_eq_true.mp hany
    rw [Bool.and_eq_true, decide_eq_true_eq, decide_eq_true_eq] at hq2
    have hr := vk_R.warm hF.2.2.2.2.2.2.2.2.1 (hW.2.2.2.2.2.2.2.2.2.1 q hq)
    rw [hq2.1, hq2.2] at hr
    have k2 := hk _ hn _ _ _ h H locs cells slots ls r1 r2 r3 r4 r5
    rw [List.map_cons, tr_at h39] at k2
    exact va_ldcS hF.1 hF.2.1 (by rw [← hcl]; exact hF.2.2.2.1) hr hd k2
  · cases hok
theorem se_getstatic (hW : Wld l D) (hF : Frm p R s m meth c D mi d) (hk : ∀ q, nx = some q → ∀ L st σ2, k L st σ2 = some (res, σf) → Go p l e R s m args below meth c D mi z0 y0 res σf q L st σ2) {n : Nat} (hok : okI mi pc nx pos (.getstatic n) = true) (h : step1 C X E pc (.getstatic n) L st σ k = some (res, σf)) : Go p l e R s m args below meth c D mi z0 y0 res σf pc L st σ := by
  have hs := hF.2.2.2.2.2.2.2.2.1
  have key : ∀ {C1 n1 d1 : String} {v : Value} {H : Heap}, Rep D σ H → va_Z C1 n1 d1 v (fun q => D.1.heap.size ≤ q) D.1 D.1.heap → va_Z C1 n1 d1 v (fun q => D.1.heap.size ≤ q) s H := fun hR hz => va_Z.moved hs.alike (hz.kept fun a ha _ => hR.2.2.1 a ha)
  simp only [okI] at hok
  split at hok
  · rename_i x hd
    simp only [nxIs, Bool.and_eq_true, decide_eq_true_eq] at hok
    obtain ⟨hn, hok⟩ := hok
    simp only [step1] at h
    intro H locs cells slots ls r1 r2 r3 r4 r5
    by_cases h1 : n < 1000
    · rw [if_pos h1] at hok h
      simp only [Bool.and_eq_true, decide_eq_true_eq, Bool.or_eq_true] at hok
      obtain ⟨cf, kf, fi, f, a, cell, i1, i2, i3, i4, i5, i6, i7, i8⟩ := key r1 (hW.2.2.2.2.2.2.2.1 n hok.1)
      have hkn : cell.vm ≠ .unknown := fun q => by rw [q] at i6; cases i6
      have k2 := hk _ hn _ _ _ h H locs cells slots ls r1 r2 r3 r4 r5
      rcases hok.2 with hw | hw
      · exact W.gets hF.1 hF.2.1 hF.2.2.2.1 (wd_at hW hs hw) i1 i2 i3 i4 i5 hkn i7 rfl hd k2
      · exact va_WgetsN hF.1 hF.2.1 hF.2.2.2.1 (va_Nw.use rfl (va_Nw.warmF hs (se_nest hW rfl hw))) i1 i2 i3 i4 i5 hkn i7 rfl hd k2
    · rw [if_neg h1] at hok h
      simp only [Bool.and_eq_true, decide_eq_true_eq] at hok
      obtain ⟨rfl, hw⟩ := hok
      obtain ⟨cf, kf, fi, f, a, cell, i1, i2, i3, i4, i5, i6, i7, i8⟩ := key r1 hW.2.2.2.2.2.2.2.2.1
      have hkn : cell.vm ≠ .unknown := fun q => by rw [q] at i6; cases i6
      exact W.gets hF.1 hF.2.1 hF.2.2.2.1 (wd_at hW hs hw) i1 i2 i3 i4 i5 hkn i7 rfl hd (hk _ hn _ _ _ h H locs cells slots ls r1 r2 r3 r4 r5)
  · cases hok
/-! returns -/
theorem W_mono {g : JFrame} {H : Heap} {locs : List Loc} {cells slots : Nat} {Q Q' : State → Prop} (hq : ∀ t, Q t → Q' t) (h : W p l e R s m args below meth c H locs cells slots Q g) : W p l e R s m args below meth c H locs cells slots Q' g := fun T hT X => by
  obtain ⟨t, a, b⟩ := h T hT X
  exact ⟨t, a, hq t b⟩
theorem se_end {H : Heap} {locs : List Loc} {cells slots : Nat} {g : JFrame} {v : Option Value} (hF : Frm p R s m meth c D mi d) (r1 : Rep D σ H) (r4 : z0 + cells = sZ σ) (r5 : y0 + slots = sS σ)
    (h : (∀ t : State, t.heap = H → s.WarmedH t.vm → Qc D (.inl v) σ args s (.returned (v.map (tr D))) t) → W p l e R s m args below meth c H locs cells slots (MQ below (Qc D (.inl v) σ) args s cells slots (Fr0 D)) g) : W p l e R s m args below meth c H locs cells slots (EndQ D below s args (.inl v) σ z0 y0) g := by
  have e1 : sZ σ - z0 = cells := by omega
  have e2 : sS σ - y0 = slots := by omega
  unfold EndQ
  rw [e1, e2]
  refine vx_ret (h fun t ht hw => ⟨⟨v, rfl, rfl⟩, State.WarmedH.trans hF.2.2.2.2.2.2.2.2.1 hw, by rw [ht]; exact r1⟩)
theorem se_ireturn (hF : Frm p R s m meth c D mi d) (hok : okI mi pc nx pos .ireturn = true) (h : step1 C X E pc .ireturn L st σ k = some (res, σf)) : Go p l e R s m args below meth c D mi z0 y0 res σf pc L st σ := by
  simp only [okI, Bool.and_eq_true, decide_eq_true_eq] at hok
  simp only [step1] at h
  intro H locs cells slots ls r1 r2 r3 r4 r5
  split at h
  · cases h
    exact se_end hF r1 r4 r5 fun hq => W.iret hF.1 hF.2.1 (by rw [hF.2.2.2.2.2.1]; exact hok.2) hq r3 hok.1 hF.2.2.2.2.1
  · cases h
theorem se_freturn (hF : Frm p R s m meth c D mi d) (hok : okI mi pc nx pos .freturn = true) (h : step1 C X E pc .freturn L st σ k = some (res, σf)) : Go p l e R s m args below meth c D mi z0 y0 res σf pc L st σ := by
  simp only [okI, Bool.and_eq_true, decide_eq_true_eq] at hok
  simp only [step1] at h
  intro H locs cells slots ls r1 r2 r3 r4 r5
  split at h
  · obtain ⟨h01, h⟩ := ite_some h
    cases h
    exact se_end hF r1 r4 r5 fun hq => W.zret hF.1 hF.2.1 (by rw [hF.2.2.2.2.2.1]; exact hok.2) (by rcases h01 with rfl | rfl <;> rfl) hq r3 hok.1 hF.2.2.2.2.1
  · cases h
theorem se_dreturn (hF : Frm p R s m meth c D mi d) (hok : okI mi pc nx pos .dreturn = true) (h : step1 C X E pc .dreturn L st σ k = some (res, σf)) : Go p l e R s m args below meth c D mi z0 y0 res σf pc L st σ := by
  simp only [okI, Bool.and_eq_true, decide_eq_true_eq] at hok
  simp only [step1] at h
  intro H locs cells slots ls r1 r2 r3 r4 r5
  split at h
  · obtain ⟨h01, h⟩ := ite_some h
    cases h
    exact se_end hF r1 r4 r5 fun hq => W.zret hF.1 hF.2.1 (by rw [hF.2.2.2.2.2.1]; exact hok.2) (by rw [← h01]; exact pk_nc _) hq r3 hok.1 hF.2.2.2.2.1
  · cases h
theorem se_lreturn (hF : Frm p R s m meth c D mi d) (hok : okI mi pc nx pos .lreturn = true) (h : step1 C X E pc .lreturn L st σ k = some (res, σf)) : Go p l e R s m args below meth c D mi z0 y0 res σf pc L st σ := by
  simp only [okI, Bool.and_eq_true, decide_eq_true_eq] at hok
  simp only [step1] at h
  intro H locs cells slots ls r1 r2 r3 r4 r5
  split at h
  · obtain ⟨h01, h⟩ := ite_some h
    cases h
    exact se_end hF r1 r4 r5 fun hq => W.zret hF.1 hF.2.1 (by rw [hF.2.2.2.2.2.1]; exact hok.2) (by rw [← h01]; exact pk_nb _) hq r3 hok.1 hF.2.2.2.2.1
  · cases h
theorem se_areturn (hW : Wld l D) (hF : Frm p R s m meth c D mi d) (hok : okI mi pc nx pos .areturn = true) (h : step1 C X E pc .areturn L st σ k = some (res, σf)) : Go p l e R s m args below meth c D mi z0 y0 res σf pc L st σ := by
  simp only [okI, Bool.and_eq_true, decide_eq_true_eq] at hok
  simp only [step1] at h
  intro H locs cells slots ls r1 r2 r3 r4 r5
  obtain ⟨hd, hr⟩ := hok
  split at hr
  · rename_i q hq
    split at h
    · cases h
      exact se_end hF r1 r4 r5 fun hq2 => W.aret hF.1 hF.2.1 (by rw [hF.2.2.2.2.2.1]; exact hq) (Or.inl ⟨_, rfl⟩) (tr_ref hW.2.2.2.2.1 _) hq2 r3 hd hF.2.2.2.2.1
    · cases h
      exact se_end hF r1 r4 r5 fun hq2 => W.aret hF.1 hF.2.1 (by rw [hF.2.2.2.2.2.1]; exact hq) (Or.inl ⟨_, rfl⟩) (Or.inl rfl) hq2 r3 hd hF.2.2.2.2.1
    · cases h
  · cases hr
theorem se_return (hF : Frm p R s m meth c D mi d) (hok : okI mi pc nx pos .return_ = true) (h : step1 C X E pc .return_ L st σ k = some (res, σf)) : Go p l e R s m args below meth c D mi z0 y0 res σf pc L st σ := by
  simp only [okI, Bool.and_eq_true, decide_eq_true_eq] at hok
  simp only [step1] at h
  intro H locs cells slots ls r1 r2 r3 r4 r5
  split at h
  · cases h
    exact se_end hF r1 r4 r5 fun hq => W.vret hF.1 hF.2.1 (by rw [hF.2.2.2.2.2.1]; exact hok.2) hq r3 hok.1 hF.2.2.2.2.1
  · cases h
end SE1
