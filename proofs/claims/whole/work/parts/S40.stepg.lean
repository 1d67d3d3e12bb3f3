section SG1
variable {p : Program} {l : Launch} {e : Env} {R : Room} {s : State} {m : MethodId} {args : Array Value} {below : List Frame} {meth : Method} {c : Code} {D : SD} {mi d z0 y0 : Nat} {res : Option Value ⊕ Nat} {σf : SH}
variable {C : Nat → List Value → SH → SR} {X : Nat → Nat → Option Int32} {E : Nat → SL → List Value → SH → SR} {pc pos : Nat} {nx : Option Nat} {L : SL} {st : List Value} {σ : SH} {k : SL → List Value → SH → SR}
theorem ac_ok : ([FieldType.int, .byte, .long].all fun t => lw_tbl.contains (.arrayClass t)) = true := by decide +kernel
theorem ac_at {t : FieldType} (hW : Wld l D) (hs : D.1.WarmedH s.vm) (h : t ∈ [FieldType.int, .byte, .long]) : (Cond.arrayClass t).before args s = true :=
  lg_at hW hs _ (List.mem_filter.mpr ⟨List.contains_iff_mem.mp (List.all_eq_true.mp ac_ok t h), rfl⟩)
theorem nwA_some {t : Nat} {n : Int32} {k : Nat → SH → SR} {r : (Option Value ⊕ Nat) × SH} (h : nwA σ t n k = some r) : ¬ n < 0 ∧ n.toNatClampNeg ≤ 60000 ∧ k (sZ σ) (mkC σ t n.toNatClampNeg n.toNatClampNeg) = some r := by
  unfold nwA at h
  split at h
  · cases h
  · rename_i q
    exact ⟨fun z => q (Or.inl z), by omega, h⟩
theorem sg_newarray (hW : Wld l D) (hF : Frm p R s m meth c D mi d) (hk : ∀ q, nx = some q → ∀ L st σ2, k L st σ2 = some (res, σf) → Go p l e R s m args below meth c D mi z0 y0 res σf q L st σ2)
    (hG : ∀ L st σ2, k L st σ2 = some (res, σf) → sZ σ2 ≤ sZ σf ∧ sS σ2 ≤ sS σf) (hRm : sZ σf ≤ z0 + R.cells ∧ sS σf ≤ y0 + R.slots) {t : ArrayType} (hok : okI mi pc nx pos (.newarray t) = true) (h : step1 C X E pc (.newarray t) L st σ k = some (res, σf)) : Go p l e R s m args below meth c D mi z0 y0 res σf pc L st σ := by
  have hs := hF.2.2.2.2.2.2.2.2.1
  simp only [okI, nxIs, Bool.and_eq_true, decide_eq_true_eq] at hok
  simp only [step1] at h
  intro H locs cells slots ls r1 r2 r3 r4 r5
  split at h
  · rename_i n st'
    have go : ∀ (tc : Nat) (ty : FieldType), newarray.typeOf t = ty → ty ∈ [FieldType.int, .byte, .long] → (∀ (H' : Heap) (cA : ClassId), H'[H.size]? = some (arrV cA n.toNatClampNeg (fun _ => defaultValue ty)) → ArrOfT s cA ty → okC D (mkC σ tc n.toNatClampNeg n.toNatClampNeg) H' (sZ σ)) →
        nwA σ tc n (fun a σ => k L (.ref a :: st') σ) = some (res, σf) → W p l e R s m args below meth c H locs cells slots (EndQ D below s args res σf z0 y0) (F0 m pc ls ((Value.int n :: st').map (tr D))) := by
      intro tc ty hty hmem hoc hh
      obtain ⟨hn0, hn6, hh⟩ := nwA_some hh
      have hg := hG _ _ _ hh
      have hz : sZ (mkC σ tc n.toNatClampNeg n.toNatClampNeg) = sZ σ + 1 := rfl
      have hz2 : sS (mkC σ tc n.toNatClampNeg n.toNatClampNeg) = sS σ + n.toNatClampNeg := rfl
      have hcb : componentBytes ty ≤ 8 := by
        simp only [List.mem_cons, List.mem_nil_iff, or_false] at hmem
        rcases hmem with rfl | rfl | rfl <;> decide
      refine W.newaK (atype := t) hF.1 hF.2.1 (by rw [hty]; exact ac_at hW hs hmem) rfl hok.1 rfl hn0 rfl (by rw [hty]; exact Nat.le_trans (Nat.mul_le_mul hn6 hcb) (by decide)) (by omega) (by omega) rfl fun H' cA k1 k2 k3 k4 => ?_
      rw [hty] at k1 k4
      have key := hk _ hok.2 _ _ _ hh H' locs (cells + 1) (slots + n.toNatClampNeg) ls (rep_new hW r1 k2 k3 (hoc H' cA k1 k4)) r2 r3 (by omega) (by omega)
      rw [List.map_cons, tr_at (by have := r1.1; omega), rho_new hW r1] at key
      exact key
    have hA : ∀ {ty : FieldType} {cA : ClassId} {N : Nat} {f : Nat → Value}, ArrOfT s cA ty → D.1.isArrayOf (arrV cA N f) ty := fun h => State.isArrayOf_alike hs.alike.symm (h _ _)
    have hv : ∀ {cA : ClassId} {N : Nat} {f : Nat → Value}, (arrV cA N f).vm ≠ .unknown := fun q => by cases q
    split at h
    · exact go 1 .int rfl (by simp) (fun H' cA q1 q2 => okC_int (if_pos rfl) ⟨_, by rw [rho_new hW r1]; exact q1, hA q2, hv, by rw [arrV_size]; exact (if_pos rfl).symm, fun i hi => by
        rw [arrV_read _ _ (by rw [show sN (mkC σ 1 n.toNatClampNeg n.toNatClampNeg) (sZ σ) = n.toNatClampNeg from if_pos rfl] at hi; exact hi), show sI (mkC σ 1 n.toNatClampNeg n.toNatClampNeg) (sZ σ) i = 0 from if_pos rfl]; rfl⟩) h
    · exact go 2 .byte rfl (by simp) (fun H' cA q1 q2 => okC_byt (if_pos rfl) ⟨_, by rw [rho_new hW r1]; exact q1, hA q2, hv, szB.of (by rw [arrV_size]; exact (if_pos rfl).symm), fun i hi => by
        rw [arrV_read _ _ (by rw [show sN (mkC σ 2 n.toNatClampNeg n.toNatClampNeg) (sZ σ) = n.toNatClampNeg from if_pos rfl] at hi; exact hi), show sI (mkC σ 2 n.toNatClampNeg n.toNatClampNeg) (sZ σ) i = 0 from if_pos rfl]; rfl⟩) h
    · exact go 3 .long rfl (by simp) (fun H' cA q1 q2 => okC_lng (if_pos rfl) ⟨_, by rw [rho_new hW r1]; exact q1, hA q2, hv, by rw [arrV_size]; exact (if_pos rfl).symm, fun i hi => by
        rw [arrV_read _ _ (by rw [show sN (mkC σ 3 n.toNatClampNeg n.toNatClampNeg) (sZ σ) = n.toNatClampNeg from if_pos rfl] at hi; exact hi), show sJ (mkC σ 3 n.toNatClampNeg n.toNatClampNeg) (sZ σ) i = 0 from if_pos rfl]; rfl⟩) h
    · cases h
  · cases h
theorem sg_anewarray (hW : Wld l D) (hF : Frm p R s m meth c D mi d) (hk : ∀ q, nx = some q → ∀ L st σ2, k L st σ2 = some (res, σf) → Go p l e R s m args below meth c D mi z0 y0 res σf q L st σ2)
    (hG : ∀ L st σ2, k L st σ2 = some (res, σf) → sZ σ2 ≤ sZ σf ∧ sS σ2 ≤ sS σf) (hRm : sZ σf ≤ z0 + R.cells ∧ sS σf ≤ y0 + R.slots) {t : Nat} (hok : okI mi pc nx pos (.anewarray t) = true) (h : step1 C X E pc (.anewarray t) L st σ k = some (res, σf)) : Go p l e R s m args below meth c D mi z0 y0 res σf pc L st σ := by
  have hs := hF.2.2.2.2.2.2.2.2.1
  simp only [okI] at hok
  split at hok
  · rename_i x hd
    simp only [nxIs, Bool.and_eq_true, decide_eq_true_eq] at hok
    obtain ⟨⟨⟨hnx, h13⟩, hw⟩, hov⟩ := hok
    simp only [step1] at h
    intro H locs cells slots ls r1 r2 r3 r4 r5
    split at h
    · rename_i n st'
      obtain ⟨hn0, hn6, h⟩ := nwA_some h
      have hg := hG _ _ _ h
      have hz : sZ (mkC σ (10 + t) n.toNatClampNeg n.toNatClampNeg) = sZ σ + 1 := rfl
      have hz2 : sS (mkC σ (10 + t) n.toNatClampNeg n.toNatClampNeg) = sS σ + n.toNatClampNeg := rfl
      have hover : (Cond.arrayOver (.object (cN t))).before args s = true := va_AO.use (va_AO.moved hs.alike (va_AO.of (hW.2.1 _ (List.contains_iff_mem.mp hov))))
      refine W.anew hF.1 hF.2.1 hF.2.2.2.1 (wd_at hW hs hw) hover rfl hd rfl hn0 (by omega) (by omega) (by omega) fun cA kA comp k1 k2 k3 k4 => ?_
      obtain ⟨k', hk', he⟩ := hs.alike.symm.2.2 _ _ k2
      have hcell : (H.push { cls := cA, slots := Array.replicate n.toNatClampNeg .null, vm := .none })[H.size]? = some { cls := cA, slots := Array.replicate n.toNatClampNeg .null, vm := .none } := by simp
      have eN1 : sN (mkC σ (10 + t) n.toNatClampNeg n.toNatClampNeg) (sZ σ) = n.toNatClampNeg := if_pos rfl
      have hrow : okRow D (mkC σ (10 + t) n.toNatClampNeg n.toNatClampNeg) (H.push { cls := cA, slots := Array.replicate n.toNatClampNeg .null, vm := .none }) (sZ σ) t := by
        refine ⟨{ cls := cA, slots := Array.replicate n.toNatClampNeg .null, vm := .none }, k', comp, ?_, ?_, ?_, hk', ?_, ?_, ?_, ?_⟩
        · rw [rho_new hW r1]; exact hcell
        · intro q z; cases z
        · intro z; cases z
        · rw [he]; exact k3
        · intro _; rw [← hs.alike.findClass]; exact k4
        · refine szB.of ?_; rw [eN1]; simp
        · intro i hi
          rw [eN1] at hi
          rw [show sV (mkC σ (10 + t) n.toNatClampNeg n.toNatClampNeg) (sZ σ) i = .null from if_pos rfl]
          simp [hi, tr]
      have key := hk _ hnx _ _ _ h (H.push { cls := cA, slots := Array.replicate n.toNatClampNeg .null, vm := .none }) locs (cells + 1) (slots + n.toNatClampNeg) ls (rep_new hW r1 (by simp) (fun q hq => by rw [Array.getElem?_push_lt hq]; exact (Array.getElem?_eq_getElem hq).symm) (okC_row (n := t) (if_pos rfl) (by omega) hrow)) r2 r3 (by omega) (by omega)
      rw [List.map_cons, tr_at (by have := r1.1; omega), rho_new hW r1] at key
      exact key
    · cases h
  · cases hok
end SG1
