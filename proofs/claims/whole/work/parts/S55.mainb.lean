section MI
variable {p : Program} {l : Launch} {e : Env} {R : Room} {s : State} {m : MethodId} {args : Array Value} {below : List Frame} {meth : Method} {c : Code} {D : SD} {mi d z0 y0 nn : Nat} {res : Option Value ⊕ Nat} {σf : SH}
variable {E : Nat → SL → List Value → SH → SR} {pc pos : Nat} {nx : Option Nat} {L : SL} {st : List Value} {σ : SH} {k : SL → List Value → SH → SR}
theorem step1_pc {C : Nat → List Value → SH → SR} (q : Nat) (i : Instr) : step1 C (hndOf mi) E pc i L st σ k = step1 C (hndOf mi) E q i L st σ k := by
  cases i <;> rfl
theorem seek_ok : ∀ (rows : List (Nat × Instr)) (ps : List Nat), okRs mi nx rows ps = true → ∃ ps', okRs mi nx (seek pc rows) ps' = true
  | [], ps, h => ⟨ps, h⟩
  | r :: is, ps, h => by
    unfold seek
    split
    · exact ⟨ps, h⟩
    · unfold okRs at h
      rw [Bool.and_eq_true] at h
      exact seek_ok is ps.tail h.2
theorem seek_mem {r : Nat × Instr} : ∀ rows : List (Nat × Instr), r ∈ seek pc rows → r ∈ rows
  | [], h => h
  | q :: is, h => by
    unfold seek at h
    split at h
    · exact h
    · exact List.mem_cons_of_mem _ (seek_mem is h)
theorem seek_head {r : Nat × Instr} {js : List (Nat × Instr)} : ∀ rows : List (Nat × Instr), seek pc rows = r :: js → r.1 = pc
  | [], h => by cases h
  | q :: is, h => by
    unfold seek at h
    split at h
    · rename_i hq; cases h; exact hq
    · exact seek_head is h
theorem mi_rows (hW : Wld l D) (hF : Frm p R s m meth c D mi d) (hn : Sd D l nn) (hE : ∀ t, t < 100000 → ∀ L st σ2, E t L st σ2 = some (res, σf) → Go p l e R s m args below meth c D mi z0 y0 res σf t L st σ2) (hEG : ∀ p L st σ, Gro σ (E p L st σ))
    (hRm : sZ σf ≤ z0 + R.cells ∧ sS σf ≤ y0 + R.slots) : ∀ (is : List (Nat × Instr)) (ps : List Nat), okRs mi none is ps = true → (∀ r ∈ is, isCl r.2 = true → Thr p l e R s m args below meth c D mi z0 y0 res σf (hndOf mi) (r.1 % 100000)) → ∀ (r : Nat × Instr) (js : List (Nat × Instr)), is = r :: js → ∀ (L : SL) (st : List Value) (σ : SH),
      runL (CN nn d) (hndOf mi) E is L st σ = some (res, σf) → Go p l e R s m args below meth c D mi z0 y0 res σf (r.1 % 100000) L st σ := by
  intro is
  induction is with
  | nil => intro ps _ _ r js h; cases h
  | cons r0 is ih =>
    intro ps hok hT r js he L st σ h
    cases he
    unfold okRs at hok
    rw [Bool.and_eq_true] at hok
    have h2 : step1 (CN nn d) (hndOf mi) E r0.1 r0.2 L st σ (fun L st σ => runL (CN nn d) (hndOf mi) E is L st σ) = some (res, σf) := h
    rw [step1_pc (r0.1 % 100000)] at h2
    refine mi_row r0.2 hW hF hn ?_ hE (fun hc => hT r0 List.mem_cons_self hc) (Nat.mod_lt _ (by decide)) ?_ hRm hok.1 h2
    · intro q hq L st σ2 hr
      cases is with
      | nil => cases hq
      | cons r1 is1 =>
        have := ih ps.tail hok.2 (fun r hr hc => hT r (List.mem_cons_of_mem _ hr) hc) r1 is1 rfl L st σ2 hr
        cases hq
        exact this
    · intro L st σ2 hr
      exact runL_gro (fun id a σ => by
        unfold CN
        split
        · exact execN_gro PP _ _ _ _ _ _ _
        · exact Gro.nn _) hEG is L st σ2 _ _ hr
theorem sound (hW : Wld l D) : ∀ n, Sd D l n := by
  intro n
  induction n with
  | zero => intro d mi pc L st σ res σf h; cases h
  | succ n ih =>
    intro d mi pc L st σ res σf h hmi hpc p e R s m args below meth c z0 y0 hF hz hy
    have h2 : runL (CN n d) (hndOf mi) (fun pc L st σ => execN PP n d mi pc L st σ) (seek pc (nthD cdTab mi [])) L st σ = some (res, σf) := h
    have hokm := okM_all hmi
    unfold okMs at hokm
    obtain ⟨ps, hok⟩ := seek_ok (pc := pc) _ _ hokm
    cases hs : seek pc (nthD cdTab mi []) with
    | nil => rw [hs] at h2; cases h2
    | cons r js =>
      have hr : r.1 = pc := seek_head _ hs
      have key := mi_rows (E := fun pc L st σ => execN PP n d mi pc L st σ) hW hF ih (fun t ht L st σ2 hx => ih d mi t L st σ2 res σf hx hmi ht p e R s m args below meth c z0 y0 hF hz hy) (fun p L st σ => execN_gro PP n d mi p L st σ) ⟨hz, hy⟩ _ ps hok ?_ r js hs L st σ h2
      · rw [hr, Nat.mod_eq_of_lt hpc] at key
        exact key
      · intro r hr hc
        have hmem := seek_mem _ hr
        by_cases hlo : mi < 329
        · exact thr_lo hF hlo
        · by_cases hhi : mi < 371
          · have hA : hcA (329 + (mi - 329)) = true := hcG_42 (mi - 329) (by omega)
            rw [show 329 + (mi - 329) = mi by omega] at hA
            refine thr_hi hW hF hlo hA fun q hq => ?_
            unfold hcA at hA
            rw [Bool.and_eq_true] at hA
            have h3 := List.all_eq_true.mp hA.2 r hmem
            unfold isCl at hc
            split at hc
            · rename_i z hz2
              rw [hz2] at h3
              have h4 := List.all_eq_true.mp h3 q hq
              simp only [Bool.and_eq_true, decide_eq_true_eq] at h4
              exact h4
            · rename_i z hz2
              rw [hz2] at h3
              have h4 := List.all_eq_true.mp h3 q hq
              simp only [Bool.and_eq_true, decide_eq_true_eq] at h4
              exact h4
            · cases hc
          · have h371 : mi = 371 := by omega
            subst h371
            intro x σ1 hx5 hk
            have hX : hndOf 371 (r.1 % 100000) x = some 0 := rfl
            rw [hX] at hk
            cases hk
end MI
