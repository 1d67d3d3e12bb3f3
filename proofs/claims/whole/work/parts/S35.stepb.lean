section SB
variable {p : Program} {l : Launch} {e : Env} {R : Room} {s : State} {m : MethodId} {args : Array Value} {below : List Frame} {meth : Method} {c : Code} {D : SD} {mi d z0 y0 : Nat} {res : Option Value ⊕ Nat} {σf : SH}
variable {C : Nat → List Value → SH → SR} {X : Nat → Nat → Option Int32} {E : Nat → SL → List Value → SH → SR} {pc pos : Nat} {nx : Option Nat} {L : SL} {st : List Value} {σ : SH} {k : SL → List Value → SH → SR}
theorem ff_at {c k : Nat} (hs : D.1.WarmedH s.vm) (h : FF D.1 D c k) : FF s D c k := by
  obtain ⟨cf, kf, fi, fd, h1, h2⟩ := h
  obtain ⟨k', hi', -⟩ := State.fieldFound?_setVm hs.alike h1
  exact ⟨cf, k', fi, fd, hi', h2⟩
theorem aRef_some {v : Value} {k : Nat → SR} {r : (Option Value ⊕ Nat) × SH} (h : aRef v k = some r) : ∃ a, v = .ref a ∧ k a = some r := by
  cases v <;> first | (exact ⟨_, rfl, h⟩) | cases h
theorem rd2_some {v : Value} {n : SR} {k : Nat → SR} {r : (Option Value ⊕ Nat) × SH} (h : rd2 v n k = some r) : (v = .null ∧ n = some r) ∨ ∃ a, v = .ref a ∧ k a = some r := by
  cases v <;> first | (exact Or.inl ⟨rfl, h⟩) | (exact Or.inr ⟨_, rfl, h⟩) | cases h
theorem ite_some {q : Prop} [Decidable q] {a : SR} {r : (Option Value ⊕ Nat) × SH} (h : (if q then a else none) = some r) : q ∧ a = some r := by
  split at h
  · exact ⟨by assumption, h⟩
  · cases h
/-- one getfield, whatever the field's kind -/
theorem sb_get {x a n f : Nat} {v : Value} {rest : List Value} {H : Heap} {locs : List Loc} {cells slots : Nat} {ls : Array Slot} {Q : State → Prop} (hW : Wld l D) (hF : Frm p R s m meth c D mi d) (hR : Rep D σ H) (hd : decode (bsOf mi) pc = .ok (.getfield x, 3)) (hn : n < 14) (hf : f < nf n) (hw : wAt pos (.fieldLink (yOf mi).cls x (fT n f).1 (fT n f).2.1 (fT n f).2.2.1) = true)
    (ht : sT σ a = 100 + n) (hv : fv D σ a n f = v)
    (kk : W p l e R s m args below meth c H locs cells slots Q (F0 m (pc + 3) ls (v :: rest))) : W p l e R s m args below meth c H locs cells slots Q (F0 m pc ls (tr D (.ref a) :: rest)) := by
  have h39 : a ≠ 39 := rep_39 hR (by omega)
  rw [tr_at h39]
  obtain ⟨cell, c1, c2, c3, c4, c5, c6⟩ := (hR.2.2.2.2.2.2 a).2.2.2.2 n ht hn
  obtain ⟨cf, kf, fi, fd, i1, i2, i3⟩ := ff_at hF.2.2.2.2.2.2.2.2.1 ((hW.2.2.2.2.2.1 n hn).2 f hf)
  subst hv
  exact W.getf hF.1 hF.2.1 hF.2.2.2.1 (wd_at hW hF.2.2.2.2.2.2.2.2.1 hw) i1 i2 c1 c4 (by rw [i3]; exact c6 f hf) rfl rfl hd kk
theorem sb_getfield (hW : Wld l D) (hF : Frm p R s m meth c D mi d) (hk : ∀ q, nx = some q → ∀ L st σ2, k L st σ2 = some (res, σf) → Go p l e R s m args below meth c D mi z0 y0 res σf q L st σ2) {n : Nat} (hok : okI mi pc nx pos (.getfield n) = true) (h : step1 C X E pc (.getfield n) L st σ k = some (res, σf)) : Go p l e R s m args below meth c D mi z0 y0 res σf pc L st σ := by
  simp only [okI] at hok
  split at hok
  · rename_i x hd
    simp only [nxIs, Bool.and_eq_true, decide_eq_true_eq] at hok
    obtain ⟨⟨⟨⟨hn, h14⟩, hf⟩, hkd⟩, hw⟩ := hok
    simp only [step1] at h
    split at h
    · intro H locs cells slots ls r1 r2 r3 r4 r5
      split at h
      · rename_i h0
        obtain ⟨a, rfl, h⟩ := aRef_some h
        obtain ⟨ht, h⟩ := ite_some h
        rw [if_pos h0] at hkd
        exact sb_get hW hF r1 hd h14 hf hw ht (by unfold fv; rw [if_neg (by simpa using hkd)]; rfl) (hk _ hn _ _ _ h H locs cells slots ls r1 r2 r3 r4 r5)
      · rename_i h0
        obtain ⟨a, rfl, h⟩ := aRef_some h
        obtain ⟨ht, h⟩ := ite_some h
        obtain ⟨b, hv, h⟩ := aRef_some h
        rw [if_neg (by omega)] at hkd
        exact sb_get hW hF r1 hd h14 hf hw ht (by unfold fv; rw [if_pos hkd, hv]) (hk _ hn _ _ _ h H locs cells slots ls r1 r2 r3 r4 r5)
      · rename_i h0 h1
        obtain ⟨a, rfl, h⟩ := aRef_some h
        obtain ⟨ht, h⟩ := ite_some h
        rw [if_neg h0] at hkd
        rcases rd2_some h with ⟨hv, h⟩ | ⟨b, hv, h⟩
        · exact sb_get hW hF r1 hd h14 hf hw ht (by unfold fv; rw [if_pos hkd, hv]) (hk _ hn _ _ _ h H locs cells slots ls r1 r2 r3 r4 r5)
        · exact sb_get hW hF r1 hd h14 hf hw ht (by unfold fv; rw [if_pos hkd, hv]) (hk _ hn _ _ _ h H locs cells slots ls r1 r2 r3 r4 r5)
    · cases h
  · cases hok
theorem bin_of {i : Int32} {n : Nat} (h : bIn i n = true) : ¬ (i < 0 ∨ n ≤ i.toNatClampNeg) := by
  simpa [bIn, not_or] using h
theorem sb_alen {t : Nat} {H : Heap} {a : Nat} (hR : Rep D σ H) (ht : (1 ≤ sT σ a ∧ sT σ a ≤ 6) ∨ (10 ≤ sT σ a ∧ sT σ a < 100)) : ∃ (cell : Cell) (ty : FieldType), H[D.2.2.1 a]? = some cell ∧ D.1.isArrayOf cell ty ∧ szB cell (sN σ a) := by
  have ho := hR.2.2.2.2.2.2 a
  have hrow : ∀ c, okRow D σ H a c → ∃ (cell : Cell) (ty : FieldType), H[D.2.2.1 a]? = some cell ∧ D.1.isArrayOf cell ty ∧ szB cell (sN σ a) := fun c h => by
    obtain ⟨cl, kA, comp, q1, q2, q3, q4, q5, q6, q7, q8⟩ := h
    exact ⟨cl, _, q1, ⟨q2, kA, q4, comp, q5⟩, q7⟩
  rcases ht with ⟨h1, h6⟩ | ⟨h10, h100⟩
  · have : sT σ a = 1 ∨ sT σ a = 2 ∨ sT σ a = 3 ∨ sT σ a = 4 ∨ sT σ a = 5 ∨ sT σ a = 6 := by omega
    rcases this with q | q | q | q | q | q
    · obtain ⟨cell, q1, q2, q3, q4, q5⟩ := ho.1 (Or.inl q); exact ⟨cell, _, q1, q2, szB.of q4⟩
    · obtain ⟨cell, q1, q2, q3, q4, q5⟩ := ho.2.1 (Or.inl q); exact ⟨cell, _, q1, q2, q4⟩
    · obtain ⟨cell, q1, q2, q3, q4, q5⟩ := ho.2.2.1 q; exact ⟨cell, _, q1, q2, szB.of q4⟩
    · obtain ⟨cell, q1, q2, q3, q4, q5⟩ := ho.1 (Or.inr q); exact ⟨cell, _, q1, q2, szB.of q4⟩
    · obtain ⟨cell, q1, q2, q3, q4, q5⟩ := ho.2.1 (Or.inr q); exact ⟨cell, _, q1, q2, q4⟩
    · exact hrow 9 (ho.2.2.2.1 9 (Or.inr ⟨q, rfl⟩))
  · exact hrow (sT σ a - 10) (ho.2.2.2.1 (sT σ a - 10) (Or.inl ⟨by omega, by omega⟩))
theorem sb_arraylength (hW : Wld l D) (hF : Frm p R s m meth c D mi d) (hk : ∀ q, nx = some q → ∀ L st σ2, k L st σ2 = some (res, σf) → Go p l e R s m args below meth c D mi z0 y0 res σf q L st σ2) (hok : okI mi pc nx pos .arraylength = true) (h : step1 C X E pc .arraylength L st σ k = some (res, σf)) : Go p l e R s m args below meth c D mi z0 y0 res σf pc L st σ := by
  simp only [okI, nxIs, Bool.and_eq_true, decide_eq_true_eq] at hok
  simp only [step1] at h
  split at h
  · intro H locs cells slots ls r1 r2 r3 r4 r5
    obtain ⟨a, rfl, h⟩ := aRef_some h
    obtain ⟨ht, h⟩ := ite_some h
    obtain ⟨cell, ty, q1, q2, q3⟩ := sb_alen (t := 0) r1 ht
    rw [List.map_cons, tr_at (rep_39 r1 (by omega))]
    exact W.alen hF.1 hF.2.1 q1 (State.isArrayOf_alike hF.2.2.2.2.2.2.2.2.1.alike q2) (n := Int32.ofNat (sN σ a)) q3.2 rfl rfl hok.1 (hk _ hok.2 _ _ _ h H locs cells slots ls r1 r2 r3 r4 r5)
  · cases h
end SB
