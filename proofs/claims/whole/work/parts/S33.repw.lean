theorem okC_same {D : SD} {σ σ' : SH} {H H' : Heap} {b : Nat} (hT : sT σ' b = sT σ b) (hN : sN σ' b = sN σ b) (hI : ∀ k, sI σ' b k = sI σ b k) (hV : ∀ k, sV σ' b k = sV σ b k) (hJ : ∀ k, sJ σ' b k = sJ σ b k) (hH : H'[D.2.2.1 b]? = H[D.2.2.1 b]?) (h : okC D σ H b) : okC D σ' H' b := by
  simp only [okC, okInt, okByt, okLng, okRow, okObj, fv, hT, hN, hI, hV, hJ, hH] at h ⊢
  exact h
theorem rho_ne {l : Launch} {D : SD} (hW : Wld l D) {a b : Nat} (ha : 200 ≤ a) (hb : b ≠ a) : D.2.2.1 b ≠ D.2.2.1 a := by
  have h1 := hW.2.2.1 a ha
  rcases Nat.lt_or_ge b 200 with h | h
  · have h2 := hW.2.2.2.1 b h
    omega
  · have h2 := hW.2.2.1 b h
    omega
theorem rep_write {l : Launch} {D : SD} {σ σ' : SH} {H H' : Heap} {a : Nat} (hW : Wld l D) (hR : Rep D σ H) (ha : 200 ≤ a) (hT : ∀ b, sT σ' b = sT σ b) (hN : ∀ b, sN σ' b = sN σ b) (hZ : sZ σ' = sZ σ)
    (hI : ∀ b k, b ≠ a → sI σ' b k = sI σ b k) (hV : ∀ b k, b ≠ a → sV σ' b k = sV σ b k) (hJ : ∀ b k, b ≠ a → sJ σ' b k = sJ σ b k) (hs : H'.size = H.size) (hq : ∀ q, q ≠ D.2.2.1 a → H'[q]? = H[q]?) (hc : okC D σ' H' a) : Rep D σ' H' := by
  obtain ⟨r1, r2, r3, r4, r5, r7, r6⟩ := hR
  have h1 := hW.2.2.1 a ha
  refine ⟨by rw [hZ]; exact r1, by rw [hs, hZ]; exact r2, fun q hlt => ?_, fun b hb => by rw [hT]; exact r4 b hb, fun b hb => by rw [hT]; exact r5 b (by rw [← hZ]; exact hb), by rw [hT]; exact r7, fun b => ?_⟩
  · rw [hq q (by omega)]; exact r3 q hlt
  · by_cases e : b = a
    · subst e; exact hc
    · exact okC_same (hT b) (hN b) (fun k => hI b k e) (fun k => hV b k e) (fun k => hJ b k e) (hq _ (rho_ne hW ha e)) (r6 b)
theorem rep_new {l : Launch} {D : SD} {σ : SH} {H H' : Heap} {t n k : Nat} (hW : Wld l D) (hR : Rep D σ H) (hs : H'.size = H.size + 1) (hq : ∀ q, q < H.size → H'[q]? = H[q]?) (hc : okC D (mkC σ t n k) H' (sZ σ)) : Rep D (mkC σ t n k) H' := by
  obtain ⟨r1, r2, r3, r4, r5, r7, r6⟩ := hR
  have e1 : sZ (mkC σ t n k) = sZ σ + 1 := rfl
  have hTt : ∀ b, sT (mkC σ t n k) b = if b = sZ σ then t else sT σ b := fun b => rfl
  refine ⟨by omega, by omega, fun q hlt => ?_, fun b hb => ?_, fun b hb => ?_, by rw [hTt, if_neg (by omega)]; exact r7, fun b => ?_⟩
  · rw [hq q (by omega)]; exact r3 q hlt
  · rw [hTt, if_neg (by omega)]; exact r4 b hb
  · rw [hTt, if_neg (by omega)]; exact r5 b (by omega)
  · by_cases e : b = sZ σ
    · subst e; exact hc
    · by_cases e2 : sZ σ ≤ b
      · have h0 : sT (mkC σ t n k) b = 0 := by rw [hTt, if_neg e]; exact r5 b e2
        refine ⟨fun h => ?_, fun h => ?_, fun h => ?_, fun c h => ?_, fun c h => ?_⟩ <;> rw [h0] at h <;> omega
      · refine okC_same (by rw [hTt, if_neg e]) (if_neg e) (fun k => if_neg e) (fun k => if_neg e) (fun k => if_neg e) (hq _ ?_) (r6 b)
        rcases Nat.lt_or_ge b 200 with h | h
        · have h2 := hW.2.2.2.1 b h
          omega
        · have h2 := hW.2.2.1 b h
          omega
theorem rep_at {D : SD} {σ : SH} {H : Heap} {a : Nat} (hR : Rep D σ H) (h0 : sT σ a ≠ 0) (h4 : sT σ a ≠ 4) (h5 : sT σ a ≠ 5) (h6 : sT σ a ≠ 6) (h9 : sT σ a ≠ 109) (h13 : sT σ a ≠ 113) : 200 ≤ a ∧ a < sZ σ := by
  obtain ⟨r1, r2, r3, r4, r5, r7, r6⟩ := hR
  refine ⟨?_, ?_⟩
  · rcases Nat.lt_or_ge a 200 with h | h
    · rcases r4 a h with h | h | h | h | h | h <;> contradiction
    · exact h
  · rcases Nat.lt_or_ge a (sZ σ) with h | h
    · exact h
    · exact absurd (r5 a h) h0
theorem rep_39 {D : SD} {σ : SH} {H : Heap} {a : Nat} (hR : Rep D σ H) (h0 : sT σ a ≠ 0) : a ≠ 39 := fun e => h0 (e ▸ hR.2.2.2.2.2.1)
/-! what a run of a method owes at its end -/
def Qc (D : SD) (res : Option Value ⊕ Nat) (σf : SH) : Array Value → State → Outcome → State → Prop := fun _ _ o t => (∃ v, res = .inl v ∧ o = .returned (v.map (tr D))) ∧ D.1.WarmedH t.vm ∧ Rep D σf t.heap
def Xc (D : SD) (res : Option Value ⊕ Nat) (σf : SH) : String → State → State → Prop := fun E _ t => (∃ x, res = .inr x ∧ x < 5 ∧ E = eN x) ∧ Rep D σf t.heap
def Fr0 (D : SD) : Addr → Prop := fun q => D.1.heap.size ≤ q
def EndQ (D : SD) (below : List Frame) (s : State) (args : Array Value) (res : Option Value ⊕ Nat) (σf : SH) (z0 y0 : Nat) : State → Prop := vx_MQ below (Qc D res σf) (Xc D res σf) args s (sZ σf - z0) (sS σf - y0) (Fr0 D)
def Go (p : Program) (l : Launch) (e : Env) (R : Room) (s : State) (m : MethodId) (args : Array Value) (below : List Frame) (meth : Method) (c : Code) (D : SD) (mi z0 y0 : Nat) (res : Option Value ⊕ Nat) (σf : SH) (pc : Nat) (L : SL) (st : List Value) (σ : SH) : Prop :=
  ∀ (H : Heap) (locs : List Loc) (cells slots : Nat) (ls : Array Slot), Rep D σ H → lR D ls (mxOf mi) L → (∀ z ∈ locs, D.1.heap.size ≤ z.base) → z0 + cells = sZ σ → y0 + slots = sS σ →
    W p l e R s m args below meth c H locs cells slots (EndQ D below s args res σf z0 y0) (F0 m pc ls (st.map (tr D)))
def Frm (p : Program) (R : Room) (s : State) (m : MethodId) (meth : Method) (c : Code) (D : SD) (mi d : Nat) : Prop := p.tables.exec = Jvm.exec ∧ c.code = bsOf mi ∧ c.maxLocals = mxOf mi ∧ s.vm.findClass (yOf mi).cls = some m.cls ∧ meth.locks = false ∧ meth.sig.returnType = rtOf mi ∧ meth.name = (yOf mi).name ∧
  c.exceptionTable.toList = tableOf (hhOf mi) ∧ D.1.WarmedH s.vm ∧ d + 8 ≤ R.frames ∧ (d + 1) * 200 ≤ R.locals
/-- a word of the tables, at any state that the law's entry has warmed -/
theorem wd_at {l : Launch} {D : SD} {s : State} {args : Array Value} {i : Nat} {w : Cond} (hW : Wld l D) (hs : D.1.WarmedH s.vm) (h : wAt i w = true) : w.before args s = true := by
  unfold wAt at h
  rw [Bool.and_eq_true, decide_eq_true_eq] at h
  exact word_at hs (good_of_word h.2) (hW.2.1 w (List.mem_of_getElem? h.1))
