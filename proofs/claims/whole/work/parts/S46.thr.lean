/-! arraycopy -/
section TH
variable {p : Program} {l : Launch} {e : Env} {R : Room} {s : State} {m : MethodId} {args : Array Value} {below : List Frame} {meth : Method} {c : Code} {D : SD} {mi d z0 y0 nn : Nat} {res : Option Value ⊕ Nat} {σf : SH}
variable {C : Nat → List Value → SH → SR} {E : Nat → SL → List Value → SH → SR} {X : Nat → Nat → Option Int32} {pc pos : Nat} {nx : Option Nat} {L : SL} {st : List Value} {σ : SH} {k : SL → List Value → SH → SR}
theorem cp_ok : (lw_tbl.contains (.native arraycopyName) && goodWord (.native arraycopyName) && lw_tbl.contains (.static arraycopyName) && goodWord (.static arraycopyName) && lw_tbl.contains (.initialized "java/lang/System") && goodWord (.initialized "java/lang/System")) = true := by decide +kernel
theorem nn_int {z : Int32} (hz : ¬ z < 0) : z.toInt = ((z.toNatClampNeg : Nat) : Int) := by
  have hz0 : (0 : Int) ≤ z.toInt := by
    have := Int32.not_lt.mp hz
    simpa using Int32.le_iff_toInt_le.mp this
  show z.toInt = ((z.toInt.toNat : Nat) : Int)
  omega
theorem th_copy (hW : Wld l D) (hF : Frm p R s m meth c D mi d) (hk : ∀ q, nx = some q → ∀ L st σ2, k L st σ2 = some (res, σf) → Go p l e R s m args below meth c D mi z0 y0 res σf q L st σ2) (hok : okI mi pc nx pos .monitorenter = true) (h : step1 C X E pc .monitorenter L st σ k = some (res, σf)) : Go p l e R s m args below meth c D mi z0 y0 res σf pc L st σ := by
  have hs := hF.2.2.2.2.2.2.2.2.1
  simp only [okI] at hok
  split at hok
  · rename_i x hd
    simp only [nxIs, Bool.and_eq_true, decide_eq_true_eq] at hok
    simp only [step1] at h
    intro H locs cells slots ls r1 r2 r3 r4 r5
    split at h
    · rename_i n q w sp v st'
      obtain ⟨hw8, h⟩ := ite_some h
      obtain ⟨a, ev, h2⟩ := aRef_some h
      obtain ⟨b, ew, h3⟩ := aRef_some h2
      obtain ⟨⟨ta, tb, hab, hp0, hq0, hn0, hpa, hqb⟩, h4⟩ := ite_some h3
      clear h h2 h3
      subst ev
      subst ew
      obtain ⟨hb2, hbz⟩ := rep_at r1 (a := b) (by omega) (by omega) (by omega) (by omega) (by omega) (by omega)
      obtain ⟨cs, s1, s2, s3, s4, s5⟩ := (r1.2.2.2.2.2.2 a).1 (Or.inl ta)
      obtain ⟨cd, d1, d2, d3, d4, d5⟩ := (r1.2.2.2.2.2.2 b).1 (Or.inl tb)
      have ho := cp_ok
      simp only [Bool.and_eq_true] at ho
      have w1 := lg_at (s := s) (args := args) hW hs _ (List.mem_filter.mpr ⟨List.contains_iff_mem.mp ho.1.1.1.1.1, ho.1.1.1.1.2⟩)
      have w2 := lg_at (s := s) (args := args) hW hs _ (List.mem_filter.mpr ⟨List.contains_iff_mem.mp ho.1.1.1.2, ho.1.1.2⟩)
      have w3 := lg_at (s := s) (args := args) hW hs _ (List.mem_filter.mpr ⟨List.contains_iff_mem.mp ho.1.2, ho.2⟩)
      rw [List.map_cons, List.map_cons, List.map_cons, List.map_cons, List.map_cons, tr_at (rep_39 r1 (a := a) (by omega)), tr_at (rep_39 r1 (a := b) (by omega))]
      obtain ⟨sv, ks, sk1, scomp, sk2⟩ := State.isArrayOf_alike hs.alike s2
      obtain ⟨dv, kd, dk1, dcomp, dk2⟩ := State.isArrayOf_alike hs.alike d2
      intro T hT XX
      have hR1 := hF.2.2.2.2.2.2.2.2.2.1
      have hR2 := hF.2.2.2.2.2.2.2.2.2.2
      have esp := nn_int hp0
      have edp := nn_int hq0
      have en := nn_int hn0
      have hget : ∀ i, i < n.toNatClampNeg → cs.slots.getD (sp.toNatClampNeg + i) .null = .int (sI σ a (sp.toNatClampNeg + i)) := fun i hi => by
        rw [Array.getD_eq_getD_getElem?, s5 _ (by omega)]
        rfl
      obtain ⟨vm', X', step⟩ := XX.arraycopy hF.1 hF.2.2.2.1 (wd_at hW hs hok.2) w1 w2 w3 (src := D.2.2.1 a) (dst := D.2.2.1 b) (cs := cs) (cd := cd) (srcPos := sp) (destPos := q) (n := n) (by rw [hT]; exact s1) (by rw [hT]; exact d1) sv dv s3 d3 sk1 dk1 sk2 dk2 rfl hp0 hq0 hn0
        (by rw [esp, en, s4]; omega) (by rw [edp, en, d4]; omega) (fun vm1 _ i hi => by rw [hget i hi]; exact ⟨rfl, trivial⟩)
        (g := F0 m pc ls (.int n :: .int q :: .ref (D.2.2.1 b) :: .int sp :: .ref (D.2.2.1 a) :: st'.map (tr D))) rfl (by rw [hF.2.2.1]; exact r2.2.1) (rest := st'.map (tr D)) rfl (by rw [hF.2.1]; exact hd) (by omega) (by
          show 2 * 0 + _ + (nativeFrameWords "java/lang/System" "arraycopy" 5 + 11) ≤ R.locals
          rw [cat_sum hW.2.2.2.2.1]
          have : nativeFrameWords "java/lang/System" "arraycopy" 5 ≤ 100 := by decide
          omega)
      have hcl : (cs.stretch sp.toNatClampNeg n.toNatClampNeg).length = n.toNatClampNeg := Cell.stretch_length _ _ _
      have hfacts := cd.storeRun_facts q.toNatClampNeg (cs.stretch sp.toNatClampNeg n.toNatClampNeg)
      have hlt : D.2.2.1 b < H.size := (Array.getElem?_eq_some_iff.mp d1).1
      have hHb : (H.setIfInBounds (D.2.2.1 b) (copied cs cd sp q n))[D.2.2.1 b]? = some (copied cs cd sp q n) := Array.getElem?_setIfInBounds_self_of_lt hlt
      have hokc : okC D (cpI σ a sp.toNatClampNeg b q.toNatClampNeg n.toNatClampNeg) (H.setIfInBounds (D.2.2.1 b) (copied cs cd sp q n)) b := by
        refine okC_int tb ⟨copied cs cd sp q n, hHb, ⟨?_, ?_⟩, ?_, ?_, fun j hj => ?_⟩
        · intro z; rw [show (copied cs cd sp q n).vm = cd.vm from hfacts.2.1]; exact d2.1 z
        · rw [show (copied cs cd sp q n).cls = cd.cls from hfacts.1]; exact d2.2
        · rw [show (copied cs cd sp q n).vm = cd.vm from hfacts.2.1]; exact d3
        · rw [show (copied cs cd sp q n).slots.size = cd.slots.size from hfacts.2.2.1]; exact d4
        · have hj' : j < sN σ b := hj
          rw [show (copied cs cd sp q n).slots[j]? = _ from cd.storeRun_get q.toNatClampNeg (cs.stretch sp.toNatClampNeg n.toNatClampNeg) j (by rw [hcl, d4]; exact hqb), hcl]
          by_cases hin : q.toNatClampNeg ≤ j ∧ j < q.toNatClampNeg + n.toNatClampNeg
          · rw [if_pos hin, show sI (cpI σ a sp.toNatClampNeg b q.toNatClampNeg n.toNatClampNeg) b j = sI σ a (sp.toNatClampNeg + (j - q.toNatClampNeg)) from if_pos ⟨rfl, hin⟩]
            unfold Cell.stretch
            rw [List.getElem?_map, List.getElem?_range (by omega)]
            show some (cs.slots.getD (sp.toNatClampNeg + (j - q.toNatClampNeg)) .null) = _
            rw [hget _ (by omega)]
          · rw [if_neg hin, show sI (cpI σ a sp.toNatClampNeg b q.toNatClampNeg n.toNatClampNeg) b j = sI σ b j from if_neg (fun z => hin z.2)]
            exact d5 j hj'
      have hrep : Rep D (cpI σ a sp.toNatClampNeg b q.toNatClampNeg n.toNatClampNeg) (H.setIfInBounds (D.2.2.1 b) (copied cs cd sp q n)) := rep_write (a := b) hW r1 hb2 (fun _ => rfl) (fun _ => rfl) rfl (fun z j hz => if_neg (fun y => hz y.1)) (fun _ _ _ => rfl) (fun _ _ _ => rfl) (by simp) (fun z hz => Array.getElem?_setIfInBounds_ne (fun y => hz y.symm)) hokc
      obtain ⟨t2, a1, b1⟩ := hk _ hok.1 _ _ _ h4 _ _ cells slots ls hrep r2 (fun z hz => by
        rcases List.mem_append.mp hz with y | y
        · exact r3 z y
        · obtain ⟨u, _, rfl⟩ := List.mem_map.mp y
          show D.1.heap.size ≤ D.2.2.1 b
          rw [hW.2.2.1 b hb2]
          exact Nat.le_add_right _ _) r4 r5 ((T.setVm vm').setCell (D.2.2.1 b) (copied cs cd sp q n)) (by rw [← hT]; rfl) X'
      exact ⟨t2, step t2 a1, b1⟩
    · cases h
  · cases hok
end TH
