section TY
variable {p : Program} {l : Launch} {e : Env} {R : Room} {s : State} {m : MethodId} {args : Array Value} {below : List Frame} {meth : Method} {c : Code} {D : SD} {mi d z0 y0 nn : Nat} {res : Option Value ⊕ Nat} {σf : SH}
variable {C : Nat → List Value → SH → SR} {E : Nat → SL → List Value → SH → SR} {X : Nat → Nat → Option Int32} {pc pos : Nat} {nx : Option Nat} {L : SL} {st : List Value} {σ : SH} {k : SL → List Value → SH → SR}
theorem rx_dec (x : Nat) : decode (rxOf x) 0 = .ok (.aload_n 0, 1) ∧ decode (rxOf x) 1 = .ok (.aload_n 1, 1) ∧ decode (rxOf x) 2 = .ok (.invokespecial (ixOf x), 3) ∧ decode (rxOf x) 5 = .ok (.return_, 1) := by
  unfold rxOf ixOf
  split
  · decide +kernel
  · exact ⟨Bundle.six_0, Bundle.six_1, Bundle.six_2, Bundle.six_5⟩
theorem ex_ok : (List.range 5).all (fun x => Bundle.fit (eN x) && lw_tbl.contains (.initialized (eN x)) && goodWord (.initialized (eN x))) = true := by decide +kernel
/-- the whole of a throw -/
theorem ty_throw {H : Heap} {locs : List Loc} {cells slots : Nat} {ls : Array Slot} {x ik is ic o : Nat} (hW : Wld l D) (hF : Frm p R s m meth c D mi d) (hhh : hhOf mi = []) (hx : x < 5) (hk : wAt pos (.classLink (yOf mi).cls ik (eN x)) = true) (hic : (Cond.methodLink (yOf mi).cls ic (Bundle.initS (eN x))) ∈ lw_tbl) {text : String} (his : (Cond.stringRef (yOf mi).cls is text) ∈ lw_tbl)
    (r1 : Rep D σ H) (r2 : lR D ls (mxOf mi) L) (r3 : ∀ z ∈ locs, D.1.heap.size ≤ z.base) (r4 : z0 + cells = sZ σ) (r5 : y0 + slots = sS σ) (hRm : sZ σ + 1 ≤ z0 + R.cells ∧ sS σ + 6 ≤ y0 + R.slots)
    (d0 : decode (bsOf mi) pc = .ok (.new ik, 3)) (d3 : decode (bsOf mi) (pc + 3) = .ok (.dup, 1)) (d4 : (decode (bsOf mi) (pc + 4) = .ok (.ldc is, 2) ∧ o = pc + 6) ∨ (decode (bsOf mi) (pc + 4) = .ok (.ldc_w is, 3) ∧ o = pc + 7)) (d6 : decode (bsOf mi) o = .ok (.invokespecial ic, 3)) (d9 : decode (bsOf mi) (o + 3) = .ok (.athrow, 1)) :
    W p l e R s m args below meth c H locs cells slots (EndQ D below s args (.inr x) (mkC σ 0 0 6) z0 y0) (F0 m pc ls []) := by
  have hs := hF.2.2.2.2.2.2.2.2.1
  have hfix := List.all_eq_true.mp ex_ok x (List.mem_range.mpr hx)
  simp only [Bool.and_eq_true] at hfix
  obtain ⟨⟨hfit, hi1⟩, hi2⟩ := hfix
  have hown := hF.2.2.2.1
  have hlocks := hF.2.2.2.2.1
  have hR1 := hF.2.2.2.2.2.2.2.2.2.1
  have hR2 := hF.2.2.2.2.2.2.2.2.2.2
  have htab : ∀ z ∈ c.exceptionTable.toList, covers z (o + 3) = false := fun z hz => by
    rw [hF.2.2.2.2.2.2.2.1, hhh] at hz
    cases hz
  intro T hT XX
  have htr : e.platform.stackTraces = false := (show e.platform.stackTraces = l.stackTraces by rw [XX.admits.platform]).trans hW.1
  have Y := vx_rebase XX (R' := { frames := R.frames, locals := R.locals, cells := 1, slots := 6 }) (Nat.le_refl _) (Nat.le_refl _) (by show cells + 1 ≤ R.cells; omega) (by show slots + 6 ≤ R.slots; omega)
  obtain ⟨s', hA⟩ : ∃ z, z = (T.setVm s.vm).setFrames (.invoking m args :: below) := ⟨_, rfl⟩
  rw [← hA] at Y
  have hvm : s'.vm = s.vm := by rw [hA]; rfl
  have hhp : s'.heap = H := by rw [hA]; exact hT
  have hs' : D.1.WarmedH s'.vm := by rw [hvm]; exact hs
  have kep : ∀ a : Nat, a < D.1.heap.size → ¬ D.1.heap.size ≤ a → H[a]? = D.1.heap[a]? := fun a h1 _ => r1.2.2.1 a h1
  have hU' : vx_Zq Bundle.tN "UNASSIGNED_STACK" Bundle.steD (fun q => D.1.heap.size ≤ q) s' s'.heap := by rw [hhp]; exact vx_Zq.moved hs'.alike (hW.2.2.2.2.2.2.2.2.2.2.1.kept kep)
  have hN' : vx_Zq Bundle.tN "SUPPRESSED_SENTINEL" Bundle.listD (fun q => D.1.heap.size ≤ q) s' s'.heap := by rw [hhp]; exact vx_Zq.moved hs'.alike (hW.2.2.2.2.2.2.2.2.2.2.2.1.kept kep)
  have h : ∀ w ∈ tex_at (yOf mi).cls ic (eN x) (ixOf x) (rxOf x) "java/lang/RuntimeException" ["java/lang/Exception"], w.before args s' = true := by
    refine vx_own (fun w hw => ?_) (vx_isRefq hU'.1) (vx_isRefq hN'.1) hU'.2.word hN'.2.word
    obtain ⟨hw1, hw2⟩ := List.mem_filter.mp hw
    rcases List.mem_cons.mp hw1 with e1 | e1
    · rw [e1]; exact gd_at hW hs' hic rfl
    · exact tx_all hW hs' hx w (List.mem_filter.mpr ⟨e1, hw2⟩)
  have hown' : s'.vm.findClass (yOf mi).cls = some m.cls := by rw [hvm]; exact hown
  have hini' : (Cond.initialized (eN x)).before args s' = true := word_at hs' (good_of_word hi2) (hW.2.1 _ (List.contains_iff_mem.mp hi1))
  have hins : (Cond.instantiable (eN x) 6).before args s' = true := h _ (by simp [tex_at, tx_b])
  obtain ⟨vm₁, cX, kX, hfX, hkX, -, -, X₁, st1⟩ := Y.newCold hF.1 (own := (yOf mi).cls) (C := eN x) (index := ik) (n := 6) hown' (wd_at hW hs' hk) hins hini' (g := F0 m pc ls []) rfl (by rw [hF.2.1]; exact d0) (Nat.le_refl _) (Nat.le_refl _)
  generalize hT1 : (T.setVm vm₁).pushCell { cls := cX, slots := kX.instanceTypes.map defaultValue, vm := .none } = T1 at X₁ st1
  have hcellA : T1.heap[T.heap.size]? = some (freshCell cX kX) := by rw [← hT1]; exact State.heap_pushCell_size _ _
  have hT1s : T1.heap.size = T.heap.size + 1 := by rw [← hT1]; exact Array.size_push _
  have d3' : decode c.code (pc + 3) = .ok (.dup, 1) := by rw [hF.2.1]; exact d3
  obtain ⟨sa, hstr⟩ : ∃ sa, vk_R (yOf mi).cls is text sa s' := by
    have h1 := hW.2.1 _ his
    obtain ⟨cur, hcur⟩ : ∃ cur, D.1.vm.findClass (yOf mi).cls = some cur := ⟨m.cls, by rw [← hs.alike.findClass]; exact hown⟩
    obtain ⟨k9, cf, i9, a9, -, -, -, -, -, hev⟩ := Cond.stringRef_spec hcur h1
    exact ⟨a9, vk_R.warm hs' (vk_R.of h1 hev)⟩
  obtain ⟨q0, q1, q2, q5⟩ := rx_dec x
  obtain ⟨U, hsteps, hrun, hend, hWU, hsame, hsz, ce, hce, hcv, hcl⟩ := tx_ctor X₁ hF.1 htr (own := (yOf mi).cls) (cls := eN x) (ic := ic) q0 q1 q2 q5 hown' hfit (by decide +kernel) (by decide +kernel) h hfX hkX hcellA (by rw [hhp, hT]; exact Nat.le_refl _) (msg := .ref sa) rfl
    (g := { method := m, pc := o, locals := ls, stack := .ref sa :: .ref T.heap.size :: .ref T.heap.size :: [], locked := none }) rfl (by rw [hF.2.2.1]; exact r2.2.1) rfl rfl (rest := []) rfl
    (by rw [hF.2.1]; exact d6) (by rw [hF.2.1]; exact d9) htab (by show 1 + 4 < R.frames; omega) (by show 2 * 0 + (1 + 0) + (13 * (1 + 2) + 42) ≤ R.locals; omega) hlocks
  obtain ⟨f1, f2⟩ := vx_frame hsame
  rw [hhp] at f1 f2
  have hWs : s.WarmedH U.vm := by
    have hq : s.WarmedH s'.vm := by rw [hvm]; exact State.WarmedH.refl s
    exact State.WarmedH.trans hq hWU
  have hcl' : s.vm.findClass (eN x) = some ce.cls := by
    rw [hvm] at hcl
    exact hcl
  have hall : s.sameButNew ({ U with vm := s.vm } : State) locs (cells + 1) (slots + 6) := by
    subst hA
    obtain ⟨e1, e2⟩ := hsame
    rw [State.setFrames_setFrames] at e1
    have h2 : (T.setVm s.vm).sameButNew ({ U with vm := s.vm } : State) [] (0 + 1) (0 + 6) := ⟨e1, e2⟩
    have h3 := XX.same.trans h2
    rw [List.append_nil] at h3
    exact h3.mono (by omega) (by omega)
  have hrep : Rep D (mkC σ 0 0 6) U.heap := by
    refine rep_new hW r1 (by rw [hsz, hT1s, hT]) (fun q hq => f2 q hq (fun z hz => nomatch hz)) ?_
    have h0 : sT (mkC σ 0 0 6) (sZ σ) = 0 := if_pos rfl
    refine ⟨fun h => ?_, fun h => ?_, fun h => ?_, fun c h => ?_, fun c h => ?_⟩ <;> rw [h0] at h <;> omega
  have hz1 : sZ (mkC σ 0 0 6) = sZ σ + 1 := rfl
  have hz2 : sS (mkC σ 0 0 6) = sS σ + 6 := rfl
  refine ⟨U, ?_, .threw T.heap.size, hrun, hend, Or.inr ⟨T.heap.size, rfl, eN x, ce, locs, ⟨⟨x, rfl, hx, rfl⟩, hrep⟩, hce, hcv, hcl', hWs, hall.mono (by omega) (by omega), r3⟩⟩
  refine st1 _ ?_
  show Steps p.tables e below (T1.setTop { method := m, pc := pc + 3, locals := ls, stack := .ref T.heap.size :: [], locked := none }) _
  jvm_step X₁.here [X₁.here.top, hF.1, d3', Value.category]
  rcases d4 with ⟨d4, rfl⟩ | ⟨d4, rfl⟩
  · exact X₁.ldcString hF.1 (own := (yOf mi).cls) (text := text) (index := is) (a := sa) hown' hstr.1 hstr.2
      (g := { method := m, pc := pc + 4, locals := ls, stack := .ref T.heap.size :: .ref T.heap.size :: [], locked := none }) rfl (by rw [hF.2.1]; exact d4) _ hsteps
  · exact X₁.ldcStringW hF.1 (own := (yOf mi).cls) (text := text) (index := is) (a := sa) hown' hstr.1 hstr.2
      (g := { method := m, pc := pc + 4, locals := ls, stack := .ref T.heap.size :: .ref T.heap.size :: [], locked := none }) rfl (by rw [hF.2.1]; exact d4) _ hsteps
theorem th_new (hW : Wld l D) (hF : Frm p R s m meth c D mi d) (hRm : sZ σf ≤ z0 + R.cells ∧ sS σf ≤ y0 + R.slots) {n : Nat} (hn : ¬ n < 100) (hok : okI mi pc nx pos (.new n) = true) (h : step1 C X E pc (.new n) L st σ k = some (res, σf)) : Go p l e R s m args below meth c D mi z0 y0 res σf pc L st σ := by
  simp only [step1, if_neg hn] at h
  split at h
  · cases h
    have hz1 : sZ (mkC σ 0 0 6) = sZ σ + 1 := rfl
    have hz2 : sS (mkC σ 0 0 6) = sS σ + 6 := rfl
    simp only [okI, if_neg hn] at hok
    intro H locs cells slots ls r1 r2 r3 r4 r5
    have fin : ∀ y z : Nat, throwOk (yOf mi).cls y z (n - 100) = true → (Cond.methodLink (yOf mi).cls z (Bundle.initS (eN (n - 100)))) ∈ lw_tbl ∧ ∃ text, (Cond.stringRef (yOf mi).cls y text) ∈ lw_tbl := fun y z ht => by
      unfold throwOk at ht
      rw [Bool.and_eq_true] at ht
      refine ⟨List.contains_iff_mem.mp ht.1, ?_⟩
      obtain ⟨w, hw1, hw2⟩ := List.any_eq_true.mp ht.2
      split at hw2
      · simp only [Bool.and_eq_true, decide_eq_true_eq] at hw2
        rw [hw2.1, hw2.2] at hw1
        exact ⟨_, hw1⟩
      · cases hw2
    split at hok
    · rename_i x y g1 g2 g3
      split at hok
      · rename_i z g4 g5
        simp only [Bool.and_eq_true, decide_eq_true_eq] at hok
        obtain ⟨⟨⟨h5, hk⟩, hhh⟩, ht⟩ := hok
        obtain ⟨hic, text, his⟩ := fin y z ht
        exact ty_throw hW hF hhh (by omega) hk hic his r1 r2 r3 r4 r5 (by omega) g1 g2 (Or.inl ⟨g3, rfl⟩) g4 g5
      · cases hok
    · rename_i x y g1 g2 g3
      split at hok
      · rename_i z g4 g5
        simp only [Bool.and_eq_true, decide_eq_true_eq] at hok
        obtain ⟨⟨⟨h5, hk⟩, hhh⟩, ht⟩ := hok
        obtain ⟨hic, text, his⟩ := fin y z ht
        exact ty_throw hW hF hhh (by omega) hk hic his r1 r2 r3 r4 r5 (by omega) g1 g2 (Or.inr ⟨g3, rfl⟩) g4 g5
      · cases hok
    · cases hok
  · cases h
end TY
