section SF1
variable {p : Program} {l : Launch} {e : Env} {R : Room} {s : State} {m : MethodId} {args : Array Value} {below : List Frame} {meth : Method} {c : Code} {D : SD} {mi d z0 y0 : Nat} {res : Option Value ⊕ Nat} {σf : SH}
variable {C : Nat → List Value → SH → SR} {X : Nat → Nat → Option Int32} {E : Nat → SL → List Value → SH → SR} {pc pos : Nat} {nx : Option Nat} {L : SL} {st : List Value} {σ : SH} {k : SL → List Value → SH → SR}
theorem tsw_some {x : Int32} {r : (Option Value ⊕ Nat) × SH} {d : SR} {E : Nat → SR} : ∀ (ts : List Int) (i : Int), tsw x i ts d E = some r → (∃ (j : Nat) (t : Int), ts[j]? = some t ∧ x = Int32.ofInt (i + j) ∧ E (jmp t) = some r) ∨ ((∀ j : Nat, j < ts.length → x ≠ Int32.ofInt (i + j)) ∧ d = some r)
  | [], i, h => Or.inr ⟨fun j hj => absurd hj (Nat.not_lt_zero j), h⟩
  | t :: ts, i, h => by
    unfold tsw at h
    split at h
    · rename_i hx
      exact Or.inl ⟨0, t, rfl, by simpa using hx, h⟩
    · rename_i hx
      rcases tsw_some ts (i + 1) h with ⟨j, u, h1, h2, h3⟩ | ⟨h1, h2⟩
      · exact Or.inl ⟨j + 1, u, by simpa using h1, by rw [h2]; congr 1; omega, h3⟩
      · refine Or.inr ⟨fun j hj => ?_, h2⟩
        cases j with
        | zero => simpa using hx
        | succ j =>
          have := h1 j (by simpa using hj)
          intro q
          apply this
          rw [q]
          congr 1
          omega
theorem ofI_small {z : Int} (h0 : 0 ≤ z) (h1 : z < 100000) : (Int32.ofInt z).toInt = z := by
  rw [Int32.toInt_ofInt]
  rw [Int.bmod_def]
  have : z % (2 ^ 32 : Nat) = z := Int.emod_eq_of_lt h0 (by omega)
  simp only [Int32.size] at *
  omega
theorem sf_tableswitch (hW : Wld l D) (hF : Frm p R s m meth c D mi d) (hE : ∀ t, t < 100000 → ∀ L st σ2, E t L st σ2 = some (res, σf) → Go p l e R s m args below meth c D mi z0 y0 res σf t L st σ2) {dt lo hi : Int} {ts : Array Int} (hok : okI mi pc nx pos (.tableswitch dt lo hi ts) = true) (h : step1 C X E pc (.tableswitch dt lo hi ts) L st σ k = some (res, σf)) : Go p l e R s m args below meth c D mi z0 y0 res σf pc L st σ := by
  simp only [okI] at hok
  split at hok
  · rename_i d2 lo2 hi2 os len hd
    simp only [Bool.and_eq_true, decide_eq_true_eq] at hok
    obtain ⟨⟨⟨⟨⟨⟨⟨⟨rfl, rfl⟩, hdt⟩, hd5⟩, hall⟩, hmap⟩, hlen⟩, hlo⟩, hhi⟩ := hok
    simp only [step1] at h
    intro H locs cells slots ls r1 r2 r3 r4 r5
    split at h
    · rename_i x st'
      have hl2 : ts.toList.length = os.size := by
        have := congrArg List.length hmap
        simpa using this.symm
      rcases tsw_some _ _ h with ⟨j, t, h1, h2, h3⟩ | ⟨h1, h2⟩
      · have hj : j < ts.toList.length := (List.getElem?_eq_some_iff.mp h1).1
        have hx : x.toInt = lo2 + j := by rw [h2]; exact ofI_small (by omega) (by omega)
        have hoj : ∃ o, os[j]? = some o ∧ (pc : Int) + o = (jmp t : Int) := by
          have := congrArg (fun z => z[j]?) hmap
          simp only [List.getElem?_map, h1, Option.map_some, Array.getElem?_toList] at this
          cases ho : os[j]? with
          | none => rw [ho] at this; cases this
          | some o => rw [ho] at this; exact ⟨o, rfl, Option.some.inj this⟩
        obtain ⟨o, ho, hpo⟩ := hoj
        have ht5 : jmp t < 100000 := by
          have := List.all_eq_true.mp hall t (List.mem_of_getElem? h1)
          simpa using this
        exact lv_tableIn hF.1 hF.2.1 hd (by omega) (by omega) (by rw [show (x.toInt - lo2).toNat = j by omega]; exact ho) hpo (hE _ ht5 _ _ _ h3 H locs cells slots ls r1 r2 r3 r4 r5)
      · have hout : x.toInt < lo2 ∨ hi2 < x.toInt := by
          rcases (show x.toInt < lo2 ∨ lo2 ≤ x.toInt by omega) with q | q
          · exact Or.inl q
          · rcases (show hi2 < x.toInt ∨ x.toInt ≤ hi2 by omega) with q2 | q2
            · exact Or.inr q2
            · exfalso
              refine h1 (x.toInt - lo2).toNat (by omega) ?_
              rw [show lo2 + (((x.toInt - lo2).toNat : Nat) : Int) = x.toInt by omega]
              exact (Int32.ofInt_toInt x).symm
        exact lv_tableOut hF.1 hF.2.1 hd hout hdt (hE _ hd5 _ _ _ h2 H locs cells slots ls r1 r2 r3 r4 r5)
    · cases h
  · cases hok
theorem cat_sum (hfm : D.2.2.2.1 = .null ∨ ∃ q, D.2.2.2.1 = .ref q) : ∀ st : List Value, ((st.map (tr D)).map fun v => v.category).sum = wds st
  | [] => rfl
  | v :: st => by
    have := cat_sum hfm st
    unfold wds at this ⊢
    rw [List.map_cons, List.map_cons, List.map_cons, List.sum_cons, List.sum_cons, this]
    rw [tr_cat hfm]
theorem oi_ok : (lw_tbl.contains (.instanceMethod Lib.objectInit) && goodWord (.instanceMethod Lib.objectInit) && lw_tbl.contains (.code Lib.objectInit ⟨#[0xb1]⟩ 1 none) && goodWord (.code Lib.objectInit ⟨#[0xb1]⟩ 1 none)) = true := by decide +kernel
theorem sf_monitorexit (hW : Wld l D) (hF : Frm p R s m meth c D mi d) (hk : ∀ q, nx = some q → ∀ L st σ2, k L st σ2 = some (res, σf) → Go p l e R s m args below meth c D mi z0 y0 res σf q L st σ2) (hok : okI mi pc nx pos .monitorexit = true) (h : step1 C X E pc .monitorexit L st σ k = some (res, σf)) : Go p l e R s m args below meth c D mi z0 y0 res σf pc L st σ := by
  have hs := hF.2.2.2.2.2.2.2.2.1
  simp only [okI] at hok
  split at hok
  · rename_i x hd
    simp only [nxIs, Bool.and_eq_true, decide_eq_true_eq] at hok
    simp only [step1] at h
    intro H locs cells slots ls r1 r2 r3 r4 r5
    split at h
    · rename_i a st'
      obtain ⟨⟨h39, hw8⟩, h⟩ := ite_some h
      have ho := oi_ok
      simp only [Bool.and_eq_true] at ho
      have w1 := lg_at (s := s) (args := args) hW hs _ (List.mem_filter.mpr ⟨List.contains_iff_mem.mp ho.1.1.1, ho.1.1.2⟩)
      have w2 := lg_at (s := s) (args := args) hW hs _ (List.mem_filter.mpr ⟨List.contains_iff_mem.mp ho.1.2, ho.2⟩)
      rw [List.map_cons, tr_at h39]
      have h1 := hF.2.2.2.2.2.2.2.2.2.1
      have h2 := hF.2.2.2.2.2.2.2.2.2.2
      exact W.objInit hF.1 hF.2.1 hF.2.2.2.1 (wd_at hW hs hok.2) w1 w2 rfl (by rw [hF.2.2.1]; exact r2.2.1) rfl hd (by omega) (by show 2 * 0 + _ + 12 ≤ _; rw [cat_sum hW.2.2.2.2.1]; omega) (hk _ hok.1 _ _ _ h H locs cells slots ls r1 r2 r3 r4 r5)
    · cases h
  · cases hok
theorem rho_new {H : Heap} (hW : Wld l D) (r1 : Rep D σ H) : D.2.2.1 (sZ σ) = H.size := by
  rw [hW.2.2.1 _ r1.1, r1.2.1]
def ipOk (n : Nat) : Bool := wAt (nthD ipTab n (0, 0)).1 (.instantiable (cN n) (nsl n)) && wAt (nthD ipTab n (0, 0)).2 (.initialized (cN n))
theorem ip_ok : (List.range 13).all (fun n => n == 9 || ipOk n) = true := by decide +kernel
theorem ip_at {n : Nat} (hn : n < 13) (h9 : n ≠ 9) : ipOk n = true := by
  have h := List.all_eq_true.mp ip_ok n (List.mem_range.mpr hn)
  rw [Bool.or_eq_true] at h
  rcases h with h | h
  · exact absurd (by simpa using h) h9
  · exact h
theorem sf_new (hW : Wld l D) (hF : Frm p R s m meth c D mi d) (hk : ∀ q, nx = some q → ∀ L st σ2, k L st σ2 = some (res, σf) → Go p l e R s m args below meth c D mi z0 y0 res σf q L st σ2)
    (hG : ∀ L st σ2, k L st σ2 = some (res, σf) → sZ σ2 ≤ sZ σf ∧ sS σ2 ≤ sS σf) (hRm : sZ σf ≤ z0 + R.cells ∧ sS σf ≤ y0 + R.slots) {n : Nat} (hn : n < 100) (hok : okI mi pc nx pos (.new n) = true) (h : step1 C X E pc (.new n) L st σ k = some (res, σf)) : Go p l e R s m args below meth c D mi z0 y0 res σf pc L st σ := by
  have hs := hF.2.2.2.2.2.2.2.2.1
  simp only [okI, if_pos hn] at hok
  split at hok
  · rename_i x hd
    simp only [nxIs, Bool.and_eq_true, decide_eq_true_eq] at hok
    obtain ⟨⟨⟨hnx, h13⟩, h9⟩, hw⟩ := hok
    simp only [step1, if_pos hn] at h
    intro H locs cells slots ls r1 r2 r3 r4 r5
    have hi := ip_at h13 h9
    unfold ipOk at hi
    rw [Bool.and_eq_true] at hi
    have hg := hG _ _ _ h
    have hz : sZ (mkC σ (100 + n) 0 (nsl n)) = sZ σ + 1 := rfl
    have hz2 : sS (mkC σ (100 + n) 0 (nsl n)) = sS σ + nsl n := rfl
    have hK0 := hW.2.2.2.2.2.1 n (by omega)
    have hCA := classAt_moved hs.alike (hK0.1.2 h9 (by omega))
    have hKn : u_Kn s (cN n) (fT n) (nf n) (D.2.2.2.2.1 n) (D.2.2.2.2.2 n) := ⟨fun j hj => by
      obtain ⟨cf, kf, fi, fd, i1, i2, i3⟩ := ff_at hs (hK0.2 j hj)
      exact ⟨cf, kf, fi, fd, i1, i3⟩, hCA⟩
    refine W.newcK hF.1 hF.2.1 hF.2.2.2.1 (wd_at hW hs hw) (wd_at hW hs hi.1) (wd_at hW hs hi.2) rfl hd (by omega) (by omega) hCA.1 rfl fun H' kC k1 k2 k3 k4 => ?_
    obtain ⟨cell, c1, c2, c3, c4⟩ := u_born (o := H.size) (H := H') (fy n) (lg_at (args := args) hW hs) (lays_in h13 h9) hKn k1 k2 (fun j hj => (tys_at h13 h9 hj).1)
    have key := hk _ hnx _ _ _ h H' locs (cells + 1) (slots + nsl n) ls (rep_new hW r1 k3 k4 (okC_obj (n := n) (if_pos rfl) ⟨cell, by rw [rho_new hW r1]; exact c1, c2, by rw [c3]; rfl, (fun q => by rw [c3] at q; cases q), fun _ => c3, fun j hj => ?_⟩)) r2 r3 (by omega) (by omega)
    · rw [List.map_cons, tr_at (by have := r1.1; omega), rho_new hW r1] at key
      exact key
    · rw [c4 j hj]
      dsimp only
      rw [(tys_at h13 h9 hj).2.1]
      unfold fv
      rw [show sV (mkC σ (100 + n) 0 (nsl n)) (sZ σ) j = .null from if_pos rfl, show sI (mkC σ (100 + n) 0 (nsl n)) (sZ σ) j = 0 from if_pos rfl]
      split <;> rfl
  · cases hok
end SF1
