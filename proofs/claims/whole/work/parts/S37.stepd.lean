section SD1
variable {p : Program} {l : Launch} {e : Env} {R : Room} {s : State} {m : MethodId} {args : Array Value} {below : List Frame} {meth : Method} {c : Code} {D : SD} {mi d z0 y0 : Nat} {res : Option Value ⊕ Nat} {σf : SH}
variable {C : Nat → List Value → SH → SR} {X : Nat → Nat → Option Int32} {E : Nat → SL → List Value → SH → SR} {pc pos : Nat} {nx : Option Nat} {L : SL} {st : List Value} {σ : SH} {k : SL → List Value → SH → SR}
/-- the words of the tables that hold at every warmed state -/
def LGs : List Cond := lw_tbl.filter goodWord
theorem lg_at (hW : Wld l D) (hs : D.1.WarmedH s.vm) : ∀ w ∈ LGs, w.before args s = true := fun w hw => by
  obtain ⟨h1, h2⟩ := List.mem_filter.mp hw
  exact word_at hs (good_of_word h2) (hW.2.1 w h1)
def laysB (n : Nat) : Bool := (List.range (nf n)).all fun k => lw_tbl.contains (u_lay (cN n) (fT n) k) && goodWord (u_lay (cN n) (fT n) k)
theorem lays_ok : (List.range 13).all (fun n => n == 9 || laysB n) = true := by decide +kernel
theorem lays_in {n : Nat} (hn : n < 13) (h9 : n ≠ 9) : ∀ w ∈ u_ws (cN n) (fT n) (nf n), w ∈ LGs := by
  intro w hw
  have h := List.all_eq_true.mp lays_ok n (List.mem_range.mpr hn)
  rw [Bool.or_eq_true] at h
  rcases h with h | h
  · exact absurd (by simpa using h) h9
  · unfold u_ws at hw
    obtain ⟨k, hk, rfl⟩ := List.mem_map.mp hw
    have h2 := List.all_eq_true.mp h k hk
    rw [Bool.and_eq_true] at h2
    exact List.mem_filter.mpr ⟨List.contains_iff_mem.mp h2.1, h2.2⟩
def tysB (n : Nat) : Bool := (List.range (nf n)).all fun k => decide (parseFieldDescriptor (fT n k).2.2.1 = some (fy n k)) && decide (defaultValue (fy n k) = (if isRf n k = true then Value.null else .int 0)) && (!isRf n k || (match fy n k with
  | .object _ => true
  | .array _ => true
  | _ => false))
theorem tys_ok : (List.range 13).all (fun n => n == 9 || tysB n) = true := by decide +kernel
theorem tys_at {n f : Nat} (hn : n < 13) (h9 : n ≠ 9) (hf : f < nf n) : parseFieldDescriptor (fT n f).2.2.1 = some (fy n f) ∧ defaultValue (fy n f) = (if isRf n f = true then Value.null else .int 0) ∧ (isRf n f = true → (∃ q, fy n f = .object q) ∨ ∃ q, fy n f = .array q) := by
  have h := List.all_eq_true.mp tys_ok n (List.mem_range.mpr hn)
  rw [Bool.or_eq_true] at h
  rcases h with h | h
  · exact absurd (by simpa using h) h9
  · have h2 := List.all_eq_true.mp h f (List.mem_range.mpr hf)
    simp only [Bool.and_eq_true, decide_eq_true_eq, Bool.or_eq_true, Bool.not_eq_true'] at h2
    refine ⟨h2.1.1, h2.1.2, fun hr => ?_⟩
    rcases h2.2 with q | q
    · rw [hr] at q; cases q
    · split at q
      · rename_i z hz; exact Or.inl ⟨_, hz⟩
      · rename_i z hz; exact Or.inr ⟨_, hz⟩
      · cases q
/-- one putfield -/
theorem sb_put {x a n f : Nat} {v : Value} {σ' : SH} {rest : List Value} {H : Heap} {locs : List Loc} {cells slots : Nat} {ls : Array Slot} {Q : State → Prop} (hW : Wld l D) (hF : Frm p R s m meth c D mi d) (hR : Rep D σ H) (hd : decode (bsOf mi) pc = .ok (.putfield x, 3)) (hn : n < 13) (h9 : n ≠ 9) (hf : f < nf n)
    (hfin : (fT n f).2.2.2 = false ∨ ((yOf mi).name = "<init>" ∧ (yOf mi).cls = (fT n f).1)) (hw : wAt pos (.fieldLink (yOf mi).cls x (fT n f).1 (fT n f).2.1 (fT n f).2.2.1) = true)
    (hl3 : ∀ z ∈ locs, D.1.heap.size ≤ z.base) (ht : sT σ a = 100 + n) (hnr : narrow (fy n f) v = v) (hft : fits (fy n f) v = true)
    (e1 : ∀ b, sT σ' b = sT σ b) (e2 : ∀ b, sN σ' b = sN σ b) (e3 : sZ σ' = sZ σ) (e4 : ∀ b j, b ≠ a → sI σ' b j = sI σ b j) (e5 : ∀ b j, b ≠ a → sV σ' b j = sV σ b j) (e6 : ∀ b j, b ≠ a → sJ σ' b j = sJ σ b j)
    (e7 : ∀ j, j ≠ f → fv D σ' a n j = fv D σ a n j) (e8 : fv D σ' a n f = v)
    (kk : ∀ (H' : Heap) (locs' : List Loc), Rep D σ' H' → (∀ z ∈ locs', D.1.heap.size ≤ z.base) → W p l e R s m args below meth c H' locs' cells slots Q (F0 m (pc + 3) ls rest)) : W p l e R s m args below meth c H locs cells slots Q (F0 m pc ls (v :: tr D (.ref a) :: rest)) := by
  have h39 : a ≠ 39 := rep_39 hR (by omega)
  obtain ⟨ha, hz⟩ := rep_at hR (a := a) (by omega) (by omega) (by omega) (by omega) (by omega) (by omega)
  have hs := hF.2.2.2.2.2.2.2.2.1
  rw [tr_at h39]
  obtain ⟨cell, c1, c2, c3, c4, c5, c6⟩ := (hR.2.2.2.2.2.2 a).2.2.2.2 n ht (by omega)
  obtain ⟨cf, kf, fi, fd, i1, i2, i3⟩ := ff_at hs ((hW.2.2.2.2.2.1 n (by omega)).2 f hf)
  obtain ⟨g1, kC, g2, g3⟩ := classAt_moved hs.alike ((hW.2.2.2.2.2.1 n (by omega)).1.2 h9 (by omega))
  have hlt : fd.slot < cell.slots.size := by
    rw [i3]; exact (Array.getElem?_eq_some_iff.mp (c6 f hf)).1
  have hlays := u_lays (lg_at (args := args) hW hs) (lays_in hn h9) hf
  obtain ⟨y1, y2, y3⟩ := tys_at hn h9 hf
  have go : ∀ H' : Heap, H'[D.2.2.1 a]? = some (cell.setSlot fd.slot v) → H'.size = H.size → (∀ q, q ≠ D.2.2.1 a → H'[q]? = H[q]?) → W p l e R s m args below meth c H' (locs ++ [⟨D.2.2.1 a, fd.slot⟩]) cells slots Q (F0 m (pc + 3) ls rest) := fun H' q1 q2 q3 => by
    refine kk H' _ (rep_write (a := a) hW hR ha e1 e2 e3 e4 e5 e6 q2 q3 (okC_obj (n := n) (by rw [e1]; exact ht) ⟨_, q1, c2, c3, c4, c5, fun j hj => ?_⟩)) (locs_add hW ha hl3)
    refine set_get hlt (fun e => ?_) (fun e => ?_)
    · rw [c6 j hj, e7 j (fun q => e (by rw [q, i3]))]
    · have : j = f := Classical.byContradiction fun q => hW.2.2.2.2.2.2.2.2.2.2.2.2.1 n hn h9 j f hj hf q (by rw [e, i3])
      rw [this, e8]
  have hlay := lg_at (args := args) hW hs _ (lays_in hn h9 _ (u_in_lay hf))
  unfold u_lay at hlay
  by_cases hfl : (fT n f).2.2.2 = true
  · rw [if_pos hfl] at hlay
    rcases hfin with q | ⟨q1, q2⟩
    · rw [hfl] at q; cases q
    · have hcf : m.cls = cf := by
        obtain ⟨_, _, c', _, _, _, -, -, hf', -, -, -, hown2, -⟩ := Cond.laysFinal_spec hlay
        have e1 : c' = cf := by have := i1.symm.trans hf'; simp at this; exact this.1.symm
        rw [← q2] at hown2
        rw [← e1]; exact Option.some.inj (hF.2.2.2.1.symm.trans hown2)
      have h6 := u_fits (v := v) g1 g2 g3 hlays i1 y1 hnr hft
      exact W.putFinK hF.1 hF.2.1 hF.2.2.2.1 (wd_at hW hs hw) i1 i2 hcf (by rw [hF.2.2.2.2.2.2.1]; exact q1) (by rw [c2]; exact h6) c1 (c5 ha) hlt rfl rfl hd go
  · rw [if_neg hfl] at hlay
    have h6 := u_store (v := v) g1 g2 g3 hlay i1 y1 hnr hft
    exact W.putK hF.1 hF.2.1 ⟨hF.2.2.2.1, wd_at hW hs hw, ⟨_, _, _, i1⟩, i2⟩ (by rw [c2]; exact h6) c1 (c5 ha) hlt rfl rfl hd go
end SD1
