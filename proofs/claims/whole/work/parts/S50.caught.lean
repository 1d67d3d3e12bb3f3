/-! what a wrapper of the law does with a throw: a handler stores it and returns a constant -/
theorem cst_ok : (List.range 5).all (fun x => lw_tbl.contains (.castable (eN x) (eN x))) = true := by decide +kernel
section CH
variable {p : Program} {l : Launch} {e : Env} {R : Room} {s : State} {m : MethodId} {args : Array Value} {below : List Frame} {meth : Method} {c : Code} {D : SD} {mi d z0 y0 : Nat} {res : Option Value ⊕ Nat} {σf : SH}
theorem hc_run {H : Heap} {locs : List Loc} {cells slots h : Nat} {ls : Array Slot} {c0 : Int32} {a : Addr} {σ : SH} {L : SL} (hF : Frm p R s m meth c D mi d) (hrt : rtOf mi = some .int) (hh : (match decode (bsOf mi) h with
    | .ok (.astore_n k, 1) => decide (k.val < mxOf mi) && hcC mi (h + 1) c0
    | .ok (.astore k, 2) => decide (k < mxOf mi) && hcC mi (h + 2) c0
    | _ => false) = true) (r1 : Rep D σ H) (r2 : lR D ls (mxOf mi) L) (r3 : ∀ z ∈ locs, D.1.heap.size ≤ z.base) (r4 : z0 + cells = sZ σ) (r5 : y0 + slots = sS σ) :
    W p l e R s m args below meth c H locs cells slots (EndQ D below s args (.inl (some (.int c0))) σ z0 y0) (F0 m h ls [.ref a]) := by
  have fin : ∀ (pc : Nat) (ls' : Array Slot), hcC mi pc c0 = true → W p l e R s m args below meth c H locs cells slots (EndQ D below s args (.inl (some (.int c0))) σ z0 y0) (F0 m pc ls' []) := fun pc ls' hc => by
    unfold hcC at hc
    rw [Bool.and_eq_true, decide_eq_true_eq] at hc
    obtain ⟨h1, h2⟩ := hc
    split at h1
    · rename_i n hd
      exact lv_iconst hF.1 hF.2.1 hd (of_decide_eq_true h1) (se_end hF r1 r4 r5 fun hq => W.iret hF.1 hF.2.1 (by rw [hF.2.2.2.2.2.1]; exact hrt) hq r3 h2 hF.2.2.2.2.1)
    · cases h1
  split at hh
  · rename_i k hd
    rw [Bool.and_eq_true, decide_eq_true_eq] at hh
    exact lv_astore_n hF.1 hF.2.1 hd rfl r2.2 hh.1 rfl (fun ls' _ => fin _ _ hh.2)
  · rename_i k hd
    rw [Bool.and_eq_true, decide_eq_true_eq] at hh
    exact lv_astore hF.1 hF.2.1 hd r2.2 hh.1 rfl (fun ls' _ => fin _ _ hh.2)
  · cases hh
theorem hc_find {H : Heap} {locs : List Loc} {cells slots pc x : Nat} {ls : Array Slot} {rest : List Value} {c0 : Int32} {a : Addr} {ce : Cell} {σ : SH} {L : SL} (hW : Wld l D) (hF : Frm p R s m meth c D mi d) (hrt : rtOf mi = some .int) (hx : x < 5) (r1 : Rep D σ H) (r2 : lR D ls (mxOf mi) L) (r3 : ∀ z ∈ locs, D.1.heap.size ≤ z.base) (hce : H[a]? = some ce) (hcv : ce.vm = .none) (hcl : s.vm.findClass (eN x) = some ce.cls) (r4 : z0 + cells = sZ σ) (r5 : y0 + slots = sS σ) :
    ∀ (hh : List (Nat × Nat × Nat × Nat)) (hd : List (Nat × Int32)) (pre : List ExceptionTableEntry), hcL mi hh hd = true → tableOf (hhOf mi) = pre ++ tableOf hh → (∀ z ∈ pre, covers z pc = false ∨ (z.catchType ≠ 0 ∧ ∃ nm : String, (Cond.classLink (yOf mi).cls z.catchType nm).before args s = true ∧ va_Nc (eN x) nm s)) →
      (∀ q ∈ hh, q.1 ≤ pc ∧ pc < q.2.1) → lkH hd x = some c0 → vx_W p l e R s m args below meth c H locs cells slots (EndQ D below s args (.inl (some (.int c0))) σ z0 y0) (F0 m pc ls rest) a := by
  have hs := hF.2.2.2.2.2.2.2.2.1
  intro hh
  induction hh with
  | nil => intro hd pre h1 _ _ _ h2; cases hd with
    | nil => cases h2
    | cons r hd => cases h1
  | cons q hh ih => intro hd pre h1 htab hpre hcov h2; cases hd with
    | nil => cases h1
    | cons r hd =>
      unfold hcL at h1
      rw [Bool.and_eq_true] at h1
      obtain ⟨hb, hl⟩ := h1
      unfold hcB at hb
      simp only [Bool.and_eq_true, decide_eq_true_eq] at hb
      obtain ⟨⟨⟨hr5, hct⟩, hlk⟩, hrun⟩ := hb
      have hlink : (Cond.classLink (yOf mi).cls q.2.2.2 (eN r.1)).before args s = true := gd_at hW hs (List.contains_iff_mem.mp hlk) rfl
      unfold lkH at h2
      split at h2
      · rename_i hrx
        cases h2
        have hco := List.all_eq_true.mp cst_ok x (List.mem_range.mpr hx)
        refine vx_catch (name := eN x) hF.2.2.2.1 pre ⟨q.1, q.2.1, q.2.2.1, q.2.2.2⟩ (tableOf hh) (by rw [hF.2.2.2.2.2.2.2.1, htab]; rfl) hpre ?_ hct (by rw [← hrx]; exact hlink) (va_Nw.use rfl (va_Nw.warmC hs (va_Nw.of rfl (hW.2.1 _ (List.contains_iff_mem.mp hco))))) hce hcv hcl ?_
        · have := hcov q List.mem_cons_self
          simp [covers, this]
        · exact hc_run hF hrt hrun r1 r2 r3 r4 r5
      · rename_i hrx
        refine ih hd (pre ++ [⟨q.1, q.2.1, q.2.2.1, q.2.2.2⟩]) hl (by rw [htab]; simp [tableOf]) (fun z hz => ?_) (fun z hz => hcov z (List.mem_cons_of_mem _ hz)) h2
        rcases List.mem_append.mp hz with hz | hz
        · exact hpre z hz
        · rw [List.mem_singleton.mp hz]
          exact Or.inr ⟨hct, eN r.1, hlink, va_Nc.moved hs.alike (hW.2.2.2.2.2.2.2.2.2.2.2.2.2 x r.1 hx hr5 (fun q => hrx q.symm))⟩
/-- in every frame but a wrapper's a throw goes on to the caller -/
theorem thr_lo {pc : Nat} (hF : Frm p R s m meth c D mi d) (hmi : mi < 329) : Thr p l e R s m args below meth c D mi z0 y0 res σf (hndOf mi) pc := by
  intro x σ1 hx5 hk L H' locs' cells slots ls rest ce q r2 r1 r3 hce hcv hcl r4 r5
  have hX : hndOf mi pc x = none := if_pos hmi
  rw [hX] at hk
  cases hk
  exact thr_out hF (if_pos hmi) hx5 r1 r3 hce hcv hcl r4 r5
/-- in a wrapper's it is caught -/
theorem thr_hi {pc : Nat} (hW : Wld l D) (hF : Frm p R s m meth c D mi d) (hmi : ¬ mi < 329) (hh : hcA mi = true) (hcov : ∀ q ∈ hhOf mi, q.1 ≤ pc ∧ pc < q.2.1) : Thr p l e R s m args below meth c D mi z0 y0 res σf (hndOf mi) pc := by
  intro x σ1 hx5 hk L H' locs' cells slots ls rest ce q r2 r1 r3 hce hcv hcl r4 r5
  have hX : hndOf mi pc x = some ((lkH (nthD hdTab (mi - 329) []) x).getD 0) := if_neg hmi
  rw [hX] at hk
  unfold kxc at hk
  dsimp only at hk
  split at hk
  · cases hk
  · rename_i hne
    cases hk
    unfold hcA at hh
    simp only [Bool.and_eq_true, decide_eq_true_eq] at hh
    cases hl : lkH (nthD hdTab (mi - 329) []) x with
    | none => rw [hl] at hne; exact absurd rfl hne
    | some c0 => exact hc_find hW hF hh.1.1 hx5 r1 r2 r3 hce hcv hcl r4 r5 _ _ [] hh.1.2 rfl (fun z hz => nomatch hz) hcov hl
end CH
