section CB
variable {p : Program} {l : Launch} {e : Env} {R : Room} {s : State} {m : MethodId} {args : Array Value} {below : List Frame} {meth : Method} {c : Code} {D : SD} {mi d z0 y0 : Nat} {res : Option Value ⊕ Nat} {σf : SH}
theorem doC_some {r : Nat} {a : SR} {L : SL} {st : List Value} {k : SL → List Value → SH → SR} {kx : Nat → SH → SR} {rr : (Option Value ⊕ Nat) × SH} (h : doC r a L st k kx = some rr) : (∃ v σ1, a = some (.inl v, σ1) ∧ k L (v.toList ++ st) σ1 = some rr) ∨ ∃ x σ1, a = some (.inr x, σ1) ∧ kx x σ1 = some rr := by
  rcases a with _ | ⟨v | x, σ1⟩
  · match r, h with
    | 0, h => cases h
    | 1, h => cases h
    | 2, h => cases h
    | n + 3, h => cases h
  · refine Or.inl ⟨v, σ1, rfl, ?_⟩
    match r, h with
    | 0, h => cases v with
      | none => exact h
      | some w => cases h
    | 1, h => cases v with
      | none => cases h
      | some w => cases w <;> first | exact h | cases h
    | 2, h => cases v with
      | none => cases h
      | some w => cases w <;> first | exact h | cases h
    | n + 3, h => cases v with
      | none => cases h
      | some w => cases w <;> first | exact h | cases h
  · refine Or.inr ⟨x, σ1, rfl, ?_⟩
    match r, h with
    | 0, h => exact h
    | 1, h => exact h
    | 2, h => exact h
    | n + 3, h => exact h
theorem W_vx {pc : Nat} {H : Heap} {locs : List Loc} {cells slots mc ms : Nat} {ls : Array Slot} {st0 rest : List Value} {res1 : Option Value ⊕ Nat} {σ1 : SH} {a : Array Value} {Q : State → Prop} (hl3 : ∀ z ∈ locs, D.1.heap.size ≤ z.base)
    (hr : vx_Run p l e R s m args below meth c H locs cells slots mc ms (F0 m pc ls st0) rest (Qc D res1 σ1 a) (Xc D res1 σ1) (Fr0 D))
    (kret : ∀ v, res1 = .inl v → ∀ (H' : Heap) (locs' : List Loc), Rep D σ1 H' → (∀ z ∈ locs', D.1.heap.size ≤ z.base) → W p l e R s m args below meth c H' locs' (cells + mc) (slots + ms) Q (F0 m (pc + 3) ls ((v.map (tr D)).toList ++ rest)))
    (kthr : ∀ x, res1 = .inr x → x < 5 → ∀ (H' : Heap) (locs' : List Loc) (ce : Cell) (q : Addr), Rep D σ1 H' → (∀ z ∈ locs', D.1.heap.size ≤ z.base) → H'[q]? = some ce → ce.vm = .none → s.vm.findClass (eN x) = some ce.cls → vx_W p l e R s m args below meth c H' locs' (cells + mc) (slots + ms) Q (F0 m pc ls rest) q) :
    W p l e R s m args below meth c H locs cells slots Q (F0 m pc ls st0) := by
  intro T hT X
  have hla : ∀ {L : List Loc}, (∀ q ∈ L, Fr0 D q.base) → ∀ z ∈ locs ++ L, D.1.heap.size ≤ z.base := fun hL z hz => (List.mem_append.mp hz).elim (hl3 z) (hL z)
  rcases hr T hT X with ⟨v, st₀, t, T', L, h0, X', hL, e1, e2, hq, goes⟩ | ⟨q, st₀, t, T', L, E, ce, h0, X', hL, e1, e2, hx, hce, hcv, hcl, goes⟩
  · obtain ⟨⟨v', e', hv⟩, hw, hrep⟩ := hq
    have hv2 : v = v'.map (tr D) := Outcome.returned.inj hv
    subst hv2
    obtain ⟨t2, a1, b1⟩ := kret v' e' T'.heap (locs ++ L) (by rw [e1]; exact hrep) (hla hL) T' rfl X'
    exact ⟨t2, goes t2 a1, b1⟩
  · obtain ⟨⟨x, hx1, hx5, rfl⟩, hrep⟩ := hx
    obtain ⟨t2, a1, b1⟩ := kthr x hx1 hx5 T'.heap (locs ++ L) ce q (by rw [e1]; exact hrep) (hla hL) (by rw [e1]; exact hce) hcv hcl T' rfl X'
    exact ⟨t2, goes.trans a1, b1⟩
theorem calD_lt {d' id : Nat} (h : calD PP d id = some d') : d' < d := by
  unfold calD at h
  split at h
  · cases d with
    | zero => cases h
    | succ d => cases h; exact Nat.lt_succ_self _
  · split at h
    · cases h; assumption
    · cases h
/-- SM's call with fuel n -/
noncomputable def CN (n d : Nat) (id : Nat) (as : List Value) (σ : SH) : SR := match calD PP d id with
  | some d' => execN PP n d' id 0 (lcl PP id as) [] σ
  | none => none
theorem CN_some {n d id : Nat} {as : List Value} {σ : SH} {r : (Option Value ⊕ Nat) × SH} (h : CN n d id as σ = some r) : ∃ d', d' < d ∧ execN PP n d' id 0 (lcl PP id as) [] σ = some r := by
  unfold CN at h
  split at h
  · rename_i d' hd
    exact ⟨d', calD_lt hd, h⟩
  · cases h
theorem pz_of {id : Nat} (hpz : pzB id = true) : wAt (pzOf id).1 (cwOf id) = true ∧ wAt (pzOf id).2.2.2 (.initialized (yOf id).cls) = true ∧ ((yOf id).cls ≠ "java/lang/invoke/MethodHandle" ∧ (yOf id).cls ≠ "java/lang/invoke/VarHandle") ∧ mxOf id ≤ 100 ∧
    (kdOf id = 0 → wAt (pzOf id).2.1 (.static (yOf id)) = true) ∧ (kdOf id = 1 → wAt (pzOf id).2.1 (.instanceMethod (yOf id)) = true ∧ wAt (pzOf id).2.2.1 (.selects (yOf id).cls (yOf id) (yOf id)) = true) ∧
    (kdOf id = 2 → wAt (pzOf id).2.1 (.instanceMethod (yOf id)) = true ∧ (yOf id).name = "<init>" ∧ rtOf id = none) ∧ (∀ sig, parseMethodDescriptor (yOf id).desc = some sig → sig.parameters.length + (if kdOf id = 0 then 0 else 1) ≤ mxOf id) := by
  unfold pzB at hpz
  simp only [Bool.and_eq_true, decide_eq_true_eq] at hpz
  obtain ⟨⟨⟨⟨⟨⟨⟨h1, h2⟩, h3⟩, h4⟩, h5⟩, h6⟩, h7⟩, h8⟩ := hpz
  refine ⟨h1, h2, ⟨h4, h5⟩, h8, fun q => ?_, fun q => ?_, fun q => ?_, fun sig hs => ?_⟩
  · rw [q] at h6; exact h6
  · rw [q] at h6; simpa using h6
  · rw [q] at h6
    simp only [Bool.and_eq_true, decide_eq_true_eq] at h6
    exact ⟨h6.1.1, h6.1.2, h6.2⟩
  · rw [hs] at h7
    simpa using h7
/-- where nothing is caught -/
theorem thr_out {pc : Nat} {H' : Heap} {locs' : List Loc} {cells slots : Nat} {ls : Array Slot} {rest : List Value} {x : Nat} {ce : Cell} {q : Addr} {σ1 : SH} (hF : Frm p R s m meth c D mi d) (hh : hhOf mi = []) (hx5 : x < 5) (hrep : Rep D σ1 H') (hl : ∀ z ∈ locs', D.1.heap.size ≤ z.base) (hce : H'[q]? = some ce) (hcv : ce.vm = .none) (hcl : s.vm.findClass (eN x) = some ce.cls) (h4 : z0 + cells = sZ σ1) (h5 : y0 + slots = sS σ1) :
    vx_W p l e R s m args below meth c H' locs' cells slots (EndQ D below s args (.inr x) σ1 z0 y0) (F0 m pc ls rest) q := by
  unfold EndQ
  refine vx_out (E := eN x) (fun z hz => ?_) hF.2.2.2.2.1 hce hcv hcl (fun t ht _ => ⟨⟨x, rfl, hx5, rfl⟩, by rw [ht]; exact hrep⟩) hl (by omega) (by omega)
  rw [hF.2.2.2.2.2.2.2.1, hh] at hz
  cases hz
theorem take_rev {st as : List Value} {n : Nat} {v : Value} (h : (st.take n).reverse = v :: as) : st = as.reverse ++ v :: st.drop n := by
  have h1 : st.take n = (v :: as).reverse := by rw [← h, List.reverse_reverse]
  rw [List.reverse_cons] at h1
  conv => lhs; rw [← List.take_append_drop n st, h1]
  simp
end CB
