section CC
variable {p : Program} {l : Launch} {e : Env} {R : Room} {s : State} {m : MethodId} {args : Array Value} {below : List Frame} {meth : Method} {c : Code} {D : SD} {mi d z0 y0 nn : Nat} {res : Option Value ⊕ Nat} {σf : SH}
variable {E : Nat → SL → List Value → SH → SR} {X : Nat → Nat → Option Int32} {pc pos : Nat} {nx : Option Nat} {L : SL} {st : List Value} {σ : SH} {k : SL → List Value → SH → SR}
/-- what a throw that came out of a call does in this frame -/
def Thr (p : Program) (l : Launch) (e : Env) (R : Room) (s : State) (m : MethodId) (args : Array Value) (below : List Frame) (meth : Method) (c : Code) (D : SD) (mi z0 y0 : Nat) (res : Option Value ⊕ Nat) (σf : SH) (X : Nat → Nat → Option Int32) (pc : Nat) : Prop :=
  ∀ (x : Nat) (σ1 : SH), x < 5 → kxc (X pc x) x σ1 = some (res, σf) → ∀ (L : SL) (H' : Heap) (locs' : List Loc) (cells slots : Nat) (ls : Array Slot) (rest : List Value) (ce : Cell) (q : Addr), lR D ls (mxOf mi) L → Rep D σ1 H' → (∀ z ∈ locs', D.1.heap.size ≤ z.base) → H'[q]? = some ce → ce.vm = .none → s.vm.findClass (eN x) = some ce.cls → z0 + cells = sZ σ1 → y0 + slots = sS σ1 →
    vx_W p l e R s m args below meth c H' locs' cells slots (EndQ D below s args res σf z0 y0) (F0 m pc ls rest) q
theorem kd_ne {a b k : Nat} (h : kdOf a = k) (hb : ¬ kdOf b = k) : a ≠ b := fun e => hb (e ▸ h)
theorem cw_good {id : Nat} (hW : Wld l D) (hpz : pzB id = true) (hs : D.1.WarmedH s.vm) : ∀ w ∈ [cwOf id], ∀ (a' : Array Value) (U : State), s.WarmedH U.vm → w.before a' U = true := fun w hw a' U hU => by
  rw [List.mem_singleton.mp hw]
  exact wd_at hW (State.WarmedH.trans hs hU) (pz_of hpz).1
theorem cc_virtual (hW : Wld l D) (hF : Frm p R s m meth c D mi d) (hPz : ∀ id, id < 371 → id ≠ 326 → id ≠ 327 → id ≠ 328 → pzB id = true) (hn : Sd D l nn) (hk : ∀ q, nx = some q → ∀ L st σ2, k L st σ2 = some (res, σf) → Go p l e R s m args below meth c D mi z0 y0 res σf q L st σ2) (hT : Thr p l e R s m args below meth c D mi z0 y0 res σf X pc)
    (hG : ∀ L st σ2, k L st σ2 = some (res, σf) → sZ σ2 ≤ sZ σf ∧ sS σ2 ≤ sS σf) (hRm : sZ σf ≤ z0 + R.cells ∧ sS σf ≤ y0 + R.slots) {n : Nat} (hok : okI mi pc nx pos (.invokevirtual n) = true) (h : step1 (CN nn d) X E pc (.invokevirtual n) L st σ k = some (res, σf)) : Go p l e R s m args below meth c D mi z0 y0 res σf pc L st σ := by
  have hs := hF.2.2.2.2.2.2.2.2.1
  simp only [okI] at hok
  split at hok
  · rename_i x hd
    simp only [nxIs, Bool.and_eq_true, decide_eq_true_eq] at hok
    obtain ⟨⟨⟨⟨⟨⟨⟨hnx, hid⟩, hkd⟩, hhh⟩, h14⟩, hcls⟩, hw⟩, hpar⟩ := hok
    simp only [step1] at h
    intro H locs cells slots ls r1 r2 r3 r4 r5
    obtain ⟨⟨hle, hw8, hwt⟩, h⟩ := ite_some h
    split at h
    · rename_i a as hrev
      obtain ⟨ht, h⟩ := ite_some h
      have hpz := hPz _ hid (kd_ne hkd (by decide +kernel)) (kd_ne hkd (by decide +kernel)) (kd_ne hkd (by decide +kernel))
      obtain ⟨z1, z2, z3, z4, z5, z6, z7, z8⟩ := pz_of hpz
      have hst := take_rev hrev
      have hlen : as.length + 1 = n / 10 % 10 := by
        have := congrArg List.length hrev
        rw [List.length_reverse, List.length_take, Nat.min_eq_left hle, List.length_cons] at this
        omega
      have hwd : wds (.ref a :: as) = (Value.ref a :: as).length := by
        have e1 : wds ((st.take (n / 10 % 10)).reverse) = wds (st.take (n / 10 % 10)) := by
          unfold wds
          rw [List.map_reverse, List.sum_reverse]
        rw [hrev] at e1
        rw [e1, hwt, List.length_cons, hlen]
      obtain ⟨sig, hsig, hsl⟩ : ∃ sig, parseMethodDescriptor (yOf (n / 10000)).desc = some sig ∧ sig.parameters.length + 1 = n / 10 % 10 := by
        cases hq : parseMethodDescriptor (yOf (n / 10000)).desc with
        | none => rw [hq] at hpar; cases hpar
        | some sig => rw [hq] at hpar; exact ⟨sig, rfl, Option.some.inj hpar⟩
      have hmx : (Value.ref a :: as).length ≤ mxOf (n / 10000) := by
        have := z8 sig hsig
        rw [hkd] at this
        simp only [List.length_cons]
        have h10 : (if (1 : Nat) = 0 then 0 else 1) = 1 := rfl
        omega
      have main : ∀ (res1 : Option Value ⊕ Nat) (σ1 : SH), CN nn d (n / 10000) (.ref a :: as) σ = some (res1, σ1) → sZ σ1 ≤ sZ σf ∧ sS σ1 ≤ sS σf →
          (∀ v, res1 = .inl v → k L (v.toList ++ st.drop (n / 10 % 10)) σ1 = some (res, σf)) → (∀ y, res1 = .inr y → kxc (X pc y) y σ1 = some (res, σf)) → W p l e R s m args below meth c H locs cells slots (EndQ D below s args res σf z0 y0) (F0 m pc ls (st.map (tr D))) := by
        intro res1 σ1 hc hgr k1 k2
        obtain ⟨d', hd', hx⟩ := CN_some hc
        have hM := met_of hW hn (by omega) hpz hx hwd hmx
        have hg1 := execN_gro PP nn d' (n / 10000) 0 _ [] σ _ _ hx
        have h39 : a ≠ 39 := rep_39 r1 (by omega)
        obtain ⟨cell, c1, c2, c3, c4, c5, c6⟩ := (r1.2.2.2.2.2.2 a).2.2.2.2 (n / 100 % 100) ht h14
        have hca : s.vm.findClass (cN (n / 100 % 100)) = some (D.2.2.2.2.1 (n / 100 % 100)) := by rw [hs.alike.findClass]; exact (hW.2.2.2.2.2.1 _ h14).1.1
        have hR1 := hF.2.2.2.2.2.2.2.2.2.1
        have hR2 := hF.2.2.2.2.2.2.2.2.2.2
        have hcw : Cond.code (yOf (n / 10000)) (bsOf (n / 10000)) (mxOf (n / 10000)) (rtOf (n / 10000)) = cwOf (n / 10000) := by unfold cwOf; rw [if_pos hhh]
        have hCB : CallB R s args (yOf mi).cls x (yOf (n / 10000)) (bsOf (n / 10000)) (mxOf (n / 10000)) (rtOf (n / 10000)) [cwOf (n / 10000)] { frames := d' + 8, cells := sZ σ1 - sZ σ, slots := sS σ1 - sS σ, locals := (d' + 1) * 200 } (sZ σ1 - sZ σ) (sS σ1 - sS σ) sig.parameters.length :=
          ⟨rfl, rfl, by show d' + 8 + 1 ≤ R.frames; omega, by show 8 + (mxOf (n / 10000) + 11) + (d' + 1) * 200 ≤ R.locals; omega, cw_good hW hpz hs, by rw [hcw]; exact List.mem_cons_self, by rw [hcw]; exact wd_at hW hs z1, wd_at hW hs z2, z3, fun sg hq => by rw [hsig] at hq; cases hq; rfl, wd_at hW hs hw⟩
        have hstk : st.map (tr D) = (as.map (tr D)).reverse ++ .ref (D.2.2.1 a) :: (st.drop (n / 10 % 10)).map (tr D) := by
          conv => lhs; rw [hst]
          rw [List.map_append, List.map_cons, tr_at h39, List.map_reverse]
        have hrun := vx_runV (p := p) (e := e) (below := below) (meth := meth) (c := c) (H := H) (locs := locs) (cells := cells) (slots := slots) (nL := mxOf mi) (cc := bsOf mi) (Ts := []) (C := cN (n / 100 % 100)) (b := D.2.2.1 a) (As := as.map (tr D)) (rest := (st.drop (n / 10 % 10)).map (tr D)) (g := F0 m pc ls (st.map (tr D)))
          ⟨hF.1, hF.2.1, hF.2.2.1, hF.2.2.2.1, fun w hw => by cases hw⟩ hM ⟨hCB, wd_at hW hs (z6 hkd).1, by rw [← hcls]; exact wd_at hW hs (z6 hkd).2⟩
          ⟨pcc_blind, ⟨cell, c1, c3, by rw [c2]; exact hca⟩, fun U hU hUw => ⟨by rw [List.map_cons, tr_at h39], State.WarmedH.trans hs hUw, by rw [hU]; exact r1⟩⟩
          rfl (by rw [List.length_map]; omega) r2.2.1 hstk (by show 2 * 0 + _ ≤ 8; rw [cat_sum hW.2.2.2.2.1]; omega) hd (by omega)
        refine W_vx r3 hrun (fun v hv H' locs' q1 q2 => ?_) (fun y hy hy5 H' locs' ce q q1 q2 q3 q4 q5 => ?_)
        · have := hk _ hnx _ _ _ (k1 v hv) H' locs' (cells + (sZ σ1 - sZ σ)) (slots + (sS σ1 - sS σ)) ls q1 r2 q2 (by omega) (by omega)
          rw [List.map_append] at this
          rw [show (v.map (tr D)).toList = v.toList.map (tr D) by cases v <;> rfl]
          exact this
        · exact hT y σ1 hy5 (k2 y hy) L H' locs' _ _ ls _ ce q r2 q1 q2 q3 q4 q5 (by omega) (by omega)
      rcases doC_some h with ⟨v, σ1, hc, hh⟩ | ⟨y, σ1, hc, hh⟩
      · exact main _ σ1 hc (hG _ _ _ hh) (fun w hw => by cases hw; exact hh) (fun y hy => by cases hy)
      · refine main _ σ1 hc ?_ (fun w hw => by cases hw) (fun z hz => by cases hz; exact hh)
        have := Gro.kxc (X pc y) y σ1 _ _ hh
        exact this
    · cases h
  · cases hok
end CC
