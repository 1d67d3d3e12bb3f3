section CD
variable {p : Program} {l : Launch} {e : Env} {R : Room} {s : State} {m : MethodId} {args : Array Value} {below : List Frame} {meth : Method} {c : Code} {D : SD} {mi d z0 y0 nn : Nat} {res : Option Value ⊕ Nat} {σf : SH}
variable {E : Nat → SL → List Value → SH → SR} {X : Nat → Nat → Option Int32} {pc pos : Nat} {nx : Option Nat} {L : SL} {st : List Value} {σ : SH} {k : SL → List Value → SH → SR}
theorem take_rev2 {st as : List Value} {n : Nat} (h : (st.take n).reverse = as) : st = as.reverse ++ st.drop n := by
  rw [← h, List.reverse_reverse, List.take_append_drop]
/-- what a call's words give, whatever its kind -/
theorem cd_facts {n kk : Nat} (hpz : pzB (n / 10000) = true) (hle : n / 10 % 10 ≤ st.length) (hwt : wds (st.take (n / 10 % 10)) = n / 10 % 10) (hkd : kk = if kdOf (n / 10000) = 0 then 0 else 1) (hpar : (parseMethodDescriptor (yOf (n / 10000)).desc).map (fun q => q.parameters.length + kk) = some (n / 10 % 10)) :
    ∃ sig, parseMethodDescriptor (yOf (n / 10000)).desc = some sig ∧ sig.parameters.length + kk = n / 10 % 10 ∧ (st.take (n / 10 % 10)).reverse.length = n / 10 % 10 ∧ wds (st.take (n / 10 % 10)).reverse = (st.take (n / 10 % 10)).reverse.length ∧ (st.take (n / 10 % 10)).reverse.length ≤ mxOf (n / 10000) := by
  obtain ⟨z1, z2, z3, z4, z5, z6, z7, z8⟩ := pz_of hpz
  have hl : (st.take (n / 10 % 10)).reverse.length = n / 10 % 10 := by
    rw [List.length_reverse, List.length_take, Nat.min_eq_left hle]
  have e1 : wds ((st.take (n / 10 % 10)).reverse) = wds (st.take (n / 10 % 10)) := by
    unfold wds
    rw [List.map_reverse, List.sum_reverse]
  cases hq : parseMethodDescriptor (yOf (n / 10000)).desc with
  | none => rw [hq] at hpar; cases hpar
  | some sig =>
    rw [hq] at hpar
    have hp : sig.parameters.length + kk = n / 10 % 10 := Option.some.inj hpar
    have h2 : sig.parameters.length + kk ≤ mxOf (n / 10000) := by rw [hkd]; exact z8 sig hq
    exact ⟨sig, rfl, hp, hl, by rw [e1, hwt, hl], by omega⟩
theorem met_ret {y : MethodName} {ws : List Cond} {rm : Room} {Pc : Array Value → State → Prop} {v : Option Value} {σ1 : SH} {mc ms : Nat} {fr : Addr → Prop} (hM : vx_Met l y ws rm Pc (Qc D (.inl v) σ1) (Xc D (.inl v) σ1) mc ms fr) : Met l y ws rm Pc (Qc D (.inl v) σ1) mc ms fr := by
  intro p e ha hc hk s m args below hf happ hP hK
  obtain ⟨n, o, h1, h2, h3, h4⟩ := hM p e ha hc hk s m args below hf happ hP hK
  refine ⟨n, o, h1, h2, h3, ?_⟩
  rcases h4 with h | ⟨q, rfl, E, ce, Lx, ⟨⟨x, hx, _⟩, _⟩, _⟩
  · exact h
  · cases hx
theorem run_of {H : Heap} {locs : List Loc} {cells slots mc ms : Nat} {g : JFrame} {rest : List Value} {Qa : State → Outcome → State → Prop} {XC : String → State → State → Prop} {fr : Addr → Prop} (h : va_Run p l e R s m args below meth c H locs cells slots mc ms g rest Qa fr) : vx_Run p l e R s m args below meth c H locs cells slots mc ms g rest Qa XC fr := fun T hT X => Or.inl (h T hT X)
theorem nest_ok : lw_tbl.all (fun w => match w with
  | .methodLinkNest _ _ y _ => plainName y.cls
  | _ => true) = true := by decide +kernel
theorem nest_plain {i j : Nat} {o h : String} {y : MethodName} (hw : wAtN i (.methodLinkNest o j y h) = true) : plainName y.cls = true := by
  unfold wAtN at hw
  exact List.all_eq_true.mp nest_ok _ (List.mem_of_getElem? (of_decide_eq_true hw))
theorem cd_static {n : Nat} (hW : Wld l D) (hF : Frm p R s m meth c D mi d) (hPz : ∀ id, id < 371 → id ≠ 326 → id ≠ 327 → id ≠ 328 → pzB id = true) (h6 : ¬ n / 10000 = 326) (h7 : ¬ n / 10000 = 327) (h8 : ¬ n / 10000 = 328) (hn : Sd D l nn) (hk : ∀ q, nx = some q → ∀ L st σ2, k L st σ2 = some (res, σf) → Go p l e R s m args below meth c D mi z0 y0 res σf q L st σ2) (hT : Thr p l e R s m args below meth c D mi z0 y0 res σf X pc)
    (hG : ∀ L st σ2, k L st σ2 = some (res, σf) → sZ σ2 ≤ sZ σf ∧ sS σ2 ≤ sS σf) (hRm : sZ σf ≤ z0 + R.cells ∧ sS σf ≤ y0 + R.slots) (hok : okI mi pc nx pos (.invokestatic n) = true) (h : step1 (CN nn d) X E pc (.invokestatic n) L st σ k = some (res, σf)) : Go p l e R s m args below meth c D mi z0 y0 res σf pc L st σ := by
  have hs := hF.2.2.2.2.2.2.2.2.1
  simp only [okI] at hok
  split at hok
  · rename_i x hd
    simp only [nxIs, Bool.and_eq_true, decide_eq_true_eq] at hok
    obtain ⟨⟨⟨⟨⟨hnx, hid⟩, hkd⟩, hw⟩, hpar⟩, _⟩ := hok
    simp only [step1] at h
    intro H locs cells slots ls r1 r2 r3 r4 r5
    obtain ⟨⟨hle, hw8, hwt⟩, h⟩ := ite_some h
    have hpz := hPz _ hid h6 h7 h8
    obtain ⟨z1, z2, z3, z4, z5, z6, z7, z8⟩ := pz_of hpz
    obtain ⟨sig, hsig, hsl, hal, hwd, hmx⟩ := cd_facts (kk := 0) hpz hle hwt (by rw [hkd]; rfl) hpar
    have hst := take_rev2 (st := st) (n := n / 10 % 10) rfl
    generalize hasd : (st.take (n / 10 % 10)).reverse = as at h hal hwd hmx hst
    have main : ∀ (res1 : Option Value ⊕ Nat) (σ1 : SH), CN nn d (n / 10000) as σ = some (res1, σ1) → sZ σ1 ≤ sZ σf ∧ sS σ1 ≤ sS σf →
        (∀ v, res1 = .inl v → k L (v.toList ++ st.drop (n / 10 % 10)) σ1 = some (res, σf)) → (∀ y, res1 = .inr y → kxc (X pc y) y σ1 = some (res, σf)) → W p l e R s m args below meth c H locs cells slots (EndQ D below s args res σf z0 y0) (F0 m pc ls (st.map (tr D))) := by
      intro res1 σ1 hc hgr k1 k2
      obtain ⟨d', hd', hx⟩ := CN_some hc
      have hM := met_of hW hn (by omega) hpz hx hwd hmx
      have hg1 := execN_gro PP nn d' (n / 10000) 0 _ [] σ _ _ hx
      have hR1 := hF.2.2.2.2.2.2.2.2.2.1
      have hR2 := hF.2.2.2.2.2.2.2.2.2.2
      have hstk : st.map (tr D) = (as.map (tr D)).reverse ++ (st.drop (n / 10 % 10)).map (tr D) := by
        conv => lhs; rw [hst]
        rw [List.map_append, List.map_reverse]
      have hfix : CallFix p m c (bsOf mi) (mxOf mi) s args [] (yOf mi).cls := ⟨hF.1, hF.2.1, hF.2.2.1, hF.2.2.2.1, fun w hw => by cases hw⟩
      have hpre : PreS s H (Pcc D as σ) (as.map (tr D)) := ⟨pcc_blind, fun U hU hUw => ⟨rfl, State.WarmedH.trans hs hUw, by rw [hU]; exact r1⟩⟩
      have hrun : vx_Run p l e R s m args below meth c H locs cells slots (sZ σ1 - sZ σ) (sS σ1 - sS σ) (F0 m pc ls (st.map (tr D))) ((st.drop (n / 10 % 10)).map (tr D)) (Qc D res1 σ1 (as.map (tr D)).toArray) (Xc D res1 σ1) (Fr0 D) := by
        by_cases hhh : hhOf (n / 10000) = []
        · have hcw : Cond.code (yOf (n / 10000)) (bsOf (n / 10000)) (mxOf (n / 10000)) (rtOf (n / 10000)) = cwOf (n / 10000) := by unfold cwOf; rw [if_pos hhh]
          have hCB : CallB R s args (yOf mi).cls x (yOf (n / 10000)) (bsOf (n / 10000)) (mxOf (n / 10000)) (rtOf (n / 10000)) [cwOf (n / 10000)] { frames := d' + 8, cells := sZ σ1 - sZ σ, slots := sS σ1 - sS σ, locals := (d' + 1) * 200 } (sZ σ1 - sZ σ) (sS σ1 - sS σ) sig.parameters.length :=
            ⟨rfl, rfl, by show d' + 8 + 1 ≤ R.frames; omega, by show 8 + (mxOf (n / 10000) + 11) + (d' + 1) * 200 ≤ R.locals; omega, cw_good hW hpz hs, by rw [hcw]; exact List.mem_cons_self, by rw [hcw]; exact wd_at hW hs z1, wd_at hW hs z2, z3, fun sg hq => by rw [hsig] at hq; cases hq; rfl, wd_at hW hs hw⟩
          exact vx_runS hfix hM ⟨hCB, wd_at hW hs (z5 hkd)⟩ hpre rfl (by rw [List.length_map]; omega) r2.2.1 hstk (by show 2 * 0 + _ ≤ 8; rw [cat_sum hW.2.2.2.2.1]; omega) hd (by omega)
        · have hcw : Cond.codeWith (yOf (n / 10000)) (bsOf (n / 10000)) (mxOf (n / 10000)) (rtOf (n / 10000)) (hhOf (n / 10000)) = cwOf (n / 10000) := by unfold cwOf; rw [if_neg hhh]
          have hCB : vx_CSW R s args (yOf mi).cls x (yOf (n / 10000)) (bsOf (n / 10000)) (mxOf (n / 10000)) (rtOf (n / 10000)) (hhOf (n / 10000)) [cwOf (n / 10000)] { frames := d' + 8, cells := sZ σ1 - sZ σ, slots := sS σ1 - sS σ, locals := (d' + 1) * 200 } (sZ σ1 - sZ σ) (sS σ1 - sS σ) sig.parameters.length :=
            ⟨⟨rfl, rfl, by show d' + 8 + 1 ≤ R.frames; omega, by show 8 + (mxOf (n / 10000) + 11) + (d' + 1) * 200 ≤ R.locals; omega, cw_good hW hpz hs, by rw [hcw]; exact List.mem_cons_self⟩, by rw [hcw]; exact wd_at hW hs z1, wd_at hW hs z2, z3, fun sg hq => by rw [hsig] at hq; cases hq; rfl, wd_at hW hs hw, wd_at hW hs (z5 hkd)⟩
          exact vx_runSX hfix hM hCB hpre rfl (by rw [List.length_map]; omega) r2.2.1 hstk (by show 2 * 0 + _ ≤ 8; rw [cat_sum hW.2.2.2.2.1]; omega) hd (by omega)
      refine W_vx r3 hrun (fun v hv H' locs' q1 q2 => ?_) (fun y hy hy5 H' locs' ce q q1 q2 q3 q4 q5 => ?_)
      · have := hk _ hnx _ _ _ (k1 v hv) H' locs' (cells + (sZ σ1 - sZ σ)) (slots + (sS σ1 - sS σ)) ls q1 r2 q2 (by omega) (by omega)
        rw [List.map_append] at this
        rw [show (v.map (tr D)).toList = v.toList.map (tr D) by cases v <;> rfl]
        exact this
      · exact hT y σ1 hy5 (k2 y hy) L H' locs' _ _ ls _ ce q r2 q1 q2 q3 q4 q5 (by omega) (by omega)
    rcases doC_some h with ⟨v, σ1, hc, hh⟩ | ⟨y, σ1, hc, hh⟩
    · exact main _ σ1 hc (hG _ _ _ hh) (fun w hw => by cases hw; exact hh) (fun y hy => by cases hy)
    · refine main _ σ1 hc ?_ (fun w hw => by cases hw) (fun z hz => by cases hz; exact hh)
      have := Gro.kxc (X pc y) y σ1 _ _ hh
      exact this
  · cases hok
theorem cd_nest (hW : Wld l D) (hF : Frm p R s m meth c D mi d) (hPz : ∀ id, id < 371 → id ≠ 326 → id ≠ 327 → id ≠ 328 → pzB id = true) (hn : Sd D l nn) (hk : ∀ q, nx = some q → ∀ L st σ2, k L st σ2 = some (res, σf) → Go p l e R s m args below meth c D mi z0 y0 res σf q L st σ2)
    (hG : ∀ L st σ2, k L st σ2 = some (res, σf) → sZ σ2 ≤ sZ σf ∧ sS σ2 ≤ sS σf) (hRm : sZ σf ≤ z0 + R.cells ∧ sS σf ≤ y0 + R.slots) {n : Nat} (hok : okI mi pc nx pos (.invokedynamic n) = true) (h : step1 (CN nn d) X E pc (.invokedynamic n) L st σ k = some (res, σf)) : Go p l e R s m args below meth c D mi z0 y0 res σf pc L st σ := by
  have hs := hF.2.2.2.2.2.2.2.2.1
  simp only [okI] at hok
  split at hok
  · rename_i x hd
    simp only [nxIs, Bool.and_eq_true, decide_eq_true_eq] at hok
    obtain ⟨⟨⟨⟨⟨hnx, hid⟩, hkd⟩, hhh⟩, hw⟩, hpar⟩ := hok
    simp only [step1] at h
    intro H locs cells slots ls r1 r2 r3 r4 r5
    obtain ⟨⟨hle, hw8, hwt⟩, h⟩ := ite_some h
    have hpl := nest_plain hw
    have hpz := hPz _ hid (fun q => by rw [q] at hpl; revert hpl; decide +kernel) (fun q => by rw [q] at hpl; revert hpl; decide +kernel) (fun q => by rw [q] at hpl; revert hpl; decide +kernel)
    obtain ⟨z1, z2, z3, z4, z5, z6, z7, z8⟩ := pz_of hpz
    obtain ⟨sig, hsig, hsl, hal, hwd, hmx⟩ := cd_facts (kk := 0) hpz hle hwt (by rw [hkd]; rfl) hpar
    have hst := take_rev2 (st := st) (n := n / 10 % 10) rfl
    generalize hasd : (st.take (n / 10 % 10)).reverse = as at h hal hwd hmx hst
    rcases doC_some h with ⟨v, σ1, hc, hh⟩ | ⟨y, σ1, hc, hh⟩
    · obtain ⟨d', hd', hx⟩ := CN_some hc
      have hgr := hG _ _ _ hh
      have hM := met_ret (met_of hW hn (by omega) hpz hx hwd hmx)
      have hg1 := execN_gro PP nn d' (n / 10000) 0 _ [] σ _ _ hx
      have hR1 := hF.2.2.2.2.2.2.2.2.2.1
      have hR2 := hF.2.2.2.2.2.2.2.2.2.2
      have hstk : st.map (tr D) = (as.map (tr D)).reverse ++ (st.drop (n / 10 % 10)).map (tr D) := by
        conv => lhs; rw [hst]
        rw [List.map_append, List.map_reverse]
      have hfix : CallFix p m c (bsOf mi) (mxOf mi) s args [] (yOf mi).cls := ⟨hF.1, hF.2.1, hF.2.2.1, hF.2.2.2.1, fun w hw => by cases hw⟩
      have hpre : PreS s H (Pcc D as σ) (as.map (tr D)) := ⟨pcc_blind, fun U hU hUw => ⟨rfl, State.WarmedH.trans hs hUw, by rw [hU]; exact r1⟩⟩
      have hcw : Cond.code (yOf (n / 10000)) (bsOf (n / 10000)) (mxOf (n / 10000)) (rtOf (n / 10000)) = cwOf (n / 10000) := by unfold cwOf; rw [if_pos hhh]
      have hCN : va_CN R s args (yOf mi).cls x (yOf (n / 10000)) "ArchEnds" (bsOf (n / 10000)) (mxOf (n / 10000)) (rtOf (n / 10000)) [cwOf (n / 10000)] { frames := d' + 8, cells := sZ σ1 - sZ σ, slots := sS σ1 - sS σ, locals := (d' + 1) * 200 } (sZ σ1 - sZ σ) (sS σ1 - sS σ) sig.parameters.length :=
        ⟨⟨rfl, rfl, by show d' + 8 + 1 ≤ R.frames; omega, by show 8 + (mxOf (n / 10000) + 11) + (d' + 1) * 200 ≤ R.locals; omega, cw_good hW hpz hs, by rw [hcw]; exact List.mem_cons_self⟩, by rw [hcw]; exact wd_at hW hs z1, wd_at hW hs z2, z3, fun sg hq => by rw [hsig] at hq; cases hq; rfl, va_Nw.use rfl (va_Nw.warmM hs (se_nest hW rfl hw))⟩
      have hrun := va_runSN (p := p) (e := e) (below := below) (meth := meth) (H := H) (locs := locs) (cells := cells) (slots := slots) (rest := (st.drop (n / 10 % 10)).map (tr D)) (g := F0 m pc ls (st.map (tr D))) hfix hM ⟨hCN, wd_at hW hs (z5 hkd), trivial⟩ hpre rfl (by rw [List.length_map]; omega) r2.2.1 hstk (by show 2 * 0 + _ ≤ 8; rw [cat_sum hW.2.2.2.2.1]; omega) hd (by omega)
      refine W_vx (res1 := .inl v) (σ1 := σ1) r3 (run_of hrun) (fun w hv H' locs' q1 q2 => ?_) (fun y hy hy5 H' locs' ce q q1 q2 q3 q4 q5 => by cases hy)
      cases hv
      have := hk _ hnx _ _ _ hh H' locs' (cells + (sZ σ1 - sZ σ)) (slots + (sS σ1 - sS σ)) ls q1 r2 q2 (by omega) (by omega)
      rw [List.map_append] at this
      rw [show (v.map (tr D)).toList = v.toList.map (tr D) by cases v <;> rfl]
      exact this
    · cases hh
  · cases hok
theorem cd_special (hW : Wld l D) (hF : Frm p R s m meth c D mi d) (hPz : ∀ id, id < 371 → id ≠ 326 → id ≠ 327 → id ≠ 328 → pzB id = true) (hn : Sd D l nn) (hk : ∀ q, nx = some q → ∀ L st σ2, k L st σ2 = some (res, σf) → Go p l e R s m args below meth c D mi z0 y0 res σf q L st σ2)
    (hG : ∀ L st σ2, k L st σ2 = some (res, σf) → sZ σ2 ≤ sZ σf ∧ sS σ2 ≤ sS σf) (hRm : sZ σf ≤ z0 + R.cells ∧ sS σf ≤ y0 + R.slots) {n : Nat} (hok : okI mi pc nx pos (.invokespecial n) = true) (h : step1 (CN nn d) X E pc (.invokespecial n) L st σ k = some (res, σf)) : Go p l e R s m args below meth c D mi z0 y0 res σf pc L st σ := by
  have hs := hF.2.2.2.2.2.2.2.2.1
  simp only [okI] at hok
  split at hok
  · rename_i x hd
    simp only [nxIs, Bool.and_eq_true, decide_eq_true_eq, Bool.or_eq_true] at hok
    obtain ⟨⟨⟨⟨⟨⟨hnx, hid⟩, hkd⟩, hhh⟩, _⟩, hw⟩, hpar⟩ := hok
    simp only [step1] at h
    intro H locs cells slots ls r1 r2 r3 r4 r5
    obtain ⟨⟨hle, hw8, hwt⟩, h⟩ := ite_some h
    have hpz := hPz _ hid (kd_ne hkd (by decide +kernel)) (kd_ne hkd (by decide +kernel)) (kd_ne hkd (by decide +kernel))
    obtain ⟨z1, z2, z3, z4, z5, z6, z7, z8⟩ := pz_of hpz
    obtain ⟨z7a, z7b, z7c⟩ := z7 hkd
    obtain ⟨sig, hsig, hsl, hal, hwd, hmx⟩ := cd_facts (kk := 1) hpz hle hwt (by rw [hkd]; rfl) hpar
    split at h
    · rename_i a as hrev
      split at h
      · cases h
      · rename_i h39
        rw [hrev] at hal hwd hmx
        rw [List.length_cons] at hal
        have hst := take_rev hrev
        rcases doC_some h with ⟨v, σ1, hc, hh⟩ | ⟨y, σ1, hc, hh⟩
        · obtain ⟨d', hd', hx⟩ := CN_some hc
          have hgr := hG _ _ _ hh
          have hM := met_ret (met_of hW hn (by omega) hpz hx hwd hmx)
          have hg1 := execN_gro PP nn d' (n / 10000) 0 _ [] σ _ _ hx
          have hR1 := hF.2.2.2.2.2.2.2.2.2.1
          have hR2 := hF.2.2.2.2.2.2.2.2.2.2
          have hstk : st.map (tr D) = (as.map (tr D)).reverse ++ .ref (D.2.2.1 a) :: (st.drop (n / 10 % 10)).map (tr D) := by
            conv => lhs; rw [hst]
            rw [List.map_append, List.map_cons, tr_at h39, List.map_reverse]
          have hfix : CallFix p m c (bsOf mi) (mxOf mi) s args [] (yOf mi).cls := ⟨hF.1, hF.2.1, hF.2.2.1, hF.2.2.2.1, fun w hw => by cases hw⟩
          have hpre : PreS s H (Pcc D (.ref a :: as) σ) (.ref (D.2.2.1 a) :: as.map (tr D)) := ⟨pcc_blind, fun U hU hUw => ⟨by rw [List.map_cons, tr_at h39], State.WarmedH.trans hs hUw, by rw [hU]; exact r1⟩⟩
          have hcw : Cond.code (yOf (n / 10000)) (bsOf (n / 10000)) (mxOf (n / 10000)) none = cwOf (n / 10000) := by unfold cwOf; rw [if_pos hhh, z7c]
          have hfr : d' + 8 + 1 ≤ R.frames := by omega
          have hlo : 8 + (mxOf (n / 10000) + 11) + (d' + 1) * 200 ≤ R.locals := by omega
          have hrun : va_Run p l e R s m args below meth c H locs cells slots (sZ σ1 - sZ σ) (sS σ1 - sS σ) (F0 m pc ls (st.map (tr D))) ((st.drop (n / 10 % 10)).map (tr D)) (Qc D (.inl v) σ1 (Value.ref (D.2.2.1 a) :: as.map (tr D)).toArray) (Fr0 D) := by
            rcases hw with hw | hw
            · have hCB : CallB R s args (yOf mi).cls x (yOf (n / 10000)) (bsOf (n / 10000)) (mxOf (n / 10000)) none [cwOf (n / 10000)] { frames := d' + 8, cells := sZ σ1 - sZ σ, slots := sS σ1 - sS σ, locals := (d' + 1) * 200 } (sZ σ1 - sZ σ) (sS σ1 - sS σ) sig.parameters.length :=
                ⟨rfl, rfl, hfr, hlo, cw_good hW hpz hs, by rw [hcw]; exact List.mem_cons_self, by rw [hcw]; exact wd_at hW hs z1, wd_at hW hs z2, z3, fun sg hq => by rw [hsig] at hq; cases hq; rfl, wd_at hW hs hw⟩
              exact va_runI hfix hM ⟨hCB, z7b, wd_at hW hs z7a⟩ hpre rfl (by rw [List.length_map]; omega) r2.2.1 hstk (by show 2 * 0 + _ ≤ 8; rw [cat_sum hW.2.2.2.2.1]; omega) hd (by omega)
            · have hCN : va_CN R s args (yOf mi).cls x (yOf (n / 10000)) "ArchEnds" (bsOf (n / 10000)) (mxOf (n / 10000)) none [cwOf (n / 10000)] { frames := d' + 8, cells := sZ σ1 - sZ σ, slots := sS σ1 - sS σ, locals := (d' + 1) * 200 } (sZ σ1 - sZ σ) (sS σ1 - sS σ) sig.parameters.length :=
                ⟨⟨rfl, rfl, hfr, hlo, cw_good hW hpz hs, by rw [hcw]; exact List.mem_cons_self⟩, by rw [hcw]; exact wd_at hW hs z1, wd_at hW hs z2, z3, fun sg hq => by rw [hsig] at hq; cases hq; rfl, va_Nw.use rfl (va_Nw.warmM hs (se_nest hW rfl hw))⟩
              exact va_runIN hfix hM ⟨hCN, z7b, wd_at hW hs z7a⟩ hpre rfl (by rw [List.length_map]; omega) r2.2.1 hstk (by show 2 * 0 + _ ≤ 8; rw [cat_sum hW.2.2.2.2.1]; omega) hd (by omega)
          refine W_vx (res1 := .inl v) (σ1 := σ1) r3 (run_of hrun) (fun w hv H' locs' q1 q2 => ?_) (fun y hy hy5 H' locs' ce q q1 q2 q3 q4 q5 => by cases hy)
          cases hv
          have := hk _ hnx _ _ _ hh H' locs' (cells + (sZ σ1 - sZ σ)) (slots + (sS σ1 - sS σ)) ls q1 r2 q2 (by omega) (by omega)
          rw [List.map_append] at this
          rw [show (v.map (tr D)).toList = v.toList.map (tr D) by cases v <;> rfl]
          exact this
        · cases hh
    · cases h
  · cases hok
end CD
