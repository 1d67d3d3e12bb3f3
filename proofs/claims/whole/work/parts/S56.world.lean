/-! The world at the law's entry: from what the Statement gives of the start to SM's first heap -/
section WO
variable {s : State} {args : Array Value}
def A0 (s : State) : Nat → Prop := fun q => s.heap.size ≤ q
theorem hA0 : ∀ a : Nat, a < s.heap.size → ¬ A0 s a := fun _ h q => absurd h (Nat.not_lt.mpr q)
theorem nq_at {p : Nat} {w : Cond} (hg : (Jvm.Cond.and given_1 narrow_1).before args s = true) (h : nAt p w = true) : w.before args s = true := by
  rw [Cond.before_and, Bool.and_eq_true] at hg
  have h2 := pk_at 40 p narrow_1 hg.2
  rw [of_decide_eq_true h] at h2
  exact h2
theorem w_st (hg : (Jvm.Cond.and given_1 narrow_1).before args s = true) {i : Nat} (hi : i < 67) : ∃ q : Nat × Nat, (tmS i).eval args s none [] s = some (.ref q.1) ∧ va_O "java/lang/String" q.1 (A0 s) s s.heap ∧ va_OF "java/lang/String" "coder" "B" (.int 0) q.1 (A0 s) s s.heap ∧ va_OF "java/lang/String" "value" "[B" (.ref q.2) q.1 (A0 s) s s.heap ∧ va_T .byte q.2 (stE i).2.2.length (fun j => .int (nthD (stE i).2.2 j 0)) (A0 s) s s.heap := by
  have h := List.all_eq_true.mp st_ok i (List.mem_range.mpr hi)
  unfold stB at h
  simp only [Bool.and_eq_true, decide_eq_true_eq] at h
  obtain ⟨⟨⟨⟨⟨h1, h2⟩, h3⟩, h4⟩, h5⟩, h6⟩ := h
  obtain ⟨a, c, cA, kA, q1, q2, q3, q4, q5, q6, -⟩ := Cond.exactly_spec (args := args) (first := s) (o := none) (s := s) (idx := []) (t := tmS i) (cls := "java/lang/String") (nq_at hg h1)
  obtain ⟨t, ht, hT⟩ := va_Tof (f := fun j => .int (nthD (stE i).2.2 j 0)) (A := A0 s) (Nat.lt_trans h5 (by decide)) (nq_at hg h3) (va_eqt (nq_at hg h4)) (fun j hj => va_eqt (nq_at hg (List.all_eq_true.mp h6 j (List.mem_range.mpr hj)))) hA0
  exact ⟨(a, t), q1, ⟨cA, q3, q5, by rw [q6]; exact q2, hA0 a (Array.getElem?_eq_some_iff.mp q3).1⟩, vk_OFof q1 (va_eqt (nq_at hg h2)) hA0, vk_OFof q1 ht hA0, hT⟩
theorem lq_at (hts : ∀ w ∈ lw_tbl, w.before args s = true) {w : Cond} (h : lw_tbl.contains w = true) : w.before args s = true := hts w (List.contains_iff_mem.mp h)
theorem w_sg (hg : (Jvm.Cond.and given_1 narrow_1).before args s = true) (hts : ∀ w ∈ lw_tbl, w.before args s = true) {i q1 : Nat} (hi : i < 38) (hq : (tmS i).eval args s none [] s = some (.ref q1)) :
    ∃ a : Nat, (tmG i).eval args s none [] s = some (.ref a) ∧ va_O "ArchEnds$Sign" a (A0 s) s s.heap ∧ va_OF "java/lang/Enum" "ordinal" "I" (.int (nthD sgO i 0)) a (A0 s) s s.heap ∧ va_OF "ArchEnds$Sign" "code" "I" (.int (nthD sgC i 0)) a (A0 s) s s.heap ∧ va_OF "ArchEnds$Sign" "text" "Ljava/lang/String;" (.ref q1) a (A0 s) s s.heap ∧
      va_Z (nthD stTab i ("", "", "")).1 (nthD stTab i ("", "", "")).2.1 (nthD stTab i ("", "", "")).2.2 (.ref a) (A0 s) s s.heap ∧ (Term.elem tmR (.int (Int32.ofNat i))).eval args s none [] s = some (.ref a) := by
  have h := List.all_eq_true.mp sg_ok i (List.mem_range.mpr hi)
  have hl := lq_ok
  unfold sgB at h
  simp only [Bool.and_eq_true, decide_eq_true_eq] at h
  simp only [List.all_cons, Bool.and_eq_true] at hl
  obtain ⟨⟨⟨⟨⟨⟨⟨h1, h2⟩, h3⟩, h4⟩, h5⟩, h6⟩, h7⟩, h8⟩ := h
  obtain ⟨a, c, cA, kA, e1, q2, q3, q4, q5, q6, -⟩ := Cond.exactly_spec (args := args) (first := s) (o := none) (s := s) (idx := []) (t := tmG i) (cls := "ArchEnds$Sign") (nq_at hg h1)
  obtain ⟨y, y1, y2⟩ := Cond.eq_one (args := args) (first := s) (o := none) (s := s) (idx := []) (nq_at hg h4)
  obtain ⟨z, z1, z2⟩ := Cond.eq_one (args := args) (first := s) (o := none) (s := s) (idx := []) (nq_at hg h5)
  cases hq.symm.trans y2
  cases e1.symm.trans z2
  refine ⟨a, e1, ⟨cA, q3, q5, by rw [q6]; exact q2, hA0 a (Array.getElem?_eq_some_iff.mp q3).1⟩, vk_OFof e1 (va_eqt (nq_at hg h2)) hA0, vk_OFof e1 (va_eqt (nq_at hg h3)) hA0, vk_OFof e1 y1 hA0, ?_, z1⟩
  rw [h7, h8]
  exact va_Zof (lq_at hts h6) (lq_at hts hl.2.2.2.2.2.2.1) e1 hA0
theorem va_OF_fun {o n d : String} {v w : Value} {t : Nat} {A : Nat → Prop} {U : State} {H : Heap} (h : va_OF o n d v t A U H) (h' : va_OF o n d w t A U H) : v = w := by
  obtain ⟨cf, k, i, f, cell, h1, h2, h3, h4, h5, h6⟩ := h
  obtain ⟨cf', k', i', f', cell', g1, g2, g3, g4, g5, g6⟩ := h'
  cases h1.symm.trans g1
  cases h3.symm.trans g3
  exact Option.some.inj (h5.symm.trans g5)
def rh0 (n b row : Nat) (sg : Nat → Nat) (st : Nat → Nat × Nat) (a : Nat) : Nat := if a < 38 then sg a else if a = 38 then row else if a < 40 then b else if a < 78 then (st (a - 40)).1 else if a < 80 then b else if a < 118 then (st (a - 80)).2 else if a < 120 then b else if a < 149 then (st (38 + (a - 120))).1 else if a < 150 then b else if a < 179 then (st (38 + (a - 150))).2 else if a < 200 then b else n + (a - 200)
theorem cK_ok : (List.range 13).all (fun c => c == 9 || ((List.range (nf c)).all (fun k => lw_tbl.contains (u_lay (cN c) (fT c) k) && decide (parseFieldDescriptor (fT c k).2.2.1 = some (fy c k))) && lw_tbl.any (fun w => match w with
  | .instantiable C _ => decide (C = cN c)
  | _ => false) && (List.range (nf c)).all (fun j => (List.range (nf c)).all fun k => j == k || !(decide ((fT c j).2.1 = (fT c k).2.1))))) = true := by decide +kernel
theorem w_cl (hts : ∀ w ∈ lw_tbl, w.before args s = true) {c : Nat} (hc : c < 13) (h9 : c ≠ 9) : ∃ q : ClassId × (Nat → Nat), (s.vm.findClass (cN c) = some q.1 ∧ ClassAt s (cN c) q.1) ∧ (∀ k, k < nf c → ∃ cf kf fi fd, s.fieldFound? (fT c k).1 (fT c k).2.1 (fT c k).2.2.1 = some (cf, kf, fi, fd) ∧ fd.isStatic = false ∧ fd.slot = q.2 k) ∧ ∀ j k, j < nf c → k < nf c → j ≠ k → q.2 j ≠ q.2 k := by
  have h := List.all_eq_true.mp cK_ok c (List.mem_range.mpr hc)
  simp only [Bool.or_eq_true, beq_iff_eq, h9, false_or, Bool.and_eq_true] at h
  obtain ⟨⟨h1, h2⟩, h3⟩ := h
  have h1' : ∀ k, k < nf c → lw_tbl.contains (u_lay (cN c) (fT c) k) = true ∧ parseFieldDescriptor (fT c k).2.2.1 = some (fy c k) := fun k hk => by
    have := List.all_eq_true.mp h1 k (List.mem_range.mpr hk)
    rw [Bool.and_eq_true, decide_eq_true_eq] at this
    exact this
  have hin : ∀ w ∈ u_ws (cN c) (fT c) (nf c), w ∈ lw_tbl := fun w hw => by
    obtain ⟨k, hk, rfl⟩ := List.mem_map.mp hw
    exact List.contains_iff_mem.mp (h1' k (List.mem_range.mp hk)).1
  obtain ⟨w, hw, hm⟩ := List.any_eq_true.mp h2
  have hi : ∃ n, (Cond.instantiable (cN c) n).before args s = true := by
    cases w
    case instantiable C n =>
      have := of_decide_eq_true hm
      subst this
      exact ⟨n, hts _ hw⟩
    all_goals cases hm
  obtain ⟨n, hi⟩ := hi
  obtain ⟨cC, iS, hS, hfc, hcl⟩ := u_known (T := fT c) (N := nf c) hts hin hi
  obtain ⟨kC, hk, hkind⟩ := hcl
  refine ⟨(cC, iS), ⟨hfc, hfc, kC, hk, hkind⟩, fun k hk2 => ?_, fun j k hj hk2 hne => ?_⟩
  · obtain ⟨cf, kf, fi, fd, hi2, he⟩ := hS k hk2
    exact ⟨cf, kf, fi, fd, hi2, (u_facts hfc hk (u_lays hts hin hk2) hi2).1, he⟩
  · obtain ⟨_, _, _, fa, hia, ea⟩ := hS j hj
    obtain ⟨_, _, _, fb, hib, eb⟩ := hS k hk2
    show iS j ≠ iS k
    rw [← ea, ← eb]
    refine u_apart (u_lays hts hin hj) (u_lays hts hin hk2) hia hib ?_
    rw [(State.fieldFound?_type hia (h1' j hj).2).1, (State.fieldFound?_type hib (h1' k hk2).2).1]
    have := List.all_eq_true.mp (List.all_eq_true.mp h3 j (List.mem_range.mpr hj)) k (List.mem_range.mpr hk2)
    simp only [Bool.or_eq_true, beq_iff_eq, hne, false_or, Bool.not_eq_true', decide_eq_false_iff_not] at this
    exact this
end WO
theorem ob2 {D : SD} {σ : SH} {s : State} {a c t : Nat} {E o0 n0 d0 o1 n1 d1 : String} {v0 v1 : Value} {cC : ClassId} {x0 x1 : ClassId × Class × Nat × Field} (hO : va_O E t (A0 s) s s.heap) (h0 : va_OF o0 n0 d0 v0 t (A0 s) s s.heap) (h1 : va_OF o1 n1 d1 v1 t (A0 s) s s.heap)
    (hE : s.vm.findClass E = some cC) (f0 : s.fieldFound? o0 n0 d0 = some x0) (f1 : s.fieldFound? o1 n1 d1 = some x1) (ht : D.2.2.1 a = t) (hcc : D.2.2.2.2.1 c = cC) (s0 : D.2.2.2.2.2 c 0 = x0.2.2.2.slot) (s1 : D.2.2.2.2.2 c 1 = x1.2.2.2.slot) (hn : nf c = 2) (ha : a < 200) (e0 : fv D σ a c 0 = v0) (e1 : fv D σ a c 1 = v1) : okObj D σ s.heap a c := by
  obtain ⟨cell, p1, p2, p3, p4⟩ := hO
  obtain ⟨cf, k, i, f, cell', q1, q2, q3, q4, q5, q6⟩ := h0
  obtain ⟨cf', k', i', f', cell'', r1, r2, r3, r4, r5, r6⟩ := h1
  cases p1.symm.trans q3
  cases p1.symm.trans r3
  cases f0.symm.trans q1
  cases f1.symm.trans r1
  refine ⟨cell, by rw [ht]; exact p1, by rw [hcc]; exact Option.some.inj (p3.symm.trans hE), p2, q4, fun h => absurd h (by omega), fun j hj => ?_⟩
  rw [hn] at hj
  match j, hj with
  | 0, _ => rw [s0, e0]; exact q5
  | 1, _ => rw [s1, e1]; exact r5
theorem fT_90 : (fT 9 0 = ("ArchEnds$Sign", "text", "Ljava/lang/String;", true) ∧ fT 9 1 = ("ArchEnds$Sign", "code", "I", true) ∧ fT 13 0 = ("java/lang/String", "value", "[B", true) ∧ fT 13 1 = ("java/lang/String", "coder", "B", true)) ∧ (nf 9 = 2 ∧ nf 13 = 2 ∧ cN 9 = "ArchEnds$Sign" ∧ cN 13 = "java/lang/String") ∧ (isRf 9 0 = true ∧ isRf 9 1 = false ∧ isRf 13 0 = true ∧ isRf 13 1 = false) := by decide +kernel
theorem va_O_lt {E : String} {t : Nat} {s : State} (h : va_O E t (A0 s) s s.heap) : t < s.heap.size := by
  obtain ⟨cell, h1, -⟩ := h
  exact (Array.getElem?_eq_some_iff.mp h1).1
theorem va_T_lt {ty : FieldType} {t N : Nat} {f : Nat → Value} {s : State} (h : va_T ty t N f (A0 s) s s.heap) : t < s.heap.size := by
  obtain ⟨cell, h1, -⟩ := h
  exact (Array.getElem?_eq_some_iff.mp h1).1
theorem va_O_cls {E : String} {t : Nat} {s : State} (h : va_O E t (A0 s) s s.heap) : ∃ c, s.vm.findClass E = some c := by
  obtain ⟨cell, _, _, h3, _⟩ := h
  exact ⟨_, h3⟩
theorem va_OF_ff {o n d : String} {v : Value} {t : Nat} {s : State} (h : va_OF o n d v t (A0 s) s s.heap) : ∃ x : ClassId × Class × Nat × Field, s.fieldFound? o n d = some x ∧ x.2.2.2.isStatic = false := by
  obtain ⟨cf, k, i, f, cell', q1, q2, _⟩ := h
  exact ⟨_, q1, q2⟩
theorem okByt_of {D : SD} {σ : SH} {s : State} {a t N : Nat} {f : Nat → Value} (hD : D.1 = s) (h : va_T .byte t N f (A0 s) s s.heap) (ht : D.2.2.1 a = t) (hN : sN σ a = N) (hf : ∀ j, j < N → f j = .int (sI σ a j)) : okByt D σ s.heap a := by
  obtain ⟨cell, h1, h2, h3, h4, h5, h6, h7⟩ := h
  exact ⟨cell, by rw [ht]; exact h1, by rw [hD]; exact h2, h3, by rw [hN]; exact ⟨h4, h5⟩, fun j hj => by rw [hN] at hj; rw [h6 j hj, hf j hj]⟩
set_option maxHeartbeats 1000000 in
theorem world {l : Launch} {s : State} {b L : Nat} {xs : Nat → Int32} (htr : l.stackTraces = false) (hts : ∀ w ∈ lw_tbl, w.before #[Value.ref b] s = true) (hX : va_X b L xs s s.heap) (hb : b < s.heap.size) (hg : (Jvm.Cond.and given_1 narrow_1).before #[Value.ref b] s = true) :
    ∃ D : SD, D.1 = s ∧ D.2.1 = #[Value.ref b] ∧ Wld l D ∧ Rep D (g0 L xs) s.heap ∧ D.2.2.1 199 = b := by
  have hst0 : ∀ i : Nat, ∃ q : Nat × Nat, i < 67 → (tmS i).eval #[Value.ref b] s none [] s = some (.ref q.1) ∧ va_O "java/lang/String" q.1 (A0 s) s s.heap ∧ va_OF "java/lang/String" "coder" "B" (.int 0) q.1 (A0 s) s s.heap ∧ va_OF "java/lang/String" "value" "[B" (.ref q.2) q.1 (A0 s) s s.heap ∧ va_T .byte q.2 (stE i).2.2.length (fun j => .int (nthD (stE i).2.2 j 0)) (A0 s) s s.heap := fun i => by
    by_cases hi : i < 67
    · obtain ⟨q, h⟩ := w_st hg hi
      exact ⟨q, fun _ => h⟩
    · exact ⟨(0, 0), fun h => absurd h hi⟩
  obtain ⟨st, hst⟩ := Classical.axiomOfChoice hst0
  have hsg0 : ∀ i : Nat, ∃ a : Nat, i < 38 → (tmG i).eval #[Value.ref b] s none [] s = some (.ref a) ∧ va_O "ArchEnds$Sign" a (A0 s) s s.heap ∧ va_OF "java/lang/Enum" "ordinal" "I" (.int (nthD sgO i 0)) a (A0 s) s s.heap ∧ va_OF "ArchEnds$Sign" "code" "I" (.int (nthD sgC i 0)) a (A0 s) s s.heap ∧ va_OF "ArchEnds$Sign" "text" "Ljava/lang/String;" (.ref (st i).1) a (A0 s) s s.heap ∧
      va_Z (nthD stTab i ("", "", "")).1 (nthD stTab i ("", "", "")).2.1 (nthD stTab i ("", "", "")).2.2 (.ref a) (A0 s) s s.heap ∧ (Term.elem tmR (.int (Int32.ofNat i))).eval #[Value.ref b] s none [] s = some (.ref a) := fun i => by
    by_cases hi : i < 38
    · obtain ⟨q, h⟩ := w_sg hg hts hi (hst i (by omega)).1
      exact ⟨q, fun _ => h⟩
    · exact ⟨0, fun h => absurd h hi⟩
  obtain ⟨sg, hsg⟩ := Classical.axiomOfChoice hsg0
  obtain ⟨row, hrow, hT⟩ := va_Tof (tm := tmR) (ty := .object "ArchEnds$Sign") (N := 38) (f := fun j => .ref (sg j)) (A := A0 s) (by decide) (nq_at hg nq_0) (va_eqt (nq_at hg nq_1)) (fun j hj => (hsg j hj).2.2.2.2.2.2) hA0
  have hl := lq_ok
  simp only [List.all_cons, Bool.and_eq_true] at hl
  obtain ⟨l1, l2, l3, l4, l5, l6, l7, l8, l9, l10, -⟩ := hl
  have hfm : ∃ v : Value, (v = .null ∨ ∃ q, v = .ref q) ∧ va_Z "jdk/internal/util/Preconditions" "SIOOBE_FORMATTER" "Ljava/util/function/BiFunction;" v (A0 s) s s.heap := by
    rcases va_Zqof (A := A0 s) (lq_at hts l3) (lq_at hts l9) (nq_at hg nq_3) hA0 with h | ⟨t, h⟩
    · exact ⟨_, Or.inl rfl, h⟩
    · exact ⟨_, Or.inr ⟨t, rfl⟩, h⟩
  obtain ⟨fm, hfm1, hfm2⟩ := hfm
  have hcl0 : ∀ c : Nat, ∃ q : ClassId × (Nat → Nat), c < 13 → c ≠ 9 → (s.vm.findClass (cN c) = some q.1 ∧ ClassAt s (cN c) q.1) ∧ (∀ k, k < nf c → ∃ cf kf fi fd, s.fieldFound? (fT c k).1 (fT c k).2.1 (fT c k).2.2.1 = some (cf, kf, fi, fd) ∧ fd.isStatic = false ∧ fd.slot = q.2 k) ∧ ∀ j k, j < nf c → k < nf c → j ≠ k → q.2 j ≠ q.2 k := fun c => by
    by_cases hc : c < 13 ∧ c ≠ 9
    · obtain ⟨q, h⟩ := w_cl hts hc.1 hc.2
      exact ⟨q, fun _ _ => h⟩
    · exact ⟨(0, fun _ => 0), fun h h' => absurd ⟨h, h'⟩ hc⟩
  obtain ⟨cl, hcl⟩ := Classical.axiomOfChoice hcl0
  obtain ⟨c9, hc9⟩ := va_O_cls (hsg 0 (by decide)).2.1
  obtain ⟨c13, hc13⟩ := va_O_cls (hst 0 (by decide)).2.1
  obtain ⟨x0, x0f, x0s⟩ := va_OF_ff (hsg 0 (by decide)).2.2.2.2.1
  obtain ⟨x1, x1f, x1s⟩ := va_OF_ff (hsg 0 (by decide)).2.2.2.1
  obtain ⟨y0, y0f, y0s⟩ := va_OF_ff (hst 0 (by decide)).2.2.2.1
  obtain ⟨y1, y1f, y1s⟩ := va_OF_ff (hst 0 (by decide)).2.2.1
  obtain ⟨⟨t1, t2, t3, t4⟩, ⟨n9, n13, e9, e13⟩, ⟨i90, i91, i130, i131⟩⟩ := fT_90
  refine ⟨(s, #[Value.ref b], rh0 s.heap.size b row sg st, fm, fun c => if c = 9 then c9 else if c = 13 then c13 else (cl c).1, fun c k => if c = 9 then (if k = 0 then x0.2.2.2.slot else x1.2.2.2.slot) else if c = 13 then (if k = 0 then y0.2.2.2.slot else y1.2.2.2.slot) else (cl c).2 k), rfl, rfl, ?_, ?_, rfl⟩
  · refine ⟨htr, hts, fun a ha => ?_, fun a ha => ?_, hfm1, fun c hc => ⟨⟨?_, fun h9 h13 => ?_⟩, fun k hk => ?_⟩, fun a c ha hc e => ?_, fun n hn => ?_, va_Zof (lq_at hts l2) (lq_at hts l8) (va_eqi (nq_at hg nq_2)) hA0, fun q hq => ?_, vx_Zqof (lq_at hts l4) (lq_at hts l10) (nq_at hg nq_4) hA0, vx_Zqof (lq_at hts l5) (lq_at hts l10) (nq_at hg nq_5) hA0, fun c hc h9 j k hj hk hne => ?_, fun x y hx hy hne => ?_⟩
    · show rh0 s.heap.size b row sg st a = _
      unfold rh0
      rw [if_neg (by omega), if_neg (by omega), if_neg (by omega), if_neg (by omega), if_neg (by omega), if_neg (by omega), if_neg (by omega), if_neg (by omega), if_neg (by omega), if_neg (by omega), if_neg (by omega)]
    · show rh0 s.heap.size b row sg st a < s.heap.size
      unfold rh0
      split
      · exact va_O_lt (hsg a (by omega)).2.1
      split
      · exact va_T_lt hT
      split
      · exact hb
      split
      · exact va_O_lt (hst (a - 40) (by omega)).2.1
      split
      · exact hb
      split
      · exact va_T_lt (hst (a - 80) (by omega)).2.2.2.2
      split
      · exact hb
      split
      · exact va_O_lt (hst (38 + (a - 120)) (by omega)).2.1
      split
      · exact hb
      split
      · exact va_T_lt (hst (38 + (a - 150)) (by omega)).2.2.2.2
      · exact hb
    · by_cases h9 : c = 9
      · subst h9; rw [e9]; exact hc9
      · by_cases h13 : c = 13
        · subst h13; rw [e13]; exact hc13
        · show _ = some (if c = 9 then c9 else if c = 13 then c13 else (cl c).1)
          rw [if_neg h9, if_neg h13]
          exact (hcl c (by omega) h9).1.1
    · show ClassAt s (cN c) (if c = 9 then c9 else if c = 13 then c13 else (cl c).1)
      rw [if_neg h9, if_neg h13]
      exact (hcl c (by omega) h9).1.2
    · by_cases h9 : c = 9
      · subst h9
        rw [n9] at hk
        match k, hk with
        | 0, _ => exact ⟨_, _, _, _, by rw [t1]; exact x0f, x0s, rfl⟩
        | 1, _ => exact ⟨_, _, _, _, by rw [t2]; exact x1f, x1s, rfl⟩
      · by_cases h13 : c = 13
        · subst h13
          rw [n13] at hk
          match k, hk with
          | 0, _ => exact ⟨_, _, _, _, by rw [t3]; exact y0f, y0s, rfl⟩
          | 1, _ => exact ⟨_, _, _, _, by rw [t4]; exact y1f, y1s, rfl⟩
        · obtain ⟨cf, kf, fi, fd, z1, z2, z3⟩ := (hcl c (by omega) h9).2.1 k hk
          refine ⟨cf, kf, fi, fd, z1, z2, ?_⟩
          show _ = (if c = 9 then _ else if c = 13 then _ else (cl c).2 k)
          rw [if_neg h9, if_neg h13]
          exact z3
    · have e2 : sg a = sg c := by
        have : rh0 s.heap.size b row sg st a = rh0 s.heap.size b row sg st c := e
        unfold rh0 at this
        rw [if_pos ha, if_pos hc] at this
        exact this
      by_cases hac : a = c
      · exact hac
      · exfalso
        have h1 := (hsg a ha).2.2.1
        have h2 := (hsg c hc).2.2.1
        rw [e2] at h1
        have h3 := Value.int.inj (va_OF_fun h1 h2)
        have h4 := List.all_eq_true.mp (List.all_eq_true.mp sg_ap a (List.mem_range.mpr ha)) c (List.mem_range.mpr hc)
        simp [hac, h3] at h4
    · have h38 := st_38
      rw [Bool.and_eq_true, decide_eq_true_eq, decide_eq_true_eq] at h38
      by_cases h1 : n < 38
      · have := (hsg n h1).2.2.2.2.2.1
        show va_Z _ _ _ (if n = 39 then fm else .ref (rh0 s.heap.size b row sg st n)) _ _ _
        rw [if_neg (by omega)]
        unfold rh0
        rw [if_pos h1]
        exact this
      · by_cases h2 : n = 38
        · subst h2
          show va_Z _ _ _ (if 38 = 39 then fm else .ref (rh0 s.heap.size b row sg st 38)) _ _ _
          rw [if_neg (by decide), h38.1]
          exact va_Zof (lq_at hts l1) (lq_at hts l6) hrow hA0
        · have h3 : n = 39 := by omega
          subst h3
          show va_Z _ _ _ (if 39 = 39 then fm else .ref (rh0 s.heap.size b row sg st 39)) _ _ _
          rw [if_pos rfl, of_decide_eq_true h38.2]
          exact hfm2
    · have h := List.all_eq_true.mp sr_ok q hq
      simp only [Bool.and_eq_true, decide_eq_true_eq] at h
      obtain ⟨⟨⟨⟨z1, z2⟩, z3⟩, z4⟩, z5⟩ := h
      have h6 := (hst (38 + (q.1 - 120)) (by omega)).1
      unfold tmS at h6
      rw [z3, z4] at h6
      refine vk_R.of (lq_at hts z5) ?_
      show _ = some (Value.ref (rh0 s.heap.size b row sg st q.1))
      rw [h6]
      unfold rh0
      rw [if_neg (by omega), if_neg (by omega), if_neg (by omega), if_neg (by omega), if_neg (by omega), if_neg (by omega), if_neg (by omega), if_pos (by omega)]
    · have h13 : c ≠ 13 := by omega
      show (if c = 9 then _ else if c = 13 then _ else (cl c).2 j) ≠ (if c = 9 then _ else if c = 13 then _ else (cl c).2 k)
      rw [if_neg h9, if_neg h9, if_neg h13, if_neg h13]
      exact (hcl c hc h9).2.2 j k hj hk hne
    · have h := List.all_eq_true.mp (List.all_eq_true.mp exP_ok x (List.mem_range.mpr hx)) y (List.mem_range.mpr hy)
      simp only [Bool.or_eq_true, beq_iff_eq, hne, false_or] at h
      exact va_Nc.of (nq_at hg h)
  · refine ⟨Nat.le_refl _, ?_, fun q _ => rfl, fun a ha => ?_, fun a ha => ?_, rfl, fun a => ?_⟩
    · show s.heap.size = s.heap.size + (200 - 200)
      omega
    · show g0T a = 0 ∨ _
      show g0T a = 0 ∨ g0T a = 4 ∨ g0T a = 5 ∨ g0T a = 6 ∨ g0T a = 109 ∨ g0T a = 113
      unfold g0T
      repeat' split
      all_goals simp
    · show g0T a = 0
      have ha2 : 200 ≤ a := ha
      unfold g0T
      rw [if_neg (by omega), if_neg (by omega), if_neg (by omega), if_neg (by omega), if_neg (by omega), if_neg (by omega), if_neg (by omega), if_neg (by omega), if_neg (by omega), if_neg (by omega), if_neg (by omega)]
    · have nul : g0T a = 0 → okC (s, #[Value.ref b], rh0 s.heap.size b row sg st, fm, fun c => if c = 9 then c9 else if c = 13 then c13 else (cl c).1, fun c k => if c = 9 then (if k = 0 then x0.2.2.2.slot else x1.2.2.2.slot) else if c = 13 then (if k = 0 then y0.2.2.2.slot else y1.2.2.2.slot) else (cl c).2 k) (g0 L xs) s.heap a := fun h0 => by
        have h1 : sT (g0 L xs) a = 0 := h0
        exact ⟨fun q => by omega, fun q => by omega, fun q => by omega, fun c q => by omega, fun c q => by omega⟩
      have strO : ∀ (i k : Nat), i < 67 → a < 200 → g0T a = 113 → rh0 s.heap.size b row sg st a = (st i).1 → g0V a 0 = .ref k → k ≠ 39 → rh0 s.heap.size b row sg st k = (st i).2 → g0I xs a 1 = 0 → okC (s, #[Value.ref b], rh0 s.heap.size b row sg st, fm, fun c => if c = 9 then c9 else if c = 13 then c13 else (cl c).1, fun c k => if c = 9 then (if k = 0 then x0.2.2.2.slot else x1.2.2.2.slot) else if c = 13 then (if k = 0 then y0.2.2.2.slot else y1.2.2.2.slot) else (cl c).2 k) (g0 L xs) s.heap a := fun i k hi ha hta hr hv hk hrk h1 => by
        refine okC_obj (n := 13) hta (ob2 (t := (st i).1) (hst i hi).2.1 (hst i hi).2.2.2.1 (hst i hi).2.2.1 hc13 y0f y1f hr rfl rfl rfl n13 ha ?_ ?_)
        · unfold fv
          rw [if_pos i130]
          show tr _ (g0V a 0) = _
          rw [hv, tr_at hk]
          exact congrArg Value.ref hrk
        · unfold fv
          rw [if_neg (by rw [i131]; decide)]
          exact congrArg Value.int h1
      have bytO : ∀ i : Nat, i < 67 → g0T a = 5 → rh0 s.heap.size b row sg st a = (st i).2 → g0N L a = (stE i).2.2.length → (∀ j, g0I xs a j = nthD (stE i).2.2 j 0) → okC (s, #[Value.ref b], rh0 s.heap.size b row sg st, fm, fun c => if c = 9 then c9 else if c = 13 then c13 else (cl c).1, fun c k => if c = 9 then (if k = 0 then x0.2.2.2.slot else x1.2.2.2.slot) else if c = 13 then (if k = 0 then y0.2.2.2.slot else y1.2.2.2.slot) else (cl c).2 k) (g0 L xs) s.heap a := fun i hi hta hr hn hv => by
        have h1 : sT (g0 L xs) a = 5 := hta
        refine ⟨fun q => by omega, fun _ => okByt_of rfl (hst i hi).2.2.2.2 hr hn (fun j hj => congrArg Value.int (hv j).symm), fun q => by omega, fun c q => by omega, fun c q => by omega⟩
      by_cases a1 : a < 38
      · refine okC_obj (n := 9) (show g0T a = 109 by unfold g0T; rw [if_pos a1]) (ob2 (t := sg a) (hsg a a1).2.1 (hsg a a1).2.2.2.2.1 (hsg a a1).2.2.2.1 hc9 x0f x1f (show rh0 s.heap.size b row sg st a = _ by unfold rh0; rw [if_pos a1]) rfl rfl rfl n9 (by omega) ?_ ?_)
        · unfold fv
          rw [if_pos i90]
          show tr _ (g0V a 0) = _
          unfold g0V
          rw [if_pos a1, tr_at (by omega)]
          show Value.ref (rh0 s.heap.size b row sg st (40 + a)) = _
          unfold rh0
          rw [if_neg (by omega), if_neg (by omega), if_neg (by omega), if_pos (by omega), Nat.add_sub_cancel_left]
        · unfold fv
          rw [if_neg (by rw [i91]; decide)]
          show Value.int (g0I xs a 1) = _
          unfold g0I
          rw [if_pos a1, if_pos rfl]
      by_cases a2 : a = 38
      · subst a2
        have h1 : sT (g0 L xs) 38 = 6 := rfl
        obtain ⟨cell, p1, ⟨p2, ks, sk1, scomp, sk2⟩, p3, p4, p5, p6, p7⟩ := hT
        refine ⟨fun q => by omega, fun q => by omega, fun q => by omega, fun c q => ?_, fun c q => by omega⟩
        rcases q with q | q
        · omega
        · obtain ⟨-, rfl⟩ := q
          refine ⟨cell, ks, scomp, p1, p2, p3, sk1, by rw [e9]; exact sk2, fun h => absurd h1 h, ⟨p4, p5⟩, fun i hi => ?_⟩
          have hi2 : i < 38 := hi
          rw [p6 i hi2]
          show _ = some (tr _ (.ref i))
          rw [tr_at (by omega)]
          show some (Value.ref (sg i)) = some (Value.ref (rh0 s.heap.size b row sg st i))
          unfold rh0
          rw [if_pos hi2]
      by_cases a3 : a < 40
      · exact nul (by unfold g0T; rw [if_neg a1, if_neg a2, if_pos a3])
      by_cases a4 : a < 78
      · refine strO (a - 40) (a + 40) (by omega) (by omega) ?_ ?_ ?_ (by omega) ?_ ?_
        · unfold g0T; rw [if_neg a1, if_neg a2, if_neg a3, if_pos a4]
        · unfold rh0; rw [if_neg a1, if_neg a2, if_neg a3, if_pos a4]
        · unfold g0V; rw [if_neg a1, if_neg a2, if_neg a3, if_pos a4]
        · unfold rh0; rw [if_neg (by omega), if_neg (by omega), if_neg (by omega), if_neg (by omega), if_neg (by omega), if_pos (by omega), show a + 40 - 80 = a - 40 by omega]
        · unfold g0I; rw [if_neg a1, if_pos (by omega)]
      by_cases a5 : a < 80
      · exact nul (by unfold g0T; rw [if_neg a1, if_neg a2, if_neg a3, if_neg a4, if_pos a5])
      by_cases a6 : a < 118
      · refine bytO (a - 80) (by omega) ?_ ?_ ?_ (fun j => ?_)
        · unfold g0T; rw [if_neg a1, if_neg a2, if_neg a3, if_neg a4, if_neg a5, if_pos a6]
        · unfold rh0; rw [if_neg a1, if_neg a2, if_neg a3, if_neg a4, if_neg a5, if_pos a6]
        · unfold g0N; rw [if_neg a2, if_pos a6]
        · unfold g0I; rw [if_neg a1, if_neg a5, if_pos a6]
      by_cases a7 : a < 120
      · exact nul (by unfold g0T; rw [if_neg a1, if_neg a2, if_neg a3, if_neg a4, if_neg a5, if_neg a6, if_pos a7])
      by_cases a8 : a < 149
      · refine strO (38 + (a - 120)) (a + 30) (by omega) (by omega) ?_ ?_ ?_ (by omega) ?_ ?_
        · unfold g0T; rw [if_neg a1, if_neg a2, if_neg a3, if_neg a4, if_neg a5, if_neg a6, if_neg a7, if_pos a8]
        · unfold rh0; rw [if_neg a1, if_neg a2, if_neg a3, if_neg a4, if_neg a5, if_neg a6, if_neg a7, if_pos a8]
        · unfold g0V; rw [if_neg a1, if_neg a2, if_neg a3, if_neg a4, if_neg a7, if_pos a8]
        · unfold rh0; rw [if_neg (by omega), if_neg (by omega), if_neg (by omega), if_neg (by omega), if_neg (by omega), if_neg (by omega), if_neg (by omega), if_neg (by omega), if_neg (by omega), if_pos (by omega), show a + 30 - 150 = a - 120 by omega]
        · unfold g0I; rw [if_neg a1, if_neg a5, if_neg a6, if_pos (by omega)]
      by_cases a9 : a < 150
      · exact nul (by unfold g0T; rw [if_neg a1, if_neg a2, if_neg a3, if_neg a4, if_neg a5, if_neg a6, if_neg a7, if_neg a8, if_pos a9])
      by_cases a10 : a < 179
      · refine bytO (38 + (a - 150)) (by omega) ?_ ?_ ?_ (fun j => ?_)
        · unfold g0T; rw [if_neg a1, if_neg a2, if_neg a3, if_neg a4, if_neg a5, if_neg a6, if_neg a7, if_neg a8, if_neg a9, if_pos a10]
        · unfold rh0; rw [if_neg a1, if_neg a2, if_neg a3, if_neg a4, if_neg a5, if_neg a6, if_neg a7, if_neg a8, if_neg a9, if_pos a10]
        · unfold g0N; rw [if_neg a2, if_neg a6, if_pos a10]
        · unfold g0I; rw [if_neg a1, if_neg a5, if_neg a6, if_neg a9, if_pos a10]
      by_cases a11 : a = 199
      · subst a11
        have h1 : sT (g0 L xs) 199 = 4 := rfl
        obtain ⟨scr, p1, p2, p3, p4, p5⟩ := hX
        exact ⟨fun _ => ⟨scr, p1, p2, p3, p4, p5⟩, fun q => by omega, fun q => by omega, fun c q => by omega, fun c q => by omega⟩
      · exact nul (by unfold g0T; rw [if_neg a1, if_neg a2, if_neg a3, if_neg a4, if_neg a5, if_neg a6, if_neg a7, if_neg a8, if_neg a9, if_neg a10, if_neg a11])
