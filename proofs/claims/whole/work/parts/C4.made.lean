section C4
variable {σ ρ ρ' ρ'' : SH} {z : Nat}
def Od (z : Nat) (ρ ρ' : SH) : Prop := ∀ a, a < z → a ≠ 200 → sT ρ' a = sT ρ a ∧ sN ρ' a = sN ρ a ∧ ∀ k, sV ρ' a k = sV ρ a k ∧ sI ρ' a k = sI ρ a k
theorem Od.tr (h : Od z ρ ρ') (g : Od z ρ' ρ'') : Od z ρ ρ'' := fun a x y => ⟨(g a x y).1.trans (h a x y).1, (g a x y).2.1.trans (h a x y).2.1, fun k => ⟨((g a x y).2.2 k).1.trans ((h a x y).2.2 k).1, ((g a x y).2.2 k).2.trans ((h a x y).2.2 k).2⟩⟩
theorem Od.mono {z' : Nat} (h : Od z ρ ρ') (hz : z' ≤ z) : Od z' ρ ρ' := fun a x y => h a (by omega) y
theorem Up.od {kk : Nat} (h : Up z kk ρ ρ') : Od z ρ ρ' := fun a x y => ⟨(h a x).1, (h a x).2.1, fun k => ⟨(h a x).2.2.1 k (Or.inl y), (h a x).2.2.2 k⟩⟩
theorem od_v (z k : Nat) (v : Value) : Od z ρ (wV ρ 200 k v) := fun a _ y => ⟨rfl, rfl, fun j => ⟨by rw [V_wV, if_neg (fun q => y q.1)], rfl⟩⟩
theorem od_i (z k : Nat) (v : Int32) : Od z ρ (wI ρ 200 k v) := fun a _ y => ⟨rfl, rfl, fun j => ⟨rfl, sI_wIn (fun q => y q.1)⟩⟩
theorem Cm.od {i1 i2 i3 : Nat} (h : Cm ρ z i1 i2 i3 ρ') : Od z ρ ρ' := fun a x _ => h.2.1 a x
theorem od_mk (t n s : Nat) (h : z ≤ sZ ρ) : Od z ρ (mkC ρ t n s) := (mk_up t n s h 0).od
/-- a county as it is made -/
def Nc (F : SH) (c : Nat) : Prop := ShC F c ∧ sV F c 12 = .null ∧ (∀ k, sI F c k = if k = 8 then 8 else if k = 9 then 5 else if k = 11 then 1 else 0) ∧ ∀ a k, c < a → a < c + 26 → sI F a k = if c + 18 ≤ a ∧ k = 4 then -1 else 0
theorem Cm.nc (h : Cm σ z 6 5 8 ρ) : Nc ρ z := by
  obtain ⟨_, _, _, ⟨h4, h5, h6⟩, h7, h8, h9⟩ := id h
  refine ⟨h.sh, h4, h5, fun a k x y => ?_⟩
  by_cases c1 : a < z + 7
  · rw [h6 a k x c1, if_neg (by omega)]
  · by_cases c2 : a < z + 13
    · have := (h7 (a - (z + 7)) (by omega)).2 k
      rw [show z + 7 + (a - (z + 7)) = a by omega] at this
      rw [this, if_neg (by omega)]
    · by_cases c3 : a < z + 18
      · have := (h8 (a - (z + 13)) (by omega)).2 k
        rw [show z + 13 + (a - (z + 13)) = a by omega] at this
        rw [this, if_neg (by omega)]
      · have := (h9 (a - (z + 18)) (by omega)).2 k
        rw [show z + 18 + (a - (z + 18)) = a by omega] at this
        rw [this]
        by_cases e : k = 4
        · rw [if_pos e, if_pos ⟨by omega, e⟩]
        · rw [if_neg e, if_neg (fun q => e q.2)]
theorem Nc.od {c : Nat} (h : Nc ρ c) (hc : 201 ≤ c) (hz : c + 26 ≤ z) (g : Od z ρ ρ') : Nc ρ' c := by
  have T : ∀ i, i < 26 → sT ρ' (c + i) = sT ρ (c + i) := fun i hi => (g _ (by omega) (by omega)).1
  have N : ∀ i, i < 26 → sN ρ' (c + i) = sN ρ (c + i) := fun i hi => (g _ (by omega) (by omega)).2.1
  have V : ∀ i k, i < 26 → sV ρ' (c + i) k = sV ρ (c + i) k := fun i k hi => ((g _ (by omega) (by omega)).2.2 k).1
  obtain ⟨⟨⟨p1, p2, p3, p4, p5, p6⟩, ⟨q1, q2, q3, q4, q5, q6⟩, ⟨r1, r2, r3, r4, r5, r6⟩, s1, s2, s3⟩, h2, h3, h4⟩ := h
  refine ⟨⟨⟨(T 0 (by omega)).trans p1, (V 0 0 (by omega)).trans p2, (V 0 1 (by omega)).trans p3, (V 0 2 (by omega)).trans p4, (V 0 3 (by omega)).trans p5, (V 0 13 (by omega)).trans p6⟩, ⟨(T 1 (by omega)).trans q1, (N 1 (by omega)).trans q2, (T 2 (by omega)).trans q3, (N 2 (by omega)).trans q4, (T 3 (by omega)).trans q5, (N 3 (by omega)).trans q6⟩, ⟨(T 4 (by omega)).trans r1, (V 4 2 (by omega)).trans r2, (T 5 (by omega)).trans r3, (N 5 (by omega)).trans r4, (T 6 (by omega)).trans r5, (N 6 (by omega)).trans r6⟩, fun i hi => ⟨(V 1 i (by omega)).trans (s1 i hi).1, ?_⟩, fun i hi => ⟨(V 2 i (by omega)).trans (s2 i hi).1, ?_⟩, fun i hi => ⟨(V 3 i (by omega)).trans (s3 i hi).1, ?_⟩⟩, (V 0 12 (by omega)).trans h2, fun k => ?_, fun a k x y => ?_⟩
  · rw [show c + 7 + i = c + (7 + i) by omega, T _ (by omega), ← show c + 7 + i = c + (7 + i) by omega]; exact (s1 i hi).2
  · rw [show c + 13 + i = c + (13 + i) by omega, T _ (by omega), ← show c + 13 + i = c + (13 + i) by omega]; exact (s2 i hi).2
  · rw [show c + 18 + i = c + (18 + i) by omega, T _ (by omega), ← show c + 18 + i = c + (18 + i) by omega]; exact (s3 i hi).2
  · rw [((g c (by omega) (by omega)).2.2 k).2]; exact h3 k
  · rw [((g a (by omega) (by omega)).2.2 k).2]; exact h4 a k x y
/-- of 200 itself -/
def O2 (ρ ρ' : SH) (kk : Nat) : Prop := sT ρ' 200 = sT ρ 200 ∧ (∀ k, k ≠ kk → sV ρ' 200 k = sV ρ 200 k) ∧ ∀ k, sI ρ' 200 k = sI ρ 200 k
theorem Up.o2 {kk : Nat} (h : Up z kk ρ ρ') (hz : 200 < z) : O2 ρ ρ' kk := ⟨(h 200 hz).1, fun k hk => (h 200 hz).2.2.1 k (Or.inr hk), (h 200 hz).2.2.2⟩
theorem Cm.o2 {i1 i2 i3 kk : Nat} (h : Cm ρ z i1 i2 i3 ρ') (hz : 200 < z) : O2 ρ ρ' kk := ⟨(h.2.1 200 hz).1, fun k _ => ((h.2.1 200 hz).2.2 k).1, fun k => ((h.2.1 200 hz).2.2 k).2⟩
theorem O2.wv {kk : Nat} {v : Value} (h : O2 ρ ρ' kk) : O2 ρ (wV ρ' 200 kk v) kk ∧ sV (wV ρ' 200 kk v) 200 kk = v := ⟨⟨h.1, fun k hk => by rw [V_wV, if_neg (fun q => hk q.2)]; exact h.2.1 k hk, h.2.2⟩, by rw [V_wV, if_pos ⟨rfl, rfl⟩]⟩
end C4
