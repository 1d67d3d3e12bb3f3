/-! the first state -/
def W0 : WW := fun k => if k = 6 then 8 else if k = 7 then 5 else if k = 9 then 1 else 0
def L0 : WW := fun _ => 0
def X0 : XX := ((0, fun _ => W0), (false, W0, L0), (0, fun _ => 0), -1)
theorem WF0 : WF W0 := by
  have z : nS W0 = 0 ∧ nB W0 = 0 ∧ nD W0 = 0 := by decide
  refine ⟨?_, fun s hs => ?_, fun s hs => ?_, fun s hs => ?_⟩
  · unfold btw W0; decide
  · rw [z.1] at hs; omega
  · rw [z.2.1] at hs; omega
  · rw [z.2.2] at hs; omega
section C7
variable {σ : SH}
theorem begin0 (hz : sZ σ = 200) (hg : SgC σ) : ∃ F1 F2, rn 106 [.ref 200] (mkC σ 111 0 12) = some (.inl none, F1) ∧ sZ F1 = 611 ∧ rn 178 [.ref 611] (mkC F1 112 0 24) = some (.inl none, F2) ∧ sZ F2 = 623 ∧ InvC (mkC F2 3 1 1) W0 L0 X0 ∧ InvR (mkC F2 3 1 1) W0 L0 X0 ∧ Lo σ (mkC F2 3 1 1) ∧ sZ (mkC F2 3 1 1) = 624 ∧ sS (mkC F2 3 1 1) = sS σ + 18361 := by
  obtain ⟨F1, e1, ⟨z1, S1⟩, lo1, md⟩ := m_106 hz
  obtain ⟨F2, e2, ⟨z2, S2⟩, u2, ⟨g1, g2, g3⟩, j1, j2, j3⟩ := m_178 (ρ := F1) z1
  have u3 : Up 623 99 F2 (mkC F2 3 1 1) := mk_up 3 1 1 (by omega) 99
  have u : Up 611 99 F1 (mkC F2 3 1 1) := u2.tr (fun a ha => u3 a (by omega))
  have Z3 : sZ (mkC F2 3 1 1) = 624 := by rw [Z_mk, z2]
  have S3 : sS (mkC F2 3 1 1) = sS F2 + 1 := S_mk _ _ _
  have t623 : sT (mkC F2 3 1 1) 623 = 3 ∧ sN (mkC F2 3 1 1) 623 = 1 := ⟨by rw [T_mk, z2, if_pos rfl], by rw [N_mk, z2, if_pos rfl]⟩
  generalize hG : mkC F2 3 1 1 = G at u3 u Z3 S3 t623
  have T : ∀ a, a < 611 → sT G a = sT F1 a := fun a ha => (u a ha).1
  have N : ∀ a, a < 611 → sN G a = sN F1 a := fun a ha => (u a ha).2.1
  have V : ∀ a k, a < 611 → k ≠ 99 → sV G a k = sV F1 a k := fun a k ha hk => (u a ha).2.2.1 k (Or.inr hk)
  have V' : ∀ a k, a < 611 → a ≠ 200 → sV G a k = sV F1 a k := fun a k ha hk => (u a ha).2.2.1 k (Or.inl hk)
  have I : ∀ a k, a < 611 → sI G a k = sI F1 a k := fun a k ha => (u a ha).2.2.2 k
  have T3 : ∀ a, a < 623 → sT G a = sT F2 a := fun a ha => (u3 a ha).1
  have N3 : ∀ a, a < 623 → sN G a = sN F2 a := fun a ha => (u3 a ha).2.1
  have V3 : ∀ k, sV G 611 k = sV F2 611 k := fun k => (u3 611 (by omega)).2.2.1 k (Or.inl (by decide))
  have I3 : ∀ a k, a < 623 → sI G a k = sI F2 a k := fun a k ha => (u3 a ha).2.2.2 k
  obtain ⟨m1, m2, m3, ⟨m4a, m4b, m4c⟩, m5, m6, m7, m8, m9⟩ := md
  have nc : ∀ c, isC c → Nc G c := fun c hc => (m7 c hc).od (by have := isC_lt hc; omega) (isC_lt hc).2 u.od
  have hx : ShX G := by
    refine ⟨?_, ?_, ?_, ⟨?_, ?_, fun i hi => ?_⟩, ?_, ?_, ?_, t623, fun c hc => (nc c hc).1⟩
    · rw [T 200 (by decide), V 200 0, V 200 1, V 200 2, V 200 3, V 200 4, V 200 5, V 200 6, V 200 7] <;> first | exact m1 | decide
    · rw [T 201 (by decide), T 202 (by decide), T 203 (by decide), T 204 (by decide), T 205 (by decide), N 202 (by decide), N 203 (by decide), N 204 (by decide), N 205 (by decide), V 201 0, V 201 2, V 201 3, V 201 4] <;> first | exact m2 | decide
    · rw [T 206 (by decide), T 207 (by decide), T 208 (by decide), T 209 (by decide), T 210 (by decide), N 207 (by decide), N 208 (by decide), N 209 (by decide), N 210 (by decide), V 206 0, V 206 1, V 206 2, V 206 3, V 206 4] <;> first | exact m3 | decide
    · rw [T 289 (by decide)]; exact m4a
    · rw [N 289 (by decide)]; exact m4b
    · rw [V' 289 i (by decide) (by decide)]; exact m4c i hi
    · rw [T 290 (by decide), T 291 (by decide), N 291 (by decide), V 290 0, V 290 1] <;> first | exact m5 | decide
    · rw [T 292 (by decide), V 292 0, V 292 1, V 292 2, V 292 3, V 292 4, V 292 5, V 292 6, V 292 7] <;> first | exact ⟨m6.1, m6.2.1, m6.2.2.1, m6.2.2.2.1, m6.2.2.2.2.1, m6.2.2.2.2.2.1, m6.2.2.2.2.2.2.1, m6.2.2.2.2.2.2.2.1, m6.2.2.2.2.2.2.2.2.1⟩ | decide
    · rw [T 293 (by decide), T 294 (by decide), T 295 (by decide), T 296 (by decide), T 297 (by decide), T 298 (by decide), N 293 (by decide), N 294 (by decide), N 295 (by decide), N 296 (by decide), N 297 (by decide), N 298 (by decide)]
      obtain ⟨_, _, _, _, _, _, _, _, _, a1, b1, a2, b2, a3, b3, a4, b4, a5, b5, a6, b6⟩ := m6
      exact ⟨a1, a2, a3, a4, a5, a6, b1, b2, b3, b4, b5, b6⟩
  have sg : SgC G := fun s hs => by
    rw [T s (by omega), I s 1 (by omega), (lo1 s (by omega)).1, ((lo1 s (by omega)).2.2 1).2]; exact hg s hs
  have tg : TG G := ⟨by omega, fun q h1 h2 => by omega⟩
  obtain ⟨n1, n2, n3, n4⟩ := nc 211 isC_now
  have z0 : nS W0 = 0 ∧ nB W0 = 0 ∧ nD W0 = 0 ∧ lgN W0 = 0 := by decide
  have cv : CV G 211 W0 L0 := by
    refine ⟨⟨n1, by omega, by omega⟩, ⟨⟨n3 4, n3 5, n3 6, n3 7, n3 8, n3 9, n3 10, n3 11⟩, fun s f h _ => by rw [z0.1] at h; omega, fun s f h _ => by rw [z0.2.1] at h; omega, fun s f h _ => by rw [z0.2.2.1] at h; omega⟩, ⟨Or.inl ⟨n2, rfl⟩, fun h => absurd h (by decide)⟩, sg, ⟨0, by omega, ?_, ?_, fun ago col h _ => by rw [z0.2.2.2] at h; omega⟩, fun d hd => Or.inl ?_⟩
    · rw [n4 _ _ (by omega) (by omega), if_neg (by omega)]; rfl
    · rw [n4 _ _ (by omega) (by omega), if_neg (by omega)]; rfl
    · rw [n4 _ _ (by omega) (by omega), if_neg (by omega)]
  refine ⟨F1, F2, e1, z1, e2, z2, ?_⟩
  rw [hG]
  refine ⟨⟨⟨hx, tg⟩, ⟨cv, WF0⟩, ⟨0, ⟨by decide, by omega⟩, ⟨?_, ?_⟩, fun i hi => absurd hi (Nat.not_lt_zero i)⟩, ⟨?_, fun h => by cases h⟩, ⟨?_, by decide, fun k hk => ⟨show (0 : Nat) < 256 by decide, ?_⟩⟩, ?_⟩, ⟨⟨?_, WF0, fun h => absurd h (by decide)⟩, ⟨?_, ?_⟩, ⟨?_, fun i k hi => absurd hi (Nat.not_lt_zero i)⟩, ⟨?_, fun h => by cases h⟩, ⟨?_, fun k hk => ?_⟩, ?_⟩, fun a ha => ?_, Z3, by omega⟩
  · rw [I _ _ (by omega), m8, if_neg (by omega)]; rfl
  · rw [I _ _ (by omega), m8, if_neg (by omega)]; rfl
  · rw [I _ _ (by omega), m8, if_neg (by omega)]; rfl
  · rw [I _ _ (by omega), m9 _ _ (by omega) (by omega)]; rfl
  · rw [I _ _ (by omega), m9 _ _ (by omega) (by omega)]; rfl
  · rw [I _ _ (by omega), m8, if_pos rfl]; rfl
  · refine ⟨?_, ?_, ?_⟩
    · rw [T3 611 (by decide), V3, V3, V3, V3, V3, V3, V3, V3, V3, V3, V3]; exact g1
    · rw [T3 612 (by decide), T3 613 (by decide), T3 614 (by decide), T3 615 (by decide), T3 616 (by decide), T3 617 (by decide), T3 618 (by decide), T3 619 (by decide), T3 620 (by decide), T3 621 (by decide), T3 622 (by decide)]; exact g2
    · rw [N3 612 (by decide), N3 613 (by decide), N3 614 (by decide), N3 615 (by decide), N3 616 (by decide), N3 617 (by decide), N3 618 (by decide), N3 619 (by decide), N3 620 (by decide), N3 621 (by decide), N3 622 (by decide)]; exact g3
  · funext k; rw [I3 _ _ (by omega), j2]; rfl
  · funext k; unfold tx; rw [I3 _ _ (by omega), j2, if_neg (by omega), if_neg (by omega), if_neg (by omega)]; rfl
  · rw [I3 _ _ (by omega), j1, if_neg (by omega)]; rfl
  · rw [I3 _ _ (by omega), j1, if_neg (by omega)]; rfl
  · rw [I3 _ _ (by omega), j1, if_neg (by omega)]; rfl
  · rw [I3 _ _ (by omega), j3 _ _ (by omega) (by omega)]; show (0 : Int32) = sb 0; decide
  · rw [I3 _ _ (by omega), j1, if_pos rfl]; rfl
  · obtain ⟨a1, a2, a3⟩ := lo1 a ha
    exact ⟨(T a (by omega)).trans a1, (N a (by omega)).trans a2, fun k => ⟨(V' a k (by omega) (by omega)).trans (a3 k).1, (I a k (by omega)).trans (a3 k).2⟩⟩
end C7
