/-! showers drawn -/
theorem ush_shr (x : Int32) : ush x 16 &&& 32767 = shr x 16 &&& 32767 := by
  have m : ∀ i, i < 32 → (32767#32).getLsbD i = decide (i < 15) := by decide
  refine Int32.toBitVec_inj.mp ?_
  have e1 : (ush x 16 &&& 32767).toBitVec = (x.toBitVec >>> 16) &&& 32767#32 := rfl
  have e2 : (shr x 16 &&& 32767).toBitVec = (x.toBitVec.sshiftRight 16) &&& 32767#32 := rfl
  rw [e1, e2]
  refine BitVec.eq_of_getLsbD_eq fun i hi => ?_
  rw [BitVec.getLsbD_and, BitVec.getLsbD_and, m i hi]
  by_cases h : i < 15
  · rw [BitVec.getLsbD_ushiftRight, BitVec.getLsbD_sshiftRight]
    simp [h, show ¬ 32 ≤ i by omega, show 16 + i < 32 by omega]
  · simp [h]
def lcg (w : Int32) : Int32 := 1103515245 * w + 12345
def drS (s : Nat) (W : WW) : WW := if sh W s 6 = 0 ∧ sh W s 2 = W 5 then uW (uW W 9 (lcg (W 9))) (10 + 7 * s + 6) (if (irm (ush (lcg (W 9)) 16 &&& 32767) 100 < sh W s 5 : Prop) then 1 else 2) else W
def stS (s : Nat) (W : WW) : WW := if sh W s 6 = 0 ∧ sh W s 2 = W 5 then uW W (10 + 7 * s + 6) 1 else W
def drW (W : WW) : WW := fo drS 0 (nS W) W
def stW (W : WW) : WW := fo stS 0 (nS W) W
/-- what both keep -/
def KpW (W W' : WW) : Prop := ∀ k, (k < 10 ∧ k ≠ 9) ∨ 52 ≤ k → W' k = W k
theorem KpW.n {W W' : WW} (h : KpW W W') : nS W' = nS W ∧ nB W' = nB W ∧ nD W' = nD W := by
  unfold nS nB nD
  rw [h 0 (by omega), h 1 (by omega), h 2 (by omega)]
  exact ⟨rfl, rfl, rfl⟩
theorem drS_k {W : WW} {s : Nat} (hs : s < 6) : KpW W (drS s W) := fun k hk => by
  unfold drS
  split
  · rw [uW_n (by omega), uW_n (by omega)]
  · rfl
theorem stS_k {W : WW} {s : Nat} (hs : s < 6) : KpW W (stS s W) := fun k hk => by
  unfold stS
  split
  · rw [uW_n (by omega)]
  · rfl
theorem drS_w {W : WW} {s : Nat} (hs : s < 6) (h : WF W) : WF (drS s W) := by
  unfold drS
  split
  · have h9 : WF (uW W 9 (lcg (W 9))) := h.r9
    refine h9.s6 hs ?_ (by rw [nS_u (by omega)]; exact (WF_nS h).2) (by rw [nB_u (by omega)]; exact (WF_nB h).2)
    split <;> (unfold btw; decide)
  · exact h
theorem stS_w {W : WW} {s : Nat} (hs : s < 6) (h : WF W) : WF (stS s W) := by
  unfold stS
  split
  · exact h.s6 hs (by unfold btw; decide) (WF_nS h).2 (WF_nB h).2
  · exact h
section A9
variable {σ τ : SH} {W L : WW} {c : Nat}
theorem m_18 (h : CV σ c W L) (hw : WF W) : ∃ σ', rn 18 [.ref c] σ = some (.inl none, σ') ∧ CV σ' c (drW W) L ∧ WF (drW W) ∧ KpW W (drW W) ∧ Kp (fun a _ => c ≤ a ∧ a < c + 26) σ σ' := by
  obtain ⟨n1, n2⟩ := WF_nS hw
  rw [r_18]
  obtain ⟨σ', e, k1, k2, k3, k4⟩ := lpS (F := fun i (_ : WW) σ => exec PP 1 18 2 [some (.ref c), some (.int (nI i)), none] [] σ) (g := drS) (K := fun _ σ => some (.inl none, σ)) (I := fun i V ρ => CV ρ c V L ∧ WF V ∧ KpW W V ∧ Kp (fun a _ => c ≤ a ∧ a < c + 26) σ ρ) (n := nS W) (by
    rintro i V ρ hi ⟨hv, hW, hk, hf⟩
    have nn := hk.n
    have hS := hv.1.1
    have tc := hS.1.1
    have ts := (hS.2.2.2.1 i (by omega)).2
    have c6 := hv.2.1.2.1 i 6 (by omega) (by omega)
    have c2 := hv.2.1.2.1 i 2 (by omega) (by omega)
    have c5 := hv.2.1.2.1 i 5 (by omega) (by omega)
    have c0 : sI ρ c 4 = nI (nS W) := by rw [hv.2.1.1.1, hk 0 (by omega)]; exact n1
    have base : exec PP 1 18 2 [some (.ref c), some (.int (nI i)), none] [] ρ = (if (sh V i 6 = 0 : Prop) then (if (sh V i 2 = V 5 : Prop) then (if (irm (ush (lcg (V 9)) 16 &&& 32767) 100 < sh V i 5 : Prop) then exec PP 1 18 2 [some (.ref c), some (.int (nI (i + 1))), none] [] (wI (wI ρ c 11 (lcg (V 9))) (c + 7 + i) 6 1) else exec PP 1 18 2 [some (.ref c), some (.int (nI (i + 1))), none] [] (wI (wI ρ c 11 (lcg (V 9))) (c + 7 + i) 6 2)) else exec PP 1 18 2 [some (.ref c), some (.int (nI (i + 1))), none] [] ρ) else exec PP 1 18 2 [some (.ref c), some (.int (nI (i + 1))), none] [] ρ) := by
      have hS1 : ShC (wI ρ c 11 (lcg (V 9))) c := hS
      have ts1 : sT (wI ρ c 11 (lcg (V 9))) (c + 7 + i) = 108 := ts
      have i11 : sI (wI ρ c 11 (lcg (V 9))) c 11 = lcg (V 9) := sI_wIs _ _ _ _
      have i5 : sI (wI ρ c 11 (lcg (V 9))) (c + 7 + i) 5 = sh V i 5 := by rw [sI_wIn (by omega)]; exact c5
      rw [e_18_2, gI_r tc, c0, if_pos (nI_lt hi (by omega)), gR_r tc hS.1.2.1, cS hS (show i < 6 by omega), gI_r ts, c6, gR_r tc hS.1.2.1, cS hS (show i < 6 by omega), gI_r ts, c2, gI_r tc, hv.2.1.1.2.2.2.2.2.2.1, gI_r tc, hv.2.1.1.2.2.2.2.2.2.2, show (1103515245 : Int32) * V 9 + 12345 = lcg (V 9) from rfl, pI_r tc, gI_r hS1.1.1, i11, gR_r hS1.1.1 hS1.1.2.1, cS hS1 (show i < 6 by omega), gR_r hS1.1.1 hS1.1.2.1, cS hS1 (show i < 6 by omega), gI_r ts1, i5, e_18_92, pI_r ts1, e_18_91, pI_r ts1, e_18_95, nI_1]
    refine ⟨if sh V i 6 = 0 ∧ sh V i 2 = V 5 then wI (wI ρ c 11 (lcg (V 9))) (c + 7 + i) 6 (if (irm (ush (lcg (V 9)) 16 &&& 32767) 100 < sh V i 5 : Prop) then 1 else 2) else ρ, ?_, ?_, drS_w (by omega) hW, fun k hk' => (drS_k (by omega) k hk').trans (hk k hk'), ?_⟩
    · show exec PP 1 18 2 _ _ ρ = exec PP 1 18 2 _ _ _
      rw [base]
      by_cases z1 : sh V i 6 = 0
      · rw [if_pos z1]
        by_cases z2 : sh V i 2 = V 5
        · rw [if_pos z2, if_pos (show sh V i 6 = 0 ∧ sh V i 2 = V 5 from ⟨z1, z2⟩)]
          by_cases y : irm (ush (lcg (V 9)) 16 &&& 32767) 100 < sh V i 5
          · rw [if_pos y, if_pos y]
          · rw [if_neg y, if_neg y]
        · rw [if_neg z2, if_neg (show ¬ (sh V i 6 = 0 ∧ sh V i 2 = V 5) from fun z => z2 z.2)]
      · rw [if_neg z1, if_neg (show ¬ (sh V i 6 = 0 ∧ sh V i 2 = V 5) from fun z => z1 z.1)]
    · unfold drS
      by_cases z : sh V i 6 = 0 ∧ sh V i 2 = V 5
      · rw [if_pos z, if_pos z]
        exact (hv.z (f := 11) (k := 9) (v := lcg (V 9)) (by omega)).s (s := i) (f := 6) (by omega) (by omega)
      · rw [if_neg z, if_neg z]; exact hv
    · by_cases z : sh V i 6 = 0 ∧ sh V i 2 = V 5
      · rw [if_pos z]; exact (hf.wr (by omega)).wr (by omega)
      · rw [if_neg z]; exact hf) (by
    rintro V ρ ⟨hv, hW, hk, hf⟩
    have c0 : sI ρ c 4 = nI (nS W) := by rw [hv.2.1.1.1, hk 0 (by omega)]; exact n1
    show exec PP 1 18 2 _ _ ρ = _
    rw [e_18_2, gI_r hv.1.1.1.1, c0, if_neg (nI_nlt (Nat.le_refl _) (by omega)), e_18_101]) (nS W) 0 W σ (by omega) ⟨h, hw, fun _ _ => rfl, Kp.rf _⟩
  exact ⟨σ', e, k1, k2, k3, k4⟩
/-- in the reference, drawn or taken to come -/
theorem m_277a (hM : ShM τ) (he : sI τ 612 = W) (hw : WF W) {x1 : Int32} : ∃ τ', rn 277 [.ref 611, .int x1] τ = exec PP 10 277 87 [some (.ref 611), none, some (.int 0), some (.int 0)] [] τ' ∧ Kp (fun a k => a = 612 ∧ k < 363) τ τ' ∧ sI τ' 612 = (if x1 = 0 then drW W else stW W) ∧ WF (if x1 = 0 then drW W else stW W) ∧ KpW W (if x1 = 0 then drW W else stW W) := by
  obtain ⟨n1, n2⟩ := WF_nS hw
  rw [r_277]
  obtain ⟨τ', e, k1, k2, k3, k4⟩ := lpS (F := fun i (_ : WW) σ => exec PP 10 277 2 [some (.ref 611), some (.int x1), some (.int (nI i)), none] [] σ) (g := fun s V => if x1 = 0 then drS s V else stS s V) (K := fun _ σ => exec PP 10 277 87 [some (.ref 611), none, some (.int 0), some (.int 0)] [] σ) (I := fun i V ρ => Kp (fun a k => a = 612 ∧ k < 363) τ ρ ∧ sI ρ 612 = V ∧ WF V ∧ KpW W V) (n := nS W) (by
    rintro i V ρ hi ⟨hf, hv, hW, hk⟩
    have mρ := hM.e hf.1
    have nn := hk.n
    have n195 := m_195 mρ
    rw [hv, hk 0 (by omega), n1] at n195
    have q6 := m_221 (s := i) (f := 6) mρ (by omega)
    have q2 := m_221 (s := i) (f := 2) mρ (by omega)
    rw [hv] at q6 q2
    have ei : ((10 : Int32) + 7 * nI i) + 6 = nI (10 + 7 * i + 6) := ix_3 10 7 i 6
    have w5 : sI ρ 612 5 = V 5 := by rw [hv]
    have w9 : sI ρ 612 9 = V 9 := by rw [hv]
    have base : exec PP 10 277 2 [some (.ref 611), some (.int x1), some (.int (nI i)), none] [] ρ = (if (sh V i 6 = 0 : Prop) then (if (sh V i 2 = V 5 : Prop) then exec PP 10 277 38 [some (.ref 611), some (.int x1), some (.int (nI i)), none] [] ρ else exec PP 10 277 2 [some (.ref 611), some (.int x1), some (.int (nI (i + 1))), none] [] ρ) else exec PP 10 277 2 [some (.ref 611), some (.int x1), some (.int (nI (i + 1))), none] [] ρ) := by
      rw [e_277_2, if_pos mρ.1.1, n195, onI_i, if_pos (nI_lt hi (by omega)), if_pos mρ.1.1, q6, onI_i, if_pos mρ.1.1, q2, onI_i, gR_r mρ.1.1 mρ.1.2.1, r612_5 mρ, w5, e_277_77, nI_1]
    by_cases z : sh V i 6 = 0 ∧ sh V i 2 = V 5
    · by_cases z0 : x1 = 0
      · subst z0
        let ρ1 := wI ρ 612 9 (lcg (V 9))
        have m1 : ShM ρ1 := mρ
        have q5 := m_221 (s := i) (f := 5) m1 (by omega)
        have e5 : sh (sI ρ1 612) i 5 = sh V i 5 := by
          show sh (sI (wI ρ 612 9 (lcg (V 9))) 612) i 5 = _
          rw [sI_upd, sh_u (by omega), hv]
        rw [e5] at q5
        have i9 : sI ρ1 612 9 = lcg (V 9) := sI_wIs _ _ _ _
        have q278 : rn 278 [.ref 611, .int 100] ρ = some (.inl (some (.int (irm (ush (lcg (V 9)) 16 &&& 32767) 100))), ρ1) := by
          rw [r_278, gR_r mρ.1.1 mρ.1.2.1, gR_r mρ.1.1 mρ.1.2.1, r612_9 mρ, w9, w612_9 mρ]
          show (gR ρ1 112 1 (.ref 611) fun a25 => aI ρ1 1 (.ref a25) 9 fun x26 => if (100 : Int32) = 0 then none else some (.inl (some (.int (irm ((shr x26 16) &&& 32767) 100))), ρ1)) = _
          rw [gR_r m1.1.1 m1.1.2.1, r612_9 m1, i9, if_neg (by decide), ush_shr]
        refine ⟨wI ρ1 612 (10 + 7 * i + 6) (if (irm (ush (lcg (V 9)) 16 &&& 32767) 100 < sh V i 5 : Prop) then 1 else 2), ?_, (hf.wr ⟨rfl, by omega⟩).wr ⟨rfl, by omega⟩, ?_, ?_, ?_⟩
        · show exec PP 10 277 2 _ _ ρ = exec PP 10 277 2 _ _ _
          rw [base, if_pos z.1, if_pos z.2, e_277_38, gR_r mρ.1.1 mρ.1.2.1, if_pos rfl, if_pos mρ.1.1, q278, onI_i, if_pos m1.1.1, q5, onI_i, ei]
          by_cases y : irm (ush (lcg (V 9)) 16 &&& 32767) 100 < sh V i 5
          · rw [if_pos y, if_pos y, e_277_76, w612 m1 (by omega), nI_1]
          · rw [if_neg y, if_neg y, e_277_75, w612 m1 (by omega), nI_1]
        · rw [sI_upd]
          show uW (sI (wI ρ 612 9 (lcg (V 9))) 612) _ _ = _
          rw [sI_upd, hv, if_pos rfl]
          unfold drS
          rw [if_pos z]
        · rw [if_pos rfl]; exact drS_w (by omega) hW
        · rw [if_pos rfl]; exact fun k hk' => (drS_k (by omega) k hk').trans (hk k hk')
      · refine ⟨wI ρ 612 (10 + 7 * i + 6) 1, ?_, hf.wr ⟨rfl, by omega⟩, ?_, ?_, ?_⟩
        · show exec PP 10 277 2 _ _ ρ = exec PP 10 277 2 _ _ _
          rw [base, if_pos z.1, if_pos z.2, e_277_38, gR_r mρ.1.1 mρ.1.2.1, if_neg z0, e_277_71, ei, e_277_76, w612 mρ (by omega), nI_1]
        · rw [sI_upd, hv, if_neg z0]
          unfold stS
          rw [if_pos z]
        · rw [if_neg z0]; exact stS_w (by omega) hW
        · rw [if_neg z0]; exact fun k hk' => (stS_k (by omega) k hk').trans (hk k hk')
    · have same : (if x1 = 0 then drS i V else stS i V) = V := by
        unfold drS stS
        rw [if_neg z, if_neg z]
        split <;> rfl
      refine ⟨ρ, ?_, hf, ?_, ?_, ?_⟩
      · show exec PP 10 277 2 _ _ ρ = exec PP 10 277 2 _ _ _
        rw [base]
        by_cases z1 : sh V i 6 = 0
        · rw [if_pos z1, if_neg (fun y => z ⟨z1, y⟩)]
        · rw [if_neg z1]
      · rw [same]; exact hv
      · rw [same]; exact hW
      · rw [same]; exact hk) (by
    rintro V ρ ⟨hf, hv, hW, hk⟩
    have mρ := hM.e hf.1
    have n195 := m_195 mρ
    rw [hv, hk 0 (by omega), n1] at n195
    show exec PP 10 277 2 _ _ ρ = _
    rw [e_277_2, if_pos mρ.1.1, n195, onI_i, if_neg (nI_nlt (Nat.le_refl _) (by omega)), e_277_83]) (nS W) 0 W τ (by omega) ⟨Kp.rf _, he, hw, fun _ _ => rfl⟩
  have eq : fo (fun s V => if x1 = 0 then drS s V else stS s V) 0 (nS W) W = (if x1 = 0 then drW W else stW W) := by
    by_cases z : x1 = 0
    · simp only [z, if_true]; rfl
    · simp only [z, if_false]; rfl
  rw [eq] at k2 k3 k4
  exact ⟨τ', e, k1, k2, k3, k4⟩
end A9
