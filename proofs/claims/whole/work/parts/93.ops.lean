/-! ops: a call of the class, a call of the reference -/
def Out (rs : SR) (k : Nat) (v : Int32) (σ1 : SH) (ex : List (Nat × Int32)) : Prop := (k = 0 ∧ rs = some (.inl (some (.int v)), σ1)) ∨ ((0 < k ∧ k < 10) ∧ ∃ e, rs = some (.inr e, σ1) ∧ lkH ex e = some (nI k))
def OpQ (rs : SR) (σ : SH) (rf : SH → SR) (ex : List (Nat × Int32)) (W L : WW) : Prop := ∃ k v σ1, Out rs k v σ1 ex ∧ QS σ σ1 ∧ ∀ τ, QQ τ W L → ∃ τ2, rf τ = some (.inl (some (.int v)), τ2) ∧ Kp (Scr τ) τ τ2 ∧ sI τ2 611 0 = nI k
theorem k611 {τ : SH} (x : Int32) : Kp (Scr τ) τ (wI τ 611 0 x) := Kp.w (by unfold Scr; omega)
theorem QQ.z {τ : SH} {W L : WW} (h : QQ τ W L) : QQ (wI τ 611 0 0) W L := h.k (k611 0)
theorem OpQ.fail {rs : SR} {σ : SH} {rf : SH → SR} {ex : List (Nat × Int32)} {W L : WW} {e k : Nat} (hc : rs = some (.inr e, mkC σ 0 0 6)) (he : lkH ex e = some (nI k)) (hk : 0 < k ∧ k < 10) (hr : ∀ τ, QQ τ W L → rf τ = some (.inl (some (.int 0)), wI (wI τ 611 0 0) 611 0 (nI k))) : OpQ rs σ rf ex W L :=
  ⟨k, 0, mkC σ 0 0 6, Or.inr ⟨hk, e, hc, he⟩, QS.mk σ, fun τ ht => ⟨_, hr τ ht, (k611 0).wr (by unfold Scr; omega), sI_wIs _ _ _ _⟩⟩
theorem OpQ.ok {rs : SR} {σ σ1 : SH} {rf : SH → SR} {ex : List (Nat × Int32)} {W L : WW} {v : Int32} (hc : rs = some (.inl (some (.int v)), σ1)) (hq : QS σ σ1) (hr : ∀ τ, QQ τ W L → ∃ τ2, rf τ = some (.inl (some (.int v)), τ2) ∧ Kp (Sq (wI τ 611 0 0)) (wI τ 611 0 0) τ2) : OpQ rs σ rf ex W L :=
  ⟨0, v, σ1, Or.inl ⟨rfl, hc⟩, hq, fun τ ht => by
    obtain ⟨τ2, r1, r2⟩ := hr τ ht
    refine ⟨τ2, r1, (k611 0).sc (r2.mono fun _ _ z => z.1), ?_⟩
    rw [r2.2 611 0 (fun z => z.2 ⟨rfl, rfl⟩), sI_wIs]
    rfl⟩
theorem OpQ.ok0 {rs : SR} {σ σ1 : SH} {rf : SH → SR} {ex : List (Nat × Int32)} {W L : WW} {v : Int32} (hc : rs = some (.inl (some (.int v)), σ1)) (hq : QS σ σ1) (hr : ∀ τ, QQ τ W L → rf τ = some (.inl (some (.int v)), wI τ 611 0 0)) : OpQ rs σ rf ex W L := OpQ.ok hc hq fun τ ht => ⟨_, hr τ ht, Kp.rf _⟩
theorem i00 {α : Type} (a b : α) : (if (0 : Int32) = 0 then a else b) = a := if_pos rfl
theorem i10 {α : Type} (a b : α) : (if (1 : Int32) = 0 then a else b) = b := if_neg (by decide)
theorem i1o {α : Type} (a b : α) : (if (1 : Int32) = 0 ∨ (1 : Int32) = 1 then a else b) = a := if_pos (Or.inr rfl)
theorem i0o {α : Type} (a b : α) : (if (0 : Int32) = 0 ∨ (0 : Int32) = 1 then a else b) = a := if_pos (Or.inl rfl)
section OQ
variable {σ : SH} {W L : WW}
theorem op_sun (h : QQ σ W L) (x0 : Int32) : OpQ (rn 146 [.ref 200, .int x0] σ) σ (fun τ => rn 222 [.ref 611, .int x0] τ) [(0, 1)] W L := by
  by_cases c1 : inR x0 0 9999
  case neg =>
    refine OpQ.fail (e := 0) (k := 1) (by simp only [r_146, if_pos (tX h.x), m_133n c1, onV_i, onV_x, onI_i]) rfl (by decide) fun τ ht => ?_
    have t0 := ht.tM
    have h0 := ht.z
    have t1 := h0.tM
    simp only [r_222, e_222_21, e_222_25, pI_r t0, if_pos t0, if_pos t1, m_223n c1, m_239a c1, onI_i, m_216_0, m_216_1 t1, i00, i10, i1o, i0o, if_true, if_false]
    rfl
  obtain ⟨j, uj, -, rfl⟩ := inR_n c1 (Int.le_refl 0)
  have hj : j ≤ 9999 := by omega
  have gj : j < 2147483648 := by omega
  refine OpQ.ok0 (v := nI (sunN j)) (σ1 := σ) (by simp only [r_146, if_pos (tX h.x), m_133y c1, m_127 gj, onV_i, onV_x, onI_i]) (QS.rf σ) fun τ ht => ?_
  have t0 := ht.tM
  have h0 := ht.z
  have t1 := h0.tM
  simp only [r_222, e_222_21, e_222_25, pI_r t0, if_pos t0, if_pos t1, m_223y c1, m_224 gj, onI_i, m_216_0, m_216_1 t1, i00, i10, i1o, i0o, if_true, if_false]
theorem op_reach (h : QQ σ W L) (x0 : Int32) : OpQ (rn 147 [.ref 200, .int x0] σ) σ (fun τ => rn 225 [.ref 611, .int x0] τ) [(0, 1)] W L := by
  by_cases c1 : inR x0 0 9999
  case neg =>
    refine OpQ.fail (e := 0) (k := 1) (by simp only [r_147, if_pos (tX h.x), m_133n c1, onV_i, onV_x, onI_i]) rfl (by decide) fun τ ht => ?_
    have t0 := ht.tM
    have h0 := ht.z
    have t1 := h0.tM
    simp only [r_225, e_225_21, e_225_25, pI_r t0, if_pos t0, if_pos t1, m_223n c1, m_239a c1, onI_i, m_216_0, m_216_1 t1, i00, i10, i1o, i0o, if_true, if_false]
    rfl
  obtain ⟨j, uj, -, rfl⟩ := inR_n c1 (Int.le_refl 0)
  have hj : j ≤ 9999 := by omega
  have gj : j < 2147483648 := by omega
  refine OpQ.ok0 (v := oI (reN j)) (σ1 := σ) (by simp only [r_147, if_pos (tX h.x), m_133y c1, m_126 gj, onV_i, onV_x, onI_i]) (QS.rf σ) fun τ ht => ?_
  have t0 := ht.tM
  have h0 := ht.z
  have t1 := h0.tM
  simp only [r_225, e_225_21, e_225_25, pI_r t0, if_pos t0, if_pos t1, m_223y c1, m_226 gj, onI_i, m_216_0, m_216_1 t1, i00, i10, i1o, i0o, if_true, if_false]
theorem op_foot (h : QQ σ W L) (x0 x1 : Int32) : OpQ (rn 148 [.ref 200, .int x0, .int x1] σ) σ (fun τ => rn 227 [.ref 611, .int x0, .int x1] τ) [(2, 1), (0, 2)] W L := by
  by_cases c1 : inR x0 0 15
  case neg =>
    refine OpQ.fail (e := 2) (k := 1) (by simp only [r_148, if_pos (tX h.x), m_139n c1, onV_i, onV_x, onI_i]) rfl (by decide) fun τ ht => ?_
    have t0 := ht.tM
    have h0 := ht.z
    have t1 := h0.tM
    simp only [r_227, e_227_13, e_227_18, pI_r t0, if_pos t0, if_pos t1, m_229n c1, m_228a t0 c1, onI_i, m_216_0, m_216_1 t1, i00, i10, i1o, i0o, if_true, if_false]
    rfl
  by_cases c2 : inR x1 0 9999
  case neg =>
    refine OpQ.fail (e := 0) (k := 2) (by simp only [r_148, if_pos (tX h.x), m_139y c1, m_133n c2, onV_i, onV_x, onI_i]) rfl (by decide) fun τ ht => ?_
    have t0 := ht.tM
    have h0 := ht.z
    have t1 := h0.tM
    simp only [r_227, e_227_13, e_227_18, pI_r t0, if_pos t0, if_pos t1, m_229y c1, m_223n c2, m_239a c2, m_228m t0 c1 c2, onI_i, m_216_0, m_216_1 t1, i00, i10, i1o, i0o, if_true, if_false]
    rfl
  obtain ⟨a, ua, -, rfl⟩ := inR_n c1 (Int.le_refl 0)
  have ha : a < 16 := by omega
  obtain ⟨j, uj, -, rfl⟩ := inR_n c2 (Int.le_refl 0)
  have hj : j ≤ 9999 := by omega
  have gj : j < 2147483648 := by omega
  refine OpQ.ok0 (v := oI (ftN a j)) (σ1 := σ) (by simp only [r_148, if_pos (tX h.x), m_139y c1, m_133y c2, m_145 ha gj, onV_i, onV_x, onI_i]) (QS.rf σ) fun τ ht => ?_
  have t0 := ht.tM
  have h0 := ht.z
  have t1 := h0.tM
  simp only [r_227, e_227_13, e_227_18, pI_r t0, if_pos t0, if_pos t1, m_229y c1, m_223y c2, m_228y t0 c1 c2, m_230 ha gj, onI_i, m_216_0, m_216_1 t1, i00, i10, i1o, i0o, if_true, if_false]
theorem op_wets (h : QQ σ W L) (x0 x1 : Int32) : OpQ (rn 150 [.ref 200, .int x0, .int x1] σ) σ (fun τ => rn 235 [.ref 611, .int x0, .int x1] τ) [(2, 1), (0, 2)] W L := by
  by_cases c1 : inR x0 0 15
  case neg =>
    refine OpQ.fail (e := 2) (k := 1) (by simp only [r_150, if_pos (tX h.x), m_139n c1, onV_i, onV_x, onI_i]) rfl (by decide) fun τ ht => ?_
    have t0 := ht.tM
    have h0 := ht.z
    have t1 := h0.tM
    simp only [r_235, e_235_13, e_235_19, pI_r t0, if_pos t0, if_pos t1, m_229n c1, m_228a t0 c1, onI_i, m_216_0, m_216_1 t1, i00, i10, i1o, i0o, if_true, if_false]
    rfl
  by_cases c2 : inR x1 0 9999
  case neg =>
    refine OpQ.fail (e := 0) (k := 2) (by simp only [r_150, if_pos (tX h.x), m_139y c1, m_133n c2, onV_i, onV_x, onI_i]) rfl (by decide) fun τ ht => ?_
    have t0 := ht.tM
    have h0 := ht.z
    have t1 := h0.tM
    simp only [r_235, e_235_13, e_235_19, pI_r t0, if_pos t0, if_pos t1, m_229y c1, m_223n c2, m_239a c2, m_228m t0 c1 c2, onI_i, m_216_0, m_216_1 t1, i00, i10, i1o, i0o, if_true, if_false]
    rfl
  obtain ⟨a, ua, -, rfl⟩ := inR_n c1 (Int.le_refl 0)
  have ha : a < 16 := by omega
  obtain ⟨j, uj, -, rfl⟩ := inR_n c2 (Int.le_refl 0)
  have hj : j ≤ 9999 := by omega
  have gj : j < 2147483648 := by omega
  refine OpQ.ok0 (v := wetB W a j) (σ1 := σ) (by simp only [r_150, if_pos (tX h.x), m_139y c1, m_133y c2, x2 h.x, if_pos h.tC, q11 h ha gj, onV_i, onV_x, onI_i]) (QS.rf σ) fun τ ht => ?_
  have t0 := ht.tM
  have h0 := ht.z
  have t1 := h0.tM
  simp only [r_235, e_235_13, e_235_19, pI_r t0, if_pos t0, if_pos t1, m_229y c1, m_223y c2, m_228y t0 c1 c2, q233 h0 ha gj, onI_i, m_216_0, m_216_1 t1, i00, i10, i1o, i0o, if_true, if_false]
theorem op_looks (h : QQ σ W L) (x0 x1 : Int32) : OpQ (rn 151 [.ref 200, .int x0, .int x1] σ) σ (fun τ => rn 236 [.ref 611, .int x0, .int x1] τ) [(2, 1), (0, 2)] W L := by
  by_cases c1 : inR x0 0 15
  case neg =>
    refine OpQ.fail (e := 2) (k := 1) (by simp only [r_151, if_pos (tX h.x), m_139n c1, onV_i, onV_x, onI_i]) rfl (by decide) fun τ ht => ?_
    have t0 := ht.tM
    have h0 := ht.z
    have t1 := h0.tM
    simp only [r_236, e_236_51, pI_r t0, if_pos t0, if_pos t1, m_229n c1, m_228a t0 c1, onI_i, m_216_0, m_216_1 t1, i00, i10, i1o, i0o, if_true, if_false]
    rfl
  by_cases c2 : inR x1 0 9999
  case neg =>
    refine OpQ.fail (e := 0) (k := 2) (by simp only [r_151, if_pos (tX h.x), m_139y c1, m_133n c2, onV_i, onV_x, onI_i]) rfl (by decide) fun τ ht => ?_
    have t0 := ht.tM
    have h0 := ht.z
    have t1 := h0.tM
    simp only [r_236, e_236_51, pI_r t0, if_pos t0, if_pos t1, m_229y c1, m_223n c2, m_239a c2, m_228m t0 c1 c2, onI_i, m_216_0, m_216_1 t1, i00, i10, i1o, i0o, if_true, if_false]
    rfl
  obtain ⟨a, ua, -, rfl⟩ := inR_n c1 (Int.le_refl 0)
  have ha : a < 16 := by omega
  obtain ⟨j, uj, -, rfl⟩ := inR_n c2 (Int.le_refl 0)
  have hj : j ≤ 9999 := by omega
  have gj : j < 2147483648 := by omega
  refine OpQ.ok0 (v := bs (fun f => decide (arN W f j = some a)) 16) (σ1 := σ) (by simp only [r_151, if_pos (tX h.x), m_139y c1, m_133y c2, x6 h.x, if_pos (tFc h.x), m_26 h ha gj, onV_i, onV_x, onI_i]) (QS.rf σ) fun τ ht => ?_
  have t0 := ht.tM
  have h0 := ht.z
  have t1 := h0.tM
  simp only [r_236, e_236_51, pI_r t0, if_pos t0, if_pos t1, m_229y c1, m_223y c2, m_228y t0 c1 c2, m_236' h0 ha gj, onI_i, m_216_0, m_216_1 t1, i00, i10, i1o, i0o, if_true, if_false]
theorem op_stands (h : QQ σ W L) (x0 x1 x2 : Int32) : OpQ (rn 152 [.ref 200, .int x0, .int x1, .int x2] σ) σ (fun τ => rn 238 [.ref 611, .int x0, .int x1, .int x2] τ) [(2, 1), (0, 2)] W L := by
  by_cases c1 : inR x0 0 15
  case neg =>
    refine OpQ.fail (e := 2) (k := 1) (by simp only [r_152, if_pos (tX h.x), m_139n c1, onV_i, onV_x, onI_i]) rfl (by decide) fun τ ht => ?_
    have t0 := ht.tM
    have h0 := ht.z
    have t1 := h0.tM
    simp only [r_238, e_238_30, e_238_34, e_238_48, pI_r t0, if_pos t0, if_pos t1, m_229n c1, m_228a t0 c1, onI_i, m_216_0, m_216_1 t1, i00, i10, i1o, i0o, if_true, if_false]
    rfl
  by_cases c2 : inR x1 0 9999
  case neg =>
    refine OpQ.fail (e := 0) (k := 2) (by simp only [r_152, if_pos (tX h.x), m_139y c1, m_133n c2, onV_i, onV_x, onI_i]) rfl (by decide) fun τ ht => ?_
    have t0 := ht.tM
    have h0 := ht.z
    have t1 := h0.tM
    simp only [r_238, e_238_30, e_238_34, e_238_48, pI_r t0, if_pos t0, if_pos t1, m_229y c1, m_223n c2, m_239a c2, m_228m t0 c1 c2, onI_i, m_216_0, m_216_1 t1, i00, i10, i1o, i0o, if_true, if_false]
    rfl
  by_cases c3 : inR x2 1 96
  case neg =>
    refine OpQ.fail (e := 0) (k := 2) (by simp only [r_152, if_pos (tX h.x), m_139y c1, m_133y c2, m_134n (lo := 1) (hi := 96) c3, onV_i, onV_x, onI_i]) rfl (by decide) fun τ ht => ?_
    have t0 := ht.tM
    have h0 := ht.z
    have t1 := h0.tM
    simp only [r_238, e_238_30, e_238_34, e_238_48, pI_r t0, if_pos t0, if_pos t1, m_229y c1, m_223y c2, m_220n (lo := 1) (hi := 96) c3, m_239b c2 c3, m_228y t0 c1 c2, onI_i, m_216_0, m_216_1 t1, i00, i10, i1o, i0o, if_true, if_false]
    rfl
  obtain ⟨a, ua, -, rfl⟩ := inR_n c1 (Int.le_refl 0)
  have ha : a < 16 := by omega
  obtain ⟨j, uj, -, rfl⟩ := inR_n c2 (Int.le_refl 0)
  have hj : j ≤ 9999 := by omega
  have gj : j < 2147483648 := by omega
  obtain ⟨n, un, -, rfl⟩ := inR_n c3 (by decide)
  have hn : n ≤ 96 := by omega
  refine OpQ.ok0 (v := stN W (rdN W) a j n) (σ1 := σ) (by simp only [r_152, if_pos (tX h.x), m_139y c1, m_133y c2, m_134y (lo := 1) (hi := 96) c3, x6 h.x, if_pos (tFc h.x), m_27 h ha hj hn, onV_i, onV_x, onI_i]) (QS.rf σ) fun τ ht => ?_
  have t0 := ht.tM
  have h0 := ht.z
  have t1 := h0.tM
  simp only [r_238, e_238_30, e_238_34, e_238_48, pI_r t0, if_pos t0, if_pos t1, m_229y c1, m_223y c2, m_220y (lo := 1) (hi := 96) c3, m_239y c2 c3, m_228y t0 c1 c2, gw h0, aw6 h0, m_240 h0 ha h0.rd.2 hj hn, onI_i, m_216_0, m_216_1 t1, i00, i10, i1o, i0o, if_true, if_false]
theorem op_best (h : QQ σ W L) (x0 x1 : Int32) : OpQ (rn 153 [.ref 200, .int x0, .int x1] σ) σ (fun τ => rn 241 [.ref 611, .int x0, .int x1] τ) [(0, 1)] W L := by
  by_cases c1 : inR x0 0 9999
  case neg =>
    refine OpQ.fail (e := 0) (k := 1) (by simp only [r_153, if_pos (tX h.x), m_133n c1, onV_i, onV_x, onI_i]) rfl (by decide) fun τ ht => ?_
    have t0 := ht.tM
    have h0 := ht.z
    have t1 := h0.tM
    simp only [r_241, e_241_77, pI_r t0, if_pos t0, if_pos t1, m_223n c1, m_239a c1, onI_i, m_216_0, m_216_1 t1, i00, i10, i1o, i0o, if_true, if_false]
    rfl
  by_cases c2 : inR x1 1 96
  case neg =>
    refine OpQ.fail (e := 0) (k := 1) (by simp only [r_153, if_pos (tX h.x), m_133y c1, m_134n (lo := 1) (hi := 96) c2, onV_i, onV_x, onI_i]) rfl (by decide) fun τ ht => ?_
    have t0 := ht.tM
    have h0 := ht.z
    have t1 := h0.tM
    simp only [r_241, e_241_77, pI_r t0, if_pos t0, if_pos t1, m_223y c1, m_220n (lo := 1) (hi := 96) c2, m_239b c1 c2, onI_i, m_216_0, m_216_1 t1, i00, i10, i1o, i0o, if_true, if_false]
    rfl
  obtain ⟨j, uj, -, rfl⟩ := inR_n c1 (Int.le_refl 0)
  have hj : j ≤ 9999 := by omega
  have gj : j < 2147483648 := by omega
  obtain ⟨n, un, -, rfl⟩ := inR_n c2 (by decide)
  have hn : n ≤ 96 := by omega
  obtain ⟨σ1, p1, p2⟩ := m_28 h hj hn
  refine OpQ.ok0 (v := nI (bestG (fun a => stN W (rdN W) a j n))) (σ1 := σ1) (by simp only [r_153, if_pos (tX h.x), m_133y c1, m_134y (lo := 1) (hi := 96) c2, x6 h.x, if_pos (tFc h.x), p1, onV_i, onV_x, onI_i]) ((K1.scr p2).qs) fun τ ht => ?_
  have t0 := ht.tM
  have h0 := ht.z
  have t1 := h0.tM
  simp only [r_241, e_241_77, pI_r t0, if_pos t0, if_pos t1, m_223y c1, m_220y (lo := 1) (hi := 96) c2, m_239y c1 c2, m_241' h0 hj hn, onI_i, m_216_0, m_216_1 t1, i00, i10, i1o, i0o, if_true, if_false]
theorem op_first (h : QQ σ W L) (x0 x1 : Int32) : OpQ (rn 154 [.ref 200, .int x0, .int x1] σ) σ (fun τ => rn 242 [.ref 611, .int x0, .int x1] τ) [(2, 1), (0, 2)] W L := by
  by_cases c1 : inR x0 0 15
  case neg =>
    refine OpQ.fail (e := 2) (k := 1) (by simp only [r_154, if_pos (tX h.x), m_139n c1, onV_i, onV_x, onI_i]) rfl (by decide) fun τ ht => ?_
    have t0 := ht.tM
    have h0 := ht.z
    have t1 := h0.tM
    simp only [r_242, e_242_48, pI_r t0, if_pos t0, if_pos t1, m_229n c1, m_228a t0 c1, onI_i, m_216_0, m_216_1 t1, i00, i10, i1o, i0o, if_true, if_false]
    rfl
  by_cases c2 : inR x1 0 9999
  case neg =>
    refine OpQ.fail (e := 0) (k := 2) (by simp only [r_154, if_pos (tX h.x), m_139y c1, m_133n c2, onV_i, onV_x, onI_i]) rfl (by decide) fun τ ht => ?_
    have t0 := ht.tM
    have h0 := ht.z
    have t1 := h0.tM
    simp only [r_242, e_242_48, pI_r t0, if_pos t0, if_pos t1, m_229y c1, m_223n c2, m_239a c2, m_228m t0 c1 c2, onI_i, m_216_0, m_216_1 t1, i00, i10, i1o, i0o, if_true, if_false]
    rfl
  obtain ⟨a, ua, -, rfl⟩ := inR_n c1 (Int.le_refl 0)
  have ha : a < 16 := by omega
  obtain ⟨j, uj, -, rfl⟩ := inR_n c2 (Int.le_refl 0)
  have hj : j ≤ 9999 := by omega
  have gj : j < 2147483648 := by omega
  refine OpQ.ok0 (v := (match fi (fun i => decide (arN W (rdN W) (j + i) = some a)) 0 200 with
    | some i => nI (j + i)
    | none => -1)) (σ1 := σ) (by simp only [r_154, if_pos (tX h.x), m_139y c1, m_133y c2, x6 h.x, if_pos (tFc h.x), m_31 h ha hj, onV_i, onV_x, onI_i]; rfl) (QS.rf σ) fun τ ht => ?_
  have t0 := ht.tM
  have h0 := ht.z
  have t1 := h0.tM
  simp only [r_242, e_242_48, pI_r t0, if_pos t0, if_pos t1, m_229y c1, m_223y c2, m_228y t0 c1 c2, m_242' h0 ha hj, onI_i, m_216_0, m_216_1 t1, i00, i10, i1o, i0o, if_true, if_false]
  rfl
theorem op_site (h : QQ σ W L) (x0 x1 x2 : Int32) : OpQ (rn 155 [.ref 200, .int x0, .int x1, .int x2] σ) σ (fun τ => rn 243 [.ref 611, .int x0, .int x1, .int x2] τ) [(2, 1), (0, 2)] W L := by
  by_cases c1 : inR x0 0 15
  case neg =>
    refine OpQ.fail (e := 2) (k := 1) (by simp only [r_155, if_pos (tX h.x), m_139n c1, onV_i, onV_x, onI_i]) rfl (by decide) fun τ ht => ?_
    have t0 := ht.tM
    have h0 := ht.z
    have t1 := h0.tM
    simp only [r_243, e_243_30, e_243_81, pI_r t0, if_pos t0, if_pos t1, m_229n c1, m_228a t0 c1, onI_i, m_216_0, m_216_1 t1, i00, i10, i1o, i0o, if_true, if_false]
    rfl
  by_cases c2 : inR x1 0 9999
  case neg =>
    refine OpQ.fail (e := 0) (k := 2) (by simp only [r_155, if_pos (tX h.x), m_139y c1, m_133n c2, onV_i, onV_x, onI_i]) rfl (by decide) fun τ ht => ?_
    have t0 := ht.tM
    have h0 := ht.z
    have t1 := h0.tM
    simp only [r_243, e_243_30, e_243_81, pI_r t0, if_pos t0, if_pos t1, m_229y c1, m_223n c2, m_239a c2, m_228m t0 c1 c2, onI_i, m_216_0, m_216_1 t1, i00, i10, i1o, i0o, if_true, if_false]
    rfl
  by_cases c3 : inR x2 1 96
  case neg =>
    refine OpQ.fail (e := 0) (k := 2) (by simp only [r_155, if_pos (tX h.x), m_139y c1, m_133y c2, m_134n (lo := 1) (hi := 96) c3, onV_i, onV_x, onI_i]) rfl (by decide) fun τ ht => ?_
    have t0 := ht.tM
    have h0 := ht.z
    have t1 := h0.tM
    simp only [r_243, e_243_30, e_243_81, pI_r t0, if_pos t0, if_pos t1, m_229y c1, m_223y c2, m_220n (lo := 1) (hi := 96) c3, m_239b c2 c3, m_228y t0 c1 c2, onI_i, m_216_0, m_216_1 t1, i00, i10, i1o, i0o, if_true, if_false]
    rfl
  obtain ⟨a, ua, -, rfl⟩ := inR_n c1 (Int.le_refl 0)
  have ha : a < 16 := by omega
  obtain ⟨j, uj, -, rfl⟩ := inR_n c2 (Int.le_refl 0)
  have hj : j ≤ 9999 := by omega
  have gj : j < 2147483648 := by omega
  obtain ⟨n, un, -, rfl⟩ := inR_n c3 (by decide)
  have hn : n ≤ 96 := by omega
  obtain ⟨σ1, p1, p2⟩ := m_32 h ha hj hn
  refine OpQ.ok0 (v := nI (bestG (fun r => stN W r a j n))) (σ1 := σ1) (by simp only [r_155, if_pos (tX h.x), m_139y c1, m_133y c2, m_134y (lo := 1) (hi := 96) c3, x6 h.x, if_pos (tFc h.x), p1, onV_i, onV_x, onI_i]) ((K1.scr p2).qs) fun τ ht => ?_
  have t0 := ht.tM
  have h0 := ht.z
  have t1 := h0.tM
  simp only [r_243, e_243_30, e_243_81, pI_r t0, if_pos t0, if_pos t1, m_229y c1, m_223y c2, m_220y (lo := 1) (hi := 96) c3, m_239y c2 c3, m_228y t0 c1 c2, m_243' h0 ha hj hn, onI_i, m_216_0, m_216_1 t1, i00, i10, i1o, i0o, if_true, if_false]
theorem op_odds (h : QQ σ W L) (x0 x1 : Int32) : OpQ (rn 156 [.ref 200, .int x0, .int x1] σ) σ (fun τ => rn 284 [.ref 611, .int x0, .int x1] τ) [(2, 1), (0, 2)] W L := by
  by_cases c1 : inR x0 0 15
  case neg =>
    refine OpQ.fail (e := 2) (k := 1) (by simp only [r_156, if_pos (tX h.x), m_139n c1, onV_i, onV_x, onI_i]) rfl (by decide) fun τ ht => ?_
    have t0 := ht.tM
    have h0 := ht.z
    have t1 := h0.tM
    simp only [r_284, e_284_13, e_284_19, pI_r t0, if_pos t0, if_pos t1, m_229n c1, m_228a t0 c1, onI_i, m_216_0, m_216_1 t1, i00, i10, i1o, i0o, if_true, if_false]
    rfl
  by_cases c2 : inR x1 0 9999
  case neg =>
    refine OpQ.fail (e := 0) (k := 2) (by simp only [r_156, if_pos (tX h.x), m_139y c1, m_133n c2, onV_i, onV_x, onI_i]) rfl (by decide) fun τ ht => ?_
    have t0 := ht.tM
    have h0 := ht.z
    have t1 := h0.tM
    simp only [r_284, e_284_13, e_284_19, pI_r t0, if_pos t0, if_pos t1, m_229y c1, m_223n c2, m_239a c2, m_228m t0 c1 c2, onI_i, m_216_0, m_216_1 t1, i00, i10, i1o, i0o, if_true, if_false]
    rfl
  obtain ⟨a, ua, -, rfl⟩ := inR_n c1 (Int.le_refl 0)
  have ha : a < 16 := by omega
  obtain ⟨j, uj, -, rfl⟩ := inR_n c2 (Int.le_refl 0)
  have hj : j ≤ 9999 := by omega
  have gj : j < 2147483648 := by omega
  refine OpQ.ok0 (v := odN W a j) (σ1 := σ) (by simp only [r_156, if_pos (tX h.x), m_139y c1, m_133y c2, x6 h.x, if_pos (tFc h.x), m_34 h ha gj, onV_i, onV_x, onI_i]) (QS.rf σ) fun τ ht => ?_
  have t0 := ht.tM
  have h0 := ht.z
  have t1 := h0.tM
  simp only [r_284, e_284_13, e_284_19, pI_r t0, if_pos t0, if_pos t1, m_229y c1, m_223y c2, m_228y t0 c1 c2, m_285 h0 ha gj, onI_i, m_216_0, m_216_1 t1, i00, i10, i1o, i0o, if_true, if_false]
theorem op_hope (h : QQ σ W L) (x0 : Int32) : OpQ (rn 157 [.ref 200, .int x0] σ) σ (fun τ => rn 286 [.ref 611, .int x0] τ) [(2, 1)] W L := by
  by_cases c1 : inR x0 0 (nD W - 1)
  case neg =>
    refine OpQ.fail (e := 2) (k := 1) (by simp only [r_157, if_pos (tX h.x), m_130n h c1, onV_i, onV_x, onI_i]) rfl (by decide) fun τ ht => ?_
    have t0 := ht.tM
    have h0 := ht.z
    have t1 := h0.tM
    simp only [r_286, e_286_22, e_286_27, pI_r t0, if_pos t0, if_pos t1, m_262n h0 c1, onI_i, m_216_0, m_216_1 t1, i00, i10, i1o, i0o, if_true, if_false]
    rfl
  obtain ⟨d, ud, -, rfl⟩ := inR_n c1 (Int.le_refl 0)
  have hd : d < nD W := by omega
  refine OpQ.ok0 (v := hpN W d) (σ1 := σ) (by simp only [r_157, if_pos (tX h.x), m_130y h c1, x6 h.x, x2 h.x, cs2 h, cD' h hd, if_pos (tFc h.x), m_35 h hd, onV_i, onV_x, onI_i]) (QS.rf σ) fun τ ht => ?_
  have t0 := ht.tM
  have h0 := ht.z
  have t1 := h0.tM
  simp only [r_286, e_286_22, e_286_27, pI_r t0, if_pos t0, if_pos t1, m_262y h0 c1, m_287 h0 hd, onI_i, m_216_0, m_216_1 t1, i00, i10, i1o, i0o, if_true, if_false]
theorem op_gain (h : QQ σ W L) (x0 x1 : Int32) : OpQ (rn 158 [.ref 200, .int x0, .int x1] σ) σ (fun τ => rn 288 [.ref 611, .int x0, .int x1] τ) [(2, 1)] W L := by
  by_cases c1 : inR x0 0 (nB W - 1)
  case neg =>
    refine OpQ.fail (e := 2) (k := 1) (by simp only [r_158, if_pos (tX h.x), m_125n h c1, onV_i, onV_x, onI_i]) rfl (by decide) fun τ ht => ?_
    have t0 := ht.tM
    have h0 := ht.z
    have t1 := h0.tM
    simp only [r_288, e_288_22, e_288_26, e_288_27, e_288_38, e_288_44, pI_r t0, if_pos t0, if_pos t1, m_249n h0 c1, onI_i, m_216_0, m_216_1 t1, i00, i10, i1o, i0o, if_true, if_false]
    rfl
  by_cases c2 : inR x1 0 (nD W - 1)
  case neg =>
    refine OpQ.fail (e := 2) (k := 1) (by simp only [r_158, if_pos (tX h.x), m_125y h c1, m_130n h c2, onV_i, onV_x, onI_i]) rfl (by decide) fun τ ht => ?_
    have t0 := ht.tM
    have h0 := ht.z
    have t1 := h0.tM
    simp only [r_288, e_288_22, e_288_26, e_288_27, e_288_38, e_288_44, pI_r t0, if_pos t0, if_pos t1, m_249y h0 c1, m_262n h0 c2, onI_i, m_216_0, m_216_1 t1, i00, i10, i1o, i0o, if_true, if_false]
    rfl
  obtain ⟨b, ub, -, rfl⟩ := inR_n c1 (Int.le_refl 0)
  have hb : b < nB W := by omega
  obtain ⟨d, ud, -, rfl⟩ := inR_n c2 (Int.le_refl 0)
  have hd : d < nD W := by omega
  have l5 := (WF_nB h.w).2
  obtain ⟨σ1, p1, p2⟩ := m_60 h (b := b) hd
  refine OpQ.ok (v := gaN W L b d) (σ1 := σ1) (by simp only [r_158, if_pos (tX h.x), m_125y h c1, m_130y h c2, x7 h.x, if_pos (tMk h.x), p1, onV_i, onV_x, onI_i]) ((p2.mono Jr_scr).qs) fun τ ht => ?_
  have t0 := ht.tM
  have h0 := ht.z
  have t1 := h0.tM
  obtain ⟨τ2, r1, r2⟩ := m_289 h0 (b := b) (by omega) hd
  have rk := r2.mono Jr_sq
  refine ⟨τ2, ?_, rk⟩
  simp only [r_288, e_288_22, e_288_26, e_288_27, e_288_38, e_288_44, pI_r t0, if_pos t0, if_pos t1, m_249y h0 c1, m_262y h0 c2, r1, onI_i, m_216_0, m_216_1 t1, i00, i10, i1o, i0o, if_true, if_false]
theorem op_meet (h : QQ σ W L) (x0 x1 : Int32) : OpQ (rn 160 [.ref 200, .int x0, .int x1] σ) σ (fun τ => rn 295 [.ref 611, .int x0, .int x1] τ) [(2, 1), (0, 2)] W L := by
  by_cases c1 : inR x0 0 (nB W - 1)
  case neg =>
    refine OpQ.fail (e := 2) (k := 1) (by simp only [r_160, if_pos (tX h.x), m_125n h c1, onV_i, onV_x, onI_i]) rfl (by decide) fun τ ht => ?_
    have t0 := ht.tM
    have h0 := ht.z
    have t1 := h0.tM
    simp only [r_295, e_295_22, e_295_26, e_295_27, e_295_52, e_295_44, e_295_45, e_295_114, pI_r t0, if_pos t0, if_pos t1, m_249n h0 c1, onI_i, m_216_0, m_216_1 t1, i00, i10, i1o, i0o, if_true, if_false]
    rfl
  by_cases c2 : inR x1 0 (nB W - 1)
  case neg =>
    refine OpQ.fail (e := 2) (k := 1) (by simp only [r_160, if_pos (tX h.x), m_125y h c1, m_125n h c2, onV_i, onV_x, onI_i]) rfl (by decide) fun τ ht => ?_
    have t0 := ht.tM
    have h0 := ht.z
    have t1 := h0.tM
    simp only [r_295, e_295_22, e_295_26, e_295_27, e_295_52, e_295_44, e_295_45, e_295_114, pI_r t0, if_pos t0, if_pos t1, m_249y h0 c1, m_249n h0 c2, onI_i, m_216_0, m_216_1 t1, i00, i10, i1o, i0o, if_true, if_false]
    rfl
  by_cases c3 : ¬ x0 = x1
  case neg =>
    refine OpQ.fail (e := 0) (k := 2) (by simp only [r_160, if_pos (tX h.x), m_125y h c1, m_125y h c2, m_161n (Classical.not_not.mp c3), onV_i, onV_x, onI_i]) rfl (by decide) fun τ ht => ?_
    have t0 := ht.tM
    have h0 := ht.z
    have t1 := h0.tM
    simp only [r_295, e_295_22, e_295_26, e_295_27, e_295_52, e_295_44, e_295_45, e_295_114, pI_r t0, if_pos t0, if_pos t1, m_249y h0 c1, m_249y h0 c2, if_pos (Classical.not_not.mp c3), onI_i, m_216_0, m_216_1 t1, i00, i10, i1o, i0o, if_true, if_false]
    rfl
  obtain ⟨b, ub, -, rfl⟩ := inR_n c1 (Int.le_refl 0)
  have hb : b < nB W := by omega
  obtain ⟨c, uc, -, rfl⟩ := inR_n c2 (Int.le_refl 0)
  have hc : c < nB W := by omega
  refine OpQ.ok0 (v := nI (meN W b c)) (σ1 := σ) (by simp only [r_160, if_pos (tX h.x), m_125y h c1, m_125y h c2, m_161y c3, x7 h.x, x2 h.x, cs1 h, cB' h hb, cB' h hc, if_pos (tMk h.x), m_64 h hb hc, onV_i, onV_x, onI_i]) (QS.rf σ) fun τ ht => ?_
  have t0 := ht.tM
  have h0 := ht.z
  have t1 := h0.tM
  simp only [r_295, e_295_22, e_295_26, e_295_27, e_295_52, e_295_44, e_295_45, e_295_114, pI_r t0, if_pos t0, if_pos t1, m_249y h0 c1, m_249y h0 c2, if_neg c3, m_295' h0 hb hc, onI_i, m_216_0, m_216_1 t1, i00, i10, i1o, i0o, if_true, if_false]
theorem op_rush (h : QQ σ W L) (x0 : Int32) : OpQ (rn 163 [.ref 200, .int x0] σ) σ (fun τ => rn 297 [.ref 611, .int x0] τ) [(2, 1)] W L := by
  by_cases c1 : inR x0 0 15
  case neg =>
    refine OpQ.fail (e := 2) (k := 1) (by simp only [r_163, if_pos (tX h.x), m_139n c1, onV_i, onV_x, onI_i]) rfl (by decide) fun τ ht => ?_
    have t0 := ht.tM
    have h0 := ht.z
    have t1 := h0.tM
    simp only [r_297, e_297_58, pI_r t0, if_pos t0, if_pos t1, m_229n c1, m_228a t0 c1, onI_i, m_216_0, m_216_1 t1, i00, i10, i1o, i0o, if_true, if_false]
    rfl
  obtain ⟨a, ua, -, rfl⟩ := inR_n c1 (Int.le_refl 0)
  have ha : a < 16 := by omega
  refine OpQ.ok0 (v := oI (ruN W a)) (σ1 := σ) (by simp only [r_163, if_pos (tX h.x), m_139y c1, x7 h.x, if_pos (tMk h.x), m_71 h ha, onV_i, onV_x, onI_i]) (QS.rf σ) fun τ ht => ?_
  have t0 := ht.tM
  have h0 := ht.z
  have t1 := h0.tM
  simp only [r_297, e_297_58, pI_r t0, if_pos t0, if_pos t1, m_229y c1, m_297' h0 ha, onI_i, m_216_0, m_216_1 t1, i00, i10, i1o, i0o, if_true, if_false]
theorem op_spray (h : QQ σ W L) (x0 : Int32) : OpQ (rn 167 [.ref 200, .int x0] σ) σ (fun τ => rn 244 [.ref 611, .int x0] τ) [(0, 1)] W L := by
  by_cases c1 : inR x0 0 9999
  case neg =>
    refine OpQ.fail (e := 0) (k := 1) (by simp only [r_167, if_pos (tX h.x), m_133n c1, onV_i, onV_x, onI_i]) rfl (by decide) fun τ ht => ?_
    have t0 := ht.tM
    have h0 := ht.z
    have t1 := h0.tM
    simp only [r_244, e_244_93, pI_r t0, if_pos t0, if_pos t1, m_223n c1, m_239a c1, onI_i, m_216_0, m_216_1 t1, i00, i10, i1o, i0o, if_true, if_false]
    rfl
  obtain ⟨j, uj, -, rfl⟩ := inR_n c1 (Int.le_refl 0)
  have hj : j ≤ 9999 := by omega
  have gj : j < 2147483648 := by omega
  refine OpQ.ok0 (v := sprN W j) (σ1 := σ) (by simp only [r_167, if_pos (tX h.x), m_133y c1, x6 h.x, if_pos (tFc h.x), m_44 h gj, onV_i, onV_x, onI_i]) (QS.rf σ) fun τ ht => ?_
  have t0 := ht.tM
  have h0 := ht.z
  have t1 := h0.tM
  simp only [r_244, e_244_93, pI_r t0, if_pos t0, if_pos t1, m_223y c1, m_244' h0 gj, onI_i, m_216_0, m_216_1 t1, i00, i10, i1o, i0o, if_true, if_false]
theorem op_both (h : QQ σ W L) (x0 x1 x2 x3 : Int32) : OpQ (rn 168 [.ref 200, .int x0, .int x1, .int x2, .int x3] σ) σ (fun τ => rn 245 [.ref 611, .int x0, .int x1, .int x2, .int x3] τ) [(2, 1), (0, 2)] W L := by
  by_cases c1 : inR x0 0 15
  case neg =>
    refine OpQ.fail (e := 2) (k := 1) (by simp only [r_168, if_pos (tX h.x), m_139n c1, onV_i, onV_x, onI_i]) rfl (by decide) fun τ ht => ?_
    have t0 := ht.tM
    have h0 := ht.z
    have t1 := h0.tM
    simp only [r_245, e_245_20, e_245_24, e_245_25, e_245_59, e_245_47, e_245_51, e_245_52, e_245_114, pI_r t0, if_pos t0, if_pos t1, m_229n c1, m_228a t0 c1, onI_i, m_216_0, m_216_1 t1, i00, i10, i1o, i0o, if_true, if_false]
    rfl
  by_cases c2 : inR x1 0 15
  case neg =>
    refine OpQ.fail (e := 2) (k := 1) (by simp only [r_168, if_pos (tX h.x), m_139y c1, m_139n c2, onV_i, onV_x, onI_i]) rfl (by decide) fun τ ht => ?_
    have t0 := ht.tM
    have h0 := ht.z
    have t1 := h0.tM
    simp only [r_245, e_245_20, e_245_24, e_245_25, e_245_59, e_245_47, e_245_51, e_245_52, e_245_114, pI_r t0, if_pos t0, if_pos t1, m_229y c1, m_229n c2, onI_i, m_216_0, m_216_1 t1, i00, i10, i1o, i0o, if_true, if_false]
    rfl
  by_cases c3 : ¬ x0 = x1
  case neg =>
    refine OpQ.fail (e := 0) (k := 2) (by simp only [r_168, if_pos (tX h.x), m_139y c1, m_139y c2, m_161n (Classical.not_not.mp c3), onV_i, onV_x, onI_i]) rfl (by decide) fun τ ht => ?_
    have t0 := ht.tM
    have h0 := ht.z
    have t1 := h0.tM
    simp only [r_245, e_245_20, e_245_24, e_245_25, e_245_59, e_245_47, e_245_51, e_245_52, e_245_114, pI_r t0, if_pos t0, if_pos t1, m_229y c1, m_229y c2, if_pos (Classical.not_not.mp c3), onI_i, m_216_0, m_216_1 t1, i00, i10, i1o, i0o, if_true, if_false]
    rfl
  by_cases c4 : inR x2 0 9999
  case neg =>
    refine OpQ.fail (e := 0) (k := 2) (by simp only [r_168, if_pos (tX h.x), m_139y c1, m_139y c2, m_161y c3, m_133n c4, onV_i, onV_x, onI_i]) rfl (by decide) fun τ ht => ?_
    have t0 := ht.tM
    have h0 := ht.z
    have t1 := h0.tM
    simp only [r_245, e_245_20, e_245_24, e_245_25, e_245_59, e_245_47, e_245_51, e_245_52, e_245_114, pI_r t0, if_pos t0, if_pos t1, m_229y c1, m_229y c2, if_neg c3, m_223n c4, m_239a c4, onI_i, m_216_0, m_216_1 t1, i00, i10, i1o, i0o, if_true, if_false]
    rfl
  by_cases c5 : inR x3 1 96
  case neg =>
    refine OpQ.fail (e := 0) (k := 2) (by simp only [r_168, if_pos (tX h.x), m_139y c1, m_139y c2, m_161y c3, m_133y c4, m_134n (lo := 1) (hi := 96) c5, onV_i, onV_x, onI_i]) rfl (by decide) fun τ ht => ?_
    have t0 := ht.tM
    have h0 := ht.z
    have t1 := h0.tM
    simp only [r_245, e_245_20, e_245_24, e_245_25, e_245_59, e_245_47, e_245_51, e_245_52, e_245_114, pI_r t0, if_pos t0, if_pos t1, m_229y c1, m_229y c2, if_neg c3, m_223y c4, m_220n (lo := 1) (hi := 96) c5, m_239b c4 c5, onI_i, m_216_0, m_216_1 t1, i00, i10, i1o, i0o, if_true, if_false]
    rfl
  obtain ⟨a, ua, -, rfl⟩ := inR_n c1 (Int.le_refl 0)
  have ha : a < 16 := by omega
  obtain ⟨b, ub, -, rfl⟩ := inR_n c2 (Int.le_refl 0)
  have hb : b < 16 := by omega
  obtain ⟨j, uj, -, rfl⟩ := inR_n c4 (Int.le_refl 0)
  have hj : j ≤ 9999 := by omega
  have gj : j < 2147483648 := by omega
  obtain ⟨n, un, -, rfl⟩ := inR_n c5 (by decide)
  have hn : n ≤ 96 := by omega
  refine OpQ.ok0 (v := bothN W a b j n) (σ1 := σ) (by simp only [r_168, if_pos (tX h.x), m_139y c1, m_139y c2, m_161y c3, m_133y c4, m_134y (lo := 1) (hi := 96) c5, x6 h.x, if_pos (tFc h.x), m_45 h ha hb hj hn, onV_i, onV_x, onI_i]) (QS.rf σ) fun τ ht => ?_
  have t0 := ht.tM
  have h0 := ht.z
  have t1 := h0.tM
  simp only [r_245, e_245_20, e_245_24, e_245_25, e_245_59, e_245_47, e_245_51, e_245_52, e_245_114, pI_r t0, if_pos t0, if_pos t1, m_229y c1, m_229y c2, if_neg c3, m_223y c4, m_220y (lo := 1) (hi := 96) c5, m_239y c4 c5, m_245' h0 ha hb hj hn, onI_i, m_216_0, m_216_1 t1, i00, i10, i1o, i0o, if_true, if_false]
theorem op_rests (h : QQ σ W L) (x0 x1 x2 x3 : Int32) : OpQ (rn 169 [.ref 200, .int x0, .int x1, .int x2, .int x3] σ) σ (fun τ => rn 293 [.ref 611, .int x0, .int x1, .int x2, .int x3] τ) [(2, 1), (0, 2)] W L := by
  by_cases c1 : inR x0 0 (nB W - 1)
  case neg =>
    refine OpQ.fail (e := 2) (k := 1) (by simp only [r_169, if_pos (tX h.x), m_125n h c1, onV_i, onV_x, onI_i]) rfl (by decide) fun τ ht => ?_
    have t0 := ht.tM
    have h0 := ht.z
    have t1 := h0.tM
    simp only [r_293, e_293_39, e_293_43, e_293_44, e_293_75, e_293_63, e_293_67, e_293_68, e_293_242, pI_r t0, if_pos t0, if_pos t1, m_249n h0 c1, onI_i, m_216_0, m_216_1 t1, i00, i10, i1o, i0o, if_true, if_false]
    rfl
  by_cases c2 : inR x1 0 (nB W - 1)
  case neg =>
    refine OpQ.fail (e := 2) (k := 1) (by simp only [r_169, if_pos (tX h.x), m_125y h c1, m_125n h c2, onV_i, onV_x, onI_i]) rfl (by decide) fun τ ht => ?_
    have t0 := ht.tM
    have h0 := ht.z
    have t1 := h0.tM
    simp only [r_293, e_293_39, e_293_43, e_293_44, e_293_75, e_293_63, e_293_67, e_293_68, e_293_242, pI_r t0, if_pos t0, if_pos t1, m_249y h0 c1, m_249n h0 c2, onI_i, m_216_0, m_216_1 t1, i00, i10, i1o, i0o, if_true, if_false]
    rfl
  by_cases c3 : inR x2 0 (nD W - 1)
  case neg =>
    refine OpQ.fail (e := 2) (k := 1) (by simp only [r_169, if_pos (tX h.x), m_125y h c1, m_125y h c2, m_130n h c3, onV_i, onV_x, onI_i]) rfl (by decide) fun τ ht => ?_
    have t0 := ht.tM
    have h0 := ht.z
    have t1 := h0.tM
    simp only [r_293, e_293_39, e_293_43, e_293_44, e_293_75, e_293_63, e_293_67, e_293_68, e_293_242, pI_r t0, if_pos t0, if_pos t1, m_249y h0 c1, m_249y h0 c2, m_262n h0 c3, onI_i, m_216_0, m_216_1 t1, i00, i10, i1o, i0o, if_true, if_false]
    rfl
  by_cases c4 : inR x3 0 (nD W - 1)
  case neg =>
    refine OpQ.fail (e := 2) (k := 1) (by simp only [r_169, if_pos (tX h.x), m_125y h c1, m_125y h c2, m_130y h c3, m_130n h c4, onV_i, onV_x, onI_i]) rfl (by decide) fun τ ht => ?_
    have t0 := ht.tM
    have h0 := ht.z
    have t1 := h0.tM
    simp only [r_293, e_293_39, e_293_43, e_293_44, e_293_75, e_293_63, e_293_67, e_293_68, e_293_242, pI_r t0, if_pos t0, if_pos t1, m_249y h0 c1, m_249y h0 c2, m_262y h0 c3, m_262n h0 c4, onI_i, m_216_0, m_216_1 t1, i00, i10, i1o, i0o, if_true, if_false]
    rfl
  by_cases c5 : ¬ x0 = x1
  case neg =>
    refine OpQ.fail (e := 0) (k := 2) (by simp only [r_169, if_pos (tX h.x), m_125y h c1, m_125y h c2, m_130y h c3, m_130y h c4, m_161n (Classical.not_not.mp c5), onV_i, onV_x, onI_i]) rfl (by decide) fun τ ht => ?_
    have t0 := ht.tM
    have h0 := ht.z
    have t1 := h0.tM
    simp only [r_293, e_293_39, e_293_43, e_293_44, e_293_75, e_293_63, e_293_67, e_293_68, e_293_242, pI_r t0, if_pos t0, if_pos t1, m_249y h0 c1, m_249y h0 c2, m_262y h0 c3, m_262y h0 c4, if_pos (Classical.not_not.mp c5), onI_i, m_216_0, m_216_1 t1, i00, i10, i1o, i0o, if_true, if_false]
    rfl
  by_cases c6 : ¬ x2 = x3
  case neg =>
    refine OpQ.fail (e := 0) (k := 2) (by simp only [r_169, if_pos (tX h.x), m_125y h c1, m_125y h c2, m_130y h c3, m_130y h c4, m_161y c5, m_161n (Classical.not_not.mp c6), onV_i, onV_x, onI_i]) rfl (by decide) fun τ ht => ?_
    have t0 := ht.tM
    have h0 := ht.z
    have t1 := h0.tM
    simp only [r_293, e_293_39, e_293_43, e_293_44, e_293_75, e_293_63, e_293_67, e_293_68, e_293_242, pI_r t0, if_pos t0, if_pos t1, m_249y h0 c1, m_249y h0 c2, m_262y h0 c3, m_262y h0 c4, if_neg c5, if_pos (Classical.not_not.mp c6), onI_i, m_216_0, m_216_1 t1, i00, i10, i1o, i0o, if_true, if_false]
    rfl
  obtain ⟨b, ub, -, rfl⟩ := inR_n c1 (Int.le_refl 0)
  have hb : b < nB W := by omega
  obtain ⟨c, uc, -, rfl⟩ := inR_n c2 (Int.le_refl 0)
  have hc : c < nB W := by omega
  obtain ⟨d, ud, -, rfl⟩ := inR_n c3 (Int.le_refl 0)
  have hd : d < nD W := by omega
  obtain ⟨e, ue, -, rfl⟩ := inR_n c4 (Int.le_refl 0)
  have he : e < nD W := by omega
  have l5 := (WF_nB h.w).2
  obtain ⟨σ1, p1, p2⟩ := m_72 h (w := b) (v := c) hd he
  refine OpQ.ok (v := rsN W L b c d e) (σ1 := σ1) (by simp only [r_169, if_pos (tX h.x), m_125y h c1, m_125y h c2, m_130y h c3, m_130y h c4, m_161y c5, m_161y c6, x7 h.x, if_pos (tMk h.x), p1, onV_i, onV_x, onI_i]) (p2.qs) fun τ ht => ?_
  have t0 := ht.tM
  have h0 := ht.z
  have t1 := h0.tM
  obtain ⟨τ2, r1, r2⟩ := m_293' h0 (w := b) (v := c) (by omega) (by omega) hd he none none none none none
  have rk := r2.mono Jr_sq
  refine ⟨τ2, ?_, rk⟩
  simp only [r_293, e_293_39, e_293_43, e_293_44, e_293_75, e_293_63, e_293_67, e_293_68, e_293_242, pI_r t0, if_pos t0, if_pos t1, m_249y h0 c1, m_249y h0 c2, m_262y h0 c3, m_262y h0 c4, if_neg c5, if_neg c6, r1, onI_i, m_216_0, m_216_1 t1, i00, i10, i1o, i0o, if_true, if_false]
theorem op_row (h : QQ σ W L) (x0 x1 x2 : Int32) : OpQ (rn 170 [.ref 200, .int x0, .int x1, .int x2] σ) σ (fun τ => rn 246 [.ref 611, .int x0, .int x1, .int x2] τ) [(0, 1)] W L := by
  by_cases c1 : inR x0 1 20
  case neg =>
    refine OpQ.fail (e := 0) (k := 1) (by simp only [r_170, if_pos (tX h.x), m_134n (lo := 1) (hi := 20) c1, onV_i, onV_x, onI_i]) rfl (by decide) fun τ ht => ?_
    have t0 := ht.tM
    have h0 := ht.z
    have t1 := h0.tM
    simp only [r_246, e_246_23, e_246_27, e_246_28, e_246_114, e_246_124, e_246_126, pI_r t0, if_pos t0, if_pos t1, m_220n (lo := 1) (hi := 20) c1, onI_i, m_216_0, m_216_1 t1, i00, i10, i1o, i0o, if_true, if_false]
    rfl
  by_cases c2 : inR x1 0 9999
  case neg =>
    refine OpQ.fail (e := 0) (k := 1) (by simp only [r_170, if_pos (tX h.x), m_134y (lo := 1) (hi := 20) c1, m_133n c2, onV_i, onV_x, onI_i]) rfl (by decide) fun τ ht => ?_
    have t0 := ht.tM
    have h0 := ht.z
    have t1 := h0.tM
    simp only [r_246, e_246_23, e_246_27, e_246_28, e_246_114, e_246_124, e_246_126, pI_r t0, if_pos t0, if_pos t1, m_220y (lo := 1) (hi := 20) c1, m_223n c2, m_239a c2, onI_i, m_216_0, m_216_1 t1, i00, i10, i1o, i0o, if_true, if_false]
    rfl
  obtain ⟨d, ud, -, rfl⟩ := inR_n c1 (by decide)
  have hd : d ≤ 20 := by omega
  obtain ⟨j, uj, -, rfl⟩ := inR_n c2 (Int.le_refl 0)
  have hj : j ≤ 9999 := by omega
  have gj : j < 2147483648 := by omega
  refine OpQ.ok0 (v := wdN W d j x2) (σ1 := σ) (by simp only [r_170, if_pos (tX h.x), m_134y (lo := 1) (hi := 20) c1, m_133y c2, x6 h.x, if_pos (tFc h.x), m_46 h hd hj, onV_i, onV_x, onI_i]) (QS.rf σ) fun τ ht => ?_
  have t0 := ht.tM
  have h0 := ht.z
  have t1 := h0.tM
  simp only [r_246, e_246_23, e_246_27, e_246_28, e_246_114, e_246_124, e_246_126, pI_r t0, if_pos t0, if_pos t1, m_220y (lo := 1) (hi := 20) c1, m_223y c2, m_246' h0 hd hj, onI_i, m_216_0, m_216_1 t1, i00, i10, i1o, i0o, if_true, if_false]
theorem op_costs (h : QQ σ W L) (x0 x1 : Int32) : OpQ (rn 131 [.ref 200, .int x0, .int x1] σ) σ (fun τ => rn 263 [.ref 611, .int x0, .int x1] τ) [(2, 1)] W L := by
  by_cases c1 : inR x0 0 (nB W - 1)
  case neg =>
    refine OpQ.fail (e := 2) (k := 1) (by simp only [r_131, if_pos (tX h.x), m_125n h c1, onV_i, onV_x, onI_i]) rfl (by decide) fun τ ht => ?_
    have t0 := ht.tM
    have h0 := ht.z
    have t1 := h0.tM
    simp only [r_263, e_263_22, e_263_26, e_263_27, e_263_38, e_263_44, pI_r t0, if_pos t0, if_pos t1, m_249n h0 c1, onI_i, m_216_0, m_216_1 t1, i00, i10, i1o, i0o, if_true, if_false]
    rfl
  by_cases c2 : inR x1 0 (nD W - 1)
  case neg =>
    refine OpQ.fail (e := 2) (k := 1) (by simp only [r_131, if_pos (tX h.x), m_125y h c1, m_130n h c2, onV_i, onV_x, onI_i]) rfl (by decide) fun τ ht => ?_
    have t0 := ht.tM
    have h0 := ht.z
    have t1 := h0.tM
    simp only [r_263, e_263_22, e_263_26, e_263_27, e_263_38, e_263_44, pI_r t0, if_pos t0, if_pos t1, m_249y h0 c1, m_262n h0 c2, onI_i, m_216_0, m_216_1 t1, i00, i10, i1o, i0o, if_true, if_false]
    rfl
  obtain ⟨b, ub, -, rfl⟩ := inR_n c1 (Int.le_refl 0)
  have hb : b < nB W := by omega
  obtain ⟨d, ud, -, rfl⟩ := inR_n c2 (Int.le_refl 0)
  have hd : d < nD W := by omega
  have l5 := (WF_nB h.w).2
  obtain ⟨σ1, p1, p2⟩ := q14 h (b := b) hd
  refine OpQ.ok (v := cost W L b d) (σ1 := σ1) (by simp only [r_131, if_pos (tX h.x), m_125y h c1, m_130y h c2, x2 h.x, if_pos h.tC, p1, onV_i, onV_x, onI_i]) ((p2.mono Jr_scr).qs) fun τ ht => ?_
  have t0 := ht.tM
  have h0 := ht.z
  have t1 := h0.tM
  obtain ⟨τ2, r1, r2⟩ := q264 h0 (b := b) (by omega) hd
  have rk := r2.mono Jr_sq
  refine ⟨τ2, ?_, rk⟩
  simp only [r_263, e_263_22, e_263_26, e_263_27, e_263_38, e_263_44, pI_r t0, if_pos t0, if_pos t1, m_249y h0 c1, m_262y h0 c2, r1, onI_i, m_216_0, m_216_1 t1, i00, i10, i1o, i0o, if_true, if_false]
theorem op_brings (h : QQ σ W L) (x0 x1 x2 : Int32) : OpQ (rn 132 [.ref 200, .int x0, .int x1, .int x2] σ) σ (fun τ => rn 265 [.ref 611, .int x0, .int x1, .int x2] τ) [(2, 1), (0, 2)] W L := by
  by_cases c1 : inR x0 0 (nB W - 1)
  case neg =>
    refine OpQ.fail (e := 2) (k := 1) (by simp only [r_132, if_pos (tX h.x), m_125n h c1, onV_i, onV_x, onI_i]) rfl (by decide) fun τ ht => ?_
    have t0 := ht.tM
    have h0 := ht.z
    have t1 := h0.tM
    simp only [r_265, e_265_22, e_265_26, e_265_27, e_265_46, e_265_50, e_265_57, pI_r t0, if_pos t0, if_pos t1, m_249n h0 c1, onI_i, m_216_0, m_216_1 t1, i00, i10, i1o, i0o, if_true, if_false]
    rfl
  by_cases c2 : inR x1 0 (nD W - 1)
  case neg =>
    refine OpQ.fail (e := 2) (k := 1) (by simp only [r_132, if_pos (tX h.x), m_125y h c1, m_130n h c2, onV_i, onV_x, onI_i]) rfl (by decide) fun τ ht => ?_
    have t0 := ht.tM
    have h0 := ht.z
    have t1 := h0.tM
    simp only [r_265, e_265_22, e_265_26, e_265_27, e_265_46, e_265_50, e_265_57, pI_r t0, if_pos t0, if_pos t1, m_249y h0 c1, m_262n h0 c2, onI_i, m_216_0, m_216_1 t1, i00, i10, i1o, i0o, if_true, if_false]
    rfl
  by_cases c3 : inR x2 0 9999
  case neg =>
    refine OpQ.fail (e := 0) (k := 2) (by simp only [r_132, if_pos (tX h.x), m_125y h c1, m_130y h c2, m_133n c3, onV_i, onV_x, onI_i]) rfl (by decide) fun τ ht => ?_
    have t0 := ht.tM
    have h0 := ht.z
    have t1 := h0.tM
    simp only [r_265, e_265_22, e_265_26, e_265_27, e_265_46, e_265_50, e_265_57, pI_r t0, if_pos t0, if_pos t1, m_249y h0 c1, m_262y h0 c2, m_223n c3, m_239a c3, onI_i, m_216_0, m_216_1 t1, i00, i10, i1o, i0o, if_true, if_false]
    rfl
  obtain ⟨b, ub, -, rfl⟩ := inR_n c1 (Int.le_refl 0)
  have hb : b < nB W := by omega
  obtain ⟨d, ud, -, rfl⟩ := inR_n c2 (Int.le_refl 0)
  have hd : d < nD W := by omega
  obtain ⟨j, uj, -, rfl⟩ := inR_n c3 (Int.le_refl 0)
  have hj : j ≤ 9999 := by omega
  have gj : j < 2147483648 := by omega
  have l5 := (WF_nB h.w).2
  obtain ⟨σ1, p1, p2⟩ := q15 h (b := b) hd gj
  refine OpQ.ok (v := pay W L b d j) (σ1 := σ1) (by simp only [r_132, if_pos (tX h.x), m_125y h c1, m_130y h c2, m_133y c3, x2 h.x, if_pos h.tC, p1, onV_i, onV_x, onI_i]) ((p2.mono Jr_scr).qs) fun τ ht => ?_
  have t0 := ht.tM
  have h0 := ht.z
  have t1 := h0.tM
  obtain ⟨τ2, r1, r2⟩ := q266 h0 (b := b) (by omega) hd gj
  have rk := r2.mono Jr_sq
  refine ⟨τ2, ?_, rk⟩
  simp only [r_265, e_265_22, e_265_26, e_265_27, e_265_46, e_265_50, e_265_57, pI_r t0, if_pos t0, if_pos t1, m_249y h0 c1, m_262y h0 c2, m_223y c3, r1, onI_i, m_216_0, m_216_1 t1, i00, i10, i1o, i0o, if_true, if_false]
theorem op_arch (h : QQ σ W L) (x0 x1 : Int32) : OpQ (rn 149 [.ref 200, .int x0, .int x1] σ) σ (fun τ => rn 231 [.ref 611, .int x0, .int x1] τ) [(2, 1), (0, 2)] W L := by
  by_cases c1 : inR x0 0 15
  case neg =>
    refine OpQ.fail (e := 2) (k := 1) (by simp only [r_149, e_149_25, e_149_26, if_pos (tX h.x), m_139n c1, onV_i, onV_x, onI_i]) rfl (by decide) fun τ ht => ?_
    have t0 := ht.tM
    have h0 := ht.z
    have t1 := h0.tM
    simp only [r_231, e_231_22, e_231_23, pI_r t0, if_pos t0, if_pos t1, m_229n c1, m_228a t0 c1, onI_i, m_216_0, m_216_1 t1, i00, i10, i1o, i0o, if_true, if_false]
    rfl
  by_cases c2 : inR x1 0 9999
  case neg =>
    refine OpQ.fail (e := 0) (k := 2) (by simp only [r_149, e_149_25, e_149_26, if_pos (tX h.x), m_139y c1, m_133n c2, onV_i, onV_x, onI_i]) rfl (by decide) fun τ ht => ?_
    have t0 := ht.tM
    have h0 := ht.z
    have t1 := h0.tM
    simp only [r_231, e_231_22, e_231_23, pI_r t0, if_pos t0, if_pos t1, m_229y c1, m_223n c2, m_239a c2, m_228m t0 c1 c2, onI_i, m_216_0, m_216_1 t1, i00, i10, i1o, i0o, if_true, if_false]
    rfl
  obtain ⟨a, ua, -, rfl⟩ := inR_n c1 (Int.le_refl 0)
  have ha : a < 16 := by omega
  obtain ⟨j, uj, -, rfl⟩ := inR_n c2 (Int.le_refl 0)
  have hj : j ≤ 9999 := by omega
  have gj : j < 2147483648 := by omega
  have key : rn 149 [.ref 200, .int (nI a), .int (nI j)] σ = some (.inl (some (.int (bI (arN W a j).isSome))), σ) := by
    rw [r_149, m_139y c1, onV_i, m_133y c2, onV_i, x2 h.x, if_pos h.tC, q20 h ha gj, onI_i]
    cases e : arN W a j with
    | none => rw [if_pos (show oI none = -1 from rfl), e_149_25]; rfl
    | some g =>
      have := arN_lt ha e
      rw [if_neg (show ¬ oI (some g) = -1 from nI_neg (by omega)), e_149_26]; rfl
  refine OpQ.ok0 key (QS.rf σ) fun τ ht => ?_
  have t0 := ht.tM
  have h0 := ht.z
  have t1 := h0.tM
  rw [r_231, if_pos t0, m_228y t0 c1 c2, onI_i, if_pos rfl, if_pos t1, q232 h0 ha gj, onI_i, iB]
  cases (arN W a j).isSome
  · rw [if_pos rfl, e_231_22]; rfl
  · rw [if_neg (by decide), e_231_23]; rfl
theorem op_shower (h : QQ σ W L) (x0 x1 : Int32) : OpQ (rn 122 [.ref 200, .int x0, .int x1] σ) σ (fun τ => rn 218 [.ref 611, .int x0, .int x1] τ) [(2, 1), (3, 2)] W L := by
  by_cases c1 : inR x0 0 (nS W - 1)
  case neg =>
    refine OpQ.fail (e := 2) (k := 1) (by simp only [r_122, e_122_97, e_122_60, e_122_65, e_122_70, e_122_75, e_122_80, e_122_87, e_122_92, if_pos (tX h.x), m_123n h c1, onV_i, onV_x, onI_i]) rfl (by decide) fun τ ht => ?_
    have t0 := ht.tM
    have h0 := ht.z
    have t1 := h0.tM
    simp only [r_218, e_218_41, e_218_33, e_218_34, e_218_43, e_218_58, e_218_59, pI_r t0, if_pos t0, if_pos t1, m_219n h0 c1, onI_i, m_216_0, m_216_1 t1, i00, i10, i1o, i0o, if_true, if_false]
    rfl
  obtain ⟨s, us, -, rfl⟩ := inR_n c1 (Int.le_refl 0)
  have hs : s < nS W := by omega
  have h6 := (WF_nS h.w).2
  by_cases c2 : inR x1 0 6
  case neg =>
    have n : ∀ k : Nat, k ≤ 6 → ¬ x1 = nI k := fun k hk e => c2 (by rw [e]; unfold inR; rw [tnI (by omega)]; omega)
    have n0 : ¬ x1 = 0 := n 0 (by omega)
    have n1 : ¬ x1 = 1 := n 1 (by omega)
    have n2 : ¬ x1 = 2 := n 2 (by omega)
    have n3 : ¬ x1 = 3 := n 3 (by omega)
    have n4 : ¬ x1 = 4 := n 4 (by omega)
    have n5 : ¬ x1 = 5 := n 5 (by omega)
    have n6 : ¬ x1 = 6 := n 6 (by omega)
    refine OpQ.fail (e := 3) (k := 2) (by rw [r_122, if_pos (tX h.x), m_123y h c1, onV_i, x2 h.x, cs0 h, cS' h hs, if_neg n0, if_neg n1, if_neg n2, if_neg n3, if_neg n4, if_neg n5, if_neg n6, e_122_97]) rfl (by decide) fun τ ht => ?_
    have t0 := ht.tM
    have h0 := ht.z
    have t1 := h0.tM
    simp only [r_218, e_218_34, pI_r t0, if_pos t0, if_pos t1, m_219y h0 c1, m_220n (lo := 0) (hi := 6) c2, onI_i, m_216_0, m_216_1 t1, i00, i10, if_true, if_false]
    rfl
  obtain ⟨f, uf, -, rfl⟩ := inR_n c2 (by decide)
  refine OpQ.ok0 (v := sh W s f + (if f = 4 then 2 else 0)) (σ1 := σ) ?_ (QS.rf σ) fun τ ht => ?_
  · rw [r_122, if_pos (tX h.x), m_123y h c1, onV_i, x2 h.x, cs0 h, cS' h hs]
    rcases (by omega : f = 0 ∨ f = 1 ∨ f = 2 ∨ f = 3 ∨ f = 4 ∨ f = 5 ∨ f = 6) with e | e | e | e | e | e | e <;> subst e
    · rw [if_pos (by decide), e_122_60, gS h hs (by omega), if_neg (by decide), Int32.add_zero]
    · rw [if_neg (by decide), if_pos (by decide), e_122_65, gS h hs (by omega), if_neg (by decide), Int32.add_zero]
    · rw [if_neg (by decide), if_neg (by decide), if_pos (by decide), e_122_70, gS h hs (by omega), if_neg (by decide), Int32.add_zero]
    · rw [if_neg (by decide), if_neg (by decide), if_neg (by decide), if_pos (by decide), e_122_75, gS h hs (by omega), if_neg (by decide), Int32.add_zero]
    · rw [if_neg (by decide), if_neg (by decide), if_neg (by decide), if_neg (by decide), if_pos (by decide), e_122_80, gS h hs (by omega), if_pos rfl]
    · rw [if_neg (by decide), if_neg (by decide), if_neg (by decide), if_neg (by decide), if_neg (by decide), if_pos (by decide), e_122_87, gS h hs (by omega), if_neg (by decide), Int32.add_zero]
    · rw [if_neg (by decide), if_neg (by decide), if_neg (by decide), if_neg (by decide), if_neg (by decide), if_neg (by decide), if_pos (by decide), e_122_92, gS h hs (by omega), if_neg (by decide), Int32.add_zero]
  · have t0 := ht.tM
    have h0 := ht.z
    have t1 := h0.tM
    have q : rn 221 [.ref 611, .int (nI s), .int (nI f)] (wI τ 611 0 0) = some (.inl (some (.int (sh W s f))), wI τ 611 0 0) := q221 (f := f) h0 (by omega)
    simp only [r_218, e_218_33, e_218_43, pI_r t0, if_pos t0, if_pos t1, m_219y h0 c1, m_220y (lo := 0) (hi := 6) c2, onI_i, m_216_0, q, i00, i10, if_true, if_false]
    by_cases e : f = 4
    · subst e
      rw [if_pos (by decide), e_218_59, if_pos rfl]
    · rw [if_neg (nI_nel (n := 4) e (by omega) (by decide)), e_218_58, if_neg e]
theorem op_deed (h : QQ σ W L) (x0 x1 : Int32) : OpQ (rn 129 [.ref 200, .int x0, .int x1] σ) σ (fun τ => rn 261 [.ref 611, .int x0, .int x1] τ) [(2, 1), (3, 2)] W L := by
  by_cases c1 : inR x0 0 (nD W - 1)
  case neg =>
    refine OpQ.fail (e := 2) (k := 1) (by simp only [r_129, e_129_103, e_129_60, e_129_65, e_129_70, e_129_75, e_129_80, e_129_85, e_129_90, e_129_101, e_129_102, if_pos (tX h.x), m_130n h c1, onV_i, onV_x, onI_i]) rfl (by decide) fun τ ht => ?_
    have t0 := ht.tM
    have h0 := ht.z
    have t1 := h0.tM
    simp only [r_261, e_261_41, e_261_33, e_261_34, e_261_51, e_261_45, pI_r t0, if_pos t0, if_pos t1, m_262n h0 c1, onI_i, m_216_0, m_216_1 t1, i00, i10, i1o, i0o, if_true, if_false]
    rfl
  obtain ⟨d, ud, -, rfl⟩ := inR_n c1 (Int.le_refl 0)
  have hd : d < nD W := by omega
  have h6 := (WF_nD h.w).2
  by_cases c2 : inR x1 0 6
  case neg =>
    have n : ∀ k : Nat, k ≤ 6 → ¬ x1 = nI k := fun k hk e => c2 (by rw [e]; unfold inR; rw [tnI (by omega)]; omega)
    have n0 : ¬ x1 = 0 := n 0 (by omega)
    have n1 : ¬ x1 = 1 := n 1 (by omega)
    have n2 : ¬ x1 = 2 := n 2 (by omega)
    have n3 : ¬ x1 = 3 := n 3 (by omega)
    have n4 : ¬ x1 = 4 := n 4 (by omega)
    have n5 : ¬ x1 = 5 := n 5 (by omega)
    have n6 : ¬ x1 = 6 := n 6 (by omega)
    refine OpQ.fail (e := 3) (k := 2) (by rw [r_129, if_pos (tX h.x), m_130y h c1, onV_i, x2 h.x, cs2 h, cD' h hd, if_neg n0, if_neg n1, if_neg n2, if_neg n3, if_neg n4, if_neg n5, if_neg n6, e_129_103]) rfl (by decide) fun τ ht => ?_
    have t0 := ht.tM
    have h0 := ht.z
    have t1 := h0.tM
    simp only [r_261, e_261_34, e_261_51, pI_r t0, if_pos t0, if_pos t1, m_262y h0 c1, m_220n (lo := 0) (hi := 6) c2, onI_i, m_216_0, m_216_1 t1, i00, i10, if_true, if_false]
    rfl
  obtain ⟨f, uf, -, rfl⟩ := inR_n c2 (by decide)
  refine OpQ.ok0 (v := de W d f) (σ1 := σ) ?_ (QS.rf σ) fun τ ht => ?_
  · rw [r_129, if_pos (tX h.x), m_130y h c1, onV_i, x2 h.x, cs2 h, cD' h hd]
    rcases (by omega : f = 0 ∨ f = 1 ∨ f = 2 ∨ f = 3 ∨ f = 4 ∨ f = 5 ∨ f = 6) with e | e | e | e | e | e | e <;> subst e
    · rw [if_pos (by decide), e_129_60, gD h hd (by omega)]
    · rw [if_neg (by decide), if_pos (by decide), e_129_65, gD h hd (by omega)]
    · rw [if_neg (by decide), if_neg (by decide), if_pos (by decide), e_129_70, gD h hd (by omega)]
    · rw [if_neg (by decide), if_neg (by decide), if_neg (by decide), if_pos (by decide), e_129_75, gD h hd (by omega)]
    · rw [if_neg (by decide), if_neg (by decide), if_neg (by decide), if_neg (by decide), if_pos (by decide), e_129_80, gD h hd (by omega)]
    · rw [if_neg (by decide), if_neg (by decide), if_neg (by decide), if_neg (by decide), if_neg (by decide), if_pos (by decide), e_129_85, gD h hd (by omega)]
    · rw [if_neg (by decide), if_neg (by decide), if_neg (by decide), if_neg (by decide), if_neg (by decide), if_neg (by decide), if_pos (by decide), e_129_90, gD h hd (by omega)]
      have w6 := (h.w.2.2.2 d hd).2.2.2.2.2.1
      unfold btw at w6
      have z0 : (0 : Int32).toInt = 0 := by decide
      have z1 : (1 : Int32).toInt = 1 := by decide
      by_cases e : de W d 6 = 0
      · rw [if_pos e, e_129_101, e]
      · have e1 : de W d 6 = 1 := by rw [teq] at e ⊢; omega
        rw [if_neg e, e_129_102, e1]
  · have t0 := ht.tM
    have h0 := ht.z
    have t1 := h0.tM
    have q : rn 257 [.ref 611, .int (nI d), .int (nI f)] (wI τ 611 0 0) = some (.inl (some (.int (de W d f))), wI τ 611 0 0) := q257 (f := f) h0 (by omega)
    simp only [r_261, e_261_33, e_261_45, pI_r t0, if_pos t0, if_pos t1, m_262y h0 c1, m_220y (lo := 0) (hi := 6) c2, onI_i, m_216_0, q, i00, i10, if_true, if_false]
theorem op_broker (h : QQ σ W L) (x0 x1 : Int32) : OpQ (rn 124 [.ref 200, .int x0, .int x1] σ) σ (fun τ => rn 248 [.ref 611, .int x0, .int x1] τ) [(2, 1), (3, 2)] W L := by
  by_cases c1 : inR x0 0 (nB W - 1)
  case neg =>
    refine OpQ.fail (e := 2) (k := 1) (by simp only [r_124, e_124_98, e_124_56, e_124_61, e_124_66, e_124_71, e_124_80, e_124_89, if_pos (tX h.x), m_125n h c1, onV_i, onV_x, onI_i]) rfl (by decide) fun τ ht => ?_
    have t0 := ht.tM
    have h0 := ht.z
    have t1 := h0.tM
    simp only [r_248, e_248_40, e_248_32, e_248_33, e_248_42, e_248_86, e_248_68, e_248_74, e_248_80, pI_r t0, if_pos t0, if_pos t1, m_249n h0 c1, onI_i, m_216_0, m_216_1 t1, i00, i10, i1o, i0o, if_true, if_false]
    rfl
  obtain ⟨b, ub, -, rfl⟩ := inR_n c1 (Int.le_refl 0)
  have hb : b < nB W := by omega
  have h6 := (WF_nB h.w).2
  by_cases c2 : inR x1 0 5
  case neg =>
    have n : ∀ k : Nat, k ≤ 5 → ¬ x1 = nI k := fun k hk e => c2 (by rw [e]; unfold inR; rw [tnI (by omega)]; omega)
    have n0 : ¬ x1 = 0 := n 0 (by omega)
    have n1 : ¬ x1 = 1 := n 1 (by omega)
    have n2 : ¬ x1 = 2 := n 2 (by omega)
    have n3 : ¬ x1 = 3 := n 3 (by omega)
    have n4 : ¬ x1 = 4 := n 4 (by omega)
    have n5 : ¬ x1 = 5 := n 5 (by omega)
    refine OpQ.fail (e := 3) (k := 2) (by rw [r_124, if_pos (tX h.x), m_125y h c1, onV_i, x2 h.x, cs1 h, cB' h hb, if_neg n0, if_neg n1, if_neg n2, if_neg n3, if_neg n4, if_neg n5, e_124_98]) rfl (by decide) fun τ ht => ?_
    have t0 := ht.tM
    have h0 := ht.z
    have t1 := h0.tM
    simp only [r_248, e_248_33, pI_r t0, if_pos t0, if_pos t1, m_249y h0 c1, m_220n (lo := 0) (hi := 5) c2, onI_i, m_216_0, m_216_1 t1, i00, i10, if_true, if_false]
    rfl
  obtain ⟨f, uf, -, rfl⟩ := inR_n c2 (by decide)
  have rd : ∀ τ, QQ τ W L → rn 248 [.ref 611, .int (nI b), .int (nI f)] τ = exec PP 9 248 42 [some (.ref 611), some (.int (nI b)), some (.int (nI f))] [] (wI τ 611 0 0) := fun τ ht => by
    have t0 := ht.tM
    have h0 := ht.z
    have t1 := h0.tM
    simp only [r_248, e_248_32, pI_r t0, if_pos t0, if_pos t1, m_249y h0 c1, m_220y (lo := 0) (hi := 5) c2, onI_i, m_216_0, i00, i10, if_true, if_false]
  have cd : rn 124 [.ref 200, .int (nI b), .int (nI f)] σ = (if nI f = 0 then (exec PP 5 124 56 [some (.ref 200), some (.int (nI b)), some (.int (nI f)), some (.ref (224 + b))] [] σ)
    else if nI f = 1 then (exec PP 5 124 61 [some (.ref 200), some (.int (nI b)), some (.int (nI f)), some (.ref (224 + b))] [] σ)
    else if nI f = 2 then (exec PP 5 124 66 [some (.ref 200), some (.int (nI b)), some (.int (nI f)), some (.ref (224 + b))] [] σ)
    else if nI f = 3 then (exec PP 5 124 71 [some (.ref 200), some (.int (nI b)), some (.int (nI f)), some (.ref (224 + b))] [] σ)
    else if nI f = 4 then (exec PP 5 124 80 [some (.ref 200), some (.int (nI b)), some (.int (nI f)), some (.ref (224 + b))] [] σ)
    else if nI f = 5 then (exec PP 5 124 89 [some (.ref 200), some (.int (nI b)), some (.int (nI f)), some (.ref (224 + b))] [] σ)
    else (exec PP 5 124 98 [some (.ref 200), some (.int (nI b)), some (.int (nI f)), some (.ref (224 + b))] [] σ)) := by
    rw [r_124, if_pos (tX h.x), m_125y h c1, onV_i, x2 h.x, cs1 h, cB' h hb]
  rw [cd]
  have q : ∀ τ, QQ τ W L → rn 251 [.ref 611, .int (nI b), .int (nI f)] τ = some (.inl (some (.int (br W b f))), τ) := fun τ h0 => q251 (f := f) h0 (by omega)
  rcases (by omega : f = 0 ∨ f = 1 ∨ f = 2 ∨ f = 3 ∨ f = 4 ∨ f = 5) with e | e | e | e | e | e <;> subst e
  · refine OpQ.ok0 (v := br W b 0) (by rw [if_pos (by decide), e_124_56, gB h hb (by omega)]) (QS.rf σ) fun τ ht => ?_
    rw [rd τ ht, e_248_42, if_neg (by decide), if_neg (by decide), if_neg (by decide), e_248_86, if_pos ht.z.tM, q _ ht.z, onI_i]
  · refine OpQ.ok0 (v := br W b 1) (by rw [if_neg (by decide), if_pos (by decide), e_124_61, gB h hb (by omega)]) (QS.rf σ) fun τ ht => ?_
    rw [rd τ ht, e_248_42, if_neg (by decide), if_neg (by decide), if_neg (by decide), e_248_86, if_pos ht.z.tM, q _ ht.z, onI_i]
  · refine OpQ.ok0 (v := br W b 2) (by rw [if_neg (by decide), if_neg (by decide), if_pos (by decide), e_124_66, gB h hb (by omega)]) (QS.rf σ) fun τ ht => ?_
    rw [rd τ ht, e_248_42, if_neg (by decide), if_neg (by decide), if_neg (by decide), e_248_86, if_pos ht.z.tM, q _ ht.z, onI_i]
  · obtain ⟨σ1, p1, p2⟩ := q9 h hb
    refine OpQ.ok (v := walk W L b) (by rw [if_neg (by decide), if_neg (by decide), if_neg (by decide), if_pos (by decide), e_124_71, x2 h.x, if_pos h.tC, p1, onI_i]) (p2.mono Jr_scr).qs fun τ ht => ?_
    obtain ⟨τ2, r1, r2⟩ := q250 ht.z hb
    exact ⟨τ2, by rw [rd τ ht, e_248_42, if_pos (by decide), e_248_68, if_pos ht.z.tM, r1, onI_i], r2.mono Jr_sq⟩
  · refine OpQ.ok0 (v := doS W b) (by rw [if_neg (by decide), if_neg (by decide), if_neg (by decide), if_neg (by decide), if_pos (by decide), e_124_80, x2 h.x, if_pos h.tC, m_13 h, onI_i]) (QS.rf σ) fun τ ht => ?_
    rw [rd τ ht, e_248_42, if_neg (by decide), if_pos (by decide), e_248_74, if_pos ht.z.tM, m_259 ht.z, onI_i]
  · refine OpQ.ok0 (v := wrN W b) (by rw [if_neg (by decide), if_neg (by decide), if_neg (by decide), if_neg (by decide), if_neg (by decide), if_pos (by decide), e_124_89, x2 h.x, if_pos h.tC, m_5 h hb, onI_i]) (QS.rf σ) fun τ ht => ?_
    rw [rd τ ht, e_248_42, if_neg (by decide), if_neg (by decide), if_pos (by decide), e_248_80, if_pos ht.z.tM, m_260 ht.z hb, onI_i]
theorem op_deals (h : QQ σ W L) (x0 x1 : Int32) : OpQ (rn 159 [.ref 200, .int x0, .int x1] σ) σ (fun τ => rn 290 [.ref 611, .int x0, .int x1] τ) [(2, 1)] W L := by
  by_cases c1 : inR x0 0 (nB W - 1)
  case neg =>
    refine OpQ.fail (e := 2) (k := 1) (by simp only [r_159, e_159_29, e_159_30, if_pos (tX h.x), m_125n h c1, onV_i, onV_x, onI_i]) rfl (by decide) fun τ ht => ?_
    have t0 := ht.tM
    have h0 := ht.z
    have t1 := h0.tM
    simp only [r_290, e_290_158, e_290_174, e_290_176, pI_r t0, if_pos t0, if_pos t1, m_249n h0 c1, onI_i, m_216_0, m_216_1 t1, i00, i10, i1o, i0o, if_true, if_false]
    rfl
  obtain ⟨b, ub, -, rfl⟩ := inR_n c1 (Int.le_refl 0)
  have hb : b < nB W := by omega
  have l8 := (WF_nD h.w).2
  obtain ⟨σ1, p1, p2, p3⟩ := m_61 h hb
  have h1 := h.k p2
  have ho : opB W (deN W L b) = true := deg_op h.w _ _ _ (op_0 W)
  have sg : smS (gC W L b) (nD W) (deN W L b) = smS (gaN W L b) (nD W) (deN W L b) := smS_open h.w ho fun i _ e => if_pos e
  refine OpQ.ok (v := if x1 = 0 then nI (deN W L b) else smS (gaN W L b) (nD W) (deN W L b)) (σ1 := σ1) ?_ p2.qs fun τ ht => ?_
  · rw [r_159, if_pos (tX h.x), m_125y h c1, onV_i, x7 h.x, if_pos (tMk h.x), p1, onI_i]
    by_cases z : x1 = 0
    · rw [if_pos z, if_pos z, e_159_29]
    · rw [if_neg z, if_neg z, x7 h1.x, if_pos (tMk h1.x), m_63 h1 p3, onI_i, e_159_30, sg]
  · have t0 := ht.tM
    have h0 := ht.z
    have t1 := h0.tM
    obtain ⟨τ2, r1, r2⟩ := m_290' h0 hb (mu := x1) none none none
    refine ⟨τ2, ?_, r2⟩
    rw [r_290, pI_r t0, if_pos t1, m_249y h0 c1, onI_i, if_pos t1, m_216_0, onI_i, if_pos rfl, r1]
theorem op_led (h : QQ σ W L) (hg : LG σ 211 W) (x0 x1 : Int32) : OpQ (rn 175 [.ref 200, .int x0, .int x1] σ) σ (fun τ => rn 312 [.ref 611, .int x0, .int x1] τ) [(2, 1)] W L := by
  by_cases c1 : inR x0 0 15
  case neg =>
    refine OpQ.fail (e := 2) (k := 1) (by simp only [r_175, e_175_22, e_175_33, if_pos (tX h.x), m_139n c1, onV_i, onV_x, onI_i]) rfl (by decide) fun τ ht => ?_
    have t0 := ht.tM
    have h0 := ht.z
    have t1 := h0.tM
    simp only [r_312, e_312_72, e_312_81, e_312_82, pI_r t0, if_pos t0, if_pos t1, m_229n c1, m_228a t0 c1, onI_i, m_216_0, m_216_1 t1, i00, i10, i1o, i0o, if_true, if_false]
    rfl
  obtain ⟨a, ua, -, rfl⟩ := inR_n c1 (Int.le_refl 0)
  have ha : a < 16 := by omega
  have t5 : sT σ 215 = 105 := h.s.2.2.1.1
  refine OpQ.ok0 (v := if x1 = 0 then nI (cnt (lgP W a) (lgN W)) else ledM W a) (σ1 := σ) ?_ (QS.rf σ) fun τ ht => ?_
  · rw [r_175, m_139y c1, onV_i]
    by_cases z : x1 = 0
    · rw [if_pos z, if_pos z, e_175_22, x2 h.x, gR_r h.s.1.1 h.s.1.2.2.2.2.1, if_pos t5, m_55 h hg, onI_i]
    · rw [if_neg z, if_neg z, x2 h.x, gR_r h.s.1.1 h.s.1.2.2.2.2.1, if_pos t5, m_53 h hg, onI_i, e_175_33]
  · have t0 := ht.tM
    have h0 := ht.z
    have t1 := h0.tM
    rw [r_312, pI_r t0, m_229y c1, onI_i, if_pos t1, m_216_0, onI_i, if_pos rfl, m_312' h0]
theorem op_log (h : QQ σ W L) (hg : LG σ 211 W) (x0 x1 : Int32) : OpQ (rn 176 [.ref 200, .int x0, .int x1] σ) σ (fun τ => rn 314 [.ref 611, .int x0, .int x1] τ) [(3, 1)] W L := by
  have t5 : sT σ 215 = 105 := h.s.2.2.1.1
  have z0 : (0 : Int32).toInt = 0 := by decide
  have z4 : (4 : Int32).toInt = 4 := by decide
  by_cases c1 : inR x1 0 3
  case neg =>
    refine OpQ.fail (e := 3) (k := 1) ?_ rfl (by decide) fun τ ht => ?_
    · unfold inR at c1
      rw [r_176]
      by_cases c : x1 < 0
      · rw [if_pos c, e_176_9]
      · rw [if_neg c, if_neg (by rw [tlt, z0] at c; rw [tlt, z4]; omega)]
    · have t0 := ht.tM
      have h0 := ht.z
      have t1 := h0.tM
      rw [r_314, pI_r t0, m_220n (lo := 0) (hi := 3) c1, onI_i, if_pos rfl, e_314_20, if_pos t1, m_216_1 t1, onI_i, if_neg (by decide)]
      rfl
  obtain ⟨f, uf, -, rfl⟩ := inR_n c1 (by decide)
  refine OpQ.ok0 (v := logN W x0 f) (σ1 := σ) ?_ (QS.rf σ) fun τ ht => ?_
  · rw [r_176, if_neg (nI_pos (by omega)), if_pos (nI_ltl (n := 4) (by omega) (by decide)), e_176_20, x2 h.x, gR_r h.s.1.1 h.s.1.2.2.2.2.1, if_pos t5, m_54' h hg rfl (by omega), onI_i]
  · have t0 := ht.tM
    have h0 := ht.z
    have t1 := h0.tM
    rw [r_314, pI_r t0, m_220y (lo := 0) (hi := 3) c1, onI_i, if_neg (by decide), e_314_19, if_pos t1, m_216_0, onI_i, if_pos rfl, m_314' h0 rfl (by omega)]
end OQ
