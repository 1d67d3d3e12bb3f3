theorem fo_add {α : Type} (g : Nat → α → α) : ∀ (k i l : Nat) (a : α), fo g i (k + l) a = fo g (i + k) l (fo g i k a)
  | 0, i, l, a => by rw [Nat.zero_add]; rfl
  | k + 1, i, l, a => by
    rw [show k + 1 + l = k + l + 1 by omega, fo_one, fo_one, fo_add g k (i + 1) l, show i + 1 + k = i + (k + 1) by omega]
theorem fo_id {α : Type} {g : Nat → α → α} : ∀ (k i : Nat) (a : α), (∀ j a, i ≤ j → j < i + k → g j a = a) → fo g i k a = a
  | 0, _, _, _ => rfl
  | k + 1, i, a, h => by
    rw [fo_one, h i a (Nat.le_refl _) (by omega)]
    exact fo_id k (i + 1) a fun j a h1 h2 => h j a (by omega) (by omega)
theorem bt_nI (m : Nat) {i : Nat} (hi : i < 32) : bt (nI m) i = m.testBit i := by
  show (BitVec.ofNat 32 m).getLsbD i = _
  rw [BitVec.getLsbD_ofNat, decide_eq_true hi, Bool.true_and]
theorem bsN {p : Nat → Bool} {n : Nat} (hn : n ≤ 30) : ∃ m, m < 2 ^ n ∧ bs p n = nI m ∧ ∀ i, m.testBit i = (decide (i < n) && p i) := by
  have e : ∀ i, (bs p n).toBitVec.toNat.testBit i = (decide (i < n) && p i) := fun i => by
    by_cases h : i < 32
    · exact b_bs p (by omega) h
    · have : bt (bs p n) i = false := b_big (by omega)
      rw [decide_eq_false (by omega)]
      exact this
  refine ⟨(bs p n).toBitVec.toNat, ?_, b_ext fun i hi => ?_, e⟩
  · refine Nat.lt_pow_two_of_testBit _ fun i hi => ?_
    rw [e, decide_eq_false (by omega)]; rfl
  · rw [bt_nI _ hi]; rfl
theorem tb_le {m o : Nat} (h : ∀ i, m.testBit i = true → o.testBit i = true) : m ≤ o := by
  have e : m &&& o = m := Nat.eq_of_testBit_eq fun i => by
    rw [Nat.testBit_and]
    cases q : m.testBit i
    · rfl
    · rw [h i q]; rfl
  rw [← e]
  exact Nat.and_le_right
theorem shl1N : ∀ n, n < 20 → shl 1 (nI n) = nI (2 ^ n) := by decide +kernel
theorem Scr_kp {σ σ' : SH} {P : Nat → Nat → Prop} (k : Kp P σ σ') : Scr σ' = Scr σ := by
  funext a j
  unfold Scr
  rw [k.T]
section QE
variable {σ : SH} {W L : WW}
theorem QQ.k (h : QQ σ W L) {σ' : SH} (k : Kp (Scr σ) σ σ') : QQ σ' W L := h.qs k.qs
theorem Kp.sc {σ' σ'' : SH} (k : Kp (Scr σ) σ σ') (k' : Kp (Scr σ') σ' σ'') : Kp (Scr σ) σ σ'' := by
  rw [Scr_kp k] at k'
  exact k.tr k'
/-- scratch of judging -/
def Jr (σ : SH) (a k : Nat) : Prop := a = 217 ∨ (a = 611 ∧ (k = 18 ∨ k = 19 ∨ k = 20)) ∨ a = 619 ∨ (629 ≤ a ∧ sT σ (a - 5) = 104)
theorem Jr_scr {σ : SH} : ∀ a k, Jr σ a k → Scr σ a k := fun a k z => by
  unfold Jr at z
  unfold Scr
  omega
theorem MJ_jr (σ : SH) : ∀ a k, MJ a k → Jr σ a k := fun a k z => by
  unfold MJ at z
  unfold Jr
  omega
theorem QQ.jr (h : QQ σ W L) : ∀ a k, CJ σ 211 a k → Jr σ a k := fun a k z => by
  have := h.cj a k z
  unfold Jr
  rcases z with z | ⟨z1, z2⟩
  · omega
  · unfold Scr at this; omega
theorem Jr_kp {σ σ' : SH} {P : Nat → Nat → Prop} (k : Kp P σ σ') : Jr σ' = Jr σ := by
  funext a j
  unfold Jr
  rw [k.T]
theorem Kp.js {σ' σ'' : SH} (k : Kp (Jr σ) σ σ') (k' : Kp (Jr σ') σ' σ'') : Kp (Jr σ) σ σ'' := by
  rw [Jr_kp k] at k'
  exact k.tr k'
theorem QQ.j (h : QQ σ W L) {σ' : SH} (k : Kp (Jr σ) σ σ') : QQ σ' W L := h.k (k.mono Jr_scr)
/-- scratch, but for what was thrown -/
def Sq (σ : SH) (a k : Nat) : Prop := Scr σ a k ∧ ¬ (a = 611 ∧ k = 0)
theorem Jr_sq {σ : SH} : ∀ a k, Jr σ a k → Sq σ a k := fun a k z => by
  refine ⟨Jr_scr a k z, ?_⟩
  unfold Jr at z
  omega
theorem Kp.sq {σ' σ'' : SH} (k : Kp (Sq σ) σ σ') (k' : Kp (Sq σ') σ' σ'') : Kp (Sq σ) σ σ'' := by
  have e : Sq σ' = Sq σ := by
    funext a j
    unfold Sq
    rw [Scr_kp k]
  rw [e] at k'
  exact k.tr k'
theorem QQ.kq (h : QQ σ W L) {σ' : SH} (k : Kp (Sq σ) σ σ') : QQ σ' W L := h.k (k.mono fun _ _ z => z.1)
theorem q14 (h : QQ σ W L) {b d : Nat} (hd : d < nD W) : ∃ σ', rn 14 [.ref 211, .int (nI b), .int (nI d)] σ = some (.inl (some (.int (cost W L b d))), σ') ∧ Kp (Jr σ) σ σ' := by
  obtain ⟨σ', h1, h2⟩ := m_14 h.2.1 (b := b) hd
  exact ⟨σ', h1, h2.mono h.jr⟩
theorem q15 (h : QQ σ W L) {b d j : Nat} (hd : d < nD W) (hj : j < 2147483648) : ∃ σ', rn 15 [.ref 211, .int (nI b), .int (nI d), .int (nI j)] σ = some (.inl (some (.int (pay W L b d j))), σ') ∧ Kp (Jr σ) σ σ' := by
  obtain ⟨σ', h1, h2⟩ := m_15 h.2.1 (b := b) hd hj
  exact ⟨σ', h1, h2.mono h.jr⟩
theorem q9 (h : QQ σ W L) {b : Nat} (hb : b < nB W) : ∃ σ', rn 9 [.ref 211, .int (nI b)] σ = some (.inl (some (.int (walk W L b))), σ') ∧ Kp (Jr σ) σ σ' := by
  obtain ⟨σ', h1, h2⟩ := m_9 h.2.1 hb
  exact ⟨σ', h1, h2.mono h.jr⟩
theorem q264 (h : QQ σ W L) {b d : Nat} (hb : b < 5) (hd : d < nD W) : ∃ σ', rn 264 [.ref 611, .int (nI b), .int (nI d)] σ = some (.inl (some (.int (cost W L b d))), σ') ∧ Kp (Jr σ) σ σ' := by
  obtain ⟨σ', h1, h2⟩ := m_264 h.MT hb (by rw [h.e]; exact hd)
  rw [h.e, h.l] at h1
  exact ⟨σ', h1, h2.mono (MJ_jr σ)⟩
theorem q266 (h : QQ σ W L) {b d j : Nat} (hb : b < 5) (hd : d < nD W) (hj : j < 2147483648) : ∃ σ', rn 266 [.ref 611, .int (nI b), .int (nI d), .int (nI j)] σ = some (.inl (some (.int (pay W L b d j))), σ') ∧ Kp (Jr σ) σ σ' := by
  obtain ⟨σ', h1, h2⟩ := m_266 h.MT hb (by rw [h.e]; exact hd) hj
  rw [h.e, h.l] at h1
  exact ⟨σ', h1, h2.mono (MJ_jr σ)⟩
theorem q250 (h : QQ σ W L) {b : Nat} (hb : b < nB W) : ∃ σ', rn 250 [.ref 611, .int (nI b)] σ = some (.inl (some (.int (walk W L b))), σ') ∧ Kp (Jr σ) σ σ' := by
  obtain ⟨σ', h1, h2⟩ := m_250 h.MT (by rw [h.e]; exact hb)
  rw [h.e, h.l] at h1
  exact ⟨σ', h1, h2.mono (MJ_jr σ)⟩
/-! gain -/
def gbN (W : WW) (d : Nat) : Nat := if miN W < dB W d then dB W d else miN W
def gag (W L : WW) (b d : Nat) : Nat → Int32 → Int32 := fun i s => if arN W (rdN W) (gbN W d + i) = some (dA W d) then s + pay W L b d (gbN W d + i) else s
def gaN (W L : WW) (b d : Nat) : Int32 := fo (gag W L b d) 0 (dE W d + 1 - gbN W d) (-(cost W L b d))
theorem m_60 (h : QQ σ W L) {b d : Nat} (hd : d < nD W) : ∃ σ', rn 60 [.ref 292, .int (nI b), .int (nI d)] σ = some (.inl (some (.int (gaN W L b d))), σ') ∧ Kp (Jr σ) σ σ' := by
  obtain ⟨a1, a2⟩ := WF_dA h.w hd
  obtain ⟨b1, b2⟩ := WF_dB h.w hd
  obtain ⟨e1, e2⟩ := WF_dE h.w hd
  have hm := h.mi
  have hg : gbN W d ≤ 9999 := by unfold gbN; split <;> omega
  obtain ⟨σ1, p1, p2⟩ := q14 h (b := b) hd
  have h1 := h.j p2
  have start : rn 60 [.ref 292, .int (nI b), .int (nI d)] σ = exec PP 5 60 56 [some (.ref 292), some (.int (nI b)), some (.int (nI d)), some (.ref (229 + d)), some (.int (-(cost W L b d))), some (.int (nI (gbN W d))), some (.int (nI (gbN W d)))] [] σ1 := by
    rw [r_60, mk0 h.x, cs2 h, cD' h hd, mk0 h.x, if_pos h.tC, p1, onI_i, gD h1 hd (by omega), mk0 h1.x, c10 h1, b1]
    unfold gbN
    by_cases c : miN W < dB W d
    · rw [if_pos (nI_lt c (by omega)), if_pos c, gD h1 hd (by omega), e_60_50, b1]
    · rw [if_neg (nI_nlt (by omega) (by omega)), if_neg c, e_60_43, mk0 h1.x, c10 h1]
  obtain ⟨σ', k1, k2⟩ := lpS (F := fun i s σ => exec PP 5 60 56 [some (.ref 292), some (.int (nI b)), some (.int (nI d)), some (.ref (229 + d)), some (.int s), (if i = 0 then some (.int (nI (gbN W d))) else none), some (.int (nI (gbN W d + i)))] [] σ) (g := gag W L b d) (K := fun s σ => some (.inl (some (.int s)), σ)) (I := fun _ _ σ2 => Kp (Jr σ) σ σ2) (n := dE W d + 1 - gbN W d) (by
    intro i s σ2 hi hk
    have h2 := h.j hk
    have hn1 : ¬ i + 1 = 0 := by omega
    rw [if_neg hn1]
    have n0 : ¬ arN W (rdN W) (gbN W d + i) = some (dA W d) → gag W L b d i s = s := fun z => if_neg z
    have n1 : arN W (rdN W) (gbN W d + i) = some (dA W d) → gag W L b d i s = s + pay W L b d (gbN W d + i) := fun z => if_pos z
    by_cases c : arN W (rdN W) (gbN W d + i) = some (dA W d)
    · obtain ⟨σ3, q1, q2⟩ := q15 h2 (b := b) (j := gbN W d + i) hd (by omega)
      refine ⟨σ3, ?_, hk.js q2⟩
      rw [e_60_56, gD h2 hd (by omega), e1, if_neg (nI_nlt (by omega) (by omega)), mk0 h2.x, mk0 h2.x, c8 h2, if_pos h2.tC, q20 h2 h2.rd.2 (by omega), onI_i, gD h2 hd (by omega), a1, if_pos ((oI_ar h.rd.2 a2).mpr c), mk0 h2.x, if_pos h2.tC, q1, onI_i, n1 c, nI_1a]
    · refine ⟨σ2, ?_, hk⟩
      rw [e_60_56, gD h2 hd (by omega), e1, if_neg (nI_nlt (by omega) (by omega)), mk0 h2.x, mk0 h2.x, c8 h2, if_pos h2.tC, q20 h2 h2.rd.2 (by omega), onI_i, gD h2 hd (by omega), a1, if_neg (fun z => c ((oI_ar h.rd.2 a2).mp z)), e_60_104, n0 c, nI_1a]) (by
    intro s σ2 hk
    have h2 := h.j hk
    rw [e_60_56, gD h2 hd (by omega), e1, if_pos (nI_lt (by omega) (by omega)), e_60_110]) (dE W d + 1 - gbN W d) 0 (-(cost W L b d)) σ1 (by omega) p2
  exact ⟨σ', start.trans k1, k2⟩
theorem ar_1 (s p c : Int32) : s + p - c = s - c + p := by
  rw [Int32.sub_eq_add_neg, Int32.sub_eq_add_neg, Int32.add_assoc, Int32.add_comm p, ← Int32.add_assoc]
theorem ga_0 (b d : Nat) : fo (gag W L b d) 0 (dE W d + 1 - gbN W d) 0 - cost W L b d = gaN W L b d := by
  have := fo_rel (g := gag W L b d) (g' := gag W L b d) (R := fun s s' => s - cost W L b d = s') (dE W d + 1 - gbN W d) 0 0 (-(cost W L b d)) (by rw [Int32.sub_eq_add_neg, Int32.zero_add]) (fun i s s' _ _ e => by
    unfold gag
    by_cases c : arN W (rdN W) (gbN W d + i) = some (dA W d)
    · rw [if_pos c, if_pos c, ar_1, e]
    · rw [if_neg c, if_neg c, e])
  exact this
theorem m_289 (h : QQ σ W L) {b d : Nat} (hb : b < 5) (hd : d < nD W) : ∃ σ', rn 289 [.ref 611, .int (nI b), .int (nI d)] σ = some (.inl (some (.int (gaN W L b d))), σ') ∧ Kp (Jr σ) σ σ' := by
  have h8 := (WF_nD h.w).2
  obtain ⟨a1, a2⟩ := WF_dA h.w hd
  obtain ⟨b1, b2⟩ := WF_dB h.w hd
  obtain ⟨e1, e2⟩ := WF_dE h.w hd
  have hm := h.mi
  have hg : gbN W d ≤ 9999 := by unfold gbN; split <;> omega
  have e327 : (if (nI (miN W) < nI (dB W d) : Prop) then nI (dB W d) else nI (miN W)) = nI (gbN W d) := by
    unfold gbN
    by_cases c : miN W < dB W d
    · rw [if_pos (nI_lt c (by omega)), if_pos c]
    · rw [if_neg (nI_nlt (by omega) (by omega)), if_neg c]
  rw [r_289, gw h, aw5 h, if_pos h.tM, q257 (f := 1) h (by omega), onI_i, b1, m_327, onI_i, e327]
  obtain ⟨σ', k1, k2⟩ := lpS (F := fun i s σ => exec PP 9 289 19 [some (.ref 611), some (.int (nI b)), some (.int (nI d)), some (.int s), some (.int (nI (gbN W d + i)))] [] σ) (g := gag W L b d) (K := fun s σ => exec PP 9 289 69 [some (.ref 611), some (.int (nI b)), some (.int (nI d)), some (.int s), none] [] σ) (I := fun _ _ σ2 => Kp (Jr σ) σ σ2) (n := dE W d + 1 - gbN W d) (by
    intro i s σ2 hi hk
    have h2 := h.j hk
    have n0 : ¬ arN W (rdN W) (gbN W d + i) = some (dA W d) → gag W L b d i s = s := fun z => if_neg z
    have n1 : arN W (rdN W) (gbN W d + i) = some (dA W d) → gag W L b d i s = s + pay W L b d (gbN W d + i) := fun z => if_pos z
    by_cases c : arN W (rdN W) (gbN W d + i) = some (dA W d)
    · obtain ⟨σ3, q1, q2⟩ := q266 h2 (b := b) (j := gbN W d + i) hb hd (by omega)
      refine ⟨σ3, ?_, hk.js q2⟩
      rw [e_289_19, if_pos h2.tM, q257 (f := 2) h2 (by omega), onI_i, e1, if_neg (nI_nlt (by omega) (by omega)), if_pos h2.tM, q257 (f := 0) h2 (by omega), onI_i, a1, gw h2, aw6 h2, if_pos h2.tM, q237 h2 a2 h2.rd.2 (by omega), onI_i, iB, if_neg (by simp [c]), if_pos h2.tM, q1, onI_i, n1 c, nI_1a]
    · refine ⟨σ2, ?_, hk⟩
      rw [e_289_19, if_pos h2.tM, q257 (f := 2) h2 (by omega), onI_i, e1, if_neg (nI_nlt (by omega) (by omega)), if_pos h2.tM, q257 (f := 0) h2 (by omega), onI_i, a1, gw h2, aw6 h2, if_pos h2.tM, q237 h2 a2 h2.rd.2 (by omega), onI_i, iB, if_pos (by simp [c]), e_289_63, n0 c, nI_1a]) (by
    intro s σ2 hk
    have h2 := h.j hk
    have z := e_289_69 611 (nI b) (nI d) s (some (.int (nI (gbN W d + (dE W d + 1 - gbN W d))))) σ2
    rw [e_289_19, if_pos h2.tM, q257 (f := 2) h2 (by omega), onI_i, e1, if_pos (nI_lt (by omega) (by omega)), z, e_289_69]) (dE W d + 1 - gbN W d) 0 0 σ (by omega) (Kp.rf _)
  have h2 := h.j k2
  obtain ⟨σ3, q1, q2⟩ := q264 h2 (b := b) hb hd
  refine ⟨σ3, k1.trans ?_, k2.js q2⟩
  rw [e_289_69, if_pos h2.tM, q1, onI_i, ga_0]
/-! the best deeds to buy -/
/-- what is in a set, together -/
def smS (f : Nat → Int32) (n m : Nat) : Int32 := fo (fun i s => if m.testBit i = true then s + f i else s) 0 n 0
def opB (W : WW) (m : Nat) : Bool := decide (nI m &&& owS W = 0)
def deg (W L : WW) (b : Nat) : Nat → Nat → Nat := fun m x => if opB W m = true ∧ ¬ br W b 0 < smS (cost W L b) (nD W) m ∧ smS (gaN W L b) (nD W) x < smS (gaN W L b) (nD W) m then m else x
def deN (W L : WW) (b : Nat) : Nat := fo (deg W L b) 1 (2 ^ nD W - 1) 0
theorem op_bits (hW : WF W) {m : Nat} : opB W m = true ↔ ∀ i, i < nD W → m.testBit i = true → de W i 4 = -1 := by
  have h8 := (WF_nD hW).2
  unfold opB
  rw [decide_eq_true_iff]
  refine ⟨fun e i hi hm => ?_, fun e => b_ext fun i hi => ?_⟩
  · have := congrArg (fun x => bt x i) e
    try dsimp only at this
    rw [b_and, b_0, bt_nI _ (by omega), hm, Bool.true_and] at this
    unfold owS at this
    rw [b_bs _ (by omega) (by omega), decide_eq_true hi, Bool.true_and] at this
    simpa using this
  · rw [b_and, b_0, bt_nI _ hi]
    unfold owS
    rw [b_bs _ (by omega) hi]
    by_cases hd : i < nD W
    · cases hm : m.testBit i
      · rfl
      · rw [decide_eq_true hd, e i hd hm]; simp
    · rw [decide_eq_false hd]; simp
theorem deg_op (hW : WF W) {b : Nat} : ∀ (k i x : Nat), opB W x = true → opB W (fo (deg W L b) i k x) = true
  | 0, _, _, h => h
  | k + 1, i, x, h => by
    rw [fo_one]
    refine deg_op hW k (i + 1) _ ?_
    unfold deg
    split
    · rename_i c; exact c.1
    · exact h
theorem deg_lt {b : Nat} : ∀ (k i x n : Nat), i + k ≤ n → x < n → fo (deg W L b) i k x < n
  | 0, _, _, _, _, h => h
  | k + 1, i, x, n, hn, h => by
    rw [fo_one]
    refine deg_lt k (i + 1) _ n (by omega) ?_
    unfold deg
    split <;> omega
theorem op_0 (W : WW) : opB W 0 = true := by
  unfold opB
  rw [decide_eq_true_iff]
  exact Int32.zero_and
theorem smS_open (hW : WF W) {f g : Nat → Int32} {m : Nat} (ho : opB W m = true) (hfg : ∀ i, i < nD W → de W i 4 = -1 → f i = g i) : smS f (nD W) m = smS g (nD W) m := fo_cong (nD W) 0 0 fun i s h1 h2 => by
  by_cases c : m.testBit i = true
  · rw [if_pos c, if_pos c, hfg i (by omega) ((op_bits hW).mp ho i (by omega) c)]
  · rw [if_neg c, if_neg c]
theorem smS_8 {f : Nat → Int32} {m n : Nat} (hn : n ≤ 8) (hm : m < 2 ^ n) : smS f 8 m = smS f n m := by
  unfold smS
  rw [show (8 : Nat) = n + (8 - n) by omega, fo_add]
  refine fo_id _ _ _ fun j s h1 h2 => ?_
  rw [if_neg]
  have : m < 2 ^ j := Nat.lt_of_lt_of_le hm (Nat.pow_le_pow_right (by omega) (by omega))
  rw [Nat.testBit_lt_two_pow this]
  decide
/-- a row of the market's -/
def mkR (σ : SH) (a : Nat) (f : Nat → Int32) (n : Nat) : Prop := ∀ i, i < n → sI σ a i = f i
theorem m_62 (h : QQ σ W L) {f : Nat → Int32} (hf : mkR σ 293 f (nD W)) {m : Nat} : rn 62 [.ref 292, .int (nI m)] σ = some (.inl (some (.int (smS f (nD W) m))), σ) := by
  have h8 := (WF_nD h.w).2
  rw [r_62]
  refine lp0 (F := fun i s => exec PP 2 62 4 [some (.ref 292), some (.int (nI m)), some (.int s), some (.int (nI i))] [] σ) (g := fun i s => if m.testBit i = true then s + f i else s) (K := fun s => some (.inl (some (.int s)), σ)) (n := nD W) ?_ ?_ (nD W) 0 0 (by omega)
  · intro i s hi
    try dsimp only
    rw [e_62_4, mk0 h.x, c6 h, if_pos (nI_lt hi (by omega)), m_128 _ (by omega), onI_i, iB, bt_nI _ (by omega)]
    cases c : m.testBit i
    · rw [if_pos rfl, e_62_32, if_neg (by decide), nI_1]
    · rw [if_neg (by decide), mk2 h.x, aI_r h.x.2.2.2.2.2.2.1.1 (by rw [h.x.2.2.2.2.2.2.1.2.2.2.2.2.2.1]; omega) (by rw [h.x.2.2.2.2.2.2.1.2.2.2.2.2.2.1]; decide), hf i hi, if_pos rfl, nI_1]
  · intro s
    try dsimp only
    rw [e_62_4, mk0 h.x, c6 h, if_neg (nI_nlt (Nat.le_refl _) (by omega)), e_62_38]
theorem m_63 (h : QQ σ W L) {f : Nat → Int32} (hf : mkR σ 294 f (nD W)) {m : Nat} : rn 63 [.ref 292, .int (nI m)] σ = some (.inl (some (.int (smS f (nD W) m))), σ) := by
  have h8 := (WF_nD h.w).2
  rw [r_63]
  refine lp0 (F := fun i s => exec PP 2 63 4 [some (.ref 292), some (.int (nI m)), some (.int s), some (.int (nI i))] [] σ) (g := fun i s => if m.testBit i = true then s + f i else s) (K := fun s => some (.inl (some (.int s)), σ)) (n := nD W) ?_ ?_ (nD W) 0 0 (by omega)
  · intro i s hi
    try dsimp only
    rw [e_63_4, mk0 h.x, c6 h, if_pos (nI_lt hi (by omega)), m_128 _ (by omega), onI_i, iB, bt_nI _ (by omega)]
    cases c : m.testBit i
    · rw [if_pos rfl, e_63_32, if_neg (by decide), nI_1]
    · rw [if_neg (by decide), mk3 h.x, aI_r h.x.2.2.2.2.2.2.1.2.1 (by rw [h.x.2.2.2.2.2.2.1.2.2.2.2.2.2.2.1]; omega) (by rw [h.x.2.2.2.2.2.2.1.2.2.2.2.2.2.2.1]; decide), hf i hi, if_pos rfl, nI_1]
  · intro s
    try dsimp only
    rw [e_63_4, mk0 h.x, c6 h, if_neg (nI_nlt (Nat.le_refl _) (by omega)), e_63_38]
theorem m_291 {f : Nat → Int32} {a m : Nat} (hT : sT σ a = 1) (hN : sN σ a = 8) (hf : ∀ i, i < 8 → m.testBit i = true → sI σ a i = f i) : rn 291 [.ref a, .int (nI m)] σ = some (.inl (some (.int (smS f 8 m))), σ) := by
  rw [r_291]
  refine lp0 (F := fun i s => exec PP 2 291 4 [some (.ref a), some (.int (nI m)), some (.int s), some (.int (nI i))] [] σ) (g := fun i s => if m.testBit i = true then s + f i else s) (K := fun s => some (.inl (some (.int s)), σ)) (n := 8) ?_ ?_ 8 0 0 (by omega)
  · intro i s hi
    try dsimp only
    rw [e_291_4, if_pos (nI_ltl hi (by decide)), m_292 _ (by omega), onI_i, iB, bt_nI _ (by omega)]
    cases c : m.testBit i
    · rw [if_pos rfl, e_291_25, if_neg (by decide), nI_1, Int32.add_zero]
    · rw [if_neg (by decide), aI_r hT (by rw [hN]; exact hi) (by rw [hN]; decide), hf i hi c, e_291_26, if_pos rfl, nI_1]
  · intro s
    try dsimp only
    rw [e_291_4, if_neg (nI_nltl (Nat.le_refl 8) (by decide)), e_291_34]
end QE
