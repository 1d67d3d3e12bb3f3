section MI
variable {p : Program} {l : Launch} {e : Env} {R : Room} {s : State} {m : MethodId} {args : Array Value} {below : List Frame} {meth : Method} {c : Code} {D : SD} {mi d z0 y0 nn : Nat} {res : Option Value ⊕ Nat} {σf : SH}
variable {E : Nat → SL → List Value → SH → SR} {pc pos : Nat} {nx : Option Nat} {L : SL} {st : List Value} {σ : SH} {k : SL → List Value → SH → SR}
def isCl (i : Instr) : Bool := match i with
  | .invokevirtual _ => true
  | .invokestatic _ => true
  | _ => false
set_option maxHeartbeats 2000000 in
/-- one row -/
theorem mi_row (i : Instr) (hW : Wld l D) (hF : Frm p R s m meth c D mi d) (hn : Sd D l nn) (hk : ∀ q, nx = some q → ∀ L st σ2, k L st σ2 = some (res, σf) → Go p l e R s m args below meth c D mi z0 y0 res σf q L st σ2) (hE : ∀ t, t < 100000 → ∀ L st σ2, E t L st σ2 = some (res, σf) → Go p l e R s m args below meth c D mi z0 y0 res σf t L st σ2)
    (hT : isCl i = true → Thr p l e R s m args below meth c D mi z0 y0 res σf (hndOf mi) pc) (hpc : pc < 100000) (hG : ∀ L st σ2, k L st σ2 = some (res, σf) → sZ σ2 ≤ sZ σf ∧ sS σ2 ≤ sS σf) (hRm : sZ σf ≤ z0 + R.cells ∧ sS σf ≤ y0 + R.slots) (hok : okI mi pc nx pos i = true) (h : step1 (CN nn d) (hndOf mi) E pc i L st σ k = some (res, σf)) : Go p l e R s m args below meth c D mi z0 y0 res σf pc L st σ := by
  cases i with
  | iadd => exact sa_iadd hW hF hk hE hok h
  | isub => exact sa_isub hW hF hk hE hok h
  | imul => exact sa_imul hW hF hk hE hok h
  | iand => exact sa_iand hW hF hk hE hok h
  | ior => exact sa_ior hW hF hk hE hok h
  | ixor => exact sa_ixor hW hF hk hE hok h
  | ishl => exact sa_ishl hW hF hk hE hok h
  | ishr => exact sa_ishr hW hF hk hE hok h
  | lmul => exact sa_lmul hW hF hk hE hok h
  | lsub => exact sa_lsub hW hF hk hE hok h
  | iushr => exact sa_iushr hW hF hk hE hok h
  | lcmp => exact sa_lcmp hW hF hk hE hok h
  | idiv => exact sa_idiv hW hF hk hE hok h
  | irem => exact sa_irem hW hF hk hE hok h
  | ldiv => exact sa_ldiv hW hF hk hE hok h
  | ineg => exact sa_ineg hW hF hk hE hok h
  | i2l => exact sa_i2l hW hF hk hE hok h
  | l2i => exact sa_l2i hW hF hk hE hok h
  | i2b => exact sa_i2b hW hF hk hE hok h
  | i2c => exact sa_i2c hW hF hk hE hok h
  | pop => exact sa_pop hW hF hk hE hok h
  | dup => exact sa_dup hW hF hk hE hok h
  | dup2 => exact sa_dup2 hW hF hk hE hok h
  | aconst_null => exact sa_aconst_null hW hF hk hE hok h
  | lconst n => exact sa_lconst hW hF hk hE hok h
  | iconst n => exact sa_iconst hW hF hk hE hok h
  | ldc2_w n => exact sa_ldc2_w hW hF hk hE hok h
  | iload n => exact sa_iload hW hF hk hE hok h
  | lload n => exact sa_lload hW hF hk hE hok h
  | aload n => exact sa_aload hW hF hk hE hok h
  | istore n => exact sa_istore hW hF hk hE hok h
  | astore n => exact sa_astore hW hF hk hE hok h
  | lstore n => exact sa_lstore hW hF hk hE hok h
  | goto n => exact sa_goto hW hF hk hE hok h
  | jsr n => exact sa_jsr hW hF hk hE hok h
  | ret n => exact sa_ret hW hF hk hE hok h
  | ifnull n => exact sa_ifnull hW hF hk hE hok h
  | ifnonnull n => exact sa_ifnonnull hW hF hk hE hok h
  | iinc n j => exact sa_iinc hW hF hk hE hok h
  | if_icmp n j => exact sa_if_icmp hW hF hk hE hok h
  | ifCond n j => exact sa_ifCond hW hF hk hE hok h
  | if_acmp n j => exact sa_if_acmp hW hF hk hE hok h
  | goto_w n => exact sa_goto_w hW hF hk hE hpc hok h
  | arraylength => exact sb_arraylength hW hF hk hok h
  | iaload => exact sb_iaload hW hF hk hok h
  | caload => exact sb_caload hW hF hk hok h
  | baload => exact sb_baload hW hF hk hok h
  | saload => exact sb_saload hW hF hk hok h
  | laload => exact sb_laload hW hF hk hok h
  | aaload => exact sb_aaload hW hF hk hok h
  | daload => exact sb_daload hW hF hk hok h
  | iastore => exact sb_iastore hW hF hk hok h
  | bastore => exact sb_bastore hW hF hk hok h
  | lastore => exact sb_lastore hW hF hk hok h
  | aastore => exact sb_aastore hW hF hk hok h
  | getfield n => exact sb_getfield hW hF hk hok h
  | putfield n => exact se_putfield hW hF hk hok h
  | ldc n => exact se_ldc hW hF hk hok h
  | getstatic n => exact se_getstatic hW hF hk hok h
  | ireturn => exact se_ireturn hF hok h
  | freturn => exact se_freturn hF hok h
  | dreturn => exact se_dreturn hF hok h
  | lreturn => exact se_lreturn hF hok h
  | areturn => exact se_areturn hW hF hok h
  | return_ => exact se_return hF hok h
  | tableswitch a b f g => exact sf_tableswitch hW hF hE hok h
  | monitorexit => exact sf_monitorexit hW hF hk hok h
  | monitorenter => exact th_copy hW hF hk hok h
  | new n =>
    by_cases hn : n < 100
    · exact sf_new hW hF hk hG hRm hn hok h
    · exact th_new hW hF hRm hn hok h
  | newarray n => exact sg_newarray hW hF hk hG hRm hok h
  | anewarray n => exact sg_anewarray hW hF hk hG hRm hok h
  | invokevirtual n => exact cc_virtual hW hF pzA_371 hn hk (hT rfl) hG hRm hok h
  | invokestatic n =>
    by_cases h6 : n / 10000 = 326
    · exact cm_static (Or.inl h6) hW hF hk hG hRm hok h
    · by_cases h7 : n / 10000 = 327
      · exact cm_static (Or.inr (Or.inl h7)) hW hF hk hG hRm hok h
      · by_cases h8 : n / 10000 = 328
        · exact cm_static (Or.inr (Or.inr h8)) hW hF hk hG hRm hok h
        · exact cd_static hW hF pzA_371 h6 h7 h8 hn hk (hT rfl) hG hRm hok h
  | invokedynamic n => exact cd_nest hW hF pzA_371 hn hk hG hRm hok h
  | invokespecial n => exact cd_special hW hF pzA_371 hn hk hG hRm hok h
  | _ =>
    exfalso
    have h2 : (none : SR) = some (res, σf) := h
    cases h2
end MI
