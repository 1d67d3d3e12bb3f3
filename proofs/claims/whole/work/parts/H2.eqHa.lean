/-! 371: the law's own blocks; its rows by chunks of fifty (54) -/
theorem seek_app {pc : Nat} {b : List (Nat × Instr)} : ∀ {a : List (Nat × Instr)}, (a.all fun r => !(r.1 == pc)) = true → seek pc (a ++ b) = seek pc b
  | [], _ => rfl
  | r :: a, h => by
    rw [List.all_cons, Bool.and_eq_true] at h
    have h1 : ¬ r.1 = pc := by simpa using h.1
    rw [show seek pc (r :: a ++ b) = if r.1 = pc then r :: (a ++ b) else seek pc (a ++ b) from rfl, if_neg h1]
    exact seek_app h.2
set_option maxRecDepth 20000 in
theorem pp371 : PP.1 371 = cd_371 := rfl
set_option maxRecDepth 20000 in
theorem cs371 : cd_371 = cs_0 := rfl
theorem sk_0 (pc : Nat) : seek pc (PP.1 371) = seek pc cs_0 := congrArg (seek pc) (pp371.trans cs371)
theorem sk371_0 : seek 0 (PP.1 371) = seek 0 cs_0 := sk_0 0
set_option maxRecDepth 20000 in
theorem r_371 (a0 : Nat) (σ : SH) : rn 371 [.ref a0] σ =
  if ((sZ σ) : Nat) = 39 then none else (onV (rn 106 [.ref (sZ σ)] (mkC σ 111 0 12)) (fun σ21 =>
  if ((sZ σ21) : Nat) = 39 then none else (onV (rn 178 [.ref (sZ σ21)] (mkC σ21 112 0 24)) (fun σ23 =>
    nwA σ23 3 1 fun a25 σ26 =>
      exec PP 65 371 23 [some (.ref a0), some (.ref (sZ σ)), some (.ref (sZ σ21)), some (.ref a25), some (.int 0), none, none] [] σ26) (fun _ _ => none))) (fun _ _ => none)) := (exec_eq PP 65 371 0 _ _ σ).trans ((congrArg (fun r => runL (callE PP 65) (PP.2.2.1 371) (exec PP 65 371) r _ _ σ) sk371_0).trans rfl)
theorem sk371_23 : seek 23 (PP.1 371) = seek 23 cs_0 := sk_0 23
set_option maxRecDepth 20000 in
theorem e_371_23 (a0 : Nat) (a1 : Nat) (a2 : Nat) (a3 : Nat) (x4 : Int32) (o5 : Option Value) (o6 : Option Value) (σ : SH) : exec PP 65 371 23 [some (.ref a0), some (.ref a1), some (.ref a2), some (.ref a3), some (.int x4), o5, o6] [] σ =
  aN σ (.ref a0) fun x21 =>
  if ((x21 - 6) < x4 : Prop) then (exec PP 65 371 3382 [some (.ref a0), some (.ref a1), some (.ref a2), some (.ref a3), some (.int x4), none, none] [] σ)
  else (aI σ 4 (.ref a0) x4 fun x22 =>
    if (x22 &&& 63) = 0 then (exec PP 65 371 268 [some (.ref a0), some (.ref a1), some (.ref a2), some (.ref a3), some (.int x4), none, none] [] σ)
    else if (x22 &&& 63) = 1 then (exec PP 65 371 341 [some (.ref a0), some (.ref a1), some (.ref a2), some (.ref a3), some (.int x4), none, none] [] σ)
    else if (x22 &&& 63) = 2 then (exec PP 65 371 366 [some (.ref a0), some (.ref a1), some (.ref a2), some (.ref a3), some (.int x4), none, none] [] σ)
    else if (x22 &&& 63) = 3 then (exec PP 65 371 410 [some (.ref a0), some (.ref a1), some (.ref a2), some (.ref a3), some (.int x4), none, none] [] σ)
    else if (x22 &&& 63) = 4 then (exec PP 65 371 454 [some (.ref a0), some (.ref a1), some (.ref a2), some (.ref a3), some (.int x4), none, none] [] σ)
    else if (x22 &&& 63) = 5 then (exec PP 65 371 467 [some (.ref a0), some (.ref a1), some (.ref a2), some (.ref a3), some (.int x4), none, none] [] σ)
    else if (x22 &&& 63) = 6 then (exec PP 65 371 535 [some (.ref a0), some (.ref a1), some (.ref a2), some (.ref a3), some (.int x4), none, none] [] σ)
    else if (x22 &&& 63) = 7 then (exec PP 65 371 603 [some (.ref a0), some (.ref a1), some (.ref a2), some (.ref a3), some (.int x4), none, none] [] σ)
    else if (x22 &&& 63) = 8 then (exec PP 65 371 671 [some (.ref a0), some (.ref a1), some (.ref a2), some (.ref a3), some (.int x4), none, none] [] σ)
    else if (x22 &&& 63) = 9 then (exec PP 65 371 739 [some (.ref a0), some (.ref a1), some (.ref a2), some (.ref a3), some (.int x4), none, none] [] σ)
    else if (x22 &&& 63) = 10 then (exec PP 65 371 819 [some (.ref a0), some (.ref a1), some (.ref a2), some (.ref a3), some (.int x4), none, none] [] σ)
    else if (x22 &&& 63) = 11 then (exec PP 65 371 887 [some (.ref a0), some (.ref a1), some (.ref a2), some (.ref a3), some (.int x4), none, none] [] σ)
    else if (x22 &&& 63) = 12 then (exec PP 65 371 955 [some (.ref a0), some (.ref a1), some (.ref a2), some (.ref a3), some (.int x4), none, none] [] σ)
    else if (x22 &&& 63) = 13 then (exec PP 65 371 1023 [some (.ref a0), some (.ref a1), some (.ref a2), some (.ref a3), some (.int x4), none, none] [] σ)
    else if (x22 &&& 63) = 14 then (exec PP 65 371 1091 [some (.ref a0), some (.ref a1), some (.ref a2), some (.ref a3), some (.int x4), none, none] [] σ)
    else if (x22 &&& 63) = 15 then (exec PP 65 371 1147 [some (.ref a0), some (.ref a1), some (.ref a2), some (.ref a3), some (.int x4), none, none] [] σ)
    else if (x22 &&& 63) = 16 then (exec PP 65 371 1203 [some (.ref a0), some (.ref a1), some (.ref a2), some (.ref a3), some (.int x4), none, none] [] σ)
    else if (x22 &&& 63) = 17 then (exec PP 65 371 1259 [some (.ref a0), some (.ref a1), some (.ref a2), some (.ref a3), some (.int x4), none, none] [] σ)
    else if (x22 &&& 63) = 18 then (exec PP 65 371 1315 [some (.ref a0), some (.ref a1), some (.ref a2), some (.ref a3), some (.int x4), none, none] [] σ)
    else if (x22 &&& 63) = 19 then (exec PP 65 371 1371 [some (.ref a0), some (.ref a1), some (.ref a2), some (.ref a3), some (.int x4), none, none] [] σ)
    else if (x22 &&& 63) = 20 then (exec PP 65 371 1439 [some (.ref a0), some (.ref a1), some (.ref a2), some (.ref a3), some (.int x4), none, none] [] σ)
    else if (x22 &&& 63) = 21 then (exec PP 65 371 1514 [some (.ref a0), some (.ref a1), some (.ref a2), some (.ref a3), some (.int x4), none, none] [] σ)
    else if (x22 &&& 63) = 22 then (exec PP 65 371 1582 [some (.ref a0), some (.ref a1), some (.ref a2), some (.ref a3), some (.int x4), none, none] [] σ)
    else if (x22 &&& 63) = 23 then (exec PP 65 371 1650 [some (.ref a0), some (.ref a1), some (.ref a2), some (.ref a3), some (.int x4), none, none] [] σ)
    else if (x22 &&& 63) = 24 then (exec PP 65 371 1730 [some (.ref a0), some (.ref a1), some (.ref a2), some (.ref a3), some (.int x4), none, none] [] σ)
    else if (x22 &&& 63) = 25 then (exec PP 65 371 1798 [some (.ref a0), some (.ref a1), some (.ref a2), some (.ref a3), some (.int x4), none, none] [] σ)
    else if (x22 &&& 63) = 26 then (exec PP 65 371 1866 [some (.ref a0), some (.ref a1), some (.ref a2), some (.ref a3), some (.int x4), none, none] [] σ)
    else if (x22 &&& 63) = 27 then (exec PP 65 371 1946 [some (.ref a0), some (.ref a1), some (.ref a2), some (.ref a3), some (.int x4), none, none] [] σ)
    else if (x22 &&& 63) = 28 then (exec PP 65 371 2014 [some (.ref a0), some (.ref a1), some (.ref a2), some (.ref a3), some (.int x4), none, none] [] σ)
    else if (x22 &&& 63) = 29 then (exec PP 65 371 2070 [some (.ref a0), some (.ref a1), some (.ref a2), some (.ref a3), some (.int x4), none, none] [] σ)
    else if (x22 &&& 63) = 30 then (exec PP 65 371 2138 [some (.ref a0), some (.ref a1), some (.ref a2), some (.ref a3), some (.int x4), none, none] [] σ)
    else if (x22 &&& 63) = 31 then (exec PP 65 371 2222 [some (.ref a0), some (.ref a1), some (.ref a2), some (.ref a3), some (.int x4), none, none] [] σ)
    else if (x22 &&& 63) = 32 then (exec PP 65 371 2290 [some (.ref a0), some (.ref a1), some (.ref a2), some (.ref a3), some (.int x4), none, none] [] σ)
    else if (x22 &&& 63) = 33 then (exec PP 65 371 2346 [some (.ref a0), some (.ref a1), some (.ref a2), some (.ref a3), some (.int x4), none, none] [] σ)
    else if (x22 &&& 63) = 34 then (exec PP 65 371 2402 [some (.ref a0), some (.ref a1), some (.ref a2), some (.ref a3), some (.int x4), none, none] [] σ)
    else if (x22 &&& 63) = 35 then (exec PP 65 371 2486 [some (.ref a0), some (.ref a1), some (.ref a2), some (.ref a3), some (.int x4), none, none] [] σ)
    else if (x22 &&& 63) = 36 then (exec PP 65 371 2542 [some (.ref a0), some (.ref a1), some (.ref a2), some (.ref a3), some (.int x4), none, none] [] σ)
    else if (x22 &&& 63) = 37 then (exec PP 65 371 2598 [some (.ref a0), some (.ref a1), some (.ref a2), some (.ref a3), some (.int x4), none, none] [] σ)
    else if (x22 &&& 63) = 38 then (exec PP 65 371 2690 [some (.ref a0), some (.ref a1), some (.ref a2), some (.ref a3), some (.int x4), none, none] [] σ)
    else if (x22 &&& 63) = 39 then (exec PP 65 371 2782 [some (.ref a0), some (.ref a1), some (.ref a2), some (.ref a3), some (.int x4), none, none] [] σ)
    else if (x22 &&& 63) = 40 then (exec PP 65 371 2862 [some (.ref a0), some (.ref a1), some (.ref a2), some (.ref a3), some (.int x4), none, none] [] σ)
    else if (x22 &&& 63) = 41 then (exec PP 65 371 2875 [some (.ref a0), some (.ref a1), some (.ref a2), some (.ref a3), some (.int x4), none, none] [] σ)
    else if (x22 &&& 63) = 42 then (exec PP 65 371 2888 [some (.ref a0), some (.ref a1), some (.ref a2), some (.ref a3), some (.int x4), none, none] [] σ)
    else if (x22 &&& 63) = 43 then (exec PP 65 371 2901 [some (.ref a0), some (.ref a1), some (.ref a2), some (.ref a3), some (.int x4), none, none] [] σ)
    else if (x22 &&& 63) = 44 then (exec PP 65 371 2969 [some (.ref a0), some (.ref a1), some (.ref a2), some (.ref a3), some (.int x4), none, none] [] σ)
    else if (x22 &&& 63) = 45 then (exec PP 65 371 3053 [some (.ref a0), some (.ref a1), some (.ref a2), some (.ref a3), some (.int x4), none, none] [] σ)
    else if (x22 &&& 63) = 46 then (exec PP 65 371 3137 [some (.ref a0), some (.ref a1), some (.ref a2), some (.ref a3), some (.int x4), none, none] [] σ)
    else if (x22 &&& 63) = 47 then (exec PP 65 371 3221 [some (.ref a0), some (.ref a1), some (.ref a2), some (.ref a3), some (.int x4), none, none] [] σ)
    else if (x22 &&& 63) = 48 then (exec PP 65 371 3289 [some (.ref a0), some (.ref a1), some (.ref a2), some (.ref a3), some (.int x4), none, none] [] σ)
    else if (x22 &&& 63) = 49 then (exec PP 65 371 3314 [some (.ref a0), some (.ref a1), some (.ref a2), some (.ref a3), some (.int x4), none, none] [] σ)
    else if (x22 &&& 63) = 50 then (exec PP 65 371 3327 [some (.ref a0), some (.ref a1), some (.ref a2), some (.ref a3), some (.int x4), none, none] [] σ)
    else if (x22 &&& 63) = 51 then (exec PP 65 371 3338 [some (.ref a0), some (.ref a1), some (.ref a2), some (.ref a3), some (.int x4), none, none] [] σ)
    else if (x22 &&& 63) = 52 then (exec PP 65 371 3351 [some (.ref a0), some (.ref a1), some (.ref a2), some (.ref a3), some (.int x4), none, none] [] σ)
    else (exec PP 65 371 3376 [some (.ref a0), some (.ref a1), some (.ref a2), some (.ref a3), some (.int x4), none, none] [] σ)) := (exec_eq PP 65 371 23 _ _ σ).trans ((congrArg (fun r => runL (callE PP 65) (PP.2.2.1 371) (exec PP 65 371) r _ _ σ) sk371_23).trans rfl)
theorem sk371_3382 : seek 3382 (PP.1 371) = seek 3382 cs_43 := (((((((((((((((((((((((((((((((((((((((((((sk_0 3382).trans (show seek 3382 cs_0 = seek 3382 cs_1 from seek_app (a := cd_371_0) (by decide +kernel))).trans (show seek 3382 cs_1 = seek 3382 cs_2 from seek_app (a := cd_371_1) (by decide +kernel))).trans (show seek 3382 cs_2 = seek 3382 cs_3 from seek_app (a := cd_371_2) (by decide +kernel))).trans (show seek 3382 cs_3 = seek 3382 cs_4 from seek_app (a := cd_371_3) (by decide +kernel))).trans (show seek 3382 cs_4 = seek 3382 cs_5 from seek_app (a := cd_371_4) (by decide +kernel))).trans (show seek 3382 cs_5 = seek 3382 cs_6 from seek_app (a := cd_371_5) (by decide +kernel))).trans (show seek 3382 cs_6 = seek 3382 cs_7 from seek_app (a := cd_371_6) (by decide +kernel))).trans (show seek 3382 cs_7 = seek 3382 cs_8 from seek_app (a := cd_371_7) (by decide +kernel))).trans (show seek 3382 cs_8 = seek 3382 cs_9 from seek_app (a := cd_371_8) (by decide +kernel))).trans (show seek 3382 cs_9 = seek 3382 cs_10 from seek_app (a := cd_371_9) (by decide +kernel))).trans (show seek 3382 cs_10 = seek 3382 cs_11 from seek_app (a := cd_371_10) (by decide +kernel))).trans (show seek 3382 cs_11 = seek 3382 cs_12 from seek_app (a := cd_371_11) (by decide +kernel))).trans (show seek 3382 cs_12 = seek 3382 cs_13 from seek_app (a := cd_371_12) (by decide +kernel))).trans (show seek 3382 cs_13 = seek 3382 cs_14 from seek_app (a := cd_371_13) (by decide +kernel))).trans (show seek 3382 cs_14 = seek 3382 cs_15 from seek_app (a := cd_371_14) (by decide +kernel))).trans (show seek 3382 cs_15 = seek 3382 cs_16 from seek_app (a := cd_371_15) (by decide +kernel))).trans (show seek 3382 cs_16 = seek 3382 cs_17 from seek_app (a := cd_371_16) (by decide +kernel))).trans (show seek 3382 cs_17 = seek 3382 cs_18 from seek_app (a := cd_371_17) (by decide +kernel))).trans (show seek 3382 cs_18 = seek 3382 cs_19 from seek_app (a := cd_371_18) (by decide +kernel))).trans (show seek 3382 cs_19 = seek 3382 cs_20 from seek_app (a := cd_371_19) (by decide +kernel))).trans (show seek 3382 cs_20 = seek 3382 cs_21 from seek_app (a := cd_371_20) (by decide +kernel))).trans (show seek 3382 cs_21 = seek 3382 cs_22 from seek_app (a := cd_371_21) (by decide +kernel))).trans (show seek 3382 cs_22 = seek 3382 cs_23 from seek_app (a := cd_371_22) (by decide +kernel))).trans (show seek 3382 cs_23 = seek 3382 cs_24 from seek_app (a := cd_371_23) (by decide +kernel))).trans (show seek 3382 cs_24 = seek 3382 cs_25 from seek_app (a := cd_371_24) (by decide +kernel))).trans (show seek 3382 cs_25 = seek 3382 cs_26 from seek_app (a := cd_371_25) (by decide +kernel))).trans (show seek 3382 cs_26 = seek 3382 cs_27 from seek_app (a := cd_371_26) (by decide +kernel))).trans (show seek 3382 cs_27 = seek 3382 cs_28 from seek_app (a := cd_371_27) (by decide +kernel))).trans (show seek 3382 cs_28 = seek 3382 cs_29 from seek_app (a := cd_371_28) (by decide +kernel))).trans (show seek 3382 cs_29 = seek 3382 cs_30 from seek_app (a := cd_371_29) (by decide +kernel))).trans (show seek 3382 cs_30 = seek 3382 cs_31 from seek_app (a := cd_371_30) (by decide +kernel))).trans (show seek 3382 cs_31 = seek 3382 cs_32 from seek_app (a := cd_371_31) (by decide +kernel))).trans (show seek 3382 cs_32 = seek 3382 cs_33 from seek_app (a := cd_371_32) (by decide +kernel))).trans (show seek 3382 cs_33 = seek 3382 cs_34 from seek_app (a := cd_371_33) (by decide +kernel))).trans (show seek 3382 cs_34 = seek 3382 cs_35 from seek_app (a := cd_371_34) (by decide +kernel))).trans (show seek 3382 cs_35 = seek 3382 cs_36 from seek_app (a := cd_371_35) (by decide +kernel))).trans (show seek 3382 cs_36 = seek 3382 cs_37 from seek_app (a := cd_371_36) (by decide +kernel))).trans (show seek 3382 cs_37 = seek 3382 cs_38 from seek_app (a := cd_371_37) (by decide +kernel))).trans (show seek 3382 cs_38 = seek 3382 cs_39 from seek_app (a := cd_371_38) (by decide +kernel))).trans (show seek 3382 cs_39 = seek 3382 cs_40 from seek_app (a := cd_371_39) (by decide +kernel))).trans (show seek 3382 cs_40 = seek 3382 cs_41 from seek_app (a := cd_371_40) (by decide +kernel))).trans (show seek 3382 cs_41 = seek 3382 cs_42 from seek_app (a := cd_371_41) (by decide +kernel))).trans (show seek 3382 cs_42 = seek 3382 cs_43 from seek_app (a := cd_371_42) (by decide +kernel))
set_option maxRecDepth 20000 in
theorem e_371_3382 (o0 : Option Value) (o1 : Option Value) (o2 : Option Value) (o3 : Option Value) (o4 : Option Value) (o5 : Option Value) (o6 : Option Value) (σ : SH) : exec PP 65 371 3382 [o0, o1, o2, o3, o4, o5, o6] [] σ =
  some (.inl (some (.int 1)), σ) := (exec_eq PP 65 371 3382 _ _ σ).trans ((congrArg (fun r => runL (callE PP 65) (PP.2.2.1 371) (exec PP 65 371) r _ _ σ) sk371_3382).trans rfl)
theorem sk371_3376 : seek 3376 (PP.1 371) = seek 3376 cs_43 := (((((((((((((((((((((((((((((((((((((((((((sk_0 3376).trans (show seek 3376 cs_0 = seek 3376 cs_1 from seek_app (a := cd_371_0) (by decide +kernel))).trans (show seek 3376 cs_1 = seek 3376 cs_2 from seek_app (a := cd_371_1) (by decide +kernel))).trans (show seek 3376 cs_2 = seek 3376 cs_3 from seek_app (a := cd_371_2) (by decide +kernel))).trans (show seek 3376 cs_3 = seek 3376 cs_4 from seek_app (a := cd_371_3) (by decide +kernel))).trans (show seek 3376 cs_4 = seek 3376 cs_5 from seek_app (a := cd_371_4) (by decide +kernel))).trans (show seek 3376 cs_5 = seek 3376 cs_6 from seek_app (a := cd_371_5) (by decide +kernel))).trans (show seek 3376 cs_6 = seek 3376 cs_7 from seek_app (a := cd_371_6) (by decide +kernel))).trans (show seek 3376 cs_7 = seek 3376 cs_8 from seek_app (a := cd_371_7) (by decide +kernel))).trans (show seek 3376 cs_8 = seek 3376 cs_9 from seek_app (a := cd_371_8) (by decide +kernel))).trans (show seek 3376 cs_9 = seek 3376 cs_10 from seek_app (a := cd_371_9) (by decide +kernel))).trans (show seek 3376 cs_10 = seek 3376 cs_11 from seek_app (a := cd_371_10) (by decide +kernel))).trans (show seek 3376 cs_11 = seek 3376 cs_12 from seek_app (a := cd_371_11) (by decide +kernel))).trans (show seek 3376 cs_12 = seek 3376 cs_13 from seek_app (a := cd_371_12) (by decide +kernel))).trans (show seek 3376 cs_13 = seek 3376 cs_14 from seek_app (a := cd_371_13) (by decide +kernel))).trans (show seek 3376 cs_14 = seek 3376 cs_15 from seek_app (a := cd_371_14) (by decide +kernel))).trans (show seek 3376 cs_15 = seek 3376 cs_16 from seek_app (a := cd_371_15) (by decide +kernel))).trans (show seek 3376 cs_16 = seek 3376 cs_17 from seek_app (a := cd_371_16) (by decide +kernel))).trans (show seek 3376 cs_17 = seek 3376 cs_18 from seek_app (a := cd_371_17) (by decide +kernel))).trans (show seek 3376 cs_18 = seek 3376 cs_19 from seek_app (a := cd_371_18) (by decide +kernel))).trans (show seek 3376 cs_19 = seek 3376 cs_20 from seek_app (a := cd_371_19) (by decide +kernel))).trans (show seek 3376 cs_20 = seek 3376 cs_21 from seek_app (a := cd_371_20) (by decide +kernel))).trans (show seek 3376 cs_21 = seek 3376 cs_22 from seek_app (a := cd_371_21) (by decide +kernel))).trans (show seek 3376 cs_22 = seek 3376 cs_23 from seek_app (a := cd_371_22) (by decide +kernel))).trans (show seek 3376 cs_23 = seek 3376 cs_24 from seek_app (a := cd_371_23) (by decide +kernel))).trans (show seek 3376 cs_24 = seek 3376 cs_25 from seek_app (a := cd_371_24) (by decide +kernel))).trans (show seek 3376 cs_25 = seek 3376 cs_26 from seek_app (a := cd_371_25) (by decide +kernel))).trans (show seek 3376 cs_26 = seek 3376 cs_27 from seek_app (a := cd_371_26) (by decide +kernel))).trans (show seek 3376 cs_27 = seek 3376 cs_28 from seek_app (a := cd_371_27) (by decide +kernel))).trans (show seek 3376 cs_28 = seek 3376 cs_29 from seek_app (a := cd_371_28) (by decide +kernel))).trans (show seek 3376 cs_29 = seek 3376 cs_30 from seek_app (a := cd_371_29) (by decide +kernel))).trans (show seek 3376 cs_30 = seek 3376 cs_31 from seek_app (a := cd_371_30) (by decide +kernel))).trans (show seek 3376 cs_31 = seek 3376 cs_32 from seek_app (a := cd_371_31) (by decide +kernel))).trans (show seek 3376 cs_32 = seek 3376 cs_33 from seek_app (a := cd_371_32) (by decide +kernel))).trans (show seek 3376 cs_33 = seek 3376 cs_34 from seek_app (a := cd_371_33) (by decide +kernel))).trans (show seek 3376 cs_34 = seek 3376 cs_35 from seek_app (a := cd_371_34) (by decide +kernel))).trans (show seek 3376 cs_35 = seek 3376 cs_36 from seek_app (a := cd_371_35) (by decide +kernel))).trans (show seek 3376 cs_36 = seek 3376 cs_37 from seek_app (a := cd_371_36) (by decide +kernel))).trans (show seek 3376 cs_37 = seek 3376 cs_38 from seek_app (a := cd_371_37) (by decide +kernel))).trans (show seek 3376 cs_38 = seek 3376 cs_39 from seek_app (a := cd_371_38) (by decide +kernel))).trans (show seek 3376 cs_39 = seek 3376 cs_40 from seek_app (a := cd_371_39) (by decide +kernel))).trans (show seek 3376 cs_40 = seek 3376 cs_41 from seek_app (a := cd_371_40) (by decide +kernel))).trans (show seek 3376 cs_41 = seek 3376 cs_42 from seek_app (a := cd_371_41) (by decide +kernel))).trans (show seek 3376 cs_42 = seek 3376 cs_43 from seek_app (a := cd_371_42) (by decide +kernel))
set_option maxRecDepth 20000 in
theorem e_371_3376 (a0 : Nat) (a1 : Nat) (a2 : Nat) (a3 : Nat) (x4 : Int32) (o5 : Option Value) (o6 : Option Value) (σ : SH) : exec PP 65 371 3376 [some (.ref a0), some (.ref a1), some (.ref a2), some (.ref a3), some (.int x4), o5, o6] [] σ =
  exec PP 65 371 23 [some (.ref a0), some (.ref a1), some (.ref a2), some (.ref a3), some (.int (x4 + 6)), none, none] [] σ := (exec_eq PP 65 371 3376 _ _ σ).trans ((congrArg (fun r => runL (callE PP 65) (PP.2.2.1 371) (exec PP 65 371) r _ _ σ) sk371_3376).trans rfl)
theorem sk371_268 : seek 268 (PP.1 371) = seek 268 cs_0 := sk_0 268
set_option maxRecDepth 20000 in
theorem e_371_268 (a0 : Nat) (a1 : Nat) (a2 : Nat) (a3 : Nat) (x4 : Int32) (o5 : Option Value) (o6 : Option Value) (σ : SH) : exec PP 65 371 268 [some (.ref a0), some (.ref a1), some (.ref a2), some (.ref a3), some (.int x4), o5, o6] [] σ =
  aI σ 4 (.ref a0) (x4 + 1) fun x21 =>
  aI σ 4 (.ref a0) (x4 + 2) fun x22 =>
  aI σ 4 (.ref a0) (x4 + 3) fun x23 =>
  aI σ 4 (.ref a0) (x4 + 4) fun x24 =>
  aI σ 4 (.ref a0) (x4 + 5) fun x25 =>
  if sT σ a1 = 111 then (onI (rn 107 [.ref a1, .int x21, .int x22, .int x23, .int x24, .int x25] σ) (fun x28 σ26 =>
  aI σ26 4 (.ref a0) (x4 + 1) fun x29 =>
    aI σ26 4 (.ref a0) (x4 + 2) fun x30 =>
    aI σ26 4 (.ref a0) (x4 + 3) fun x31 =>
    aI σ26 4 (.ref a0) (x4 + 4) fun x32 =>
    aI σ26 4 (.ref a0) (x4 + 5) fun x33 =>
    if sT σ26 a2 = 112 then (onI (rn 182 [.ref a2, .int x29, .int x30, .int x31, .int x32, .int x33] σ26) (fun x36 σ34 =>
    if (x28 = x36 : Prop) then (exec PP 65 371 3376 [some (.ref a0), some (.ref a1), some (.ref a2), some (.ref a3), some (.int x4), none, none] [] σ34)
      else (some (.inl (some (.int 0)), σ34))) (fun _ _ => none)) else none) (fun _ _ => none)) else none := (exec_eq PP 65 371 268 _ _ σ).trans ((congrArg (fun r => runL (callE PP 65) (PP.2.2.1 371) (exec PP 65 371) r _ _ σ) sk371_268).trans rfl)
theorem sk371_341 : seek 341 (PP.1 371) = seek 341 cs_1 := (sk_0 341).trans (show seek 341 cs_0 = seek 341 cs_1 from seek_app (a := cd_371_0) (by decide +kernel))
set_option maxRecDepth 20000 in
theorem e_371_341 (a0 : Nat) (a1 : Nat) (a2 : Nat) (a3 : Nat) (x4 : Int32) (o5 : Option Value) (o6 : Option Value) (σ : SH) : exec PP 65 371 341 [some (.ref a0), some (.ref a1), some (.ref a2), some (.ref a3), some (.int x4), o5, o6] [] σ =
  aI σ 4 (.ref a0) (x4 + 1) fun x21 =>
  if sT σ a1 = 111 then (onI (rn 108 [.ref a1, .int x21] σ) (fun x24 σ22 =>
  aI σ22 4 (.ref a0) (x4 + 1) fun x25 =>
    if sT σ22 a2 = 112 then (onI (rn 183 [.ref a2, .int x25] σ22) (fun x28 σ26 =>
    if (x24 = x28 : Prop) then (exec PP 65 371 3376 [some (.ref a0), some (.ref a1), some (.ref a2), some (.ref a3), some (.int x4), none, none] [] σ26)
      else (some (.inl (some (.int 0)), σ26))) (fun _ _ => none)) else none) (fun _ _ => none)) else none := (exec_eq PP 65 371 341 _ _ σ).trans ((congrArg (fun r => runL (callE PP 65) (PP.2.2.1 371) (exec PP 65 371) r _ _ σ) sk371_341).trans rfl)
theorem sk371_366 : seek 366 (PP.1 371) = seek 366 cs_2 := ((sk_0 366).trans (show seek 366 cs_0 = seek 366 cs_1 from seek_app (a := cd_371_0) (by decide +kernel))).trans (show seek 366 cs_1 = seek 366 cs_2 from seek_app (a := cd_371_1) (by decide +kernel))
set_option maxRecDepth 20000 in
theorem e_371_366 (a0 : Nat) (a1 : Nat) (a2 : Nat) (a3 : Nat) (x4 : Int32) (o5 : Option Value) (o6 : Option Value) (σ : SH) : exec PP 65 371 366 [some (.ref a0), some (.ref a1), some (.ref a2), some (.ref a3), some (.int x4), o5, o6] [] σ =
  onI (rn 329 [.ref a1, .ref a3] σ) (fun x23 σ21 =>
  if sT σ21 a2 = 112 then (onI (rn 185 [.ref a2] σ21) (fun x26 σ24 =>
    if sT σ24 a2 = 112 then (onI (rn 177 [.ref a2] σ24) (fun x29 σ27 =>
      if (x29 = x23 : Prop) then (exec PP 65 371 390 [some (.ref a0), some (.ref a1), some (.ref a2), some (.ref a3), some (.int x4), some (.int x23), some (.int x26)] [] σ27)
        else (some (.inl (some (.int 0)), σ27))) (fun _ _ => none)) else none) (fun _ _ => none)) else none) (fun _ _ => none) := (exec_eq PP 65 371 366 _ _ σ).trans ((congrArg (fun r => runL (callE PP 65) (PP.2.2.1 371) (exec PP 65 371) r _ _ σ) sk371_366).trans rfl)
theorem sk371_410 : seek 410 (PP.1 371) = seek 410 cs_2 := ((sk_0 410).trans (show seek 410 cs_0 = seek 410 cs_1 from seek_app (a := cd_371_0) (by decide +kernel))).trans (show seek 410 cs_1 = seek 410 cs_2 from seek_app (a := cd_371_1) (by decide +kernel))
set_option maxRecDepth 20000 in
theorem e_371_410 (a0 : Nat) (a1 : Nat) (a2 : Nat) (a3 : Nat) (x4 : Int32) (o5 : Option Value) (o6 : Option Value) (σ : SH) : exec PP 65 371 410 [some (.ref a0), some (.ref a1), some (.ref a2), some (.ref a3), some (.int x4), o5, o6] [] σ =
  onI (rn 330 [.ref a1, .ref a3] σ) (fun x23 σ21 =>
  if sT σ21 a2 = 112 then (onI (rn 217 [.ref a2] σ21) (fun x26 σ24 =>
    if sT σ24 a2 = 112 then (onI (rn 177 [.ref a2] σ24) (fun x29 σ27 =>
      if (x29 = x23 : Prop) then (exec PP 65 371 434 [some (.ref a0), some (.ref a1), some (.ref a2), some (.ref a3), some (.int x4), some (.int x23), some (.int x26)] [] σ27)
        else (some (.inl (some (.int 0)), σ27))) (fun _ _ => none)) else none) (fun _ _ => none)) else none) (fun _ _ => none) := (exec_eq PP 65 371 410 _ _ σ).trans ((congrArg (fun r => runL (callE PP 65) (PP.2.2.1 371) (exec PP 65 371) r _ _ σ) sk371_410).trans rfl)
theorem sk371_454 : seek 454 (PP.1 371) = seek 454 cs_3 := (((sk_0 454).trans (show seek 454 cs_0 = seek 454 cs_1 from seek_app (a := cd_371_0) (by decide +kernel))).trans (show seek 454 cs_1 = seek 454 cs_2 from seek_app (a := cd_371_1) (by decide +kernel))).trans (show seek 454 cs_2 = seek 454 cs_3 from seek_app (a := cd_371_2) (by decide +kernel))
set_option maxRecDepth 20000 in
theorem e_371_454 (a0 : Nat) (a1 : Nat) (a2 : Nat) (a3 : Nat) (x4 : Int32) (o5 : Option Value) (o6 : Option Value) (σ : SH) : exec PP 65 371 454 [some (.ref a0), some (.ref a1), some (.ref a2), some (.ref a3), some (.int x4), o5, o6] [] σ =
  if sT σ a1 = 111 then (onI (rn 109 [.ref a1] σ) (fun x23 σ21 =>
  if sT σ21 a2 = 112 then (onI (rn 184 [.ref a2] σ21) (fun x26 σ24 =>
    if (x23 = x26 : Prop) then (exec PP 65 371 3376 [some (.ref a0), some (.ref a1), some (.ref a2), some (.ref a3), some (.int x4), none, none] [] σ24)
      else (some (.inl (some (.int 0)), σ24))) (fun _ _ => none)) else none) (fun _ _ => none)) else none := (exec_eq PP 65 371 454 _ _ σ).trans ((congrArg (fun r => runL (callE PP 65) (PP.2.2.1 371) (exec PP 65 371) r _ _ σ) sk371_454).trans rfl)
theorem sk371_467 : seek 467 (PP.1 371) = seek 467 cs_3 := (((sk_0 467).trans (show seek 467 cs_0 = seek 467 cs_1 from seek_app (a := cd_371_0) (by decide +kernel))).trans (show seek 467 cs_1 = seek 467 cs_2 from seek_app (a := cd_371_1) (by decide +kernel))).trans (show seek 467 cs_2 = seek 467 cs_3 from seek_app (a := cd_371_2) (by decide +kernel))
set_option maxRecDepth 20000 in
theorem e_371_467 (a0 : Nat) (a1 : Nat) (a2 : Nat) (a3 : Nat) (x4 : Int32) (o5 : Option Value) (o6 : Option Value) (σ : SH) : exec PP 65 371 467 [some (.ref a0), some (.ref a1), some (.ref a2), some (.ref a3), some (.int x4), o5, o6] [] σ =
  aI σ 4 (.ref a0) (x4 + 1) fun x21 =>
  aI σ 4 (.ref a0) (x4 + 2) fun x22 =>
  onI (rn 331 [.ref a1, .int x21, .int x22, .ref a3] σ) (fun x25 σ23 =>
  aI σ23 4 (.ref a0) (x4 + 1) fun x26 =>
    aI σ23 4 (.ref a0) (x4 + 2) fun x27 =>
    if sT σ23 a2 = 112 then (onI (rn 218 [.ref a2, .int x26, .int x27] σ23) (fun x30 σ28 =>
    if sT σ28 a2 = 112 then (onI (rn 177 [.ref a2] σ28) (fun x33 σ31 =>
      if (x33 = x25 : Prop) then (exec PP 65 371 515 [some (.ref a0), some (.ref a1), some (.ref a2), some (.ref a3), some (.int x4), some (.int x25), some (.int x30)] [] σ31)
        else (some (.inl (some (.int 0)), σ31))) (fun _ _ => none)) else none) (fun _ _ => none)) else none) (fun _ _ => none) := (exec_eq PP 65 371 467 _ _ σ).trans ((congrArg (fun r => runL (callE PP 65) (PP.2.2.1 371) (exec PP 65 371) r _ _ σ) sk371_467).trans rfl)
theorem sk371_535 : seek 535 (PP.1 371) = seek 535 cs_4 := ((((sk_0 535).trans (show seek 535 cs_0 = seek 535 cs_1 from seek_app (a := cd_371_0) (by decide +kernel))).trans (show seek 535 cs_1 = seek 535 cs_2 from seek_app (a := cd_371_1) (by decide +kernel))).trans (show seek 535 cs_2 = seek 535 cs_3 from seek_app (a := cd_371_2) (by decide +kernel))).trans (show seek 535 cs_3 = seek 535 cs_4 from seek_app (a := cd_371_3) (by decide +kernel))
set_option maxRecDepth 20000 in
theorem e_371_535 (a0 : Nat) (a1 : Nat) (a2 : Nat) (a3 : Nat) (x4 : Int32) (o5 : Option Value) (o6 : Option Value) (σ : SH) : exec PP 65 371 535 [some (.ref a0), some (.ref a1), some (.ref a2), some (.ref a3), some (.int x4), o5, o6] [] σ =
  aI σ 4 (.ref a0) (x4 + 1) fun x21 =>
  aI σ 4 (.ref a0) (x4 + 2) fun x22 =>
  onI (rn 332 [.ref a1, .int x21, .int x22, .ref a3] σ) (fun x25 σ23 =>
  aI σ23 4 (.ref a0) (x4 + 1) fun x26 =>
    aI σ23 4 (.ref a0) (x4 + 2) fun x27 =>
    if sT σ23 a2 = 112 then (onI (rn 248 [.ref a2, .int x26, .int x27] σ23) (fun x30 σ28 =>
    if sT σ28 a2 = 112 then (onI (rn 177 [.ref a2] σ28) (fun x33 σ31 =>
      if (x33 = x25 : Prop) then (exec PP 65 371 583 [some (.ref a0), some (.ref a1), some (.ref a2), some (.ref a3), some (.int x4), some (.int x25), some (.int x30)] [] σ31)
        else (some (.inl (some (.int 0)), σ31))) (fun _ _ => none)) else none) (fun _ _ => none)) else none) (fun _ _ => none) := (exec_eq PP 65 371 535 _ _ σ).trans ((congrArg (fun r => runL (callE PP 65) (PP.2.2.1 371) (exec PP 65 371) r _ _ σ) sk371_535).trans rfl)
theorem sk371_603 : seek 603 (PP.1 371) = seek 603 cs_5 := (((((sk_0 603).trans (show seek 603 cs_0 = seek 603 cs_1 from seek_app (a := cd_371_0) (by decide +kernel))).trans (show seek 603 cs_1 = seek 603 cs_2 from seek_app (a := cd_371_1) (by decide +kernel))).trans (show seek 603 cs_2 = seek 603 cs_3 from seek_app (a := cd_371_2) (by decide +kernel))).trans (show seek 603 cs_3 = seek 603 cs_4 from seek_app (a := cd_371_3) (by decide +kernel))).trans (show seek 603 cs_4 = seek 603 cs_5 from seek_app (a := cd_371_4) (by decide +kernel))
set_option maxRecDepth 20000 in
theorem e_371_603 (a0 : Nat) (a1 : Nat) (a2 : Nat) (a3 : Nat) (x4 : Int32) (o5 : Option Value) (o6 : Option Value) (σ : SH) : exec PP 65 371 603 [some (.ref a0), some (.ref a1), some (.ref a2), some (.ref a3), some (.int x4), o5, o6] [] σ =
  aI σ 4 (.ref a0) (x4 + 1) fun x21 =>
  aI σ 4 (.ref a0) (x4 + 2) fun x22 =>
  onI (rn 333 [.ref a1, .int x21, .int x22, .ref a3] σ) (fun x25 σ23 =>
  aI σ23 4 (.ref a0) (x4 + 1) fun x26 =>
    aI σ23 4 (.ref a0) (x4 + 2) fun x27 =>
    if sT σ23 a2 = 112 then (onI (rn 261 [.ref a2, .int x26, .int x27] σ23) (fun x30 σ28 =>
    if sT σ28 a2 = 112 then (onI (rn 177 [.ref a2] σ28) (fun x33 σ31 =>
      if (x33 = x25 : Prop) then (exec PP 65 371 651 [some (.ref a0), some (.ref a1), some (.ref a2), some (.ref a3), some (.int x4), some (.int x25), some (.int x30)] [] σ31)
        else (some (.inl (some (.int 0)), σ31))) (fun _ _ => none)) else none) (fun _ _ => none)) else none) (fun _ _ => none) := (exec_eq PP 65 371 603 _ _ σ).trans ((congrArg (fun r => runL (callE PP 65) (PP.2.2.1 371) (exec PP 65 371) r _ _ σ) sk371_603).trans rfl)
theorem sk371_671 : seek 671 (PP.1 371) = seek 671 cs_6 := ((((((sk_0 671).trans (show seek 671 cs_0 = seek 671 cs_1 from seek_app (a := cd_371_0) (by decide +kernel))).trans (show seek 671 cs_1 = seek 671 cs_2 from seek_app (a := cd_371_1) (by decide +kernel))).trans (show seek 671 cs_2 = seek 671 cs_3 from seek_app (a := cd_371_2) (by decide +kernel))).trans (show seek 671 cs_3 = seek 671 cs_4 from seek_app (a := cd_371_3) (by decide +kernel))).trans (show seek 671 cs_4 = seek 671 cs_5 from seek_app (a := cd_371_4) (by decide +kernel))).trans (show seek 671 cs_5 = seek 671 cs_6 from seek_app (a := cd_371_5) (by decide +kernel))
set_option maxRecDepth 20000 in
theorem e_371_671 (a0 : Nat) (a1 : Nat) (a2 : Nat) (a3 : Nat) (x4 : Int32) (o5 : Option Value) (o6 : Option Value) (σ : SH) : exec PP 65 371 671 [some (.ref a0), some (.ref a1), some (.ref a2), some (.ref a3), some (.int x4), o5, o6] [] σ =
  aI σ 4 (.ref a0) (x4 + 1) fun x21 =>
  aI σ 4 (.ref a0) (x4 + 2) fun x22 =>
  onI (rn 334 [.ref a1, .int x21, .int x22, .ref a3] σ) (fun x25 σ23 =>
  aI σ23 4 (.ref a0) (x4 + 1) fun x26 =>
    aI σ23 4 (.ref a0) (x4 + 2) fun x27 =>
    if sT σ23 a2 = 112 then (onI (rn 263 [.ref a2, .int x26, .int x27] σ23) (fun x30 σ28 =>
    if sT σ28 a2 = 112 then (onI (rn 177 [.ref a2] σ28) (fun x33 σ31 =>
      if (x33 = x25 : Prop) then (exec PP 65 371 719 [some (.ref a0), some (.ref a1), some (.ref a2), some (.ref a3), some (.int x4), some (.int x25), some (.int x30)] [] σ31)
        else (some (.inl (some (.int 0)), σ31))) (fun _ _ => none)) else none) (fun _ _ => none)) else none) (fun _ _ => none) := (exec_eq PP 65 371 671 _ _ σ).trans ((congrArg (fun r => runL (callE PP 65) (PP.2.2.1 371) (exec PP 65 371) r _ _ σ) sk371_671).trans rfl)
theorem sk371_739 : seek 739 (PP.1 371) = seek 739 cs_7 := (((((((sk_0 739).trans (show seek 739 cs_0 = seek 739 cs_1 from seek_app (a := cd_371_0) (by decide +kernel))).trans (show seek 739 cs_1 = seek 739 cs_2 from seek_app (a := cd_371_1) (by decide +kernel))).trans (show seek 739 cs_2 = seek 739 cs_3 from seek_app (a := cd_371_2) (by decide +kernel))).trans (show seek 739 cs_3 = seek 739 cs_4 from seek_app (a := cd_371_3) (by decide +kernel))).trans (show seek 739 cs_4 = seek 739 cs_5 from seek_app (a := cd_371_4) (by decide +kernel))).trans (show seek 739 cs_5 = seek 739 cs_6 from seek_app (a := cd_371_5) (by decide +kernel))).trans (show seek 739 cs_6 = seek 739 cs_7 from seek_app (a := cd_371_6) (by decide +kernel))
set_option maxRecDepth 20000 in
theorem e_371_739 (a0 : Nat) (a1 : Nat) (a2 : Nat) (a3 : Nat) (x4 : Int32) (o5 : Option Value) (o6 : Option Value) (σ : SH) : exec PP 65 371 739 [some (.ref a0), some (.ref a1), some (.ref a2), some (.ref a3), some (.int x4), o5, o6] [] σ =
  aI σ 4 (.ref a0) (x4 + 1) fun x21 =>
  aI σ 4 (.ref a0) (x4 + 2) fun x22 =>
  aI σ 4 (.ref a0) (x4 + 3) fun x23 =>
  onI (rn 335 [.ref a1, .int x21, .int x22, .int x23, .ref a3] σ) (fun x26 σ24 =>
  aI σ24 4 (.ref a0) (x4 + 1) fun x27 =>
    aI σ24 4 (.ref a0) (x4 + 2) fun x28 =>
    aI σ24 4 (.ref a0) (x4 + 3) fun x29 =>
    if sT σ24 a2 = 112 then (onI (rn 265 [.ref a2, .int x27, .int x28, .int x29] σ24) (fun x32 σ30 =>
    if sT σ30 a2 = 112 then (onI (rn 177 [.ref a2] σ30) (fun x35 σ33 =>
      if (x35 = x26 : Prop) then (exec PP 65 371 799 [some (.ref a0), some (.ref a1), some (.ref a2), some (.ref a3), some (.int x4), some (.int x26), some (.int x32)] [] σ33)
        else (some (.inl (some (.int 0)), σ33))) (fun _ _ => none)) else none) (fun _ _ => none)) else none) (fun _ _ => none) := (exec_eq PP 65 371 739 _ _ σ).trans ((congrArg (fun r => runL (callE PP 65) (PP.2.2.1 371) (exec PP 65 371) r _ _ σ) sk371_739).trans rfl)
theorem sk371_819 : seek 819 (PP.1 371) = seek 819 cs_8 := ((((((((sk_0 819).trans (show seek 819 cs_0 = seek 819 cs_1 from seek_app (a := cd_371_0) (by decide +kernel))).trans (show seek 819 cs_1 = seek 819 cs_2 from seek_app (a := cd_371_1) (by decide +kernel))).trans (show seek 819 cs_2 = seek 819 cs_3 from seek_app (a := cd_371_2) (by decide +kernel))).trans (show seek 819 cs_3 = seek 819 cs_4 from seek_app (a := cd_371_3) (by decide +kernel))).trans (show seek 819 cs_4 = seek 819 cs_5 from seek_app (a := cd_371_4) (by decide +kernel))).trans (show seek 819 cs_5 = seek 819 cs_6 from seek_app (a := cd_371_5) (by decide +kernel))).trans (show seek 819 cs_6 = seek 819 cs_7 from seek_app (a := cd_371_6) (by decide +kernel))).trans (show seek 819 cs_7 = seek 819 cs_8 from seek_app (a := cd_371_7) (by decide +kernel))
set_option maxRecDepth 20000 in
theorem e_371_819 (a0 : Nat) (a1 : Nat) (a2 : Nat) (a3 : Nat) (x4 : Int32) (o5 : Option Value) (o6 : Option Value) (σ : SH) : exec PP 65 371 819 [some (.ref a0), some (.ref a1), some (.ref a2), some (.ref a3), some (.int x4), o5, o6] [] σ =
  aI σ 4 (.ref a0) (x4 + 1) fun x21 =>
  aI σ 4 (.ref a0) (x4 + 2) fun x22 =>
  onI (rn 336 [.ref a1, .int x21, .int x22, .ref a3] σ) (fun x25 σ23 =>
  aI σ23 4 (.ref a0) (x4 + 1) fun x26 =>
    aI σ23 4 (.ref a0) (x4 + 2) fun x27 =>
    if sT σ23 a2 = 112 then (onI (rn 267 [.ref a2, .int x26, .int x27] σ23) (fun x30 σ28 =>
    if sT σ28 a2 = 112 then (onI (rn 177 [.ref a2] σ28) (fun x33 σ31 =>
      if (x33 = x25 : Prop) then (exec PP 65 371 867 [some (.ref a0), some (.ref a1), some (.ref a2), some (.ref a3), some (.int x4), some (.int x25), some (.int x30)] [] σ31)
        else (some (.inl (some (.int 0)), σ31))) (fun _ _ => none)) else none) (fun _ _ => none)) else none) (fun _ _ => none) := (exec_eq PP 65 371 819 _ _ σ).trans ((congrArg (fun r => runL (callE PP 65) (PP.2.2.1 371) (exec PP 65 371) r _ _ σ) sk371_819).trans rfl)
theorem sk371_887 : seek 887 (PP.1 371) = seek 887 cs_9 := (((((((((sk_0 887).trans (show seek 887 cs_0 = seek 887 cs_1 from seek_app (a := cd_371_0) (by decide +kernel))).trans (show seek 887 cs_1 = seek 887 cs_2 from seek_app (a := cd_371_1) (by decide +kernel))).trans (show seek 887 cs_2 = seek 887 cs_3 from seek_app (a := cd_371_2) (by decide +kernel))).trans (show seek 887 cs_3 = seek 887 cs_4 from seek_app (a := cd_371_3) (by decide +kernel))).trans (show seek 887 cs_4 = seek 887 cs_5 from seek_app (a := cd_371_4) (by decide +kernel))).trans (show seek 887 cs_5 = seek 887 cs_6 from seek_app (a := cd_371_5) (by decide +kernel))).trans (show seek 887 cs_6 = seek 887 cs_7 from seek_app (a := cd_371_6) (by decide +kernel))).trans (show seek 887 cs_7 = seek 887 cs_8 from seek_app (a := cd_371_7) (by decide +kernel))).trans (show seek 887 cs_8 = seek 887 cs_9 from seek_app (a := cd_371_8) (by decide +kernel))
set_option maxRecDepth 20000 in
theorem e_371_887 (a0 : Nat) (a1 : Nat) (a2 : Nat) (a3 : Nat) (x4 : Int32) (o5 : Option Value) (o6 : Option Value) (σ : SH) : exec PP 65 371 887 [some (.ref a0), some (.ref a1), some (.ref a2), some (.ref a3), some (.int x4), o5, o6] [] σ =
  aI σ 4 (.ref a0) (x4 + 1) fun x21 =>
  aI σ 4 (.ref a0) (x4 + 2) fun x22 =>
  onI (rn 337 [.ref a1, .int x21, .int x22, .ref a3] σ) (fun x25 σ23 =>
  aI σ23 4 (.ref a0) (x4 + 1) fun x26 =>
    aI σ23 4 (.ref a0) (x4 + 2) fun x27 =>
    if sT σ23 a2 = 112 then (onI (rn 269 [.ref a2, .int x26, .int x27] σ23) (fun x30 σ28 =>
    if sT σ28 a2 = 112 then (onI (rn 177 [.ref a2] σ28) (fun x33 σ31 =>
      if (x33 = x25 : Prop) then (exec PP 65 371 935 [some (.ref a0), some (.ref a1), some (.ref a2), some (.ref a3), some (.int x4), some (.int x25), some (.int x30)] [] σ31)
        else (some (.inl (some (.int 0)), σ31))) (fun _ _ => none)) else none) (fun _ _ => none)) else none) (fun _ _ => none) := (exec_eq PP 65 371 887 _ _ σ).trans ((congrArg (fun r => runL (callE PP 65) (PP.2.2.1 371) (exec PP 65 371) r _ _ σ) sk371_887).trans rfl)
theorem sk371_955 : seek 955 (PP.1 371) = seek 955 cs_10 := ((((((((((sk_0 955).trans (show seek 955 cs_0 = seek 955 cs_1 from seek_app (a := cd_371_0) (by decide +kernel))).trans (show seek 955 cs_1 = seek 955 cs_2 from seek_app (a := cd_371_1) (by decide +kernel))).trans (show seek 955 cs_2 = seek 955 cs_3 from seek_app (a := cd_371_2) (by decide +kernel))).trans (show seek 955 cs_3 = seek 955 cs_4 from seek_app (a := cd_371_3) (by decide +kernel))).trans (show seek 955 cs_4 = seek 955 cs_5 from seek_app (a := cd_371_4) (by decide +kernel))).trans (show seek 955 cs_5 = seek 955 cs_6 from seek_app (a := cd_371_5) (by decide +kernel))).trans (show seek 955 cs_6 = seek 955 cs_7 from seek_app (a := cd_371_6) (by decide +kernel))).trans (show seek 955 cs_7 = seek 955 cs_8 from seek_app (a := cd_371_7) (by decide +kernel))).trans (show seek 955 cs_8 = seek 955 cs_9 from seek_app (a := cd_371_8) (by decide +kernel))).trans (show seek 955 cs_9 = seek 955 cs_10 from seek_app (a := cd_371_9) (by decide +kernel))
set_option maxRecDepth 20000 in
theorem e_371_955 (a0 : Nat) (a1 : Nat) (a2 : Nat) (a3 : Nat) (x4 : Int32) (o5 : Option Value) (o6 : Option Value) (σ : SH) : exec PP 65 371 955 [some (.ref a0), some (.ref a1), some (.ref a2), some (.ref a3), some (.int x4), o5, o6] [] σ =
  aI σ 4 (.ref a0) (x4 + 1) fun x21 =>
  aI σ 4 (.ref a0) (x4 + 2) fun x22 =>
  onI (rn 338 [.ref a1, .int x21, .int x22, .ref a3] σ) (fun x25 σ23 =>
  aI σ23 4 (.ref a0) (x4 + 1) fun x26 =>
    aI σ23 4 (.ref a0) (x4 + 2) fun x27 =>
    if sT σ23 a2 = 112 then (onI (rn 271 [.ref a2, .int x26, .int x27] σ23) (fun x30 σ28 =>
    if sT σ28 a2 = 112 then (onI (rn 177 [.ref a2] σ28) (fun x33 σ31 =>
      if (x33 = x25 : Prop) then (exec PP 65 371 1003 [some (.ref a0), some (.ref a1), some (.ref a2), some (.ref a3), some (.int x4), some (.int x25), some (.int x30)] [] σ31)
        else (some (.inl (some (.int 0)), σ31))) (fun _ _ => none)) else none) (fun _ _ => none)) else none) (fun _ _ => none) := (exec_eq PP 65 371 955 _ _ σ).trans ((congrArg (fun r => runL (callE PP 65) (PP.2.2.1 371) (exec PP 65 371) r _ _ σ) sk371_955).trans rfl)
theorem sk371_1023 : seek 1023 (PP.1 371) = seek 1023 cs_11 := (((((((((((sk_0 1023).trans (show seek 1023 cs_0 = seek 1023 cs_1 from seek_app (a := cd_371_0) (by decide +kernel))).trans (show seek 1023 cs_1 = seek 1023 cs_2 from seek_app (a := cd_371_1) (by decide +kernel))).trans (show seek 1023 cs_2 = seek 1023 cs_3 from seek_app (a := cd_371_2) (by decide +kernel))).trans (show seek 1023 cs_3 = seek 1023 cs_4 from seek_app (a := cd_371_3) (by decide +kernel))).trans (show seek 1023 cs_4 = seek 1023 cs_5 from seek_app (a := cd_371_4) (by decide +kernel))).trans (show seek 1023 cs_5 = seek 1023 cs_6 from seek_app (a := cd_371_5) (by decide +kernel))).trans (show seek 1023 cs_6 = seek 1023 cs_7 from seek_app (a := cd_371_6) (by decide +kernel))).trans (show seek 1023 cs_7 = seek 1023 cs_8 from seek_app (a := cd_371_7) (by decide +kernel))).trans (show seek 1023 cs_8 = seek 1023 cs_9 from seek_app (a := cd_371_8) (by decide +kernel))).trans (show seek 1023 cs_9 = seek 1023 cs_10 from seek_app (a := cd_371_9) (by decide +kernel))).trans (show seek 1023 cs_10 = seek 1023 cs_11 from seek_app (a := cd_371_10) (by decide +kernel))
set_option maxRecDepth 20000 in
theorem e_371_1023 (a0 : Nat) (a1 : Nat) (a2 : Nat) (a3 : Nat) (x4 : Int32) (o5 : Option Value) (o6 : Option Value) (σ : SH) : exec PP 65 371 1023 [some (.ref a0), some (.ref a1), some (.ref a2), some (.ref a3), some (.int x4), o5, o6] [] σ =
  aI σ 4 (.ref a0) (x4 + 1) fun x21 =>
  aI σ 4 (.ref a0) (x4 + 2) fun x22 =>
  onI (rn 339 [.ref a1, .int x21, .int x22, .ref a3] σ) (fun x25 σ23 =>
  aI σ23 4 (.ref a0) (x4 + 1) fun x26 =>
    aI σ23 4 (.ref a0) (x4 + 2) fun x27 =>
    if sT σ23 a2 = 112 then (onI (rn 272 [.ref a2, .int x26, .int x27] σ23) (fun x30 σ28 =>
    if sT σ28 a2 = 112 then (onI (rn 177 [.ref a2] σ28) (fun x33 σ31 =>
      if (x33 = x25 : Prop) then (exec PP 65 371 1071 [some (.ref a0), some (.ref a1), some (.ref a2), some (.ref a3), some (.int x4), some (.int x25), some (.int x30)] [] σ31)
        else (some (.inl (some (.int 0)), σ31))) (fun _ _ => none)) else none) (fun _ _ => none)) else none) (fun _ _ => none) := (exec_eq PP 65 371 1023 _ _ σ).trans ((congrArg (fun r => runL (callE PP 65) (PP.2.2.1 371) (exec PP 65 371) r _ _ σ) sk371_1023).trans rfl)
theorem sk371_1091 : seek 1091 (PP.1 371) = seek 1091 cs_11 := (((((((((((sk_0 1091).trans (show seek 1091 cs_0 = seek 1091 cs_1 from seek_app (a := cd_371_0) (by decide +kernel))).trans (show seek 1091 cs_1 = seek 1091 cs_2 from seek_app (a := cd_371_1) (by decide +kernel))).trans (show seek 1091 cs_2 = seek 1091 cs_3 from seek_app (a := cd_371_2) (by decide +kernel))).trans (show seek 1091 cs_3 = seek 1091 cs_4 from seek_app (a := cd_371_3) (by decide +kernel))).trans (show seek 1091 cs_4 = seek 1091 cs_5 from seek_app (a := cd_371_4) (by decide +kernel))).trans (show seek 1091 cs_5 = seek 1091 cs_6 from seek_app (a := cd_371_5) (by decide +kernel))).trans (show seek 1091 cs_6 = seek 1091 cs_7 from seek_app (a := cd_371_6) (by decide +kernel))).trans (show seek 1091 cs_7 = seek 1091 cs_8 from seek_app (a := cd_371_7) (by decide +kernel))).trans (show seek 1091 cs_8 = seek 1091 cs_9 from seek_app (a := cd_371_8) (by decide +kernel))).trans (show seek 1091 cs_9 = seek 1091 cs_10 from seek_app (a := cd_371_9) (by decide +kernel))).trans (show seek 1091 cs_10 = seek 1091 cs_11 from seek_app (a := cd_371_10) (by decide +kernel))
set_option maxRecDepth 20000 in
theorem e_371_1091 (a0 : Nat) (a1 : Nat) (a2 : Nat) (a3 : Nat) (x4 : Int32) (o5 : Option Value) (o6 : Option Value) (σ : SH) : exec PP 65 371 1091 [some (.ref a0), some (.ref a1), some (.ref a2), some (.ref a3), some (.int x4), o5, o6] [] σ =
  aI σ 4 (.ref a0) (x4 + 1) fun x21 =>
  onI (rn 340 [.ref a1, .int x21, .ref a3] σ) (fun x24 σ22 =>
  aI σ22 4 (.ref a0) (x4 + 1) fun x25 =>
    if sT σ22 a2 = 112 then (onI (rn 273 [.ref a2, .int x25] σ22) (fun x28 σ26 =>
    if sT σ26 a2 = 112 then (onI (rn 177 [.ref a2] σ26) (fun x31 σ29 =>
      if (x31 = x24 : Prop) then (exec PP 65 371 1127 [some (.ref a0), some (.ref a1), some (.ref a2), some (.ref a3), some (.int x4), some (.int x24), some (.int x28)] [] σ29)
        else (some (.inl (some (.int 0)), σ29))) (fun _ _ => none)) else none) (fun _ _ => none)) else none) (fun _ _ => none) := (exec_eq PP 65 371 1091 _ _ σ).trans ((congrArg (fun r => runL (callE PP 65) (PP.2.2.1 371) (exec PP 65 371) r _ _ σ) sk371_1091).trans rfl)
theorem sk371_1147 : seek 1147 (PP.1 371) = seek 1147 cs_12 := ((((((((((((sk_0 1147).trans (show seek 1147 cs_0 = seek 1147 cs_1 from seek_app (a := cd_371_0) (by decide +kernel))).trans (show seek 1147 cs_1 = seek 1147 cs_2 from seek_app (a := cd_371_1) (by decide +kernel))).trans (show seek 1147 cs_2 = seek 1147 cs_3 from seek_app (a := cd_371_2) (by decide +kernel))).trans (show seek 1147 cs_3 = seek 1147 cs_4 from seek_app (a := cd_371_3) (by decide +kernel))).trans (show seek 1147 cs_4 = seek 1147 cs_5 from seek_app (a := cd_371_4) (by decide +kernel))).trans (show seek 1147 cs_5 = seek 1147 cs_6 from seek_app (a := cd_371_5) (by decide +kernel))).trans (show seek 1147 cs_6 = seek 1147 cs_7 from seek_app (a := cd_371_6) (by decide +kernel))).trans (show seek 1147 cs_7 = seek 1147 cs_8 from seek_app (a := cd_371_7) (by decide +kernel))).trans (show seek 1147 cs_8 = seek 1147 cs_9 from seek_app (a := cd_371_8) (by decide +kernel))).trans (show seek 1147 cs_9 = seek 1147 cs_10 from seek_app (a := cd_371_9) (by decide +kernel))).trans (show seek 1147 cs_10 = seek 1147 cs_11 from seek_app (a := cd_371_10) (by decide +kernel))).trans (show seek 1147 cs_11 = seek 1147 cs_12 from seek_app (a := cd_371_11) (by decide +kernel))
set_option maxRecDepth 20000 in
theorem e_371_1147 (a0 : Nat) (a1 : Nat) (a2 : Nat) (a3 : Nat) (x4 : Int32) (o5 : Option Value) (o6 : Option Value) (σ : SH) : exec PP 65 371 1147 [some (.ref a0), some (.ref a1), some (.ref a2), some (.ref a3), some (.int x4), o5, o6] [] σ =
  aI σ 4 (.ref a0) (x4 + 1) fun x21 =>
  onI (rn 341 [.ref a1, .int x21, .ref a3] σ) (fun x24 σ22 =>
  aI σ22 4 (.ref a0) (x4 + 1) fun x25 =>
    if sT σ22 a2 = 112 then (onI (rn 274 [.ref a2, .int x25] σ22) (fun x28 σ26 =>
    if sT σ26 a2 = 112 then (onI (rn 177 [.ref a2] σ26) (fun x31 σ29 =>
      if (x31 = x24 : Prop) then (exec PP 65 371 1183 [some (.ref a0), some (.ref a1), some (.ref a2), some (.ref a3), some (.int x4), some (.int x24), some (.int x28)] [] σ29)
        else (some (.inl (some (.int 0)), σ29))) (fun _ _ => none)) else none) (fun _ _ => none)) else none) (fun _ _ => none) := (exec_eq PP 65 371 1147 _ _ σ).trans ((congrArg (fun r => runL (callE PP 65) (PP.2.2.1 371) (exec PP 65 371) r _ _ σ) sk371_1147).trans rfl)
theorem sk371_1203 : seek 1203 (PP.1 371) = seek 1203 cs_13 := (((((((((((((sk_0 1203).trans (show seek 1203 cs_0 = seek 1203 cs_1 from seek_app (a := cd_371_0) (by decide +kernel))).trans (show seek 1203 cs_1 = seek 1203 cs_2 from seek_app (a := cd_371_1) (by decide +kernel))).trans (show seek 1203 cs_2 = seek 1203 cs_3 from seek_app (a := cd_371_2) (by decide +kernel))).trans (show seek 1203 cs_3 = seek 1203 cs_4 from seek_app (a := cd_371_3) (by decide +kernel))).trans (show seek 1203 cs_4 = seek 1203 cs_5 from seek_app (a := cd_371_4) (by decide +kernel))).trans (show seek 1203 cs_5 = seek 1203 cs_6 from seek_app (a := cd_371_5) (by decide +kernel))).trans (show seek 1203 cs_6 = seek 1203 cs_7 from seek_app (a := cd_371_6) (by decide +kernel))).trans (show seek 1203 cs_7 = seek 1203 cs_8 from seek_app (a := cd_371_7) (by decide +kernel))).trans (show seek 1203 cs_8 = seek 1203 cs_9 from seek_app (a := cd_371_8) (by decide +kernel))).trans (show seek 1203 cs_9 = seek 1203 cs_10 from seek_app (a := cd_371_9) (by decide +kernel))).trans (show seek 1203 cs_10 = seek 1203 cs_11 from seek_app (a := cd_371_10) (by decide +kernel))).trans (show seek 1203 cs_11 = seek 1203 cs_12 from seek_app (a := cd_371_11) (by decide +kernel))).trans (show seek 1203 cs_12 = seek 1203 cs_13 from seek_app (a := cd_371_12) (by decide +kernel))
set_option maxRecDepth 20000 in
theorem e_371_1203 (a0 : Nat) (a1 : Nat) (a2 : Nat) (a3 : Nat) (x4 : Int32) (o5 : Option Value) (o6 : Option Value) (σ : SH) : exec PP 65 371 1203 [some (.ref a0), some (.ref a1), some (.ref a2), some (.ref a3), some (.int x4), o5, o6] [] σ =
  aI σ 4 (.ref a0) (x4 + 1) fun x21 =>
  onI (rn 342 [.ref a1, .int x21, .ref a3] σ) (fun x24 σ22 =>
  aI σ22 4 (.ref a0) (x4 + 1) fun x25 =>
    if sT σ22 a2 = 112 then (onI (rn 275 [.ref a2, .int x25] σ22) (fun x28 σ26 =>
    if sT σ26 a2 = 112 then (onI (rn 177 [.ref a2] σ26) (fun x31 σ29 =>
      if (x31 = x24 : Prop) then (exec PP 65 371 1239 [some (.ref a0), some (.ref a1), some (.ref a2), some (.ref a3), some (.int x4), some (.int x24), some (.int x28)] [] σ29)
        else (some (.inl (some (.int 0)), σ29))) (fun _ _ => none)) else none) (fun _ _ => none)) else none) (fun _ _ => none) := (exec_eq PP 65 371 1203 _ _ σ).trans ((congrArg (fun r => runL (callE PP 65) (PP.2.2.1 371) (exec PP 65 371) r _ _ σ) sk371_1203).trans rfl)
theorem sk371_1259 : seek 1259 (PP.1 371) = seek 1259 cs_14 := ((((((((((((((sk_0 1259).trans (show seek 1259 cs_0 = seek 1259 cs_1 from seek_app (a := cd_371_0) (by decide +kernel))).trans (show seek 1259 cs_1 = seek 1259 cs_2 from seek_app (a := cd_371_1) (by decide +kernel))).trans (show seek 1259 cs_2 = seek 1259 cs_3 from seek_app (a := cd_371_2) (by decide +kernel))).trans (show seek 1259 cs_3 = seek 1259 cs_4 from seek_app (a := cd_371_3) (by decide +kernel))).trans (show seek 1259 cs_4 = seek 1259 cs_5 from seek_app (a := cd_371_4) (by decide +kernel))).trans (show seek 1259 cs_5 = seek 1259 cs_6 from seek_app (a := cd_371_5) (by decide +kernel))).trans (show seek 1259 cs_6 = seek 1259 cs_7 from seek_app (a := cd_371_6) (by decide +kernel))).trans (show seek 1259 cs_7 = seek 1259 cs_8 from seek_app (a := cd_371_7) (by decide +kernel))).trans (show seek 1259 cs_8 = seek 1259 cs_9 from seek_app (a := cd_371_8) (by decide +kernel))).trans (show seek 1259 cs_9 = seek 1259 cs_10 from seek_app (a := cd_371_9) (by decide +kernel))).trans (show seek 1259 cs_10 = seek 1259 cs_11 from seek_app (a := cd_371_10) (by decide +kernel))).trans (show seek 1259 cs_11 = seek 1259 cs_12 from seek_app (a := cd_371_11) (by decide +kernel))).trans (show seek 1259 cs_12 = seek 1259 cs_13 from seek_app (a := cd_371_12) (by decide +kernel))).trans (show seek 1259 cs_13 = seek 1259 cs_14 from seek_app (a := cd_371_13) (by decide +kernel))
set_option maxRecDepth 20000 in
theorem e_371_1259 (a0 : Nat) (a1 : Nat) (a2 : Nat) (a3 : Nat) (x4 : Int32) (o5 : Option Value) (o6 : Option Value) (σ : SH) : exec PP 65 371 1259 [some (.ref a0), some (.ref a1), some (.ref a2), some (.ref a3), some (.int x4), o5, o6] [] σ =
  aI σ 4 (.ref a0) (x4 + 1) fun x21 =>
  onI (rn 343 [.ref a1, .int x21, .ref a3] σ) (fun x24 σ22 =>
  aI σ22 4 (.ref a0) (x4 + 1) fun x25 =>
    if sT σ22 a2 = 112 then (onI (rn 222 [.ref a2, .int x25] σ22) (fun x28 σ26 =>
    if sT σ26 a2 = 112 then (onI (rn 177 [.ref a2] σ26) (fun x31 σ29 =>
      if (x31 = x24 : Prop) then (exec PP 65 371 1295 [some (.ref a0), some (.ref a1), some (.ref a2), some (.ref a3), some (.int x4), some (.int x24), some (.int x28)] [] σ29)
        else (some (.inl (some (.int 0)), σ29))) (fun _ _ => none)) else none) (fun _ _ => none)) else none) (fun _ _ => none) := (exec_eq PP 65 371 1259 _ _ σ).trans ((congrArg (fun r => runL (callE PP 65) (PP.2.2.1 371) (exec PP 65 371) r _ _ σ) sk371_1259).trans rfl)
theorem sk371_1315 : seek 1315 (PP.1 371) = seek 1315 cs_14 := ((((((((((((((sk_0 1315).trans (show seek 1315 cs_0 = seek 1315 cs_1 from seek_app (a := cd_371_0) (by decide +kernel))).trans (show seek 1315 cs_1 = seek 1315 cs_2 from seek_app (a := cd_371_1) (by decide +kernel))).trans (show seek 1315 cs_2 = seek 1315 cs_3 from seek_app (a := cd_371_2) (by decide +kernel))).trans (show seek 1315 cs_3 = seek 1315 cs_4 from seek_app (a := cd_371_3) (by decide +kernel))).trans (show seek 1315 cs_4 = seek 1315 cs_5 from seek_app (a := cd_371_4) (by decide +kernel))).trans (show seek 1315 cs_5 = seek 1315 cs_6 from seek_app (a := cd_371_5) (by decide +kernel))).trans (show seek 1315 cs_6 = seek 1315 cs_7 from seek_app (a := cd_371_6) (by decide +kernel))).trans (show seek 1315 cs_7 = seek 1315 cs_8 from seek_app (a := cd_371_7) (by decide +kernel))).trans (show seek 1315 cs_8 = seek 1315 cs_9 from seek_app (a := cd_371_8) (by decide +kernel))).trans (show seek 1315 cs_9 = seek 1315 cs_10 from seek_app (a := cd_371_9) (by decide +kernel))).trans (show seek 1315 cs_10 = seek 1315 cs_11 from seek_app (a := cd_371_10) (by decide +kernel))).trans (show seek 1315 cs_11 = seek 1315 cs_12 from seek_app (a := cd_371_11) (by decide +kernel))).trans (show seek 1315 cs_12 = seek 1315 cs_13 from seek_app (a := cd_371_12) (by decide +kernel))).trans (show seek 1315 cs_13 = seek 1315 cs_14 from seek_app (a := cd_371_13) (by decide +kernel))
set_option maxRecDepth 20000 in
theorem e_371_1315 (a0 : Nat) (a1 : Nat) (a2 : Nat) (a3 : Nat) (x4 : Int32) (o5 : Option Value) (o6 : Option Value) (σ : SH) : exec PP 65 371 1315 [some (.ref a0), some (.ref a1), some (.ref a2), some (.ref a3), some (.int x4), o5, o6] [] σ =
  aI σ 4 (.ref a0) (x4 + 1) fun x21 =>
  onI (rn 344 [.ref a1, .int x21, .ref a3] σ) (fun x24 σ22 =>
  aI σ22 4 (.ref a0) (x4 + 1) fun x25 =>
    if sT σ22 a2 = 112 then (onI (rn 225 [.ref a2, .int x25] σ22) (fun x28 σ26 =>
    if sT σ26 a2 = 112 then (onI (rn 177 [.ref a2] σ26) (fun x31 σ29 =>
      if (x31 = x24 : Prop) then (exec PP 65 371 1351 [some (.ref a0), some (.ref a1), some (.ref a2), some (.ref a3), some (.int x4), some (.int x24), some (.int x28)] [] σ29)
        else (some (.inl (some (.int 0)), σ29))) (fun _ _ => none)) else none) (fun _ _ => none)) else none) (fun _ _ => none) := (exec_eq PP 65 371 1315 _ _ σ).trans ((congrArg (fun r => runL (callE PP 65) (PP.2.2.1 371) (exec PP 65 371) r _ _ σ) sk371_1315).trans rfl)
theorem sk371_1371 : seek 1371 (PP.1 371) = seek 1371 cs_15 := (((((((((((((((sk_0 1371).trans (show seek 1371 cs_0 = seek 1371 cs_1 from seek_app (a := cd_371_0) (by decide +kernel))).trans (show seek 1371 cs_1 = seek 1371 cs_2 from seek_app (a := cd_371_1) (by decide +kernel))).trans (show seek 1371 cs_2 = seek 1371 cs_3 from seek_app (a := cd_371_2) (by decide +kernel))).trans (show seek 1371 cs_3 = seek 1371 cs_4 from seek_app (a := cd_371_3) (by decide +kernel))).trans (show seek 1371 cs_4 = seek 1371 cs_5 from seek_app (a := cd_371_4) (by decide +kernel))).trans (show seek 1371 cs_5 = seek 1371 cs_6 from seek_app (a := cd_371_5) (by decide +kernel))).trans (show seek 1371 cs_6 = seek 1371 cs_7 from seek_app (a := cd_371_6) (by decide +kernel))).trans (show seek 1371 cs_7 = seek 1371 cs_8 from seek_app (a := cd_371_7) (by decide +kernel))).trans (show seek 1371 cs_8 = seek 1371 cs_9 from seek_app (a := cd_371_8) (by decide +kernel))).trans (show seek 1371 cs_9 = seek 1371 cs_10 from seek_app (a := cd_371_9) (by decide +kernel))).trans (show seek 1371 cs_10 = seek 1371 cs_11 from seek_app (a := cd_371_10) (by decide +kernel))).trans (show seek 1371 cs_11 = seek 1371 cs_12 from seek_app (a := cd_371_11) (by decide +kernel))).trans (show seek 1371 cs_12 = seek 1371 cs_13 from seek_app (a := cd_371_12) (by decide +kernel))).trans (show seek 1371 cs_13 = seek 1371 cs_14 from seek_app (a := cd_371_13) (by decide +kernel))).trans (show seek 1371 cs_14 = seek 1371 cs_15 from seek_app (a := cd_371_14) (by decide +kernel))
set_option maxRecDepth 20000 in
theorem e_371_1371 (a0 : Nat) (a1 : Nat) (a2 : Nat) (a3 : Nat) (x4 : Int32) (o5 : Option Value) (o6 : Option Value) (σ : SH) : exec PP 65 371 1371 [some (.ref a0), some (.ref a1), some (.ref a2), some (.ref a3), some (.int x4), o5, o6] [] σ =
  aI σ 4 (.ref a0) (x4 + 1) fun x21 =>
  aI σ 4 (.ref a0) (x4 + 2) fun x22 =>
  onI (rn 345 [.ref a1, .int x21, .int x22, .ref a3] σ) (fun x25 σ23 =>
  aI σ23 4 (.ref a0) (x4 + 1) fun x26 =>
    aI σ23 4 (.ref a0) (x4 + 2) fun x27 =>
    if sT σ23 a2 = 112 then (onI (rn 227 [.ref a2, .int x26, .int x27] σ23) (fun x30 σ28 =>
    if sT σ28 a2 = 112 then (onI (rn 177 [.ref a2] σ28) (fun x33 σ31 =>
      if (x33 = x25 : Prop) then (exec PP 65 371 1419 [some (.ref a0), some (.ref a1), some (.ref a2), some (.ref a3), some (.int x4), some (.int x25), some (.int x30)] [] σ31)
        else (some (.inl (some (.int 0)), σ31))) (fun _ _ => none)) else none) (fun _ _ => none)) else none) (fun _ _ => none) := (exec_eq PP 65 371 1371 _ _ σ).trans ((congrArg (fun r => runL (callE PP 65) (PP.2.2.1 371) (exec PP 65 371) r _ _ σ) sk371_1371).trans rfl)
theorem sk371_1439 : seek 1439 (PP.1 371) = seek 1439 cs_16 := ((((((((((((((((sk_0 1439).trans (show seek 1439 cs_0 = seek 1439 cs_1 from seek_app (a := cd_371_0) (by decide +kernel))).trans (show seek 1439 cs_1 = seek 1439 cs_2 from seek_app (a := cd_371_1) (by decide +kernel))).trans (show seek 1439 cs_2 = seek 1439 cs_3 from seek_app (a := cd_371_2) (by decide +kernel))).trans (show seek 1439 cs_3 = seek 1439 cs_4 from seek_app (a := cd_371_3) (by decide +kernel))).trans (show seek 1439 cs_4 = seek 1439 cs_5 from seek_app (a := cd_371_4) (by decide +kernel))).trans (show seek 1439 cs_5 = seek 1439 cs_6 from seek_app (a := cd_371_5) (by decide +kernel))).trans (show seek 1439 cs_6 = seek 1439 cs_7 from seek_app (a := cd_371_6) (by decide +kernel))).trans (show seek 1439 cs_7 = seek 1439 cs_8 from seek_app (a := cd_371_7) (by decide +kernel))).trans (show seek 1439 cs_8 = seek 1439 cs_9 from seek_app (a := cd_371_8) (by decide +kernel))).trans (show seek 1439 cs_9 = seek 1439 cs_10 from seek_app (a := cd_371_9) (by decide +kernel))).trans (show seek 1439 cs_10 = seek 1439 cs_11 from seek_app (a := cd_371_10) (by decide +kernel))).trans (show seek 1439 cs_11 = seek 1439 cs_12 from seek_app (a := cd_371_11) (by decide +kernel))).trans (show seek 1439 cs_12 = seek 1439 cs_13 from seek_app (a := cd_371_12) (by decide +kernel))).trans (show seek 1439 cs_13 = seek 1439 cs_14 from seek_app (a := cd_371_13) (by decide +kernel))).trans (show seek 1439 cs_14 = seek 1439 cs_15 from seek_app (a := cd_371_14) (by decide +kernel))).trans (show seek 1439 cs_15 = seek 1439 cs_16 from seek_app (a := cd_371_15) (by decide +kernel))
set_option maxRecDepth 20000 in
theorem e_371_1439 (a0 : Nat) (a1 : Nat) (a2 : Nat) (a3 : Nat) (x4 : Int32) (o5 : Option Value) (o6 : Option Value) (σ : SH) : exec PP 65 371 1439 [some (.ref a0), some (.ref a1), some (.ref a2), some (.ref a3), some (.int x4), o5, o6] [] σ =
  aI σ 4 (.ref a0) (x4 + 1) fun x21 =>
  aI σ 4 (.ref a0) (x4 + 2) fun x22 =>
  onI (rn 346 [.ref a1, .int x21, .int x22, .ref a3] σ) (fun x25 σ23 =>
  aI σ23 4 (.ref a0) (x4 + 1) fun x26 =>
    aI σ23 4 (.ref a0) (x4 + 2) fun x27 =>
    if sT σ23 a2 = 112 then (onI (rn 231 [.ref a2, .int x26, .int x27] σ23) (fun x30 σ28 =>
    if sT σ28 a2 = 112 then (onI (rn 177 [.ref a2] σ28) (fun x33 σ31 =>
      if (x33 = x25 : Prop) then (exec PP 65 371 1487 [some (.ref a0), some (.ref a1), some (.ref a2), some (.ref a3), some (.int x4), some (.int x25), some (.int x30)] [] σ31)
        else (some (.inl (some (.int 0)), σ31))) (fun _ _ => none)) else none) (fun _ _ => none)) else none) (fun _ _ => none) := (exec_eq PP 65 371 1439 _ _ σ).trans ((congrArg (fun r => runL (callE PP 65) (PP.2.2.1 371) (exec PP 65 371) r _ _ σ) sk371_1439).trans rfl)
theorem sk371_1514 : seek 1514 (PP.1 371) = seek 1514 cs_17 := (((((((((((((((((sk_0 1514).trans (show seek 1514 cs_0 = seek 1514 cs_1 from seek_app (a := cd_371_0) (by decide +kernel))).trans (show seek 1514 cs_1 = seek 1514 cs_2 from seek_app (a := cd_371_1) (by decide +kernel))).trans (show seek 1514 cs_2 = seek 1514 cs_3 from seek_app (a := cd_371_2) (by decide +kernel))).trans (show seek 1514 cs_3 = seek 1514 cs_4 from seek_app (a := cd_371_3) (by decide +kernel))).trans (show seek 1514 cs_4 = seek 1514 cs_5 from seek_app (a := cd_371_4) (by decide +kernel))).trans (show seek 1514 cs_5 = seek 1514 cs_6 from seek_app (a := cd_371_5) (by decide +kernel))).trans (show seek 1514 cs_6 = seek 1514 cs_7 from seek_app (a := cd_371_6) (by decide +kernel))).trans (show seek 1514 cs_7 = seek 1514 cs_8 from seek_app (a := cd_371_7) (by decide +kernel))).trans (show seek 1514 cs_8 = seek 1514 cs_9 from seek_app (a := cd_371_8) (by decide +kernel))).trans (show seek 1514 cs_9 = seek 1514 cs_10 from seek_app (a := cd_371_9) (by decide +kernel))).trans (show seek 1514 cs_10 = seek 1514 cs_11 from seek_app (a := cd_371_10) (by decide +kernel))).trans (show seek 1514 cs_11 = seek 1514 cs_12 from seek_app (a := cd_371_11) (by decide +kernel))).trans (show seek 1514 cs_12 = seek 1514 cs_13 from seek_app (a := cd_371_12) (by decide +kernel))).trans (show seek 1514 cs_13 = seek 1514 cs_14 from seek_app (a := cd_371_13) (by decide +kernel))).trans (show seek 1514 cs_14 = seek 1514 cs_15 from seek_app (a := cd_371_14) (by decide +kernel))).trans (show seek 1514 cs_15 = seek 1514 cs_16 from seek_app (a := cd_371_15) (by decide +kernel))).trans (show seek 1514 cs_16 = seek 1514 cs_17 from seek_app (a := cd_371_16) (by decide +kernel))
set_option maxRecDepth 20000 in
theorem e_371_1514 (a0 : Nat) (a1 : Nat) (a2 : Nat) (a3 : Nat) (x4 : Int32) (o5 : Option Value) (o6 : Option Value) (σ : SH) : exec PP 65 371 1514 [some (.ref a0), some (.ref a1), some (.ref a2), some (.ref a3), some (.int x4), o5, o6] [] σ =
  aI σ 4 (.ref a0) (x4 + 1) fun x21 =>
  aI σ 4 (.ref a0) (x4 + 2) fun x22 =>
  onI (rn 347 [.ref a1, .int x21, .int x22, .ref a3] σ) (fun x25 σ23 =>
  aI σ23 4 (.ref a0) (x4 + 1) fun x26 =>
    aI σ23 4 (.ref a0) (x4 + 2) fun x27 =>
    if sT σ23 a2 = 112 then (onI (rn 235 [.ref a2, .int x26, .int x27] σ23) (fun x30 σ28 =>
    if sT σ28 a2 = 112 then (onI (rn 177 [.ref a2] σ28) (fun x33 σ31 =>
      if (x33 = x25 : Prop) then (exec PP 65 371 1562 [some (.ref a0), some (.ref a1), some (.ref a2), some (.ref a3), some (.int x4), some (.int x25), some (.int x30)] [] σ31)
        else (some (.inl (some (.int 0)), σ31))) (fun _ _ => none)) else none) (fun _ _ => none)) else none) (fun _ _ => none) := (exec_eq PP 65 371 1514 _ _ σ).trans ((congrArg (fun r => runL (callE PP 65) (PP.2.2.1 371) (exec PP 65 371) r _ _ σ) sk371_1514).trans rfl)
theorem sk371_1582 : seek 1582 (PP.1 371) = seek 1582 cs_18 := ((((((((((((((((((sk_0 1582).trans (show seek 1582 cs_0 = seek 1582 cs_1 from seek_app (a := cd_371_0) (by decide +kernel))).trans (show seek 1582 cs_1 = seek 1582 cs_2 from seek_app (a := cd_371_1) (by decide +kernel))).trans (show seek 1582 cs_2 = seek 1582 cs_3 from seek_app (a := cd_371_2) (by decide +kernel))).trans (show seek 1582 cs_3 = seek 1582 cs_4 from seek_app (a := cd_371_3) (by decide +kernel))).trans (show seek 1582 cs_4 = seek 1582 cs_5 from seek_app (a := cd_371_4) (by decide +kernel))).trans (show seek 1582 cs_5 = seek 1582 cs_6 from seek_app (a := cd_371_5) (by decide +kernel))).trans (show seek 1582 cs_6 = seek 1582 cs_7 from seek_app (a := cd_371_6) (by decide +kernel))).trans (show seek 1582 cs_7 = seek 1582 cs_8 from seek_app (a := cd_371_7) (by decide +kernel))).trans (show seek 1582 cs_8 = seek 1582 cs_9 from seek_app (a := cd_371_8) (by decide +kernel))).trans (show seek 1582 cs_9 = seek 1582 cs_10 from seek_app (a := cd_371_9) (by decide +kernel))).trans (show seek 1582 cs_10 = seek 1582 cs_11 from seek_app (a := cd_371_10) (by decide +kernel))).trans (show seek 1582 cs_11 = seek 1582 cs_12 from seek_app (a := cd_371_11) (by decide +kernel))).trans (show seek 1582 cs_12 = seek 1582 cs_13 from seek_app (a := cd_371_12) (by decide +kernel))).trans (show seek 1582 cs_13 = seek 1582 cs_14 from seek_app (a := cd_371_13) (by decide +kernel))).trans (show seek 1582 cs_14 = seek 1582 cs_15 from seek_app (a := cd_371_14) (by decide +kernel))).trans (show seek 1582 cs_15 = seek 1582 cs_16 from seek_app (a := cd_371_15) (by decide +kernel))).trans (show seek 1582 cs_16 = seek 1582 cs_17 from seek_app (a := cd_371_16) (by decide +kernel))).trans (show seek 1582 cs_17 = seek 1582 cs_18 from seek_app (a := cd_371_17) (by decide +kernel))
set_option maxRecDepth 20000 in
theorem e_371_1582 (a0 : Nat) (a1 : Nat) (a2 : Nat) (a3 : Nat) (x4 : Int32) (o5 : Option Value) (o6 : Option Value) (σ : SH) : exec PP 65 371 1582 [some (.ref a0), some (.ref a1), some (.ref a2), some (.ref a3), some (.int x4), o5, o6] [] σ =
  aI σ 4 (.ref a0) (x4 + 1) fun x21 =>
  aI σ 4 (.ref a0) (x4 + 2) fun x22 =>
  onI (rn 348 [.ref a1, .int x21, .int x22, .ref a3] σ) (fun x25 σ23 =>
  aI σ23 4 (.ref a0) (x4 + 1) fun x26 =>
    aI σ23 4 (.ref a0) (x4 + 2) fun x27 =>
    if sT σ23 a2 = 112 then (onI (rn 236 [.ref a2, .int x26, .int x27] σ23) (fun x30 σ28 =>
    if sT σ28 a2 = 112 then (onI (rn 177 [.ref a2] σ28) (fun x33 σ31 =>
      if (x33 = x25 : Prop) then (exec PP 65 371 1630 [some (.ref a0), some (.ref a1), some (.ref a2), some (.ref a3), some (.int x4), some (.int x25), some (.int x30)] [] σ31)
        else (some (.inl (some (.int 0)), σ31))) (fun _ _ => none)) else none) (fun _ _ => none)) else none) (fun _ _ => none) := (exec_eq PP 65 371 1582 _ _ σ).trans ((congrArg (fun r => runL (callE PP 65) (PP.2.2.1 371) (exec PP 65 371) r _ _ σ) sk371_1582).trans rfl)
theorem sk371_1650 : seek 1650 (PP.1 371) = seek 1650 cs_19 := (((((((((((((((((((sk_0 1650).trans (show seek 1650 cs_0 = seek 1650 cs_1 from seek_app (a := cd_371_0) (by decide +kernel))).trans (show seek 1650 cs_1 = seek 1650 cs_2 from seek_app (a := cd_371_1) (by decide +kernel))).trans (show seek 1650 cs_2 = seek 1650 cs_3 from seek_app (a := cd_371_2) (by decide +kernel))).trans (show seek 1650 cs_3 = seek 1650 cs_4 from seek_app (a := cd_371_3) (by decide +kernel))).trans (show seek 1650 cs_4 = seek 1650 cs_5 from seek_app (a := cd_371_4) (by decide +kernel))).trans (show seek 1650 cs_5 = seek 1650 cs_6 from seek_app (a := cd_371_5) (by decide +kernel))).trans (show seek 1650 cs_6 = seek 1650 cs_7 from seek_app (a := cd_371_6) (by decide +kernel))).trans (show seek 1650 cs_7 = seek 1650 cs_8 from seek_app (a := cd_371_7) (by decide +kernel))).trans (show seek 1650 cs_8 = seek 1650 cs_9 from seek_app (a := cd_371_8) (by decide +kernel))).trans (show seek 1650 cs_9 = seek 1650 cs_10 from seek_app (a := cd_371_9) (by decide +kernel))).trans (show seek 1650 cs_10 = seek 1650 cs_11 from seek_app (a := cd_371_10) (by decide +kernel))).trans (show seek 1650 cs_11 = seek 1650 cs_12 from seek_app (a := cd_371_11) (by decide +kernel))).trans (show seek 1650 cs_12 = seek 1650 cs_13 from seek_app (a := cd_371_12) (by decide +kernel))).trans (show seek 1650 cs_13 = seek 1650 cs_14 from seek_app (a := cd_371_13) (by decide +kernel))).trans (show seek 1650 cs_14 = seek 1650 cs_15 from seek_app (a := cd_371_14) (by decide +kernel))).trans (show seek 1650 cs_15 = seek 1650 cs_16 from seek_app (a := cd_371_15) (by decide +kernel))).trans (show seek 1650 cs_16 = seek 1650 cs_17 from seek_app (a := cd_371_16) (by decide +kernel))).trans (show seek 1650 cs_17 = seek 1650 cs_18 from seek_app (a := cd_371_17) (by decide +kernel))).trans (show seek 1650 cs_18 = seek 1650 cs_19 from seek_app (a := cd_371_18) (by decide +kernel))
set_option maxRecDepth 20000 in
theorem e_371_1650 (a0 : Nat) (a1 : Nat) (a2 : Nat) (a3 : Nat) (x4 : Int32) (o5 : Option Value) (o6 : Option Value) (σ : SH) : exec PP 65 371 1650 [some (.ref a0), some (.ref a1), some (.ref a2), some (.ref a3), some (.int x4), o5, o6] [] σ =
  aI σ 4 (.ref a0) (x4 + 1) fun x21 =>
  aI σ 4 (.ref a0) (x4 + 2) fun x22 =>
  aI σ 4 (.ref a0) (x4 + 3) fun x23 =>
  onI (rn 349 [.ref a1, .int x21, .int x22, .int x23, .ref a3] σ) (fun x26 σ24 =>
  aI σ24 4 (.ref a0) (x4 + 1) fun x27 =>
    aI σ24 4 (.ref a0) (x4 + 2) fun x28 =>
    aI σ24 4 (.ref a0) (x4 + 3) fun x29 =>
    if sT σ24 a2 = 112 then (onI (rn 238 [.ref a2, .int x27, .int x28, .int x29] σ24) (fun x32 σ30 =>
    if sT σ30 a2 = 112 then (onI (rn 177 [.ref a2] σ30) (fun x35 σ33 =>
      if (x35 = x26 : Prop) then (exec PP 65 371 1710 [some (.ref a0), some (.ref a1), some (.ref a2), some (.ref a3), some (.int x4), some (.int x26), some (.int x32)] [] σ33)
        else (some (.inl (some (.int 0)), σ33))) (fun _ _ => none)) else none) (fun _ _ => none)) else none) (fun _ _ => none) := (exec_eq PP 65 371 1650 _ _ σ).trans ((congrArg (fun r => runL (callE PP 65) (PP.2.2.1 371) (exec PP 65 371) r _ _ σ) sk371_1650).trans rfl)
theorem sk371_1730 : seek 1730 (PP.1 371) = seek 1730 cs_20 := ((((((((((((((((((((sk_0 1730).trans (show seek 1730 cs_0 = seek 1730 cs_1 from seek_app (a := cd_371_0) (by decide +kernel))).trans (show seek 1730 cs_1 = seek 1730 cs_2 from seek_app (a := cd_371_1) (by decide +kernel))).trans (show seek 1730 cs_2 = seek 1730 cs_3 from seek_app (a := cd_371_2) (by decide +kernel))).trans (show seek 1730 cs_3 = seek 1730 cs_4 from seek_app (a := cd_371_3) (by decide +kernel))).trans (show seek 1730 cs_4 = seek 1730 cs_5 from seek_app (a := cd_371_4) (by decide +kernel))).trans (show seek 1730 cs_5 = seek 1730 cs_6 from seek_app (a := cd_371_5) (by decide +kernel))).trans (show seek 1730 cs_6 = seek 1730 cs_7 from seek_app (a := cd_371_6) (by decide +kernel))).trans (show seek 1730 cs_7 = seek 1730 cs_8 from seek_app (a := cd_371_7) (by decide +kernel))).trans (show seek 1730 cs_8 = seek 1730 cs_9 from seek_app (a := cd_371_8) (by decide +kernel))).trans (show seek 1730 cs_9 = seek 1730 cs_10 from seek_app (a := cd_371_9) (by decide +kernel))).trans (show seek 1730 cs_10 = seek 1730 cs_11 from seek_app (a := cd_371_10) (by decide +kernel))).trans (show seek 1730 cs_11 = seek 1730 cs_12 from seek_app (a := cd_371_11) (by decide +kernel))).trans (show seek 1730 cs_12 = seek 1730 cs_13 from seek_app (a := cd_371_12) (by decide +kernel))).trans (show seek 1730 cs_13 = seek 1730 cs_14 from seek_app (a := cd_371_13) (by decide +kernel))).trans (show seek 1730 cs_14 = seek 1730 cs_15 from seek_app (a := cd_371_14) (by decide +kernel))).trans (show seek 1730 cs_15 = seek 1730 cs_16 from seek_app (a := cd_371_15) (by decide +kernel))).trans (show seek 1730 cs_16 = seek 1730 cs_17 from seek_app (a := cd_371_16) (by decide +kernel))).trans (show seek 1730 cs_17 = seek 1730 cs_18 from seek_app (a := cd_371_17) (by decide +kernel))).trans (show seek 1730 cs_18 = seek 1730 cs_19 from seek_app (a := cd_371_18) (by decide +kernel))).trans (show seek 1730 cs_19 = seek 1730 cs_20 from seek_app (a := cd_371_19) (by decide +kernel))
set_option maxRecDepth 20000 in
theorem e_371_1730 (a0 : Nat) (a1 : Nat) (a2 : Nat) (a3 : Nat) (x4 : Int32) (o5 : Option Value) (o6 : Option Value) (σ : SH) : exec PP 65 371 1730 [some (.ref a0), some (.ref a1), some (.ref a2), some (.ref a3), some (.int x4), o5, o6] [] σ =
  aI σ 4 (.ref a0) (x4 + 1) fun x21 =>
  aI σ 4 (.ref a0) (x4 + 2) fun x22 =>
  onI (rn 350 [.ref a1, .int x21, .int x22, .ref a3] σ) (fun x25 σ23 =>
  aI σ23 4 (.ref a0) (x4 + 1) fun x26 =>
    aI σ23 4 (.ref a0) (x4 + 2) fun x27 =>
    if sT σ23 a2 = 112 then (onI (rn 241 [.ref a2, .int x26, .int x27] σ23) (fun x30 σ28 =>
    if sT σ28 a2 = 112 then (onI (rn 177 [.ref a2] σ28) (fun x33 σ31 =>
      if (x33 = x25 : Prop) then (exec PP 65 371 1778 [some (.ref a0), some (.ref a1), some (.ref a2), some (.ref a3), some (.int x4), some (.int x25), some (.int x30)] [] σ31)
        else (some (.inl (some (.int 0)), σ31))) (fun _ _ => none)) else none) (fun _ _ => none)) else none) (fun _ _ => none) := (exec_eq PP 65 371 1730 _ _ σ).trans ((congrArg (fun r => runL (callE PP 65) (PP.2.2.1 371) (exec PP 65 371) r _ _ σ) sk371_1730).trans rfl)
theorem sk371_1798 : seek 1798 (PP.1 371) = seek 1798 cs_21 := (((((((((((((((((((((sk_0 1798).trans (show seek 1798 cs_0 = seek 1798 cs_1 from seek_app (a := cd_371_0) (by decide +kernel))).trans (show seek 1798 cs_1 = seek 1798 cs_2 from seek_app (a := cd_371_1) (by decide +kernel))).trans (show seek 1798 cs_2 = seek 1798 cs_3 from seek_app (a := cd_371_2) (by decide +kernel))).trans (show seek 1798 cs_3 = seek 1798 cs_4 from seek_app (a := cd_371_3) (by decide +kernel))).trans (show seek 1798 cs_4 = seek 1798 cs_5 from seek_app (a := cd_371_4) (by decide +kernel))).trans (show seek 1798 cs_5 = seek 1798 cs_6 from seek_app (a := cd_371_5) (by decide +kernel))).trans (show seek 1798 cs_6 = seek 1798 cs_7 from seek_app (a := cd_371_6) (by decide +kernel))).trans (show seek 1798 cs_7 = seek 1798 cs_8 from seek_app (a := cd_371_7) (by decide +kernel))).trans (show seek 1798 cs_8 = seek 1798 cs_9 from seek_app (a := cd_371_8) (by decide +kernel))).trans (show seek 1798 cs_9 = seek 1798 cs_10 from seek_app (a := cd_371_9) (by decide +kernel))).trans (show seek 1798 cs_10 = seek 1798 cs_11 from seek_app (a := cd_371_10) (by decide +kernel))).trans (show seek 1798 cs_11 = seek 1798 cs_12 from seek_app (a := cd_371_11) (by decide +kernel))).trans (show seek 1798 cs_12 = seek 1798 cs_13 from seek_app (a := cd_371_12) (by decide +kernel))).trans (show seek 1798 cs_13 = seek 1798 cs_14 from seek_app (a := cd_371_13) (by decide +kernel))).trans (show seek 1798 cs_14 = seek 1798 cs_15 from seek_app (a := cd_371_14) (by decide +kernel))).trans (show seek 1798 cs_15 = seek 1798 cs_16 from seek_app (a := cd_371_15) (by decide +kernel))).trans (show seek 1798 cs_16 = seek 1798 cs_17 from seek_app (a := cd_371_16) (by decide +kernel))).trans (show seek 1798 cs_17 = seek 1798 cs_18 from seek_app (a := cd_371_17) (by decide +kernel))).trans (show seek 1798 cs_18 = seek 1798 cs_19 from seek_app (a := cd_371_18) (by decide +kernel))).trans (show seek 1798 cs_19 = seek 1798 cs_20 from seek_app (a := cd_371_19) (by decide +kernel))).trans (show seek 1798 cs_20 = seek 1798 cs_21 from seek_app (a := cd_371_20) (by decide +kernel))
set_option maxRecDepth 20000 in
theorem e_371_1798 (a0 : Nat) (a1 : Nat) (a2 : Nat) (a3 : Nat) (x4 : Int32) (o5 : Option Value) (o6 : Option Value) (σ : SH) : exec PP 65 371 1798 [some (.ref a0), some (.ref a1), some (.ref a2), some (.ref a3), some (.int x4), o5, o6] [] σ =
  aI σ 4 (.ref a0) (x4 + 1) fun x21 =>
  aI σ 4 (.ref a0) (x4 + 2) fun x22 =>
  onI (rn 351 [.ref a1, .int x21, .int x22, .ref a3] σ) (fun x25 σ23 =>
  aI σ23 4 (.ref a0) (x4 + 1) fun x26 =>
    aI σ23 4 (.ref a0) (x4 + 2) fun x27 =>
    if sT σ23 a2 = 112 then (onI (rn 242 [.ref a2, .int x26, .int x27] σ23) (fun x30 σ28 =>
    if sT σ28 a2 = 112 then (onI (rn 177 [.ref a2] σ28) (fun x33 σ31 =>
      if (x33 = x25 : Prop) then (exec PP 65 371 1846 [some (.ref a0), some (.ref a1), some (.ref a2), some (.ref a3), some (.int x4), some (.int x25), some (.int x30)] [] σ31)
        else (some (.inl (some (.int 0)), σ31))) (fun _ _ => none)) else none) (fun _ _ => none)) else none) (fun _ _ => none) := (exec_eq PP 65 371 1798 _ _ σ).trans ((congrArg (fun r => runL (callE PP 65) (PP.2.2.1 371) (exec PP 65 371) r _ _ σ) sk371_1798).trans rfl)
