/-! The start: the signs, their texts, the reference's words, as the Statement has them. A path through its conjunctions is a number: bits from the low end, a 1 on top. -/
def pk : Nat → Nat → Cond → Cond
  | 0, _, c => c
  | n + 1, p, .and a b => if p = 1 then .and a b else if p % 2 = 1 then pk n (p / 2) b else pk n (p / 2) a
  | _ + 1, _, c => c
theorem pk_at {args : Array Value} {s : State} (n : Nat) : ∀ (p : Nat) (c : Cond), c.before args s = true → (pk n p c).before args s = true := by
  induction n with
  | zero => intro p c h; exact h
  | succ n ih =>
    intro p c h
    cases c
    case and a b =>
      have h2 := h
      rw [Cond.before_and, Bool.and_eq_true] at h2
      unfold pk
      split
      · exact h
      · split
        · exact ih _ _ h2.2
        · exact ih _ _ h2.1
    all_goals exact h
def nAt (p : Nat) (w : Cond) : Bool := decide (pk 40 p narrow_1 = w)
def sgO : List Int32 := [0, 1, 2, 3, 4, 5, 6, 7, 8, 9, 10, 11, 12, 13, 14, 15, 16, 17, 18, 19, 20, 21, 22, 23, 24, 25, 26, 27, 28, 29, 30, 31, 32, 33, 34, 35, 36, 37]
/-- strings: class, place in its pool, bytes -/
def stP : List (Nat × Nat × Nat × Nat × List Nat) := [(2387, 5459, 7507, 2899, [5971, 8019, 2259, 5331, 7379, 2771]), (2291, 5363, 7411, 2803, [5875, 7923, 2547, 5619, 7667, 5107]), (7307, 2699, 5771, 7819, [2443, 5515, 7563, 5003]), (7499, 2891, 5963, 8011, [2251, 5323, 7371, 2763]), (7883, 2507, 5579, 7627, [5067, 7115, 6091, 8139]), (5163, 7211, 2603, 5675, [7723, 2347, 5419, 7467, 2859, 5931]), (7891, 2515, 5587, 7635, [5075, 7123]), (8147, 2099, 5171, 7219, [2611, 5683, 7731, 2355]), (7475, 2867, 5939, 7987, [2227, 5299, 7347, 2739]), (7859, 2483, 5555, 7603, [5043, 7091, 6067, 8115]), (5235, 7283, 2675, 5747, [7795, 2419, 5491, 7539, 2931, 6003]), (6131, 8179, 2059, 5131, [7179, 2571]), (7691, 2315, 5387, 7435, [2827, 5899, 7947, 2187]), (6027, 8075, 2123, 5195, [7243, 2635, 5707, 7755, 2379]), (7851, 2475, 5547, 7595, [5035, 7083, 6059, 8107]), (5227, 7275, 2667, 5739, [7787, 2411, 5483, 7531, 2923]), (8043, 2283, 5355, 7403, [2795, 5867, 7915, 2539]), (7659, 5099, 7147, 6123, [8171, 2075]), (2491, 5563, 7611, 5051, [7099, 6075, 8123, 2171]), (7291, 2683, 5755, 7803, [2427, 5499, 7547]), (6011, 8059, 2299, 5371, [7419, 2811, 5883, 7931, 2555]), (7675, 5115, 7163, 6139, [8187, 135, 199, 167]), (487, 151, 215, 183, [375, 503, 143, 207]), (367, 495, 159, 351, [479, 191, 383]), (7579, 5019, 7067, 6043, [8091, 2139, 5211]), (2651, 5723, 7771, 2395, [5467, 7515, 2907, 5979, 8027]), (7195, 2587, 5659, 7707, [2331, 5403, 7451]), (5339, 7387, 2779, 5851, [7899]), (2523, 5595, 7643, 5083, [7131]), (6107, 8155, 2107, 5179, [7227]), (2619, 5691, 7739, 2363, [5435, 7483, 2875]), (7995, 2235, 5307, 7355, [2747, 5819]), (5915, 7963, 2203, 5275, [7323]), (2715, 5787, 7835, 2459, [5531]), (2219, 5291, 7339, 2731, [5803]), (7251, 2643, 5715, 7763, []), (7251, 2643, 5715, 7763, []), (7251, 2643, 5715, 7763, []), (2549, 3573, 3061, 4085, [1037, 2573, 3597, 1293, 2829, 3853]), (1165, 2701, 3725, 1421, [2957, 3981]), (1101, 2637, 3661, 1357, [2893, 3917, 1229, 2765]), (3789, 2509, 3533, 3021, [4045, 1069, 2605, 3629]), (1325, 2861, 3885, 1197, [2733, 3757, 1453, 2989]), (4013, 1133, 2669, 3693, [1389, 2925, 3949, 1261, 2797, 3821]), (2541, 3565, 3053, 4077, [1053, 2589, 3613, 1309, 2845, 3869]), (1181, 2717, 3741, 1437, [2973, 3997]), (1117, 2653, 3677, 1373, [2909, 3933, 1245, 2781]), (3805, 2525, 3549, 3037, [4061, 1085, 2621, 3645]), (1341, 2877, 3901, 1213, [2749, 3773, 1469, 3005, 4029]), (1149, 2685, 3709, 1405, [2941, 3965, 1277, 2813]), (3837, 2557, 3581, 3069, [4093, 2051, 5123, 7171]), (2563, 5635, 7683, 2307, [5379, 7427, 2819, 5891, 7939, 2179]), (5251, 7299, 2691, 5763, [7811, 2435, 5507, 7555]), (4995, 7043, 6019, 8067, [2115, 5187, 7235, 2627, 5699]), (7747, 2371, 5443, 7491, [2883, 5955, 8003, 2243]), (5315, 7363, 2755, 5827, [7875, 2499]), (5571, 7619, 5059, 7107, [6083, 8131, 2083]), (5155, 7203, 2595, 5667, [7715, 2339, 5411]), (7459, 2851, 5923, 7971, [2211, 5283, 7331, 2723, 5795]), (7843, 2467, 5539, 7587, [5027, 7075, 6051, 8099]), (2147, 5219, 7267, 2659, [5731, 7779, 2403]), (5475, 7523, 2915, 5987, [8035, 2275, 5347, 7395, 2787]), (5859, 7907, 2531, 5603, [7651, 5091, 7139, 6115]), (8163, 2067, 5139, 7187, [2579, 5651, 7699, 2323]), (5395, 7443, 2835, 5907, [7955, 2195, 5267]), (7315, 2707, 5779, 7827, [2451, 5523, 7571]), (5011, 7059, 6035, 8083, [2131, 5203])]
/-- paths of a sign: exactly, ordinal, code, text, its place in the row -/
def sgP : List (Nat × Nat × Nat × Nat × Nat) := [(1104, 2640, 1360, 3664, 1344), (4016, 1136, 3696, 2672, 2880), (3056, 4080, 2568, 1032, 3904), (1160, 2696, 1416, 3720, 1216), (2952, 3976, 2632, 1096, 2752), (3656, 1352, 3912, 2888, 3776), (2896, 3920, 2768, 1232, 2496), (3792, 2512, 3024, 3536, 3520), (4048, 1072, 3632, 2608, 3008), (1328, 2864, 1200, 3888, 4032), (2736, 3760, 2992, 1456, 1056), (1392, 2928, 1264, 3952, 2592), (2800, 3824, 3568, 2544, 3616), (3592, 1288, 3848, 2824, 1312), (4040, 1064, 3624, 2600, 2848), (1320, 2856, 1192, 3880, 3872), (2728, 3752, 2984, 1448, 1184), (4008, 1128, 3688, 2664, 2720), (3896, 1208, 3768, 2744, 3744), (1464, 3000, 1144, 4024, 1440), (2680, 3704, 2936, 1400, 2976), (3960, 1272, 3832, 2808, 4000), (2552, 3576, 4088, 3064, 1120), (1028, 2564, 1284, 3588, 2656), (3608, 1304, 3864, 2840, 3680), (1176, 2712, 1432, 3736, 1376), (1384, 2920, 1256, 3944, 2912), (2968, 3992, 2648, 1112, 3936), (3672, 1368, 3928, 2904, 1248), (1240, 2776, 2520, 3800, 2784), (3544, 3032, 1080, 4056, 3808), (2616, 3640, 2872, 1336, 2528), (2792, 3816, 3560, 2536, 3552), (3048, 4072, 2584, 1048, 3040), (1224, 2760, 2504, 3784, 4064), (3584, 1280, 3840, 2816, 1040), (1152, 2688, 1408, 3712, 2576), (3728, 1424, 3984, 2960, 3600)]
def stQ (i : Nat) : Nat × Nat × Nat × Nat × List Nat := nthD stP i (0, 0, 0, 0, [])
def sgQ (i : Nat) : Nat × Nat × Nat × Nat × Nat := nthD sgP i (0, 0, 0, 0, 0)
def tmS (i : Nat) : Term := .string (stE i).1 (stE i).2.1
def tmV (i : Nat) : Term := .field (tmS i) "java/lang/String" "value" "[B"
def tmG (i : Nat) : Term := .static "ArchEnds$Sign" (nthD stTab i ("", "", "")).2.1 "LArchEnds$Sign;"
def tmR : Term := .static "ArchEnds" "SIGNS" "[LArchEnds$Sign;"
def stB (i : Nat) : Bool := nAt (stQ i).1 (.exactly (tmS i) "java/lang/String") && nAt (stQ i).2.1 (.eq (.field (tmS i) "java/lang/String" "coder" "B") (.int 0)) && nAt (stQ i).2.2.1 (.arrayOf (tmV i) .byte) && nAt (stQ i).2.2.2.1 (.eq (.length (tmV i)) (.int (Int32.ofNat (stE i).2.2.length))) && decide ((stE i).2.2.length < 100) &&
  (List.range (stE i).2.2.length).all (fun j => nAt (nthD (stQ i).2.2.2.2 j 0) (.eq (.elem (tmV i) (.int (Int32.ofNat j))) (.int (nthD (stE i).2.2 j 0))))
def sgB (i : Nat) : Bool := nAt (sgQ i).1 (.exactly (tmG i) "ArchEnds$Sign") && nAt (sgQ i).2.1 (.eq (.field (tmG i) "java/lang/Enum" "ordinal" "I") (.int (nthD sgO i 0))) && nAt (sgQ i).2.2.1 (.eq (.field (tmG i) "ArchEnds$Sign" "code" "I") (.int (nthD sgC i 0))) &&
  nAt (sgQ i).2.2.2.1 (.eq (.field (tmG i) "ArchEnds$Sign" "text" "Ljava/lang/String;") (tmS i)) && nAt (sgQ i).2.2.2.2 (.eq (.elem tmR (.int (Int32.ofNat i))) (tmG i)) && lw_tbl.contains (.laysStatic "ArchEnds$Sign" (nthD stTab i ("", "", "")).2.1 "LArchEnds$Sign;") && decide ((nthD stTab i ("", "", "")).1 = "ArchEnds$Sign") && decide ((nthD stTab i ("", "", "")).2.2 = "LArchEnds$Sign;")
theorem st_ok : (List.range 67).all stB = true := by decide +kernel
theorem sg_ok : (List.range 38).all sgB = true := by decide +kernel
theorem sg_ap : (List.range 38).all (fun i => (List.range 38).all fun j => i == j || !(nthD sgO i 0 == nthD sgO j 0)) = true := by decide +kernel
def exP : List (List Nat) := [[0, 3748, 1044, 3924, 1460], [2884, 0, 2580, 1236, 2996], [1220, 2980, 0, 3796, 1140], [2756, 4004, 1300, 0, 2676], [3780, 1124, 2836, 2516, 0]]
theorem exP_ok : (List.range 5).all (fun x => (List.range 5).all fun y => x == y || nAt (nthD (nthD exP x []) y 0) (.not (.castable (eN x) (eN y)))) = true := by decide +kernel
theorem nq_0 : nAt 1088 (.arrayOf tmR (.object "ArchEnds$Sign")) = true := by decide +kernel
theorem nq_1 : nAt 2624 (.eq (.length tmR) (.int 38)) = true := by decide +kernel
theorem nq_2 : nAt 1296 (.eq (.static "java/lang/String" "COMPACT_STRINGS" "Z") (.int 1)) = true := by decide +kernel
theorem nq_3 : nAt 2832 (.isRef (.static "jdk/internal/util/Preconditions" "SIOOBE_FORMATTER" "Ljava/util/function/BiFunction;")) = true := by decide +kernel
theorem nq_4 : nAt 3528 (.isRef (.static Bundle.tN "UNASSIGNED_STACK" Bundle.steD)) = true := by decide +kernel
theorem nq_5 : nAt 3016 (.isRef (.static Bundle.tN "SUPPRESSED_SENTINEL" Bundle.listD)) = true := by decide +kernel
theorem lq_ok : [Cond.laysStatic "ArchEnds" "SIGNS" "[LArchEnds$Sign;", .laysStatic "java/lang/String" "COMPACT_STRINGS" "Z", .laysStatic "jdk/internal/util/Preconditions" "SIOOBE_FORMATTER" "Ljava/util/function/BiFunction;", .laysStatic Bundle.tN "UNASSIGNED_STACK" Bundle.steD, .laysStatic Bundle.tN "SUPPRESSED_SENTINEL" Bundle.listD,
  .initialized "ArchEnds", .initialized "ArchEnds$Sign", .initialized "java/lang/String", .initialized "jdk/internal/util/Preconditions", .initialized Bundle.tN].all (fun w => lw_tbl.contains w) = true := by decide +kernel
theorem sr_ok : srTab.all (fun q => decide (120 ≤ q.1) && decide (q.1 < 149) && decide ((stE (38 + (q.1 - 120))).1 = "ArchEndsModel") && decide ((stE (38 + (q.1 - 120))).2.1 = q.2.1) && lw_tbl.contains (.stringRef "ArchEndsModel" q.2.1 q.2.2)) = true := by decide +kernel
theorem st_38 : decide (nthD stTab 38 ("", "", "") = ("ArchEnds", "SIGNS", "[LArchEnds$Sign;")) && decide (nthD stTab 39 ("", "", "") = ("jdk/internal/util/Preconditions", "SIOOBE_FORMATTER", "Ljava/util/function/BiFunction;")) = true := by decide +kernel
theorem fT_99 : decide (fT 9 0 = ("ArchEnds$Sign", "text", "Ljava/lang/String;", true)) && decide (fT 9 1 = ("ArchEnds$Sign", "code", "I", true)) && decide (fT 13 0 = ("java/lang/String", "value", "[B", true)) && decide (fT 13 1 = ("java/lang/String", "coder", "B", true)) && decide (nf 9 = 2) && decide (nf 13 = 2) && decide (cN 9 = "ArchEnds$Sign") && decide (cN 13 = "java/lang/String") && isRf 9 0 && !isRf 9 1 && isRf 13 0 && !isRf 13 1 = true := by decide +kernel
