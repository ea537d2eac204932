/-! words of the tables -/
theorem wIn {w : Cond} (i : Nat) (h : tables_1[i]? = some w) (hg : goodWord w = true) : w ∈ wAll := List.mem_filter.mpr ⟨List.mem_append_right _ (List.mem_of_getElem? h), hg⟩
theorem nIn {w : Cond} (i : Nat) (h : tables_1[i]? = some w) (hg : isNest w = true) : w ∈ wNest := List.mem_filter.mpr ⟨List.mem_append_right _ (List.mem_of_getElem? h), hg⟩
theorem pIn {w : Cond} (i : Nat) (h : (k2_sels lw_privs)[i]? = some w) (hg : goodWord w = true) : w ∈ wAll := List.mem_filter.mpr ⟨List.mem_append_left _ (List.mem_of_getElem? h), hg⟩
theorem wsIn {ws : List Cond} (ps : List Nat) (hp : ws = ps.filterMap (fun i => tables_1[i]?)) (hg : ws.all goodWord = true) : ∀ w ∈ ws, w ∈ wAll := by
  intro w hw
  have h1 := List.all_eq_true.mp hg w hw
  rw [hp] at hw
  obtain ⟨i, -, hi⟩ := List.mem_filterMap.mp hw
  exact wIn i hi h1
theorem lookup_else (ps : List (Int × Int)) (d v : Int) (h : ∀ q ∈ ps, q.1 ≠ v) : Op.lookupswitch.offset ps d v = d := by
  induction ps with
  | nil => rfl
  | cons q ps ih =>
    obtain ⟨a, b⟩ := q
    have h1 := h (a, b) List.mem_cons_self
    have h2 := ih (fun q hq => h q (List.mem_cons_of_mem _ hq))
    rw [Op.lookupswitch.offset_cons, if_neg h1]
    exact h2
theorem lkC_mk {y : MethodName} {cc : ByteArray} {nL n : Nat} {ret : Option FieldType} (h1 : Cond.code y cc nL ret ∈ wAll) (h2 : Cond.initialized y.cls ∈ wAll) (h3 : y.cls ≠ "java/lang/invoke/MethodHandle" ∧ y.cls ≠ "java/lang/invoke/VarHandle" ∧ (parseMethodDescriptor y.desc).map (fun d => d.parameters.length) = some n) (fr lo mc ms : Nat) : lkC (y, cc, nL, ret, fr, lo, mc, ms) n := ⟨h1, h2, h3⟩
theorem lkV_mk {own : String} {i c : Nat} {nest : Bool} {y : MethodName} {cc : ByteArray} {nL : Nat} {ret : Option FieldType} (C : String) (T : u_T) (N : Nat) (h0 : vwCl[c]? = some (C, T, N)) (h1 : if nest = true then Cond.methodLinkNest own i y "RingUntie" ∈ wNest else Cond.methodLink own i y ∈ wAll) (h2 : Cond.instanceMethod y ∈ wAll) (h3 : Cond.selects C y y ∈ wAll) (fr lo mc ms : Nat) : lkV own i c (y, cc, nL, ret, fr, lo, mc, ms) nest := ⟨C, T, N, h0, h1, h2, h3⟩
theorem lkS_mk {own : String} {i : Nat} {nest : Bool} {y : MethodName} {cc : ByteArray} {nL : Nat} {ret : Option FieldType} (h1 : if nest = true then Cond.methodLinkNest own i y "RingUntie" ∈ wNest else Cond.methodLink own i y ∈ wAll) (h2 : Cond.static y ∈ wAll) (fr lo mc ms : Nat) : lkS own i (y, cc, nL, ret, fr, lo, mc, ms) nest := ⟨h1, h2⟩
theorem lkI_mk {own : String} {i : Nat} {nest : Bool} {y : MethodName} {cc : ByteArray} {nL : Nat} (h1 : if nest = true then Cond.methodLinkNest own i y "RingUntie" ∈ wNest else Cond.methodLink own i y ∈ wAll) (h2 : Cond.instanceMethod y ∈ wAll) (h3 : y.name = "<init>") (fr lo mc ms : Nat) : lkI own i (y, cc, nL, none, fr, lo, mc, ms) nest := ⟨h1, h2, h3, rfl⟩
set_option maxRecDepth 100000 in
theorem inC0 : ∀ w ∈ u_ws RX0 TX0 2, w ∈ wAll := wsIn [240, 242] (by decide +kernel) (by decide +kernel)
set_option maxRecDepth 100000 in
theorem inC1 : ∀ w ∈ u_ws RX1 TX1 7, w ∈ wAll := wsIn [215, 217, 219, 221, 223, 225, 227] (by decide +kernel) (by decide +kernel)
set_option maxRecDepth 100000 in
theorem inC2 : ∀ w ∈ u_ws RX2 TX2 3, w ∈ wAll := wsIn [84, 86, 88] (by decide +kernel) (by decide +kernel)
set_option maxRecDepth 100000 in
theorem inC3 : ∀ w ∈ u_ws RX3 TX3 9, w ∈ wAll := wsIn [52, 54, 56, 58, 60, 62, 64, 66, 68] (by decide +kernel) (by decide +kernel)
set_option maxRecDepth 100000 in
theorem inC4 : ∀ w ∈ u_ws RX4 TX4 4, w ∈ wAll := wsIn [132, 134, 136, 138] (by decide +kernel) (by decide +kernel)
set_option maxRecDepth 100000 in
theorem inC5 : ∀ w ∈ u_ws RX5 TX5 6, w ∈ wAll := wsIn [108, 110, 112, 114, 116, 118] (by decide +kernel) (by decide +kernel)
set_option maxRecDepth 100000 in
theorem inC6 : ∀ w ∈ u_ws RX6 TX6 4, w ∈ wAll := wsIn [192, 194, 196, 198] (by decide +kernel) (by decide +kernel)
set_option maxRecDepth 100000 in
theorem inC7 : ∀ w ∈ u_ws RX7 TX7 7, w ∈ wAll := wsIn [165, 167, 169, 171, 173, 175, 177] (by decide +kernel) (by decide +kernel)
set_option maxRecDepth 100000 in
theorem inC8 : ∀ w ∈ u_ws RX8 TX8 14, w ∈ wAll := wsIn [259, 261, 263, 265, 267, 269, 271, 273, 275, 277, 279, 281, 283, 285] (by decide +kernel) (by decide +kernel)
set_option maxRecDepth 100000 in
theorem inC9 : ∀ w ∈ u_ws RX9 TX9 49, w ∈ wAll := wsIn [906, 908, 910, 912, 914, 916, 918, 920, 922, 924, 926, 928, 930, 932, 934, 936, 938, 940, 942, 944, 946, 948, 950, 952, 954, 956, 958, 960, 962, 964, 966, 968, 970, 972, 974, 976, 978, 980, 982, 984, 986, 988, 990, 992, 994, 996, 998, 1000, 1002] (by decide +kernel) (by decide +kernel)
set_option maxRecDepth 100000 in
theorem lf_4_22 : lkF RX4 22 4 3 := ⟨RX4, TX4, 4, rfl, by decide, rfl, inC4, (wIn 131 (by decide +kernel) (by decide +kernel))⟩
set_option maxRecDepth 100000 in
theorem lp_4_4_3 : lkP RX4 4 3 .boolean false := fun C T N h => by
  cases h
  exact ⟨⟨tyX4, tyX4_ok⟩, nmX4, by decide +kernel, by decide +kernel, fun h => by cases h⟩
set_option maxRecDepth 100000 in
theorem lf_4_30 : lkF RX4 30 3 3 := ⟨RX3, TX3, 9, rfl, by decide, rfl, inC3, (wIn 39 (by decide +kernel) (by decide +kernel))⟩
set_option maxRecDepth 100000 in
theorem lf_4_19 : lkF RX4 19 4 2 := ⟨RX4, TX4, 4, rfl, by decide, rfl, inC4, (wIn 129 (by decide +kernel) (by decide +kernel))⟩
set_option maxRecDepth 100000 in
theorem lp_4_4_2 : lkP RX4 4 2 .int false := fun C T N h => by
  cases h
  exact ⟨⟨tyX4, tyX4_ok⟩, nmX4, by decide +kernel, by decide +kernel, fun h => by cases h⟩
set_option maxRecDepth 100000 in
theorem lf_3_25 : lkF RX3 25 3 4 := ⟨RX3, TX3, 9, rfl, by decide, rfl, inC3, (wIn 41 (by decide +kernel) (by decide +kernel))⟩
set_option maxRecDepth 100000 in
theorem lc_X3_sortOf (fr lo mc ms : Nat) : lkC (yX3_sortOf, cX3_sortOf, 3, (some .int), fr, lo, mc, ms) 2 := lkC_mk (wIn 481 (by decide +kernel) (by decide +kernel)) (wIn 2 (by decide +kernel) (by decide +kernel)) (by decide +kernel) fr lo mc ms
set_option maxRecDepth 100000 in
theorem lv_4_35 (fr lo mc ms : Nat) : lkV RX4 35 3 (yX3_sortOf, cX3_sortOf, 3, (some .int), fr, lo, mc, ms) false := lkV_mk RX3 TX3 9 rfl (wIn 573 (by decide +kernel) (by decide +kernel)) (wIn 479 (by decide +kernel) (by decide +kernel)) (wIn 480 (by decide +kernel) (by decide +kernel)) fr lo mc ms
set_option maxRecDepth 100000 in
theorem lc_X3_numberOf (fr lo mc ms : Nat) : lkC (yX3_numberOf, cX3_numberOf, 3, (some .int), fr, lo, mc, ms) 2 := lkC_mk (wIn 486 (by decide +kernel) (by decide +kernel)) (wIn 2 (by decide +kernel) (by decide +kernel)) (by decide +kernel) fr lo mc ms
set_option maxRecDepth 100000 in
theorem lv_4_39 (fr lo mc ms : Nat) : lkV RX4 39 3 (yX3_numberOf, cX3_numberOf, 3, (some .int), fr, lo, mc, ms) false := lkV_mk RX3 TX3 9 rfl (wIn 574 (by decide +kernel) (by decide +kernel)) (wIn 484 (by decide +kernel) (by decide +kernel)) (wIn 485 (by decide +kernel) (by decide +kernel)) fr lo mc ms
set_option maxRecDepth 100000 in
theorem lc_X4_perform (fr lo mc ms : Nat) : lkC (yX4_perform, cX4_perform, 5, none, fr, lo, mc, ms) 4 := lkC_mk (wIn 578 (by decide +kernel) (by decide +kernel)) (wIn 5 (by decide +kernel) (by decide +kernel)) (by decide +kernel) fr lo mc ms
set_option maxRecDepth 100000 in
theorem lv_4_42 (fr lo mc ms : Nat) : lkV RX4 42 4 (yX4_perform, cX4_perform, 5, none, fr, lo, mc, ms) false := lkV_mk RX4 TX4 4 rfl (wIn 575 (by decide +kernel) (by decide +kernel)) (wIn 577 (by decide +kernel) (by decide +kernel)) (pIn 14 (by decide +kernel) (by decide +kernel)) fr lo mc ms
set_option maxRecDepth 100000 in
theorem lf_4_15 : lkF RX4 15 4 1 := ⟨RX4, TX4, 4, rfl, by decide, rfl, inC4, (wIn 128 (by decide +kernel) (by decide +kernel))⟩
set_option maxRecDepth 100000 in
theorem lp_4_4_1 : lkP RX4 4 1 .int false := fun C T N h => by
  cases h
  exact ⟨⟨tyX4, tyX4_ok⟩, nmX4, by decide +kernel, by decide +kernel, fun h => by cases h⟩
set_option maxRecDepth 100000 in
theorem lf_4_9 : lkF RX4 9 4 0 := ⟨RX4, TX4, 4, rfl, by decide, rfl, inC4, (wIn 127 (by decide +kernel) (by decide +kernel))⟩
set_option maxRecDepth 100000 in
theorem lc_X4_work (fr lo mc ms : Nat) : lkC (yX4_work, cX4_work, 6, none, fr, lo, mc, ms) 3 := lkC_mk (wIn 572 (by decide +kernel) (by decide +kernel)) (wIn 5 (by decide +kernel) (by decide +kernel)) (by decide +kernel) fr lo mc ms
set_option maxRecDepth 100000 in
theorem lv_4_26 (fr lo mc ms : Nat) : lkV RX4 26 4 (yX4_work, cX4_work, 6, none, fr, lo, mc, ms) false := lkV_mk RX4 TX4 4 rfl (wIn 569 (by decide +kernel) (by decide +kernel)) (wIn 571 (by decide +kernel) (by decide +kernel)) (pIn 13 (by decide +kernel) (by decide +kernel)) fr lo mc ms
set_option maxRecDepth 100000 in
theorem lc_X4_tellHearers (fr lo mc ms : Nat) : lkC (yX4_tellHearers, cX4_tellHearers, 5, none, fr, lo, mc, ms) 3 := lkC_mk (wIn 582 (by decide +kernel) (by decide +kernel)) (wIn 5 (by decide +kernel) (by decide +kernel)) (by decide +kernel) fr lo mc ms
set_option maxRecDepth 100000 in
theorem lv_4_46 (fr lo mc ms : Nat) : lkV RX4 46 4 (yX4_tellHearers, cX4_tellHearers, 5, none, fr, lo, mc, ms) false := lkV_mk RX4 TX4 4 rfl (wIn 579 (by decide +kernel) (by decide +kernel)) (wIn 581 (by decide +kernel) (by decide +kernel)) (pIn 15 (by decide +kernel) (by decide +kernel)) fr lo mc ms
set_option maxRecDepth 100000 in
theorem lf_4_49 : lkF RX4 49 3 6 := ⟨RX3, TX3, 9, rfl, by decide, rfl, inC3, (wIn 45 (by decide +kernel) (by decide +kernel))⟩
set_option maxRecDepth 100000 in
theorem lf_3_34 : lkF RX3 34 3 7 := ⟨RX3, TX3, 9, rfl, by decide, rfl, inC3, (wIn 48 (by decide +kernel) (by decide +kernel))⟩
set_option maxRecDepth 100000 in
theorem lc_X3_hearerOf (fr lo mc ms : Nat) : lkC (yX3_hearerOf, cX3_hearerOf, 3, (some .int), fr, lo, mc, ms) 2 := lkC_mk (wIn 497 (by decide +kernel) (by decide +kernel)) (wIn 2 (by decide +kernel) (by decide +kernel)) (by decide +kernel) fr lo mc ms
set_option maxRecDepth 100000 in
theorem lv_4_52 (fr lo mc ms : Nat) : lkV RX4 52 3 (yX3_hearerOf, cX3_hearerOf, 3, (some .int), fr, lo, mc, ms) false := lkV_mk RX3 TX3 9 rfl (wIn 583 (by decide +kernel) (by decide +kernel)) (wIn 495 (by decide +kernel) (by decide +kernel)) (wIn 496 (by decide +kernel) (by decide +kernel)) fr lo mc ms
set_option maxRecDepth 100000 in
theorem lf_0_22 : lkF RX0 22 6 1 := ⟨RX6, TX6, 4, rfl, by decide, rfl, inC6, (wIn 183 (by decide +kernel) (by decide +kernel))⟩
set_option maxRecDepth 100000 in
theorem lf_0_9 : lkF RX0 9 0 0 := ⟨RX0, TX0, 2, rfl, by decide, rfl, inC0, (wIn 238 (by decide +kernel) (by decide +kernel))⟩
set_option maxRecDepth 100000 in
theorem la_0_27 : Cond.methodLink RX0 27 arraycopyName ∈ wAll := (wIn 704 (by decide +kernel) (by decide +kernel))
set_option maxRecDepth 100000 in
theorem la_nat : Cond.native arraycopyName ∈ wAll := (wIn 298 (by decide +kernel) (by decide +kernel))
set_option maxRecDepth 100000 in
theorem la_st : Cond.static arraycopyName ∈ wAll := (wIn 297 (by decide +kernel) (by decide +kernel))
set_option maxRecDepth 100000 in
theorem la_in : Cond.initialized "java/lang/System" ∈ wAll := (wIn 11 (by decide +kernel) (by decide +kernel))
set_option maxRecDepth 100000 in
theorem lf_0_18 : lkF RX0 18 0 1 := ⟨RX0, TX0, 2, rfl, by decide, rfl, inC0, (wIn 239 (by decide +kernel) (by decide +kernel))⟩
set_option maxRecDepth 100000 in
theorem lf_0_33 : lkF RX0 33 6 3 := ⟨RX6, TX6, 4, rfl, by decide, rfl, inC6, (wIn 190 (by decide +kernel) (by decide +kernel))⟩
set_option maxRecDepth 100000 in
theorem lf_0_34 : lkF RX0 34 7 0 := ⟨RX7, TX7, 7, rfl, by decide, rfl, inC7, (wIn 155 (by decide +kernel) (by decide +kernel))⟩
set_option maxRecDepth 100000 in
theorem lf_7_9 : lkF RX7 9 7 0 := ⟨RX7, TX7, 7, rfl, by decide, rfl, inC7, (wIn 153 (by decide +kernel) (by decide +kernel))⟩
set_option maxRecDepth 100000 in
theorem lp_7_7_0 : lkP RX7 7 0 .int false := fun C T N h => by
  cases h
  exact ⟨⟨tyX7, tyX7_ok⟩, nmX7, by decide +kernel, by decide +kernel, fun h => by cases h⟩
set_option maxRecDepth 100000 in
theorem lf_7_15 : lkF RX7 15 7 1 := ⟨RX7, TX7, 7, rfl, by decide, rfl, inC7, (wIn 157 (by decide +kernel) (by decide +kernel))⟩
set_option maxRecDepth 100000 in
theorem lc_X8_pair (fr lo mc ms : Nat) : lkC (yX8_pair, cX8_pair, 2, (some .int), fr, lo, mc, ms) 2 := lkC_mk (wIn 473 (by decide +kernel) (by decide +kernel)) (wIn 1 (by decide +kernel) (by decide +kernel)) (by decide +kernel) fr lo mc ms
set_option maxRecDepth 100000 in
theorem ls_7_34 (fr lo mc ms : Nat) : lkS RX7 34 (yX8_pair, cX8_pair, 2, (some .int), fr, lo, mc, ms) true := lkS_mk (show _ from (nIn 506 (by decide +kernel) (by decide +kernel))) (wIn 472 (by decide +kernel) (by decide +kernel)) fr lo mc ms
set_option maxRecDepth 100000 in
theorem lf_7_19 : lkF RX7 19 7 2 := ⟨RX7, TX7, 7, rfl, by decide, rfl, inC7, (wIn 158 (by decide +kernel) (by decide +kernel))⟩
set_option maxRecDepth 100000 in
theorem lc_X8_isIn (fr lo mc ms : Nat) : lkC (yX8_isIn, cX8_isIn, 2, (some .boolean), fr, lo, mc, ms) 2 := lkC_mk (wIn 509 (by decide +kernel) (by decide +kernel)) (wIn 1 (by decide +kernel) (by decide +kernel)) (by decide +kernel) fr lo mc ms
set_option maxRecDepth 100000 in
theorem ls_7_38 (fr lo mc ms : Nat) : lkS RX7 38 (yX8_isIn, cX8_isIn, 2, (some .boolean), fr, lo, mc, ms) true := lkS_mk (show _ from (nIn 507 (by decide +kernel) (by decide +kernel))) (wIn 508 (by decide +kernel) (by decide +kernel)) fr lo mc ms
set_option maxRecDepth 100000 in
theorem lc_X7_link (fr lo mc ms : Nat) : lkC (yX7_link, cX7_link, 5, none, fr, lo, mc, ms) 2 := lkC_mk (wIn 505 (by decide +kernel) (by decide +kernel)) (wIn 7 (by decide +kernel) (by decide +kernel)) (by decide +kernel) fr lo mc ms
set_option maxRecDepth 100000 in
theorem lv_0_38 (fr lo mc ms : Nat) : lkV RX0 38 7 (yX7_link, cX7_link, 5, none, fr, lo, mc, ms) false := lkV_mk RX7 TX7 7 rfl (wIn 705 (by decide +kernel) (by decide +kernel)) (wIn 503 (by decide +kernel) (by decide +kernel)) (wIn 504 (by decide +kernel) (by decide +kernel)) fr lo mc ms
set_option maxRecDepth 100000 in
theorem lf_7_22 : lkF RX7 22 7 3 := ⟨RX7, TX7, 7, rfl, by decide, rfl, inC7, (wIn 159 (by decide +kernel) (by decide +kernel))⟩
set_option maxRecDepth 100000 in
theorem lc_X7_measureTo (fr lo mc ms : Nat) : lkC (yX7_measureTo, cX7_measureTo, 6, none, fr, lo, mc, ms) 1 := lkC_mk (wIn 643 (by decide +kernel) (by decide +kernel)) (wIn 7 (by decide +kernel) (by decide +kernel)) (by decide +kernel) fr lo mc ms
set_option maxRecDepth 100000 in
theorem lv_7_55 (fr lo mc ms : Nat) : lkV RX7 55 7 (yX7_measureTo, cX7_measureTo, 6, none, fr, lo, mc, ms) false := lkV_mk RX7 TX7 7 rfl (wIn 640 (by decide +kernel) (by decide +kernel)) (wIn 642 (by decide +kernel) (by decide +kernel)) (pIn 18 (by decide +kernel) (by decide +kernel)) fr lo mc ms
set_option maxRecDepth 100000 in
theorem lc_X7_isTie (fr lo mc ms : Nat) : lkC (yX7_isTie, cX7_isTie, 3, (some .boolean), fr, lo, mc, ms) 2 := lkC_mk (wIn 532 (by decide +kernel) (by decide +kernel)) (wIn 7 (by decide +kernel) (by decide +kernel)) (by decide +kernel) fr lo mc ms
set_option maxRecDepth 100000 in
theorem lv_7_42 (fr lo mc ms : Nat) : lkV RX7 42 7 (yX7_isTie, cX7_isTie, 3, (some .boolean), fr, lo, mc, ms) false := lkV_mk RX7 TX7 7 rfl (wIn 529 (by decide +kernel) (by decide +kernel)) (wIn 530 (by decide +kernel) (by decide +kernel)) (wIn 531 (by decide +kernel) (by decide +kernel)) fr lo mc ms
set_option maxRecDepth 100000 in
theorem lf_7_31 : lkF RX7 31 7 6 := ⟨RX7, TX7, 7, rfl, by decide, rfl, inC7, (wIn 164 (by decide +kernel) (by decide +kernel))⟩
set_option maxRecDepth 100000 in
theorem lp_7_7_6 : lkP RX7 7 6 .int false := fun C T N h => by
  cases h
  exact ⟨⟨tyX7, tyX7_ok⟩, nmX7, by decide +kernel, by decide +kernel, fun h => by cases h⟩
set_option maxRecDepth 100000 in
theorem lc_X7_isRingTie (fr lo mc ms : Nat) : lkC (yX7_isRingTie, cX7_isRingTie, 3, (some .boolean), fr, lo, mc, ms) 2 := lkC_mk (wIn 528 (by decide +kernel) (by decide +kernel)) (wIn 7 (by decide +kernel) (by decide +kernel)) (by decide +kernel) fr lo mc ms
set_option maxRecDepth 100000 in
theorem lv_7_52 (fr lo mc ms : Nat) : lkV RX7 52 7 (yX7_isRingTie, cX7_isRingTie, 3, (some .boolean), fr, lo, mc, ms) false := lkV_mk RX7 TX7 7 rfl (wIn 639 (by decide +kernel) (by decide +kernel)) (wIn 526 (by decide +kernel) (by decide +kernel)) (wIn 527 (by decide +kernel) (by decide +kernel)) fr lo mc ms
set_option maxRecDepth 100000 in
theorem lf_7_28 : lkF RX7 28 7 5 := ⟨RX7, TX7, 7, rfl, by decide, rfl, inC7, (wIn 161 (by decide +kernel) (by decide +kernel))⟩
set_option maxRecDepth 100000 in
theorem lc_X7_nextTowardsHome (fr lo mc ms : Nat) : lkC (yX7_nextTowardsHome, cX7_nextTowardsHome, 3, (some .int), fr, lo, mc, ms) 1 := lkC_mk (wIn 647 (by decide +kernel) (by decide +kernel)) (wIn 7 (by decide +kernel) (by decide +kernel)) (by decide +kernel) fr lo mc ms
set_option maxRecDepth 100000 in
theorem lv_7_59 (fr lo mc ms : Nat) : lkV RX7 59 7 (yX7_nextTowardsHome, cX7_nextTowardsHome, 3, (some .int), fr, lo, mc, ms) false := lkV_mk RX7 TX7 7 rfl (wIn 644 (by decide +kernel) (by decide +kernel)) (wIn 646 (by decide +kernel) (by decide +kernel)) (pIn 19 (by decide +kernel) (by decide +kernel)) fr lo mc ms
set_option maxRecDepth 100000 in
theorem lc_X7_findRing (fr lo mc ms : Nat) : lkC (yX7_findRing, cX7_findRing, 5, (some .int), fr, lo, mc, ms) 2 := lkC_mk (wIn 638 (by decide +kernel) (by decide +kernel)) (wIn 7 (by decide +kernel) (by decide +kernel)) (by decide +kernel) fr lo mc ms
set_option maxRecDepth 100000 in
theorem lv_7_62 (fr lo mc ms : Nat) : lkV RX7 62 7 (yX7_findRing, cX7_findRing, 5, (some .int), fr, lo, mc, ms) false := lkV_mk RX7 TX7 7 rfl (wIn 710 (by decide +kernel) (by decide +kernel)) (wIn 636 (by decide +kernel) (by decide +kernel)) (wIn 637 (by decide +kernel) (by decide +kernel)) fr lo mc ms
set_option maxRecDepth 100000 in
theorem lc_X7_findShortestRing (fr lo mc ms : Nat) : lkC (yX7_findShortestRing, cX7_findShortestRing, 6, (some .int), fr, lo, mc, ms) 0 := lkC_mk (wIn 709 (by decide +kernel) (by decide +kernel)) (wIn 7 (by decide +kernel) (by decide +kernel)) (by decide +kernel) fr lo mc ms
set_option maxRecDepth 100000 in
theorem lv_0_42 (fr lo mc ms : Nat) : lkV RX0 42 7 (yX7_findShortestRing, cX7_findShortestRing, 6, (some .int), fr, lo, mc, ms) false := lkV_mk RX7 TX7 7 rfl (wIn 706 (by decide +kernel) (by decide +kernel)) (wIn 707 (by decide +kernel) (by decide +kernel)) (wIn 708 (by decide +kernel) (by decide +kernel)) fr lo mc ms
set_option maxRecDepth 100000 in
theorem lw_0_50 : Cond.constant RX0 50 1000000 ∈ wAll := (wIn 715 (by decide +kernel) (by decide +kernel))
set_option maxRecDepth 100000 in
theorem lf_0_60 : lkF RX0 60 7 5 := ⟨RX7, TX7, 7, rfl, by decide, rfl, inC7, (wIn 162 (by decide +kernel) (by decide +kernel))⟩
set_option maxRecDepth 100000 in
theorem ls_0_63 (fr lo mc ms : Nat) : lkS RX0 63 (yX8_pair, cX8_pair, 2, (some .int), fr, lo, mc, ms) true := lkS_mk (show _ from (nIn 720 (by decide +kernel) (by decide +kernel))) (wIn 472 (by decide +kernel) (by decide +kernel)) fr lo mc ms
set_option maxRecDepth 100000 in
theorem lc_X0_ringPair (fr lo mc ms : Nat) : lkC (yX0_ringPair, cX0_ringPair, 3, (some .int), fr, lo, mc, ms) 2 := lkC_mk (wIn 719 (by decide +kernel) (by decide +kernel)) (wIn 9 (by decide +kernel) (by decide +kernel)) (by decide +kernel) fr lo mc ms
set_option maxRecDepth 100000 in
theorem lv_0_51 (fr lo mc ms : Nat) : lkV RX0 51 0 (yX0_ringPair, cX0_ringPair, 3, (some .int), fr, lo, mc, ms) false := lkV_mk RX0 TX0 2 rfl (wIn 716 (by decide +kernel) (by decide +kernel)) (wIn 718 (by decide +kernel) (by decide +kernel)) (pIn 27 (by decide +kernel) (by decide +kernel)) fr lo mc ms
set_option maxRecDepth 100000 in
theorem lm_0_55 : Cond.methodLink RX0 55 Lib.Math.min.name ∈ wAll := (wIn 721 (by decide +kernel) (by decide +kernel))
set_option maxRecDepth 100000 in
theorem lm_st : Cond.static Lib.Math.min.name ∈ wAll := (wIn 677 (by decide +kernel) (by decide +kernel))
set_option maxRecDepth 100000 in
theorem lm_in : Cond.initialized "java/lang/Math" ∈ wAll := (wIn 16 (by decide +kernel) (by decide +kernel))
set_option maxRecDepth 100000 in
theorem lm_cd : Cond.code Lib.Math.min.name Lib.Math.min.code 2 (some .int) ∈ wAll := (wIn 678 (by decide +kernel) (by decide +kernel))
set_option maxRecDepth 100000 in
theorem lc_X0_takeLeastOff (fr lo mc ms : Nat) : lkC (yX0_takeLeastOff, cX0_takeLeastOff, 4, (some .int), fr, lo, mc, ms) 1 := lkC_mk (wIn 714 (by decide +kernel) (by decide +kernel)) (wIn 9 (by decide +kernel) (by decide +kernel)) (by decide +kernel) fr lo mc ms
set_option maxRecDepth 100000 in
theorem lv_0_46 (fr lo mc ms : Nat) : lkV RX0 46 0 (yX0_takeLeastOff, cX0_takeLeastOff, 4, (some .int), fr, lo, mc, ms) false := lkV_mk RX0 TX0 2 rfl (wIn 711 (by decide +kernel) (by decide +kernel)) (wIn 713 (by decide +kernel) (by decide +kernel)) (pIn 26 (by decide +kernel) (by decide +kernel)) fr lo mc ms
set_option maxRecDepth 100000 in
theorem lo_0_3 : Cond.methodLink RX0 3 Lib.objectInit ∈ wAll := (wIn 235 (by decide +kernel) (by decide +kernel))
set_option maxRecDepth 100000 in
theorem lo_i : Cond.instanceMethod Lib.objectInit ∈ wAll := (wIn 23 (by decide +kernel) (by decide +kernel))
set_option maxRecDepth 100000 in
theorem lo_c : Cond.code Lib.objectInit ⟨#[0xb1]⟩ 1 none ∈ wAll := (wIn 24 (by decide +kernel) (by decide +kernel))
set_option maxRecDepth 100000 in
theorem lac_int : Cond.arrayClass .int ∈ wAll := (wIn 71 (by decide +kernel) (by decide +kernel))
set_option maxRecDepth 100000 in
theorem lp_0_0_0 : lkP RX0 0 0 (.array .int) true := fun C T N h => by
  cases h
  exact ⟨⟨tyX0, tyX0_ok⟩, nmX0, by decide +kernel, by decide +kernel, fun _ => by decide +kernel⟩
set_option maxRecDepth 100000 in
theorem ln_0_15 : lkN RX0 15 7 := ⟨RX7, TX7, 7, rfl, rfl, inC7, (wIn 236 (by decide +kernel) (by decide +kernel)), (wIn 148 (by decide +kernel) (by decide +kernel)), (wIn 7 (by decide +kernel) (by decide +kernel)), tyX7, tyX7_ok, by decide +kernel⟩
set_option maxRecDepth 100000 in
theorem lo_7_3 : Cond.methodLink RX7 3 Lib.objectInit ∈ wAll := (wIn 152 (by decide +kernel) (by decide +kernel))
set_option maxRecDepth 100000 in
theorem lp_7_7_1 : lkP RX7 7 1 (.array .int) true := fun C T N h => by
  cases h
  exact ⟨⟨tyX7, tyX7_ok⟩, nmX7, by decide +kernel, by decide +kernel, fun _ => by decide +kernel⟩
set_option maxRecDepth 100000 in
theorem lp_7_7_2 : lkP RX7 7 2 (.array .int) true := fun C T N h => by
  cases h
  exact ⟨⟨tyX7, tyX7_ok⟩, nmX7, by decide +kernel, by decide +kernel, fun _ => by decide +kernel⟩
set_option maxRecDepth 100000 in
theorem lp_7_7_3 : lkP RX7 7 3 (.array .int) true := fun C T N h => by
  cases h
  exact ⟨⟨tyX7, tyX7_ok⟩, nmX7, by decide +kernel, by decide +kernel, fun _ => by decide +kernel⟩
set_option maxRecDepth 100000 in
theorem lf_7_25 : lkF RX7 25 7 4 := ⟨RX7, TX7, 7, rfl, by decide, rfl, inC7, (wIn 160 (by decide +kernel) (by decide +kernel))⟩
set_option maxRecDepth 100000 in
theorem lp_7_7_4 : lkP RX7 7 4 (.array .int) true := fun C T N h => by
  cases h
  exact ⟨⟨tyX7, tyX7_ok⟩, nmX7, by decide +kernel, by decide +kernel, fun _ => by decide +kernel⟩
set_option maxRecDepth 100000 in
theorem lp_7_7_5 : lkP RX7 7 5 (.array .int) true := fun C T N h => by
  cases h
  exact ⟨⟨tyX7, tyX7_ok⟩, nmX7, by decide +kernel, by decide +kernel, fun _ => by decide +kernel⟩
set_option maxRecDepth 100000 in
theorem lc_X7_init (fr lo mc ms : Nat) : lkC (yX7_init, cX7_init, 1, none, fr, lo, mc, ms) 0 := lkC_mk (wIn 151 (by decide +kernel) (by decide +kernel)) (wIn 7 (by decide +kernel) (by decide +kernel)) (by decide +kernel) fr lo mc ms
set_option maxRecDepth 100000 in
theorem li_0_17 (fr lo mc ms : Nat) : lkI RX0 17 (yX7_init, cX7_init, 1, none, fr, lo, mc, ms) true := lkI_mk (show _ from (nIn 237 (by decide +kernel) (by decide +kernel))) (wIn 150 (by decide +kernel) (by decide +kernel)) rfl fr lo mc ms
set_option maxRecDepth 100000 in
theorem lp_0_0_1 : lkP RX0 0 1 (.object "RingUntie$Web") true := fun C T N h => by
  cases h
  exact ⟨⟨tyX0, tyX0_ok⟩, nmX0, by decide +kernel, by decide +kernel, fun _ => by decide +kernel⟩
set_option maxRecDepth 100000 in
theorem lf_1_11 : lkF RX1 11 1 0 := ⟨RX1, TX1, 7, rfl, by decide, rfl, inC1, (wIn 207 (by decide +kernel) (by decide +kernel))⟩
set_option maxRecDepth 100000 in
theorem lf_1_38 : lkF RX1 38 6 3 := ⟨RX6, TX6, 4, rfl, by decide, rfl, inC6, (wIn 189 (by decide +kernel) (by decide +kernel))⟩
set_option maxRecDepth 100000 in
theorem lf_1_44 : lkF RX1 44 7 0 := ⟨RX7, TX7, 7, rfl, by decide, rfl, inC7, (wIn 154 (by decide +kernel) (by decide +kernel))⟩
set_option maxRecDepth 100000 in
theorem lf_1_15 : lkF RX1 15 1 1 := ⟨RX1, TX1, 7, rfl, by decide, rfl, inC1, (wIn 208 (by decide +kernel) (by decide +kernel))⟩
set_option maxRecDepth 100000 in
theorem lf_1_47 : lkF RX1 47 6 1 := ⟨RX6, TX6, 4, rfl, by decide, rfl, inC6, (wIn 184 (by decide +kernel) (by decide +kernel))⟩
set_option maxRecDepth 100000 in
theorem lc_X1_isMadeFor (fr lo mc ms : Nat) : lkC (yX1_isMadeFor, cX1_isMadeFor, 3, (some .boolean), fr, lo, mc, ms) 1 := lkC_mk (wIn 659 (by decide +kernel) (by decide +kernel)) (wIn 8 (by decide +kernel) (by decide +kernel)) (by decide +kernel) fr lo mc ms
set_option maxRecDepth 100000 in
theorem lv_1_34 (fr lo mc ms : Nat) : lkV RX1 34 1 (yX1_isMadeFor, cX1_isMadeFor, 3, (some .boolean), fr, lo, mc, ms) false := lkV_mk RX1 TX1 7 rfl (wIn 656 (by decide +kernel) (by decide +kernel)) (wIn 658 (by decide +kernel) (by decide +kernel)) (pIn 20 (by decide +kernel) (by decide +kernel)) fr lo mc ms
set_option maxRecDepth 100000 in
theorem lp_1_1_0 : lkP RX1 1 0 .int false := fun C T N h => by
  cases h
  exact ⟨⟨tyX1, tyX1_ok⟩, nmX1, by decide +kernel, by decide +kernel, fun h => by cases h⟩
set_option maxRecDepth 100000 in
theorem la_1_48 : Cond.methodLink RX1 48 arraycopyName ∈ wAll := (wIn 660 (by decide +kernel) (by decide +kernel))
set_option maxRecDepth 100000 in
theorem lf_1_22 : lkF RX1 22 1 3 := ⟨RX1, TX1, 7, rfl, by decide, rfl, inC1, (wIn 210 (by decide +kernel) (by decide +kernel))⟩
set_option maxRecDepth 100000 in
theorem ls_1_63 (fr lo mc ms : Nat) : lkS RX1 63 (yX8_pair, cX8_pair, 2, (some .int), fr, lo, mc, ms) true := lkS_mk (show _ from (nIn 665 (by decide +kernel) (by decide +kernel))) (wIn 472 (by decide +kernel) (by decide +kernel)) fr lo mc ms
set_option maxRecDepth 100000 in
theorem lf_1_25 : lkF RX1 25 1 4 := ⟨RX1, TX1, 7, rfl, by decide, rfl, inC1, (wIn 211 (by decide +kernel) (by decide +kernel))⟩
set_option maxRecDepth 100000 in
theorem lc_X1_sumHalves (fr lo mc ms : Nat) : lkC (yX1_sumHalves, cX1_sumHalves, 5, none, fr, lo, mc, ms) 0 := lkC_mk (wIn 664 (by decide +kernel) (by decide +kernel)) (wIn 8 (by decide +kernel) (by decide +kernel)) (by decide +kernel) fr lo mc ms
set_option maxRecDepth 100000 in
theorem lv_1_54 (fr lo mc ms : Nat) : lkV RX1 54 1 (yX1_sumHalves, cX1_sumHalves, 5, none, fr, lo, mc, ms) false := lkV_mk RX1 TX1 7 rfl (wIn 661 (by decide +kernel) (by decide +kernel)) (wIn 663 (by decide +kernel) (by decide +kernel)) (pIn 21 (by decide +kernel) (by decide +kernel)) fr lo mc ms
set_option maxRecDepth 100000 in
theorem lf_1_19 : lkF RX1 19 1 2 := ⟨RX1, TX1, 7, rfl, by decide, rfl, inC1, (wIn 209 (by decide +kernel) (by decide +kernel))⟩
set_option maxRecDepth 100000 in
theorem lw_1_67 : Cond.constant RX1 67 1000000 ∈ wAll := (wIn 670 (by decide +kernel) (by decide +kernel))
set_option maxRecDepth 100000 in
theorem ls_1_68 (fr lo mc ms : Nat) : lkS RX1 68 (yX8_isIn, cX8_isIn, 2, (some .boolean), fr, lo, mc, ms) true := lkS_mk (show _ from (nIn 671 (by decide +kernel) (by decide +kernel))) (wIn 508 (by decide +kernel) (by decide +kernel)) fr lo mc ms
set_option maxRecDepth 100000 in
theorem lc_X1_costBehind (fr lo mc ms : Nat) : lkC (yX1_costBehind, cX1_costBehind, 3, (some .int), fr, lo, mc, ms) 2 := lkC_mk (wIn 675 (by decide +kernel) (by decide +kernel)) (wIn 8 (by decide +kernel) (by decide +kernel)) (by decide +kernel) fr lo mc ms
set_option maxRecDepth 100000 in
theorem lv_1_72 (fr lo mc ms : Nat) : lkV RX1 72 1 (yX1_costBehind, cX1_costBehind, 3, (some .int), fr, lo, mc, ms) false := lkV_mk RX1 TX1 7 rfl (wIn 672 (by decide +kernel) (by decide +kernel)) (wIn 674 (by decide +kernel) (by decide +kernel)) (pIn 23 (by decide +kernel) (by decide +kernel)) fr lo mc ms
set_option maxRecDepth 100000 in
theorem lm_1_75 : Cond.methodLink RX1 75 Lib.Math.min.name ∈ wAll := (wIn 676 (by decide +kernel) (by decide +kernel))
set_option maxRecDepth 100000 in
theorem lc_X1_weighSets (fr lo mc ms : Nat) : lkC (yX1_weighSets, cX1_weighSets, 5, none, fr, lo, mc, ms) 0 := lkC_mk (wIn 669 (by decide +kernel) (by decide +kernel)) (wIn 8 (by decide +kernel) (by decide +kernel)) (by decide +kernel) fr lo mc ms
set_option maxRecDepth 100000 in
theorem lv_1_57 (fr lo mc ms : Nat) : lkV RX1 57 1 (yX1_weighSets, cX1_weighSets, 5, none, fr, lo, mc, ms) false := lkV_mk RX1 TX1 7 rfl (wIn 666 (by decide +kernel) (by decide +kernel)) (wIn 668 (by decide +kernel) (by decide +kernel)) (pIn 22 (by decide +kernel) (by decide +kernel)) fr lo mc ms
set_option maxRecDepth 100000 in
theorem lc_X1_firstBest (fr lo mc ms : Nat) : lkC (yX1_firstBest, cX1_firstBest, 3, (some .int), fr, lo, mc, ms) 1 := lkC_mk (wIn 686 (by decide +kernel) (by decide +kernel)) (wIn 8 (by decide +kernel) (by decide +kernel)) (by decide +kernel) fr lo mc ms
set_option maxRecDepth 100000 in
theorem lv_1_80 (fr lo mc ms : Nat) : lkV RX1 80 1 (yX1_firstBest, cX1_firstBest, 3, (some .int), fr, lo, mc, ms) false := lkV_mk RX1 TX1 7 rfl (wIn 683 (by decide +kernel) (by decide +kernel)) (wIn 685 (by decide +kernel) (by decide +kernel)) (pIn 25 (by decide +kernel) (by decide +kernel)) fr lo mc ms
set_option maxRecDepth 100000 in
theorem lf_1_28 : lkF RX1 28 1 5 := ⟨RX1, TX1, 7, rfl, by decide, rfl, inC1, (wIn 212 (by decide +kernel) (by decide +kernel))⟩
set_option maxRecDepth 100000 in
theorem lf_1_31 : lkF RX1 31 1 6 := ⟨RX1, TX1, 7, rfl, by decide, rfl, inC1, (wIn 214 (by decide +kernel) (by decide +kernel))⟩
set_option maxRecDepth 100000 in
theorem lc_X1_makeRow (fr lo mc ms : Nat) : lkC (yX1_makeRow, cX1_makeRow, 4, none, fr, lo, mc, ms) 0 := lkC_mk (wIn 682 (by decide +kernel) (by decide +kernel)) (wIn 8 (by decide +kernel) (by decide +kernel)) (by decide +kernel) fr lo mc ms
set_option maxRecDepth 100000 in
theorem lv_1_60 (fr lo mc ms : Nat) : lkV RX1 60 1 (yX1_makeRow, cX1_makeRow, 4, none, fr, lo, mc, ms) false := lkV_mk RX1 TX1 7 rfl (wIn 679 (by decide +kernel) (by decide +kernel)) (wIn 681 (by decide +kernel) (by decide +kernel)) (pIn 24 (by decide +kernel) (by decide +kernel)) fr lo mc ms
set_option maxRecDepth 100000 in
theorem lv_1_84 (fr lo mc ms : Nat) : lkV RX1 84 7 (yX7_isTie, cX7_isTie, 3, (some .boolean), fr, lo, mc, ms) false := lkV_mk RX7 TX7 7 rfl (wIn 695 (by decide +kernel) (by decide +kernel)) (wIn 530 (by decide +kernel) (by decide +kernel)) (wIn 531 (by decide +kernel) (by decide +kernel)) fr lo mc ms
set_option maxRecDepth 100000 in
theorem lo_1_5 : Cond.methodLink RX1 5 Lib.objectInit ∈ wAll := (wIn 206 (by decide +kernel) (by decide +kernel))
set_option maxRecDepth 100000 in
theorem lp_1_1_1 : lkP RX1 1 1 (.array .int) true := fun C T N h => by
  cases h
  exact ⟨⟨tyX1, tyX1_ok⟩, nmX1, by decide +kernel, by decide +kernel, fun _ => by decide +kernel⟩
set_option maxRecDepth 100000 in
theorem lp_1_1_2 : lkP RX1 1 2 (.array .int) true := fun C T N h => by
  cases h
  exact ⟨⟨tyX1, tyX1_ok⟩, nmX1, by decide +kernel, by decide +kernel, fun _ => by decide +kernel⟩
set_option maxRecDepth 100000 in
theorem lp_1_1_3 : lkP RX1 1 3 (.array .int) true := fun C T N h => by
  cases h
  exact ⟨⟨tyX1, tyX1_ok⟩, nmX1, by decide +kernel, by decide +kernel, fun _ => by decide +kernel⟩
set_option maxRecDepth 100000 in
theorem lp_1_1_4 : lkP RX1 1 4 (.array .int) true := fun C T N h => by
  cases h
  exact ⟨⟨tyX1, tyX1_ok⟩, nmX1, by decide +kernel, by decide +kernel, fun _ => by decide +kernel⟩
set_option maxRecDepth 100000 in
theorem lp_1_1_5 : lkP RX1 1 5 (.array .int) true := fun C T N h => by
  cases h
  exact ⟨⟨tyX1, tyX1_ok⟩, nmX1, by decide +kernel, by decide +kernel, fun _ => by decide +kernel⟩
set_option maxRecDepth 100000 in
theorem lp_1_1_6 : lkP RX1 1 6 (.array .int) true := fun C T N h => by
  cases h
  exact ⟨⟨tyX1, tyX1_ok⟩, nmX1, by decide +kernel, by decide +kernel, fun _ => by decide +kernel⟩
set_option maxRecDepth 100000 in
theorem lf_2_17 : lkF RX2 17 2 1 := ⟨RX2, TX2, 3, rfl, by decide, rfl, inC2, (wIn 81 (by decide +kernel) (by decide +kernel))⟩
set_option maxRecDepth 100000 in
theorem lf_2_21 : lkF RX2 21 2 2 := ⟨RX2, TX2, 3, rfl, by decide, rfl, inC2, (wIn 82 (by decide +kernel) (by decide +kernel))⟩
set_option maxRecDepth 100000 in
theorem lf_2_11 : lkF RX2 11 2 0 := ⟨RX2, TX2, 3, rfl, by decide, rfl, inC2, (wIn 80 (by decide +kernel) (by decide +kernel))⟩
set_option maxRecDepth 100000 in
theorem lp_2_2_2 : lkP RX2 2 2 .int false := fun C T N h => by
  cases h
  exact ⟨⟨tyX2, tyX2_ok⟩, nmX2, by decide +kernel, by decide +kernel, fun h => by cases h⟩
set_option maxRecDepth 100000 in
theorem lp_2_2_1 : lkP RX2 2 1 .int false := fun C T N h => by
  cases h
  exact ⟨⟨tyX2, tyX2_ok⟩, nmX2, by decide +kernel, by decide +kernel, fun h => by cases h⟩
set_option maxRecDepth 100000 in
theorem ln_2_9 : lkN RX2 9 3 := ⟨RX3, TX3, 9, rfl, rfl, inC3, (wIn 78 (by decide +kernel) (by decide +kernel)), (wIn 26 (by decide +kernel) (by decide +kernel)), (wIn 2 (by decide +kernel) (by decide +kernel)), tyX3, tyX3_ok, by decide +kernel⟩
set_option maxRecDepth 100000 in
theorem lo_3_3 : Cond.methodLink RX3 3 Lib.objectInit ∈ wAll := (wIn 30 (by decide +kernel) (by decide +kernel))
set_option maxRecDepth 100000 in
theorem lf_3_9 : lkF RX3 9 3 0 := ⟨RX3, TX3, 9, rfl, by decide, rfl, inC3, (wIn 31 (by decide +kernel) (by decide +kernel))⟩
set_option maxRecDepth 100000 in
theorem lp_3_3_0 : lkP RX3 3 0 .int false := fun C T N h => by
  cases h
  exact ⟨⟨tyX3, tyX3_ok⟩, nmX3, by decide +kernel, by decide +kernel, fun h => by cases h⟩
set_option maxRecDepth 100000 in
theorem lf_3_15 : lkF RX3 15 3 1 := ⟨RX3, TX3, 9, rfl, by decide, rfl, inC3, (wIn 34 (by decide +kernel) (by decide +kernel))⟩
set_option maxRecDepth 100000 in
theorem lp_3_3_1 : lkP RX3 3 1 (.array .int) true := fun C T N h => by
  cases h
  exact ⟨⟨tyX3, tyX3_ok⟩, nmX3, by decide +kernel, by decide +kernel, fun _ => by decide +kernel⟩
set_option maxRecDepth 100000 in
theorem lf_3_19 : lkF RX3 19 3 2 := ⟨RX3, TX3, 9, rfl, by decide, rfl, inC3, (wIn 37 (by decide +kernel) (by decide +kernel))⟩
set_option maxRecDepth 100000 in
theorem lp_3_3_2 : lkP RX3 3 2 (.array .int) true := fun C T N h => by
  cases h
  exact ⟨⟨tyX3, tyX3_ok⟩, nmX3, by decide +kernel, by decide +kernel, fun _ => by decide +kernel⟩
set_option maxRecDepth 100000 in
theorem lf_3_22 : lkF RX3 22 3 3 := ⟨RX3, TX3, 9, rfl, by decide, rfl, inC3, (wIn 38 (by decide +kernel) (by decide +kernel))⟩
set_option maxRecDepth 100000 in
theorem lp_3_3_3 : lkP RX3 3 3 (.array .int) true := fun C T N h => by
  cases h
  exact ⟨⟨tyX3, tyX3_ok⟩, nmX3, by decide +kernel, by decide +kernel, fun _ => by decide +kernel⟩
set_option maxRecDepth 100000 in
theorem lp_3_3_4 : lkP RX3 3 4 (.array .int) true := fun C T N h => by
  cases h
  exact ⟨⟨tyX3, tyX3_ok⟩, nmX3, by decide +kernel, by decide +kernel, fun _ => by decide +kernel⟩
set_option maxRecDepth 100000 in
theorem lf_3_28 : lkF RX3 28 3 5 := ⟨RX3, TX3, 9, rfl, by decide, rfl, inC3, (wIn 42 (by decide +kernel) (by decide +kernel))⟩
set_option maxRecDepth 100000 in
theorem lp_3_3_5 : lkP RX3 3 5 (.array .int) true := fun C T N h => by
  cases h
  exact ⟨⟨tyX3, tyX3_ok⟩, nmX3, by decide +kernel, by decide +kernel, fun _ => by decide +kernel⟩
set_option maxRecDepth 100000 in
theorem lf_3_31 : lkF RX3 31 3 6 := ⟨RX3, TX3, 9, rfl, by decide, rfl, inC3, (wIn 44 (by decide +kernel) (by decide +kernel))⟩
set_option maxRecDepth 100000 in
theorem lp_3_3_6 : lkP RX3 3 6 (.array .int) true := fun C T N h => by
  cases h
  exact ⟨⟨tyX3, tyX3_ok⟩, nmX3, by decide +kernel, by decide +kernel, fun _ => by decide +kernel⟩
set_option maxRecDepth 100000 in
theorem lp_3_3_7 : lkP RX3 3 7 (.array .int) true := fun C T N h => by
  cases h
  exact ⟨⟨tyX3, tyX3_ok⟩, nmX3, by decide +kernel, by decide +kernel, fun _ => by decide +kernel⟩
set_option maxRecDepth 100000 in
theorem lf_3_37 : lkF RX3 37 3 8 := ⟨RX3, TX3, 9, rfl, by decide, rfl, inC3, (wIn 49 (by decide +kernel) (by decide +kernel))⟩
set_option maxRecDepth 100000 in
theorem lp_3_3_8 : lkP RX3 3 8 (.array .int) true := fun C T N h => by
  cases h
  exact ⟨⟨tyX3, tyX3_ok⟩, nmX3, by decide +kernel, by decide +kernel, fun _ => by decide +kernel⟩
set_option maxRecDepth 100000 in
theorem lc_X3_init (fr lo mc ms : Nat) : lkC (yX3_init, cX3_init, 1, none, fr, lo, mc, ms) 0 := lkC_mk (wIn 29 (by decide +kernel) (by decide +kernel)) (wIn 2 (by decide +kernel) (by decide +kernel)) (by decide +kernel) fr lo mc ms
set_option maxRecDepth 100000 in
theorem li_2_24 (fr lo mc ms : Nat) : lkI RX2 24 (yX3_init, cX3_init, 1, none, fr, lo, mc, ms) true := lkI_mk (show _ from (nIn 311 (by decide +kernel) (by decide +kernel))) (wIn 28 (by decide +kernel) (by decide +kernel)) rfl fr lo mc ms
set_option maxRecDepth 100000 in
theorem lo_2_3 : Cond.methodLink RX2 3 Lib.objectInit ∈ wAll := (wIn 77 (by decide +kernel) (by decide +kernel))
set_option maxRecDepth 100000 in
theorem lcl_2_9 : Cond.classLink RX2 9 "RingUntie$Program" ∈ wAll := (wIn 78 (by decide +kernel) (by decide +kernel))
set_option maxRecDepth 100000 in
theorem lp_2_2_0 : lkP RX2 2 0 (.array (.object "RingUntie$Program")) true := fun C T N h => by
  cases h
  exact ⟨⟨tyX2, tyX2_ok⟩, nmX2, by decide +kernel, by decide +kernel, fun _ => by decide +kernel⟩
set_option maxRecDepth 100000 in
theorem la_3_40 : Cond.methodLink RX3 40 arraycopyName ∈ wAll := (wIn 296 (by decide +kernel) (by decide +kernel))
set_option maxRecDepth 100000 in
theorem lc_X8_isKind (fr lo mc ms : Nat) : lkC (yX8_isKind, cX8_isKind, 1, (some .boolean), fr, lo, mc, ms) 1 := lkC_mk (wIn 318 (by decide +kernel) (by decide +kernel)) (wIn 1 (by decide +kernel) (by decide +kernel)) (by decide +kernel) fr lo mc ms
set_option maxRecDepth 100000 in
theorem ls_3_46 (fr lo mc ms : Nat) : lkS RX3 46 (yX8_isKind, cX8_isKind, 1, (some .boolean), fr, lo, mc, ms) true := lkS_mk (show _ from (nIn 345 (by decide +kernel) (by decide +kernel))) (wIn 317 (by decide +kernel) (by decide +kernel)) fr lo mc ms
set_option maxRecDepth 100000 in
theorem lc_X3_has (fr lo mc ms : Nat) : lkC (yX3_has, cX3_has, 3, (some .boolean), fr, lo, mc, ms) 2 := lkC_mk (wIn 344 (by decide +kernel) (by decide +kernel)) (wIn 2 (by decide +kernel) (by decide +kernel)) (by decide +kernel) fr lo mc ms
set_option maxRecDepth 100000 in
theorem lv_3_50 (fr lo mc ms : Nat) : lkV RX3 50 3 (yX3_has, cX3_has, 3, (some .boolean), fr, lo, mc, ms) false := lkV_mk RX3 TX3 9 rfl (wIn 444 (by decide +kernel) (by decide +kernel)) (wIn 342 (by decide +kernel) (by decide +kernel)) (wIn 343 (by decide +kernel) (by decide +kernel)) fr lo mc ms
set_option maxRecDepth 100000 in
theorem lc_X3_setHome (fr lo mc ms : Nat) : lkC (yX3_setHome, cX3_setHome, 4, none, fr, lo, mc, ms) 3 := lkC_mk (wIn 336 (by decide +kernel) (by decide +kernel)) (wIn 2 (by decide +kernel) (by decide +kernel)) (by decide +kernel) fr lo mc ms
set_option maxRecDepth 100000 in
theorem lv_3_57 (fr lo mc ms : Nat) : lkV RX3 57 3 (yX3_setHome, cX3_setHome, 4, none, fr, lo, mc, ms) false := lkV_mk RX3 TX3 9 rfl (wIn 333 (by decide +kernel) (by decide +kernel)) (wIn 334 (by decide +kernel) (by decide +kernel)) (wIn 335 (by decide +kernel) (by decide +kernel)) fr lo mc ms
set_option maxRecDepth 100000 in
theorem lf_3_61 : lkF RX3 61 5 3 := ⟨RX5, TX5, 6, rfl, by decide, rfl, inC5, (wIn 103 (by decide +kernel) (by decide +kernel))⟩
set_option maxRecDepth 100000 in
theorem lf_3_65 : lkF RX3 65 5 4 := ⟨RX5, TX5, 6, rfl, by decide, rfl, inC5, (wIn 105 (by decide +kernel) (by decide +kernel))⟩
set_option maxRecDepth 100000 in
theorem lc_X3_kindToldBy (fr lo mc ms : Nat) : lkC (yX3_kindToldBy, cX3_kindToldBy, 1, (some .int), fr, lo, mc, ms) 1 := lkC_mk (wIn 443 (by decide +kernel) (by decide +kernel)) (wIn 2 (by decide +kernel) (by decide +kernel)) (by decide +kernel) fr lo mc ms
set_option maxRecDepth 100000 in
theorem ls_3_68 (fr lo mc ms : Nat) : lkS RX3 68 (yX3_kindToldBy, cX3_kindToldBy, 1, (some .int), fr, lo, mc, ms) false := lkS_mk (wIn 441 (by decide +kernel) (by decide +kernel)) (wIn 442 (by decide +kernel) (by decide +kernel)) fr lo mc ms
set_option maxRecDepth 100000 in
theorem lf_3_72 : lkF RX3 72 5 5 := ⟨RX5, TX5, 6, rfl, by decide, rfl, inC5, (wIn 107 (by decide +kernel) (by decide +kernel))⟩
set_option maxRecDepth 100000 in
theorem lc_X3_setAct (fr lo mc ms : Nat) : lkC (yX3_setAct, cX3_setAct, 5, none, fr, lo, mc, ms) 4 := lkC_mk (wIn 452 (by decide +kernel) (by decide +kernel)) (wIn 2 (by decide +kernel) (by decide +kernel)) (by decide +kernel) fr lo mc ms
set_option maxRecDepth 100000 in
theorem lv_3_75 (fr lo mc ms : Nat) : lkV RX3 75 3 (yX3_setAct, cX3_setAct, 5, none, fr, lo, mc, ms) false := lkV_mk RX3 TX3 9 rfl (wIn 449 (by decide +kernel) (by decide +kernel)) (wIn 450 (by decide +kernel) (by decide +kernel)) (wIn 451 (by decide +kernel) (by decide +kernel)) fr lo mc ms
set_option maxRecDepth 100000 in
theorem lv_3_79 (fr lo mc ms : Nat) : lkV RX3 79 3 (yX3_hearerOf, cX3_hearerOf, 3, (some .int), fr, lo, mc, ms) false := lkV_mk RX3 TX3 9 rfl (wIn 556 (by decide +kernel) (by decide +kernel)) (wIn 495 (by decide +kernel) (by decide +kernel)) (wIn 496 (by decide +kernel) (by decide +kernel)) fr lo mc ms
set_option maxRecDepth 100000 in
theorem ls_3_83 (fr lo mc ms : Nat) : lkS RX3 83 (yX8_isIn, cX8_isIn, 2, (some .boolean), fr, lo, mc, ms) true := lkS_mk (show _ from (nIn 769 (by decide +kernel) (by decide +kernel))) (wIn 508 (by decide +kernel) (by decide +kernel)) fr lo mc ms
set_option maxRecDepth 100000 in
theorem lc_X3_isFace (fr lo mc ms : Nat) : lkC (yX3_isFace, cX3_isFace, 2, (some .boolean), fr, lo, mc, ms) 1 := lkC_mk (wIn 366 (by decide +kernel) (by decide +kernel)) (wIn 2 (by decide +kernel) (by decide +kernel)) (by decide +kernel) fr lo mc ms
set_option maxRecDepth 100000 in
theorem lv_3_86 (fr lo mc ms : Nat) : lkV RX3 86 3 (yX3_isFace, cX3_isFace, 2, (some .boolean), fr, lo, mc, ms) false := lkV_mk RX3 TX3 9 rfl (wIn 770 (by decide +kernel) (by decide +kernel)) (wIn 364 (by decide +kernel) (by decide +kernel)) (wIn 365 (by decide +kernel) (by decide +kernel)) fr lo mc ms
set_option maxRecDepth 100000 in
theorem lc_X3_homeOf (fr lo mc ms : Nat) : lkC (yX3_homeOf, cX3_homeOf, 3, (some .int), fr, lo, mc, ms) 2 := lkC_mk (wIn 349 (by decide +kernel) (by decide +kernel)) (wIn 2 (by decide +kernel) (by decide +kernel)) (by decide +kernel) fr lo mc ms
set_option maxRecDepth 100000 in
theorem lv_3_89 (fr lo mc ms : Nat) : lkV RX3 89 3 (yX3_homeOf, cX3_homeOf, 3, (some .int), fr, lo, mc, ms) false := lkV_mk RX3 TX3 9 rfl (wIn 775 (by decide +kernel) (by decide +kernel)) (wIn 347 (by decide +kernel) (by decide +kernel)) (wIn 348 (by decide +kernel) (by decide +kernel)) fr lo mc ms
set_option maxRecDepth 100000 in
theorem ls_3_96 (fr lo mc ms : Nat) : lkS RX3 96 (yX8_pair, cX8_pair, 2, (some .int), fr, lo, mc, ms) true := lkS_mk (show _ from (nIn 792 (by decide +kernel) (by decide +kernel))) (wIn 472 (by decide +kernel) (by decide +kernel)) fr lo mc ms
set_option maxRecDepth 100000 in
theorem lc_X8_numberAhead (fr lo mc ms : Nat) : lkC (yX8_numberAhead, cX8_numberAhead, 2, (some .int), fr, lo, mc, ms) 2 := lkC_mk (wIn 516 (by decide +kernel) (by decide +kernel)) (wIn 1 (by decide +kernel) (by decide +kernel)) (by decide +kernel) fr lo mc ms
set_option maxRecDepth 100000 in
theorem ls_3_99 (fr lo mc ms : Nat) : lkS RX3 99 (yX8_numberAhead, cX8_numberAhead, 2, (some .int), fr, lo, mc, ms) true := lkS_mk (show _ from (nIn 793 (by decide +kernel) (by decide +kernel))) (wIn 515 (by decide +kernel) (by decide +kernel)) fr lo mc ms
set_option maxRecDepth 100000 in
theorem lc_X3_dropAllowed (fr lo mc ms : Nat) : lkC (yX3_dropAllowed, cX3_dropAllowed, 4, none, fr, lo, mc, ms) 1 := lkC_mk (wIn 791 (by decide +kernel) (by decide +kernel)) (wIn 2 (by decide +kernel) (by decide +kernel)) (by decide +kernel) fr lo mc ms
set_option maxRecDepth 100000 in
theorem lv_3_92 (fr lo mc ms : Nat) : lkV RX3 92 3 (yX3_dropAllowed, cX3_dropAllowed, 4, none, fr, lo, mc, ms) false := lkV_mk RX3 TX3 9 rfl (wIn 788 (by decide +kernel) (by decide +kernel)) (wIn 790 (by decide +kernel) (by decide +kernel)) (pIn 28 (by decide +kernel) (by decide +kernel)) fr lo mc ms
set_option maxRecDepth 100000 in
theorem lv_3_102 (fr lo mc ms : Nat) : lkV RX3 102 3 (yX3_sortOf, cX3_sortOf, 3, (some .int), fr, lo, mc, ms) false := lkV_mk RX3 TX3 9 rfl (wIn 802 (by decide +kernel) (by decide +kernel)) (wIn 479 (by decide +kernel) (by decide +kernel)) (wIn 480 (by decide +kernel) (by decide +kernel)) fr lo mc ms
set_option maxRecDepth 100000 in
theorem lv_3_105 (fr lo mc ms : Nat) : lkV RX3 105 3 (yX3_numberOf, cX3_numberOf, 3, (some .int), fr, lo, mc, ms) false := lkV_mk RX3 TX3 9 rfl (wIn 803 (by decide +kernel) (by decide +kernel)) (wIn 484 (by decide +kernel) (by decide +kernel)) (wIn 485 (by decide +kernel) (by decide +kernel)) fr lo mc ms
set_option maxRecDepth 100000 in
theorem lc_X3_addThing (fr lo mc ms : Nat) : lkC (yX3_addThing, cX3_addThing, 4, (some .int), fr, lo, mc, ms) 2 := lkC_mk (wIn 332 (by decide +kernel) (by decide +kernel)) (wIn 2 (by decide +kernel) (by decide +kernel)) (by decide +kernel) fr lo mc ms
set_option maxRecDepth 100000 in
theorem lv_3_108 (fr lo mc ms : Nat) : lkV RX3 108 3 (yX3_addThing, cX3_addThing, 4, (some .int), fr, lo, mc, ms) false := lkV_mk RX3 TX3 9 rfl (wIn 808 (by decide +kernel) (by decide +kernel)) (wIn 330 (by decide +kernel) (by decide +kernel)) (wIn 331 (by decide +kernel) (by decide +kernel)) fr lo mc ms
set_option maxRecDepth 100000 in
theorem lc_X3_addHearer (fr lo mc ms : Nat) : lkC (yX3_addHearer, cX3_addHearer, 3, none, fr, lo, mc, ms) 2 := lkC_mk (wIn 560 (by decide +kernel) (by decide +kernel)) (wIn 2 (by decide +kernel) (by decide +kernel)) (by decide +kernel) fr lo mc ms
set_option maxRecDepth 100000 in
theorem lv_3_111 (fr lo mc ms : Nat) : lkV RX3 111 3 (yX3_addHearer, cX3_addHearer, 3, none, fr, lo, mc, ms) false := lkV_mk RX3 TX3 9 rfl (wIn 809 (by decide +kernel) (by decide +kernel)) (wIn 558 (by decide +kernel) (by decide +kernel)) (wIn 559 (by decide +kernel) (by decide +kernel)) fr lo mc ms
set_option maxRecDepth 100000 in
theorem lc_X3_addPart (fr lo mc ms : Nat) : lkC (yX3_addPart, cX3_addPart, 1, (some .int), fr, lo, mc, ms) 0 := lkC_mk (wIn 302 (by decide +kernel) (by decide +kernel)) (wIn 2 (by decide +kernel) (by decide +kernel)) (by decide +kernel) fr lo mc ms
set_option maxRecDepth 100000 in
theorem lv_3_115 (fr lo mc ms : Nat) : lkV RX3 115 3 (yX3_addPart, cX3_addPart, 1, (some .int), fr, lo, mc, ms) false := lkV_mk RX3 TX3 9 rfl (wIn 818 (by decide +kernel) (by decide +kernel)) (wIn 300 (by decide +kernel) (by decide +kernel)) (wIn 301 (by decide +kernel) (by decide +kernel)) fr lo mc ms
set_option maxRecDepth 100000 in
theorem lo_4_3 : Cond.methodLink RX4 3 Lib.objectInit ∈ wAll := (wIn 126 (by decide +kernel) (by decide +kernel))
set_option maxRecDepth 100000 in
theorem lp_4_4_0 : lkP RX4 4 0 (.array .int) true := fun C T N h => by
  cases h
  exact ⟨⟨tyX4, tyX4_ok⟩, nmX4, by decide +kernel, by decide +kernel, fun _ => by decide +kernel⟩
set_option maxRecDepth 100000 in
theorem lf_5_15 : lkF RX5 15 5 1 := ⟨RX5, TX5, 6, rfl, by decide, rfl, inC5, (wIn 98 (by decide +kernel) (by decide +kernel))⟩
set_option maxRecDepth 100000 in
theorem lf_5_9 : lkF RX5 9 5 0 := ⟨RX5, TX5, 6, rfl, by decide, rfl, inC5, (wIn 97 (by decide +kernel) (by decide +kernel))⟩
set_option maxRecDepth 100000 in
theorem lwl_5_31 : Cond.constantLong RX5 31 255 ∈ wAll := (wIn 358 (by decide +kernel) (by decide +kernel))
set_option maxRecDepth 100000 in
theorem lp_5_5_1 : lkP RX5 5 1 .int false := fun C T N h => by
  cases h
  exact ⟨⟨tyX5, tyX5_ok⟩, nmX5, by decide +kernel, by decide +kernel, fun h => by cases h⟩
set_option maxRecDepth 100000 in
theorem lf_5_19 : lkF RX5 19 5 2 := ⟨RX5, TX5, 6, rfl, by decide, rfl, inC5, (wIn 100 (by decide +kernel) (by decide +kernel))⟩
set_option maxRecDepth 100000 in
theorem lp_5_5_2 : lkP RX5 5 2 .int false := fun C T N h => by
  cases h
  exact ⟨⟨tyX5, tyX5_ok⟩, nmX5, by decide +kernel, by decide +kernel, fun h => by cases h⟩
set_option maxRecDepth 100000 in
theorem lf_5_22 : lkF RX5 22 5 3 := ⟨RX5, TX5, 6, rfl, by decide, rfl, inC5, (wIn 101 (by decide +kernel) (by decide +kernel))⟩
set_option maxRecDepth 100000 in
theorem lp_5_5_3 : lkP RX5 5 3 .int false := fun C T N h => by
  cases h
  exact ⟨⟨tyX5, tyX5_ok⟩, nmX5, by decide +kernel, by decide +kernel, fun h => by cases h⟩
set_option maxRecDepth 100000 in
theorem lc_X5_peek (fr lo mc ms : Nat) : lkC (yX5_peek, cX5_peek, 1, (some .int), fr, lo, mc, ms) 0 := lkC_mk (wIn 378 (by decide +kernel) (by decide +kernel)) (wIn 4 (by decide +kernel) (by decide +kernel)) (by decide +kernel) fr lo mc ms
set_option maxRecDepth 100000 in
theorem lv_5_40 (fr lo mc ms : Nat) : lkV RX5 40 5 (yX5_peek, cX5_peek, 1, (some .int), fr, lo, mc, ms) false := lkV_mk RX5 TX5 6 rfl (wIn 375 (by decide +kernel) (by decide +kernel)) (wIn 377 (by decide +kernel) (by decide +kernel)) (pIn 2 (by decide +kernel) (by decide +kernel)) fr lo mc ms
set_option maxRecDepth 100000 in
theorem lc_X5_sortBegunBy (fr lo mc ms : Nat) : lkC (yX5_sortBegunBy, cX5_sortBegunBy, 2, (some .int), fr, lo, mc, ms) 1 := lkC_mk (wIn 381 (by decide +kernel) (by decide +kernel)) (wIn 4 (by decide +kernel) (by decide +kernel)) (by decide +kernel) fr lo mc ms
set_option maxRecDepth 100000 in
theorem ls_5_44 (fr lo mc ms : Nat) : lkS RX5 44 (yX5_sortBegunBy, cX5_sortBegunBy, 2, (some .int), fr, lo, mc, ms) false := lkS_mk (wIn 379 (by decide +kernel) (by decide +kernel)) (wIn 380 (by decide +kernel) (by decide +kernel)) fr lo mc ms
set_option maxRecDepth 100000 in
theorem lf_5_25 : lkF RX5 25 5 4 := ⟨RX5, TX5, 6, rfl, by decide, rfl, inC5, (wIn 104 (by decide +kernel) (by decide +kernel))⟩
set_option maxRecDepth 100000 in
theorem lc_X5_readWord (fr lo mc ms : Nat) : lkC (yX5_readWord, cX5_readWord, 5, (some .boolean), fr, lo, mc, ms) 1 := lkC_mk (wIn 374 (by decide +kernel) (by decide +kernel)) (wIn 4 (by decide +kernel) (by decide +kernel)) (by decide +kernel) fr lo mc ms
set_option maxRecDepth 100000 in
theorem lv_5_33 (fr lo mc ms : Nat) : lkV RX5 33 5 (yX5_readWord, cX5_readWord, 5, (some .boolean), fr, lo, mc, ms) false := lkV_mk RX5 TX5 6 rfl (wIn 371 (by decide +kernel) (by decide +kernel)) (wIn 373 (by decide +kernel) (by decide +kernel)) (pIn 1 (by decide +kernel) (by decide +kernel)) fr lo mc ms
set_option maxRecDepth 100000 in
theorem lf_5_28 : lkF RX5 28 5 5 := ⟨RX5, TX5, 6, rfl, by decide, rfl, inC5, (wIn 106 (by decide +kernel) (by decide +kernel))⟩
set_option maxRecDepth 100000 in
theorem lc_X5_readNumber (fr lo mc ms : Nat) : lkC (yX5_readNumber, cX5_readNumber, 5, (some .boolean), fr, lo, mc, ms) 1 := lkC_mk (wIn 436 (by decide +kernel) (by decide +kernel)) (wIn 4 (by decide +kernel) (by decide +kernel)) (by decide +kernel) fr lo mc ms
set_option maxRecDepth 100000 in
theorem lv_5_37 (fr lo mc ms : Nat) : lkV RX5 37 5 (yX5_readNumber, cX5_readNumber, 5, (some .boolean), fr, lo, mc, ms) false := lkV_mk RX5 TX5 6 rfl (wIn 433 (by decide +kernel) (by decide +kernel)) (wIn 435 (by decide +kernel) (by decide +kernel)) (pIn 3 (by decide +kernel) (by decide +kernel)) fr lo mc ms
set_option maxRecDepth 100000 in
theorem lo_5_3 : Cond.methodLink RX5 3 Lib.objectInit ∈ wAll := (wIn 96 (by decide +kernel) (by decide +kernel))
set_option maxRecDepth 100000 in
theorem lp_5_5_0 : lkP RX5 5 0 (.array .int) true := fun C T N h => by
  cases h
  exact ⟨⟨tyX5, tyX5_ok⟩, nmX5, by decide +kernel, by decide +kernel, fun _ => by decide +kernel⟩
set_option maxRecDepth 100000 in
theorem lp_5_5_4 : lkP RX5 5 4 (.array .int) true := fun C T N h => by
  cases h
  exact ⟨⟨tyX5, tyX5_ok⟩, nmX5, by decide +kernel, by decide +kernel, fun _ => by decide +kernel⟩
set_option maxRecDepth 100000 in
theorem lp_5_5_5 : lkP RX5 5 5 (.array .int) true := fun C T N h => by
  cases h
  exact ⟨⟨tyX5, tyX5_ok⟩, nmX5, by decide +kernel, by decide +kernel, fun _ => by decide +kernel⟩
set_option maxRecDepth 100000 in
theorem lf_6_9 : lkF RX6 9 6 0 := ⟨RX6, TX6, 4, rfl, by decide, rfl, inC6, (wIn 180 (by decide +kernel) (by decide +kernel))⟩
set_option maxRecDepth 100000 in
theorem lf_6_15 : lkF RX6 15 6 1 := ⟨RX6, TX6, 4, rfl, by decide, rfl, inC6, (wIn 182 (by decide +kernel) (by decide +kernel))⟩
set_option maxRecDepth 100000 in
theorem lf_6_28 : lkF RX6 28 3 1 := ⟨RX3, TX3, 9, rfl, by decide, rfl, inC3, (wIn 35 (by decide +kernel) (by decide +kernel))⟩
set_option maxRecDepth 100000 in
theorem lv_6_33 (fr lo mc ms : Nat) : lkV RX6 33 3 (yX3_isFace, cX3_isFace, 2, (some .boolean), fr, lo, mc, ms) false := lkV_mk RX3 TX3 9 rfl (wIn 465 (by decide +kernel) (by decide +kernel)) (wIn 364 (by decide +kernel) (by decide +kernel)) (wIn 365 (by decide +kernel) (by decide +kernel)) fr lo mc ms
set_option maxRecDepth 100000 in
theorem lf_6_37 : lkF RX6 37 3 5 := ⟨RX3, TX3, 9, rfl, by decide, rfl, inC3, (wIn 43 (by decide +kernel) (by decide +kernel))⟩
set_option maxRecDepth 100000 in
theorem lv_6_40 (fr lo mc ms : Nat) : lkV RX6 40 3 (yX3_homeOf, cX3_homeOf, 3, (some .int), fr, lo, mc, ms) false := lkV_mk RX3 TX3 9 rfl (wIn 466 (by decide +kernel) (by decide +kernel)) (wIn 347 (by decide +kernel) (by decide +kernel)) (wIn 348 (by decide +kernel) (by decide +kernel)) fr lo mc ms
set_option maxRecDepth 100000 in
theorem ls_6_68 (fr lo mc ms : Nat) : lkS RX6 68 (yX8_pair, cX8_pair, 2, (some .int), fr, lo, mc, ms) true := lkS_mk (show _ from (nIn 471 (by decide +kernel) (by decide +kernel))) (wIn 472 (by decide +kernel) (by decide +kernel)) fr lo mc ms
set_option maxRecDepth 100000 in
theorem lc_X6_note (fr lo mc ms : Nat) : lkC (yX6_note, cX6_note, 4, none, fr, lo, mc, ms) 3 := lkC_mk (wIn 470 (by decide +kernel) (by decide +kernel)) (wIn 6 (by decide +kernel) (by decide +kernel)) (by decide +kernel) fr lo mc ms
set_option maxRecDepth 100000 in
theorem lv_6_44 (fr lo mc ms : Nat) : lkV RX6 44 6 (yX6_note, cX6_note, 4, none, fr, lo, mc, ms) false := lkV_mk RX6 TX6 4 rfl (wIn 467 (by decide +kernel) (by decide +kernel)) (wIn 469 (by decide +kernel) (by decide +kernel)) (pIn 6 (by decide +kernel) (by decide +kernel)) fr lo mc ms
set_option maxRecDepth 100000 in
theorem lf_6_71 : lkF RX6 71 3 3 := ⟨RX3, TX3, 9, rfl, by decide, rfl, inC3, (wIn 40 (by decide +kernel) (by decide +kernel))⟩
set_option maxRecDepth 100000 in
theorem lv_6_74 (fr lo mc ms : Nat) : lkV RX6 74 3 (yX3_sortOf, cX3_sortOf, 3, (some .int), fr, lo, mc, ms) false := lkV_mk RX3 TX3 9 rfl (wIn 478 (by decide +kernel) (by decide +kernel)) (wIn 479 (by decide +kernel) (by decide +kernel)) (wIn 480 (by decide +kernel) (by decide +kernel)) fr lo mc ms
set_option maxRecDepth 100000 in
theorem ls_6_77 (fr lo mc ms : Nat) : lkS RX6 77 (yX3_kindToldBy, cX3_kindToldBy, 1, (some .int), fr, lo, mc, ms) false := lkS_mk (wIn 482 (by decide +kernel) (by decide +kernel)) (wIn 442 (by decide +kernel) (by decide +kernel)) fr lo mc ms
set_option maxRecDepth 100000 in
theorem lv_6_81 (fr lo mc ms : Nat) : lkV RX6 81 3 (yX3_numberOf, cX3_numberOf, 3, (some .int), fr, lo, mc, ms) false := lkV_mk RX3 TX3 9 rfl (wIn 483 (by decide +kernel) (by decide +kernel)) (wIn 484 (by decide +kernel) (by decide +kernel)) (wIn 485 (by decide +kernel) (by decide +kernel)) fr lo mc ms
set_option maxRecDepth 100000 in
theorem lc_X6_tieSortOf (fr lo mc ms : Nat) : lkC (yX6_tieSortOf, cX6_tieSortOf, 1, (some .int), fr, lo, mc, ms) 1 := lkC_mk (wIn 489 (by decide +kernel) (by decide +kernel)) (wIn 6 (by decide +kernel) (by decide +kernel)) (by decide +kernel) fr lo mc ms
set_option maxRecDepth 100000 in
theorem ls_6_84 (fr lo mc ms : Nat) : lkS RX6 84 (yX6_tieSortOf, cX6_tieSortOf, 1, (some .int), fr, lo, mc, ms) false := lkS_mk (wIn 487 (by decide +kernel) (by decide +kernel)) (wIn 488 (by decide +kernel) (by decide +kernel)) fr lo mc ms
set_option maxRecDepth 100000 in
theorem lc_X6_readBody (fr lo mc ms : Nat) : lkC (yX6_readBody, cX6_readBody, 7, none, fr, lo, mc, ms) 3 := lkC_mk (wIn 477 (by decide +kernel) (by decide +kernel)) (wIn 6 (by decide +kernel) (by decide +kernel)) (by decide +kernel) fr lo mc ms
set_option maxRecDepth 100000 in
theorem lv_6_48 (fr lo mc ms : Nat) : lkV RX6 48 6 (yX6_readBody, cX6_readBody, 7, none, fr, lo, mc, ms) false := lkV_mk RX6 TX6 4 rfl (wIn 474 (by decide +kernel) (by decide +kernel)) (wIn 476 (by decide +kernel) (by decide +kernel)) (pIn 7 (by decide +kernel) (by decide +kernel)) fr lo mc ms
set_option maxRecDepth 100000 in
theorem lf_6_87 : lkF RX6 87 3 6 := ⟨RX3, TX3, 9, rfl, by decide, rfl, inC3, (wIn 46 (by decide +kernel) (by decide +kernel))⟩
set_option maxRecDepth 100000 in
theorem lv_6_90 (fr lo mc ms : Nat) : lkV RX6 90 3 (yX3_hearerOf, cX3_hearerOf, 3, (some .int), fr, lo, mc, ms) false := lkV_mk RX3 TX3 9 rfl (wIn 494 (by decide +kernel) (by decide +kernel)) (wIn 495 (by decide +kernel) (by decide +kernel)) (wIn 496 (by decide +kernel) (by decide +kernel)) fr lo mc ms
set_option maxRecDepth 100000 in
theorem lc_X6_readHearers (fr lo mc ms : Nat) : lkC (yX6_readHearers, cX6_readHearers, 6, none, fr, lo, mc, ms) 2 := lkC_mk (wIn 493 (by decide +kernel) (by decide +kernel)) (wIn 6 (by decide +kernel) (by decide +kernel)) (by decide +kernel) fr lo mc ms
set_option maxRecDepth 100000 in
theorem lv_6_52 (fr lo mc ms : Nat) : lkV RX6 52 6 (yX6_readHearers, cX6_readHearers, 6, none, fr, lo, mc, ms) false := lkV_mk RX6 TX6 4 rfl (wIn 490 (by decide +kernel) (by decide +kernel)) (wIn 492 (by decide +kernel) (by decide +kernel)) (pIn 8 (by decide +kernel) (by decide +kernel)) fr lo mc ms
set_option maxRecDepth 100000 in
theorem lf_6_93 : lkF RX6 93 3 8 := ⟨RX3, TX3, 9, rfl, by decide, rfl, inC3, (wIn 50 (by decide +kernel) (by decide +kernel))⟩
set_option maxRecDepth 100000 in
theorem lc_X6_dropAllowed (fr lo mc ms : Nat) : lkC (yX6_dropAllowed, cX6_dropAllowed, 4, none, fr, lo, mc, ms) 2 := lkC_mk (wIn 501 (by decide +kernel) (by decide +kernel)) (wIn 6 (by decide +kernel) (by decide +kernel)) (by decide +kernel) fr lo mc ms
set_option maxRecDepth 100000 in
theorem lv_6_56 (fr lo mc ms : Nat) : lkV RX6 56 6 (yX6_dropAllowed, cX6_dropAllowed, 4, none, fr, lo, mc, ms) false := lkV_mk RX6 TX6 4 rfl (wIn 498 (by decide +kernel) (by decide +kernel)) (wIn 500 (by decide +kernel) (by decide +kernel)) (pIn 9 (by decide +kernel) (by decide +kernel)) fr lo mc ms
set_option maxRecDepth 100000 in
theorem lf_6_24 : lkF RX6 24 6 3 := ⟨RX6, TX6, 4, rfl, by decide, rfl, inC6, (wIn 188 (by decide +kernel) (by decide +kernel))⟩
set_option maxRecDepth 100000 in
theorem lf_6_60 : lkF RX6 60 3 0 := ⟨RX3, TX3, 9, rfl, by decide, rfl, inC3, (wIn 33 (by decide +kernel) (by decide +kernel))⟩
set_option maxRecDepth 100000 in
theorem lv_6_64 (fr lo mc ms : Nat) : lkV RX6 64 7 (yX7_link, cX7_link, 5, none, fr, lo, mc, ms) false := lkV_mk RX7 TX7 7 rfl (wIn 502 (by decide +kernel) (by decide +kernel)) (wIn 503 (by decide +kernel) (by decide +kernel)) (wIn 504 (by decide +kernel) (by decide +kernel)) fr lo mc ms
set_option maxRecDepth 100000 in
theorem lf_6_96 : lkF RX6 96 7 0 := ⟨RX7, TX7, 7, rfl, by decide, rfl, inC7, (wIn 156 (by decide +kernel) (by decide +kernel))⟩
set_option maxRecDepth 100000 in
theorem lv_6_99 (fr lo mc ms : Nat) : lkV RX6 99 7 (yX7_isTie, cX7_isTie, 3, (some .boolean), fr, lo, mc, ms) false := lkV_mk RX7 TX7 7 rfl (wIn 747 (by decide +kernel) (by decide +kernel)) (wIn 530 (by decide +kernel) (by decide +kernel)) (wIn 531 (by decide +kernel) (by decide +kernel)) fr lo mc ms
set_option maxRecDepth 100000 in
theorem lf_6_18 : lkF RX6 18 6 2 := ⟨RX6, TX6, 4, rfl, by decide, rfl, inC6, (wIn 186 (by decide +kernel) (by decide +kernel))⟩
set_option maxRecDepth 100000 in
theorem lo_6_3 : Cond.methodLink RX6 3 Lib.objectInit ∈ wAll := (wIn 146 (by decide +kernel) (by decide +kernel))
set_option maxRecDepth 100000 in
theorem lp_6_6_0 : lkP RX6 6 0 (.array .int) true := fun C T N h => by
  cases h
  exact ⟨⟨tyX6, tyX6_ok⟩, nmX6, by decide +kernel, by decide +kernel, fun _ => by decide +kernel⟩
set_option maxRecDepth 100000 in
theorem lp_6_6_1 : lkP RX6 6 1 (.array .int) true := fun C T N h => by
  cases h
  exact ⟨⟨tyX6, tyX6_ok⟩, nmX6, by decide +kernel, by decide +kernel, fun _ => by decide +kernel⟩
set_option maxRecDepth 100000 in
theorem lp_6_6_2 : lkP RX6 6 2 (.array .int) true := fun C T N h => by
  cases h
  exact ⟨⟨tyX6, tyX6_ok⟩, nmX6, by decide +kernel, by decide +kernel, fun _ => by decide +kernel⟩
set_option maxRecDepth 100000 in
theorem ln_6_21 : lkN RX6 21 7 := ⟨RX7, TX7, 7, rfl, rfl, inC7, (wIn 147 (by decide +kernel) (by decide +kernel)), (wIn 148 (by decide +kernel) (by decide +kernel)), (wIn 7 (by decide +kernel) (by decide +kernel)), tyX7, tyX7_ok, by decide +kernel⟩
set_option maxRecDepth 100000 in
theorem li_6_23 (fr lo mc ms : Nat) : lkI RX6 23 (yX7_init, cX7_init, 1, none, fr, lo, mc, ms) true := lkI_mk (show _ from (nIn 149 (by decide +kernel) (by decide +kernel))) (wIn 150 (by decide +kernel) (by decide +kernel)) rfl fr lo mc ms
set_option maxRecDepth 100000 in
theorem lp_6_6_3 : lkP RX6 6 3 (.object "RingUntie$Web") true := fun C T N h => by
  cases h
  exact ⟨⟨tyX6, tyX6_ok⟩, nmX6, by decide +kernel, by decide +kernel, fun _ => by decide +kernel⟩
set_option maxRecDepth 100000 in
theorem lc_X7_areTogether (fr lo mc ms : Nat) : lkC (yX7_areTogether, cX7_areTogether, 3, (some .boolean), fr, lo, mc, ms) 2 := lkC_mk (wIn 520 (by decide +kernel) (by decide +kernel)) (wIn 7 (by decide +kernel) (by decide +kernel)) (by decide +kernel) fr lo mc ms
set_option maxRecDepth 100000 in
theorem lv_7_45 (fr lo mc ms : Nat) : lkV RX7 45 7 (yX7_areTogether, cX7_areTogether, 3, (some .boolean), fr, lo, mc, ms) false := lkV_mk RX7 TX7 7 rfl (wIn 621 (by decide +kernel) (by decide +kernel)) (wIn 518 (by decide +kernel) (by decide +kernel)) (wIn 519 (by decide +kernel) (by decide +kernel)) fr lo mc ms
set_option maxRecDepth 100000 in
theorem lc_X7_leastOfGroup (fr lo mc ms : Nat) : lkC (yX7_leastOfGroup, cX7_leastOfGroup, 3, (some .int), fr, lo, mc, ms) 1 := lkC_mk (wIn 620 (by decide +kernel) (by decide +kernel)) (wIn 7 (by decide +kernel) (by decide +kernel)) (by decide +kernel) fr lo mc ms
set_option maxRecDepth 100000 in
theorem lv_7_48 (fr lo mc ms : Nat) : lkV RX7 48 7 (yX7_leastOfGroup, cX7_leastOfGroup, 3, (some .int), fr, lo, mc, ms) false := lkV_mk RX7 TX7 7 rfl (wIn 630 (by decide +kernel) (by decide +kernel)) (wIn 618 (by decide +kernel) (by decide +kernel)) (wIn 619 (by decide +kernel) (by decide +kernel)) fr lo mc ms
set_option maxRecDepth 100000 in
theorem lo_8_1 : Cond.methodLink RX8 1 Lib.objectInit ∈ wAll := (wIn 22 (by decide +kernel) (by decide +kernel))
set_option maxRecDepth 100000 in
theorem ln_8_7 : lkN RX8 7 3 := ⟨RX3, TX3, 9, rfl, rfl, inC3, (wIn 25 (by decide +kernel) (by decide +kernel)), (wIn 26 (by decide +kernel) (by decide +kernel)), (wIn 2 (by decide +kernel) (by decide +kernel)), tyX3, tyX3_ok, by decide +kernel⟩
set_option maxRecDepth 100000 in
theorem li_8_9 (fr lo mc ms : Nat) : lkI RX8 9 (yX3_init, cX3_init, 1, none, fr, lo, mc, ms) true := lkI_mk (show _ from (nIn 27 (by decide +kernel) (by decide +kernel))) (wIn 28 (by decide +kernel) (by decide +kernel)) rfl fr lo mc ms
set_option maxRecDepth 100000 in
theorem lf_8_10 : lkF RX8 10 8 0 := ⟨RX8, TX8, 14, rfl, by decide, rfl, inC8, (wIn 245 (by decide +kernel) (by decide +kernel))⟩
set_option maxRecDepth 100000 in
theorem lp_8_8_0 : lkP RX8 8 0 (.object "RingUntie$Program") false := fun C T N h => by
  cases h
  exact ⟨⟨tyX8, tyX8_ok⟩, nmX8, by decide +kernel, by decide +kernel, fun h => by cases h⟩
set_option maxRecDepth 100000 in
theorem lf_8_16 : lkF RX8 16 8 1 := ⟨RX8, TX8, 14, rfl, by decide, rfl, inC8, (wIn 246 (by decide +kernel) (by decide +kernel))⟩
set_option maxRecDepth 100000 in
theorem lp_8_8_1 : lkP RX8 8 1 (.object "RingUntie$Program") false := fun C T N h => by
  cases h
  exact ⟨⟨tyX8, tyX8_ok⟩, nmX8, by decide +kernel, by decide +kernel, fun h => by cases h⟩
set_option maxRecDepth 100000 in
theorem ln_8_19 : lkN RX8 19 2 := ⟨RX2, TX2, 3, rfl, rfl, inC2, (wIn 72 (by decide +kernel) (by decide +kernel)), (wIn 73 (by decide +kernel) (by decide +kernel)), (wIn 3 (by decide +kernel) (by decide +kernel)), tyX2, tyX2_ok, by decide +kernel⟩
set_option maxRecDepth 100000 in
theorem lc_X2_init (fr lo mc ms : Nat) : lkC (yX2_init, cX2_init, 1, none, fr, lo, mc, ms) 0 := lkC_mk (wIn 76 (by decide +kernel) (by decide +kernel)) (wIn 3 (by decide +kernel) (by decide +kernel)) (by decide +kernel) fr lo mc ms
set_option maxRecDepth 100000 in
theorem li_8_21 (fr lo mc ms : Nat) : lkI RX8 21 (yX2_init, cX2_init, 1, none, fr, lo, mc, ms) true := lkI_mk (show _ from (nIn 74 (by decide +kernel) (by decide +kernel))) (wIn 75 (by decide +kernel) (by decide +kernel)) rfl fr lo mc ms
set_option maxRecDepth 100000 in
theorem lf_8_22 : lkF RX8 22 8 2 := ⟨RX8, TX8, 14, rfl, by decide, rfl, inC8, (wIn 247 (by decide +kernel) (by decide +kernel))⟩
set_option maxRecDepth 100000 in
theorem lp_8_8_2 : lkP RX8 8 2 (.object "RingUntie$Past") true := fun C T N h => by
  cases h
  exact ⟨⟨tyX8, tyX8_ok⟩, nmX8, by decide +kernel, by decide +kernel, fun _ => by decide +kernel⟩
set_option maxRecDepth 100000 in
theorem ln_8_26 : lkN RX8 26 5 := ⟨RX5, TX5, 6, rfl, rfl, inC5, (wIn 91 (by decide +kernel) (by decide +kernel)), (wIn 92 (by decide +kernel) (by decide +kernel)), (wIn 4 (by decide +kernel) (by decide +kernel)), tyX5, tyX5_ok, by decide +kernel⟩
set_option maxRecDepth 100000 in
theorem lc_X5_init (fr lo mc ms : Nat) : lkC (yX5_init, cX5_init, 1, none, fr, lo, mc, ms) 0 := lkC_mk (wIn 95 (by decide +kernel) (by decide +kernel)) (wIn 4 (by decide +kernel) (by decide +kernel)) (by decide +kernel) fr lo mc ms
set_option maxRecDepth 100000 in
theorem li_8_28 (fr lo mc ms : Nat) : lkI RX8 28 (yX5_init, cX5_init, 1, none, fr, lo, mc, ms) true := lkI_mk (show _ from (nIn 93 (by decide +kernel) (by decide +kernel))) (wIn 94 (by decide +kernel) (by decide +kernel)) rfl fr lo mc ms
set_option maxRecDepth 100000 in
theorem lf_8_29 : lkF RX8 29 8 3 := ⟨RX8, TX8, 14, rfl, by decide, rfl, inC8, (wIn 248 (by decide +kernel) (by decide +kernel))⟩
set_option maxRecDepth 100000 in
theorem lp_8_8_3 : lkP RX8 8 3 (.object "RingUntie$Tape") true := fun C T N h => by
  cases h
  exact ⟨⟨tyX8, tyX8_ok⟩, nmX8, by decide +kernel, by decide +kernel, fun _ => by decide +kernel⟩
set_option maxRecDepth 100000 in
theorem ln_8_33 : lkN RX8 33 4 := ⟨RX4, TX4, 4, rfl, rfl, inC4, (wIn 121 (by decide +kernel) (by decide +kernel)), (wIn 122 (by decide +kernel) (by decide +kernel)), (wIn 5 (by decide +kernel) (by decide +kernel)), tyX4, tyX4_ok, by decide +kernel⟩
set_option maxRecDepth 100000 in
theorem lc_X4_init (fr lo mc ms : Nat) : lkC (yX4_init, cX4_init, 1, none, fr, lo, mc, ms) 0 := lkC_mk (wIn 125 (by decide +kernel) (by decide +kernel)) (wIn 5 (by decide +kernel) (by decide +kernel)) (by decide +kernel) fr lo mc ms
set_option maxRecDepth 100000 in
theorem li_8_35 (fr lo mc ms : Nat) : lkI RX8 35 (yX4_init, cX4_init, 1, none, fr, lo, mc, ms) true := lkI_mk (show _ from (nIn 123 (by decide +kernel) (by decide +kernel))) (wIn 124 (by decide +kernel) (by decide +kernel)) rfl fr lo mc ms
set_option maxRecDepth 100000 in
theorem lf_8_36 : lkF RX8 36 8 4 := ⟨RX8, TX8, 14, rfl, by decide, rfl, inC8, (wIn 249 (by decide +kernel) (by decide +kernel))⟩
set_option maxRecDepth 100000 in
theorem lp_8_8_4 : lkP RX8 8 4 (.object "RingUntie$Runner") true := fun C T N h => by
  cases h
  exact ⟨⟨tyX8, tyX8_ok⟩, nmX8, by decide +kernel, by decide +kernel, fun _ => by decide +kernel⟩
set_option maxRecDepth 100000 in
theorem ln_8_40 : lkN RX8 40 6 := ⟨RX6, TX6, 4, rfl, rfl, inC6, (wIn 141 (by decide +kernel) (by decide +kernel)), (wIn 142 (by decide +kernel) (by decide +kernel)), (wIn 6 (by decide +kernel) (by decide +kernel)), tyX6, tyX6_ok, by decide +kernel⟩
set_option maxRecDepth 100000 in
theorem lc_X6_init (fr lo mc ms : Nat) : lkC (yX6_init, cX6_init, 1, none, fr, lo, mc, ms) 0 := lkC_mk (wIn 145 (by decide +kernel) (by decide +kernel)) (wIn 6 (by decide +kernel) (by decide +kernel)) (by decide +kernel) fr lo mc ms
set_option maxRecDepth 100000 in
theorem li_8_42 (fr lo mc ms : Nat) : lkI RX8 42 (yX6_init, cX6_init, 1, none, fr, lo, mc, ms) true := lkI_mk (show _ from (nIn 143 (by decide +kernel) (by decide +kernel))) (wIn 144 (by decide +kernel) (by decide +kernel)) rfl fr lo mc ms
set_option maxRecDepth 100000 in
theorem lf_8_43 : lkF RX8 43 8 5 := ⟨RX8, TX8, 14, rfl, by decide, rfl, inC8, (wIn 250 (by decide +kernel) (by decide +kernel))⟩
set_option maxRecDepth 100000 in
theorem lp_8_8_5 : lkP RX8 8 5 (.object "RingUntie$Ties") true := fun C T N h => by
  cases h
  exact ⟨⟨tyX8, tyX8_ok⟩, nmX8, by decide +kernel, by decide +kernel, fun _ => by decide +kernel⟩
set_option maxRecDepth 100000 in
theorem lf_8_47 : lkF RX8 47 8 6 := ⟨RX8, TX8, 14, rfl, by decide, rfl, inC8, (wIn 251 (by decide +kernel) (by decide +kernel))⟩
set_option maxRecDepth 100000 in
theorem lp_8_8_6 : lkP RX8 8 6 (.object "RingUntie$Ties") true := fun C T N h => by
  cases h
  exact ⟨⟨tyX8, tyX8_ok⟩, nmX8, by decide +kernel, by decide +kernel, fun _ => by decide +kernel⟩
set_option maxRecDepth 100000 in
theorem ln_8_50 : lkN RX8 50 1 := ⟨RX1, TX1, 7, rfl, rfl, inC1, (wIn 201 (by decide +kernel) (by decide +kernel)), (wIn 202 (by decide +kernel) (by decide +kernel)), (wIn 8 (by decide +kernel) (by decide +kernel)), tyX1, tyX1_ok, by decide +kernel⟩
set_option maxRecDepth 100000 in
theorem lc_X1_init (fr lo mc ms : Nat) : lkC (yX1_init, cX1_init, 1, none, fr, lo, mc, ms) 0 := lkC_mk (wIn 205 (by decide +kernel) (by decide +kernel)) (wIn 8 (by decide +kernel) (by decide +kernel)) (by decide +kernel) fr lo mc ms
set_option maxRecDepth 100000 in
theorem li_8_52 (fr lo mc ms : Nat) : lkI RX8 52 (yX1_init, cX1_init, 1, none, fr, lo, mc, ms) true := lkI_mk (show _ from (nIn 203 (by decide +kernel) (by decide +kernel))) (wIn 204 (by decide +kernel) (by decide +kernel)) rfl fr lo mc ms
set_option maxRecDepth 100000 in
theorem lf_8_53 : lkF RX8 53 8 7 := ⟨RX8, TX8, 14, rfl, by decide, rfl, inC8, (wIn 252 (by decide +kernel) (by decide +kernel))⟩
set_option maxRecDepth 100000 in
theorem lp_8_8_7 : lkP RX8 8 7 (.object "RingUntie$Order") true := fun C T N h => by
  cases h
  exact ⟨⟨tyX8, tyX8_ok⟩, nmX8, by decide +kernel, by decide +kernel, fun _ => by decide +kernel⟩
set_option maxRecDepth 100000 in
theorem ln_8_57 : lkN RX8 57 0 := ⟨RX0, TX0, 2, rfl, rfl, inC0, (wIn 230 (by decide +kernel) (by decide +kernel)), (wIn 231 (by decide +kernel) (by decide +kernel)), (wIn 9 (by decide +kernel) (by decide +kernel)), tyX0, tyX0_ok, by decide +kernel⟩
set_option maxRecDepth 100000 in
theorem lc_X0_init (fr lo mc ms : Nat) : lkC (yX0_init, cX0_init, 1, none, fr, lo, mc, ms) 0 := lkC_mk (wIn 234 (by decide +kernel) (by decide +kernel)) (wIn 9 (by decide +kernel) (by decide +kernel)) (by decide +kernel) fr lo mc ms
set_option maxRecDepth 100000 in
theorem li_8_59 (fr lo mc ms : Nat) : lkI RX8 59 (yX0_init, cX0_init, 1, none, fr, lo, mc, ms) true := lkI_mk (show _ from (nIn 232 (by decide +kernel) (by decide +kernel))) (wIn 233 (by decide +kernel) (by decide +kernel)) rfl fr lo mc ms
set_option maxRecDepth 100000 in
theorem lf_8_60 : lkF RX8 60 8 8 := ⟨RX8, TX8, 14, rfl, by decide, rfl, inC8, (wIn 253 (by decide +kernel) (by decide +kernel))⟩
set_option maxRecDepth 100000 in
theorem lp_8_8_8 : lkP RX8 8 8 (.object "RingUntie$Bound") true := fun C T N h => by
  cases h
  exact ⟨⟨tyX8, tyX8_ok⟩, nmX8, by decide +kernel, by decide +kernel, fun _ => by decide +kernel⟩
set_option maxRecDepth 100000 in
theorem lf_8_64 : lkF RX8 64 8 9 := ⟨RX8, TX8, 14, rfl, by decide, rfl, inC8, (wIn 254 (by decide +kernel) (by decide +kernel))⟩
set_option maxRecDepth 100000 in
theorem lp_8_8_9 : lkP RX8 8 9 (.array .int) true := fun C T N h => by
  cases h
  exact ⟨⟨tyX8, tyX8_ok⟩, nmX8, by decide +kernel, by decide +kernel, fun _ => by decide +kernel⟩
set_option maxRecDepth 100000 in
theorem lf_8_68 : lkF RX8 68 8 10 := ⟨RX8, TX8, 14, rfl, by decide, rfl, inC8, (wIn 255 (by decide +kernel) (by decide +kernel))⟩
set_option maxRecDepth 100000 in
theorem lp_8_8_10 : lkP RX8 8 10 .int false := fun C T N h => by
  cases h
  exact ⟨⟨tyX8, tyX8_ok⟩, nmX8, by decide +kernel, by decide +kernel, fun h => by cases h⟩
set_option maxRecDepth 100000 in
theorem lf_8_72 : lkF RX8 72 8 11 := ⟨RX8, TX8, 14, rfl, by decide, rfl, inC8, (wIn 256 (by decide +kernel) (by decide +kernel))⟩
set_option maxRecDepth 100000 in
theorem lp_8_8_11 : lkP RX8 8 11 .boolean false := fun C T N h => by
  cases h
  exact ⟨⟨tyX8, tyX8_ok⟩, nmX8, by decide +kernel, by decide +kernel, fun h => by cases h⟩
set_option maxRecDepth 100000 in
theorem lf_8_76 : lkF RX8 76 8 12 := ⟨RX8, TX8, 14, rfl, by decide, rfl, inC8, (wIn 257 (by decide +kernel) (by decide +kernel))⟩
set_option maxRecDepth 100000 in
theorem lp_8_8_12 : lkP RX8 8 12 .int false := fun C T N h => by
  cases h
  exact ⟨⟨tyX8, tyX8_ok⟩, nmX8, by decide +kernel, by decide +kernel, fun h => by cases h⟩
set_option maxRecDepth 100000 in
theorem lf_8_79 : lkF RX8 79 8 13 := ⟨RX8, TX8, 14, rfl, by decide, rfl, inC8, (wIn 258 (by decide +kernel) (by decide +kernel))⟩
set_option maxRecDepth 100000 in
theorem lp_8_8_13 : lkP RX8 8 13 .int false := fun C T N h => by
  cases h
  exact ⟨⟨tyX8, tyX8_ok⟩, nmX8, by decide +kernel, by decide +kernel, fun h => by cases h⟩
set_option maxRecDepth 100000 in
theorem lf_8_82 : lkF RX8 82 3 0 := ⟨RX3, TX3, 9, rfl, by decide, rfl, inC3, (wIn 32 (by decide +kernel) (by decide +kernel))⟩
set_option maxRecDepth 100000 in
theorem lc_X3_copyFrom (fr lo mc ms : Nat) : lkC (yX3_copyFrom, cX3_copyFrom, 2, none, fr, lo, mc, ms) 1 := lkC_mk (wIn 295 (by decide +kernel) (by decide +kernel)) (wIn 2 (by decide +kernel) (by decide +kernel)) (by decide +kernel) fr lo mc ms
set_option maxRecDepth 100000 in
theorem lv_8_85 (fr lo mc ms : Nat) : lkV RX8 85 3 (yX3_copyFrom, cX3_copyFrom, 2, none, fr, lo, mc, ms) false := lkV_mk RX3 TX3 9 rfl (wIn 292 (by decide +kernel) (by decide +kernel)) (wIn 293 (by decide +kernel) (by decide +kernel)) (wIn 294 (by decide +kernel) (by decide +kernel)) fr lo mc ms
set_option maxRecDepth 100000 in
theorem lv_8_89 (fr lo mc ms : Nat) : lkV RX8 89 3 (yX3_addPart, cX3_addPart, 1, (some .int), fr, lo, mc, ms) false := lkV_mk RX3 TX3 9 rfl (wIn 299 (by decide +kernel) (by decide +kernel)) (wIn 300 (by decide +kernel) (by decide +kernel)) (wIn 301 (by decide +kernel) (by decide +kernel)) fr lo mc ms
set_option maxRecDepth 100000 in
theorem lc_X2_keep (fr lo mc ms : Nat) : lkC (yX2_keep, cX2_keep, 4, (some (.object "RingUntie$Program")), fr, lo, mc, ms) 1 := lkC_mk (wIn 310 (by decide +kernel) (by decide +kernel)) (wIn 3 (by decide +kernel) (by decide +kernel)) (by decide +kernel) fr lo mc ms
set_option maxRecDepth 100000 in
theorem lv_8_288 (fr lo mc ms : Nat) : lkV RX8 288 2 (yX2_keep, cX2_keep, 4, (some (.object "RingUntie$Program")), fr, lo, mc, ms) false := lkV_mk RX2 TX2 3 rfl (wIn 307 (by decide +kernel) (by decide +kernel)) (wIn 308 (by decide +kernel) (by decide +kernel)) (wIn 309 (by decide +kernel) (by decide +kernel)) fr lo mc ms
set_option maxRecDepth 100000 in
theorem lc_X8_keepChange (fr lo mc ms : Nat) : lkC (yX8_keepChange, cX8_keepChange, 1, none, fr, lo, mc, ms) 0 := lkC_mk (wIn 306 (by decide +kernel) (by decide +kernel)) (wIn 1 (by decide +kernel) (by decide +kernel)) (by decide +kernel) fr lo mc ms
set_option maxRecDepth 100000 in
theorem lv_8_93 (fr lo mc ms : Nat) : lkV RX8 93 8 (yX8_keepChange, cX8_keepChange, 1, none, fr, lo, mc, ms) false := lkV_mk RX8 TX8 14 rfl (wIn 303 (by decide +kernel) (by decide +kernel)) (wIn 305 (by decide +kernel) (by decide +kernel)) (pIn 0 (by decide +kernel) (by decide +kernel)) fr lo mc ms
set_option maxRecDepth 100000 in
theorem ls_8_96 (fr lo mc ms : Nat) : lkS RX8 96 (yX8_isKind, cX8_isKind, 1, (some .boolean), fr, lo, mc, ms) false := lkS_mk (wIn 316 (by decide +kernel) (by decide +kernel)) (wIn 317 (by decide +kernel) (by decide +kernel)) fr lo mc ms
set_option maxRecDepth 100000 in
theorem lc_X3_hasPart (fr lo mc ms : Nat) : lkC (yX3_hasPart, cX3_hasPart, 2, (some .boolean), fr, lo, mc, ms) 1 := lkC_mk (wIn 322 (by decide +kernel) (by decide +kernel)) (wIn 2 (by decide +kernel) (by decide +kernel)) (by decide +kernel) fr lo mc ms
set_option maxRecDepth 100000 in
theorem lv_8_100 (fr lo mc ms : Nat) : lkV RX8 100 3 (yX3_hasPart, cX3_hasPart, 2, (some .boolean), fr, lo, mc, ms) false := lkV_mk RX3 TX3 9 rfl (wIn 319 (by decide +kernel) (by decide +kernel)) (wIn 320 (by decide +kernel) (by decide +kernel)) (wIn 321 (by decide +kernel) (by decide +kernel)) fr lo mc ms
set_option maxRecDepth 100000 in
theorem lc_X3_isFull (fr lo mc ms : Nat) : lkC (yX3_isFull, cX3_isFull, 2, (some .boolean), fr, lo, mc, ms) 1 := lkC_mk (wIn 326 (by decide +kernel) (by decide +kernel)) (wIn 2 (by decide +kernel) (by decide +kernel)) (by decide +kernel) fr lo mc ms
set_option maxRecDepth 100000 in
theorem lv_8_103 (fr lo mc ms : Nat) : lkV RX8 103 3 (yX3_isFull, cX3_isFull, 2, (some .boolean), fr, lo, mc, ms) false := lkV_mk RX3 TX3 9 rfl (wIn 323 (by decide +kernel) (by decide +kernel)) (wIn 324 (by decide +kernel) (by decide +kernel)) (wIn 325 (by decide +kernel) (by decide +kernel)) fr lo mc ms
set_option maxRecDepth 100000 in
theorem lv_8_106 (fr lo mc ms : Nat) : lkV RX8 106 3 (yX3_addThing, cX3_addThing, 4, (some .int), fr, lo, mc, ms) false := lkV_mk RX3 TX3 9 rfl (wIn 329 (by decide +kernel) (by decide +kernel)) (wIn 330 (by decide +kernel) (by decide +kernel)) (wIn 331 (by decide +kernel) (by decide +kernel)) fr lo mc ms
set_option maxRecDepth 100000 in
theorem lv_8_110 (fr lo mc ms : Nat) : lkV RX8 110 3 (yX3_has, cX3_has, 3, (some .boolean), fr, lo, mc, ms) false := lkV_mk RX3 TX3 9 rfl (wIn 341 (by decide +kernel) (by decide +kernel)) (wIn 342 (by decide +kernel) (by decide +kernel)) (wIn 343 (by decide +kernel) (by decide +kernel)) fr lo mc ms
set_option maxRecDepth 100000 in
theorem lv_8_114 (fr lo mc ms : Nat) : lkV RX8 114 3 (yX3_homeOf, cX3_homeOf, 3, (some .int), fr, lo, mc, ms) false := lkV_mk RX3 TX3 9 rfl (wIn 346 (by decide +kernel) (by decide +kernel)) (wIn 347 (by decide +kernel) (by decide +kernel)) (wIn 348 (by decide +kernel) (by decide +kernel)) fr lo mc ms
set_option maxRecDepth 100000 in
theorem lc_X5_append (fr lo mc ms : Nat) : lkC (yX5_append, cX5_append, 5, (some .boolean), fr, lo, mc, ms) 2 := lkC_mk (wIn 357 (by decide +kernel) (by decide +kernel)) (wIn 4 (by decide +kernel) (by decide +kernel)) (by decide +kernel) fr lo mc ms
set_option maxRecDepth 100000 in
theorem lv_8_117 (fr lo mc ms : Nat) : lkV RX8 117 5 (yX5_append, cX5_append, 5, (some .boolean), fr, lo, mc, ms) false := lkV_mk RX5 TX5 6 rfl (wIn 354 (by decide +kernel) (by decide +kernel)) (wIn 355 (by decide +kernel) (by decide +kernel)) (wIn 356 (by decide +kernel) (by decide +kernel)) fr lo mc ms
set_option maxRecDepth 100000 in
theorem lf_8_121 : lkF RX8 121 5 1 := ⟨RX5, TX5, 6, rfl, by decide, rfl, inC5, (wIn 99 (by decide +kernel) (by decide +kernel))⟩
set_option maxRecDepth 100000 in
theorem lv_8_124 (fr lo mc ms : Nat) : lkV RX8 124 3 (yX3_isFace, cX3_isFace, 2, (some .boolean), fr, lo, mc, ms) false := lkV_mk RX3 TX3 9 rfl (wIn 363 (by decide +kernel) (by decide +kernel)) (wIn 364 (by decide +kernel) (by decide +kernel)) (wIn 365 (by decide +kernel) (by decide +kernel)) fr lo mc ms
set_option maxRecDepth 100000 in
theorem lc_X5_readActs (fr lo mc ms : Nat) : lkC (yX5_readActs, cX5_readActs, 3, (some .int), fr, lo, mc, ms) 0 := lkC_mk (wIn 370 (by decide +kernel) (by decide +kernel)) (wIn 4 (by decide +kernel) (by decide +kernel)) (by decide +kernel) fr lo mc ms
set_option maxRecDepth 100000 in
theorem lv_8_127 (fr lo mc ms : Nat) : lkV RX8 127 5 (yX5_readActs, cX5_readActs, 3, (some .int), fr, lo, mc, ms) false := lkV_mk RX5 TX5 6 rfl (wIn 367 (by decide +kernel) (by decide +kernel)) (wIn 368 (by decide +kernel) (by decide +kernel)) (wIn 369 (by decide +kernel) (by decide +kernel)) fr lo mc ms
set_option maxRecDepth 100000 in
theorem lp_8_5_1 : lkP RX8 5 1 .int false := fun C T N h => by
  cases h
  exact ⟨⟨tyX5, tyX5_ok⟩, nmX5, by decide +kernel, by decide +kernel, fun h => by cases h⟩
set_option maxRecDepth 100000 in
theorem lc_X3_knowsAllOf (fr lo mc ms : Nat) : lkC (yX3_knowsAllOf, cX3_knowsAllOf, 4, (some .boolean), fr, lo, mc, ms) 1 := lkC_mk (wIn 440 (by decide +kernel) (by decide +kernel)) (wIn 2 (by decide +kernel) (by decide +kernel)) (by decide +kernel) fr lo mc ms
set_option maxRecDepth 100000 in
theorem lv_8_130 (fr lo mc ms : Nat) : lkV RX8 130 3 (yX3_knowsAllOf, cX3_knowsAllOf, 4, (some .boolean), fr, lo, mc, ms) false := lkV_mk RX3 TX3 9 rfl (wIn 437 (by decide +kernel) (by decide +kernel)) (wIn 438 (by decide +kernel) (by decide +kernel)) (wIn 439 (by decide +kernel) (by decide +kernel)) fr lo mc ms
set_option maxRecDepth 100000 in
theorem lc_X3_setBody (fr lo mc ms : Nat) : lkC (yX3_setBody, cX3_setBody, 4, none, fr, lo, mc, ms) 2 := lkC_mk (wIn 448 (by decide +kernel) (by decide +kernel)) (wIn 2 (by decide +kernel) (by decide +kernel)) (by decide +kernel) fr lo mc ms
set_option maxRecDepth 100000 in
theorem lv_8_134 (fr lo mc ms : Nat) : lkV RX8 134 3 (yX3_setBody, cX3_setBody, 4, none, fr, lo, mc, ms) false := lkV_mk RX3 TX3 9 rfl (wIn 445 (by decide +kernel) (by decide +kernel)) (wIn 446 (by decide +kernel) (by decide +kernel)) (wIn 447 (by decide +kernel) (by decide +kernel)) fr lo mc ms
set_option maxRecDepth 100000 in
theorem lf_8_138 : lkF RX8 138 5 3 := ⟨RX5, TX5, 6, rfl, by decide, rfl, inC5, (wIn 102 (by decide +kernel) (by decide +kernel))⟩
set_option maxRecDepth 100000 in
theorem lc_X6_readFrom (fr lo mc ms : Nat) : lkC (yX6_readFrom, cX6_readFrom, 5, none, fr, lo, mc, ms) 3 := lkC_mk (wIn 464 (by decide +kernel) (by decide +kernel)) (wIn 6 (by decide +kernel) (by decide +kernel)) (by decide +kernel) fr lo mc ms
set_option maxRecDepth 100000 in
theorem lv_8_278 (fr lo mc ms : Nat) : lkV RX8 278 6 (yX6_readFrom, cX6_readFrom, 5, none, fr, lo, mc, ms) false := lkV_mk RX6 TX6 4 rfl (wIn 461 (by decide +kernel) (by decide +kernel)) (wIn 462 (by decide +kernel) (by decide +kernel)) (wIn 463 (by decide +kernel) (by decide +kernel)) fr lo mc ms
set_option maxRecDepth 100000 in
theorem ls_8_294 (fr lo mc ms : Nat) : lkS RX8 294 (yX8_numberAhead, cX8_numberAhead, 2, (some .int), fr, lo, mc, ms) false := lkS_mk (wIn 514 (by decide +kernel) (by decide +kernel)) (wIn 515 (by decide +kernel) (by decide +kernel)) fr lo mc ms
set_option maxRecDepth 100000 in
theorem lf_8_186 : lkF RX8 186 6 3 := ⟨RX6, TX6, 4, rfl, by decide, rfl, inC6, (wIn 191 (by decide +kernel) (by decide +kernel))⟩
set_option maxRecDepth 100000 in
theorem lv_8_297 (fr lo mc ms : Nat) : lkV RX8 297 7 (yX7_areTogether, cX7_areTogether, 3, (some .boolean), fr, lo, mc, ms) false := lkV_mk RX7 TX7 7 rfl (wIn 517 (by decide +kernel) (by decide +kernel)) (wIn 518 (by decide +kernel) (by decide +kernel)) (wIn 519 (by decide +kernel) (by decide +kernel)) fr lo mc ms
set_option maxRecDepth 100000 in
theorem lc_X8_joinsParts (fr lo mc ms : Nat) : lkC (yX8_joinsParts, cX8_joinsParts, 6, (some .boolean), fr, lo, mc, ms) 1 := lkC_mk (wIn 513 (by decide +kernel) (by decide +kernel)) (wIn 1 (by decide +kernel) (by decide +kernel)) (by decide +kernel) fr lo mc ms
set_option maxRecDepth 100000 in
theorem lv_8_291 (fr lo mc ms : Nat) : lkV RX8 291 8 (yX8_joinsParts, cX8_joinsParts, 6, (some .boolean), fr, lo, mc, ms) false := lkV_mk RX8 TX8 14 rfl (wIn 510 (by decide +kernel) (by decide +kernel)) (wIn 512 (by decide +kernel) (by decide +kernel)) (pIn 10 (by decide +kernel) (by decide +kernel)) fr lo mc ms
set_option maxRecDepth 100000 in
theorem lc_X8_isForbidden (fr lo mc ms : Nat) : lkC (yX8_isForbidden, cX8_isForbidden, 2, (some .boolean), fr, lo, mc, ms) 1 := lkC_mk (wIn 460 (by decide +kernel) (by decide +kernel)) (wIn 1 (by decide +kernel) (by decide +kernel)) (by decide +kernel) fr lo mc ms
set_option maxRecDepth 100000 in
theorem lv_8_282 (fr lo mc ms : Nat) : lkV RX8 282 8 (yX8_isForbidden, cX8_isForbidden, 2, (some .boolean), fr, lo, mc, ms) false := lkV_mk RX8 TX8 14 rfl (wIn 457 (by decide +kernel) (by decide +kernel)) (wIn 459 (by decide +kernel) (by decide +kernel)) (pIn 5 (by decide +kernel) (by decide +kernel)) fr lo mc ms
set_option maxRecDepth 100000 in
theorem lv_8_300 (fr lo mc ms : Nat) : lkV RX8 300 7 (yX7_isRingTie, cX7_isRingTie, 3, (some .boolean), fr, lo, mc, ms) false := lkV_mk RX7 TX7 7 rfl (wIn 525 (by decide +kernel) (by decide +kernel)) (wIn 526 (by decide +kernel) (by decide +kernel)) (wIn 527 (by decide +kernel) (by decide +kernel)) fr lo mc ms
set_option maxRecDepth 100000 in
theorem lc_X8_wasRingTie (fr lo mc ms : Nat) : lkC (yX8_wasRingTie, cX8_wasRingTie, 3, (some .boolean), fr, lo, mc, ms) 2 := lkC_mk (wIn 536 (by decide +kernel) (by decide +kernel)) (wIn 1 (by decide +kernel) (by decide +kernel)) (by decide +kernel) fr lo mc ms
set_option maxRecDepth 100000 in
theorem lv_8_303 (fr lo mc ms : Nat) : lkV RX8 303 8 (yX8_wasRingTie, cX8_wasRingTie, 3, (some .boolean), fr, lo, mc, ms) false := lkV_mk RX8 TX8 14 rfl (wIn 533 (by decide +kernel) (by decide +kernel)) (wIn 535 (by decide +kernel) (by decide +kernel)) (pIn 12 (by decide +kernel) (by decide +kernel)) fr lo mc ms
set_option maxRecDepth 100000 in
theorem lc_X8_firstNewRingTie (fr lo mc ms : Nat) : lkC (yX8_firstNewRingTie, cX8_firstNewRingTie, 4, (some .int), fr, lo, mc, ms) 1 := lkC_mk (wIn 524 (by decide +kernel) (by decide +kernel)) (wIn 1 (by decide +kernel) (by decide +kernel)) (by decide +kernel) fr lo mc ms
set_option maxRecDepth 100000 in
theorem lv_8_285 (fr lo mc ms : Nat) : lkV RX8 285 8 (yX8_firstNewRingTie, cX8_firstNewRingTie, 4, (some .int), fr, lo, mc, ms) false := lkV_mk RX8 TX8 14 rfl (wIn 521 (by decide +kernel) (by decide +kernel)) (wIn 523 (by decide +kernel) (by decide +kernel)) (pIn 11 (by decide +kernel) (by decide +kernel)) fr lo mc ms
set_option maxRecDepth 100000 in
theorem lc_X8_settle (fr lo mc ms : Nat) : lkC (yX8_settle, cX8_settle, 4, (some .int), fr, lo, mc, ms) 2 := lkC_mk (wIn 456 (by decide +kernel) (by decide +kernel)) (wIn 1 (by decide +kernel) (by decide +kernel)) (by decide +kernel) fr lo mc ms
set_option maxRecDepth 100000 in
theorem lv_8_141 (fr lo mc ms : Nat) : lkV RX8 141 8 (yX8_settle, cX8_settle, 4, (some .int), fr, lo, mc, ms) false := lkV_mk RX8 TX8 14 rfl (wIn 453 (by decide +kernel) (by decide +kernel)) (wIn 455 (by decide +kernel) (by decide +kernel)) (pIn 4 (by decide +kernel) (by decide +kernel)) fr lo mc ms
set_option maxRecDepth 100000 in
theorem lc_X3_hasAct (fr lo mc ms : Nat) : lkC (yX3_hasAct, cX3_hasAct, 3, (some .boolean), fr, lo, mc, ms) 2 := lkC_mk (wIn 545 (by decide +kernel) (by decide +kernel)) (wIn 2 (by decide +kernel) (by decide +kernel)) (by decide +kernel) fr lo mc ms
set_option maxRecDepth 100000 in
theorem lv_8_144 (fr lo mc ms : Nat) : lkV RX8 144 3 (yX3_hasAct, cX3_hasAct, 3, (some .boolean), fr, lo, mc, ms) false := lkV_mk RX3 TX3 9 rfl (wIn 542 (by decide +kernel) (by decide +kernel)) (wIn 543 (by decide +kernel) (by decide +kernel)) (wIn 544 (by decide +kernel) (by decide +kernel)) fr lo mc ms
set_option maxRecDepth 100000 in
theorem lv_8_147 (fr lo mc ms : Nat) : lkV RX8 147 3 (yX3_sortOf, cX3_sortOf, 3, (some .int), fr, lo, mc, ms) false := lkV_mk RX3 TX3 9 rfl (wIn 546 (by decide +kernel) (by decide +kernel)) (wIn 479 (by decide +kernel) (by decide +kernel)) (wIn 480 (by decide +kernel) (by decide +kernel)) fr lo mc ms
set_option maxRecDepth 100000 in
theorem lv_8_150 (fr lo mc ms : Nat) : lkV RX8 150 3 (yX3_numberOf, cX3_numberOf, 3, (some .int), fr, lo, mc, ms) false := lkV_mk RX3 TX3 9 rfl (wIn 547 (by decide +kernel) (by decide +kernel)) (wIn 484 (by decide +kernel) (by decide +kernel)) (wIn 485 (by decide +kernel) (by decide +kernel)) fr lo mc ms
set_option maxRecDepth 100000 in
theorem lc_X3_hears (fr lo mc ms : Nat) : lkC (yX3_hears, cX3_hears, 4, (some .boolean), fr, lo, mc, ms) 2 := lkC_mk (wIn 555 (by decide +kernel) (by decide +kernel)) (wIn 2 (by decide +kernel) (by decide +kernel)) (by decide +kernel) fr lo mc ms
set_option maxRecDepth 100000 in
theorem lv_8_153 (fr lo mc ms : Nat) : lkV RX8 153 3 (yX3_hears, cX3_hears, 4, (some .boolean), fr, lo, mc, ms) false := lkV_mk RX3 TX3 9 rfl (wIn 552 (by decide +kernel) (by decide +kernel)) (wIn 553 (by decide +kernel) (by decide +kernel)) (wIn 554 (by decide +kernel) (by decide +kernel)) fr lo mc ms
set_option maxRecDepth 100000 in
theorem lf_8_156 : lkF RX8 156 3 6 := ⟨RX3, TX3, 9, rfl, by decide, rfl, inC3, (wIn 47 (by decide +kernel) (by decide +kernel))⟩
set_option maxRecDepth 100000 in
theorem lv_8_159 (fr lo mc ms : Nat) : lkV RX8 159 3 (yX3_addHearer, cX3_addHearer, 3, none, fr, lo, mc, ms) false := lkV_mk RX3 TX3 9 rfl (wIn 557 (by decide +kernel) (by decide +kernel)) (wIn 558 (by decide +kernel) (by decide +kernel)) (wIn 559 (by decide +kernel) (by decide +kernel)) fr lo mc ms
set_option maxRecDepth 100000 in
theorem lc_X4_runFrom (fr lo mc ms : Nat) : lkC (yX4_runFrom, cX4_runFrom, 5, (some .int), fr, lo, mc, ms) 3 := lkC_mk (wIn 568 (by decide +kernel) (by decide +kernel)) (wIn 5 (by decide +kernel) (by decide +kernel)) (by decide +kernel) fr lo mc ms
set_option maxRecDepth 100000 in
theorem lv_8_163 (fr lo mc ms : Nat) : lkV RX8 163 4 (yX4_runFrom, cX4_runFrom, 5, (some .int), fr, lo, mc, ms) false := lkV_mk RX4 TX4 4 rfl (wIn 565 (by decide +kernel) (by decide +kernel)) (wIn 566 (by decide +kernel) (by decide +kernel)) (wIn 567 (by decide +kernel) (by decide +kernel)) fr lo mc ms
set_option maxRecDepth 100000 in
theorem lf_8_167 : lkF RX8 167 4 2 := ⟨RX4, TX4, 4, rfl, by decide, rfl, inC4, (wIn 130 (by decide +kernel) (by decide +kernel))⟩
set_option maxRecDepth 100000 in
theorem lc_X8_isPair (fr lo mc ms : Nat) : lkC (yX8_isPair, cX8_isPair, 3, (some .boolean), fr, lo, mc, ms) 2 := lkC_mk (wIn 599 (by decide +kernel) (by decide +kernel)) (wIn 1 (by decide +kernel) (by decide +kernel)) (by decide +kernel) fr lo mc ms
set_option maxRecDepth 100000 in
theorem lv_8_168 (fr lo mc ms : Nat) : lkV RX8 168 8 (yX8_isPair, cX8_isPair, 3, (some .boolean), fr, lo, mc, ms) false := lkV_mk RX8 TX8 14 rfl (wIn 596 (by decide +kernel) (by decide +kernel)) (wIn 598 (by decide +kernel) (by decide +kernel)) (pIn 16 (by decide +kernel) (by decide +kernel)) fr lo mc ms
set_option maxRecDepth 100000 in
theorem lc_X8_readTies (fr lo mc ms : Nat) : lkC (yX8_readTies, cX8_readTies, 1, none, fr, lo, mc, ms) 0 := lkC_mk (wIn 603 (by decide +kernel) (by decide +kernel)) (wIn 1 (by decide +kernel) (by decide +kernel)) (by decide +kernel) fr lo mc ms
set_option maxRecDepth 100000 in
theorem lv_8_171 (fr lo mc ms : Nat) : lkV RX8 171 8 (yX8_readTies, cX8_readTies, 1, none, fr, lo, mc, ms) false := lkV_mk RX8 TX8 14 rfl (wIn 600 (by decide +kernel) (by decide +kernel)) (wIn 602 (by decide +kernel) (by decide +kernel)) (pIn 17 (by decide +kernel) (by decide +kernel)) fr lo mc ms
set_option maxRecDepth 100000 in
theorem lf_8_174 : lkF RX8 174 6 0 := ⟨RX6, TX6, 4, rfl, by decide, rfl, inC6, (wIn 181 (by decide +kernel) (by decide +kernel))⟩
set_option maxRecDepth 100000 in
theorem ls_8_177 (fr lo mc ms : Nat) : lkS RX8 177 (yX8_pair, cX8_pair, 2, (some .int), fr, lo, mc, ms) false := lkS_mk (wIn 604 (by decide +kernel) (by decide +kernel)) (wIn 472 (by decide +kernel) (by decide +kernel)) fr lo mc ms
set_option maxRecDepth 100000 in
theorem lf_8_180 : lkF RX8 180 6 1 := ⟨RX6, TX6, 4, rfl, by decide, rfl, inC6, (wIn 185 (by decide +kernel) (by decide +kernel))⟩
set_option maxRecDepth 100000 in
theorem lf_8_183 : lkF RX8 183 3 8 := ⟨RX3, TX3, 9, rfl, by decide, rfl, inC3, (wIn 51 (by decide +kernel) (by decide +kernel))⟩
set_option maxRecDepth 100000 in
theorem lv_8_190 (fr lo mc ms : Nat) : lkV RX8 190 7 (yX7_leastOfGroup, cX7_leastOfGroup, 3, (some .int), fr, lo, mc, ms) false := lkV_mk RX7 TX7 7 rfl (wIn 617 (by decide +kernel) (by decide +kernel)) (wIn 618 (by decide +kernel) (by decide +kernel)) (wIn 619 (by decide +kernel) (by decide +kernel)) fr lo mc ms
set_option maxRecDepth 100000 in
theorem lc_X7_countGroups (fr lo mc ms : Nat) : lkC (yX7_countGroups, cX7_countGroups, 3, (some .int), fr, lo, mc, ms) 0 := lkC_mk (wIn 629 (by decide +kernel) (by decide +kernel)) (wIn 7 (by decide +kernel) (by decide +kernel)) (by decide +kernel) fr lo mc ms
set_option maxRecDepth 100000 in
theorem lv_8_196 (fr lo mc ms : Nat) : lkV RX8 196 7 (yX7_countGroups, cX7_countGroups, 3, (some .int), fr, lo, mc, ms) false := lkV_mk RX7 TX7 7 rfl (wIn 626 (by decide +kernel) (by decide +kernel)) (wIn 627 (by decide +kernel) (by decide +kernel)) (wIn 628 (by decide +kernel) (by decide +kernel)) fr lo mc ms
set_option maxRecDepth 100000 in
theorem lv_8_199 (fr lo mc ms : Nat) : lkV RX8 199 7 (yX7_findRing, cX7_findRing, 5, (some .int), fr, lo, mc, ms) false := lkV_mk RX7 TX7 7 rfl (wIn 635 (by decide +kernel) (by decide +kernel)) (wIn 636 (by decide +kernel) (by decide +kernel)) (wIn 637 (by decide +kernel) (by decide +kernel)) fr lo mc ms
set_option maxRecDepth 100000 in
theorem lf_8_202 : lkF RX8 202 7 5 := ⟨RX7, TX7, 7, rfl, by decide, rfl, inC7, (wIn 163 (by decide +kernel) (by decide +kernel))⟩
set_option maxRecDepth 100000 in
theorem lc_X1_arrange (fr lo mc ms : Nat) : lkC (yX1_arrange, cX1_arrange, 2, (some .int), fr, lo, mc, ms) 1 := lkC_mk (wIn 655 (by decide +kernel) (by decide +kernel)) (wIn 8 (by decide +kernel) (by decide +kernel)) (by decide +kernel) fr lo mc ms
set_option maxRecDepth 100000 in
theorem lv_8_205 (fr lo mc ms : Nat) : lkV RX8 205 1 (yX1_arrange, cX1_arrange, 2, (some .int), fr, lo, mc, ms) false := lkV_mk RX1 TX1 7 rfl (wIn 652 (by decide +kernel) (by decide +kernel)) (wIn 653 (by decide +kernel) (by decide +kernel)) (wIn 654 (by decide +kernel) (by decide +kernel)) fr lo mc ms
set_option maxRecDepth 100000 in
theorem lf_8_209 : lkF RX8 209 1 5 := ⟨RX1, TX1, 7, rfl, by decide, rfl, inC1, (wIn 213 (by decide +kernel) (by decide +kernel))⟩
set_option maxRecDepth 100000 in
theorem lc_X1_chosenTie (fr lo mc ms : Nat) : lkC (yX1_chosenTie, cX1_chosenTie, 6, (some .int), fr, lo, mc, ms) 2 := lkC_mk (wIn 694 (by decide +kernel) (by decide +kernel)) (wIn 8 (by decide +kernel) (by decide +kernel)) (by decide +kernel) fr lo mc ms
set_option maxRecDepth 100000 in
theorem lv_8_212 (fr lo mc ms : Nat) : lkV RX8 212 1 (yX1_chosenTie, cX1_chosenTie, 6, (some .int), fr, lo, mc, ms) false := lkV_mk RX1 TX1 7 rfl (wIn 691 (by decide +kernel) (by decide +kernel)) (wIn 692 (by decide +kernel) (by decide +kernel)) (wIn 693 (by decide +kernel) (by decide +kernel)) fr lo mc ms
set_option maxRecDepth 100000 in
theorem lc_X0_boundOf (fr lo mc ms : Nat) : lkC (yX0_boundOf, cX0_boundOf, 5, (some .int), fr, lo, mc, ms) 1 := lkC_mk (wIn 703 (by decide +kernel) (by decide +kernel)) (wIn 9 (by decide +kernel) (by decide +kernel)) (by decide +kernel) fr lo mc ms
set_option maxRecDepth 100000 in
theorem lv_8_216 (fr lo mc ms : Nat) : lkV RX8 216 0 (yX0_boundOf, cX0_boundOf, 5, (some .int), fr, lo, mc, ms) false := lkV_mk RX0 TX0 2 rfl (wIn 700 (by decide +kernel) (by decide +kernel)) (wIn 701 (by decide +kernel) (by decide +kernel)) (wIn 702 (by decide +kernel) (by decide +kernel)) fr lo mc ms
set_option maxRecDepth 100000 in
theorem lc_X7_layerOf (fr lo mc ms : Nat) : lkC (yX7_layerOf, cX7_layerOf, 5, (some .int), fr, lo, mc, ms) 1 := lkC_mk (wIn 729 (by decide +kernel) (by decide +kernel)) (wIn 7 (by decide +kernel) (by decide +kernel)) (by decide +kernel) fr lo mc ms
set_option maxRecDepth 100000 in
theorem lv_8_219 (fr lo mc ms : Nat) : lkV RX8 219 7 (yX7_layerOf, cX7_layerOf, 5, (some .int), fr, lo, mc, ms) false := lkV_mk RX7 TX7 7 rfl (wIn 726 (by decide +kernel) (by decide +kernel)) (wIn 727 (by decide +kernel) (by decide +kernel)) (wIn 728 (by decide +kernel) (by decide +kernel)) fr lo mc ms
set_option maxRecDepth 100000 in
theorem lc_X7_countFreePairs (fr lo mc ms : Nat) : lkC (yX7_countFreePairs, cX7_countFreePairs, 4, (some .int), fr, lo, mc, ms) 0 := lkC_mk (wIn 737 (by decide +kernel) (by decide +kernel)) (wIn 7 (by decide +kernel) (by decide +kernel)) (by decide +kernel) fr lo mc ms
set_option maxRecDepth 100000 in
theorem lv_8_222 (fr lo mc ms : Nat) : lkV RX8 222 7 (yX7_countFreePairs, cX7_countFreePairs, 4, (some .int), fr, lo, mc, ms) false := lkV_mk RX7 TX7 7 rfl (wIn 734 (by decide +kernel) (by decide +kernel)) (wIn 735 (by decide +kernel) (by decide +kernel)) (wIn 736 (by decide +kernel) (by decide +kernel)) fr lo mc ms
set_option maxRecDepth 100000 in
theorem lf_8_225 : lkF RX8 225 6 2 := ⟨RX6, TX6, 4, rfl, by decide, rfl, inC6, (wIn 187 (by decide +kernel) (by decide +kernel))⟩
set_option maxRecDepth 100000 in
theorem lwl_8_228 : Cond.constantLong RX8 228 10 ∈ wAll := (wIn 742 (by decide +kernel) (by decide +kernel))
set_option maxRecDepth 100000 in
theorem lc_X6_countBroken (fr lo mc ms : Nat) : lkC (yX6_countBroken, cX6_countBroken, 4, (some .int), fr, lo, mc, ms) 0 := lkC_mk (wIn 746 (by decide +kernel) (by decide +kernel)) (wIn 6 (by decide +kernel) (by decide +kernel)) (by decide +kernel) fr lo mc ms
set_option maxRecDepth 100000 in
theorem lv_8_230 (fr lo mc ms : Nat) : lkV RX8 230 6 (yX6_countBroken, cX6_countBroken, 4, (some .int), fr, lo, mc, ms) false := lkV_mk RX6 TX6 4 rfl (wIn 743 (by decide +kernel) (by decide +kernel)) (wIn 744 (by decide +kernel) (by decide +kernel)) (wIn 745 (by decide +kernel) (by decide +kernel)) fr lo mc ms
set_option maxRecDepth 100000 in
theorem lv_8_233 (fr lo mc ms : Nat) : lkV RX8 233 3 (yX3_setHome, cX3_setHome, 4, none, fr, lo, mc, ms) false := lkV_mk RX3 TX3 9 rfl (wIn 760 (by decide +kernel) (by decide +kernel)) (wIn 334 (by decide +kernel) (by decide +kernel)) (wIn 335 (by decide +kernel) (by decide +kernel)) fr lo mc ms
set_option maxRecDepth 100000 in
theorem lc_X3_hasPlainRoutines (fr lo mc ms : Nat) : lkC (yX3_hasPlainRoutines, cX3_hasPlainRoutines, 3, (some .boolean), fr, lo, mc, ms) 1 := lkC_mk (wIn 768 (by decide +kernel) (by decide +kernel)) (wIn 2 (by decide +kernel) (by decide +kernel)) (by decide +kernel) fr lo mc ms
set_option maxRecDepth 100000 in
theorem lv_8_237 (fr lo mc ms : Nat) : lkV RX8 237 3 (yX3_hasPlainRoutines, cX3_hasPlainRoutines, 3, (some .boolean), fr, lo, mc, ms) false := lkV_mk RX3 TX3 9 rfl (wIn 765 (by decide +kernel) (by decide +kernel)) (wIn 766 (by decide +kernel) (by decide +kernel)) (wIn 767 (by decide +kernel) (by decide +kernel)) fr lo mc ms
set_option maxRecDepth 100000 in
theorem lc_X3_allLieIn (fr lo mc ms : Nat) : lkC (yX3_allLieIn, cX3_allLieIn, 4, (some .boolean), fr, lo, mc, ms) 2 := lkC_mk (wIn 774 (by decide +kernel) (by decide +kernel)) (wIn 2 (by decide +kernel) (by decide +kernel)) (by decide +kernel) fr lo mc ms
set_option maxRecDepth 100000 in
theorem lv_8_240 (fr lo mc ms : Nat) : lkV RX8 240 3 (yX3_allLieIn, cX3_allLieIn, 4, (some .boolean), fr, lo, mc, ms) false := lkV_mk RX3 TX3 9 rfl (wIn 771 (by decide +kernel) (by decide +kernel)) (wIn 772 (by decide +kernel) (by decide +kernel)) (wIn 773 (by decide +kernel) (by decide +kernel)) fr lo mc ms
set_option maxRecDepth 100000 in
theorem lc_X3_setHomes (fr lo mc ms : Nat) : lkC (yX3_setHomes, cX3_setHomes, 4, none, fr, lo, mc, ms) 2 := lkC_mk (wIn 779 (by decide +kernel) (by decide +kernel)) (wIn 2 (by decide +kernel) (by decide +kernel)) (by decide +kernel) fr lo mc ms
set_option maxRecDepth 100000 in
theorem lv_8_243 (fr lo mc ms : Nat) : lkV RX8 243 3 (yX3_setHomes, cX3_setHomes, 4, none, fr, lo, mc, ms) false := lkV_mk RX3 TX3 9 rfl (wIn 776 (by decide +kernel) (by decide +kernel)) (wIn 777 (by decide +kernel) (by decide +kernel)) (wIn 778 (by decide +kernel) (by decide +kernel)) fr lo mc ms
set_option maxRecDepth 100000 in
theorem lc_X3_meltParts (fr lo mc ms : Nat) : lkC (yX3_meltParts, cX3_meltParts, 6, none, fr, lo, mc, ms) 2 := lkC_mk (wIn 787 (by decide +kernel) (by decide +kernel)) (wIn 2 (by decide +kernel) (by decide +kernel)) (by decide +kernel) fr lo mc ms
set_option maxRecDepth 100000 in
theorem lv_8_246 (fr lo mc ms : Nat) : lkV RX8 246 3 (yX3_meltParts, cX3_meltParts, 6, none, fr, lo, mc, ms) false := lkV_mk RX3 TX3 9 rfl (wIn 784 (by decide +kernel) (by decide +kernel)) (wIn 785 (by decide +kernel) (by decide +kernel)) (wIn 786 (by decide +kernel) (by decide +kernel)) fr lo mc ms
set_option maxRecDepth 100000 in
theorem lc_X3_canComeBetween (fr lo mc ms : Nat) : lkC (yX3_canComeBetween, cX3_canComeBetween, 3, (some .boolean), fr, lo, mc, ms) 2 := lkC_mk (wIn 801 (by decide +kernel) (by decide +kernel)) (wIn 2 (by decide +kernel) (by decide +kernel)) (by decide +kernel) fr lo mc ms
set_option maxRecDepth 100000 in
theorem lv_8_249 (fr lo mc ms : Nat) : lkV RX8 249 3 (yX3_canComeBetween, cX3_canComeBetween, 3, (some .boolean), fr, lo, mc, ms) false := lkV_mk RX3 TX3 9 rfl (wIn 798 (by decide +kernel) (by decide +kernel)) (wIn 799 (by decide +kernel) (by decide +kernel)) (wIn 800 (by decide +kernel) (by decide +kernel)) fr lo mc ms
set_option maxRecDepth 100000 in
theorem lc_X3_turnToNews (fr lo mc ms : Nat) : lkC (yX3_turnToNews, cX3_turnToNews, 5, (some .int), fr, lo, mc, ms) 2 := lkC_mk (wIn 807 (by decide +kernel) (by decide +kernel)) (wIn 2 (by decide +kernel) (by decide +kernel)) (by decide +kernel) fr lo mc ms
set_option maxRecDepth 100000 in
theorem lv_8_252 (fr lo mc ms : Nat) : lkV RX8 252 3 (yX3_turnToNews, cX3_turnToNews, 5, (some .int), fr, lo, mc, ms) false := lkV_mk RX3 TX3 9 rfl (wIn 804 (by decide +kernel) (by decide +kernel)) (wIn 805 (by decide +kernel) (by decide +kernel)) (wIn 806 (by decide +kernel) (by decide +kernel)) fr lo mc ms
set_option maxRecDepth 100000 in
theorem lc_X3_putFace (fr lo mc ms : Nat) : lkC (yX3_putFace, cX3_putFace, 5, (some .int), fr, lo, mc, ms) 2 := lkC_mk (wIn 817 (by decide +kernel) (by decide +kernel)) (wIn 2 (by decide +kernel) (by decide +kernel)) (by decide +kernel) fr lo mc ms
set_option maxRecDepth 100000 in
theorem lv_8_255 (fr lo mc ms : Nat) : lkV RX8 255 3 (yX3_putFace, cX3_putFace, 5, (some .int), fr, lo, mc, ms) false := lkV_mk RX3 TX3 9 rfl (wIn 814 (by decide +kernel) (by decide +kernel)) (wIn 815 (by decide +kernel) (by decide +kernel)) (wIn 816 (by decide +kernel) (by decide +kernel)) fr lo mc ms
set_option maxRecDepth 100000 in
theorem lc_X3_pullFace (fr lo mc ms : Nat) : lkC (yX3_pullFace, cX3_pullFace, 6, (some .int), fr, lo, mc, ms) 1 := lkC_mk (wIn 826 (by decide +kernel) (by decide +kernel)) (wIn 2 (by decide +kernel) (by decide +kernel)) (by decide +kernel) fr lo mc ms
set_option maxRecDepth 100000 in
theorem lv_8_258 (fr lo mc ms : Nat) : lkV RX8 258 3 (yX3_pullFace, cX3_pullFace, 6, (some .int), fr, lo, mc, ms) false := lkV_mk RX3 TX3 9 rfl (wIn 823 (by decide +kernel) (by decide +kernel)) (wIn 824 (by decide +kernel) (by decide +kernel)) (wIn 825 (by decide +kernel) (by decide +kernel)) fr lo mc ms
set_option maxRecDepth 100000 in
theorem lf_8_261 : lkF RX8 261 2 2 := ⟨RX2, TX2, 3, rfl, by decide, rfl, inC2, (wIn 83 (by decide +kernel) (by decide +kernel))⟩
set_option maxRecDepth 100000 in
theorem lc_X2_takeBack (fr lo mc ms : Nat) : lkC (yX2_takeBack, cX2_takeBack, 4, (some (.object "RingUntie$Program")), fr, lo, mc, ms) 1 := lkC_mk (wIn 834 (by decide +kernel) (by decide +kernel)) (wIn 3 (by decide +kernel) (by decide +kernel)) (by decide +kernel) fr lo mc ms
set_option maxRecDepth 100000 in
theorem lv_8_262 (fr lo mc ms : Nat) : lkV RX8 262 2 (yX2_takeBack, cX2_takeBack, 4, (some (.object "RingUntie$Program")), fr, lo, mc, ms) false := lkV_mk RX2 TX2 3 rfl (wIn 831 (by decide +kernel) (by decide +kernel)) (wIn 832 (by decide +kernel) (by decide +kernel)) (wIn 833 (by decide +kernel) (by decide +kernel)) fr lo mc ms
set_option maxRecDepth 100000 in
theorem lf_8_266 : lkF RX8 266 3 1 := ⟨RX3, TX3, 9, rfl, by decide, rfl, inC3, (wIn 36 (by decide +kernel) (by decide +kernel))⟩
set_option maxRecDepth 100000 in
theorem lc_X6_countAll (fr lo mc ms : Nat) : lkC (yX6_countAll, cX6_countAll, 3, (some .int), fr, lo, mc, ms) 0 := lkC_mk (wIn 842 (by decide +kernel) (by decide +kernel)) (wIn 6 (by decide +kernel) (by decide +kernel)) (by decide +kernel) fr lo mc ms
set_option maxRecDepth 100000 in
theorem lv_8_269 (fr lo mc ms : Nat) : lkV RX8 269 6 (yX6_countAll, cX6_countAll, 3, (some .int), fr, lo, mc, ms) false := lkV_mk RX6 TX6 4 rfl (wIn 839 (by decide +kernel) (by decide +kernel)) (wIn 840 (by decide +kernel) (by decide +kernel)) (wIn 841 (by decide +kernel) (by decide +kernel)) fr lo mc ms
set_option maxRecDepth 100000 in
theorem lc_X3_countActs (fr lo mc ms : Nat) : lkC (yX3_countActs, cX3_countActs, 3, (some .int), fr, lo, mc, ms) 0 := lkC_mk (wIn 846 (by decide +kernel) (by decide +kernel)) (wIn 2 (by decide +kernel) (by decide +kernel)) (by decide +kernel) fr lo mc ms
set_option maxRecDepth 100000 in
theorem lv_8_272 (fr lo mc ms : Nat) : lkV RX8 272 3 (yX3_countActs, cX3_countActs, 3, (some .int), fr, lo, mc, ms) false := lkV_mk RX3 TX3 9 rfl (wIn 843 (by decide +kernel) (by decide +kernel)) (wIn 844 (by decide +kernel) (by decide +kernel)) (wIn 845 (by decide +kernel) (by decide +kernel)) fr lo mc ms
set_option maxRecDepth 100000 in
theorem lc_X3_countFaces (fr lo mc ms : Nat) : lkC (yX3_countFaces, cX3_countFaces, 3, (some .int), fr, lo, mc, ms) 0 := lkC_mk (wIn 850 (by decide +kernel) (by decide +kernel)) (wIn 2 (by decide +kernel) (by decide +kernel)) (by decide +kernel) fr lo mc ms
set_option maxRecDepth 100000 in
theorem lv_8_275 (fr lo mc ms : Nat) : lkV RX8 275 3 (yX3_countFaces, cX3_countFaces, 3, (some .int), fr, lo, mc, ms) false := lkV_mk RX3 TX3 9 rfl (wIn 847 (by decide +kernel) (by decide +kernel)) (wIn 848 (by decide +kernel) (by decide +kernel)) (wIn 849 (by decide +kernel) (by decide +kernel)) fr lo mc ms
set_option maxRecDepth 100000 in
theorem lo_9_1 : Cond.methodLink RX9 1 Lib.objectInit ∈ wAll := (wIn 856 (by decide +kernel) (by decide +kernel))
set_option maxRecDepth 100000 in
theorem lf_9_7 : lkF RX9 7 9 0 := ⟨RX9, TX9, 49, rfl, by decide, rfl, inC9, (wIn 857 (by decide +kernel) (by decide +kernel))⟩
set_option maxRecDepth 100000 in
theorem lp_9_9_0 : lkP RX9 9 0 (.array .int) true := fun C T N h => by
  cases h
  exact ⟨⟨tyX9, tyX9_ok⟩, nmX9, by decide +kernel, by decide +kernel, fun _ => by decide +kernel⟩
set_option maxRecDepth 100000 in
theorem lf_9_13 : lkF RX9 13 9 1 := ⟨RX9, TX9, 49, rfl, by decide, rfl, inC9, (wIn 858 (by decide +kernel) (by decide +kernel))⟩
set_option maxRecDepth 100000 in
theorem lp_9_9_1 : lkP RX9 9 1 (.array .int) true := fun C T N h => by
  cases h
  exact ⟨⟨tyX9, tyX9_ok⟩, nmX9, by decide +kernel, by decide +kernel, fun _ => by decide +kernel⟩
set_option maxRecDepth 100000 in
theorem lf_9_16 : lkF RX9 16 9 2 := ⟨RX9, TX9, 49, rfl, by decide, rfl, inC9, (wIn 859 (by decide +kernel) (by decide +kernel))⟩
set_option maxRecDepth 100000 in
theorem lp_9_9_2 : lkP RX9 9 2 (.array .int) true := fun C T N h => by
  cases h
  exact ⟨⟨tyX9, tyX9_ok⟩, nmX9, by decide +kernel, by decide +kernel, fun _ => by decide +kernel⟩
set_option maxRecDepth 100000 in
theorem lf_9_19 : lkF RX9 19 9 3 := ⟨RX9, TX9, 49, rfl, by decide, rfl, inC9, (wIn 860 (by decide +kernel) (by decide +kernel))⟩
set_option maxRecDepth 100000 in
theorem lp_9_9_3 : lkP RX9 9 3 (.array .int) true := fun C T N h => by
  cases h
  exact ⟨⟨tyX9, tyX9_ok⟩, nmX9, by decide +kernel, by decide +kernel, fun _ => by decide +kernel⟩
set_option maxRecDepth 100000 in
theorem lf_9_22 : lkF RX9 22 9 4 := ⟨RX9, TX9, 49, rfl, by decide, rfl, inC9, (wIn 861 (by decide +kernel) (by decide +kernel))⟩
set_option maxRecDepth 100000 in
theorem lp_9_9_4 : lkP RX9 9 4 (.array .int) true := fun C T N h => by
  cases h
  exact ⟨⟨tyX9, tyX9_ok⟩, nmX9, by decide +kernel, by decide +kernel, fun _ => by decide +kernel⟩
set_option maxRecDepth 100000 in
theorem lf_9_25 : lkF RX9 25 9 5 := ⟨RX9, TX9, 49, rfl, by decide, rfl, inC9, (wIn 862 (by decide +kernel) (by decide +kernel))⟩
set_option maxRecDepth 100000 in
theorem lp_9_9_5 : lkP RX9 9 5 (.array .int) true := fun C T N h => by
  cases h
  exact ⟨⟨tyX9, tyX9_ok⟩, nmX9, by decide +kernel, by decide +kernel, fun _ => by decide +kernel⟩
set_option maxRecDepth 100000 in
theorem lf_9_28 : lkF RX9 28 9 6 := ⟨RX9, TX9, 49, rfl, by decide, rfl, inC9, (wIn 863 (by decide +kernel) (by decide +kernel))⟩
set_option maxRecDepth 100000 in
theorem lp_9_9_6 : lkP RX9 9 6 (.array .int) true := fun C T N h => by
  cases h
  exact ⟨⟨tyX9, tyX9_ok⟩, nmX9, by decide +kernel, by decide +kernel, fun _ => by decide +kernel⟩
set_option maxRecDepth 100000 in
theorem lf_9_31 : lkF RX9 31 9 7 := ⟨RX9, TX9, 49, rfl, by decide, rfl, inC9, (wIn 864 (by decide +kernel) (by decide +kernel))⟩
set_option maxRecDepth 100000 in
theorem lp_9_9_7 : lkP RX9 9 7 (.array .int) true := fun C T N h => by
  cases h
  exact ⟨⟨tyX9, tyX9_ok⟩, nmX9, by decide +kernel, by decide +kernel, fun _ => by decide +kernel⟩
set_option maxRecDepth 100000 in
theorem lf_9_34 : lkF RX9 34 9 8 := ⟨RX9, TX9, 49, rfl, by decide, rfl, inC9, (wIn 865 (by decide +kernel) (by decide +kernel))⟩
set_option maxRecDepth 100000 in
theorem lp_9_9_8 : lkP RX9 9 8 (.array .int) true := fun C T N h => by
  cases h
  exact ⟨⟨tyX9, tyX9_ok⟩, nmX9, by decide +kernel, by decide +kernel, fun _ => by decide +kernel⟩
set_option maxRecDepth 100000 in
theorem lf_9_37 : lkF RX9 37 9 9 := ⟨RX9, TX9, 49, rfl, by decide, rfl, inC9, (wIn 866 (by decide +kernel) (by decide +kernel))⟩
set_option maxRecDepth 100000 in
theorem lp_9_9_9 : lkP RX9 9 9 (.array .int) true := fun C T N h => by
  cases h
  exact ⟨⟨tyX9, tyX9_ok⟩, nmX9, by decide +kernel, by decide +kernel, fun _ => by decide +kernel⟩
set_option maxRecDepth 100000 in
theorem lf_9_40 : lkF RX9 40 9 10 := ⟨RX9, TX9, 49, rfl, by decide, rfl, inC9, (wIn 867 (by decide +kernel) (by decide +kernel))⟩
set_option maxRecDepth 100000 in
theorem lp_9_9_10 : lkP RX9 9 10 (.array .int) true := fun C T N h => by
  cases h
  exact ⟨⟨tyX9, tyX9_ok⟩, nmX9, by decide +kernel, by decide +kernel, fun _ => by decide +kernel⟩
set_option maxRecDepth 100000 in
theorem lf_9_43 : lkF RX9 43 9 11 := ⟨RX9, TX9, 49, rfl, by decide, rfl, inC9, (wIn 868 (by decide +kernel) (by decide +kernel))⟩
set_option maxRecDepth 100000 in
theorem lp_9_9_11 : lkP RX9 9 11 (.array .int) true := fun C T N h => by
  cases h
  exact ⟨⟨tyX9, tyX9_ok⟩, nmX9, by decide +kernel, by decide +kernel, fun _ => by decide +kernel⟩
set_option maxRecDepth 100000 in
theorem lf_9_46 : lkF RX9 46 9 12 := ⟨RX9, TX9, 49, rfl, by decide, rfl, inC9, (wIn 869 (by decide +kernel) (by decide +kernel))⟩
set_option maxRecDepth 100000 in
theorem lp_9_9_12 : lkP RX9 9 12 (.array .int) true := fun C T N h => by
  cases h
  exact ⟨⟨tyX9, tyX9_ok⟩, nmX9, by decide +kernel, by decide +kernel, fun _ => by decide +kernel⟩
set_option maxRecDepth 100000 in
theorem lac_bool : Cond.arrayClass .boolean ∈ wAll := (wIn 1005 (by decide +kernel) (by decide +kernel))
set_option maxRecDepth 100000 in
theorem lf_9_49 : lkF RX9 49 9 13 := ⟨RX9, TX9, 49, rfl, by decide, rfl, inC9, (wIn 870 (by decide +kernel) (by decide +kernel))⟩
set_option maxRecDepth 100000 in
theorem lp_9_9_13 : lkP RX9 9 13 (.array .boolean) true := fun C T N h => by
  cases h
  exact ⟨⟨tyX9, tyX9_ok⟩, nmX9, by decide +kernel, by decide +kernel, fun _ => by decide +kernel⟩
set_option maxRecDepth 100000 in
theorem lf_9_53 : lkF RX9 53 9 15 := ⟨RX9, TX9, 49, rfl, by decide, rfl, inC9, (wIn 872 (by decide +kernel) (by decide +kernel))⟩
set_option maxRecDepth 100000 in
theorem lp_9_9_15 : lkP RX9 9 15 (.array .int) true := fun C T N h => by
  cases h
  exact ⟨⟨tyX9, tyX9_ok⟩, nmX9, by decide +kernel, by decide +kernel, fun _ => by decide +kernel⟩
set_option maxRecDepth 100000 in
theorem lf_9_56 : lkF RX9 56 9 17 := ⟨RX9, TX9, 49, rfl, by decide, rfl, inC9, (wIn 874 (by decide +kernel) (by decide +kernel))⟩
set_option maxRecDepth 100000 in
theorem lp_9_9_17 : lkP RX9 9 17 (.array .int) true := fun C T N h => by
  cases h
  exact ⟨⟨tyX9, tyX9_ok⟩, nmX9, by decide +kernel, by decide +kernel, fun _ => by decide +kernel⟩
set_option maxRecDepth 100000 in
theorem lf_9_59 : lkF RX9 59 9 20 := ⟨RX9, TX9, 49, rfl, by decide, rfl, inC9, (wIn 877 (by decide +kernel) (by decide +kernel))⟩
set_option maxRecDepth 100000 in
theorem lp_9_9_20 : lkP RX9 9 20 .int false := fun C T N h => by
  cases h
  exact ⟨⟨tyX9, tyX9_ok⟩, nmX9, by decide +kernel, by decide +kernel, fun h => by cases h⟩
set_option maxRecDepth 100000 in
theorem lf_9_63 : lkF RX9 63 9 25 := ⟨RX9, TX9, 49, rfl, by decide, rfl, inC9, (wIn 882 (by decide +kernel) (by decide +kernel))⟩
set_option maxRecDepth 100000 in
theorem lp_9_9_25 : lkP RX9 9 25 (.array .int) true := fun C T N h => by
  cases h
  exact ⟨⟨tyX9, tyX9_ok⟩, nmX9, by decide +kernel, by decide +kernel, fun _ => by decide +kernel⟩
set_option maxRecDepth 100000 in
theorem lf_9_66 : lkF RX9 66 9 26 := ⟨RX9, TX9, 49, rfl, by decide, rfl, inC9, (wIn 883 (by decide +kernel) (by decide +kernel))⟩
set_option maxRecDepth 100000 in
theorem lp_9_9_26 : lkP RX9 9 26 (.array .int) true := fun C T N h => by
  cases h
  exact ⟨⟨tyX9, tyX9_ok⟩, nmX9, by decide +kernel, by decide +kernel, fun _ => by decide +kernel⟩
set_option maxRecDepth 100000 in
theorem lf_9_69 : lkF RX9 69 9 27 := ⟨RX9, TX9, 49, rfl, by decide, rfl, inC9, (wIn 884 (by decide +kernel) (by decide +kernel))⟩
set_option maxRecDepth 100000 in
theorem lp_9_9_27 : lkP RX9 9 27 (.array .int) true := fun C T N h => by
  cases h
  exact ⟨⟨tyX9, tyX9_ok⟩, nmX9, by decide +kernel, by decide +kernel, fun _ => by decide +kernel⟩
set_option maxRecDepth 100000 in
theorem lf_9_72 : lkF RX9 72 9 28 := ⟨RX9, TX9, 49, rfl, by decide, rfl, inC9, (wIn 885 (by decide +kernel) (by decide +kernel))⟩
set_option maxRecDepth 100000 in
theorem lp_9_9_28 : lkP RX9 9 28 (.array .int) true := fun C T N h => by
  cases h
  exact ⟨⟨tyX9, tyX9_ok⟩, nmX9, by decide +kernel, by decide +kernel, fun _ => by decide +kernel⟩
set_option maxRecDepth 100000 in
theorem lf_9_75 : lkF RX9 75 9 29 := ⟨RX9, TX9, 49, rfl, by decide, rfl, inC9, (wIn 886 (by decide +kernel) (by decide +kernel))⟩
set_option maxRecDepth 100000 in
theorem lp_9_9_29 : lkP RX9 9 29 (.array .int) true := fun C T N h => by
  cases h
  exact ⟨⟨tyX9, tyX9_ok⟩, nmX9, by decide +kernel, by decide +kernel, fun _ => by decide +kernel⟩
set_option maxRecDepth 100000 in
theorem lf_9_78 : lkF RX9 78 9 30 := ⟨RX9, TX9, 49, rfl, by decide, rfl, inC9, (wIn 887 (by decide +kernel) (by decide +kernel))⟩
set_option maxRecDepth 100000 in
theorem lp_9_9_30 : lkP RX9 9 30 (.array .int) true := fun C T N h => by
  cases h
  exact ⟨⟨tyX9, tyX9_ok⟩, nmX9, by decide +kernel, by decide +kernel, fun _ => by decide +kernel⟩
set_option maxRecDepth 100000 in
theorem lf_9_81 : lkF RX9 81 9 35 := ⟨RX9, TX9, 49, rfl, by decide, rfl, inC9, (wIn 892 (by decide +kernel) (by decide +kernel))⟩
set_option maxRecDepth 100000 in
theorem lp_9_9_35 : lkP RX9 9 35 (.array .int) true := fun C T N h => by
  cases h
  exact ⟨⟨tyX9, tyX9_ok⟩, nmX9, by decide +kernel, by decide +kernel, fun _ => by decide +kernel⟩
set_option maxRecDepth 100000 in
theorem lf_9_84 : lkF RX9 84 9 36 := ⟨RX9, TX9, 49, rfl, by decide, rfl, inC9, (wIn 893 (by decide +kernel) (by decide +kernel))⟩
set_option maxRecDepth 100000 in
theorem lp_9_9_36 : lkP RX9 9 36 (.array .int) true := fun C T N h => by
  cases h
  exact ⟨⟨tyX9, tyX9_ok⟩, nmX9, by decide +kernel, by decide +kernel, fun _ => by decide +kernel⟩
set_option maxRecDepth 100000 in
theorem lf_9_87 : lkF RX9 87 9 37 := ⟨RX9, TX9, 49, rfl, by decide, rfl, inC9, (wIn 894 (by decide +kernel) (by decide +kernel))⟩
set_option maxRecDepth 100000 in
theorem lp_9_9_37 : lkP RX9 9 37 (.array .int) true := fun C T N h => by
  cases h
  exact ⟨⟨tyX9, tyX9_ok⟩, nmX9, by decide +kernel, by decide +kernel, fun _ => by decide +kernel⟩
set_option maxRecDepth 100000 in
theorem lf_9_90 : lkF RX9 90 9 38 := ⟨RX9, TX9, 49, rfl, by decide, rfl, inC9, (wIn 895 (by decide +kernel) (by decide +kernel))⟩
set_option maxRecDepth 100000 in
theorem lp_9_9_38 : lkP RX9 9 38 (.array .int) true := fun C T N h => by
  cases h
  exact ⟨⟨tyX9, tyX9_ok⟩, nmX9, by decide +kernel, by decide +kernel, fun _ => by decide +kernel⟩
set_option maxRecDepth 100000 in
theorem lf_9_93 : lkF RX9 93 9 40 := ⟨RX9, TX9, 49, rfl, by decide, rfl, inC9, (wIn 897 (by decide +kernel) (by decide +kernel))⟩
set_option maxRecDepth 100000 in
theorem lp_9_9_40 : lkP RX9 9 40 (.array .int) true := fun C T N h => by
  cases h
  exact ⟨⟨tyX9, tyX9_ok⟩, nmX9, by decide +kernel, by decide +kernel, fun _ => by decide +kernel⟩
set_option maxRecDepth 100000 in
theorem lf_9_96 : lkF RX9 96 9 41 := ⟨RX9, TX9, 49, rfl, by decide, rfl, inC9, (wIn 898 (by decide +kernel) (by decide +kernel))⟩
set_option maxRecDepth 100000 in
theorem lp_9_9_41 : lkP RX9 9 41 (.array .int) true := fun C T N h => by
  cases h
  exact ⟨⟨tyX9, tyX9_ok⟩, nmX9, by decide +kernel, by decide +kernel, fun _ => by decide +kernel⟩
set_option maxRecDepth 100000 in
theorem lf_9_99 : lkF RX9 99 9 42 := ⟨RX9, TX9, 49, rfl, by decide, rfl, inC9, (wIn 899 (by decide +kernel) (by decide +kernel))⟩
set_option maxRecDepth 100000 in
theorem lp_9_9_42 : lkP RX9 9 42 (.array .int) true := fun C T N h => by
  cases h
  exact ⟨⟨tyX9, tyX9_ok⟩, nmX9, by decide +kernel, by decide +kernel, fun _ => by decide +kernel⟩
set_option maxRecDepth 100000 in
theorem lf_9_102 : lkF RX9 102 9 43 := ⟨RX9, TX9, 49, rfl, by decide, rfl, inC9, (wIn 900 (by decide +kernel) (by decide +kernel))⟩
set_option maxRecDepth 100000 in
theorem lp_9_9_43 : lkP RX9 9 43 (.array .int) true := fun C T N h => by
  cases h
  exact ⟨⟨tyX9, tyX9_ok⟩, nmX9, by decide +kernel, by decide +kernel, fun _ => by decide +kernel⟩
set_option maxRecDepth 100000 in
theorem lf_9_105 : lkF RX9 105 9 44 := ⟨RX9, TX9, 49, rfl, by decide, rfl, inC9, (wIn 901 (by decide +kernel) (by decide +kernel))⟩
set_option maxRecDepth 100000 in
theorem lp_9_9_44 : lkP RX9 9 44 (.array .int) true := fun C T N h => by
  cases h
  exact ⟨⟨tyX9, tyX9_ok⟩, nmX9, by decide +kernel, by decide +kernel, fun _ => by decide +kernel⟩
set_option maxRecDepth 100000 in
theorem lf_9_108 : lkF RX9 108 9 45 := ⟨RX9, TX9, 49, rfl, by decide, rfl, inC9, (wIn 902 (by decide +kernel) (by decide +kernel))⟩
set_option maxRecDepth 100000 in
theorem lp_9_9_45 : lkP RX9 9 45 (.array .int) true := fun C T N h => by
  cases h
  exact ⟨⟨tyX9, tyX9_ok⟩, nmX9, by decide +kernel, by decide +kernel, fun _ => by decide +kernel⟩
set_option maxRecDepth 100000 in
theorem lf_9_111 : lkF RX9 111 9 46 := ⟨RX9, TX9, 49, rfl, by decide, rfl, inC9, (wIn 903 (by decide +kernel) (by decide +kernel))⟩
set_option maxRecDepth 100000 in
theorem lp_9_9_46 : lkP RX9 9 46 (.array .boolean) true := fun C T N h => by
  cases h
  exact ⟨⟨tyX9, tyX9_ok⟩, nmX9, by decide +kernel, by decide +kernel, fun _ => by decide +kernel⟩
set_option maxRecDepth 100000 in
theorem lf_9_114 : lkF RX9 114 9 47 := ⟨RX9, TX9, 49, rfl, by decide, rfl, inC9, (wIn 904 (by decide +kernel) (by decide +kernel))⟩
set_option maxRecDepth 100000 in
theorem lp_9_9_47 : lkP RX9 9 47 (.array .boolean) true := fun C T N h => by
  cases h
  exact ⟨⟨tyX9, tyX9_ok⟩, nmX9, by decide +kernel, by decide +kernel, fun _ => by decide +kernel⟩
set_option maxRecDepth 100000 in
theorem lc_X9_in (fr lo mc ms : Nat) : lkC (yX9_in, cX9_in, 3, (some .boolean), fr, lo, mc, ms) 3 := lkC_mk (wIn 1024 (by decide +kernel) (by decide +kernel)) (wIn 10 (by decide +kernel) (by decide +kernel)) (by decide +kernel) fr lo mc ms
set_option maxRecDepth 100000 in
theorem ls_9_117 (fr lo mc ms : Nat) : lkS RX9 117 (yX9_in, cX9_in, 3, (some .boolean), fr, lo, mc, ms) false := lkS_mk (wIn 1022 (by decide +kernel) (by decide +kernel)) (wIn 1023 (by decide +kernel) (by decide +kernel)) fr lo mc ms
set_option maxRecDepth 100000 in
theorem lf_9_121 : lkF RX9 121 9 14 := ⟨RX9, TX9, 49, rfl, by decide, rfl, inC9, (wIn 871 (by decide +kernel) (by decide +kernel))⟩
set_option maxRecDepth 100000 in
theorem lc_X9_copies (fr lo mc ms : Nat) : lkC (yX9_copies, cX9_copies, 4, none, fr, lo, mc, ms) 2 := lkC_mk (wIn 1013 (by decide +kernel) (by decide +kernel)) (wIn 10 (by decide +kernel) (by decide +kernel)) (by decide +kernel) fr lo mc ms
set_option maxRecDepth 100000 in
theorem lv_9_124 (fr lo mc ms : Nat) : lkV RX9 124 9 (yX9_copies, cX9_copies, 4, none, fr, lo, mc, ms) false := lkV_mk RX9 TX9 49 rfl (wIn 1010 (by decide +kernel) (by decide +kernel)) (wIn 1012 (by decide +kernel) (by decide +kernel)) (pIn 29 (by decide +kernel) (by decide +kernel)) fr lo mc ms
set_option maxRecDepth 100000 in
theorem lp_9_9_14 : lkP RX9 9 14 .int false := fun C T N h => by
  cases h
  exact ⟨⟨tyX9, tyX9_ok⟩, nmX9, by decide +kernel, by decide +kernel, fun h => by cases h⟩
set_option maxRecDepth 100000 in
theorem lc_X9_changed (fr lo mc ms : Nat) : lkC (yX9_changed, cX9_changed, 2, none, fr, lo, mc, ms) 0 := lkC_mk (wIn 1017 (by decide +kernel) (by decide +kernel)) (wIn 10 (by decide +kernel) (by decide +kernel)) (by decide +kernel) fr lo mc ms
set_option maxRecDepth 100000 in
theorem lv_9_128 (fr lo mc ms : Nat) : lkV RX9 128 9 (yX9_changed, cX9_changed, 2, none, fr, lo, mc, ms) false := lkV_mk RX9 TX9 49 rfl (wIn 1014 (by decide +kernel) (by decide +kernel)) (wIn 1016 (by decide +kernel) (by decide +kernel)) (pIn 30 (by decide +kernel) (by decide +kernel)) fr lo mc ms
set_option maxRecDepth 100000 in
theorem lc_X9_isPart (fr lo mc ms : Nat) : lkC (yX9_isPart, cX9_isPart, 2, (some .boolean), fr, lo, mc, ms) 1 := lkC_mk (wIn 1028 (by decide +kernel) (by decide +kernel)) (wIn 10 (by decide +kernel) (by decide +kernel)) (by decide +kernel) fr lo mc ms
set_option maxRecDepth 100000 in
theorem lv_9_131 (fr lo mc ms : Nat) : lkV RX9 131 9 (yX9_isPart, cX9_isPart, 2, (some .boolean), fr, lo, mc, ms) false := lkV_mk RX9 TX9 49 rfl (wIn 1025 (by decide +kernel) (by decide +kernel)) (wIn 1027 (by decide +kernel) (by decide +kernel)) (pIn 31 (by decide +kernel) (by decide +kernel)) fr lo mc ms
set_option maxRecDepth 100000 in
theorem lc_X9_adds (fr lo mc ms : Nat) : lkC (yX9_adds, cX9_adds, 3, none, fr, lo, mc, ms) 2 := lkC_mk (wIn 1032 (by decide +kernel) (by decide +kernel)) (wIn 10 (by decide +kernel) (by decide +kernel)) (by decide +kernel) fr lo mc ms
set_option maxRecDepth 100000 in
theorem lv_9_135 (fr lo mc ms : Nat) : lkV RX9 135 9 (yX9_adds, cX9_adds, 3, none, fr, lo, mc, ms) false := lkV_mk RX9 TX9 49 rfl (wIn 1029 (by decide +kernel) (by decide +kernel)) (wIn 1031 (by decide +kernel) (by decide +kernel)) (pIn 32 (by decide +kernel) (by decide +kernel)) fr lo mc ms
set_option maxRecDepth 100000 in
theorem lc_X9_isThere (fr lo mc ms : Nat) : lkC (yX9_isThere, cX9_isThere, 3, (some .boolean), fr, lo, mc, ms) 2 := lkC_mk (wIn 1040 (by decide +kernel) (by decide +kernel)) (wIn 10 (by decide +kernel) (by decide +kernel)) (by decide +kernel) fr lo mc ms
set_option maxRecDepth 100000 in
theorem lv_9_138 (fr lo mc ms : Nat) : lkV RX9 138 9 (yX9_isThere, cX9_isThere, 3, (some .boolean), fr, lo, mc, ms) false := lkV_mk RX9 TX9 49 rfl (wIn 1037 (by decide +kernel) (by decide +kernel)) (wIn 1039 (by decide +kernel) (by decide +kernel)) (pIn 33 (by decide +kernel) (by decide +kernel)) fr lo mc ms
set_option maxRecDepth 100000 in
theorem lc_X9_lies (fr lo mc ms : Nat) : lkC (yX9_lies, cX9_lies, 3, (some .int), fr, lo, mc, ms) 2 := lkC_mk (wIn 1044 (by decide +kernel) (by decide +kernel)) (wIn 10 (by decide +kernel) (by decide +kernel)) (by decide +kernel) fr lo mc ms
set_option maxRecDepth 100000 in
theorem lv_9_142 (fr lo mc ms : Nat) : lkV RX9 142 9 (yX9_lies, cX9_lies, 3, (some .int), fr, lo, mc, ms) false := lkV_mk RX9 TX9 49 rfl (wIn 1041 (by decide +kernel) (by decide +kernel)) (wIn 1043 (by decide +kernel) (by decide +kernel)) (pIn 34 (by decide +kernel) (by decide +kernel)) fr lo mc ms
set_option maxRecDepth 100000 in
theorem lf_9_146 : lkF RX9 146 9 16 := ⟨RX9, TX9, 49, rfl, by decide, rfl, inC9, (wIn 873 (by decide +kernel) (by decide +kernel))⟩
set_option maxRecDepth 100000 in
theorem lwl_9_149 : Cond.constantLong RX9 149 255 ∈ wAll := (wIn 1049 (by decide +kernel) (by decide +kernel))
set_option maxRecDepth 100000 in
theorem lp_9_9_16 : lkP RX9 9 16 .int false := fun C T N h => by
  cases h
  exact ⟨⟨tyX9, tyX9_ok⟩, nmX9, by decide +kernel, by decide +kernel, fun h => by cases h⟩
set_option maxRecDepth 100000 in
theorem lf_9_151 : lkF RX9 151 9 23 := ⟨RX9, TX9, 49, rfl, by decide, rfl, inC9, (wIn 880 (by decide +kernel) (by decide +kernel))⟩
set_option maxRecDepth 100000 in
theorem lf_9_155 : lkF RX9 155 9 22 := ⟨RX9, TX9, 49, rfl, by decide, rfl, inC9, (wIn 879 (by decide +kernel) (by decide +kernel))⟩
set_option maxRecDepth 100000 in
theorem lc_X9_byteAt (fr lo mc ms : Nat) : lkC (yX9_byteAt, cX9_byteAt, 2, (some .int), fr, lo, mc, ms) 1 := lkC_mk (wIn 1069 (by decide +kernel) (by decide +kernel)) (wIn 10 (by decide +kernel) (by decide +kernel)) (by decide +kernel) fr lo mc ms
set_option maxRecDepth 100000 in
theorem lv_9_158 (fr lo mc ms : Nat) : lkV RX9 158 9 (yX9_byteAt, cX9_byteAt, 2, (some .int), fr, lo, mc, ms) false := lkV_mk RX9 TX9 49 rfl (wIn 1066 (by decide +kernel) (by decide +kernel)) (wIn 1068 (by decide +kernel) (by decide +kernel)) (pIn 38 (by decide +kernel) (by decide +kernel)) fr lo mc ms
set_option maxRecDepth 100000 in
theorem lp_9_9_23 : lkP RX9 9 23 .boolean false := fun C T N h => by
  cases h
  exact ⟨⟨tyX9, tyX9_ok⟩, nmX9, by decide +kernel, by decide +kernel, fun h => by cases h⟩
set_option maxRecDepth 100000 in
theorem lp_9_9_22 : lkP RX9 9 22 .int false := fun C T N h => by
  cases h
  exact ⟨⟨tyX9, tyX9_ok⟩, nmX9, by decide +kernel, by decide +kernel, fun h => by cases h⟩
set_option maxRecDepth 100000 in
theorem lc_X9_must (fr lo mc ms : Nat) : lkC (yX9_must, cX9_must, 2, none, fr, lo, mc, ms) 1 := lkC_mk (wIn 1073 (by decide +kernel) (by decide +kernel)) (wIn 10 (by decide +kernel) (by decide +kernel)) (by decide +kernel) fr lo mc ms
set_option maxRecDepth 100000 in
theorem lv_9_162 (fr lo mc ms : Nat) : lkV RX9 162 9 (yX9_must, cX9_must, 2, none, fr, lo, mc, ms) false := lkV_mk RX9 TX9 49 rfl (wIn 1070 (by decide +kernel) (by decide +kernel)) (wIn 1072 (by decide +kernel) (by decide +kernel)) (pIn 39 (by decide +kernel) (by decide +kernel)) fr lo mc ms
set_option maxRecDepth 100000 in
theorem lf_9_166 : lkF RX9 166 9 24 := ⟨RX9, TX9, 49, rfl, by decide, rfl, inC9, (wIn 881 (by decide +kernel) (by decide +kernel))⟩
set_option maxRecDepth 100000 in
theorem lp_9_9_24 : lkP RX9 9 24 .int false := fun C T N h => by
  cases h
  exact ⟨⟨tyX9, tyX9_ok⟩, nmX9, by decide +kernel, by decide +kernel, fun h => by cases h⟩
set_option maxRecDepth 100000 in
theorem lc_X9_readsAct (fr lo mc ms : Nat) : lkC (yX9_readsAct, cX9_readsAct, 4, none, fr, lo, mc, ms) 0 := lkC_mk (wIn 1065 (by decide +kernel) (by decide +kernel)) (wIn 10 (by decide +kernel) (by decide +kernel)) (by decide +kernel) fr lo mc ms
set_option maxRecDepth 100000 in
theorem lv_9_169 (fr lo mc ms : Nat) : lkV RX9 169 9 (yX9_readsAct, cX9_readsAct, 4, none, fr, lo, mc, ms) false := lkV_mk RX9 TX9 49 rfl (wIn 1062 (by decide +kernel) (by decide +kernel)) (wIn 1064 (by decide +kernel) (by decide +kernel)) (pIn 37 (by decide +kernel) (by decide +kernel)) fr lo mc ms
set_option maxRecDepth 100000 in
theorem lc_X9_isRoutine (fr lo mc ms : Nat) : lkC (yX9_isRoutine, cX9_isRoutine, 2, (some .boolean), fr, lo, mc, ms) 1 := lkC_mk (wIn 1057 (by decide +kernel) (by decide +kernel)) (wIn 10 (by decide +kernel) (by decide +kernel)) (by decide +kernel) fr lo mc ms
set_option maxRecDepth 100000 in
theorem lv_9_172 (fr lo mc ms : Nat) : lkV RX9 172 9 (yX9_isRoutine, cX9_isRoutine, 2, (some .boolean), fr, lo, mc, ms) false := lkV_mk RX9 TX9 49 rfl (wIn 1054 (by decide +kernel) (by decide +kernel)) (wIn 1056 (by decide +kernel) (by decide +kernel)) (pIn 35 (by decide +kernel) (by decide +kernel)) fr lo mc ms
set_option maxRecDepth 100000 in
theorem lc_X9_reads (fr lo mc ms : Nat) : lkC (yX9_reads, cX9_reads, 2, none, fr, lo, mc, ms) 0 := lkC_mk (wIn 1061 (by decide +kernel) (by decide +kernel)) (wIn 10 (by decide +kernel) (by decide +kernel)) (by decide +kernel) fr lo mc ms
set_option maxRecDepth 100000 in
theorem lv_9_175 (fr lo mc ms : Nat) : lkV RX9 175 9 (yX9_reads, cX9_reads, 2, none, fr, lo, mc, ms) false := lkV_mk RX9 TX9 49 rfl (wIn 1058 (by decide +kernel) (by decide +kernel)) (wIn 1060 (by decide +kernel) (by decide +kernel)) (pIn 36 (by decide +kernel) (by decide +kernel)) fr lo mc ms
set_option maxRecDepth 100000 in
theorem lc_X9_tellsOfWhatIs (fr lo mc ms : Nat) : lkC (yX9_tellsOfWhatIs, cX9_tellsOfWhatIs, 5, (some .boolean), fr, lo, mc, ms) 0 := lkC_mk (wIn 1077 (by decide +kernel) (by decide +kernel)) (wIn 10 (by decide +kernel) (by decide +kernel)) (by decide +kernel) fr lo mc ms
set_option maxRecDepth 100000 in
theorem lv_9_178 (fr lo mc ms : Nat) : lkV RX9 178 9 (yX9_tellsOfWhatIs, cX9_tellsOfWhatIs, 5, (some .boolean), fr, lo, mc, ms) false := lkV_mk RX9 TX9 49 rfl (wIn 1074 (by decide +kernel) (by decide +kernel)) (wIn 1076 (by decide +kernel) (by decide +kernel)) (pIn 40 (by decide +kernel) (by decide +kernel)) fr lo mc ms
set_option maxRecDepth 100000 in
theorem lf_9_217 : lkF RX9 217 9 18 := ⟨RX9, TX9, 49, rfl, by decide, rfl, inC9, (wIn 875 (by decide +kernel) (by decide +kernel))⟩
set_option maxRecDepth 100000 in
theorem lc_X9_needs (fr lo mc ms : Nat) : lkC (yX9_needs, cX9_needs, 4, none, fr, lo, mc, ms) 3 := lkC_mk (wIn 1093 (by decide +kernel) (by decide +kernel)) (wIn 10 (by decide +kernel) (by decide +kernel)) (by decide +kernel) fr lo mc ms
set_option maxRecDepth 100000 in
theorem lv_9_220 (fr lo mc ms : Nat) : lkV RX9 220 9 (yX9_needs, cX9_needs, 4, none, fr, lo, mc, ms) false := lkV_mk RX9 TX9 49 rfl (wIn 1090 (by decide +kernel) (by decide +kernel)) (wIn 1092 (by decide +kernel) (by decide +kernel)) (pIn 44 (by decide +kernel) (by decide +kernel)) fr lo mc ms
set_option maxRecDepth 100000 in
theorem lc_X9_ties (fr lo mc ms : Nat) : lkC (yX9_ties, cX9_ties, 5, none, fr, lo, mc, ms) 0 := lkC_mk (wIn 1089 (by decide +kernel) (by decide +kernel)) (wIn 10 (by decide +kernel) (by decide +kernel)) (by decide +kernel) fr lo mc ms
set_option maxRecDepth 100000 in
theorem lv_9_224 (fr lo mc ms : Nat) : lkV RX9 224 9 (yX9_ties, cX9_ties, 5, none, fr, lo, mc, ms) false := lkV_mk RX9 TX9 49 rfl (wIn 1086 (by decide +kernel) (by decide +kernel)) (wIn 1088 (by decide +kernel) (by decide +kernel)) (pIn 43 (by decide +kernel) (by decide +kernel)) fr lo mc ms
set_option maxRecDepth 100000 in
theorem lc_X9_ways (fr lo mc ms : Nat) : lkC (yX9_ways, cX9_ways, 9, none, fr, lo, mc, ms) 1 := lkC_mk (wIn 1097 (by decide +kernel) (by decide +kernel)) (wIn 10 (by decide +kernel) (by decide +kernel)) (by decide +kernel) fr lo mc ms
set_option maxRecDepth 100000 in
theorem lv_9_227 (fr lo mc ms : Nat) : lkV RX9 227 9 (yX9_ways, cX9_ways, 9, none, fr, lo, mc, ms) false := lkV_mk RX9 TX9 49 rfl (wIn 1094 (by decide +kernel) (by decide +kernel)) (wIn 1096 (by decide +kernel) (by decide +kernel)) (pIn 45 (by decide +kernel) (by decide +kernel)) fr lo mc ms
set_option maxRecDepth 100000 in
theorem lc_X9_looks (fr lo mc ms : Nat) : lkC (yX9_looks, cX9_looks, 1, none, fr, lo, mc, ms) 0 := lkC_mk (wIn 1085 (by decide +kernel) (by decide +kernel)) (wIn 10 (by decide +kernel) (by decide +kernel)) (by decide +kernel) fr lo mc ms
set_option maxRecDepth 100000 in
theorem lv_9_231 (fr lo mc ms : Nat) : lkV RX9 231 9 (yX9_looks, cX9_looks, 1, none, fr, lo, mc, ms) false := lkV_mk RX9 TX9 49 rfl (wIn 1082 (by decide +kernel) (by decide +kernel)) (wIn 1084 (by decide +kernel) (by decide +kernel)) (pIn 42 (by decide +kernel) (by decide +kernel)) fr lo mc ms
set_option maxRecDepth 100000 in
theorem lf_9_262 : lkF RX9 262 9 48 := ⟨RX9, TX9, 49, rfl, by decide, rfl, inC9, (wIn 905 (by decide +kernel) (by decide +kernel))⟩
set_option maxRecDepth 100000 in
theorem lp_9_9_48 : lkP RX9 9 48 .int false := fun C T N h => by
  cases h
  exact ⟨⟨tyX9, tyX9_ok⟩, nmX9, by decide +kernel, by decide +kernel, fun h => by cases h⟩
set_option maxRecDepth 100000 in
theorem lc_X9_areOne (fr lo mc ms : Nat) : lkC (yX9_areOne, cX9_areOne, 3, (some .boolean), fr, lo, mc, ms) 2 := lkC_mk (wIn 1101 (by decide +kernel) (by decide +kernel)) (wIn 10 (by decide +kernel) (by decide +kernel)) (by decide +kernel) fr lo mc ms
set_option maxRecDepth 100000 in
theorem lv_9_234 (fr lo mc ms : Nat) : lkV RX9 234 9 (yX9_areOne, cX9_areOne, 3, (some .boolean), fr, lo, mc, ms) false := lkV_mk RX9 TX9 49 rfl (wIn 1098 (by decide +kernel) (by decide +kernel)) (wIn 1100 (by decide +kernel) (by decide +kernel)) (pIn 46 (by decide +kernel) (by decide +kernel)) fr lo mc ms
set_option maxRecDepth 100000 in
theorem lc_X9_begins (fr lo mc ms : Nat) : lkC (yX9_begins, cX9_begins, 2, none, fr, lo, mc, ms) 0 := lkC_mk (wIn 1081 (by decide +kernel) (by decide +kernel)) (wIn 10 (by decide +kernel) (by decide +kernel)) (by decide +kernel) fr lo mc ms
set_option maxRecDepth 100000 in
theorem lv_9_182 (fr lo mc ms : Nat) : lkV RX9 182 9 (yX9_begins, cX9_begins, 2, none, fr, lo, mc, ms) false := lkV_mk RX9 TX9 49 rfl (wIn 1078 (by decide +kernel) (by decide +kernel)) (wIn 1080 (by decide +kernel) (by decide +kernel)) (pIn 41 (by decide +kernel) (by decide +kernel)) fr lo mc ms
set_option maxRecDepth 100000 in
theorem lf_9_259 : lkF RX9 259 9 19 := ⟨RX9, TX9, 49, rfl, by decide, rfl, inC9, (wIn 876 (by decide +kernel) (by decide +kernel))⟩
set_option maxRecDepth 100000 in
theorem lc_X9_numberAhead (fr lo mc ms : Nat) : lkC (yX9_numberAhead, cX9_numberAhead, 4, (some .int), fr, lo, mc, ms) 2 := lkC_mk (wIn 1109 (by decide +kernel) (by decide +kernel)) (wIn 10 (by decide +kernel) (by decide +kernel)) (by decide +kernel) fr lo mc ms
set_option maxRecDepth 100000 in
theorem lv_9_265 (fr lo mc ms : Nat) : lkV RX9 265 9 (yX9_numberAhead, cX9_numberAhead, 4, (some .int), fr, lo, mc, ms) false := lkV_mk RX9 TX9 49 rfl (wIn 1106 (by decide +kernel) (by decide +kernel)) (wIn 1108 (by decide +kernel) (by decide +kernel)) (pIn 48 (by decide +kernel) (by decide +kernel)) fr lo mc ms
set_option maxRecDepth 100000 in
theorem lc_X9_firstTie (fr lo mc ms : Nat) : lkC (yX9_firstTie, cX9_firstTie, 7, (some .int), fr, lo, mc, ms) 1 := lkC_mk (wIn 1113 (by decide +kernel) (by decide +kernel)) (wIn 10 (by decide +kernel) (by decide +kernel)) (by decide +kernel) fr lo mc ms
set_option maxRecDepth 100000 in
theorem lv_9_268 (fr lo mc ms : Nat) : lkV RX9 268 9 (yX9_firstTie, cX9_firstTie, 7, (some .int), fr, lo, mc, ms) false := lkV_mk RX9 TX9 49 rfl (wIn 1110 (by decide +kernel) (by decide +kernel)) (wIn 1112 (by decide +kernel) (by decide +kernel)) (pIn 49 (by decide +kernel) (by decide +kernel)) fr lo mc ms
set_option maxRecDepth 100000 in
theorem lc_X9_ends (fr lo mc ms : Nat) : lkC (yX9_ends, cX9_ends, 7, (some .boolean), fr, lo, mc, ms) 1 := lkC_mk (wIn 1105 (by decide +kernel) (by decide +kernel)) (wIn 10 (by decide +kernel) (by decide +kernel)) (by decide +kernel) fr lo mc ms
set_option maxRecDepth 100000 in
theorem lv_9_185 (fr lo mc ms : Nat) : lkV RX9 185 9 (yX9_ends, cX9_ends, 7, (some .boolean), fr, lo, mc, ms) false := lkV_mk RX9 TX9 49 rfl (wIn 1102 (by decide +kernel) (by decide +kernel)) (wIn 1104 (by decide +kernel) (by decide +kernel)) (pIn 47 (by decide +kernel) (by decide +kernel)) fr lo mc ms
set_option maxRecDepth 100000 in
theorem lc_X9_hears (fr lo mc ms : Nat) : lkC (yX9_hears, cX9_hears, 5, (some .boolean), fr, lo, mc, ms) 2 := lkC_mk (wIn 1125 (by decide +kernel) (by decide +kernel)) (wIn 10 (by decide +kernel) (by decide +kernel)) (by decide +kernel) fr lo mc ms
set_option maxRecDepth 100000 in
theorem lv_9_188 (fr lo mc ms : Nat) : lkV RX9 188 9 (yX9_hears, cX9_hears, 5, (some .boolean), fr, lo, mc, ms) false := lkV_mk RX9 TX9 49 rfl (wIn 1122 (by decide +kernel) (by decide +kernel)) (wIn 1124 (by decide +kernel) (by decide +kernel)) (pIn 50 (by decide +kernel) (by decide +kernel)) fr lo mc ms
set_option maxRecDepth 100000 in
theorem lf_9_191 : lkF RX9 191 9 31 := ⟨RX9, TX9, 49, rfl, by decide, rfl, inC9, (wIn 888 (by decide +kernel) (by decide +kernel))⟩
set_option maxRecDepth 100000 in
theorem lp_9_9_31 : lkP RX9 9 31 .int false := fun C T N h => by
  cases h
  exact ⟨⟨tyX9, tyX9_ok⟩, nmX9, by decide +kernel, by decide +kernel, fun h => by cases h⟩
set_option maxRecDepth 100000 in
theorem lf_9_194 : lkF RX9 194 9 32 := ⟨RX9, TX9, 49, rfl, by decide, rfl, inC9, (wIn 889 (by decide +kernel) (by decide +kernel))⟩
set_option maxRecDepth 100000 in
theorem lp_9_9_32 : lkP RX9 9 32 .int false := fun C T N h => by
  cases h
  exact ⟨⟨tyX9, tyX9_ok⟩, nmX9, by decide +kernel, by decide +kernel, fun h => by cases h⟩
set_option maxRecDepth 100000 in
theorem lc_X9_enters (fr lo mc ms : Nat) : lkC (yX9_enters, cX9_enters, 2, none, fr, lo, mc, ms) 1 := lkC_mk (wIn 1141 (by decide +kernel) (by decide +kernel)) (wIn 10 (by decide +kernel) (by decide +kernel)) (by decide +kernel) fr lo mc ms
set_option maxRecDepth 100000 in
theorem lv_9_197 (fr lo mc ms : Nat) : lkV RX9 197 9 (yX9_enters, cX9_enters, 2, none, fr, lo, mc, ms) false := lkV_mk RX9 TX9 49 rfl (wIn 1138 (by decide +kernel) (by decide +kernel)) (wIn 1140 (by decide +kernel) (by decide +kernel)) (pIn 53 (by decide +kernel) (by decide +kernel)) fr lo mc ms
set_option maxRecDepth 100000 in
theorem lf_9_200 : lkF RX9 200 9 33 := ⟨RX9, TX9, 49, rfl, by decide, rfl, inC9, (wIn 890 (by decide +kernel) (by decide +kernel))⟩
set_option maxRecDepth 100000 in
theorem lp_9_9_33 : lkP RX9 9 33 .int false := fun C T N h => by
  cases h
  exact ⟨⟨tyX9, tyX9_ok⟩, nmX9, by decide +kernel, by decide +kernel, fun h => by cases h⟩
set_option maxRecDepth 100000 in
theorem lf_9_203 : lkF RX9 203 9 34 := ⟨RX9, TX9, 49, rfl, by decide, rfl, inC9, (wIn 891 (by decide +kernel) (by decide +kernel))⟩
set_option maxRecDepth 100000 in
theorem lp_9_9_34 : lkP RX9 9 34 .int false := fun C T N h => by
  cases h
  exact ⟨⟨tyX9, tyX9_ok⟩, nmX9, by decide +kernel, by decide +kernel, fun h => by cases h⟩
set_option maxRecDepth 100000 in
theorem lc_X9_calls (fr lo mc ms : Nat) : lkC (yX9_calls, cX9_calls, 2, (some .boolean), fr, lo, mc, ms) 1 := lkC_mk (wIn 1137 (by decide +kernel) (by decide +kernel)) (wIn 10 (by decide +kernel) (by decide +kernel)) (by decide +kernel) fr lo mc ms
set_option maxRecDepth 100000 in
theorem lv_9_206 (fr lo mc ms : Nat) : lkV RX9 206 9 (yX9_calls, cX9_calls, 2, (some .boolean), fr, lo, mc, ms) false := lkV_mk RX9 TX9 49 rfl (wIn 1134 (by decide +kernel) (by decide +kernel)) (wIn 1136 (by decide +kernel) (by decide +kernel)) (pIn 52 (by decide +kernel) (by decide +kernel)) fr lo mc ms
set_option maxRecDepth 100000 in
theorem lc_X9_acts (fr lo mc ms : Nat) : lkC (yX9_acts, cX9_acts, 3, (some .boolean), fr, lo, mc, ms) 1 := lkC_mk (wIn 1145 (by decide +kernel) (by decide +kernel)) (wIn 10 (by decide +kernel) (by decide +kernel)) (by decide +kernel) fr lo mc ms
set_option maxRecDepth 100000 in
theorem lv_9_209 (fr lo mc ms : Nat) : lkV RX9 209 9 (yX9_acts, cX9_acts, 3, (some .boolean), fr, lo, mc, ms) false := lkV_mk RX9 TX9 49 rfl (wIn 1142 (by decide +kernel) (by decide +kernel)) (wIn 1144 (by decide +kernel) (by decide +kernel)) (pIn 54 (by decide +kernel) (by decide +kernel)) fr lo mc ms
set_option maxRecDepth 100000 in
theorem lc_X9_runs (fr lo mc ms : Nat) : lkC (yX9_runs, cX9_runs, 6, (some .boolean), fr, lo, mc, ms) 1 := lkC_mk (wIn 1133 (by decide +kernel) (by decide +kernel)) (wIn 10 (by decide +kernel) (by decide +kernel)) (by decide +kernel) fr lo mc ms
set_option maxRecDepth 100000 in
theorem lv_9_211 (fr lo mc ms : Nat) : lkV RX9 211 9 (yX9_runs, cX9_runs, 6, (some .boolean), fr, lo, mc, ms) false := lkV_mk RX9 TX9 49 rfl (wIn 1130 (by decide +kernel) (by decide +kernel)) (wIn 1132 (by decide +kernel) (by decide +kernel)) (pIn 51 (by decide +kernel) (by decide +kernel)) fr lo mc ms
set_option maxRecDepth 100000 in
theorem lf_9_214 : lkF RX9 214 9 21 := ⟨RX9, TX9, 49, rfl, by decide, rfl, inC9, (wIn 878 (by decide +kernel) (by decide +kernel))⟩
set_option maxRecDepth 100000 in
theorem lp_9_9_21 : lkP RX9 9 21 .int false := fun C T N h => by
  cases h
  exact ⟨⟨tyX9, tyX9_ok⟩, nmX9, by decide +kernel, by decide +kernel, fun h => by cases h⟩
set_option maxRecDepth 100000 in
theorem lp_9_9_18 : lkP RX9 9 18 .int false := fun C T N h => by
  cases h
  exact ⟨⟨tyX9, tyX9_ok⟩, nmX9, by decide +kernel, by decide +kernel, fun h => by cases h⟩
set_option maxRecDepth 100000 in
theorem lf_9_237 : lkF RX9 237 9 39 := ⟨RX9, TX9, 49, rfl, by decide, rfl, inC9, (wIn 896 (by decide +kernel) (by decide +kernel))⟩
set_option maxRecDepth 100000 in
theorem lp_9_9_39 : lkP RX9 9 39 .int false := fun C T N h => by
  cases h
  exact ⟨⟨tyX9, tyX9_ok⟩, nmX9, by decide +kernel, by decide +kernel, fun h => by cases h⟩
set_option maxRecDepth 100000 in
theorem lc_X9_rings (fr lo mc ms : Nat) : lkC (yX9_rings, cX9_rings, 6, none, fr, lo, mc, ms) 3 := lkC_mk (wIn 1181 (by decide +kernel) (by decide +kernel)) (wIn 10 (by decide +kernel) (by decide +kernel)) (by decide +kernel) fr lo mc ms
set_option maxRecDepth 100000 in
theorem lv_9_240 (fr lo mc ms : Nat) : lkV RX9 240 9 (yX9_rings, cX9_rings, 6, none, fr, lo, mc, ms) false := lkV_mk RX9 TX9 49 rfl (wIn 1178 (by decide +kernel) (by decide +kernel)) (wIn 1180 (by decide +kernel) (by decide +kernel)) (pIn 55 (by decide +kernel) (by decide +kernel)) fr lo mc ms
set_option maxRecDepth 100000 in
theorem lc_X9_costs (fr lo mc ms : Nat) : lkC (yX9_costs, cX9_costs, 5, (some .int), fr, lo, mc, ms) 2 := lkC_mk (wIn 1193 (by decide +kernel) (by decide +kernel)) (wIn 10 (by decide +kernel) (by decide +kernel)) (by decide +kernel) fr lo mc ms
set_option maxRecDepth 100000 in
theorem lv_9_244 (fr lo mc ms : Nat) : lkV RX9 244 9 (yX9_costs, cX9_costs, 5, (some .int), fr, lo, mc, ms) false := lkV_mk RX9 TX9 49 rfl (wIn 1190 (by decide +kernel) (by decide +kernel)) (wIn 1192 (by decide +kernel) (by decide +kernel)) (pIn 57 (by decide +kernel) (by decide +kernel)) fr lo mc ms
set_option maxRecDepth 100000 in
theorem lc_X9_chooses (fr lo mc ms : Nat) : lkC (yX9_chooses, cX9_chooses, 5, (some .int), fr, lo, mc, ms) 0 := lkC_mk (wIn 1189 (by decide +kernel) (by decide +kernel)) (wIn 10 (by decide +kernel) (by decide +kernel)) (by decide +kernel) fr lo mc ms
set_option maxRecDepth 100000 in
theorem lv_9_247 (fr lo mc ms : Nat) : lkV RX9 247 9 (yX9_chooses, cX9_chooses, 5, (some .int), fr, lo, mc, ms) false := lkV_mk RX9 TX9 49 rfl (wIn 1186 (by decide +kernel) (by decide +kernel)) (wIn 1188 (by decide +kernel) (by decide +kernel)) (pIn 56 (by decide +kernel) (by decide +kernel)) fr lo mc ms
set_option maxRecDepth 100000 in
theorem lc_X9_shortest (fr lo mc ms : Nat) : lkC (yX9_shortest, cX9_shortest, 6, (some .int), fr, lo, mc, ms) 0 := lkC_mk (wIn 1205 (by decide +kernel) (by decide +kernel)) (wIn 10 (by decide +kernel) (by decide +kernel)) (by decide +kernel) fr lo mc ms
set_option maxRecDepth 100000 in
theorem lv_9_251 (fr lo mc ms : Nat) : lkV RX9 251 9 (yX9_shortest, cX9_shortest, 6, (some .int), fr, lo, mc, ms) false := lkV_mk RX9 TX9 49 rfl (wIn 1202 (by decide +kernel) (by decide +kernel)) (wIn 1204 (by decide +kernel) (by decide +kernel)) (pIn 58 (by decide +kernel) (by decide +kernel)) fr lo mc ms
set_option maxRecDepth 100000 in
theorem lc_X9_hasGroup (fr lo mc ms : Nat) : lkC (yX9_hasGroup, cX9_hasGroup, 4, (some .boolean), fr, lo, mc, ms) 0 := lkC_mk (wIn 1213 (by decide +kernel) (by decide +kernel)) (wIn 10 (by decide +kernel) (by decide +kernel)) (by decide +kernel) fr lo mc ms
set_option maxRecDepth 100000 in
theorem lv_9_254 (fr lo mc ms : Nat) : lkV RX9 254 9 (yX9_hasGroup, cX9_hasGroup, 4, (some .boolean), fr, lo, mc, ms) false := lkV_mk RX9 TX9 49 rfl (wIn 1210 (by decide +kernel) (by decide +kernel)) (wIn 1212 (by decide +kernel) (by decide +kernel)) (pIn 59 (by decide +kernel) (by decide +kernel)) fr lo mc ms
set_option maxRecDepth 100000 in
theorem lwl_9_257 : Cond.constantLong RX9 257 10 ∈ wAll := (wIn 1222 (by decide +kernel) (by decide +kernel))
set_option maxRecDepth 100000 in
theorem lp_9_9_19 : lkP RX9 9 19 .boolean false := fun C T N h => by
  cases h
  exact ⟨⟨tyX9, tyX9_ok⟩, nmX9, by decide +kernel, by decide +kernel, fun h => by cases h⟩
set_option maxRecDepth 100000 in
theorem lc_X9_puts (fr lo mc ms : Nat) : lkC (yX9_puts, cX9_puts, 4, none, fr, lo, mc, ms) 3 := lkC_mk (wIn 1238 (by decide +kernel) (by decide +kernel)) (wIn 10 (by decide +kernel) (by decide +kernel)) (by decide +kernel) fr lo mc ms
set_option maxRecDepth 100000 in
theorem lv_9_271 (fr lo mc ms : Nat) : lkV RX9 271 9 (yX9_puts, cX9_puts, 4, none, fr, lo, mc, ms) false := lkV_mk RX9 TX9 49 rfl (wIn 1235 (by decide +kernel) (by decide +kernel)) (wIn 1237 (by decide +kernel) (by decide +kernel)) (pIn 60 (by decide +kernel) (by decide +kernel)) fr lo mc ms
set_option maxRecDepth 100000 in
theorem lc_X9_opens (fr lo mc ms : Nat) : lkC (yX9_opens, cX9_opens, 2, none, fr, lo, mc, ms) 0 := lkC_mk (wIn 1246 (by decide +kernel) (by decide +kernel)) (wIn 10 (by decide +kernel) (by decide +kernel)) (by decide +kernel) fr lo mc ms
set_option maxRecDepth 100000 in
theorem lv_9_274 (fr lo mc ms : Nat) : lkV RX9 274 9 (yX9_opens, cX9_opens, 2, none, fr, lo, mc, ms) false := lkV_mk RX9 TX9 49 rfl (wIn 1243 (by decide +kernel) (by decide +kernel)) (wIn 1245 (by decide +kernel) (by decide +kernel)) (pIn 61 (by decide +kernel) (by decide +kernel)) fr lo mc ms
set_option maxRecDepth 100000 in
theorem lc_X9_behind (fr lo mc ms : Nat) : lkC (yX9_behind, cX9_behind, 4, (some .int), fr, lo, mc, ms) 3 := lkC_mk (wIn 1253 (by decide +kernel) (by decide +kernel)) (wIn 10 (by decide +kernel) (by decide +kernel)) (by decide +kernel) fr lo mc ms
set_option maxRecDepth 100000 in
theorem ls_9_277 (fr lo mc ms : Nat) : lkS RX9 277 (yX9_behind, cX9_behind, 4, (some .int), fr, lo, mc, ms) false := lkS_mk (wIn 1251 (by decide +kernel) (by decide +kernel)) (wIn 1252 (by decide +kernel) (by decide +kernel)) fr lo mc ms
set_option maxRecDepth 100000 in
theorem lc_X9_isAct (fr lo mc ms : Nat) : lkC (yX9_isAct, cX9_isAct, 3, (some .boolean), fr, lo, mc, ms) 2 := lkC_mk (wIn 1261 (by decide +kernel) (by decide +kernel)) (wIn 10 (by decide +kernel) (by decide +kernel)) (by decide +kernel) fr lo mc ms
set_option maxRecDepth 100000 in
theorem lv_9_281 (fr lo mc ms : Nat) : lkV RX9 281 9 (yX9_isAct, cX9_isAct, 3, (some .boolean), fr, lo, mc, ms) false := lkV_mk RX9 TX9 49 rfl (wIn 1258 (by decide +kernel) (by decide +kernel)) (wIn 1260 (by decide +kernel) (by decide +kernel)) (pIn 62 (by decide +kernel) (by decide +kernel)) fr lo mc ms
