/-! the reference: its copies -/
def bcp (I : Nat → Nat → Int) (xs : List Nat) (w a b k : Nat) : Nat → Nat → Int := fun x j => if x ∈ xs ∧ w * b ≤ j ∧ j < w * b + k then I x (w * a + (j - w * b)) else I x j
theorem bcp_0 (I : Nat → Nat → Int) (xs : List Nat) (w a b : Nat) : bcp I xs w a b 0 = I := by
  funext x j
  rw [bcp, if_neg (by omega)]
set_option maxHeartbeats 2000000 in
theorem X9_copies_0 {kd : List (Nat × Nat)} {R : Nat → Nat → Option Nat} (F : isMod kd R) {I : Nat → Nat → Int} {a b : Nat} (ha : a < 22) (hb : b < 22) (hz : ∀ j, I 77 j = 0 ∨ I 77 j = 1) {Kn Kb : XE → XS → Prop} {Kr : AV → XS → Prop} (hk : Kn [vR (some 63), vI a, vI b, vI 20] (kd, bcp I [68, 69, 77] 20 a b 20, R)) :
    lp_X9_copies_0 Kn Kb Kr [vR (some 63), vI a, vI b, vI 0] (kd, I, R) := by
  unfold lp_X9_copies_0
  refine forUp (lo := 0) (n := 20) (fun k env st => env = [vR (some 63), vI a, vI b, vI (k : Int)] ∧ st = (kd, bcp I [68, 69, 77] 20 a b k, R)) (by decide) (by decide) ⟨rfl, by rw [bcp_0]⟩ ?_ ?_ ?_
  · rintro k env st hk ⟨rfl, rfl⟩
    exact ⟨rfl, fun K h => h⟩
  · rintro k env st - hkn ⟨rfl, rfl⟩ Kx hx
    have e1 : o2 f_imul 20 (a : Int) = 20 * (a : Int) := oM (by omega) (by omega)
    have e2 : o2 f_imul 20 (b : Int) = 20 * (b : Int) := oM (by omega) (by omega)
    have e3 : o2 f_iadd (20 * (a : Int)) (k : Int) = 20 * (a : Int) + k := oA (by omega) (by omega)
    have e4 : o2 f_iadd (20 * (b : Int)) (k : Int) = 20 * (b : Int) + k := oA (by omega) (by omega)
    have e5 : (20 * (a : Int) + k).toNat = 20 * a + k := by omega
    have e6 : (20 * (b : Int) + k).toNat = 20 * b + k := by omega
    have e7 : ∀ x, bcp I [68, 69, 77] 20 a b k x (20 * a + k) = I x (20 * a + k) := fun x => by rw [bcp, if_neg (by omega)]
    simp [-Int.not_le, -Int.not_lt, bodyOf, envOf, exA, catV, rkOK, e_ci, e_lv, l_lv, r_lv, r_null, e_fld, r_fld, e_ald, z_ald, r_ald, e_len, e_op, e_dv, l_op, l_dv, l_sh, e_lcmp, e_l2i, e_min, c_b, c_not, c_and, c_or, c_null, c_eq, c_ne, c_lt, c_ge, c_gt, c_le, e_cond, x_tern, a_nil, a_I, a_L, a_R, g_callV, e_callV, r_callV, e_callS, s_skip, s_seq, s_st, s_stL, s_stR, s_inc, s_put, s_putZ, s_putR, s_putop, s_ast, s_zast, s_rast, s_astop, s_callV, s_popV, s_if, s_ite, s_itr, s_brk, s_retI, s_retR, s_ret, s_sw, noL, stI, stR, mR_0 F, mR_1 F, mR_2 F, mR_3 F, mR_4 F, mR_5 F, mR_6 F, mR_7 F, mR_8 F, mR_9 F, mR_10 F, mR_11 F, mR_12 F, mR_13 F, mR_15 F, mR_17 F, mR_25 F, mR_26 F, mR_27 F, mR_28 F, mR_29 F, mR_30 F, mR_35 F, mR_36 F, mR_37 F, mR_38 F, mR_40 F, mR_41 F, mR_42 F, mR_43 F, mR_44 F, mR_45 F, mR_46 F, mR_47 F, mK_63 F, mK_64 F, mK_65 F, mK_66 F, mK_67 F, mK_68 F, mK_69 F, mK_70 F, mK_71 F, mK_72 F, mK_73 F, mK_74 F, mK_75 F, mK_76 F, mK_77 F, mK_78 F, mK_79 F, mK_80 F, mK_81 F, mK_82 F, mK_83 F, mK_84 F, mK_85 F, mK_86 F, mK_87 F, mK_88 F, mK_89 F, mK_90 F, mK_91 F, mK_92 F, mK_93 F, mK_94 F, mK_95 F, mK_96 F, mK_97 F, e1, e2, e3, e4, e5, e6, e7, upI]
    refine ⟨by omega, by omega, by omega, by omega, by omega, by omega, by omega, by omega, by omega, by omega, by omega, by omega, hz _, ?_⟩
    refine hx _ _ rfl rfl ⟨rfl, ?_⟩
    refine congrArg (fun z => (kd, z, R)) ?_
    funext x j
    simp only [upI, bcp, List.mem_cons, List.not_mem_nil, or_false]
    repeat' split
    all_goals first | rfl | omega | (simp_all; done) | (simp_all; omega) | (congr 1; omega)
  · rintro env st ⟨rfl, rfl⟩
    exact hk
set_option maxHeartbeats 2000000 in
theorem X9_copies_1 {kd : List (Nat × Nat)} {R : Nat → Nat → Option Nat} (F : isMod kd R) {I : Nat → Nat → Int} {a b : Nat} (ha : a < 22) (hb : b < 22) {Kn Kb : XE → XS → Prop} {Kr : AV → XS → Prop} (hk : Kn [vR (some 63), vI a, vI b, vI 200] (kd, bcp I [70, 71] 200 a b 200, R)) :
    lp_X9_copies_1 Kn Kb Kr [vR (some 63), vI a, vI b, vI 0] (kd, I, R) := by
  unfold lp_X9_copies_1
  refine forUp (lo := 0) (n := 200) (fun k env st => env = [vR (some 63), vI a, vI b, vI (k : Int)] ∧ st = (kd, bcp I [70, 71] 200 a b k, R)) (by decide) (by decide) ⟨rfl, by rw [bcp_0]⟩ ?_ ?_ ?_
  · rintro k env st hk ⟨rfl, rfl⟩
    exact ⟨rfl, fun K h => h⟩
  · rintro k env st - hkn ⟨rfl, rfl⟩ Kx hx
    have e1 : o2 f_imul 200 (a : Int) = 200 * (a : Int) := oM (by omega) (by omega)
    have e2 : o2 f_imul 200 (b : Int) = 200 * (b : Int) := oM (by omega) (by omega)
    have e3 : o2 f_iadd (200 * (a : Int)) (k : Int) = 200 * (a : Int) + k := oA (by omega) (by omega)
    have e4 : o2 f_iadd (200 * (b : Int)) (k : Int) = 200 * (b : Int) + k := oA (by omega) (by omega)
    have e5 : (200 * (a : Int) + k).toNat = 200 * a + k := by omega
    have e6 : (200 * (b : Int) + k).toNat = 200 * b + k := by omega
    have e7 : ∀ x, bcp I [70, 71] 200 a b k x (200 * a + k) = I x (200 * a + k) := fun x => by rw [bcp, if_neg (by omega)]
    simp [-Int.not_le, -Int.not_lt, bodyOf, envOf, exA, catV, rkOK, e_ci, e_lv, l_lv, r_lv, r_null, e_fld, r_fld, e_ald, z_ald, r_ald, e_len, e_op, e_dv, l_op, l_dv, l_sh, e_lcmp, e_l2i, e_min, c_b, c_not, c_and, c_or, c_null, c_eq, c_ne, c_lt, c_ge, c_gt, c_le, e_cond, x_tern, a_nil, a_I, a_L, a_R, g_callV, e_callV, r_callV, e_callS, s_skip, s_seq, s_st, s_stL, s_stR, s_inc, s_put, s_putZ, s_putR, s_putop, s_ast, s_zast, s_rast, s_astop, s_callV, s_popV, s_if, s_ite, s_itr, s_brk, s_retI, s_retR, s_ret, s_sw, noL, stI, stR, mR_0 F, mR_1 F, mR_2 F, mR_3 F, mR_4 F, mR_5 F, mR_6 F, mR_7 F, mR_8 F, mR_9 F, mR_10 F, mR_11 F, mR_12 F, mR_13 F, mR_15 F, mR_17 F, mR_25 F, mR_26 F, mR_27 F, mR_28 F, mR_29 F, mR_30 F, mR_35 F, mR_36 F, mR_37 F, mR_38 F, mR_40 F, mR_41 F, mR_42 F, mR_43 F, mR_44 F, mR_45 F, mR_46 F, mR_47 F, mK_63 F, mK_64 F, mK_65 F, mK_66 F, mK_67 F, mK_68 F, mK_69 F, mK_70 F, mK_71 F, mK_72 F, mK_73 F, mK_74 F, mK_75 F, mK_76 F, mK_77 F, mK_78 F, mK_79 F, mK_80 F, mK_81 F, mK_82 F, mK_83 F, mK_84 F, mK_85 F, mK_86 F, mK_87 F, mK_88 F, mK_89 F, mK_90 F, mK_91 F, mK_92 F, mK_93 F, mK_94 F, mK_95 F, mK_96 F, mK_97 F, e1, e2, e3, e4, e5, e6, e7, upI]
    refine ⟨by omega, by omega, by omega, by omega, by omega, by omega, by omega, by omega, ?_⟩
    refine hx _ _ rfl rfl ⟨rfl, ?_⟩
    refine congrArg (fun z => (kd, z, R)) ?_
    funext x j
    simp only [upI, bcp, List.mem_cons, List.not_mem_nil, or_false]
    repeat' split
    all_goals first | rfl | omega | (simp_all; done) | (simp_all; omega) | (congr 1; omega)
  · rintro env st ⟨rfl, rfl⟩
    exact hk
set_option maxHeartbeats 2000000 in
theorem X9_copies_2 {kd : List (Nat × Nat)} {R : Nat → Nat → Option Nat} (F : isMod kd R) {I : Nat → Nat → Int} {a b : Nat} (ha : a < 22) (hb : b < 22) {Kn Kb : XE → XS → Prop} {Kr : AV → XS → Prop} (hk : Kn [vR (some 63), vI a, vI b, vI 10] (kd, bcp I [72] 10 a b 10, R)) :
    lp_X9_copies_2 Kn Kb Kr [vR (some 63), vI a, vI b, vI 0] (kd, I, R) := by
  unfold lp_X9_copies_2
  refine forUp (lo := 0) (n := 10) (fun k env st => env = [vR (some 63), vI a, vI b, vI (k : Int)] ∧ st = (kd, bcp I [72] 10 a b k, R)) (by decide) (by decide) ⟨rfl, by rw [bcp_0]⟩ ?_ ?_ ?_
  · rintro k env st hk ⟨rfl, rfl⟩
    exact ⟨rfl, fun K h => h⟩
  · rintro k env st - hkn ⟨rfl, rfl⟩ Kx hx
    have e1 : o2 f_imul 10 (a : Int) = 10 * (a : Int) := oM (by omega) (by omega)
    have e2 : o2 f_imul 10 (b : Int) = 10 * (b : Int) := oM (by omega) (by omega)
    have e3 : o2 f_iadd (10 * (a : Int)) (k : Int) = 10 * (a : Int) + k := oA (by omega) (by omega)
    have e4 : o2 f_iadd (10 * (b : Int)) (k : Int) = 10 * (b : Int) + k := oA (by omega) (by omega)
    have e5 : (10 * (a : Int) + k).toNat = 10 * a + k := by omega
    have e6 : (10 * (b : Int) + k).toNat = 10 * b + k := by omega
    have e7 : ∀ x, bcp I [72] 10 a b k x (10 * a + k) = I x (10 * a + k) := fun x => by rw [bcp, if_neg (by omega)]
    simp [-Int.not_le, -Int.not_lt, bodyOf, envOf, exA, catV, rkOK, e_ci, e_lv, l_lv, r_lv, r_null, e_fld, r_fld, e_ald, z_ald, r_ald, e_len, e_op, e_dv, l_op, l_dv, l_sh, e_lcmp, e_l2i, e_min, c_b, c_not, c_and, c_or, c_null, c_eq, c_ne, c_lt, c_ge, c_gt, c_le, e_cond, x_tern, a_nil, a_I, a_L, a_R, g_callV, e_callV, r_callV, e_callS, s_skip, s_seq, s_st, s_stL, s_stR, s_inc, s_put, s_putZ, s_putR, s_putop, s_ast, s_zast, s_rast, s_astop, s_callV, s_popV, s_if, s_ite, s_itr, s_brk, s_retI, s_retR, s_ret, s_sw, noL, stI, stR, mR_0 F, mR_1 F, mR_2 F, mR_3 F, mR_4 F, mR_5 F, mR_6 F, mR_7 F, mR_8 F, mR_9 F, mR_10 F, mR_11 F, mR_12 F, mR_13 F, mR_15 F, mR_17 F, mR_25 F, mR_26 F, mR_27 F, mR_28 F, mR_29 F, mR_30 F, mR_35 F, mR_36 F, mR_37 F, mR_38 F, mR_40 F, mR_41 F, mR_42 F, mR_43 F, mR_44 F, mR_45 F, mR_46 F, mR_47 F, mK_63 F, mK_64 F, mK_65 F, mK_66 F, mK_67 F, mK_68 F, mK_69 F, mK_70 F, mK_71 F, mK_72 F, mK_73 F, mK_74 F, mK_75 F, mK_76 F, mK_77 F, mK_78 F, mK_79 F, mK_80 F, mK_81 F, mK_82 F, mK_83 F, mK_84 F, mK_85 F, mK_86 F, mK_87 F, mK_88 F, mK_89 F, mK_90 F, mK_91 F, mK_92 F, mK_93 F, mK_94 F, mK_95 F, mK_96 F, mK_97 F, e1, e2, e3, e4, e5, e6, e7, upI]
    refine ⟨by omega, by omega, by omega, by omega, ?_⟩
    refine hx _ _ rfl rfl ⟨rfl, ?_⟩
    refine congrArg (fun z => (kd, z, R)) ?_
    funext x j
    simp only [upI, bcp, List.mem_cons, List.not_mem_nil, or_false]
    repeat' split
    all_goals first | rfl | omega | (simp_all; done) | (simp_all; omega) | (congr 1; omega)
  · rintro env st ⟨rfl, rfl⟩
    exact hk
set_option maxHeartbeats 2000000 in
theorem X9_copies_3 {kd : List (Nat × Nat)} {R : Nat → Nat → Option Nat} (F : isMod kd R) {I : Nat → Nat → Int} {a b : Nat} (ha : a < 22) (hb : b < 22) {Kn Kb : XE → XS → Prop} {Kr : AV → XS → Prop} (hk : Kn [vR (some 63), vI a, vI b, vI 8] (kd, bcp I [73, 74] 8 a b 8, R)) :
    lp_X9_copies_3 Kn Kb Kr [vR (some 63), vI a, vI b, vI 0] (kd, I, R) := by
  unfold lp_X9_copies_3
  refine forUp (lo := 0) (n := 8) (fun k env st => env = [vR (some 63), vI a, vI b, vI (k : Int)] ∧ st = (kd, bcp I [73, 74] 8 a b k, R)) (by decide) (by decide) ⟨rfl, by rw [bcp_0]⟩ ?_ ?_ ?_
  · rintro k env st hk ⟨rfl, rfl⟩
    exact ⟨rfl, fun K h => h⟩
  · rintro k env st - hkn ⟨rfl, rfl⟩ Kx hx
    have e1 : o2 f_imul 8 (a : Int) = 8 * (a : Int) := oM (by omega) (by omega)
    have e2 : o2 f_imul 8 (b : Int) = 8 * (b : Int) := oM (by omega) (by omega)
    have e3 : o2 f_iadd (8 * (a : Int)) (k : Int) = 8 * (a : Int) + k := oA (by omega) (by omega)
    have e4 : o2 f_iadd (8 * (b : Int)) (k : Int) = 8 * (b : Int) + k := oA (by omega) (by omega)
    have e5 : (8 * (a : Int) + k).toNat = 8 * a + k := by omega
    have e6 : (8 * (b : Int) + k).toNat = 8 * b + k := by omega
    have e7 : ∀ x, bcp I [73, 74] 8 a b k x (8 * a + k) = I x (8 * a + k) := fun x => by rw [bcp, if_neg (by omega)]
    simp [-Int.not_le, -Int.not_lt, bodyOf, envOf, exA, catV, rkOK, e_ci, e_lv, l_lv, r_lv, r_null, e_fld, r_fld, e_ald, z_ald, r_ald, e_len, e_op, e_dv, l_op, l_dv, l_sh, e_lcmp, e_l2i, e_min, c_b, c_not, c_and, c_or, c_null, c_eq, c_ne, c_lt, c_ge, c_gt, c_le, e_cond, x_tern, a_nil, a_I, a_L, a_R, g_callV, e_callV, r_callV, e_callS, s_skip, s_seq, s_st, s_stL, s_stR, s_inc, s_put, s_putZ, s_putR, s_putop, s_ast, s_zast, s_rast, s_astop, s_callV, s_popV, s_if, s_ite, s_itr, s_brk, s_retI, s_retR, s_ret, s_sw, noL, stI, stR, mR_0 F, mR_1 F, mR_2 F, mR_3 F, mR_4 F, mR_5 F, mR_6 F, mR_7 F, mR_8 F, mR_9 F, mR_10 F, mR_11 F, mR_12 F, mR_13 F, mR_15 F, mR_17 F, mR_25 F, mR_26 F, mR_27 F, mR_28 F, mR_29 F, mR_30 F, mR_35 F, mR_36 F, mR_37 F, mR_38 F, mR_40 F, mR_41 F, mR_42 F, mR_43 F, mR_44 F, mR_45 F, mR_46 F, mR_47 F, mK_63 F, mK_64 F, mK_65 F, mK_66 F, mK_67 F, mK_68 F, mK_69 F, mK_70 F, mK_71 F, mK_72 F, mK_73 F, mK_74 F, mK_75 F, mK_76 F, mK_77 F, mK_78 F, mK_79 F, mK_80 F, mK_81 F, mK_82 F, mK_83 F, mK_84 F, mK_85 F, mK_86 F, mK_87 F, mK_88 F, mK_89 F, mK_90 F, mK_91 F, mK_92 F, mK_93 F, mK_94 F, mK_95 F, mK_96 F, mK_97 F, e1, e2, e3, e4, e5, e6, e7, upI]
    refine ⟨by omega, by omega, by omega, by omega, by omega, by omega, by omega, by omega, ?_⟩
    refine hx _ _ rfl rfl ⟨rfl, ?_⟩
    refine congrArg (fun z => (kd, z, R)) ?_
    funext x j
    simp only [upI, bcp, List.mem_cons, List.not_mem_nil, or_false]
    repeat' split
    all_goals first | rfl | omega | (simp_all; done) | (simp_all; omega) | (congr 1; omega)
  · rintro env st ⟨rfl, rfl⟩
    exact hk
set_option maxHeartbeats 2000000 in
theorem X9_copies_4 {kd : List (Nat × Nat)} {R : Nat → Nat → Option Nat} (F : isMod kd R) {I : Nat → Nat → Int} {a b : Nat} (ha : a < 22) (hb : b < 22) {Kn Kb : XE → XS → Prop} {Kr : AV → XS → Prop} (hk : Kn [vR (some 63), vI a, vI b, vI 48] (kd, bcp I [75] 48 a b 48, R)) :
    lp_X9_copies_4 Kn Kb Kr [vR (some 63), vI a, vI b, vI 0] (kd, I, R) := by
  unfold lp_X9_copies_4
  refine forUp (lo := 0) (n := 48) (fun k env st => env = [vR (some 63), vI a, vI b, vI (k : Int)] ∧ st = (kd, bcp I [75] 48 a b k, R)) (by decide) (by decide) ⟨rfl, by rw [bcp_0]⟩ ?_ ?_ ?_
  · rintro k env st hk ⟨rfl, rfl⟩
    exact ⟨rfl, fun K h => h⟩
  · rintro k env st - hkn ⟨rfl, rfl⟩ Kx hx
    have e1 : o2 f_imul 48 (a : Int) = 48 * (a : Int) := oM (by omega) (by omega)
    have e2 : o2 f_imul 48 (b : Int) = 48 * (b : Int) := oM (by omega) (by omega)
    have e3 : o2 f_iadd (48 * (a : Int)) (k : Int) = 48 * (a : Int) + k := oA (by omega) (by omega)
    have e4 : o2 f_iadd (48 * (b : Int)) (k : Int) = 48 * (b : Int) + k := oA (by omega) (by omega)
    have e5 : (48 * (a : Int) + k).toNat = 48 * a + k := by omega
    have e6 : (48 * (b : Int) + k).toNat = 48 * b + k := by omega
    have e7 : ∀ x, bcp I [75] 48 a b k x (48 * a + k) = I x (48 * a + k) := fun x => by rw [bcp, if_neg (by omega)]
    simp [-Int.not_le, -Int.not_lt, bodyOf, envOf, exA, catV, rkOK, e_ci, e_lv, l_lv, r_lv, r_null, e_fld, r_fld, e_ald, z_ald, r_ald, e_len, e_op, e_dv, l_op, l_dv, l_sh, e_lcmp, e_l2i, e_min, c_b, c_not, c_and, c_or, c_null, c_eq, c_ne, c_lt, c_ge, c_gt, c_le, e_cond, x_tern, a_nil, a_I, a_L, a_R, g_callV, e_callV, r_callV, e_callS, s_skip, s_seq, s_st, s_stL, s_stR, s_inc, s_put, s_putZ, s_putR, s_putop, s_ast, s_zast, s_rast, s_astop, s_callV, s_popV, s_if, s_ite, s_itr, s_brk, s_retI, s_retR, s_ret, s_sw, noL, stI, stR, mR_0 F, mR_1 F, mR_2 F, mR_3 F, mR_4 F, mR_5 F, mR_6 F, mR_7 F, mR_8 F, mR_9 F, mR_10 F, mR_11 F, mR_12 F, mR_13 F, mR_15 F, mR_17 F, mR_25 F, mR_26 F, mR_27 F, mR_28 F, mR_29 F, mR_30 F, mR_35 F, mR_36 F, mR_37 F, mR_38 F, mR_40 F, mR_41 F, mR_42 F, mR_43 F, mR_44 F, mR_45 F, mR_46 F, mR_47 F, mK_63 F, mK_64 F, mK_65 F, mK_66 F, mK_67 F, mK_68 F, mK_69 F, mK_70 F, mK_71 F, mK_72 F, mK_73 F, mK_74 F, mK_75 F, mK_76 F, mK_77 F, mK_78 F, mK_79 F, mK_80 F, mK_81 F, mK_82 F, mK_83 F, mK_84 F, mK_85 F, mK_86 F, mK_87 F, mK_88 F, mK_89 F, mK_90 F, mK_91 F, mK_92 F, mK_93 F, mK_94 F, mK_95 F, mK_96 F, mK_97 F, e1, e2, e3, e4, e5, e6, e7, upI]
    refine ⟨by omega, by omega, by omega, by omega, ?_⟩
    refine hx _ _ rfl rfl ⟨rfl, ?_⟩
    refine congrArg (fun z => (kd, z, R)) ?_
    funext x j
    simp only [upI, bcp, List.mem_cons, List.not_mem_nil, or_false]
    repeat' split
    all_goals first | rfl | omega | (simp_all; done) | (simp_all; omega) | (congr 1; omega)
  · rintro env st ⟨rfl, rfl⟩
    exact hk
set_option maxHeartbeats 2000000 in
theorem X9_copies_5 {kd : List (Nat × Nat)} {R : Nat → Nat → Option Nat} (F : isMod kd R) {I : Nat → Nat → Int} {a b : Nat} (ha : a < 22) (hb : b < 22) {Kn Kb : XE → XS → Prop} {Kr : AV → XS → Prop} (hk : Kn [vR (some 63), vI a, vI b, vI 100] (kd, bcp I [76] 100 a b 100, R)) :
    lp_X9_copies_5 Kn Kb Kr [vR (some 63), vI a, vI b, vI 0] (kd, I, R) := by
  unfold lp_X9_copies_5
  refine forUp (lo := 0) (n := 100) (fun k env st => env = [vR (some 63), vI a, vI b, vI (k : Int)] ∧ st = (kd, bcp I [76] 100 a b k, R)) (by decide) (by decide) ⟨rfl, by rw [bcp_0]⟩ ?_ ?_ ?_
  · rintro k env st hk ⟨rfl, rfl⟩
    exact ⟨rfl, fun K h => h⟩
  · rintro k env st - hkn ⟨rfl, rfl⟩ Kx hx
    have e1 : o2 f_imul 100 (a : Int) = 100 * (a : Int) := oM (by omega) (by omega)
    have e2 : o2 f_imul 100 (b : Int) = 100 * (b : Int) := oM (by omega) (by omega)
    have e3 : o2 f_iadd (100 * (a : Int)) (k : Int) = 100 * (a : Int) + k := oA (by omega) (by omega)
    have e4 : o2 f_iadd (100 * (b : Int)) (k : Int) = 100 * (b : Int) + k := oA (by omega) (by omega)
    have e5 : (100 * (a : Int) + k).toNat = 100 * a + k := by omega
    have e6 : (100 * (b : Int) + k).toNat = 100 * b + k := by omega
    have e7 : ∀ x, bcp I [76] 100 a b k x (100 * a + k) = I x (100 * a + k) := fun x => by rw [bcp, if_neg (by omega)]
    simp [-Int.not_le, -Int.not_lt, bodyOf, envOf, exA, catV, rkOK, e_ci, e_lv, l_lv, r_lv, r_null, e_fld, r_fld, e_ald, z_ald, r_ald, e_len, e_op, e_dv, l_op, l_dv, l_sh, e_lcmp, e_l2i, e_min, c_b, c_not, c_and, c_or, c_null, c_eq, c_ne, c_lt, c_ge, c_gt, c_le, e_cond, x_tern, a_nil, a_I, a_L, a_R, g_callV, e_callV, r_callV, e_callS, s_skip, s_seq, s_st, s_stL, s_stR, s_inc, s_put, s_putZ, s_putR, s_putop, s_ast, s_zast, s_rast, s_astop, s_callV, s_popV, s_if, s_ite, s_itr, s_brk, s_retI, s_retR, s_ret, s_sw, noL, stI, stR, mR_0 F, mR_1 F, mR_2 F, mR_3 F, mR_4 F, mR_5 F, mR_6 F, mR_7 F, mR_8 F, mR_9 F, mR_10 F, mR_11 F, mR_12 F, mR_13 F, mR_15 F, mR_17 F, mR_25 F, mR_26 F, mR_27 F, mR_28 F, mR_29 F, mR_30 F, mR_35 F, mR_36 F, mR_37 F, mR_38 F, mR_40 F, mR_41 F, mR_42 F, mR_43 F, mR_44 F, mR_45 F, mR_46 F, mR_47 F, mK_63 F, mK_64 F, mK_65 F, mK_66 F, mK_67 F, mK_68 F, mK_69 F, mK_70 F, mK_71 F, mK_72 F, mK_73 F, mK_74 F, mK_75 F, mK_76 F, mK_77 F, mK_78 F, mK_79 F, mK_80 F, mK_81 F, mK_82 F, mK_83 F, mK_84 F, mK_85 F, mK_86 F, mK_87 F, mK_88 F, mK_89 F, mK_90 F, mK_91 F, mK_92 F, mK_93 F, mK_94 F, mK_95 F, mK_96 F, mK_97 F, e1, e2, e3, e4, e5, e6, e7, upI]
    refine ⟨by omega, by omega, by omega, by omega, ?_⟩
    refine hx _ _ rfl rfl ⟨rfl, ?_⟩
    refine congrArg (fun z => (kd, z, R)) ?_
    funext x j
    simp only [upI, bcp, List.mem_cons, List.not_mem_nil, or_false]
    repeat' split
    all_goals first | rfl | omega | (simp_all; done) | (simp_all; omega) | (congr 1; omega)
  · rintro env st ⟨rfl, rfl⟩
    exact hk
