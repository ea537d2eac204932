/-! the reference's choice -/
section MC
variable {kd : List (Nat × Nat)} {R : Nat → Nat → Option Nat} {I : Nat → Nat → Int} {K : AV → XS → Prop}
theorem cst_S (c : Nat → Int) (m x s : Nat) : cst c (m + 1) x s = cst c m x s + (if s.testBit m = true then c (10 * x + m) else 0) := rfl
set_option maxHeartbeats 4000000 in
theorem X9_costs_0 (F : isMod kd R) {c : Nat → Int} {n x s : Nat} (hn : n ≤ 10) (h64 : I 64 0 = (n : Int)) (he : ∀ j, j < 100 → I 87 j = c j) (hc : ∀ j, 0 ≤ c j ∧ c j ≤ 24552) (hx9 : x < n) (hs : s < 1024) {a3 : Int} (e_a3 : vI a3 = vI (cst c (0) x s)) {Kn Kb : XE → XS → Prop} {Kr : AV → XS → Prop} 
    (hkk : Kn [vR (some 63), vI x, vI s, vI (cst c (n) x s), vI ((n : Nat) : Int)] (kd, I, R)) : lp_X9_costs_0 Kn Kb Kr [vR (some 63), vI x, vI s, vI a3, vI 0] (kd, I, R) := by
  unfold lp_X9_costs_0
  refine forUp (lo := 0) (n := n) (fun q env st => env = [vR (some 63), vI x, vI s, vI (cst c (q) x s), vI (q : Int)] ∧ st = (kd, I, R)) (by omega) (by omega) ⟨by first | (rw [e_a3]; done) | (rw [e_a3]; rfl), rfl⟩ ?_ ?_ ?_
  · rintro q env st hle ⟨rfl, rfl⟩
    first | exact ⟨rfl, fun K h => h⟩ | exact ⟨rfl, fun K h => ⟨_, rfl, h⟩⟩ | (refine ⟨rfl, fun K h => ?_⟩; simp (disch := omega) [-Int.not_le, -Int.not_lt, ↓e_ci_p, ↓e_lv_p, ↓l_lv_p, ↓r_lv_p, ↓r_null_p, ↓e_fld_p, ↓r_fld_p, ↓e_ald_p, ↓z_ald_p, ↓r_ald_p, ↓e_len_p, ↓e_op_p, ↓e_dv_p, ↓l_op_p, ↓l_dv_p, ↓l_sh_p, ↓e_lcmp_p, ↓e_l2i_p, ↓e_min_p, ↓c_b_p, ↓c_not_p, ↓c_and_p, ↓c_or_p, ↓c_null_p, ↓c_eq_p, ↓c_ne_p, ↓c_lt_p, ↓c_ge_p, ↓c_gt_p, ↓c_le_p, ↓e_cond_p, ↓x_tern_p, ↓a_nil_p, ↓a_I_p, ↓a_L_p, ↓a_R_p, ↓e_callV_p, ↓r_callV_p, ↓e_callS_p, ↓s_skip_p, ↓s_seq_p, ↓s_st_p, ↓s_stL_p, ↓s_stR_p, ↓s_inc_p, ↓s_put_p, ↓s_putZ_p, ↓s_putR_p, ↓s_putop_p, ↓s_ast_p, ↓s_zast_p, ↓s_rast_p, ↓s_astop_p, ↓s_callV_p, ↓s_popV_p, ↓s_if_p, ↓s_ite_p, ↓s_itr_p, ↓s_brk_p, ↓s_retI_p, ↓s_retR_p, ↓s_ret_p, ↓s_sw_p, isI_s, isI_z, isL_s, isL_z, isR_s, isR_z, gI_s, gI_z, gL_z, gR_s, gR_z, gA_s, isA_s, bdo_s, arOK_s, isVI_I, isVR_R, vInt_I, vInt_L, vRef_R, lenOf_s, lnOK_s, rHd_c, isHd_c, noL_z, noL_1, noL_s, nl_I, nl_R, nl_U, stI, stR, bd_t, oA, oS, oM, oD, oR, tn_add, tn_mul, tn_nat, eqb_t, eqb_f, ltb_t, ltb_f, leb_t, leb_f, nob_s, nob_n, nat_eq, nat_lt, nat_le, mR_0 F, mR_1 F, mR_2 F, mR_3 F, mR_4 F, mR_5 F, mR_6 F, mR_7 F, mR_8 F, mR_9 F, mR_10 F, mR_11 F, mR_12 F, mR_13 F, mR_15 F, mR_17 F, mR_25 F, mR_26 F, mR_27 F, mR_28 F, mR_29 F, mR_30 F, mR_35 F, mR_36 F, mR_37 F, mR_38 F, mR_40 F, mR_41 F, mR_42 F, mR_43 F, mR_44 F, mR_45 F, mR_46 F, mR_47 F, mK_63 F, mK_64 F, mK_65 F, mK_66 F, mK_67 F, mK_68 F, mK_69 F, mK_70 F, mK_71 F, mK_72 F, mK_73 F, mK_74 F, mK_75 F, mK_76 F, mK_77 F, mK_78 F, mK_79 F, mK_80 F, mK_81 F, mK_82 F, mK_83 F, mK_84 F, mK_85 F, mK_86 F, mK_87 F, mK_88 F, mK_89 F, mK_90 F, mK_91 F, mK_92 F, mK_93 F, mK_94 F, mK_95 F, mK_96 F, mK_97 F, h64]; first | exact h | simpa using h)
  · rintro q env st hlo hlt ⟨rfl, rfl⟩ Kx hx
    have fin : ∀ (b3 : Int) (S' : Nat → Nat → Int) , vI b3 = vI (cst c (q + 1) x s) → S' = I → Kx [vR (some 63), vI x, vI s, vI b3, vI (q : Int)] (kd, S', R) := by
      intro b3 S' q_a3 q_S
      subst q_S
      exact hx _ _ rfl (by simp [noL_z, noL_1, noL_s, nl_I, nl_R, nl_U]) ⟨by simp [q_a3], rfl⟩
    have hb := sumN_le (c := 24552) (n := q) (f := fun q => if s.testBit q = true then c (10 * x + q) else 0) (fun k _ => by have := hc (10 * x + k); split <;> omega)
    have hb' : 0 ≤ cst c q x s ∧ cst c q x s ≤ 24552 * q := hb
    have hcj := hc (10 * x + q)
    have hej := he (10 * x + q) (by omega)
    cases ht : s.testBit q <;> simp (disch := omega) [-Int.not_le, -Int.not_lt, ↓e_ci_p, ↓e_lv_p, ↓l_lv_p, ↓r_lv_p, ↓r_null_p, ↓e_fld_p, ↓r_fld_p, ↓e_ald_p, ↓z_ald_p, ↓r_ald_p, ↓e_len_p, ↓e_op_p, ↓e_dv_p, ↓l_op_p, ↓l_dv_p, ↓l_sh_p, ↓e_lcmp_p, ↓e_l2i_p, ↓e_min_p, ↓c_b_p, ↓c_not_p, ↓c_and_p, ↓c_or_p, ↓c_null_p, ↓c_eq_p, ↓c_ne_p, ↓c_lt_p, ↓c_ge_p, ↓c_gt_p, ↓c_le_p, ↓e_cond_p, ↓x_tern_p, ↓a_nil_p, ↓a_I_p, ↓a_L_p, ↓a_R_p, ↓e_callV_p, ↓r_callV_p, ↓e_callS_p, ↓s_skip_p, ↓s_seq_p, ↓s_st_p, ↓s_stL_p, ↓s_stR_p, ↓s_inc_p, ↓s_put_p, ↓s_putZ_p, ↓s_putR_p, ↓s_putop_p, ↓s_ast_p, ↓s_zast_p, ↓s_rast_p, ↓s_astop_p, ↓s_callV_p, ↓s_popV_p, ↓s_if_p, ↓s_ite_p, ↓s_itr_p, ↓s_brk_p, ↓s_retI_p, ↓s_retR_p, ↓s_ret_p, ↓s_sw_p, isI_s, isI_z, isL_s, isL_z, isR_s, isR_z, gI_s, gI_z, gL_z, gR_s, gR_z, gA_s, isA_s, bdo_s, arOK_s, isVI_I, isVR_R, vInt_I, vInt_L, vRef_R, lenOf_s, lnOK_s, rHd_c, isHd_c, noL_z, noL_1, noL_s, nl_I, nl_R, nl_U, stI, stR, bd_t, oA, oS, oM, oD, oR, tn_add, tn_mul, tn_nat, eqb_t, eqb_f, ltb_t, ltb_f, leb_t, leb_f, nob_s, nob_n, nat_eq, nat_lt, nat_le, mR_0 F, mR_1 F, mR_2 F, mR_3 F, mR_4 F, mR_5 F, mR_6 F, mR_7 F, mR_8 F, mR_9 F, mR_10 F, mR_11 F, mR_12 F, mR_13 F, mR_15 F, mR_17 F, mR_25 F, mR_26 F, mR_27 F, mR_28 F, mR_29 F, mR_30 F, mR_35 F, mR_36 F, mR_37 F, mR_38 F, mR_40 F, mR_41 F, mR_42 F, mR_43 F, mR_44 F, mR_45 F, mR_46 F, mR_47 F, mK_63 F, mK_64 F, mK_65 F, mK_66 F, mK_67 F, mK_68 F, mK_69 F, mK_70 F, mK_71 F, mK_72 F, mK_73 F, mK_74 F, mK_75 F, mK_76 F, mK_77 F, mK_78 F, mK_79 F, mK_80 F, mK_81 F, mK_82 F, mK_83 F, mK_84 F, mK_85 F, mK_86 F, mK_87 F, mK_88 F, mK_89 F, mK_90 F, mK_91 F, mK_92 F, mK_93 F, mK_94 F, mK_95 F, mK_96 F, mK_97 F, oBit, ht, hej] <;> exact fin _ _ (by rw [cst_S]; simp [ht]) rfl
  · rintro env st ⟨rfl, rfl⟩
    exact hkk
theorem X9_costs_ok (F : isMod kd R) {c : Nat → Int} {n x s : Nat} (hn : n ≤ 10) (h64 : I 64 0 = (n : Int)) (he : ∀ j, j < 100 → I 87 j = c j) (hc : ∀ j, 0 ≤ c j ∧ c j ≤ 24552) (hx9 : x < n) (hs : s < 1024) (hk : K (vI (cst c n x s)) (kd, I, R)) : B_X9_costs [vR (some 63), vI x, vI s] (kd, I, R) K := by
  simp [B_X9_costs, bodyOf, envOf, exA, catV, rkOK]
  simp (disch := omega) [t_X9_costs, -Int.not_le, -Int.not_lt, ↓e_ci_p, ↓e_lv_p, ↓l_lv_p, ↓r_lv_p, ↓r_null_p, ↓e_fld_p, ↓r_fld_p, ↓e_ald_p, ↓z_ald_p, ↓r_ald_p, ↓e_len_p, ↓e_op_p, ↓e_dv_p, ↓l_op_p, ↓l_dv_p, ↓l_sh_p, ↓e_lcmp_p, ↓e_l2i_p, ↓e_min_p, ↓c_b_p, ↓c_not_p, ↓c_and_p, ↓c_or_p, ↓c_null_p, ↓c_eq_p, ↓c_ne_p, ↓c_lt_p, ↓c_ge_p, ↓c_gt_p, ↓c_le_p, ↓e_cond_p, ↓x_tern_p, ↓a_nil_p, ↓a_I_p, ↓a_L_p, ↓a_R_p, ↓e_callV_p, ↓r_callV_p, ↓e_callS_p, ↓s_skip_p, ↓s_seq_p, ↓s_st_p, ↓s_stL_p, ↓s_stR_p, ↓s_inc_p, ↓s_put_p, ↓s_putZ_p, ↓s_putR_p, ↓s_putop_p, ↓s_ast_p, ↓s_zast_p, ↓s_rast_p, ↓s_astop_p, ↓s_callV_p, ↓s_popV_p, ↓s_if_p, ↓s_ite_p, ↓s_itr_p, ↓s_brk_p, ↓s_retI_p, ↓s_retR_p, ↓s_ret_p, ↓s_sw_p, isI_s, isI_z, isL_s, isL_z, isR_s, isR_z, gI_s, gI_z, gL_z, gR_s, gR_z, gA_s, isA_s, bdo_s, arOK_s, isVI_I, isVR_R, vInt_I, vInt_L, vRef_R, lenOf_s, lnOK_s, rHd_c, isHd_c, noL_z, noL_1, noL_s, nl_I, nl_R, nl_U, stI, stR, bd_t, oA, oS, oM, oD, oR, tn_add, tn_mul, tn_nat, eqb_t, eqb_f, ltb_t, ltb_f, leb_t, leb_f, nob_s, nob_n, nat_eq, nat_lt, nat_le, mR_0 F, mR_1 F, mR_2 F, mR_3 F, mR_4 F, mR_5 F, mR_6 F, mR_7 F, mR_8 F, mR_9 F, mR_10 F, mR_11 F, mR_12 F, mR_13 F, mR_15 F, mR_17 F, mR_25 F, mR_26 F, mR_27 F, mR_28 F, mR_29 F, mR_30 F, mR_35 F, mR_36 F, mR_37 F, mR_38 F, mR_40 F, mR_41 F, mR_42 F, mR_43 F, mR_44 F, mR_45 F, mR_46 F, mR_47 F, mK_63 F, mK_64 F, mK_65 F, mK_66 F, mK_67 F, mK_68 F, mK_69 F, mK_70 F, mK_71 F, mK_72 F, mK_73 F, mK_74 F, mK_75 F, mK_76 F, mK_77 F, mK_78 F, mK_79 F, mK_80 F, mK_81 F, mK_82 F, mK_83 F, mK_84 F, mK_85 F, mK_86 F, mK_87 F, mK_88 F, mK_89 F, mK_90 F, mK_91 F, mK_92 F, mK_93 F, mK_94 F, mK_95 F, mK_96 F, mK_97 F]
  refine X9_costs_0 F hn h64 he hc hx9 hs rfl ?_
  simp (disch := omega) [-Int.not_le, -Int.not_lt, ↓e_ci_p, ↓e_lv_p, ↓l_lv_p, ↓r_lv_p, ↓r_null_p, ↓e_fld_p, ↓r_fld_p, ↓e_ald_p, ↓z_ald_p, ↓r_ald_p, ↓e_len_p, ↓e_op_p, ↓e_dv_p, ↓l_op_p, ↓l_dv_p, ↓l_sh_p, ↓e_lcmp_p, ↓e_l2i_p, ↓e_min_p, ↓c_b_p, ↓c_not_p, ↓c_and_p, ↓c_or_p, ↓c_null_p, ↓c_eq_p, ↓c_ne_p, ↓c_lt_p, ↓c_ge_p, ↓c_gt_p, ↓c_le_p, ↓e_cond_p, ↓x_tern_p, ↓a_nil_p, ↓a_I_p, ↓a_L_p, ↓a_R_p, ↓e_callV_p, ↓r_callV_p, ↓e_callS_p, ↓s_skip_p, ↓s_seq_p, ↓s_st_p, ↓s_stL_p, ↓s_stR_p, ↓s_inc_p, ↓s_put_p, ↓s_putZ_p, ↓s_putR_p, ↓s_putop_p, ↓s_ast_p, ↓s_zast_p, ↓s_rast_p, ↓s_astop_p, ↓s_callV_p, ↓s_popV_p, ↓s_if_p, ↓s_ite_p, ↓s_itr_p, ↓s_brk_p, ↓s_retI_p, ↓s_retR_p, ↓s_ret_p, ↓s_sw_p, isI_s, isI_z, isL_s, isL_z, isR_s, isR_z, gI_s, gI_z, gL_z, gR_s, gR_z, gA_s, isA_s, bdo_s, arOK_s, isVI_I, isVR_R, vInt_I, vInt_L, vRef_R, lenOf_s, lnOK_s, rHd_c, isHd_c, noL_z, noL_1, noL_s, nl_I, nl_R, nl_U, stI, stR, bd_t, oA, oS, oM, oD, oR, tn_add, tn_mul, tn_nat, eqb_t, eqb_f, ltb_t, ltb_f, leb_t, leb_f, nob_s, nob_n, nat_eq, nat_lt, nat_le, mR_0 F, mR_1 F, mR_2 F, mR_3 F, mR_4 F, mR_5 F, mR_6 F, mR_7 F, mR_8 F, mR_9 F, mR_10 F, mR_11 F, mR_12 F, mR_13 F, mR_15 F, mR_17 F, mR_25 F, mR_26 F, mR_27 F, mR_28 F, mR_29 F, mR_30 F, mR_35 F, mR_36 F, mR_37 F, mR_38 F, mR_40 F, mR_41 F, mR_42 F, mR_43 F, mR_44 F, mR_45 F, mR_46 F, mR_47 F, mK_63 F, mK_64 F, mK_65 F, mK_66 F, mK_67 F, mK_68 F, mK_69 F, mK_70 F, mK_71 F, mK_72 F, mK_73 F, mK_74 F, mK_75 F, mK_76 F, mK_77 F, mK_78 F, mK_79 F, mK_80 F, mK_81 F, mK_82 F, mK_83 F, mK_84 F, mK_85 F, mK_86 F, mK_87 F, mK_88 F, mK_89 F, mK_90 F, mK_91 F, mK_92 F, mK_93 F, mK_94 F, mK_95 F, mK_96 F, mK_97 F]
  exact hk
/-- what the reference's row of the least ones wants -/
def CH (I : Nat → Nat → Int) (c : Nat → Int) (n : Nat) : Prop := n ≤ 10 ∧ I 64 0 = (n : Int) ∧ (∀ j, j < 100 → I 87 j = c j) ∧ (∀ j, 0 ≤ c j ∧ c j ≤ 24552) ∧ smc c n
theorem CH_row {I J : Nat → Nat → Int} {c : Nat → Int} {n : Nat} (h : CH I c n) (h1 : J 64 = I 64) (h2 : J 87 = I 87) : CH J c n := by
  obtain ⟨a, b, d, e, f⟩ := h
  exact ⟨a, by rw [h1]; exact b, fun j hj => by rw [h2]; exact d j hj, e, f⟩
theorem pow_1024 {n : Nat} (h : n ≤ 10) : 2 ^ n ≤ 1024 := Nat.pow_le_pow_right (n := 2) (by decide) h
/-- the row 90 from s on is laid -/
def lsF (J : Nat → Nat → Int) (c : Nat → Int) (n a : Nat) : Prop := ∀ s, a ≤ s → s < 2 ^ n → J 90 s = mv c n (J 90) s n
set_option maxHeartbeats 4000000 in
theorem X9_chooses_0 (F : isMod kd R) {c : Nat → Int} {n s : Nat} (hC : CH I c n) (hs : s < 2 ^ n) (hls : lsF I c n (s + 1)) {v1 : Int} {v4 : AV} (h_v4 : nl v4 = true) {S0 : Nat → Nat → Int} (e_S : S0 = upI I 90 s (mv c n (I 90) s (0))) {Kn Kb : XE → XS → Prop} {Kr : AV → XS → Prop} 
    (hkk : ∀ v4 : AV, nl v4 = true → Kn [vR (some 63), vI v1, vI s, vI ((n : Nat) : Int), v4] (kd, upI I 90 s (mv c n (I 90) s (n)), R)) : lp_X9_chooses_0 Kn Kb Kr [vR (some 63), vI v1, vI s, vI 0, v4] (kd, S0, R) := by
  unfold lp_X9_chooses_0
  have hn := hC.1
  have h1024 := pow_1024 hn
  refine forUp (lo := 0) (n := n) (fun x env st => ∃ v4 : AV, nl v4 = true ∧ env = [vR (some 63), vI v1, vI s, vI (x : Int), v4] ∧ st = (kd, upI I 90 s (mv c n (I 90) s (x)), R)) (by omega) (by omega) ⟨v4, h_v4, rfl, by first | (rw [e_S]; done) | (rw [e_S]; rfl)⟩ ?_ ?_ ?_
  · rintro x env st hle ⟨v4, h_v4, rfl, rfl⟩
    first | exact ⟨rfl, fun K h => h⟩ | exact ⟨rfl, fun K h => ⟨_, rfl, h⟩⟩ | (refine ⟨rfl, fun K h => ?_⟩; simp (disch := omega) [-Int.not_le, -Int.not_lt, ↓e_ci_p, ↓e_lv_p, ↓l_lv_p, ↓r_lv_p, ↓r_null_p, ↓e_fld_p, ↓r_fld_p, ↓e_ald_p, ↓z_ald_p, ↓r_ald_p, ↓e_len_p, ↓e_op_p, ↓e_dv_p, ↓l_op_p, ↓l_dv_p, ↓l_sh_p, ↓e_lcmp_p, ↓e_l2i_p, ↓e_min_p, ↓c_b_p, ↓c_not_p, ↓c_and_p, ↓c_or_p, ↓c_null_p, ↓c_eq_p, ↓c_ne_p, ↓c_lt_p, ↓c_ge_p, ↓c_gt_p, ↓c_le_p, ↓e_cond_p, ↓x_tern_p, ↓a_nil_p, ↓a_I_p, ↓a_L_p, ↓a_R_p, ↓e_callV_p, ↓r_callV_p, ↓e_callS_p, ↓s_skip_p, ↓s_seq_p, ↓s_st_p, ↓s_stL_p, ↓s_stR_p, ↓s_inc_p, ↓s_put_p, ↓s_putZ_p, ↓s_putR_p, ↓s_putop_p, ↓s_ast_p, ↓s_zast_p, ↓s_rast_p, ↓s_astop_p, ↓s_callV_p, ↓s_popV_p, ↓s_if_p, ↓s_ite_p, ↓s_itr_p, ↓s_brk_p, ↓s_retI_p, ↓s_retR_p, ↓s_ret_p, ↓s_sw_p, isI_s, isI_z, isL_s, isL_z, isR_s, isR_z, gI_s, gI_z, gL_z, gR_s, gR_z, gA_s, isA_s, bdo_s, arOK_s, isVI_I, isVR_R, vInt_I, vInt_L, vRef_R, lenOf_s, lnOK_s, rHd_c, isHd_c, noL_z, noL_1, noL_s, nl_I, nl_R, nl_U, stI, stR, bd_t, oA, oS, oM, oD, oR, tn_add, tn_mul, tn_nat, eqb_t, eqb_f, ltb_t, ltb_f, leb_t, leb_f, nob_s, nob_n, nat_eq, nat_lt, nat_le, mR_0 F, mR_1 F, mR_2 F, mR_3 F, mR_4 F, mR_5 F, mR_6 F, mR_7 F, mR_8 F, mR_9 F, mR_10 F, mR_11 F, mR_12 F, mR_13 F, mR_15 F, mR_17 F, mR_25 F, mR_26 F, mR_27 F, mR_28 F, mR_29 F, mR_30 F, mR_35 F, mR_36 F, mR_37 F, mR_38 F, mR_40 F, mR_41 F, mR_42 F, mR_43 F, mR_44 F, mR_45 F, mR_46 F, mR_47 F, mK_63 F, mK_64 F, mK_65 F, mK_66 F, mK_67 F, mK_68 F, mK_69 F, mK_70 F, mK_71 F, mK_72 F, mK_73 F, mK_74 F, mK_75 F, mK_76 F, mK_77 F, mK_78 F, mK_79 F, mK_80 F, mK_81 F, mK_82 F, mK_83 F, mK_84 F, mK_85 F, mK_86 F, mK_87 F, mK_88 F, mK_89 F, mK_90 F, mK_91 F, mK_92 F, mK_93 F, mK_94 F, mK_95 F, mK_96 F, mK_97 F, upI, hC.2.1]; first | exact h | simpa using h)
  · rintro x env st hlo hlt ⟨v4, h_v4, rfl, rfl⟩ Kx hx
    have fin : ∀ (S' : Nat → Nat → Int) (v4' : AV) , S' = upI I 90 s (mv c n (I 90) s (x + 1)) → nl v4' = true → Kx [vR (some 63), vI v1, vI s, vI (x : Int), v4'] (kd, S', R) := by
      intro S' v4' q_S q_v4
      subst q_S
      exact hx _ _ rfl (by simp [noL_z, noL_1, noL_s, nl_I, nl_R, nl_U, q_v4, h_v4]) ⟨v4', q_v4, rfl, rfl⟩
    have hM : ∀ x, x < n → s.testBit x = false → 0 ≤ I 90 (s ||| 2 ^ x) ∧ I 90 (s ||| 2 ^ x) ≤ 245520 := by
      intro x hx hb
      have h3 := or_gt hb
      have h4 := or_lt hs hx
      have := Ls_rng hC.2.2.2.2 hls (2 ^ n) (s ||| 2 ^ x) (by omega) h4 (by omega)
      have h5 := cb_rng (s ||| 2 ^ x) n
      omega
    obtain ⟨a1, a2, a3, a4⟩ := mv_rng hC.2.2.2.2 (f := I 90) (s := s) (M := 245520) (by decide) hM (show x ≤ n by omega)
    have hmv : mv c n (I 90) s (x + 1) = if s.testBit x = true then mv c n (I 90) s x else if mv c n (I 90) s x = -1 ∨ cst c n x s + I 90 (s ||| 2 ^ x) < mv c n (I 90) s x then cst c n x s + I 90 (s ||| 2 ^ x) else mv c n (I 90) s x := rfl
    generalize hm : mv c n (I 90) s x = m at *
    have u1 : upI I 90 s m 90 s = m := by simp [upI]
    have fs : ∀ z, z = mv c n (I 90) s (x + 1) → upI (upI I 90 s m) 90 s z = upI I 90 s (mv c n (I 90) s (x + 1)) := by
      intro z hz
      funext a b
      simp only [upI]
      split
      · rw [hz]
      · rfl
    cases ht : s.testBit x
    · have hMx := hM x hlt ht
      have hg := or_gt ht
      have hl := or_lt hs hlt
      have hcs := cst_rng hC.2.2.2.2 hlt s
      have u2 : upI I 90 s m 90 (s ||| 2 ^ x) = I 90 (s ||| 2 ^ x) := by simp only [upI]; rw [if_neg (by omega)]
      have u3 : (if (s ||| 2 ^ x) = s then m else I 90 (s ||| 2 ^ x)) = I 90 (s ||| 2 ^ x) := if_neg (by omega)
      simp (disch := omega) [-Int.not_le, -Int.not_lt, ↓e_ci_p, ↓e_lv_p, ↓l_lv_p, ↓r_lv_p, ↓r_null_p, ↓e_fld_p, ↓r_fld_p, ↓e_ald_p, ↓z_ald_p, ↓r_ald_p, ↓e_len_p, ↓e_op_p, ↓e_dv_p, ↓l_op_p, ↓l_dv_p, ↓l_sh_p, ↓e_lcmp_p, ↓e_l2i_p, ↓e_min_p, ↓c_b_p, ↓c_not_p, ↓c_and_p, ↓c_or_p, ↓c_null_p, ↓c_eq_p, ↓c_ne_p, ↓c_lt_p, ↓c_ge_p, ↓c_gt_p, ↓c_le_p, ↓e_cond_p, ↓x_tern_p, ↓a_nil_p, ↓a_I_p, ↓a_L_p, ↓a_R_p, ↓e_callV_p, ↓r_callV_p, ↓e_callS_p, ↓s_skip_p, ↓s_seq_p, ↓s_st_p, ↓s_stL_p, ↓s_stR_p, ↓s_inc_p, ↓s_put_p, ↓s_putZ_p, ↓s_putR_p, ↓s_putop_p, ↓s_ast_p, ↓s_zast_p, ↓s_rast_p, ↓s_astop_p, ↓s_callV_p, ↓s_popV_p, ↓s_if_p, ↓s_ite_p, ↓s_itr_p, ↓s_brk_p, ↓s_retI_p, ↓s_retR_p, ↓s_ret_p, ↓s_sw_p, isI_s, isI_z, isL_s, isL_z, isR_s, isR_z, gI_s, gI_z, gL_z, gR_s, gR_z, gA_s, isA_s, bdo_s, arOK_s, isVI_I, isVR_R, vInt_I, vInt_L, vRef_R, lenOf_s, lnOK_s, rHd_c, isHd_c, noL_z, noL_1, noL_s, nl_I, nl_R, nl_U, stI, stR, bd_t, oA, oS, oM, oD, oR, tn_add, tn_mul, tn_nat, eqb_t, eqb_f, ltb_t, ltb_f, leb_t, leb_f, nob_s, nob_n, nat_eq, nat_lt, nat_le, mR_0 F, mR_1 F, mR_2 F, mR_3 F, mR_4 F, mR_5 F, mR_6 F, mR_7 F, mR_8 F, mR_9 F, mR_10 F, mR_11 F, mR_12 F, mR_13 F, mR_15 F, mR_17 F, mR_25 F, mR_26 F, mR_27 F, mR_28 F, mR_29 F, mR_30 F, mR_35 F, mR_36 F, mR_37 F, mR_38 F, mR_40 F, mR_41 F, mR_42 F, mR_43 F, mR_44 F, mR_45 F, mR_46 F, mR_47 F, mK_63 F, mK_64 F, mK_65 F, mK_66 F, mK_67 F, mK_68 F, mK_69 F, mK_70 F, mK_71 F, mK_72 F, mK_73 F, mK_74 F, mK_75 F, mK_76 F, mK_77 F, mK_78 F, mK_79 F, mK_80 F, mK_81 F, mK_82 F, mK_83 F, mK_84 F, mK_85 F, mK_86 F, mK_87 F, mK_88 F, mK_89 F, mK_90 F, mK_91 F, mK_92 F, mK_93 F, mK_94 F, mK_95 F, mK_96 F, mK_97 F, h_v4, oBit, oOrS, ht]
      refine X9_costs_ok F hn (c := c) (by simp [upI]; exact hC.2.1) (fun j hj => by simp [upI]; exact hC.2.2.1 j hj) hC.2.2.2.1 hlt (by omega) ?_
      by_cases c1 : m = -1
      · subst c1
        simp (disch := omega) [-Int.not_le, -Int.not_lt, ↓e_ci_p, ↓e_lv_p, ↓l_lv_p, ↓r_lv_p, ↓r_null_p, ↓e_fld_p, ↓r_fld_p, ↓e_ald_p, ↓z_ald_p, ↓r_ald_p, ↓e_len_p, ↓e_op_p, ↓e_dv_p, ↓l_op_p, ↓l_dv_p, ↓l_sh_p, ↓e_lcmp_p, ↓e_l2i_p, ↓e_min_p, ↓c_b_p, ↓c_not_p, ↓c_and_p, ↓c_or_p, ↓c_null_p, ↓c_eq_p, ↓c_ne_p, ↓c_lt_p, ↓c_ge_p, ↓c_gt_p, ↓c_le_p, ↓e_cond_p, ↓x_tern_p, ↓a_nil_p, ↓a_I_p, ↓a_L_p, ↓a_R_p, ↓e_callV_p, ↓r_callV_p, ↓e_callS_p, ↓s_skip_p, ↓s_seq_p, ↓s_st_p, ↓s_stL_p, ↓s_stR_p, ↓s_inc_p, ↓s_put_p, ↓s_putZ_p, ↓s_putR_p, ↓s_putop_p, ↓s_ast_p, ↓s_zast_p, ↓s_rast_p, ↓s_astop_p, ↓s_callV_p, ↓s_popV_p, ↓s_if_p, ↓s_ite_p, ↓s_itr_p, ↓s_brk_p, ↓s_retI_p, ↓s_retR_p, ↓s_ret_p, ↓s_sw_p, isI_s, isI_z, isL_s, isL_z, isR_s, isR_z, gI_s, gI_z, gL_z, gR_s, gR_z, gA_s, isA_s, bdo_s, arOK_s, isVI_I, isVR_R, vInt_I, vInt_L, vRef_R, lenOf_s, lnOK_s, rHd_c, isHd_c, noL_z, noL_1, noL_s, nl_I, nl_R, nl_U, stI, stR, bd_t, oA, oS, oM, oD, oR, tn_add, tn_mul, tn_nat, eqb_t, eqb_f, ltb_t, ltb_f, leb_t, leb_f, nob_s, nob_n, nat_eq, nat_lt, nat_le, mR_0 F, mR_1 F, mR_2 F, mR_3 F, mR_4 F, mR_5 F, mR_6 F, mR_7 F, mR_8 F, mR_9 F, mR_10 F, mR_11 F, mR_12 F, mR_13 F, mR_15 F, mR_17 F, mR_25 F, mR_26 F, mR_27 F, mR_28 F, mR_29 F, mR_30 F, mR_35 F, mR_36 F, mR_37 F, mR_38 F, mR_40 F, mR_41 F, mR_42 F, mR_43 F, mR_44 F, mR_45 F, mR_46 F, mR_47 F, mK_63 F, mK_64 F, mK_65 F, mK_66 F, mK_67 F, mK_68 F, mK_69 F, mK_70 F, mK_71 F, mK_72 F, mK_73 F, mK_74 F, mK_75 F, mK_76 F, mK_77 F, mK_78 F, mK_79 F, mK_80 F, mK_81 F, mK_82 F, mK_83 F, mK_84 F, mK_85 F, mK_86 F, mK_87 F, mK_88 F, mK_89 F, mK_90 F, mK_91 F, mK_92 F, mK_93 F, mK_94 F, mK_95 F, mK_96 F, mK_97 F, h_v4, oOrS, u1, u2]
        exact fin _ _ (fs _ (by rw [hmv, ht]; simp)) rfl
      · by_cases c2 : cst c n x s + I 90 (s ||| 2 ^ x) < m
        · simp (disch := omega) [-Int.not_le, -Int.not_lt, ↓e_ci_p, ↓e_lv_p, ↓l_lv_p, ↓r_lv_p, ↓r_null_p, ↓e_fld_p, ↓r_fld_p, ↓e_ald_p, ↓z_ald_p, ↓r_ald_p, ↓e_len_p, ↓e_op_p, ↓e_dv_p, ↓l_op_p, ↓l_dv_p, ↓l_sh_p, ↓e_lcmp_p, ↓e_l2i_p, ↓e_min_p, ↓c_b_p, ↓c_not_p, ↓c_and_p, ↓c_or_p, ↓c_null_p, ↓c_eq_p, ↓c_ne_p, ↓c_lt_p, ↓c_ge_p, ↓c_gt_p, ↓c_le_p, ↓e_cond_p, ↓x_tern_p, ↓a_nil_p, ↓a_I_p, ↓a_L_p, ↓a_R_p, ↓e_callV_p, ↓r_callV_p, ↓e_callS_p, ↓s_skip_p, ↓s_seq_p, ↓s_st_p, ↓s_stL_p, ↓s_stR_p, ↓s_inc_p, ↓s_put_p, ↓s_putZ_p, ↓s_putR_p, ↓s_putop_p, ↓s_ast_p, ↓s_zast_p, ↓s_rast_p, ↓s_astop_p, ↓s_callV_p, ↓s_popV_p, ↓s_if_p, ↓s_ite_p, ↓s_itr_p, ↓s_brk_p, ↓s_retI_p, ↓s_retR_p, ↓s_ret_p, ↓s_sw_p, isI_s, isI_z, isL_s, isL_z, isR_s, isR_z, gI_s, gI_z, gL_z, gR_s, gR_z, gA_s, isA_s, bdo_s, arOK_s, isVI_I, isVR_R, vInt_I, vInt_L, vRef_R, lenOf_s, lnOK_s, rHd_c, isHd_c, noL_z, noL_1, noL_s, nl_I, nl_R, nl_U, stI, stR, bd_t, oA, oS, oM, oD, oR, tn_add, tn_mul, tn_nat, eqb_t, eqb_f, ltb_t, ltb_f, leb_t, leb_f, nob_s, nob_n, nat_eq, nat_lt, nat_le, mR_0 F, mR_1 F, mR_2 F, mR_3 F, mR_4 F, mR_5 F, mR_6 F, mR_7 F, mR_8 F, mR_9 F, mR_10 F, mR_11 F, mR_12 F, mR_13 F, mR_15 F, mR_17 F, mR_25 F, mR_26 F, mR_27 F, mR_28 F, mR_29 F, mR_30 F, mR_35 F, mR_36 F, mR_37 F, mR_38 F, mR_40 F, mR_41 F, mR_42 F, mR_43 F, mR_44 F, mR_45 F, mR_46 F, mR_47 F, mK_63 F, mK_64 F, mK_65 F, mK_66 F, mK_67 F, mK_68 F, mK_69 F, mK_70 F, mK_71 F, mK_72 F, mK_73 F, mK_74 F, mK_75 F, mK_76 F, mK_77 F, mK_78 F, mK_79 F, mK_80 F, mK_81 F, mK_82 F, mK_83 F, mK_84 F, mK_85 F, mK_86 F, mK_87 F, mK_88 F, mK_89 F, mK_90 F, mK_91 F, mK_92 F, mK_93 F, mK_94 F, mK_95 F, mK_96 F, mK_97 F, h_v4, oOrS, u1, u2, c1, c2]
          exact fin _ _ (fs _ (by rw [hmv, ht]; simp [c2])) rfl
        · simp (disch := omega) [-Int.not_le, -Int.not_lt, ↓e_ci_p, ↓e_lv_p, ↓l_lv_p, ↓r_lv_p, ↓r_null_p, ↓e_fld_p, ↓r_fld_p, ↓e_ald_p, ↓z_ald_p, ↓r_ald_p, ↓e_len_p, ↓e_op_p, ↓e_dv_p, ↓l_op_p, ↓l_dv_p, ↓l_sh_p, ↓e_lcmp_p, ↓e_l2i_p, ↓e_min_p, ↓c_b_p, ↓c_not_p, ↓c_and_p, ↓c_or_p, ↓c_null_p, ↓c_eq_p, ↓c_ne_p, ↓c_lt_p, ↓c_ge_p, ↓c_gt_p, ↓c_le_p, ↓e_cond_p, ↓x_tern_p, ↓a_nil_p, ↓a_I_p, ↓a_L_p, ↓a_R_p, ↓e_callV_p, ↓r_callV_p, ↓e_callS_p, ↓s_skip_p, ↓s_seq_p, ↓s_st_p, ↓s_stL_p, ↓s_stR_p, ↓s_inc_p, ↓s_put_p, ↓s_putZ_p, ↓s_putR_p, ↓s_putop_p, ↓s_ast_p, ↓s_zast_p, ↓s_rast_p, ↓s_astop_p, ↓s_callV_p, ↓s_popV_p, ↓s_if_p, ↓s_ite_p, ↓s_itr_p, ↓s_brk_p, ↓s_retI_p, ↓s_retR_p, ↓s_ret_p, ↓s_sw_p, isI_s, isI_z, isL_s, isL_z, isR_s, isR_z, gI_s, gI_z, gL_z, gR_s, gR_z, gA_s, isA_s, bdo_s, arOK_s, isVI_I, isVR_R, vInt_I, vInt_L, vRef_R, lenOf_s, lnOK_s, rHd_c, isHd_c, noL_z, noL_1, noL_s, nl_I, nl_R, nl_U, stI, stR, bd_t, oA, oS, oM, oD, oR, tn_add, tn_mul, tn_nat, eqb_t, eqb_f, ltb_t, ltb_f, leb_t, leb_f, nob_s, nob_n, nat_eq, nat_lt, nat_le, mR_0 F, mR_1 F, mR_2 F, mR_3 F, mR_4 F, mR_5 F, mR_6 F, mR_7 F, mR_8 F, mR_9 F, mR_10 F, mR_11 F, mR_12 F, mR_13 F, mR_15 F, mR_17 F, mR_25 F, mR_26 F, mR_27 F, mR_28 F, mR_29 F, mR_30 F, mR_35 F, mR_36 F, mR_37 F, mR_38 F, mR_40 F, mR_41 F, mR_42 F, mR_43 F, mR_44 F, mR_45 F, mR_46 F, mR_47 F, mK_63 F, mK_64 F, mK_65 F, mK_66 F, mK_67 F, mK_68 F, mK_69 F, mK_70 F, mK_71 F, mK_72 F, mK_73 F, mK_74 F, mK_75 F, mK_76 F, mK_77 F, mK_78 F, mK_79 F, mK_80 F, mK_81 F, mK_82 F, mK_83 F, mK_84 F, mK_85 F, mK_86 F, mK_87 F, mK_88 F, mK_89 F, mK_90 F, mK_91 F, mK_92 F, mK_93 F, mK_94 F, mK_95 F, mK_96 F, mK_97 F, h_v4, oOrS, u1, u2, c1, c2]
          exact fin _ _ (fs _ (by rw [hmv, ht]; simp [c1, c2])) rfl
    · simp (disch := omega) [-Int.not_le, -Int.not_lt, ↓e_ci_p, ↓e_lv_p, ↓l_lv_p, ↓r_lv_p, ↓r_null_p, ↓e_fld_p, ↓r_fld_p, ↓e_ald_p, ↓z_ald_p, ↓r_ald_p, ↓e_len_p, ↓e_op_p, ↓e_dv_p, ↓l_op_p, ↓l_dv_p, ↓l_sh_p, ↓e_lcmp_p, ↓e_l2i_p, ↓e_min_p, ↓c_b_p, ↓c_not_p, ↓c_and_p, ↓c_or_p, ↓c_null_p, ↓c_eq_p, ↓c_ne_p, ↓c_lt_p, ↓c_ge_p, ↓c_gt_p, ↓c_le_p, ↓e_cond_p, ↓x_tern_p, ↓a_nil_p, ↓a_I_p, ↓a_L_p, ↓a_R_p, ↓e_callV_p, ↓r_callV_p, ↓e_callS_p, ↓s_skip_p, ↓s_seq_p, ↓s_st_p, ↓s_stL_p, ↓s_stR_p, ↓s_inc_p, ↓s_put_p, ↓s_putZ_p, ↓s_putR_p, ↓s_putop_p, ↓s_ast_p, ↓s_zast_p, ↓s_rast_p, ↓s_astop_p, ↓s_callV_p, ↓s_popV_p, ↓s_if_p, ↓s_ite_p, ↓s_itr_p, ↓s_brk_p, ↓s_retI_p, ↓s_retR_p, ↓s_ret_p, ↓s_sw_p, isI_s, isI_z, isL_s, isL_z, isR_s, isR_z, gI_s, gI_z, gL_z, gR_s, gR_z, gA_s, isA_s, bdo_s, arOK_s, isVI_I, isVR_R, vInt_I, vInt_L, vRef_R, lenOf_s, lnOK_s, rHd_c, isHd_c, noL_z, noL_1, noL_s, nl_I, nl_R, nl_U, stI, stR, bd_t, oA, oS, oM, oD, oR, tn_add, tn_mul, tn_nat, eqb_t, eqb_f, ltb_t, ltb_f, leb_t, leb_f, nob_s, nob_n, nat_eq, nat_lt, nat_le, mR_0 F, mR_1 F, mR_2 F, mR_3 F, mR_4 F, mR_5 F, mR_6 F, mR_7 F, mR_8 F, mR_9 F, mR_10 F, mR_11 F, mR_12 F, mR_13 F, mR_15 F, mR_17 F, mR_25 F, mR_26 F, mR_27 F, mR_28 F, mR_29 F, mR_30 F, mR_35 F, mR_36 F, mR_37 F, mR_38 F, mR_40 F, mR_41 F, mR_42 F, mR_43 F, mR_44 F, mR_45 F, mR_46 F, mR_47 F, mK_63 F, mK_64 F, mK_65 F, mK_66 F, mK_67 F, mK_68 F, mK_69 F, mK_70 F, mK_71 F, mK_72 F, mK_73 F, mK_74 F, mK_75 F, mK_76 F, mK_77 F, mK_78 F, mK_79 F, mK_80 F, mK_81 F, mK_82 F, mK_83 F, mK_84 F, mK_85 F, mK_86 F, mK_87 F, mK_88 F, mK_89 F, mK_90 F, mK_91 F, mK_92 F, mK_93 F, mK_94 F, mK_95 F, mK_96 F, mK_97 F, oBit, ht]
      exact fin _ _ (by rw [hmv, ht]; simp) h_v4
  · rintro env st ⟨v4, h_v4, rfl, rfl⟩
    exact hkk v4 h_v4
theorem lsF_S {c : Nat → Int} {n s : Nat} (hs : s < 2 ^ n) {J : Nat → Nat → Int} (h : lsF J c n (s + 1)) : lsF (upI J 90 s (mv c n (J 90) s n)) c n s := by
  have hag : ∀ t, s < t → upI J 90 s (mv c n (J 90) s n) 90 t = J 90 t := fun t ht => by simp only [upI]; rw [if_neg (by omega)]
  intro t h1 h2
  by_cases hts : t = s
  · subst hts
    have : upI J 90 t (mv c n (J 90) t n) 90 t = mv c n (J 90) t n := by simp [upI]
    rw [this]
    exact mv_congr h2 (fun u hu _ => (hag u hu).symm) (Nat.le_refl n)
  · rw [hag t (by omega), h t (by omega) h2]
    exact mv_congr h2 (fun u hu _ => (hag u (by omega)).symm) (Nat.le_refl n)
theorem X9_chooses_1 (F : isMod kd R) {c : Nat → Int} {n a : Nat} (ha : 2 ^ n = a + 1) (hC : CH I c n) {v3 v4 : AV} (h3 : nl v3 = true) (h4 : nl v4 = true) {Kn Kb : XE → XS → Prop} {Kr : AV → XS → Prop} (hkk : ∀ v3 v4 J, nl v3 = true → nl v4 = true → (∀ x, x ≠ 90 → J x = I x) → isLs c n (J 90) → Kn [vR (some 63), vI a, vI (-1), v3, v4] (kd, J, R)) : lp_X9_chooses_1 Kn Kb Kr [vR (some 63), vI a, vI a, v3, v4] (kd, I, R) := by
  have h1024 := pow_1024 hC.1
  unfold lp_X9_chooses_1
  refine forDn (n := a + 1) (fun k env st => ∃ v3 v4 J, nl v3 = true ∧ nl v4 = true ∧ (∀ x, x ≠ 90 → J x = I x) ∧ lsF J c n k ∧ env = [vR (some 63), vI a, vI ((k : Int) - 1), v3, v4] ∧ st = (kd, J, R)) (by omega) ⟨v3, v4, I, h3, h4, fun _ _ => rfl, fun s h1 h2 => by omega, by simp, rfl⟩ ?_ ?_ ?_
  · rintro k env st hk ⟨v3, v4, J, h3, h4, hJ, hl, rfl, rfl⟩
    rfl
  · rintro k env st hk ⟨v3, v4, J, h3, h4, hJ, hl, rfl, rfl⟩ Kx hx
    have hC' : CH J c n := CH_row hC (hJ 64 (by decide)) (hJ 87 (by decide))
    have ek : ((k + 1 : Nat) : Int) - 1 = (k : Int) := by omega
    have em : mv c n (J 90) k 0 = if k = 2 ^ n - 1 then 0 else -1 := rfl
    have hk2 : k < 2 ^ n := by omega
    have fin : ∀ v4, nl v4 = true → Kx [vR (some 63), vI a, vI k, vI n, v4] (kd, upI J 90 k (mv c n (J 90) k n), R) := by
      intro v4 h4
      refine hx _ _ rfl (by simp [noL_z, noL_1, noL_s, nl_I, nl_R]) ⟨_, v4, _, nl_I _, h4, fun x hx => ?_, lsF_S hk2 hl, rfl, rfl⟩
      rw [upI_row hx]; exact hJ x hx
    rw [ek]
    by_cases hka : k = a
    · subst hka
      simp (disch := omega) [-Int.not_le, -Int.not_lt, ↓e_ci_p, ↓e_lv_p, ↓l_lv_p, ↓r_lv_p, ↓r_null_p, ↓e_fld_p, ↓r_fld_p, ↓e_ald_p, ↓z_ald_p, ↓r_ald_p, ↓e_len_p, ↓e_op_p, ↓e_dv_p, ↓l_op_p, ↓l_dv_p, ↓l_sh_p, ↓e_lcmp_p, ↓e_l2i_p, ↓e_min_p, ↓c_b_p, ↓c_not_p, ↓c_and_p, ↓c_or_p, ↓c_null_p, ↓c_eq_p, ↓c_ne_p, ↓c_lt_p, ↓c_ge_p, ↓c_gt_p, ↓c_le_p, ↓e_cond_p, ↓x_tern_p, ↓a_nil_p, ↓a_I_p, ↓a_L_p, ↓a_R_p, ↓e_callV_p, ↓r_callV_p, ↓e_callS_p, ↓s_skip_p, ↓s_seq_p, ↓s_st_p, ↓s_stL_p, ↓s_stR_p, ↓s_inc_p, ↓s_put_p, ↓s_putZ_p, ↓s_putR_p, ↓s_putop_p, ↓s_ast_p, ↓s_zast_p, ↓s_rast_p, ↓s_astop_p, ↓s_callV_p, ↓s_popV_p, ↓s_if_p, ↓s_ite_p, ↓s_itr_p, ↓s_brk_p, ↓s_retI_p, ↓s_retR_p, ↓s_ret_p, ↓s_sw_p, isI_s, isI_z, isL_s, isL_z, isR_s, isR_z, gI_s, gI_z, gL_z, gR_s, gR_z, gA_s, isA_s, bdo_s, arOK_s, isVI_I, isVR_R, vInt_I, vInt_L, vRef_R, lenOf_s, lnOK_s, rHd_c, isHd_c, noL_z, noL_1, noL_s, nl_I, nl_R, nl_U, stI, stR, bd_t, oA, oS, oM, oD, oR, tn_add, tn_mul, tn_nat, eqb_t, eqb_f, ltb_t, ltb_f, leb_t, leb_f, nob_s, nob_n, nat_eq, nat_lt, nat_le, mR_0 F, mR_1 F, mR_2 F, mR_3 F, mR_4 F, mR_5 F, mR_6 F, mR_7 F, mR_8 F, mR_9 F, mR_10 F, mR_11 F, mR_12 F, mR_13 F, mR_15 F, mR_17 F, mR_25 F, mR_26 F, mR_27 F, mR_28 F, mR_29 F, mR_30 F, mR_35 F, mR_36 F, mR_37 F, mR_38 F, mR_40 F, mR_41 F, mR_42 F, mR_43 F, mR_44 F, mR_45 F, mR_46 F, mR_47 F, mK_63 F, mK_64 F, mK_65 F, mK_66 F, mK_67 F, mK_68 F, mK_69 F, mK_70 F, mK_71 F, mK_72 F, mK_73 F, mK_74 F, mK_75 F, mK_76 F, mK_77 F, mK_78 F, mK_79 F, mK_80 F, mK_81 F, mK_82 F, mK_83 F, mK_84 F, mK_85 F, mK_86 F, mK_87 F, mK_88 F, mK_89 F, mK_90 F, mK_91 F, mK_92 F, mK_93 F, mK_94 F, mK_95 F, mK_96 F, mK_97 F, h3]
      exact X9_chooses_0 F hC' hk2 hl h4 (by rw [em, if_pos (by omega)]) fin
    · simp (disch := omega) [-Int.not_le, -Int.not_lt, ↓e_ci_p, ↓e_lv_p, ↓l_lv_p, ↓r_lv_p, ↓r_null_p, ↓e_fld_p, ↓r_fld_p, ↓e_ald_p, ↓z_ald_p, ↓r_ald_p, ↓e_len_p, ↓e_op_p, ↓e_dv_p, ↓l_op_p, ↓l_dv_p, ↓l_sh_p, ↓e_lcmp_p, ↓e_l2i_p, ↓e_min_p, ↓c_b_p, ↓c_not_p, ↓c_and_p, ↓c_or_p, ↓c_null_p, ↓c_eq_p, ↓c_ne_p, ↓c_lt_p, ↓c_ge_p, ↓c_gt_p, ↓c_le_p, ↓e_cond_p, ↓x_tern_p, ↓a_nil_p, ↓a_I_p, ↓a_L_p, ↓a_R_p, ↓e_callV_p, ↓r_callV_p, ↓e_callS_p, ↓s_skip_p, ↓s_seq_p, ↓s_st_p, ↓s_stL_p, ↓s_stR_p, ↓s_inc_p, ↓s_put_p, ↓s_putZ_p, ↓s_putR_p, ↓s_putop_p, ↓s_ast_p, ↓s_zast_p, ↓s_rast_p, ↓s_astop_p, ↓s_callV_p, ↓s_popV_p, ↓s_if_p, ↓s_ite_p, ↓s_itr_p, ↓s_brk_p, ↓s_retI_p, ↓s_retR_p, ↓s_ret_p, ↓s_sw_p, isI_s, isI_z, isL_s, isL_z, isR_s, isR_z, gI_s, gI_z, gL_z, gR_s, gR_z, gA_s, isA_s, bdo_s, arOK_s, isVI_I, isVR_R, vInt_I, vInt_L, vRef_R, lenOf_s, lnOK_s, rHd_c, isHd_c, noL_z, noL_1, noL_s, nl_I, nl_R, nl_U, stI, stR, bd_t, oA, oS, oM, oD, oR, tn_add, tn_mul, tn_nat, eqb_t, eqb_f, ltb_t, ltb_f, leb_t, leb_f, nob_s, nob_n, nat_eq, nat_lt, nat_le, mR_0 F, mR_1 F, mR_2 F, mR_3 F, mR_4 F, mR_5 F, mR_6 F, mR_7 F, mR_8 F, mR_9 F, mR_10 F, mR_11 F, mR_12 F, mR_13 F, mR_15 F, mR_17 F, mR_25 F, mR_26 F, mR_27 F, mR_28 F, mR_29 F, mR_30 F, mR_35 F, mR_36 F, mR_37 F, mR_38 F, mR_40 F, mR_41 F, mR_42 F, mR_43 F, mR_44 F, mR_45 F, mR_46 F, mR_47 F, mK_63 F, mK_64 F, mK_65 F, mK_66 F, mK_67 F, mK_68 F, mK_69 F, mK_70 F, mK_71 F, mK_72 F, mK_73 F, mK_74 F, mK_75 F, mK_76 F, mK_77 F, mK_78 F, mK_79 F, mK_80 F, mK_81 F, mK_82 F, mK_83 F, mK_84 F, mK_85 F, mK_86 F, mK_87 F, mK_88 F, mK_89 F, mK_90 F, mK_91 F, mK_92 F, mK_93 F, mK_94 F, mK_95 F, mK_96 F, mK_97 F, h3, hka]
      exact X9_chooses_0 F hC' hk2 hl h4 (by rw [em, if_neg (by omega)]) fin
  · rintro env st ⟨v3, v4, J, h3, h4, hJ, hl, rfl, rfl⟩
    exact hkk v3 v4 J h3 h4 hJ (fun s hs => hl s (by omega) hs)
theorem X9_chooses_2 (F : isMod kd R) {c : Nat → Int} {n s : Nat} (hC : CH I c n) (hf : isLs c n (I 90)) (hs : s < 2 ^ n) (hcb : cb n s < n) {v1 v3 : Int} {Kn Kb : XE → XS → Prop} {Kr : AV → XS → Prop} (hkk : Kn [vR (some 63), vI v1, vI s, vI v3, vI ((pk c n (I 90) s : Nat) : Int)] (kd, I, R)) : lp_X9_chooses_2 Kn Kb Kr [vR (some 63), vI v1, vI s, vI v3, vI 0] (kd, I, R) := by
  have h1024 := pow_1024 hC.1
  have hn := hC.1
  obtain ⟨h1, h2⟩ := pk_ok hC.2.2.2.2 hn hf hs hcb
  unfold lp_X9_chooses_2
  refine srch (fun q => [vR (some 63), vI v1, vI s, vI v3, vI q]) (fun q => !okx c n (I 90) s q) (m := pk c n (I 90) s) (by simp [h2]) (by omega) (fun q => ⟨rfl, rfl, rfl⟩) (fun q hq K h => ?_) ?_
  · have hqn : q < n := by omega
    have hl := or_lt hs hqn
    have b1 := Ls_big hC.2.2.2.2 hn hf hs
    have b2 := Ls_big hC.2.2.2.2 hn hf hl
    have b3 := cst_rng hC.2.2.2.2 hqn s
    simp only [okx] at h
    cases ht : s.testBit q
    · simp (disch := omega) [-Int.not_le, -Int.not_lt, ↓e_ci_p, ↓e_lv_p, ↓l_lv_p, ↓r_lv_p, ↓r_null_p, ↓e_fld_p, ↓r_fld_p, ↓e_ald_p, ↓z_ald_p, ↓r_ald_p, ↓e_len_p, ↓e_op_p, ↓e_dv_p, ↓l_op_p, ↓l_dv_p, ↓l_sh_p, ↓e_lcmp_p, ↓e_l2i_p, ↓e_min_p, ↓c_b_p, ↓c_not_p, ↓c_and_p, ↓c_or_p, ↓c_null_p, ↓c_eq_p, ↓c_ne_p, ↓c_lt_p, ↓c_ge_p, ↓c_gt_p, ↓c_le_p, ↓e_cond_p, ↓x_tern_p, ↓a_nil_p, ↓a_I_p, ↓a_L_p, ↓a_R_p, ↓e_callV_p, ↓r_callV_p, ↓e_callS_p, ↓s_skip_p, ↓s_seq_p, ↓s_st_p, ↓s_stL_p, ↓s_stR_p, ↓s_inc_p, ↓s_put_p, ↓s_putZ_p, ↓s_putR_p, ↓s_putop_p, ↓s_ast_p, ↓s_zast_p, ↓s_rast_p, ↓s_astop_p, ↓s_callV_p, ↓s_popV_p, ↓s_if_p, ↓s_ite_p, ↓s_itr_p, ↓s_brk_p, ↓s_retI_p, ↓s_retR_p, ↓s_ret_p, ↓s_sw_p, isI_s, isI_z, isL_s, isL_z, isR_s, isR_z, gI_s, gI_z, gL_z, gR_s, gR_z, gA_s, isA_s, bdo_s, arOK_s, isVI_I, isVR_R, vInt_I, vInt_L, vRef_R, lenOf_s, lnOK_s, rHd_c, isHd_c, noL_z, noL_1, noL_s, nl_I, nl_R, nl_U, stI, stR, bd_t, oA, oS, oM, oD, oR, tn_add, tn_mul, tn_nat, eqb_t, eqb_f, ltb_t, ltb_f, leb_t, leb_f, nob_s, nob_n, nat_eq, nat_lt, nat_le, mR_0 F, mR_1 F, mR_2 F, mR_3 F, mR_4 F, mR_5 F, mR_6 F, mR_7 F, mR_8 F, mR_9 F, mR_10 F, mR_11 F, mR_12 F, mR_13 F, mR_15 F, mR_17 F, mR_25 F, mR_26 F, mR_27 F, mR_28 F, mR_29 F, mR_30 F, mR_35 F, mR_36 F, mR_37 F, mR_38 F, mR_40 F, mR_41 F, mR_42 F, mR_43 F, mR_44 F, mR_45 F, mR_46 F, mR_47 F, mK_63 F, mK_64 F, mK_65 F, mK_66 F, mK_67 F, mK_68 F, mK_69 F, mK_70 F, mK_71 F, mK_72 F, mK_73 F, mK_74 F, mK_75 F, mK_76 F, mK_77 F, mK_78 F, mK_79 F, mK_80 F, mK_81 F, mK_82 F, mK_83 F, mK_84 F, mK_85 F, mK_86 F, mK_87 F, mK_88 F, mK_89 F, mK_90 F, mK_91 F, mK_92 F, mK_93 F, mK_94 F, mK_95 F, mK_96 F, mK_97 F, oBit, oOrS, ht]
      refine X9_costs_ok F hn (c := c) hC.2.1 hC.2.2.1 hC.2.2.2.1 hqn (by omega) ?_
      simp (disch := omega) [-Int.not_le, -Int.not_lt, ↓e_ci_p, ↓e_lv_p, ↓l_lv_p, ↓r_lv_p, ↓r_null_p, ↓e_fld_p, ↓r_fld_p, ↓e_ald_p, ↓z_ald_p, ↓r_ald_p, ↓e_len_p, ↓e_op_p, ↓e_dv_p, ↓l_op_p, ↓l_dv_p, ↓l_sh_p, ↓e_lcmp_p, ↓e_l2i_p, ↓e_min_p, ↓c_b_p, ↓c_not_p, ↓c_and_p, ↓c_or_p, ↓c_null_p, ↓c_eq_p, ↓c_ne_p, ↓c_lt_p, ↓c_ge_p, ↓c_gt_p, ↓c_le_p, ↓e_cond_p, ↓x_tern_p, ↓a_nil_p, ↓a_I_p, ↓a_L_p, ↓a_R_p, ↓e_callV_p, ↓r_callV_p, ↓e_callS_p, ↓s_skip_p, ↓s_seq_p, ↓s_st_p, ↓s_stL_p, ↓s_stR_p, ↓s_inc_p, ↓s_put_p, ↓s_putZ_p, ↓s_putR_p, ↓s_putop_p, ↓s_ast_p, ↓s_zast_p, ↓s_rast_p, ↓s_astop_p, ↓s_callV_p, ↓s_popV_p, ↓s_if_p, ↓s_ite_p, ↓s_itr_p, ↓s_brk_p, ↓s_retI_p, ↓s_retR_p, ↓s_ret_p, ↓s_sw_p, isI_s, isI_z, isL_s, isL_z, isR_s, isR_z, gI_s, gI_z, gL_z, gR_s, gR_z, gA_s, isA_s, bdo_s, arOK_s, isVI_I, isVR_R, vInt_I, vInt_L, vRef_R, lenOf_s, lnOK_s, rHd_c, isHd_c, noL_z, noL_1, noL_s, nl_I, nl_R, nl_U, stI, stR, bd_t, oA, oS, oM, oD, oR, tn_add, tn_mul, tn_nat, eqb_t, eqb_f, ltb_t, ltb_f, leb_t, leb_f, nob_s, nob_n, nat_eq, nat_lt, nat_le, mR_0 F, mR_1 F, mR_2 F, mR_3 F, mR_4 F, mR_5 F, mR_6 F, mR_7 F, mR_8 F, mR_9 F, mR_10 F, mR_11 F, mR_12 F, mR_13 F, mR_15 F, mR_17 F, mR_25 F, mR_26 F, mR_27 F, mR_28 F, mR_29 F, mR_30 F, mR_35 F, mR_36 F, mR_37 F, mR_38 F, mR_40 F, mR_41 F, mR_42 F, mR_43 F, mR_44 F, mR_45 F, mR_46 F, mR_47 F, mK_63 F, mK_64 F, mK_65 F, mK_66 F, mK_67 F, mK_68 F, mK_69 F, mK_70 F, mK_71 F, mK_72 F, mK_73 F, mK_74 F, mK_75 F, mK_76 F, mK_77 F, mK_78 F, mK_79 F, mK_80 F, mK_81 F, mK_82 F, mK_83 F, mK_84 F, mK_85 F, mK_86 F, mK_87 F, mK_88 F, mK_89 F, mK_90 F, mK_91 F, mK_92 F, mK_93 F, mK_94 F, mK_95 F, mK_96 F, mK_97 F, oOrS]
      simpa [ht, eqb] using h
    · simp (disch := omega) [-Int.not_le, -Int.not_lt, ↓e_ci_p, ↓e_lv_p, ↓l_lv_p, ↓r_lv_p, ↓r_null_p, ↓e_fld_p, ↓r_fld_p, ↓e_ald_p, ↓z_ald_p, ↓r_ald_p, ↓e_len_p, ↓e_op_p, ↓e_dv_p, ↓l_op_p, ↓l_dv_p, ↓l_sh_p, ↓e_lcmp_p, ↓e_l2i_p, ↓e_min_p, ↓c_b_p, ↓c_not_p, ↓c_and_p, ↓c_or_p, ↓c_null_p, ↓c_eq_p, ↓c_ne_p, ↓c_lt_p, ↓c_ge_p, ↓c_gt_p, ↓c_le_p, ↓e_cond_p, ↓x_tern_p, ↓a_nil_p, ↓a_I_p, ↓a_L_p, ↓a_R_p, ↓e_callV_p, ↓r_callV_p, ↓e_callS_p, ↓s_skip_p, ↓s_seq_p, ↓s_st_p, ↓s_stL_p, ↓s_stR_p, ↓s_inc_p, ↓s_put_p, ↓s_putZ_p, ↓s_putR_p, ↓s_putop_p, ↓s_ast_p, ↓s_zast_p, ↓s_rast_p, ↓s_astop_p, ↓s_callV_p, ↓s_popV_p, ↓s_if_p, ↓s_ite_p, ↓s_itr_p, ↓s_brk_p, ↓s_retI_p, ↓s_retR_p, ↓s_ret_p, ↓s_sw_p, isI_s, isI_z, isL_s, isL_z, isR_s, isR_z, gI_s, gI_z, gL_z, gR_s, gR_z, gA_s, isA_s, bdo_s, arOK_s, isVI_I, isVR_R, vInt_I, vInt_L, vRef_R, lenOf_s, lnOK_s, rHd_c, isHd_c, noL_z, noL_1, noL_s, nl_I, nl_R, nl_U, stI, stR, bd_t, oA, oS, oM, oD, oR, tn_add, tn_mul, tn_nat, eqb_t, eqb_f, ltb_t, ltb_f, leb_t, leb_f, nob_s, nob_n, nat_eq, nat_lt, nat_le, mR_0 F, mR_1 F, mR_2 F, mR_3 F, mR_4 F, mR_5 F, mR_6 F, mR_7 F, mR_8 F, mR_9 F, mR_10 F, mR_11 F, mR_12 F, mR_13 F, mR_15 F, mR_17 F, mR_25 F, mR_26 F, mR_27 F, mR_28 F, mR_29 F, mR_30 F, mR_35 F, mR_36 F, mR_37 F, mR_38 F, mR_40 F, mR_41 F, mR_42 F, mR_43 F, mR_44 F, mR_45 F, mR_46 F, mR_47 F, mK_63 F, mK_64 F, mK_65 F, mK_66 F, mK_67 F, mK_68 F, mK_69 F, mK_70 F, mK_71 F, mK_72 F, mK_73 F, mK_74 F, mK_75 F, mK_76 F, mK_77 F, mK_78 F, mK_79 F, mK_80 F, mK_81 F, mK_82 F, mK_83 F, mK_84 F, mK_85 F, mK_86 F, mK_87 F, mK_88 F, mK_89 F, mK_90 F, mK_91 F, mK_92 F, mK_93 F, mK_94 F, mK_95 F, mK_96 F, mK_97 F, oBit, oOrS, ht]
      simpa [ht, eqb] using h
  · have e : fstN (fun q => !(!okx c n (I 90) s q)) (pk c n (I 90) s) = pk c n (I 90) s := fstN_eq (Nat.le_refl _) (fun k hk => by simpa using fstN_no (f := okx c n (I 90) s) (m := n) hk) (fun h => by omega)
    rw [e]
    exact hkk
set_option maxHeartbeats 4000000 in
theorem X9_chooses_3 (F : isMod kd R) {c : Nat → Int} {n : Nat} (hC : CH I c n) (hf : isLs c n (I 90)) {v1 : Int} {v4 : AV} (h_v4 : nl v4 = true) {J : Nat → Nat → Int} {a2 : Int} (e_a2 : vI a2 = vI ((sk c n (I 90) (0) : Nat) : Int)) (h_Q : (∀ x, x ≠ 91 → x ≠ 92 → J x = I x) ∧ (∀ j, j < (0) → J 91 j = ((pk c n (I 90) (sk c n (I 90) j) : Nat) : Int)) ∧ ∀ x, x < n → (sk c n (I 90) (0)).testBit x = true → J 92 x = ((pos c n (I 90) (0) x : Nat) : Int)) {Kn Kb : XE → XS → Prop} {Kr : AV → XS → Prop} 
    (hkk : ∀ v4 : AV, ∀ (J : Nat → Nat → Int), nl v4 = true → ((∀ x, x ≠ 91 → x ≠ 92 → J x = I x) ∧ (∀ j, j < (n) → J 91 j = ((pk c n (I 90) (sk c n (I 90) j) : Nat) : Int)) ∧ ∀ x, x < n → (sk c n (I 90) (n)).testBit x = true → J 92 x = ((pos c n (I 90) (n) x : Nat) : Int)) → Kn [vR (some 63), vI v1, vI ((sk c n (I 90) (n) : Nat) : Int), vI ((n : Nat) : Int), v4] (kd, J, R)) : lp_X9_chooses_3 Kn Kb Kr [vR (some 63), vI v1, vI a2, vI 0, v4] (kd, J, R) := by
  unfold lp_X9_chooses_3
  have hn := hC.1
  have h1024 := pow_1024 hn
  refine forUp (lo := 0) (n := n) (fun k env st => ∃ v4 : AV, ∃ (J : Nat → Nat → Int), nl v4 = true ∧ ((∀ x, x ≠ 91 → x ≠ 92 → J x = I x) ∧ (∀ j, j < (k) → J 91 j = ((pk c n (I 90) (sk c n (I 90) j) : Nat) : Int)) ∧ ∀ x, x < n → (sk c n (I 90) (k)).testBit x = true → J 92 x = ((pos c n (I 90) (k) x : Nat) : Int)) ∧ env = [vR (some 63), vI v1, vI ((sk c n (I 90) (k) : Nat) : Int), vI (k : Int), v4] ∧ st = (kd, J, R)) (by omega) (by omega) ⟨v4, J, h_v4, h_Q, by first | (rw [e_a2]; done) | (rw [e_a2]; rfl), rfl⟩ ?_ ?_ ?_
  · rintro k env st hle ⟨v4, J, h_v4, h_Q, rfl, rfl⟩
    first | exact ⟨rfl, fun K h => h⟩ | exact ⟨rfl, fun K h => ⟨_, rfl, h⟩⟩ | (refine ⟨rfl, fun K h => ?_⟩; simp (disch := omega) [-Int.not_le, -Int.not_lt, ↓e_ci_p, ↓e_lv_p, ↓l_lv_p, ↓r_lv_p, ↓r_null_p, ↓e_fld_p, ↓r_fld_p, ↓e_ald_p, ↓z_ald_p, ↓r_ald_p, ↓e_len_p, ↓e_op_p, ↓e_dv_p, ↓l_op_p, ↓l_dv_p, ↓l_sh_p, ↓e_lcmp_p, ↓e_l2i_p, ↓e_min_p, ↓c_b_p, ↓c_not_p, ↓c_and_p, ↓c_or_p, ↓c_null_p, ↓c_eq_p, ↓c_ne_p, ↓c_lt_p, ↓c_ge_p, ↓c_gt_p, ↓c_le_p, ↓e_cond_p, ↓x_tern_p, ↓a_nil_p, ↓a_I_p, ↓a_L_p, ↓a_R_p, ↓e_callV_p, ↓r_callV_p, ↓e_callS_p, ↓s_skip_p, ↓s_seq_p, ↓s_st_p, ↓s_stL_p, ↓s_stR_p, ↓s_inc_p, ↓s_put_p, ↓s_putZ_p, ↓s_putR_p, ↓s_putop_p, ↓s_ast_p, ↓s_zast_p, ↓s_rast_p, ↓s_astop_p, ↓s_callV_p, ↓s_popV_p, ↓s_if_p, ↓s_ite_p, ↓s_itr_p, ↓s_brk_p, ↓s_retI_p, ↓s_retR_p, ↓s_ret_p, ↓s_sw_p, isI_s, isI_z, isL_s, isL_z, isR_s, isR_z, gI_s, gI_z, gL_z, gR_s, gR_z, gA_s, isA_s, bdo_s, arOK_s, isVI_I, isVR_R, vInt_I, vInt_L, vRef_R, lenOf_s, lnOK_s, rHd_c, isHd_c, noL_z, noL_1, noL_s, nl_I, nl_R, nl_U, stI, stR, bd_t, oA, oS, oM, oD, oR, tn_add, tn_mul, tn_nat, eqb_t, eqb_f, ltb_t, ltb_f, leb_t, leb_f, nob_s, nob_n, nat_eq, nat_lt, nat_le, mR_0 F, mR_1 F, mR_2 F, mR_3 F, mR_4 F, mR_5 F, mR_6 F, mR_7 F, mR_8 F, mR_9 F, mR_10 F, mR_11 F, mR_12 F, mR_13 F, mR_15 F, mR_17 F, mR_25 F, mR_26 F, mR_27 F, mR_28 F, mR_29 F, mR_30 F, mR_35 F, mR_36 F, mR_37 F, mR_38 F, mR_40 F, mR_41 F, mR_42 F, mR_43 F, mR_44 F, mR_45 F, mR_46 F, mR_47 F, mK_63 F, mK_64 F, mK_65 F, mK_66 F, mK_67 F, mK_68 F, mK_69 F, mK_70 F, mK_71 F, mK_72 F, mK_73 F, mK_74 F, mK_75 F, mK_76 F, mK_77 F, mK_78 F, mK_79 F, mK_80 F, mK_81 F, mK_82 F, mK_83 F, mK_84 F, mK_85 F, mK_86 F, mK_87 F, mK_88 F, mK_89 F, mK_90 F, mK_91 F, mK_92 F, mK_93 F, mK_94 F, mK_95 F, mK_96 F, mK_97 F, h_Q.1 64 (by decide) (by decide), hC.2.1]; first | exact h | simpa using h)
  · rintro k env st hlo hlt ⟨v4, J, h_v4, h_Q, rfl, rfl⟩ Kx hx
    have fin : ∀ (b2 : Int) (v4' : AV) (J : Nat → Nat → Int) , vI b2 = vI ((sk c n (I 90) (k + 1) : Nat) : Int) → nl v4' = true → ((∀ x, x ≠ 91 → x ≠ 92 → J x = I x) ∧ (∀ j, j < (k + 1) → J 91 j = ((pk c n (I 90) (sk c n (I 90) j) : Nat) : Int)) ∧ ∀ x, x < n → (sk c n (I 90) (k + 1)).testBit x = true → J 92 x = ((pos c n (I 90) (k + 1) x : Nat) : Int)) → Kx [vR (some 63), vI v1, vI b2, vI (k : Int), v4'] (kd, J, R) := by
      intro b2 v4' J q_a2 q_v4 q_Q
      exact hx _ _ rfl (by simp [noL_z, noL_1, noL_s, nl_I, nl_R, nl_U, q_v4, h_v4]) ⟨v4', J, q_v4, q_Q, by simp [q_a2], rfl⟩
    obtain ⟨q1, q2, q3⟩ := h_Q
    have hC' : CH J c n := CH_row hC (q1 64 (by decide) (by decide)) (q1 87 (by decide) (by decide))
    have e90 : J 90 = I 90 := q1 90 (by decide) (by decide)
    obtain ⟨s1, s2⟩ := sk_ok hC.2.2.2.2 hn hf (show k ≤ n by omega)
    obtain ⟨p1, p2⟩ := pk_ok hC.2.2.2.2 hn hf s1 (by omega)
    have e1 : sk c n (I 90) (k + 1) = sk c n (I 90) k ||| 2 ^ pk c n (I 90) (sk c n (I 90) k) := rfl
    have e2 : ∀ x, pos c n (I 90) (k + 1) x = if x = pk c n (I 90) (sk c n (I 90) k) then k else pos c n (I 90) k x := fun x => rfl
    simp (disch := omega) [-Int.not_le, -Int.not_lt, ↓e_ci_p, ↓e_lv_p, ↓l_lv_p, ↓r_lv_p, ↓r_null_p, ↓e_fld_p, ↓r_fld_p, ↓e_ald_p, ↓z_ald_p, ↓r_ald_p, ↓e_len_p, ↓e_op_p, ↓e_dv_p, ↓l_op_p, ↓l_dv_p, ↓l_sh_p, ↓e_lcmp_p, ↓e_l2i_p, ↓e_min_p, ↓c_b_p, ↓c_not_p, ↓c_and_p, ↓c_or_p, ↓c_null_p, ↓c_eq_p, ↓c_ne_p, ↓c_lt_p, ↓c_ge_p, ↓c_gt_p, ↓c_le_p, ↓e_cond_p, ↓x_tern_p, ↓a_nil_p, ↓a_I_p, ↓a_L_p, ↓a_R_p, ↓e_callV_p, ↓r_callV_p, ↓e_callS_p, ↓s_skip_p, ↓s_seq_p, ↓s_st_p, ↓s_stL_p, ↓s_stR_p, ↓s_inc_p, ↓s_put_p, ↓s_putZ_p, ↓s_putR_p, ↓s_putop_p, ↓s_ast_p, ↓s_zast_p, ↓s_rast_p, ↓s_astop_p, ↓s_callV_p, ↓s_popV_p, ↓s_if_p, ↓s_ite_p, ↓s_itr_p, ↓s_brk_p, ↓s_retI_p, ↓s_retR_p, ↓s_ret_p, ↓s_sw_p, isI_s, isI_z, isL_s, isL_z, isR_s, isR_z, gI_s, gI_z, gL_z, gR_s, gR_z, gA_s, isA_s, bdo_s, arOK_s, isVI_I, isVR_R, vInt_I, vInt_L, vRef_R, lenOf_s, lnOK_s, rHd_c, isHd_c, noL_z, noL_1, noL_s, nl_I, nl_R, nl_U, stI, stR, bd_t, oA, oS, oM, oD, oR, tn_add, tn_mul, tn_nat, eqb_t, eqb_f, ltb_t, ltb_f, leb_t, leb_f, nob_s, nob_n, nat_eq, nat_lt, nat_le, mR_0 F, mR_1 F, mR_2 F, mR_3 F, mR_4 F, mR_5 F, mR_6 F, mR_7 F, mR_8 F, mR_9 F, mR_10 F, mR_11 F, mR_12 F, mR_13 F, mR_15 F, mR_17 F, mR_25 F, mR_26 F, mR_27 F, mR_28 F, mR_29 F, mR_30 F, mR_35 F, mR_36 F, mR_37 F, mR_38 F, mR_40 F, mR_41 F, mR_42 F, mR_43 F, mR_44 F, mR_45 F, mR_46 F, mR_47 F, mK_63 F, mK_64 F, mK_65 F, mK_66 F, mK_67 F, mK_68 F, mK_69 F, mK_70 F, mK_71 F, mK_72 F, mK_73 F, mK_74 F, mK_75 F, mK_76 F, mK_77 F, mK_78 F, mK_79 F, mK_80 F, mK_81 F, mK_82 F, mK_83 F, mK_84 F, mK_85 F, mK_86 F, mK_87 F, mK_88 F, mK_89 F, mK_90 F, mK_91 F, mK_92 F, mK_93 F, mK_94 F, mK_95 F, mK_96 F, mK_97 F, h_v4]
    refine X9_chooses_2 F hC' (by rw [e90]; exact hf) s1 (by omega) ?_
    rw [e90]
    simp (disch := omega) [-Int.not_le, -Int.not_lt, ↓e_ci_p, ↓e_lv_p, ↓l_lv_p, ↓r_lv_p, ↓r_null_p, ↓e_fld_p, ↓r_fld_p, ↓e_ald_p, ↓z_ald_p, ↓r_ald_p, ↓e_len_p, ↓e_op_p, ↓e_dv_p, ↓l_op_p, ↓l_dv_p, ↓l_sh_p, ↓e_lcmp_p, ↓e_l2i_p, ↓e_min_p, ↓c_b_p, ↓c_not_p, ↓c_and_p, ↓c_or_p, ↓c_null_p, ↓c_eq_p, ↓c_ne_p, ↓c_lt_p, ↓c_ge_p, ↓c_gt_p, ↓c_le_p, ↓e_cond_p, ↓x_tern_p, ↓a_nil_p, ↓a_I_p, ↓a_L_p, ↓a_R_p, ↓e_callV_p, ↓r_callV_p, ↓e_callS_p, ↓s_skip_p, ↓s_seq_p, ↓s_st_p, ↓s_stL_p, ↓s_stR_p, ↓s_inc_p, ↓s_put_p, ↓s_putZ_p, ↓s_putR_p, ↓s_putop_p, ↓s_ast_p, ↓s_zast_p, ↓s_rast_p, ↓s_astop_p, ↓s_callV_p, ↓s_popV_p, ↓s_if_p, ↓s_ite_p, ↓s_itr_p, ↓s_brk_p, ↓s_retI_p, ↓s_retR_p, ↓s_ret_p, ↓s_sw_p, isI_s, isI_z, isL_s, isL_z, isR_s, isR_z, gI_s, gI_z, gL_z, gR_s, gR_z, gA_s, isA_s, bdo_s, arOK_s, isVI_I, isVR_R, vInt_I, vInt_L, vRef_R, lenOf_s, lnOK_s, rHd_c, isHd_c, noL_z, noL_1, noL_s, nl_I, nl_R, nl_U, stI, stR, bd_t, oA, oS, oM, oD, oR, tn_add, tn_mul, tn_nat, eqb_t, eqb_f, ltb_t, ltb_f, leb_t, leb_f, nob_s, nob_n, nat_eq, nat_lt, nat_le, mR_0 F, mR_1 F, mR_2 F, mR_3 F, mR_4 F, mR_5 F, mR_6 F, mR_7 F, mR_8 F, mR_9 F, mR_10 F, mR_11 F, mR_12 F, mR_13 F, mR_15 F, mR_17 F, mR_25 F, mR_26 F, mR_27 F, mR_28 F, mR_29 F, mR_30 F, mR_35 F, mR_36 F, mR_37 F, mR_38 F, mR_40 F, mR_41 F, mR_42 F, mR_43 F, mR_44 F, mR_45 F, mR_46 F, mR_47 F, mK_63 F, mK_64 F, mK_65 F, mK_66 F, mK_67 F, mK_68 F, mK_69 F, mK_70 F, mK_71 F, mK_72 F, mK_73 F, mK_74 F, mK_75 F, mK_76 F, mK_77 F, mK_78 F, mK_79 F, mK_80 F, mK_81 F, mK_82 F, mK_83 F, mK_84 F, mK_85 F, mK_86 F, mK_87 F, mK_88 F, mK_89 F, mK_90 F, mK_91 F, mK_92 F, mK_93 F, mK_94 F, mK_95 F, mK_96 F, mK_97 F, oOrS]
    refine fin _ _ _ (by rw [e1]) rfl ⟨fun x h1 h2 => ?_, fun j hj => ?_, fun x hx ht => ?_⟩
    · rw [upI_row h2, upI_row h1]; exact q1 x h1 h2
    · by_cases hjk : j = k
      · subst hjk; simp [upI]
      · simp [upI, hjk]; exact q2 j (by omega)
    · rw [e2]
      by_cases hxp : x = pk c n (I 90) (sk c n (I 90) k)
      · simp [upI, hxp]
      · rw [e1, or_tb] at ht
        have : ¬ pk c n (I 90) (sk c n (I 90) k) = x := fun h => hxp h.symm
        simp [this] at ht
        simp [upI, hxp]
        exact q3 x hx ht
  · rintro env st ⟨v4, J, h_v4, h_Q, rfl, rfl⟩
    exact hkk v4 J h_v4 h_Q
/-- a memory in which the choice is laid -/
def CHO (J : Nat → Nat → Int) (c : Nat → Int) (n : Nat) : Prop := isLs c n (J 90) ∧ (∀ j, j < n → J 91 j = ((pk c n (J 90) (sk c n (J 90) j) : Nat) : Int)) ∧ ∀ x, x < n → J 92 x = ((pos c n (J 90) n x : Nat) : Int)
theorem tp_rng {pr : Nat → Int} (hp : ∀ s, s < 4 → 0 ≤ pr s ∧ pr s ≤ 99) {l : List NTE} (h4 : ∀ n ∈ l, n.2.2 < 4) : (∀ j, 0 ≤ tpN pr l j) ∧ ∀ x m, m ≤ 10 → sumN (fun q => tpN pr l (10 * x + q)) m ≤ 99 * l.length := by
  induction l with
  | nil =>
    refine ⟨fun j => Int.le_refl _, fun x m _ => ?_⟩
    have : ∀ m, sumN (fun q => tpN pr [] (10 * x + q)) m = 0 := by
      intro m
      induction m with
      | zero => rfl
      | succ m ih => rw [sumN, ih]; rfl
    rw [this]; simp
  | cons n l ih =>
    have hn := hp _ (h4 n List.mem_cons_self)
    obtain ⟨i1, i2⟩ := ih (fun z hz => h4 z (List.mem_cons_of_mem _ hz))
    refine ⟨fun j => ?_, fun x m hm => ?_⟩
    · have := i1 j
      simp only [tpN]
      split <;> omega
    · have h2 := i2 x m hm
      have h3 : ∀ m, m ≤ 10 → sumN (fun q => if n.1 ≠ n.2.1 ∧ 10 * n.1 + n.2.1 = 10 * x + q then pr n.2.2 else 0) m ≤ (if n.1 ≠ n.2.1 ∧ 10 * x ≤ 10 * n.1 + n.2.1 ∧ 10 * n.1 + n.2.1 < 10 * x + m then pr n.2.2 else 0) := by
        intro m
        induction m with
        | zero => intro _; simp only [sumN]; rw [if_neg (by omega)]; exact Int.le_refl _
        | succ m ihm =>
          intro hm
          have := ihm (by omega)
          simp only [sumN]
          by_cases c1 : n.1 ≠ n.2.1 ∧ 10 * n.1 + n.2.1 = 10 * x + m
          · rw [if_pos c1, if_pos (by omega)]
            rw [if_neg (by omega)] at this
            omega
          · rw [if_neg c1]
            by_cases c2 : n.1 ≠ n.2.1 ∧ 10 * x ≤ 10 * n.1 + n.2.1 ∧ 10 * n.1 + n.2.1 < 10 * x + m
            · rw [if_pos c2] at this; rw [if_pos (by omega)]; omega
            · rw [if_neg c2] at this; rw [if_neg (by omega)]; omega
      have h5 := h3 m hm
      have h6 : ∀ m, sumN (fun q => tpN pr (n :: l) (10 * x + q)) m = sumN (fun q => if n.1 ≠ n.2.1 ∧ 10 * n.1 + n.2.1 = 10 * x + q then pr n.2.2 else 0) m + sumN (fun q => tpN pr l (10 * x + q)) m := by
        intro m
        induction m with
        | zero => rfl
        | succ m ihm => rw [sumN, sumN, sumN, ihm]; simp only [tpN]; omega
      rw [h6, List.length_cons]
      have h7 : (if n.1 ≠ n.2.1 ∧ 10 * x ≤ 10 * n.1 + n.2.1 ∧ 10 * n.1 + n.2.1 < 10 * x + m then pr n.2.2 else 0) ≤ 99 := by split <;> omega
      have h8 : (99 : Int) * ((l.length + 1 : Nat) : Int) = 99 * l.length + 99 := by omega
      rw [h8]
      omega
theorem notes_4 {G : Nat → Nat → Int} (hw : WF G) : (∀ n ∈ notes G, n.2.2 < 4) ∧ (notes G).length ≤ 248 := by
  obtain ⟨⟨hp0, hr0, hf0, hn0⟩, hR, hA, hFi, hN, -⟩ := hw
  have h1 := notesRs_4 (G := G) (m := (G 65 0).toNat) (fun r hr' => (hR r (by omega)).2.1.2)
  have h2 := notesN_4 (G := G) (m := (G 67 0).toNat) (fun r hr' => (hN r (by omega)).2.2)
  refine ⟨fun n hn => ?_, ?_⟩
  · rcases List.mem_append.mp hn with h | h
    · exact h1.1 n h
    · exact h2.1 n h
  · rw [notes, List.length_append]; omega
theorem Cc_sm {G : Nat → Nat → Int} (hw : WF G) {pr : Nat → Int} (hp : ∀ s, s < 4 → 0 ≤ pr s ∧ pr s ≤ 99) (td : Int) {n : Nat} (hn : n ≤ 10) : smc (Cc G pr td) n ∧ ∀ j, 0 ≤ Cc G pr td j ∧ Cc G pr td j ≤ 24552 := by
  have h4 := notes_4 hw
  obtain ⟨t1, t2⟩ := tp_rng hp h4.1
  have hle : ∀ j, 0 ≤ Cc G pr td j ∧ Cc G pr td j ≤ tpN pr (notes G) j := fun j => by
    have := t1 j
    unfold Cc
    split <;> omega
  have hrow : ∀ x, sumN (fun q => Cc G pr td (10 * x + q)) 10 ≤ 24552 := fun x => by
    have a := t2 x 10 (by omega)
    have b := sumN_mono (f := fun q => Cc G pr td (10 * x + q)) (g := fun q => tpN pr (notes G) (10 * x + q)) (n := 10) (fun k _ => (hle _).2)
    omega
  have hsub : ∀ x m, m ≤ 10 → sumN (fun q => Cc G pr td (10 * x + q)) m ≤ 24552 := fun x m hm => by
    have a := t2 x m hm
    have b := sumN_mono (f := fun q => Cc G pr td (10 * x + q)) (g := fun q => tpN pr (notes G) (10 * x + q)) (n := m) (fun k _ => (hle _).2)
    omega
  refine ⟨⟨fun j => (hle j).1, fun x _ => hsub x n hn⟩, fun j => ⟨(hle j).1, ?_⟩⟩
  have h1 := hsub (j / 10) (j % 10 + 1) (by omega)
  have h2 : sumN (fun _ => (0 : Int)) (j % 10) ≤ sumN (fun q => Cc G pr td (10 * (j / 10) + q)) (j % 10) := sumN_mono (fun k _ => (hle _).1)
  have h3 : ∀ m, sumN (fun _ => (0 : Int)) m = 0 := by
    intro m
    induction m with
    | zero => rfl
    | succ m ih => simp [sumN, ih]
  rw [h3] at h2
  simp only [sumN] at h1
  rw [show 10 * (j / 10) + j % 10 = j by omega] at h1
  omega
theorem X9_chooses_ok (F : isMod kd R) (hr : RI I) {n : Nat} (h64 : I 64 0 = (n : Int)) (hk : ∀ J, (∀ x, ¬ scr x → J x = TI I x) → CHO J (Cc I (I 79) (I 63 18)) n → K (vI (J 90 0)) (kd, J, R)) : B_X9_chooses [vR (some 63)] (kd, I, R) K := by
  have hp1 := hr.1.1.1
  have hn : n ≤ 10 := by omega
  have h1024 := pow_1024 hn
  have hpos := Nat.two_pow_pos n
  obtain ⟨a, ha⟩ : ∃ a, 2 ^ n = a + 1 := ⟨2 ^ n - 1, by omega⟩
  obtain ⟨c1, c2⟩ := Cc_sm hr.1 hr.2.2.1 (I 63 18) hn
  have t64 : TI I 64 0 = (n : Int) := by rw [TI_row (by decide) (by decide)]; exact h64
  have hC : CH (TI I) (Cc I (I 79) (I 63 18)) n := ⟨hn, t64, fun j _ => by rw [TI_87 hr], c2, c1⟩
  have es : o2 f_ishl 1 (n : Int) = ((a + 1 : Nat) : Int) := by rw [oSh1 (by omega) (by omega), tn_nat, ha]
  simp [B_X9_chooses, bodyOf, envOf, exA, catV, rkOK]
  simp (disch := omega) [t_X9_chooses, -Int.not_le, -Int.not_lt, ↓e_ci_p, ↓e_lv_p, ↓l_lv_p, ↓r_lv_p, ↓r_null_p, ↓e_fld_p, ↓r_fld_p, ↓e_ald_p, ↓z_ald_p, ↓r_ald_p, ↓e_len_p, ↓e_op_p, ↓e_dv_p, ↓l_op_p, ↓l_dv_p, ↓l_sh_p, ↓e_lcmp_p, ↓e_l2i_p, ↓e_min_p, ↓c_b_p, ↓c_not_p, ↓c_and_p, ↓c_or_p, ↓c_null_p, ↓c_eq_p, ↓c_ne_p, ↓c_lt_p, ↓c_ge_p, ↓c_gt_p, ↓c_le_p, ↓e_cond_p, ↓x_tern_p, ↓a_nil_p, ↓a_I_p, ↓a_L_p, ↓a_R_p, ↓e_callV_p, ↓r_callV_p, ↓e_callS_p, ↓s_skip_p, ↓s_seq_p, ↓s_st_p, ↓s_stL_p, ↓s_stR_p, ↓s_inc_p, ↓s_put_p, ↓s_putZ_p, ↓s_putR_p, ↓s_putop_p, ↓s_ast_p, ↓s_zast_p, ↓s_rast_p, ↓s_astop_p, ↓s_callV_p, ↓s_popV_p, ↓s_if_p, ↓s_ite_p, ↓s_itr_p, ↓s_brk_p, ↓s_retI_p, ↓s_retR_p, ↓s_ret_p, ↓s_sw_p, isI_s, isI_z, isL_s, isL_z, isR_s, isR_z, gI_s, gI_z, gL_z, gR_s, gR_z, gA_s, isA_s, bdo_s, arOK_s, isVI_I, isVR_R, vInt_I, vInt_L, vRef_R, lenOf_s, lnOK_s, rHd_c, isHd_c, noL_z, noL_1, noL_s, nl_I, nl_R, nl_U, stI, stR, bd_t, oA, oS, oM, oD, oR, tn_add, tn_mul, tn_nat, eqb_t, eqb_f, ltb_t, ltb_f, leb_t, leb_f, nob_s, nob_n, nat_eq, nat_lt, nat_le, mR_0 F, mR_1 F, mR_2 F, mR_3 F, mR_4 F, mR_5 F, mR_6 F, mR_7 F, mR_8 F, mR_9 F, mR_10 F, mR_11 F, mR_12 F, mR_13 F, mR_15 F, mR_17 F, mR_25 F, mR_26 F, mR_27 F, mR_28 F, mR_29 F, mR_30 F, mR_35 F, mR_36 F, mR_37 F, mR_38 F, mR_40 F, mR_41 F, mR_42 F, mR_43 F, mR_44 F, mR_45 F, mR_46 F, mR_47 F, mK_63 F, mK_64 F, mK_65 F, mK_66 F, mK_67 F, mK_68 F, mK_69 F, mK_70 F, mK_71 F, mK_72 F, mK_73 F, mK_74 F, mK_75 F, mK_76 F, mK_77 F, mK_78 F, mK_79 F, mK_80 F, mK_81 F, mK_82 F, mK_83 F, mK_84 F, mK_85 F, mK_86 F, mK_87 F, mK_88 F, mK_89 F, mK_90 F, mK_91 F, mK_92 F, mK_93 F, mK_94 F, mK_95 F, mK_96 F, mK_97 F]
  refine X9_ties_ok F hr.1 hr.2.1 hr.2.2.1 hr.2.2.2.1 ?_
  rw [show nL (clr I 100) (notes I) = TI I from rfl]
  have ea : o2 f_isub ((a + 1 : Nat) : Int) 1 = (a : Int) := by rw [oS (by omega) (by omega)]; omega
  simp only [t64, es, bodyOf, envOf, exA, catV, rkOK]
  simp (disch := omega) [-Int.not_le, -Int.not_lt, ↓e_ci_p, ↓e_lv_p, ↓l_lv_p, ↓r_lv_p, ↓r_null_p, ↓e_fld_p, ↓r_fld_p, ↓e_ald_p, ↓z_ald_p, ↓r_ald_p, ↓e_len_p, ↓e_op_p, ↓e_dv_p, ↓l_op_p, ↓l_dv_p, ↓l_sh_p, ↓e_lcmp_p, ↓e_l2i_p, ↓e_min_p, ↓c_b_p, ↓c_not_p, ↓c_and_p, ↓c_or_p, ↓c_null_p, ↓c_eq_p, ↓c_ne_p, ↓c_lt_p, ↓c_ge_p, ↓c_gt_p, ↓c_le_p, ↓e_cond_p, ↓x_tern_p, ↓a_nil_p, ↓a_I_p, ↓a_L_p, ↓a_R_p, ↓e_callV_p, ↓r_callV_p, ↓e_callS_p, ↓s_skip_p, ↓s_seq_p, ↓s_st_p, ↓s_stL_p, ↓s_stR_p, ↓s_inc_p, ↓s_put_p, ↓s_putZ_p, ↓s_putR_p, ↓s_putop_p, ↓s_ast_p, ↓s_zast_p, ↓s_rast_p, ↓s_astop_p, ↓s_callV_p, ↓s_popV_p, ↓s_if_p, ↓s_ite_p, ↓s_itr_p, ↓s_brk_p, ↓s_retI_p, ↓s_retR_p, ↓s_ret_p, ↓s_sw_p, isI_s, isI_z, isL_s, isL_z, isR_s, isR_z, gI_s, gI_z, gL_z, gR_s, gR_z, gA_s, isA_s, bdo_s, arOK_s, isVI_I, isVR_R, vInt_I, vInt_L, vRef_R, lenOf_s, lnOK_s, rHd_c, isHd_c, noL_z, noL_1, noL_s, nl_I, nl_R, nl_U, stI, stR, bd_t, oA, oS, oM, oD, oR, tn_add, tn_mul, tn_nat, eqb_t, eqb_f, ltb_t, ltb_f, leb_t, leb_f, nob_s, nob_n, nat_eq, nat_lt, nat_le, mR_0 F, mR_1 F, mR_2 F, mR_3 F, mR_4 F, mR_5 F, mR_6 F, mR_7 F, mR_8 F, mR_9 F, mR_10 F, mR_11 F, mR_12 F, mR_13 F, mR_15 F, mR_17 F, mR_25 F, mR_26 F, mR_27 F, mR_28 F, mR_29 F, mR_30 F, mR_35 F, mR_36 F, mR_37 F, mR_38 F, mR_40 F, mR_41 F, mR_42 F, mR_43 F, mR_44 F, mR_45 F, mR_46 F, mR_47 F, mK_63 F, mK_64 F, mK_65 F, mK_66 F, mK_67 F, mK_68 F, mK_69 F, mK_70 F, mK_71 F, mK_72 F, mK_73 F, mK_74 F, mK_75 F, mK_76 F, mK_77 F, mK_78 F, mK_79 F, mK_80 F, mK_81 F, mK_82 F, mK_83 F, mK_84 F, mK_85 F, mK_86 F, mK_87 F, mK_88 F, mK_89 F, mK_90 F, mK_91 F, mK_92 F, mK_93 F, mK_94 F, mK_95 F, mK_96 F, mK_97 F, t64, es]
  have ea2 : ((a : Int) + 1 - 1) = a := by omega
  try rw [ea2]
  refine X9_chooses_1 F ha hC rfl rfl (fun v3 v4 J h3 h4 hJ hL => ?_)
  simp (disch := omega) [-Int.not_le, -Int.not_lt, ↓e_ci_p, ↓e_lv_p, ↓l_lv_p, ↓r_lv_p, ↓r_null_p, ↓e_fld_p, ↓r_fld_p, ↓e_ald_p, ↓z_ald_p, ↓r_ald_p, ↓e_len_p, ↓e_op_p, ↓e_dv_p, ↓l_op_p, ↓l_dv_p, ↓l_sh_p, ↓e_lcmp_p, ↓e_l2i_p, ↓e_min_p, ↓c_b_p, ↓c_not_p, ↓c_and_p, ↓c_or_p, ↓c_null_p, ↓c_eq_p, ↓c_ne_p, ↓c_lt_p, ↓c_ge_p, ↓c_gt_p, ↓c_le_p, ↓e_cond_p, ↓x_tern_p, ↓a_nil_p, ↓a_I_p, ↓a_L_p, ↓a_R_p, ↓e_callV_p, ↓r_callV_p, ↓e_callS_p, ↓s_skip_p, ↓s_seq_p, ↓s_st_p, ↓s_stL_p, ↓s_stR_p, ↓s_inc_p, ↓s_put_p, ↓s_putZ_p, ↓s_putR_p, ↓s_putop_p, ↓s_ast_p, ↓s_zast_p, ↓s_rast_p, ↓s_astop_p, ↓s_callV_p, ↓s_popV_p, ↓s_if_p, ↓s_ite_p, ↓s_itr_p, ↓s_brk_p, ↓s_retI_p, ↓s_retR_p, ↓s_ret_p, ↓s_sw_p, isI_s, isI_z, isL_s, isL_z, isR_s, isR_z, gI_s, gI_z, gL_z, gR_s, gR_z, gA_s, isA_s, bdo_s, arOK_s, isVI_I, isVR_R, vInt_I, vInt_L, vRef_R, lenOf_s, lnOK_s, rHd_c, isHd_c, noL_z, noL_1, noL_s, nl_I, nl_R, nl_U, stI, stR, bd_t, oA, oS, oM, oD, oR, tn_add, tn_mul, tn_nat, eqb_t, eqb_f, ltb_t, ltb_f, leb_t, leb_f, nob_s, nob_n, nat_eq, nat_lt, nat_le, mR_0 F, mR_1 F, mR_2 F, mR_3 F, mR_4 F, mR_5 F, mR_6 F, mR_7 F, mR_8 F, mR_9 F, mR_10 F, mR_11 F, mR_12 F, mR_13 F, mR_15 F, mR_17 F, mR_25 F, mR_26 F, mR_27 F, mR_28 F, mR_29 F, mR_30 F, mR_35 F, mR_36 F, mR_37 F, mR_38 F, mR_40 F, mR_41 F, mR_42 F, mR_43 F, mR_44 F, mR_45 F, mR_46 F, mR_47 F, mK_63 F, mK_64 F, mK_65 F, mK_66 F, mK_67 F, mK_68 F, mK_69 F, mK_70 F, mK_71 F, mK_72 F, mK_73 F, mK_74 F, mK_75 F, mK_76 F, mK_77 F, mK_78 F, mK_79 F, mK_80 F, mK_81 F, mK_82 F, mK_83 F, mK_84 F, mK_85 F, mK_86 F, mK_87 F, mK_88 F, mK_89 F, mK_90 F, mK_91 F, mK_92 F, mK_93 F, mK_94 F, mK_95 F, mK_96 F, mK_97 F, h3]
  have hC' : CH J (Cc I (I 79) (I 63 18)) n := CH_row hC (hJ 64 (by decide)) (hJ 87 (by decide))
  refine X9_chooses_3 F hC' hL h4 (J := J) rfl ⟨fun _ _ _ => rfl, fun j h => by omega, fun x _ h => by simp [sk] at h⟩ (fun v4 J' h4 hQ => ?_)
  simp (disch := omega) [-Int.not_le, -Int.not_lt, ↓e_ci_p, ↓e_lv_p, ↓l_lv_p, ↓r_lv_p, ↓r_null_p, ↓e_fld_p, ↓r_fld_p, ↓e_ald_p, ↓z_ald_p, ↓r_ald_p, ↓e_len_p, ↓e_op_p, ↓e_dv_p, ↓l_op_p, ↓l_dv_p, ↓l_sh_p, ↓e_lcmp_p, ↓e_l2i_p, ↓e_min_p, ↓c_b_p, ↓c_not_p, ↓c_and_p, ↓c_or_p, ↓c_null_p, ↓c_eq_p, ↓c_ne_p, ↓c_lt_p, ↓c_ge_p, ↓c_gt_p, ↓c_le_p, ↓e_cond_p, ↓x_tern_p, ↓a_nil_p, ↓a_I_p, ↓a_L_p, ↓a_R_p, ↓e_callV_p, ↓r_callV_p, ↓e_callS_p, ↓s_skip_p, ↓s_seq_p, ↓s_st_p, ↓s_stL_p, ↓s_stR_p, ↓s_inc_p, ↓s_put_p, ↓s_putZ_p, ↓s_putR_p, ↓s_putop_p, ↓s_ast_p, ↓s_zast_p, ↓s_rast_p, ↓s_astop_p, ↓s_callV_p, ↓s_popV_p, ↓s_if_p, ↓s_ite_p, ↓s_itr_p, ↓s_brk_p, ↓s_retI_p, ↓s_retR_p, ↓s_ret_p, ↓s_sw_p, isI_s, isI_z, isL_s, isL_z, isR_s, isR_z, gI_s, gI_z, gL_z, gR_s, gR_z, gA_s, isA_s, bdo_s, arOK_s, isVI_I, isVR_R, vInt_I, vInt_L, vRef_R, lenOf_s, lnOK_s, rHd_c, isHd_c, noL_z, noL_1, noL_s, nl_I, nl_R, nl_U, stI, stR, bd_t, oA, oS, oM, oD, oR, tn_add, tn_mul, tn_nat, eqb_t, eqb_f, ltb_t, ltb_f, leb_t, leb_f, nob_s, nob_n, nat_eq, nat_lt, nat_le, mR_0 F, mR_1 F, mR_2 F, mR_3 F, mR_4 F, mR_5 F, mR_6 F, mR_7 F, mR_8 F, mR_9 F, mR_10 F, mR_11 F, mR_12 F, mR_13 F, mR_15 F, mR_17 F, mR_25 F, mR_26 F, mR_27 F, mR_28 F, mR_29 F, mR_30 F, mR_35 F, mR_36 F, mR_37 F, mR_38 F, mR_40 F, mR_41 F, mR_42 F, mR_43 F, mR_44 F, mR_45 F, mR_46 F, mR_47 F, mK_63 F, mK_64 F, mK_65 F, mK_66 F, mK_67 F, mK_68 F, mK_69 F, mK_70 F, mK_71 F, mK_72 F, mK_73 F, mK_74 F, mK_75 F, mK_76 F, mK_77 F, mK_78 F, mK_79 F, mK_80 F, mK_81 F, mK_82 F, mK_83 F, mK_84 F, mK_85 F, mK_86 F, mK_87 F, mK_88 F, mK_89 F, mK_90 F, mK_91 F, mK_92 F, mK_93 F, mK_94 F, mK_95 F, mK_96 F, mK_97 F]
  obtain ⟨q1, q2, q3⟩ := hQ
  have e90 : J' 90 = J 90 := q1 90 (by decide) (by decide)
  refine hk J' (fun x hx => ?_) ⟨by rw [e90]; exact hL, fun j hj => by rw [e90]; exact q2 j hj, fun x hx => ?_⟩
  · have : x ≠ 90 ∧ x ≠ 91 ∧ x ≠ 92 := by unfold scr at hx; omega
    rw [q1 x this.2.1 this.2.2, hJ x this.1]
  · rw [e90]
    obtain ⟨s1, s2⟩ := sk_ok c1 hn hL (Nat.le_refl n)
    exact q3 x hx (cb_full s2 hx)
end MC
