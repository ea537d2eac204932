/-! the class's programs: changes, on -/
section CN
variable {kd : List (Nat × Nat)} {R : Nat → Nat → Option Nat} {I G : Nat → Nat → Int} {K : AV → XS → Prop} {a : Nat}
theorem X3_setHome_eq (hP : isProg kd R a) {what : Int} {i : Nat} {part : Int} (hw : 0 ≤ what ∧ what ≤ 2) (hi : i < 20) : B_X3_setHome [vR (some a), vI what, vI (i : Int), vI part] (kd, I, R) K = K vU (kd, upI I (a + 2) (20 * what.toNat + i) part, R) := by
  simp [B_X3_setHome, bodyOf, envOf, exA, catV, rkOK]
  rcases (show what = 0 ∨ what = 1 ∨ what = 2 by omega) with rfl | rfl | rfl <;> simp (disch := omega) [t_X3_setHome, -Int.not_le, -Int.not_lt, ↓e_ci_p, ↓r_null_p, ↓a_nil_p, ↓s_skip_p, ↓s_inc_p, ↓s_brk_p, ↓s_ret_p, ↓lvI_s, ↓lvI_z, ↓lvL_s, ↓lvL_z, ↓lvR_s, ↓lvR_z, ↓e_lv_q, ↓l_lv_q, ↓r_lv_q, ↓kFld_q, ↓e_fld_q, ↓kFlR_q, ↓r_fld_q, ↓kAl1_q, ↓kAl2_q, ↓e_ald_q, ↓z_ald_q, ↓kAr1_q, ↓kAr2_q, ↓r_ald_q, ↓kLen_q, ↓e_len_q, ↓kO1_q, ↓kO2_q, ↓kD1_q, ↓kD2_q, ↓e_op_q, ↓e_dv_q, ↓l_op_q, ↓l_dv_q, ↓l_sh_q, ↓e_lcmp_q, ↓e_min_q, ↓kL2i_q, ↓e_l2i_q, ↓kB1_q, ↓kB2_q, ↓c_eq_q, ↓c_ne_q, ↓c_lt_q, ↓c_ge_q, ↓c_gt_q, ↓c_le_q, ↓kCb_q, ↓kCb_0, ↓kCb_1, ↓c_b_q, ↓kNot_q, ↓c_not_q, ↓kAnd_q, ↓c_and_q, ↓kOr_q, ↓c_or_q, ↓kNul_q, ↓c_null_q, ↓kCond_q, ↓e_cond_q, ↓kTern_q, ↓x_tern_q, ↓kA2_q, ↓kAI_q, ↓kAL_q, ↓kAR_q, ↓a_I_q, ↓a_L_q, ↓a_R_q, ↓kCall_q, ↓kCalS_q, ↓kRI_q, ↓kRR_q, ↓kRU_q, ↓kRP_q, ↓e_callV_q, ↓r_callV_q, ↓e_callS_q, ↓s_callV_q, ↓s_popV_q, ↓s_seq_q, ↓kSt_q, ↓s_st_q, ↓kStL_q, ↓s_stL_q, ↓kStR_q, ↓s_stR_q, ↓kPut1_q, ↓kPut2_q, ↓s_put_q, ↓kPz1_q, ↓kPz2_q, ↓s_putZ_q, ↓kPr1_q, ↓kPr2_q, ↓s_putR_q, ↓kPo1_q, ↓kPo2_q, ↓s_putop_q, ↓kAs1_q, ↓kAs2_q, ↓kAs3_q, ↓s_ast_q, ↓kZs1_q, ↓kZs2_q, ↓kZs3_q, ↓s_zast_q, ↓kRs1_q, ↓kRs2_q, ↓kRs3_q, ↓s_rast_q, ↓kAo1_q, ↓kAo2_q, ↓kAo3_q, ↓s_astop_q, ↓kIf_q, ↓s_if_q, ↓kIte_q, ↓s_ite_q, ↓kItr_q, ↓s_itr_q, ↓kRet_q, ↓s_retI_q, ↓kReR_q, ↓s_retR_q, ↓kSw_q, ↓s_sw_q, lvI_s, lvI_z, lvL_s, lvL_z, lvR_s, lvR_z, kFld_q, kFlR_q, kAl1_q, kAl2_q, kAr1_q, kAr2_q, kLen_q, kO1_q, kO2_q, kD1_q, kD2_q, kL2i_q, kB1_q, kB2_q, kCb_q, kCb_0, kCb_1, kNot_q, kAnd_q, kOr_q, kNul_q, kCond_q, kTern_q, kA2_q, kAI_q, kAL_q, kAR_q, kCall_q, kCalS_q, kRI_q, kRR_q, kRU_q, kRP_q, kSt_q, kStL_q, kStR_q, kPut1_q, kPut2_q, kPz1_q, kPz2_q, kPr1_q, kPr2_q, kPo1_q, kPo2_q, kAs1_q, kAs2_q, kAs3_q, kZs1_q, kZs2_q, kZs3_q, kRs1_q, kRs2_q, kRs3_q, kAo1_q, kAo2_q, kAo3_q, kIf_q, kIte_q, kItr_q, kRet_q, kReR_q, kSw_q, neb_q, gtb_q, geb_q, lnB_s, isI_s, isI_z, gI_s, gI_z, gR_s, gR_z, gA_s, isA_s, bdo_s, rHd_c, isHd_c, noL_z, noL_1, noL_s, nl_I, nl_R, nl_U, stI, stR, bd_t, oA, oS, oM, oD, oR, tn_add, tn_mul, tn_nat, eqb_t, eqb_f, ltb_t, ltb_f, leb_t, leb_f, nob_s, nob_n, nat_eq, nat_lt, nat_le, pK0 hP, pK1 hP, pK2 hP, pK3 hP, pK4 hP, pK5 hP, pK6 hP, pK7 hP, pK8 hP, pR1 hP, pR2 hP, pR3 hP, pR4 hP, pR5 hP, pR6 hP, pR7 hP, pR8 hP]
theorem X3_setAct_eq (hP : isProg kd R a) {r i : Nat} {o m : Int} (hr : r < 20) (hi : i < 10) (ho : 0 ≤ o ∧ o ≤ 6) (hm : 0 ≤ m ∧ m ≤ 999) : B_X3_setAct [vR (some a), vI (r : Int), vI (i : Int), vI o, vI m] (kd, I, R) K = K vU (kd, upI I (a + 4) (10 * r + i) (1000 * o + m), R) := by
  have e : r * 10 + i = 10 * r + i := by omega
  simp [B_X3_setAct, bodyOf, envOf, exA, catV, rkOK]
  simp (disch := omega) [t_X3_setAct, -Int.not_le, -Int.not_lt, ↓e_ci_p, ↓r_null_p, ↓a_nil_p, ↓s_skip_p, ↓s_inc_p, ↓s_brk_p, ↓s_ret_p, ↓lvI_s, ↓lvI_z, ↓lvL_s, ↓lvL_z, ↓lvR_s, ↓lvR_z, ↓e_lv_q, ↓l_lv_q, ↓r_lv_q, ↓kFld_q, ↓e_fld_q, ↓kFlR_q, ↓r_fld_q, ↓kAl1_q, ↓kAl2_q, ↓e_ald_q, ↓z_ald_q, ↓kAr1_q, ↓kAr2_q, ↓r_ald_q, ↓kLen_q, ↓e_len_q, ↓kO1_q, ↓kO2_q, ↓kD1_q, ↓kD2_q, ↓e_op_q, ↓e_dv_q, ↓l_op_q, ↓l_dv_q, ↓l_sh_q, ↓e_lcmp_q, ↓e_min_q, ↓kL2i_q, ↓e_l2i_q, ↓kB1_q, ↓kB2_q, ↓c_eq_q, ↓c_ne_q, ↓c_lt_q, ↓c_ge_q, ↓c_gt_q, ↓c_le_q, ↓kCb_q, ↓kCb_0, ↓kCb_1, ↓c_b_q, ↓kNot_q, ↓c_not_q, ↓kAnd_q, ↓c_and_q, ↓kOr_q, ↓c_or_q, ↓kNul_q, ↓c_null_q, ↓kCond_q, ↓e_cond_q, ↓kTern_q, ↓x_tern_q, ↓kA2_q, ↓kAI_q, ↓kAL_q, ↓kAR_q, ↓a_I_q, ↓a_L_q, ↓a_R_q, ↓kCall_q, ↓kCalS_q, ↓kRI_q, ↓kRR_q, ↓kRU_q, ↓kRP_q, ↓e_callV_q, ↓r_callV_q, ↓e_callS_q, ↓s_callV_q, ↓s_popV_q, ↓s_seq_q, ↓kSt_q, ↓s_st_q, ↓kStL_q, ↓s_stL_q, ↓kStR_q, ↓s_stR_q, ↓kPut1_q, ↓kPut2_q, ↓s_put_q, ↓kPz1_q, ↓kPz2_q, ↓s_putZ_q, ↓kPr1_q, ↓kPr2_q, ↓s_putR_q, ↓kPo1_q, ↓kPo2_q, ↓s_putop_q, ↓kAs1_q, ↓kAs2_q, ↓kAs3_q, ↓s_ast_q, ↓kZs1_q, ↓kZs2_q, ↓kZs3_q, ↓s_zast_q, ↓kRs1_q, ↓kRs2_q, ↓kRs3_q, ↓s_rast_q, ↓kAo1_q, ↓kAo2_q, ↓kAo3_q, ↓s_astop_q, ↓kIf_q, ↓s_if_q, ↓kIte_q, ↓s_ite_q, ↓kItr_q, ↓s_itr_q, ↓kRet_q, ↓s_retI_q, ↓kReR_q, ↓s_retR_q, ↓kSw_q, ↓s_sw_q, lvI_s, lvI_z, lvL_s, lvL_z, lvR_s, lvR_z, kFld_q, kFlR_q, kAl1_q, kAl2_q, kAr1_q, kAr2_q, kLen_q, kO1_q, kO2_q, kD1_q, kD2_q, kL2i_q, kB1_q, kB2_q, kCb_q, kCb_0, kCb_1, kNot_q, kAnd_q, kOr_q, kNul_q, kCond_q, kTern_q, kA2_q, kAI_q, kAL_q, kAR_q, kCall_q, kCalS_q, kRI_q, kRR_q, kRU_q, kRP_q, kSt_q, kStL_q, kStR_q, kPut1_q, kPut2_q, kPz1_q, kPz2_q, kPr1_q, kPr2_q, kPo1_q, kPo2_q, kAs1_q, kAs2_q, kAs3_q, kZs1_q, kZs2_q, kZs3_q, kRs1_q, kRs2_q, kRs3_q, kAo1_q, kAo2_q, kAo3_q, kIf_q, kIte_q, kItr_q, kRet_q, kReR_q, kSw_q, neb_q, gtb_q, geb_q, lnB_s, isI_s, isI_z, gI_s, gI_z, gR_s, gR_z, gA_s, isA_s, bdo_s, rHd_c, isHd_c, noL_z, noL_1, noL_s, nl_I, nl_R, nl_U, stI, stR, bd_t, oA, oS, oM, oD, oR, tn_add, tn_mul, tn_nat, eqb_t, eqb_f, ltb_t, ltb_f, leb_t, leb_f, nob_s, nob_n, nat_eq, nat_lt, nat_le, pK0 hP, pK1 hP, pK2 hP, pK3 hP, pK4 hP, pK5 hP, pK6 hP, pK7 hP, pK8 hP, pR1 hP, pR2 hP, pR3 hP, pR4 hP, pR5 hP, pR6 hP, pR7 hP, pR8 hP, e]
theorem X3_addThing_ok (hP : isProg kd R a) (hC : RC I a G) {what part : Int} {m : Nat} (hwh : 0 ≤ what ∧ what ≤ 2) (hm : cntOf G what = (m : Int)) (hl : cntOf G what < limOf what) (hk : K (vI (m : Int)) (kd, thI I a what m part, R)) : B_X3_addThing [vR (some a), vI what, vI part] (kd, I, R) K := by
  have ht := tot_at hC hwh
  rw [hm] at ht hl
  have hl20 : limOf what ≤ 20 := by unfold limOf; repeat' split
                                    all_goals omega
  have hs := fun (I : Nat → Nat → Int) (K : AV → XS → Prop) => X3_setHome_eq (I := I) (K := K) (part := part) hP hwh (show m < 20 by omega)
  simp [B_X3_addThing, bodyOf, envOf, exA, catV, rkOK]
  rcases (show what = 0 ∨ what = 1 ∨ what = 2 by omega) with rfl | rfl | rfl
  · have ht' : I (a + 1) 0 = (m : Int) := ht
    simp [thI] at hk
    simp (disch := omega) [t_X3_addThing, -Int.not_le, -Int.not_lt, ↓e_ci_p, ↓r_null_p, ↓a_nil_p, ↓s_skip_p, ↓s_inc_p, ↓s_brk_p, ↓s_ret_p, ↓lvI_s, ↓lvI_z, ↓lvL_s, ↓lvL_z, ↓lvR_s, ↓lvR_z, ↓e_lv_q, ↓l_lv_q, ↓r_lv_q, ↓kFld_q, ↓e_fld_q, ↓kFlR_q, ↓r_fld_q, ↓kAl1_q, ↓kAl2_q, ↓e_ald_q, ↓z_ald_q, ↓kAr1_q, ↓kAr2_q, ↓r_ald_q, ↓kLen_q, ↓e_len_q, ↓kO1_q, ↓kO2_q, ↓kD1_q, ↓kD2_q, ↓e_op_q, ↓e_dv_q, ↓l_op_q, ↓l_dv_q, ↓l_sh_q, ↓e_lcmp_q, ↓e_min_q, ↓kL2i_q, ↓e_l2i_q, ↓kB1_q, ↓kB2_q, ↓c_eq_q, ↓c_ne_q, ↓c_lt_q, ↓c_ge_q, ↓c_gt_q, ↓c_le_q, ↓kCb_q, ↓kCb_0, ↓kCb_1, ↓c_b_q, ↓kNot_q, ↓c_not_q, ↓kAnd_q, ↓c_and_q, ↓kOr_q, ↓c_or_q, ↓kNul_q, ↓c_null_q, ↓kCond_q, ↓e_cond_q, ↓kTern_q, ↓x_tern_q, ↓kA2_q, ↓kAI_q, ↓kAL_q, ↓kAR_q, ↓a_I_q, ↓a_L_q, ↓a_R_q, ↓kCall_q, ↓kCalS_q, ↓kRI_q, ↓kRR_q, ↓kRU_q, ↓kRP_q, ↓e_callV_q, ↓r_callV_q, ↓e_callS_q, ↓s_callV_q, ↓s_popV_q, ↓s_seq_q, ↓kSt_q, ↓s_st_q, ↓kStL_q, ↓s_stL_q, ↓kStR_q, ↓s_stR_q, ↓kPut1_q, ↓kPut2_q, ↓s_put_q, ↓kPz1_q, ↓kPz2_q, ↓s_putZ_q, ↓kPr1_q, ↓kPr2_q, ↓s_putR_q, ↓kPo1_q, ↓kPo2_q, ↓s_putop_q, ↓kAs1_q, ↓kAs2_q, ↓kAs3_q, ↓s_ast_q, ↓kZs1_q, ↓kZs2_q, ↓kZs3_q, ↓s_zast_q, ↓kRs1_q, ↓kRs2_q, ↓kRs3_q, ↓s_rast_q, ↓kAo1_q, ↓kAo2_q, ↓kAo3_q, ↓s_astop_q, ↓kIf_q, ↓s_if_q, ↓kIte_q, ↓s_ite_q, ↓kItr_q, ↓s_itr_q, ↓kRet_q, ↓s_retI_q, ↓kReR_q, ↓s_retR_q, ↓kSw_q, ↓s_sw_q, lvI_s, lvI_z, lvL_s, lvL_z, lvR_s, lvR_z, kFld_q, kFlR_q, kAl1_q, kAl2_q, kAr1_q, kAr2_q, kLen_q, kO1_q, kO2_q, kD1_q, kD2_q, kL2i_q, kB1_q, kB2_q, kCb_q, kCb_0, kCb_1, kNot_q, kAnd_q, kOr_q, kNul_q, kCond_q, kTern_q, kA2_q, kAI_q, kAL_q, kAR_q, kCall_q, kCalS_q, kRI_q, kRR_q, kRU_q, kRP_q, kSt_q, kStL_q, kStR_q, kPut1_q, kPut2_q, kPz1_q, kPz2_q, kPr1_q, kPr2_q, kPo1_q, kPo2_q, kAs1_q, kAs2_q, kAs3_q, kZs1_q, kZs2_q, kZs3_q, kRs1_q, kRs2_q, kRs3_q, kAo1_q, kAo2_q, kAo3_q, kIf_q, kIte_q, kItr_q, kRet_q, kReR_q, kSw_q, neb_q, gtb_q, geb_q, lnB_s, isI_s, isI_z, gI_s, gI_z, gR_s, gR_z, gA_s, isA_s, bdo_s, rHd_c, isHd_c, noL_z, noL_1, noL_s, nl_I, nl_R, nl_U, stI, stR, bd_t, oA, oS, oM, oD, oR, tn_add, tn_mul, tn_nat, eqb_t, eqb_f, ltb_t, ltb_f, leb_t, leb_f, nob_s, nob_n, nat_eq, nat_lt, nat_le, pK0 hP, pK1 hP, pK2 hP, pK3 hP, pK4 hP, pK5 hP, pK6 hP, pK7 hP, pK8 hP, pR1 hP, pR2 hP, pR3 hP, pR4 hP, pR5 hP, pR6 hP, pR7 hP, pR8 hP, ht', hs]
    exact hk
  · have ht' : I (a + 1) 1 = (m : Int) := ht
    simp [thI] at hk
    simp (disch := omega) [t_X3_addThing, -Int.not_le, -Int.not_lt, ↓e_ci_p, ↓r_null_p, ↓a_nil_p, ↓s_skip_p, ↓s_inc_p, ↓s_brk_p, ↓s_ret_p, ↓lvI_s, ↓lvI_z, ↓lvL_s, ↓lvL_z, ↓lvR_s, ↓lvR_z, ↓e_lv_q, ↓l_lv_q, ↓r_lv_q, ↓kFld_q, ↓e_fld_q, ↓kFlR_q, ↓r_fld_q, ↓kAl1_q, ↓kAl2_q, ↓e_ald_q, ↓z_ald_q, ↓kAr1_q, ↓kAr2_q, ↓r_ald_q, ↓kLen_q, ↓e_len_q, ↓kO1_q, ↓kO2_q, ↓kD1_q, ↓kD2_q, ↓e_op_q, ↓e_dv_q, ↓l_op_q, ↓l_dv_q, ↓l_sh_q, ↓e_lcmp_q, ↓e_min_q, ↓kL2i_q, ↓e_l2i_q, ↓kB1_q, ↓kB2_q, ↓c_eq_q, ↓c_ne_q, ↓c_lt_q, ↓c_ge_q, ↓c_gt_q, ↓c_le_q, ↓kCb_q, ↓kCb_0, ↓kCb_1, ↓c_b_q, ↓kNot_q, ↓c_not_q, ↓kAnd_q, ↓c_and_q, ↓kOr_q, ↓c_or_q, ↓kNul_q, ↓c_null_q, ↓kCond_q, ↓e_cond_q, ↓kTern_q, ↓x_tern_q, ↓kA2_q, ↓kAI_q, ↓kAL_q, ↓kAR_q, ↓a_I_q, ↓a_L_q, ↓a_R_q, ↓kCall_q, ↓kCalS_q, ↓kRI_q, ↓kRR_q, ↓kRU_q, ↓kRP_q, ↓e_callV_q, ↓r_callV_q, ↓e_callS_q, ↓s_callV_q, ↓s_popV_q, ↓s_seq_q, ↓kSt_q, ↓s_st_q, ↓kStL_q, ↓s_stL_q, ↓kStR_q, ↓s_stR_q, ↓kPut1_q, ↓kPut2_q, ↓s_put_q, ↓kPz1_q, ↓kPz2_q, ↓s_putZ_q, ↓kPr1_q, ↓kPr2_q, ↓s_putR_q, ↓kPo1_q, ↓kPo2_q, ↓s_putop_q, ↓kAs1_q, ↓kAs2_q, ↓kAs3_q, ↓s_ast_q, ↓kZs1_q, ↓kZs2_q, ↓kZs3_q, ↓s_zast_q, ↓kRs1_q, ↓kRs2_q, ↓kRs3_q, ↓s_rast_q, ↓kAo1_q, ↓kAo2_q, ↓kAo3_q, ↓s_astop_q, ↓kIf_q, ↓s_if_q, ↓kIte_q, ↓s_ite_q, ↓kItr_q, ↓s_itr_q, ↓kRet_q, ↓s_retI_q, ↓kReR_q, ↓s_retR_q, ↓kSw_q, ↓s_sw_q, lvI_s, lvI_z, lvL_s, lvL_z, lvR_s, lvR_z, kFld_q, kFlR_q, kAl1_q, kAl2_q, kAr1_q, kAr2_q, kLen_q, kO1_q, kO2_q, kD1_q, kD2_q, kL2i_q, kB1_q, kB2_q, kCb_q, kCb_0, kCb_1, kNot_q, kAnd_q, kOr_q, kNul_q, kCond_q, kTern_q, kA2_q, kAI_q, kAL_q, kAR_q, kCall_q, kCalS_q, kRI_q, kRR_q, kRU_q, kRP_q, kSt_q, kStL_q, kStR_q, kPut1_q, kPut2_q, kPz1_q, kPz2_q, kPr1_q, kPr2_q, kPo1_q, kPo2_q, kAs1_q, kAs2_q, kAs3_q, kZs1_q, kZs2_q, kZs3_q, kRs1_q, kRs2_q, kRs3_q, kAo1_q, kAo2_q, kAo3_q, kIf_q, kIte_q, kItr_q, kRet_q, kReR_q, kSw_q, neb_q, gtb_q, geb_q, lnB_s, isI_s, isI_z, gI_s, gI_z, gR_s, gR_z, gA_s, isA_s, bdo_s, rHd_c, isHd_c, noL_z, noL_1, noL_s, nl_I, nl_R, nl_U, stI, stR, bd_t, oA, oS, oM, oD, oR, tn_add, tn_mul, tn_nat, eqb_t, eqb_f, ltb_t, ltb_f, leb_t, leb_f, nob_s, nob_n, nat_eq, nat_lt, nat_le, pK0 hP, pK1 hP, pK2 hP, pK3 hP, pK4 hP, pK5 hP, pK6 hP, pK7 hP, pK8 hP, pR1 hP, pR2 hP, pR3 hP, pR4 hP, pR5 hP, pR6 hP, pR7 hP, pR8 hP, ht', hs]
    exact hk
  · have ht' : I (a + 1) 2 = (m : Int) := ht
    simp [thI] at hk
    simp (disch := omega) [t_X3_addThing, -Int.not_le, -Int.not_lt, ↓e_ci_p, ↓r_null_p, ↓a_nil_p, ↓s_skip_p, ↓s_inc_p, ↓s_brk_p, ↓s_ret_p, ↓lvI_s, ↓lvI_z, ↓lvL_s, ↓lvL_z, ↓lvR_s, ↓lvR_z, ↓e_lv_q, ↓l_lv_q, ↓r_lv_q, ↓kFld_q, ↓e_fld_q, ↓kFlR_q, ↓r_fld_q, ↓kAl1_q, ↓kAl2_q, ↓e_ald_q, ↓z_ald_q, ↓kAr1_q, ↓kAr2_q, ↓r_ald_q, ↓kLen_q, ↓e_len_q, ↓kO1_q, ↓kO2_q, ↓kD1_q, ↓kD2_q, ↓e_op_q, ↓e_dv_q, ↓l_op_q, ↓l_dv_q, ↓l_sh_q, ↓e_lcmp_q, ↓e_min_q, ↓kL2i_q, ↓e_l2i_q, ↓kB1_q, ↓kB2_q, ↓c_eq_q, ↓c_ne_q, ↓c_lt_q, ↓c_ge_q, ↓c_gt_q, ↓c_le_q, ↓kCb_q, ↓kCb_0, ↓kCb_1, ↓c_b_q, ↓kNot_q, ↓c_not_q, ↓kAnd_q, ↓c_and_q, ↓kOr_q, ↓c_or_q, ↓kNul_q, ↓c_null_q, ↓kCond_q, ↓e_cond_q, ↓kTern_q, ↓x_tern_q, ↓kA2_q, ↓kAI_q, ↓kAL_q, ↓kAR_q, ↓a_I_q, ↓a_L_q, ↓a_R_q, ↓kCall_q, ↓kCalS_q, ↓kRI_q, ↓kRR_q, ↓kRU_q, ↓kRP_q, ↓e_callV_q, ↓r_callV_q, ↓e_callS_q, ↓s_callV_q, ↓s_popV_q, ↓s_seq_q, ↓kSt_q, ↓s_st_q, ↓kStL_q, ↓s_stL_q, ↓kStR_q, ↓s_stR_q, ↓kPut1_q, ↓kPut2_q, ↓s_put_q, ↓kPz1_q, ↓kPz2_q, ↓s_putZ_q, ↓kPr1_q, ↓kPr2_q, ↓s_putR_q, ↓kPo1_q, ↓kPo2_q, ↓s_putop_q, ↓kAs1_q, ↓kAs2_q, ↓kAs3_q, ↓s_ast_q, ↓kZs1_q, ↓kZs2_q, ↓kZs3_q, ↓s_zast_q, ↓kRs1_q, ↓kRs2_q, ↓kRs3_q, ↓s_rast_q, ↓kAo1_q, ↓kAo2_q, ↓kAo3_q, ↓s_astop_q, ↓kIf_q, ↓s_if_q, ↓kIte_q, ↓s_ite_q, ↓kItr_q, ↓s_itr_q, ↓kRet_q, ↓s_retI_q, ↓kReR_q, ↓s_retR_q, ↓kSw_q, ↓s_sw_q, lvI_s, lvI_z, lvL_s, lvL_z, lvR_s, lvR_z, kFld_q, kFlR_q, kAl1_q, kAl2_q, kAr1_q, kAr2_q, kLen_q, kO1_q, kO2_q, kD1_q, kD2_q, kL2i_q, kB1_q, kB2_q, kCb_q, kCb_0, kCb_1, kNot_q, kAnd_q, kOr_q, kNul_q, kCond_q, kTern_q, kA2_q, kAI_q, kAL_q, kAR_q, kCall_q, kCalS_q, kRI_q, kRR_q, kRU_q, kRP_q, kSt_q, kStL_q, kStR_q, kPut1_q, kPut2_q, kPz1_q, kPz2_q, kPr1_q, kPr2_q, kPo1_q, kPo2_q, kAs1_q, kAs2_q, kAs3_q, kZs1_q, kZs2_q, kZs3_q, kRs1_q, kRs2_q, kRs3_q, kAo1_q, kAo2_q, kAo3_q, kIf_q, kIte_q, kItr_q, kRet_q, kReR_q, kSw_q, neb_q, gtb_q, geb_q, lnB_s, isI_s, isI_z, gI_s, gI_z, gR_s, gR_z, gA_s, isA_s, bdo_s, rHd_c, isHd_c, noL_z, noL_1, noL_s, nl_I, nl_R, nl_U, stI, stR, bd_t, oA, oS, oM, oD, oR, tn_add, tn_mul, tn_nat, eqb_t, eqb_f, ltb_t, ltb_f, leb_t, leb_f, nob_s, nob_n, nat_eq, nat_lt, nat_le, pK0 hP, pK1 hP, pK2 hP, pK3 hP, pK4 hP, pK5 hP, pK6 hP, pK7 hP, pK8 hP, pR1 hP, pR2 hP, pR3 hP, pR4 hP, pR5 hP, pR6 hP, pR7 hP, pR8 hP, ht', hs]
    exact hk
theorem thI_fr {what part : Int} {m : Nat} : frA a I (thI I a what m part) := by
  unfold thI; repeat' split
  · exact frA_up (frA_up (frA_up frA_refl (by omega)) (by omega)) (by omega)
  · exact frA_up (frA_up frA_refl (by omega)) (by omega)
  · exact frA_up (frA_up frA_refl (by omega)) (by omega)
theorem X3_isFull_eq (hP : isProg kd R a) (hC : RC I a G) {what : Int} (hwh : 0 ≤ what ∧ what ≤ 2) : B_X3_isFull [vR (some a), vI what] (kd, I, R) K = K (vI (if limOf what ≤ cntOf G what then 1 else 0)) (kd, I, R) := by
  have ht := tot_at hC hwh
  have hlim : ∀ K : Int → XS → Prop, ∀ st, e_lim 1 [vR (some a), vI what] st K = K (limOf what) st := by
    intro K st
    apply propext
    unfold e_lim
    constructor
    · rintro ⟨x, h1, h2, h3, h4⟩
      have : x = what := by simpa using h1.symm
      subst this
      rcases (show x = 0 ∨ x = 1 ∨ x = 2 by omega) with rfl | rfl | rfl <;> exact h4
    · intro h
      refine ⟨what, rfl, by omega, by omega, ?_⟩
      rcases (show what = 0 ∨ what = 1 ∨ what = 2 by omega) with rfl | rfl | rfl <;> exact h
  simp [B_X3_isFull, bodyOf, envOf, exA, catV, rkOK]
  by_cases c : limOf what ≤ cntOf G what <;> simp (disch := omega) [t_X3_isFull, -Int.not_le, -Int.not_lt, ↓e_ci_p, ↓r_null_p, ↓a_nil_p, ↓s_skip_p, ↓s_inc_p, ↓s_brk_p, ↓s_ret_p, ↓lvI_s, ↓lvI_z, ↓lvL_s, ↓lvL_z, ↓lvR_s, ↓lvR_z, ↓e_lv_q, ↓l_lv_q, ↓r_lv_q, ↓kFld_q, ↓e_fld_q, ↓kFlR_q, ↓r_fld_q, ↓kAl1_q, ↓kAl2_q, ↓e_ald_q, ↓z_ald_q, ↓kAr1_q, ↓kAr2_q, ↓r_ald_q, ↓kLen_q, ↓e_len_q, ↓kO1_q, ↓kO2_q, ↓kD1_q, ↓kD2_q, ↓e_op_q, ↓e_dv_q, ↓l_op_q, ↓l_dv_q, ↓l_sh_q, ↓e_lcmp_q, ↓e_min_q, ↓kL2i_q, ↓e_l2i_q, ↓kB1_q, ↓kB2_q, ↓c_eq_q, ↓c_ne_q, ↓c_lt_q, ↓c_ge_q, ↓c_gt_q, ↓c_le_q, ↓kCb_q, ↓kCb_0, ↓kCb_1, ↓c_b_q, ↓kNot_q, ↓c_not_q, ↓kAnd_q, ↓c_and_q, ↓kOr_q, ↓c_or_q, ↓kNul_q, ↓c_null_q, ↓kCond_q, ↓e_cond_q, ↓kTern_q, ↓x_tern_q, ↓kA2_q, ↓kAI_q, ↓kAL_q, ↓kAR_q, ↓a_I_q, ↓a_L_q, ↓a_R_q, ↓kCall_q, ↓kCalS_q, ↓kRI_q, ↓kRR_q, ↓kRU_q, ↓kRP_q, ↓e_callV_q, ↓r_callV_q, ↓e_callS_q, ↓s_callV_q, ↓s_popV_q, ↓s_seq_q, ↓kSt_q, ↓s_st_q, ↓kStL_q, ↓s_stL_q, ↓kStR_q, ↓s_stR_q, ↓kPut1_q, ↓kPut2_q, ↓s_put_q, ↓kPz1_q, ↓kPz2_q, ↓s_putZ_q, ↓kPr1_q, ↓kPr2_q, ↓s_putR_q, ↓kPo1_q, ↓kPo2_q, ↓s_putop_q, ↓kAs1_q, ↓kAs2_q, ↓kAs3_q, ↓s_ast_q, ↓kZs1_q, ↓kZs2_q, ↓kZs3_q, ↓s_zast_q, ↓kRs1_q, ↓kRs2_q, ↓kRs3_q, ↓s_rast_q, ↓kAo1_q, ↓kAo2_q, ↓kAo3_q, ↓s_astop_q, ↓kIf_q, ↓s_if_q, ↓kIte_q, ↓s_ite_q, ↓kItr_q, ↓s_itr_q, ↓kRet_q, ↓s_retI_q, ↓kReR_q, ↓s_retR_q, ↓kSw_q, ↓s_sw_q, lvI_s, lvI_z, lvL_s, lvL_z, lvR_s, lvR_z, kFld_q, kFlR_q, kAl1_q, kAl2_q, kAr1_q, kAr2_q, kLen_q, kO1_q, kO2_q, kD1_q, kD2_q, kL2i_q, kB1_q, kB2_q, kCb_q, kCb_0, kCb_1, kNot_q, kAnd_q, kOr_q, kNul_q, kCond_q, kTern_q, kA2_q, kAI_q, kAL_q, kAR_q, kCall_q, kCalS_q, kRI_q, kRR_q, kRU_q, kRP_q, kSt_q, kStL_q, kStR_q, kPut1_q, kPut2_q, kPz1_q, kPz2_q, kPr1_q, kPr2_q, kPo1_q, kPo2_q, kAs1_q, kAs2_q, kAs3_q, kZs1_q, kZs2_q, kZs3_q, kRs1_q, kRs2_q, kRs3_q, kAo1_q, kAo2_q, kAo3_q, kIf_q, kIte_q, kItr_q, kRet_q, kReR_q, kSw_q, neb_q, gtb_q, geb_q, lnB_s, isI_s, isI_z, gI_s, gI_z, gR_s, gR_z, gA_s, isA_s, bdo_s, rHd_c, isHd_c, noL_z, noL_1, noL_s, nl_I, nl_R, nl_U, stI, stR, bd_t, oA, oS, oM, oD, oR, tn_add, tn_mul, tn_nat, eqb_t, eqb_f, ltb_t, ltb_f, leb_t, leb_f, nob_s, nob_n, nat_eq, nat_lt, nat_le, pK0 hP, pK1 hP, pK2 hP, pK3 hP, pK4 hP, pK5 hP, pK6 hP, pK7 hP, pK8 hP, pR1 hP, pR2 hP, pR3 hP, pR4 hP, pR5 hP, pR6 hP, pR7 hP, pR8 hP, ht, ↓hlim, hlim, c]
def heI (I : Nat → Nat → Int) (a n m : Nat) (r : Int) : Nat → Nat → Int := upI (upI I (a + 7) (6 * n + m) r) (a + 6) n ((m : Int) + 1)
theorem RC_hear (hC : RC I a G) (hw : WG G) {n m : Nat} {r : Int} (hn : (n : Int) < G 67 0) (hm : G 74 n = (m : Int)) (h6 : m < 6) : RC (heI I a n m r) a (gHear G n r) := by
  obtain ⟨⟨c1, c2, c3, c4⟩, c5, c6, c7, c8, c9, c10, c11, c12, c13⟩ := hC
  have hp := hw.1.1
  have hmt : (G 74 n).toNat = m := by omega
  have e : ∀ x, x ≠ 74 → x ≠ 75 → gHear G n r x = G x := fun x a b => by unfold gHear; rw [upI_row a, upI_row b]
  have e74 : gHear G n r 74 = updL (G 74) n ((m : Int) + 1) := by unfold gHear; rw [upI_at, upI_row (by decide), hm]
  have e75 : gHear G n r 75 = updL (G 75) (6 * n + m) r := by unfold gHear; rw [upI_row (by decide), upI_at, hmt]
  have q : ∀ i, i ≠ 6 → i ≠ 7 → heI I a n m r (a + i) = I (a + i) := fun i a b => by unfold heI; rw [upI_row (by omega), upI_row (by omega)]
  have q0 := q 0 (by omega) (by omega)
  simp only [Nat.add_zero] at q0
  have q6 : heI I a n m r (a + 6) = updL (I (a + 6)) n ((m : Int) + 1) := by unfold heI; rw [upI_at, upI_row (by omega)]
  have q7 : heI I a n m r (a + 7) = updL (I (a + 7)) (6 * n + m) r := by unfold heI; rw [upI_row (by omega), upI_at]
  unfold RC
  simp only [e 64 (by decide) (by decide), e 65 (by decide) (by decide), e 66 (by decide) (by decide), e 67 (by decide) (by decide), e 68 (by decide) (by decide), e 69 (by decide) (by decide), e 70 (by decide) (by decide), e 71 (by decide) (by decide), e 72 (by decide) (by decide), e 73 (by decide) (by decide), e 76 (by decide) (by decide), e 77 (by decide) (by decide), e74, e75, q0, q 1 (by omega) (by omega), q 2 (by omega) (by omega), q 3 (by omega) (by omega), q 4 (by omega) (by omega), q 5 (by omega) (by omega), q6, q7, q 8 (by omega) (by omega)]
  refine ⟨⟨c1, c2, c3, c4⟩, c5, c6, c7, c8, c9, c10, fun k hk => ?_, fun k i hk hi => ?_, c13⟩
  · by_cases h : k = n
    · rw [h, updL_at, updL_at]
    · rw [updL_ne h, updL_ne h]; exact c11 k hk
  · have b := (hw.1.2.2.2.2.1 k hk).2
    by_cases h : k = n
    · subst h
      rw [updL_at] at hi
      by_cases hi2 : i = m
      · rw [hi2, updL_at, updL_at]
      · rw [updL_ne (by omega), updL_ne (by omega)]; exact c12 k i hk (by omega)
    · rw [updL_ne h] at hi
      rw [updL_ne (by omega), updL_ne (by omega)]; exact c12 k i hk hi
theorem X3_addHearer_ok (hP : isProg kd R a) (hC : RC I a G) {n m : Nat} {r : Int} (hn : n < 8) (hm : G 74 n = (m : Int)) (h6 : m < 6) (hk : K vU (kd, heI I a n m r, R)) : B_X3_addHearer [vR (some a), vI (n : Int), vI r] (kd, I, R) K := by
  have c6 : I (a + 6) n = (m : Int) := by rw [hC.2.2.2.2.2.2.2.1 n hn]; exact hm
  have u6 : ∀ v, upI I (a + 7) (n * 6 + m) v (a + 6) n = (m : Int) := fun v => by rw [upI_row (by omega)]; exact c6
  unfold heI at hk
  rw [show 6 * n + m = n * 6 + m by omega] at hk
  simp [B_X3_addHearer, bodyOf, envOf, exA, catV, rkOK]
  simp (disch := omega) [t_X3_addHearer, -Int.not_le, -Int.not_lt, ↓e_ci_p, ↓r_null_p, ↓a_nil_p, ↓s_skip_p, ↓s_inc_p, ↓s_brk_p, ↓s_ret_p, ↓lvI_s, ↓lvI_z, ↓lvL_s, ↓lvL_z, ↓lvR_s, ↓lvR_z, ↓e_lv_q, ↓l_lv_q, ↓r_lv_q, ↓kFld_q, ↓e_fld_q, ↓kFlR_q, ↓r_fld_q, ↓kAl1_q, ↓kAl2_q, ↓e_ald_q, ↓z_ald_q, ↓kAr1_q, ↓kAr2_q, ↓r_ald_q, ↓kLen_q, ↓e_len_q, ↓kO1_q, ↓kO2_q, ↓kD1_q, ↓kD2_q, ↓e_op_q, ↓e_dv_q, ↓l_op_q, ↓l_dv_q, ↓l_sh_q, ↓e_lcmp_q, ↓e_min_q, ↓kL2i_q, ↓e_l2i_q, ↓kB1_q, ↓kB2_q, ↓c_eq_q, ↓c_ne_q, ↓c_lt_q, ↓c_ge_q, ↓c_gt_q, ↓c_le_q, ↓kCb_q, ↓kCb_0, ↓kCb_1, ↓c_b_q, ↓kNot_q, ↓c_not_q, ↓kAnd_q, ↓c_and_q, ↓kOr_q, ↓c_or_q, ↓kNul_q, ↓c_null_q, ↓kCond_q, ↓e_cond_q, ↓kTern_q, ↓x_tern_q, ↓kA2_q, ↓kAI_q, ↓kAL_q, ↓kAR_q, ↓a_I_q, ↓a_L_q, ↓a_R_q, ↓kCall_q, ↓kCalS_q, ↓kRI_q, ↓kRR_q, ↓kRU_q, ↓kRP_q, ↓e_callV_q, ↓r_callV_q, ↓e_callS_q, ↓s_callV_q, ↓s_popV_q, ↓s_seq_q, ↓kSt_q, ↓s_st_q, ↓kStL_q, ↓s_stL_q, ↓kStR_q, ↓s_stR_q, ↓kPut1_q, ↓kPut2_q, ↓s_put_q, ↓kPz1_q, ↓kPz2_q, ↓s_putZ_q, ↓kPr1_q, ↓kPr2_q, ↓s_putR_q, ↓kPo1_q, ↓kPo2_q, ↓s_putop_q, ↓kAs1_q, ↓kAs2_q, ↓kAs3_q, ↓s_ast_q, ↓kZs1_q, ↓kZs2_q, ↓kZs3_q, ↓s_zast_q, ↓kRs1_q, ↓kRs2_q, ↓kRs3_q, ↓s_rast_q, ↓kAo1_q, ↓kAo2_q, ↓kAo3_q, ↓s_astop_q, ↓kIf_q, ↓s_if_q, ↓kIte_q, ↓s_ite_q, ↓kItr_q, ↓s_itr_q, ↓kRet_q, ↓s_retI_q, ↓kReR_q, ↓s_retR_q, ↓kSw_q, ↓s_sw_q, lvI_s, lvI_z, lvL_s, lvL_z, lvR_s, lvR_z, kFld_q, kFlR_q, kAl1_q, kAl2_q, kAr1_q, kAr2_q, kLen_q, kO1_q, kO2_q, kD1_q, kD2_q, kL2i_q, kB1_q, kB2_q, kCb_q, kCb_0, kCb_1, kNot_q, kAnd_q, kOr_q, kNul_q, kCond_q, kTern_q, kA2_q, kAI_q, kAL_q, kAR_q, kCall_q, kCalS_q, kRI_q, kRR_q, kRU_q, kRP_q, kSt_q, kStL_q, kStR_q, kPut1_q, kPut2_q, kPz1_q, kPz2_q, kPr1_q, kPr2_q, kPo1_q, kPo2_q, kAs1_q, kAs2_q, kAs3_q, kZs1_q, kZs2_q, kZs3_q, kRs1_q, kRs2_q, kRs3_q, kAo1_q, kAo2_q, kAo3_q, kIf_q, kIte_q, kItr_q, kRet_q, kReR_q, kSw_q, neb_q, gtb_q, geb_q, lnB_s, isI_s, isI_z, gI_s, gI_z, gR_s, gR_z, gA_s, isA_s, bdo_s, rHd_c, isHd_c, noL_z, noL_1, noL_s, nl_I, nl_R, nl_U, stI, stR, bd_t, oA, oS, oM, oD, oR, tn_add, tn_mul, tn_nat, eqb_t, eqb_f, ltb_t, ltb_f, leb_t, leb_f, nob_s, nob_n, nat_eq, nat_lt, nat_le, pK0 hP, pK1 hP, pK2 hP, pK3 hP, pK4 hP, pK5 hP, pK6 hP, pK7 hP, pK8 hP, pR1 hP, pR2 hP, pR3 hP, pR4 hP, pR5 hP, pR6 hP, pR7 hP, pR8 hP, c6, u6]
  exact hk
theorem RC_move (hC : RC I a G) (hw : WF G) {what part : Int} {i : Nat} (hwh : 0 ≤ what ∧ what ≤ 2) (hi : (i : Int) < cntOf G what) : RC (upI I (a + 2) (20 * what.toNat + i) part) a (gMove G what i part) := by
  obtain ⟨⟨c1, c2, c3, c4⟩, c5, c6, c7, c8, c9, c10, c11, c12, c13⟩ := hC
  have hp := hw.1
  have q : ∀ j, j ≠ 2 → ∀ k, upI I (a + 2) k part (a + j) = I (a + j) := fun j h k => upI_row (by omega)
  have q0 : ∀ k, upI I (a + 2) k part a = I a := fun k => upI_row (by omega)
  have q2 : ∀ k, upI I (a + 2) k part (a + 2) = updL (I (a + 2)) k part := fun k => upI_at
  rcases (show what = 0 ∨ what = 1 ∨ what = 2 by omega) with rfl | rfl | rfl
  · simp [cntOf] at hi
    have e : ∀ x, x ≠ 68 → gMove G 0 i part x = G x := fun x h => by unfold gMove rowOf; rw [if_pos rfl, upI_row h]
    have e68 : gMove G 0 i part 68 = updL (G 68) i part := by unfold gMove rowOf; rw [if_pos rfl, upI_at]
    have t0 : 20 * (0 : Int).toNat + i = i := by simp
    rw [t0]
    unfold RC
    simp only [e 64 (by decide), e 65 (by decide), e 66 (by decide), e 67 (by decide), e 69 (by decide), e 70 (by decide), e 71 (by decide), e 72 (by decide), e 73 (by decide), e 74 (by decide), e 75 (by decide), e 76 (by decide), e 77 (by decide), e68, q0, q2, q 1 (by omega), q 3 (by omega), q 4 (by omega), q 5 (by omega), q 6 (by omega), q 7 (by omega), q 8 (by omega)]
    refine ⟨⟨c1, c2, c3, c4⟩, fun r hr => ?_, fun f hf => by rw [updL_ne (by omega)]; exact c6 f hf, fun f hf => by rw [updL_ne (by omega)]; exact c7 f hf, c8, c9, c10, c11, c12, c13⟩
    by_cases h : r = i
    · rw [h, updL_at, updL_at]
    · rw [updL_ne h, updL_ne h]; exact c5 r hr
  · simp [cntOf] at hi
    have e : ∀ x, x ≠ 72 → gMove G 1 i part x = G x := fun x h => by unfold gMove; rw [show rowOf 1 = 72 from rfl, upI_row h]
    have e72 : gMove G 1 i part 72 = updL (G 72) i part := by unfold gMove; rw [show rowOf 1 = 72 from rfl, upI_at]
    have t0 : 20 * (1 : Int).toNat + i = 20 + i := by simp
    rw [t0]
    unfold RC
    simp only [e 64 (by decide), e 65 (by decide), e 66 (by decide), e 67 (by decide), e 68 (by decide), e 69 (by decide), e 70 (by decide), e 71 (by decide), e 73 (by decide), e 74 (by decide), e 75 (by decide), e 76 (by decide), e 77 (by decide), e72, q0, q2, q 1 (by omega), q 3 (by omega), q 4 (by omega), q 5 (by omega), q 6 (by omega), q 7 (by omega), q 8 (by omega)]
    refine ⟨⟨c1, c2, c3, c4⟩, fun r hr => by rw [updL_ne (by omega)]; exact c5 r hr, fun f hf => ?_, fun f hf => by rw [updL_ne (by omega)]; exact c7 f hf, c8, c9, c10, c11, c12, c13⟩
    by_cases h : f = i
    · rw [h, updL_at, updL_at]
    · rw [updL_ne (by omega), updL_ne h]; exact c6 f hf
  · simp [cntOf] at hi
    have e : ∀ x, x ≠ 73 → gMove G 2 i part x = G x := fun x h => by unfold gMove; rw [show rowOf 2 = 73 from rfl, upI_row h]
    have e73 : gMove G 2 i part 73 = updL (G 73) i part := by unfold gMove; rw [show rowOf 2 = 73 from rfl, upI_at]
    have t0 : 20 * (2 : Int).toNat + i = 40 + i := by simp
    rw [t0]
    unfold RC
    simp only [e 64 (by decide), e 65 (by decide), e 66 (by decide), e 67 (by decide), e 68 (by decide), e 69 (by decide), e 70 (by decide), e 71 (by decide), e 72 (by decide), e 74 (by decide), e 75 (by decide), e 76 (by decide), e 77 (by decide), e73, q0, q2, q 1 (by omega), q 3 (by omega), q 4 (by omega), q 5 (by omega), q 6 (by omega), q 7 (by omega), q 8 (by omega)]
    refine ⟨⟨c1, c2, c3, c4⟩, fun r hr => by rw [updL_ne (by omega)]; exact c5 r hr, fun f hf => by rw [updL_ne (by omega)]; exact c6 f hf, fun f hf => ?_, c8, c9, c10, c11, c12, c13⟩
    by_cases h : f = i
    · rw [h, updL_at, updL_at]
    · rw [updL_ne (by omega), updL_ne h]; exact c7 f hf
theorem RC_act (hC : RC I a G) (hw : WF G) {r i : Nat} {o m : Int} (hr : (r : Int) < G 65 0) (hi : (i : Int) < G 69 r) (hf : G 77 r ≠ 1) : RC (upI I (a + 4) (10 * r + i) (1000 * o + m)) a (gAct G (10 * r + i) o m) := by
  obtain ⟨⟨c1, c2, c3, c4⟩, c5, c6, c7, c8, c9, c10, c11, c12, c13⟩ := hC
  have b := (hw.2.1 r hr).2.1
  have e : ∀ x, x ≠ 70 → x ≠ 71 → gAct G (10 * r + i) o m x = G x := fun x a b => by unfold gAct; rw [upI_row b, upI_row a]
  have e70 : gAct G (10 * r + i) o m 70 = updL (G 70) (10 * r + i) o := by unfold gAct; rw [upI_row (by decide), upI_at]
  have e71 : gAct G (10 * r + i) o m 71 = updL (G 71) (10 * r + i) m := by unfold gAct; rw [upI_at, upI_row (by decide)]
  have q : ∀ j, j ≠ 4 → upI I (a + 4) (10 * r + i) (1000 * o + m) (a + j) = I (a + j) := fun j h => upI_row (by omega)
  have q0 := q 0 (by omega)
  simp only [Nat.add_zero] at q0
  have q4 : upI I (a + 4) (10 * r + i) (1000 * o + m) (a + 4) = updL (I (a + 4)) (10 * r + i) (1000 * o + m) := upI_at
  unfold RC
  simp only [e 64 (by decide) (by decide), e 65 (by decide) (by decide), e 66 (by decide) (by decide), e 67 (by decide) (by decide), e 68 (by decide) (by decide), e 69 (by decide) (by decide), e 72 (by decide) (by decide), e 73 (by decide) (by decide), e 74 (by decide) (by decide), e 75 (by decide) (by decide), e 76 (by decide) (by decide), e 77 (by decide) (by decide), e70, e71, q0, q4, q 1 (by omega), q 2 (by omega), q 3 (by omega), q 5 (by omega), q 6 (by omega), q 7 (by omega), q 8 (by omega)]
  refine ⟨⟨c1, c2, c3, c4⟩, c5, c6, c7, c8, fun s j hs hj => ?_, fun s hs => ?_, c11, c12, c13⟩
  · have bs := (hw.2.1 s hs).2.1
    by_cases h : 10 * s + j = 10 * r + i
    · rw [h, updL_at, updL_at, updL_at]
    · rw [updL_ne h, updL_ne h, updL_ne h]; exact c9 s j hs hj
  · by_cases h : s = r
    · subst h
      rw [if_neg hf, c10 s hs, if_neg hf]
    · rw [updL_ne (by omega)]; exact c10 s hs
def mkI (I : Nat → Nat → Int) (a r : Nat) (told : Int) : Nat → Nat → Int := upI (upI (upI I (a + 5) r told) (a + 3) r 1) (a + 4) (10 * r) (4000 + told)
theorem RC_mk (hC : RC I a G) (hw : WF G) {r : Nat} {told : Int} (hr : (r : Int) < G 65 0) : RC (mkI I a r told) a (gMk G r told) := by
  obtain ⟨⟨c1, c2, c3, c4⟩, c5, c6, c7, c8, c9, c10, c11, c12, c13⟩ := hC
  have e : ∀ x, x ≠ 69 → x ≠ 70 → x ≠ 71 → x ≠ 77 → gMk G r told x = G x := fun x a b c d => by unfold gMk; rw [upI_row c, upI_row b, upI_row a, upI_row d]
  have e69 : gMk G r told 69 = updL (G 69) r 1 := by unfold gMk; rw [upI_row (by decide), upI_row (by decide), upI_at, upI_row (by decide)]
  have e70 : gMk G r told 70 = updL (G 70) (10 * r) 4 := by unfold gMk; rw [upI_row (by decide), upI_at, upI_row (by decide), upI_row (by decide)]
  have e71 : gMk G r told 71 = updL (G 71) (10 * r) told := by unfold gMk; rw [upI_at, upI_row (by decide), upI_row (by decide), upI_row (by decide)]
  have e77 : gMk G r told 77 = updL (G 77) r 1 := by unfold gMk; rw [upI_row (by decide), upI_row (by decide), upI_row (by decide), upI_at]
  have q : ∀ j, j ≠ 3 → j ≠ 4 → j ≠ 5 → mkI I a r told (a + j) = I (a + j) := fun j h1 h2 h3 => by unfold mkI; rw [upI_row (by omega), upI_row (by omega), upI_row (by omega)]
  have q0 := q 0 (by omega) (by omega) (by omega)
  simp only [Nat.add_zero] at q0
  have q3 : mkI I a r told (a + 3) = updL (I (a + 3)) r 1 := by unfold mkI; rw [upI_row (by omega), upI_at, upI_row (by omega)]
  have q4 : mkI I a r told (a + 4) = updL (I (a + 4)) (10 * r) (4000 + told) := by unfold mkI; rw [upI_at, upI_row (by omega), upI_row (by omega)]
  have q5 : mkI I a r told (a + 5) = updL (I (a + 5)) r told := by unfold mkI; rw [upI_row (by omega), upI_row (by omega), upI_at]
  unfold RC
  simp only [e 64 (by decide) (by decide) (by decide) (by decide), e 65 (by decide) (by decide) (by decide) (by decide), e 66 (by decide) (by decide) (by decide) (by decide), e 67 (by decide) (by decide) (by decide) (by decide), e 68 (by decide) (by decide) (by decide) (by decide), e 72 (by decide) (by decide) (by decide) (by decide), e 73 (by decide) (by decide) (by decide) (by decide), e 74 (by decide) (by decide) (by decide) (by decide), e 75 (by decide) (by decide) (by decide) (by decide), e 76 (by decide) (by decide) (by decide) (by decide), e69, e70, e71, e77, q0, q3, q4, q5, q 1 (by omega) (by omega) (by omega), q 2 (by omega) (by omega) (by omega), q 6 (by omega) (by omega) (by omega), q 7 (by omega) (by omega) (by omega), q 8 (by omega) (by omega) (by omega)]
  refine ⟨⟨c1, c2, c3, c4⟩, c5, c6, c7, fun s hs => ?_, fun s j hs hj => ?_, fun s hs => ?_, c11, c12, c13⟩
  · by_cases h : s = r
    · rw [h, updL_at, updL_at]
    · rw [updL_ne h, updL_ne h]; exact c8 s hs
  · have bs := (hw.2.1 s hs).2.1
    by_cases h : s = r
    · subst h
      rw [updL_at] at hj
      have : j = 0 := by omega
      subst this
      simp only [Nat.add_zero, updL_at]; omega
    · rw [updL_ne h] at hj
      rw [updL_ne (by omega), updL_ne (by omega), updL_ne (by omega)]; exact c9 s j hs hj
  · by_cases h : s = r
    · rw [h, updL_at, updL_at, if_pos rfl, updL_at]
    · rw [updL_ne h, updL_ne h, updL_ne (by omega)]; exact c10 s hs
end CN
