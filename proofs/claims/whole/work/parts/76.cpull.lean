/-! the class's programs: pull, bodies -/
section CL2
variable {kd : List (Nat × Nat)} {R : Nat → Nat → Option Nat} {I G : Nat → Nat → Int} {K : AV → XS → Prop} {a : Nat}
theorem kindI_r {o : Int} (h : o = 4 ∨ o = 5) : kindI o = 0 := by rcases h with rfl | rfl <;> decide
theorem kindI_n {o : Int} (h : ¬ (o = 4 ∨ o = 5)) : ¬ kindI o = 0 := by
  unfold kindI
  rw [if_neg h]
  split
  · decide
  · split <;> decide
def PLQ (I J G : Nat → Nat → Int) (a rt k : Nat) : Prop := (∀ x, x ≠ a + 4 → J x = I x) ∧ ∀ u v : Nat, (u : Int) < G 65 0 → (v : Int) < G 69 u → J (a + 4) (10 * u + v) = 1000 * G 70 (10 * u + v) + (if 10 * u + v < k then pullF G rt (10 * u + v) else G 71 (10 * u + v))
theorem PLQ_S {J : Nat → Nat → Int} {rt r i : Nat} (hw : WG G) (h : PLQ I J G a rt (10 * r + i)) (hi : i < 10) (hn : pullF G rt (10 * r + i) = G 71 (10 * r + i)) : PLQ I J G a rt (10 * r + (i + 1)) := by
  refine ⟨h.1, fun u v hu hv => ?_⟩
  rw [h.2 u v hu hv]
  by_cases c : 10 * u + v = 10 * r + i
  · rw [if_neg (by omega), if_pos (by omega), c, hn]
  · have : (10 * u + v < 10 * r + i) = (10 * u + v < 10 * r + (i + 1)) := by apply propext; omega
    simp only [this]
theorem PLQ_U {J : Nat → Nat → Int} {rt r i : Nat} (hw : WG G) (h : PLQ I J G a rt (10 * r + i)) {v : Int} (hv : v = 1000 * G 70 (10 * r + i) + pullF G rt (10 * r + i)) : PLQ I (upI J (a + 4) (10 * r + i) v) G a rt (10 * r + (i + 1)) := by
  refine ⟨fun x hx => by rw [upI_row hx]; exact h.1 x hx, fun u w hu hv2 => ?_⟩
  rw [upI_at]
  by_cases c : 10 * u + w = 10 * r + i
  · rw [c, updL_at, if_pos (by omega), hv]
  · rw [updL_ne c, h.2 u w hu hv2]
    have : (10 * u + w < 10 * r + i) = (10 * u + w < 10 * r + (i + 1)) := by apply propext; omega
    simp only [this]
set_option maxHeartbeats 4000000 in
theorem X3_pull_0 (hP : isProg kd R a) (hw : WG G) {rt r c : Nat} (hr : (r : Int) < G 65 0) (h69 : G 69 r = (c : Int)) (c3 : ∀ r : Nat, r < 20 → I (a + 3) r = G 69 r) (ht : 0 ≤ G 71 (10 * rt) ∧ G 71 (10 * rt) ≤ 999) {J : Nat → Nat → Int} {a3 : Int} (e_a3 : vI a3 = vI (cntB (pullc G rt) (10 * r + (0)))) (h_Q : PLQ I J G a rt (10 * r + (0))) {Kn Kb : XE → XS → Prop} {Kr : AV → XS → Prop} 
    (hkk : ∀ (J : Nat → Nat → Int), (PLQ I J G a rt (10 * r + (c))) → Kn [vR (some a), vI (rt : Int), vI (G 71 (10 * rt)), vI (cntB (pullc G rt) (10 * r + (c))), vI (r : Int), vI ((c : Nat) : Int)] (kd, J, R)) : lp_X3_pullFace_0 Kn Kb Kr [vR (some a), vI (rt : Int), vI (G 71 (10 * rt)), vI a3, vI (r : Int), vI 0] (kd, J, R) := by
  unfold lp_X3_pullFace_0
  have hr20 := hw.1.1.2.1
  have hc10 := (hw.1.2.1 r hr).2.1
  refine forUp (lo := 0) (n := c) (fun i env st => ∃ (J : Nat → Nat → Int), (PLQ I J G a rt (10 * r + (i))) ∧ env = [vR (some a), vI (rt : Int), vI (G 71 (10 * rt)), vI (cntB (pullc G rt) (10 * r + (i))), vI (r : Int), vI (i : Int)] ∧ st = (kd, J, R)) (by omega) (by omega) ⟨J, h_Q, by first | (rw [e_a3]; done) | (rw [e_a3]; rfl), rfl⟩ ?_ ?_ ?_
  · rintro i env st hle ⟨J, h_Q, rfl, rfl⟩
    first | exact ⟨rfl, fun K h => h⟩ | exact ⟨rfl, fun K h => ⟨_, rfl, h⟩⟩ | (refine ⟨rfl, fun K h => ?_⟩; simp (disch := omega) [-Int.not_le, -Int.not_lt, ↓e_ci_p, ↓e_lv_p, ↓l_lv_p, ↓r_lv_p, ↓r_null_p, ↓e_fld_p, ↓r_fld_p, ↓e_ald_p, ↓z_ald_p, ↓r_ald_p, ↓e_len_p, ↓e_op_p, ↓e_dv_p, ↓l_op_p, ↓l_dv_p, ↓l_sh_p, ↓e_lcmp_p, ↓e_l2i_p, ↓e_min_p, ↓c_b_p, ↓c_not_p, ↓c_and_p, ↓c_or_p, ↓c_null_p, ↓c_eq_p, ↓c_ne_p, ↓c_lt_p, ↓c_ge_p, ↓c_gt_p, ↓c_le_p, ↓e_cond_p, ↓x_tern_p, ↓a_nil_p, ↓a_I_p, ↓a_L_p, ↓a_R_p, ↓e_callV_p, ↓r_callV_p, ↓e_callS_p, ↓s_skip_p, ↓s_seq_p, ↓s_st_p, ↓s_stL_p, ↓s_stR_p, ↓s_inc_p, ↓s_put_p, ↓s_putZ_p, ↓s_putR_p, ↓s_putop_p, ↓s_ast_p, ↓s_zast_p, ↓s_rast_p, ↓s_astop_p, ↓s_callV_p, ↓s_popV_p, ↓s_if_p, ↓s_ite_p, ↓s_itr_p, ↓s_brk_p, ↓s_retI_p, ↓s_retR_p, ↓s_ret_p, ↓s_sw_p, isI_s, isI_z, isL_s, isL_z, isR_s, isR_z, gI_s, gI_z, gL_z, gR_s, gR_z, gA_s, isA_s, bdo_s, arOK_s, isVI_I, isVR_R, vInt_I, vInt_L, vRef_R, lenOf_s, lnOK_s, rHd_c, isHd_c, noL_z, noL_1, noL_s, nl_I, nl_R, nl_U, stI, stR, bd_t, oA, oS, oM, oD, oR, tn_add, tn_mul, tn_nat, eqb_t, eqb_f, ltb_t, ltb_f, leb_t, leb_f, nob_s, nob_n, nat_eq, nat_lt, nat_le, pK0 hP, pK1 hP, pK2 hP, pK3 hP, pK4 hP, pK5 hP, pK6 hP, pK7 hP, pK8 hP, pR1 hP, pR2 hP, pR3 hP, pR4 hP, pR5 hP, pR6 hP, pR7 hP, pR8 hP, (show J (a + 3) r = (c : Int) from by rw [h_Q.1 (a + 3) (by omega), c3 r (by omega)]; exact h69)]; first | exact h | simpa using h)
  · rintro i env st hlo hlt ⟨J, h_Q, rfl, rfl⟩ Kx hx
    have fin : ∀ (b3 : Int) (J : Nat → Nat → Int) , vI b3 = vI (cntB (pullc G rt) (10 * r + (i + 1))) → (PLQ I J G a rt (10 * r + (i + 1))) → Kx [vR (some a), vI (rt : Int), vI (G 71 (10 * rt)), vI b3, vI (r : Int), vI (i : Int)] (kd, J, R) := by
      intro b3 J q_a3 q_Q
      exact hx _ _ rfl (by simp [noL_z, noL_1, noL_s, nl_I, nl_R, nl_U]) ⟨J, q_Q, by simp [q_a3], rfl⟩
    have hact := hw.1.2.2.1 r i hr (by omega)
    have hat := h_Q.2 r i hr (by omega)
    rw [if_neg (by omega)] at hat
    have hs : cntB (pullc G rt) (10 * r + (i + 1)) = cntB (pullc G rt) (10 * r + i) + b2i (pullc G rt (10 * r + i)) := cntB_S (pullc G rt) (10 * r + i)
    have hb := cntB_rng (pullc G rt) (10 * r + i)
    have hU := fun v => PLQ_U (I := I) (J := J) (a := a) (rt := rt) (r := r) (i := i) (v := v) hw h_Q
    have hS := PLQ_S (I := I) (J := J) (a := a) (rt := rt) (r := r) (i := i) hw h_Q (by omega)
    have hp : pullc G rt (10 * r + i) = ((decide (G 70 (10 * r + i) = 4) || decide (G 70 (10 * r + i) = 5)) && decide (G 71 (10 * r + i) = (rt : Int))) := by
      have d1 : (10 * r + i) / 10 = r := by omega
      have d2 : (10 * r + i) % 10 = i := by omega
      have d3 : ((i : Nat) : Int) < G 69 r := by omega
      simp only [pullc, d1, d2, d3, hr, decide_true, Bool.true_and]
    have hpf : pullF G rt (10 * r + i) = if pullc G rt (10 * r + i) = true then G 71 (10 * rt) else G 71 (10 * r + i) := rfl
    have k1 := fun (K : AV → XS → Prop) => X3_sort_c (I := J) (K := K) (o := G 70 (10 * r + i)) (m := G 71 (10 * r + i)) hP (show r < 20 by omega) (show i < 10 by omega) hact.1 hact.2.1 hat
    have k2 := fun (K : AV → XS → Prop) => X3_num_c (I := J) (K := K) (o := G 70 (10 * r + i)) (m := G 71 (10 * r + i)) hP (show r < 20 by omega) (show i < 10 by omega) hact.1 hact.2.1 hat
    have k3 := fun (st : XS) (K : AV → XS → Prop) => X3_kind_eq (K := K) (st := st) hact.1
    have k4 := fun (K : AV → XS → Prop) => X3_setAct_eq (I := J) (K := K) (o := G 70 (10 * r + i)) (m := G 71 (10 * rt)) hP (show r < 20 by omega) (show i < 10 by omega) hact.1 ht
    generalize cntB (pullc G rt) (10 * r + i) = n at *
    by_cases c1 : G 70 (10 * r + i) = 4 ∨ G 70 (10 * r + i) = 5
    · have e0 := kindI_r c1
      by_cases c2 : G 71 (10 * r + i) = (rt : Int)
      · have htt : pullc G rt (10 * r + i) = true := by rw [hp]; simp [c1, c2]
        rw [htt] at hs hpf
        rw [if_pos rfl] at hpf
        simp (disch := omega) [-Int.not_le, -Int.not_lt, ↓e_ci_p, ↓r_null_p, ↓a_nil_p, ↓s_skip_p, ↓s_inc_p, ↓s_brk_p, ↓s_ret_p, ↓lvI_s, ↓lvI_z, ↓lvL_s, ↓lvL_z, ↓lvR_s, ↓lvR_z, ↓e_lv_q, ↓l_lv_q, ↓r_lv_q, ↓kFld_q, ↓e_fld_q, ↓kFlR_q, ↓r_fld_q, ↓kAl1_q, ↓kAl2_q, ↓e_ald_q, ↓z_ald_q, ↓kAr1_q, ↓kAr2_q, ↓r_ald_q, ↓kLen_q, ↓e_len_q, ↓kO1_q, ↓kO2_q, ↓kD1_q, ↓kD2_q, ↓e_op_q, ↓e_dv_q, ↓l_op_q, ↓l_dv_q, ↓l_sh_q, ↓e_lcmp_q, ↓e_min_q, ↓kL2i_q, ↓e_l2i_q, ↓kB1_q, ↓kB2_q, ↓c_eq_q, ↓c_ne_q, ↓c_lt_q, ↓c_ge_q, ↓c_gt_q, ↓c_le_q, ↓kCb_q, ↓kCb_0, ↓kCb_1, ↓c_b_q, ↓kNot_q, ↓c_not_q, ↓kAnd_q, ↓c_and_q, ↓kOr_q, ↓c_or_q, ↓kNul_q, ↓c_null_q, ↓kCond_q, ↓e_cond_q, ↓kTern_q, ↓x_tern_q, ↓kA2_q, ↓kAI_q, ↓kAL_q, ↓kAR_q, ↓a_I_q, ↓a_L_q, ↓a_R_q, ↓kCall_q, ↓kCalS_q, ↓kRI_q, ↓kRR_q, ↓kRU_q, ↓kRP_q, ↓e_callV_q, ↓r_callV_q, ↓e_callS_q, ↓s_callV_q, ↓s_popV_q, ↓s_seq_q, ↓kSt_q, ↓s_st_q, ↓kStL_q, ↓s_stL_q, ↓kStR_q, ↓s_stR_q, ↓kPut1_q, ↓kPut2_q, ↓s_put_q, ↓kPz1_q, ↓kPz2_q, ↓s_putZ_q, ↓kPr1_q, ↓kPr2_q, ↓s_putR_q, ↓kPo1_q, ↓kPo2_q, ↓s_putop_q, ↓kAs1_q, ↓kAs2_q, ↓kAs3_q, ↓s_ast_q, ↓kZs1_q, ↓kZs2_q, ↓kZs3_q, ↓s_zast_q, ↓kRs1_q, ↓kRs2_q, ↓kRs3_q, ↓s_rast_q, ↓kAo1_q, ↓kAo2_q, ↓kAo3_q, ↓s_astop_q, ↓kIf_q, ↓s_if_q, ↓kIte_q, ↓s_ite_q, ↓kItr_q, ↓s_itr_q, ↓kRet_q, ↓s_retI_q, ↓kReR_q, ↓s_retR_q, ↓kSw_q, ↓s_sw_q, lvI_s, lvI_z, lvL_s, lvL_z, lvR_s, lvR_z, kFld_q, kFlR_q, kAl1_q, kAl2_q, kAr1_q, kAr2_q, kLen_q, kO1_q, kO2_q, kD1_q, kD2_q, kL2i_q, kB1_q, kB2_q, kCb_q, kCb_0, kCb_1, kNot_q, kAnd_q, kOr_q, kNul_q, kCond_q, kTern_q, kA2_q, kAI_q, kAL_q, kAR_q, kCall_q, kCalS_q, kRI_q, kRR_q, kRU_q, kRP_q, kSt_q, kStL_q, kStR_q, kPut1_q, kPut2_q, kPz1_q, kPz2_q, kPr1_q, kPr2_q, kPo1_q, kPo2_q, kAs1_q, kAs2_q, kAs3_q, kZs1_q, kZs2_q, kZs3_q, kRs1_q, kRs2_q, kRs3_q, kAo1_q, kAo2_q, kAo3_q, kIf_q, kIte_q, kItr_q, kRet_q, kReR_q, kSw_q, neb_q, gtb_q, geb_q, lnB_s, isI_s, isI_z, gI_s, gI_z, gR_s, gR_z, gA_s, isA_s, bdo_s, rHd_c, isHd_c, noL_z, noL_1, noL_s, nl_I, nl_R, nl_U, stI, stR, bd_t, oA, oS, oM, oD, oR, tn_add, tn_mul, tn_nat, eqb_t, eqb_f, ltb_t, ltb_f, leb_t, leb_f, nob_s, nob_n, nat_eq, nat_lt, nat_le, pK0 hP, pK1 hP, pK2 hP, pK3 hP, pK4 hP, pK5 hP, pK6 hP, pK7 hP, pK8 hP, pR1 hP, pR2 hP, pR3 hP, pR4 hP, pR5 hP, pR6 hP, pR7 hP, pR8 hP, k1, k3, e0, k2, c2, k4]
        exact fin _ _ (by rw [hs]; simp [b2i]) (hU _ (by rw [hpf]))
      · have htt : pullc G rt (10 * r + i) = false := by rw [hp]; simp [c2]
        rw [htt] at hs hpf
        rw [if_neg (by simp)] at hpf
        simp (disch := omega) [-Int.not_le, -Int.not_lt, ↓e_ci_p, ↓r_null_p, ↓a_nil_p, ↓s_skip_p, ↓s_inc_p, ↓s_brk_p, ↓s_ret_p, ↓lvI_s, ↓lvI_z, ↓lvL_s, ↓lvL_z, ↓lvR_s, ↓lvR_z, ↓e_lv_q, ↓l_lv_q, ↓r_lv_q, ↓kFld_q, ↓e_fld_q, ↓kFlR_q, ↓r_fld_q, ↓kAl1_q, ↓kAl2_q, ↓e_ald_q, ↓z_ald_q, ↓kAr1_q, ↓kAr2_q, ↓r_ald_q, ↓kLen_q, ↓e_len_q, ↓kO1_q, ↓kO2_q, ↓kD1_q, ↓kD2_q, ↓e_op_q, ↓e_dv_q, ↓l_op_q, ↓l_dv_q, ↓l_sh_q, ↓e_lcmp_q, ↓e_min_q, ↓kL2i_q, ↓e_l2i_q, ↓kB1_q, ↓kB2_q, ↓c_eq_q, ↓c_ne_q, ↓c_lt_q, ↓c_ge_q, ↓c_gt_q, ↓c_le_q, ↓kCb_q, ↓kCb_0, ↓kCb_1, ↓c_b_q, ↓kNot_q, ↓c_not_q, ↓kAnd_q, ↓c_and_q, ↓kOr_q, ↓c_or_q, ↓kNul_q, ↓c_null_q, ↓kCond_q, ↓e_cond_q, ↓kTern_q, ↓x_tern_q, ↓kA2_q, ↓kAI_q, ↓kAL_q, ↓kAR_q, ↓a_I_q, ↓a_L_q, ↓a_R_q, ↓kCall_q, ↓kCalS_q, ↓kRI_q, ↓kRR_q, ↓kRU_q, ↓kRP_q, ↓e_callV_q, ↓r_callV_q, ↓e_callS_q, ↓s_callV_q, ↓s_popV_q, ↓s_seq_q, ↓kSt_q, ↓s_st_q, ↓kStL_q, ↓s_stL_q, ↓kStR_q, ↓s_stR_q, ↓kPut1_q, ↓kPut2_q, ↓s_put_q, ↓kPz1_q, ↓kPz2_q, ↓s_putZ_q, ↓kPr1_q, ↓kPr2_q, ↓s_putR_q, ↓kPo1_q, ↓kPo2_q, ↓s_putop_q, ↓kAs1_q, ↓kAs2_q, ↓kAs3_q, ↓s_ast_q, ↓kZs1_q, ↓kZs2_q, ↓kZs3_q, ↓s_zast_q, ↓kRs1_q, ↓kRs2_q, ↓kRs3_q, ↓s_rast_q, ↓kAo1_q, ↓kAo2_q, ↓kAo3_q, ↓s_astop_q, ↓kIf_q, ↓s_if_q, ↓kIte_q, ↓s_ite_q, ↓kItr_q, ↓s_itr_q, ↓kRet_q, ↓s_retI_q, ↓kReR_q, ↓s_retR_q, ↓kSw_q, ↓s_sw_q, lvI_s, lvI_z, lvL_s, lvL_z, lvR_s, lvR_z, kFld_q, kFlR_q, kAl1_q, kAl2_q, kAr1_q, kAr2_q, kLen_q, kO1_q, kO2_q, kD1_q, kD2_q, kL2i_q, kB1_q, kB2_q, kCb_q, kCb_0, kCb_1, kNot_q, kAnd_q, kOr_q, kNul_q, kCond_q, kTern_q, kA2_q, kAI_q, kAL_q, kAR_q, kCall_q, kCalS_q, kRI_q, kRR_q, kRU_q, kRP_q, kSt_q, kStL_q, kStR_q, kPut1_q, kPut2_q, kPz1_q, kPz2_q, kPr1_q, kPr2_q, kPo1_q, kPo2_q, kAs1_q, kAs2_q, kAs3_q, kZs1_q, kZs2_q, kZs3_q, kRs1_q, kRs2_q, kRs3_q, kAo1_q, kAo2_q, kAo3_q, kIf_q, kIte_q, kItr_q, kRet_q, kReR_q, kSw_q, neb_q, gtb_q, geb_q, lnB_s, isI_s, isI_z, gI_s, gI_z, gR_s, gR_z, gA_s, isA_s, bdo_s, rHd_c, isHd_c, noL_z, noL_1, noL_s, nl_I, nl_R, nl_U, stI, stR, bd_t, oA, oS, oM, oD, oR, tn_add, tn_mul, tn_nat, eqb_t, eqb_f, ltb_t, ltb_f, leb_t, leb_f, nob_s, nob_n, nat_eq, nat_lt, nat_le, pK0 hP, pK1 hP, pK2 hP, pK3 hP, pK4 hP, pK5 hP, pK6 hP, pK7 hP, pK8 hP, pR1 hP, pR2 hP, pR3 hP, pR4 hP, pR5 hP, pR6 hP, pR7 hP, pR8 hP, k1, k3, e0, k2, c2]
        exact fin _ _ (by rw [hs]; simp [b2i]) (hS hpf)
    · have e0 := kindI_n c1
      have htt : pullc G rt (10 * r + i) = false := by rw [hp]; simp only [not_or] at c1; simp [c1.1, c1.2]
      rw [htt] at hs hpf
      rw [if_neg (by simp)] at hpf
      simp (disch := omega) [-Int.not_le, -Int.not_lt, ↓e_ci_p, ↓r_null_p, ↓a_nil_p, ↓s_skip_p, ↓s_inc_p, ↓s_brk_p, ↓s_ret_p, ↓lvI_s, ↓lvI_z, ↓lvL_s, ↓lvL_z, ↓lvR_s, ↓lvR_z, ↓e_lv_q, ↓l_lv_q, ↓r_lv_q, ↓kFld_q, ↓e_fld_q, ↓kFlR_q, ↓r_fld_q, ↓kAl1_q, ↓kAl2_q, ↓e_ald_q, ↓z_ald_q, ↓kAr1_q, ↓kAr2_q, ↓r_ald_q, ↓kLen_q, ↓e_len_q, ↓kO1_q, ↓kO2_q, ↓kD1_q, ↓kD2_q, ↓e_op_q, ↓e_dv_q, ↓l_op_q, ↓l_dv_q, ↓l_sh_q, ↓e_lcmp_q, ↓e_min_q, ↓kL2i_q, ↓e_l2i_q, ↓kB1_q, ↓kB2_q, ↓c_eq_q, ↓c_ne_q, ↓c_lt_q, ↓c_ge_q, ↓c_gt_q, ↓c_le_q, ↓kCb_q, ↓kCb_0, ↓kCb_1, ↓c_b_q, ↓kNot_q, ↓c_not_q, ↓kAnd_q, ↓c_and_q, ↓kOr_q, ↓c_or_q, ↓kNul_q, ↓c_null_q, ↓kCond_q, ↓e_cond_q, ↓kTern_q, ↓x_tern_q, ↓kA2_q, ↓kAI_q, ↓kAL_q, ↓kAR_q, ↓a_I_q, ↓a_L_q, ↓a_R_q, ↓kCall_q, ↓kCalS_q, ↓kRI_q, ↓kRR_q, ↓kRU_q, ↓kRP_q, ↓e_callV_q, ↓r_callV_q, ↓e_callS_q, ↓s_callV_q, ↓s_popV_q, ↓s_seq_q, ↓kSt_q, ↓s_st_q, ↓kStL_q, ↓s_stL_q, ↓kStR_q, ↓s_stR_q, ↓kPut1_q, ↓kPut2_q, ↓s_put_q, ↓kPz1_q, ↓kPz2_q, ↓s_putZ_q, ↓kPr1_q, ↓kPr2_q, ↓s_putR_q, ↓kPo1_q, ↓kPo2_q, ↓s_putop_q, ↓kAs1_q, ↓kAs2_q, ↓kAs3_q, ↓s_ast_q, ↓kZs1_q, ↓kZs2_q, ↓kZs3_q, ↓s_zast_q, ↓kRs1_q, ↓kRs2_q, ↓kRs3_q, ↓s_rast_q, ↓kAo1_q, ↓kAo2_q, ↓kAo3_q, ↓s_astop_q, ↓kIf_q, ↓s_if_q, ↓kIte_q, ↓s_ite_q, ↓kItr_q, ↓s_itr_q, ↓kRet_q, ↓s_retI_q, ↓kReR_q, ↓s_retR_q, ↓kSw_q, ↓s_sw_q, lvI_s, lvI_z, lvL_s, lvL_z, lvR_s, lvR_z, kFld_q, kFlR_q, kAl1_q, kAl2_q, kAr1_q, kAr2_q, kLen_q, kO1_q, kO2_q, kD1_q, kD2_q, kL2i_q, kB1_q, kB2_q, kCb_q, kCb_0, kCb_1, kNot_q, kAnd_q, kOr_q, kNul_q, kCond_q, kTern_q, kA2_q, kAI_q, kAL_q, kAR_q, kCall_q, kCalS_q, kRI_q, kRR_q, kRU_q, kRP_q, kSt_q, kStL_q, kStR_q, kPut1_q, kPut2_q, kPz1_q, kPz2_q, kPr1_q, kPr2_q, kPo1_q, kPo2_q, kAs1_q, kAs2_q, kAs3_q, kZs1_q, kZs2_q, kZs3_q, kRs1_q, kRs2_q, kRs3_q, kAo1_q, kAo2_q, kAo3_q, kIf_q, kIte_q, kItr_q, kRet_q, kReR_q, kSw_q, neb_q, gtb_q, geb_q, lnB_s, isI_s, isI_z, gI_s, gI_z, gR_s, gR_z, gA_s, isA_s, bdo_s, rHd_c, isHd_c, noL_z, noL_1, noL_s, nl_I, nl_R, nl_U, stI, stR, bd_t, oA, oS, oM, oD, oR, tn_add, tn_mul, tn_nat, eqb_t, eqb_f, ltb_t, ltb_f, leb_t, leb_f, nob_s, nob_n, nat_eq, nat_lt, nat_le, pK0 hP, pK1 hP, pK2 hP, pK3 hP, pK4 hP, pK5 hP, pK6 hP, pK7 hP, pK8 hP, pR1 hP, pR2 hP, pR3 hP, pR4 hP, pR5 hP, pR6 hP, pR7 hP, pR8 hP, k1, k3, e0]
      exact fin _ _ (by rw [hs]; simp [b2i]) (hS hpf)
  · rintro env st ⟨J, h_Q, rfl, rfl⟩
    exact hkk J h_Q
set_option maxHeartbeats 4000000 in
theorem X3_pull_1 (hP : isProg kd R a) (hw : WG G) {rt m : Nat} (hm : G 65 0 = (m : Int)) (c1 : I (a + 1) 0 = (m : Int)) (c3 : ∀ r : Nat, r < 20 → I (a + 3) r = G 69 r) (ht : 0 ≤ G 71 (10 * rt) ∧ G 71 (10 * rt) ≤ 999) {v5 : AV} (h_v5 : nl v5 = true) {J : Nat → Nat → Int} {a3 : Int} (e_a3 : vI a3 = vI (cntB (pullc G rt) (10 * (0)))) (h_Q : PLQ I J G a rt (10 * (0))) {Kn Kb : XE → XS → Prop} {Kr : AV → XS → Prop} 
    (hkk : ∀ v5 : AV, ∀ (J : Nat → Nat → Int), nl v5 = true → (PLQ I J G a rt (10 * (m))) → Kn [vR (some a), vI (rt : Int), vI (G 71 (10 * rt)), vI (cntB (pullc G rt) (10 * (m))), vI ((m : Nat) : Int), v5] (kd, J, R)) : lp_X3_pullFace_1 Kn Kb Kr [vR (some a), vI (rt : Int), vI (G 71 (10 * rt)), vI a3, vI 0, v5] (kd, J, R) := by
  unfold lp_X3_pullFace_1
  have hr20 := hw.1.1.2.1
  refine forUp (lo := 0) (n := m) (fun r env st => ∃ v5 : AV, ∃ (J : Nat → Nat → Int), nl v5 = true ∧ (PLQ I J G a rt (10 * (r))) ∧ env = [vR (some a), vI (rt : Int), vI (G 71 (10 * rt)), vI (cntB (pullc G rt) (10 * (r))), vI (r : Int), v5] ∧ st = (kd, J, R)) (by omega) (by omega) ⟨v5, J, h_v5, h_Q, by first | (rw [e_a3]; done) | (rw [e_a3]; rfl), rfl⟩ ?_ ?_ ?_
  · rintro r env st hle ⟨v5, J, h_v5, h_Q, rfl, rfl⟩
    first | exact ⟨rfl, fun K h => h⟩ | exact ⟨rfl, fun K h => ⟨_, rfl, h⟩⟩ | (refine ⟨rfl, fun K h => ?_⟩; simp (disch := omega) [-Int.not_le, -Int.not_lt, ↓e_ci_p, ↓e_lv_p, ↓l_lv_p, ↓r_lv_p, ↓r_null_p, ↓e_fld_p, ↓r_fld_p, ↓e_ald_p, ↓z_ald_p, ↓r_ald_p, ↓e_len_p, ↓e_op_p, ↓e_dv_p, ↓l_op_p, ↓l_dv_p, ↓l_sh_p, ↓e_lcmp_p, ↓e_l2i_p, ↓e_min_p, ↓c_b_p, ↓c_not_p, ↓c_and_p, ↓c_or_p, ↓c_null_p, ↓c_eq_p, ↓c_ne_p, ↓c_lt_p, ↓c_ge_p, ↓c_gt_p, ↓c_le_p, ↓e_cond_p, ↓x_tern_p, ↓a_nil_p, ↓a_I_p, ↓a_L_p, ↓a_R_p, ↓e_callV_p, ↓r_callV_p, ↓e_callS_p, ↓s_skip_p, ↓s_seq_p, ↓s_st_p, ↓s_stL_p, ↓s_stR_p, ↓s_inc_p, ↓s_put_p, ↓s_putZ_p, ↓s_putR_p, ↓s_putop_p, ↓s_ast_p, ↓s_zast_p, ↓s_rast_p, ↓s_astop_p, ↓s_callV_p, ↓s_popV_p, ↓s_if_p, ↓s_ite_p, ↓s_itr_p, ↓s_brk_p, ↓s_retI_p, ↓s_retR_p, ↓s_ret_p, ↓s_sw_p, isI_s, isI_z, isL_s, isL_z, isR_s, isR_z, gI_s, gI_z, gL_z, gR_s, gR_z, gA_s, isA_s, bdo_s, arOK_s, isVI_I, isVR_R, vInt_I, vInt_L, vRef_R, lenOf_s, lnOK_s, rHd_c, isHd_c, noL_z, noL_1, noL_s, nl_I, nl_R, nl_U, stI, stR, bd_t, oA, oS, oM, oD, oR, tn_add, tn_mul, tn_nat, eqb_t, eqb_f, ltb_t, ltb_f, leb_t, leb_f, nob_s, nob_n, nat_eq, nat_lt, nat_le, pK0 hP, pK1 hP, pK2 hP, pK3 hP, pK4 hP, pK5 hP, pK6 hP, pK7 hP, pK8 hP, pR1 hP, pR2 hP, pR3 hP, pR4 hP, pR5 hP, pR6 hP, pR7 hP, pR8 hP, (show J (a + 1) 0 = (m : Int) from by rw [h_Q.1 (a + 1) (by omega)]; exact c1)]; first | exact h | simpa using h)
  · rintro r env st hlo hlt ⟨v5, J, h_v5, h_Q, rfl, rfl⟩ Kx hx
    have fin : ∀ (b3 : Int) (v5' : AV) (J : Nat → Nat → Int) , vI b3 = vI (cntB (pullc G rt) (10 * (r + 1))) → nl v5' = true → (PLQ I J G a rt (10 * (r + 1))) → Kx [vR (some a), vI (rt : Int), vI (G 71 (10 * rt)), vI b3, vI (r : Int), v5'] (kd, J, R) := by
      intro b3 v5' J q_a3 q_v5 q_Q
      exact hx _ _ rfl (by simp [noL_z, noL_1, noL_s, nl_I, nl_R, nl_U, q_v5, h_v5]) ⟨v5', J, q_v5, q_Q, by simp [q_a3], rfl⟩
    have b := (hw.1.2.1 r (by omega)).2.1
    obtain ⟨c, hc⟩ : ∃ c : Nat, G 69 r = c := ⟨(G 69 r).toNat, by omega⟩
    simp (disch := omega) [-Int.not_le, -Int.not_lt, ↓e_ci_p, ↓r_null_p, ↓a_nil_p, ↓s_skip_p, ↓s_inc_p, ↓s_brk_p, ↓s_ret_p, ↓lvI_s, ↓lvI_z, ↓lvL_s, ↓lvL_z, ↓lvR_s, ↓lvR_z, ↓e_lv_q, ↓l_lv_q, ↓r_lv_q, ↓kFld_q, ↓e_fld_q, ↓kFlR_q, ↓r_fld_q, ↓kAl1_q, ↓kAl2_q, ↓e_ald_q, ↓z_ald_q, ↓kAr1_q, ↓kAr2_q, ↓r_ald_q, ↓kLen_q, ↓e_len_q, ↓kO1_q, ↓kO2_q, ↓kD1_q, ↓kD2_q, ↓e_op_q, ↓e_dv_q, ↓l_op_q, ↓l_dv_q, ↓l_sh_q, ↓e_lcmp_q, ↓e_min_q, ↓kL2i_q, ↓e_l2i_q, ↓kB1_q, ↓kB2_q, ↓c_eq_q, ↓c_ne_q, ↓c_lt_q, ↓c_ge_q, ↓c_gt_q, ↓c_le_q, ↓kCb_q, ↓kCb_0, ↓kCb_1, ↓c_b_q, ↓kNot_q, ↓c_not_q, ↓kAnd_q, ↓c_and_q, ↓kOr_q, ↓c_or_q, ↓kNul_q, ↓c_null_q, ↓kCond_q, ↓e_cond_q, ↓kTern_q, ↓x_tern_q, ↓kA2_q, ↓kAI_q, ↓kAL_q, ↓kAR_q, ↓a_I_q, ↓a_L_q, ↓a_R_q, ↓kCall_q, ↓kCalS_q, ↓kRI_q, ↓kRR_q, ↓kRU_q, ↓kRP_q, ↓e_callV_q, ↓r_callV_q, ↓e_callS_q, ↓s_callV_q, ↓s_popV_q, ↓s_seq_q, ↓kSt_q, ↓s_st_q, ↓kStL_q, ↓s_stL_q, ↓kStR_q, ↓s_stR_q, ↓kPut1_q, ↓kPut2_q, ↓s_put_q, ↓kPz1_q, ↓kPz2_q, ↓s_putZ_q, ↓kPr1_q, ↓kPr2_q, ↓s_putR_q, ↓kPo1_q, ↓kPo2_q, ↓s_putop_q, ↓kAs1_q, ↓kAs2_q, ↓kAs3_q, ↓s_ast_q, ↓kZs1_q, ↓kZs2_q, ↓kZs3_q, ↓s_zast_q, ↓kRs1_q, ↓kRs2_q, ↓kRs3_q, ↓s_rast_q, ↓kAo1_q, ↓kAo2_q, ↓kAo3_q, ↓s_astop_q, ↓kIf_q, ↓s_if_q, ↓kIte_q, ↓s_ite_q, ↓kItr_q, ↓s_itr_q, ↓kRet_q, ↓s_retI_q, ↓kReR_q, ↓s_retR_q, ↓kSw_q, ↓s_sw_q, lvI_s, lvI_z, lvL_s, lvL_z, lvR_s, lvR_z, kFld_q, kFlR_q, kAl1_q, kAl2_q, kAr1_q, kAr2_q, kLen_q, kO1_q, kO2_q, kD1_q, kD2_q, kL2i_q, kB1_q, kB2_q, kCb_q, kCb_0, kCb_1, kNot_q, kAnd_q, kOr_q, kNul_q, kCond_q, kTern_q, kA2_q, kAI_q, kAL_q, kAR_q, kCall_q, kCalS_q, kRI_q, kRR_q, kRU_q, kRP_q, kSt_q, kStL_q, kStR_q, kPut1_q, kPut2_q, kPz1_q, kPz2_q, kPr1_q, kPr2_q, kPo1_q, kPo2_q, kAs1_q, kAs2_q, kAs3_q, kZs1_q, kZs2_q, kZs3_q, kRs1_q, kRs2_q, kRs3_q, kAo1_q, kAo2_q, kAo3_q, kIf_q, kIte_q, kItr_q, kRet_q, kReR_q, kSw_q, neb_q, gtb_q, geb_q, lnB_s, isI_s, isI_z, gI_s, gI_z, gR_s, gR_z, gA_s, isA_s, bdo_s, rHd_c, isHd_c, noL_z, noL_1, noL_s, nl_I, nl_R, nl_U, stI, stR, bd_t, oA, oS, oM, oD, oR, tn_add, tn_mul, tn_nat, eqb_t, eqb_f, ltb_t, ltb_f, leb_t, leb_f, nob_s, nob_n, nat_eq, nat_lt, nat_le, pK0 hP, pK1 hP, pK2 hP, pK3 hP, pK4 hP, pK5 hP, pK6 hP, pK7 hP, pK8 hP, pR1 hP, pR2 hP, pR3 hP, pR4 hP, pR5 hP, pR6 hP, pR7 hP, pR8 hP, h_v5]
    refine X3_pull_0 (I := I) (G := G) hP hw (show (r : Int) < G 65 0 by omega) hc c3 ht rfl h_Q (fun J' hQ => ?_)
    have g2 := cntB_skip (f := pullc G rt) (a := 10 * r + c) (b := 10 * (r + 1)) (by omega) (fun j h1 h2 => pullc_gap hc h1 h2)
    refine fin _ _ _ (by rw [g2]) rfl ⟨hQ.1, fun u v hu hv => ?_⟩
    have hv10 := (hw.1.2.1 u hu).2.1
    rw [hQ.2 u v hu hv]
    by_cases cc : 10 * u + v < 10 * r + c
    · rw [if_pos cc, if_pos (by omega)]
    · rw [if_neg cc]
      have : ¬ 10 * u + v < 10 * (r + 1) := by
        intro h
        have : u = r := by omega
        subst this
        omega
      rw [if_neg this]
  · rintro env st ⟨v5, J, h_v5, h_Q, rfl, rfl⟩
    exact hkk v5 J h_v5 h_Q
theorem X3_pull_ok (hP : isProg kd R a) (hC : RC I a G) (hw : WG G) {rt : Nat} (hr : (rt : Int) < G 65 0) (hf : G 77 rt = 1) (hk : ∀ J, frA a I J → RC J a (gPull G rt) → K (vI (cntB (pullc G rt) 200)) (kd, J, R)) : B_X3_pullFace [vR (some a), vI (rt : Int)] (kd, I, R) K := by
  have hpf := fun s => pullF_face (s := s) hw hf
  have c5' := hC.2.2.2.2.2.2.1 rt hr
  rw [if_pos hf] at c5'
  have hw' := hw
  obtain ⟨⟨c1, c2, c3, c4⟩, c5, c6, c7, c8, c9, c10, c11, c12, c13⟩ := hC
  obtain ⟨⟨⟨hp0, hr0, hf0, hn0⟩, w1, w2, w3, w4, w5, w6, w7⟩, g2, g3, g4, g5⟩ := hw
  have hT1 := (w1 rt hr).2.2 hf
  have hT := w2 rt 0 hr (by rw [hT1.1]; decide)
  simp only [Nat.add_zero] at hT
  obtain ⟨m, hm⟩ : ∃ n : Nat, G 65 0 = (n : Int) := ⟨(G 65 0).toNat, by omega⟩
  simp [B_X3_pullFace, bodyOf, envOf, exA, catV, rkOK]
  simp (disch := omega) [t_X3_pullFace, -Int.not_le, -Int.not_lt, ↓e_ci_p, ↓r_null_p, ↓a_nil_p, ↓s_skip_p, ↓s_inc_p, ↓s_brk_p, ↓s_ret_p, ↓lvI_s, ↓lvI_z, ↓lvL_s, ↓lvL_z, ↓lvR_s, ↓lvR_z, ↓e_lv_q, ↓l_lv_q, ↓r_lv_q, ↓kFld_q, ↓e_fld_q, ↓kFlR_q, ↓r_fld_q, ↓kAl1_q, ↓kAl2_q, ↓e_ald_q, ↓z_ald_q, ↓kAr1_q, ↓kAr2_q, ↓r_ald_q, ↓kLen_q, ↓e_len_q, ↓kO1_q, ↓kO2_q, ↓kD1_q, ↓kD2_q, ↓e_op_q, ↓e_dv_q, ↓l_op_q, ↓l_dv_q, ↓l_sh_q, ↓e_lcmp_q, ↓e_min_q, ↓kL2i_q, ↓e_l2i_q, ↓kB1_q, ↓kB2_q, ↓c_eq_q, ↓c_ne_q, ↓c_lt_q, ↓c_ge_q, ↓c_gt_q, ↓c_le_q, ↓kCb_q, ↓kCb_0, ↓kCb_1, ↓c_b_q, ↓kNot_q, ↓c_not_q, ↓kAnd_q, ↓c_and_q, ↓kOr_q, ↓c_or_q, ↓kNul_q, ↓c_null_q, ↓kCond_q, ↓e_cond_q, ↓kTern_q, ↓x_tern_q, ↓kA2_q, ↓kAI_q, ↓kAL_q, ↓kAR_q, ↓a_I_q, ↓a_L_q, ↓a_R_q, ↓kCall_q, ↓kCalS_q, ↓kRI_q, ↓kRR_q, ↓kRU_q, ↓kRP_q, ↓e_callV_q, ↓r_callV_q, ↓e_callS_q, ↓s_callV_q, ↓s_popV_q, ↓s_seq_q, ↓kSt_q, ↓s_st_q, ↓kStL_q, ↓s_stL_q, ↓kStR_q, ↓s_stR_q, ↓kPut1_q, ↓kPut2_q, ↓s_put_q, ↓kPz1_q, ↓kPz2_q, ↓s_putZ_q, ↓kPr1_q, ↓kPr2_q, ↓s_putR_q, ↓kPo1_q, ↓kPo2_q, ↓s_putop_q, ↓kAs1_q, ↓kAs2_q, ↓kAs3_q, ↓s_ast_q, ↓kZs1_q, ↓kZs2_q, ↓kZs3_q, ↓s_zast_q, ↓kRs1_q, ↓kRs2_q, ↓kRs3_q, ↓s_rast_q, ↓kAo1_q, ↓kAo2_q, ↓kAo3_q, ↓s_astop_q, ↓kIf_q, ↓s_if_q, ↓kIte_q, ↓s_ite_q, ↓kItr_q, ↓s_itr_q, ↓kRet_q, ↓s_retI_q, ↓kReR_q, ↓s_retR_q, ↓kSw_q, ↓s_sw_q, lvI_s, lvI_z, lvL_s, lvL_z, lvR_s, lvR_z, kFld_q, kFlR_q, kAl1_q, kAl2_q, kAr1_q, kAr2_q, kLen_q, kO1_q, kO2_q, kD1_q, kD2_q, kL2i_q, kB1_q, kB2_q, kCb_q, kCb_0, kCb_1, kNot_q, kAnd_q, kOr_q, kNul_q, kCond_q, kTern_q, kA2_q, kAI_q, kAL_q, kAR_q, kCall_q, kCalS_q, kRI_q, kRR_q, kRU_q, kRP_q, kSt_q, kStL_q, kStR_q, kPut1_q, kPut2_q, kPz1_q, kPz2_q, kPr1_q, kPr2_q, kPo1_q, kPo2_q, kAs1_q, kAs2_q, kAs3_q, kZs1_q, kZs2_q, kZs3_q, kRs1_q, kRs2_q, kRs3_q, kAo1_q, kAo2_q, kAo3_q, kIf_q, kIte_q, kItr_q, kRet_q, kReR_q, kSw_q, neb_q, gtb_q, geb_q, lnB_s, isI_s, isI_z, gI_s, gI_z, gR_s, gR_z, gA_s, isA_s, bdo_s, rHd_c, isHd_c, noL_z, noL_1, noL_s, nl_I, nl_R, nl_U, stI, stR, bd_t, oA, oS, oM, oD, oR, tn_add, tn_mul, tn_nat, eqb_t, eqb_f, ltb_t, ltb_f, leb_t, leb_f, nob_s, nob_n, nat_eq, nat_lt, nat_le, pK0 hP, pK1 hP, pK2 hP, pK3 hP, pK4 hP, pK5 hP, pK6 hP, pK7 hP, pK8 hP, pR1 hP, pR2 hP, pR3 hP, pR4 hP, pR5 hP, pR6 hP, pR7 hP, pR8 hP, c5']
  refine X3_pull_1 (I := I) (G := G) hP hw' hm (by omega) c8 hT.2.1 nl_U rfl ⟨fun _ _ => rfl, fun u v hu hv => by rw [if_neg (by omega)]; exact c9 u v hu hv⟩ (fun v5 J h5 hQ => ?_)
  have g3' := cntB_skip (f := pullc G rt) (a := 10 * m) (b := 200) (by omega) (fun j h1 h2 => by
    have : ¬ (((j / 10 : Nat) : Int) < G 65 0) := by omega
    simp only [pullc, this, decide_false, Bool.false_and])
  simp (disch := omega) [-Int.not_le, -Int.not_lt, ↓e_ci_p, ↓r_null_p, ↓a_nil_p, ↓s_skip_p, ↓s_inc_p, ↓s_brk_p, ↓s_ret_p, ↓lvI_s, ↓lvI_z, ↓lvL_s, ↓lvL_z, ↓lvR_s, ↓lvR_z, ↓e_lv_q, ↓l_lv_q, ↓r_lv_q, ↓kFld_q, ↓e_fld_q, ↓kFlR_q, ↓r_fld_q, ↓kAl1_q, ↓kAl2_q, ↓e_ald_q, ↓z_ald_q, ↓kAr1_q, ↓kAr2_q, ↓r_ald_q, ↓kLen_q, ↓e_len_q, ↓kO1_q, ↓kO2_q, ↓kD1_q, ↓kD2_q, ↓e_op_q, ↓e_dv_q, ↓l_op_q, ↓l_dv_q, ↓l_sh_q, ↓e_lcmp_q, ↓e_min_q, ↓kL2i_q, ↓e_l2i_q, ↓kB1_q, ↓kB2_q, ↓c_eq_q, ↓c_ne_q, ↓c_lt_q, ↓c_ge_q, ↓c_gt_q, ↓c_le_q, ↓kCb_q, ↓kCb_0, ↓kCb_1, ↓c_b_q, ↓kNot_q, ↓c_not_q, ↓kAnd_q, ↓c_and_q, ↓kOr_q, ↓c_or_q, ↓kNul_q, ↓c_null_q, ↓kCond_q, ↓e_cond_q, ↓kTern_q, ↓x_tern_q, ↓kA2_q, ↓kAI_q, ↓kAL_q, ↓kAR_q, ↓a_I_q, ↓a_L_q, ↓a_R_q, ↓kCall_q, ↓kCalS_q, ↓kRI_q, ↓kRR_q, ↓kRU_q, ↓kRP_q, ↓e_callV_q, ↓r_callV_q, ↓e_callS_q, ↓s_callV_q, ↓s_popV_q, ↓s_seq_q, ↓kSt_q, ↓s_st_q, ↓kStL_q, ↓s_stL_q, ↓kStR_q, ↓s_stR_q, ↓kPut1_q, ↓kPut2_q, ↓s_put_q, ↓kPz1_q, ↓kPz2_q, ↓s_putZ_q, ↓kPr1_q, ↓kPr2_q, ↓s_putR_q, ↓kPo1_q, ↓kPo2_q, ↓s_putop_q, ↓kAs1_q, ↓kAs2_q, ↓kAs3_q, ↓s_ast_q, ↓kZs1_q, ↓kZs2_q, ↓kZs3_q, ↓s_zast_q, ↓kRs1_q, ↓kRs2_q, ↓kRs3_q, ↓s_rast_q, ↓kAo1_q, ↓kAo2_q, ↓kAo3_q, ↓s_astop_q, ↓kIf_q, ↓s_if_q, ↓kIte_q, ↓s_ite_q, ↓kItr_q, ↓s_itr_q, ↓kRet_q, ↓s_retI_q, ↓kReR_q, ↓s_retR_q, ↓kSw_q, ↓s_sw_q, lvI_s, lvI_z, lvL_s, lvL_z, lvR_s, lvR_z, kFld_q, kFlR_q, kAl1_q, kAl2_q, kAr1_q, kAr2_q, kLen_q, kO1_q, kO2_q, kD1_q, kD2_q, kL2i_q, kB1_q, kB2_q, kCb_q, kCb_0, kCb_1, kNot_q, kAnd_q, kOr_q, kNul_q, kCond_q, kTern_q, kA2_q, kAI_q, kAL_q, kAR_q, kCall_q, kCalS_q, kRI_q, kRR_q, kRU_q, kRP_q, kSt_q, kStL_q, kStR_q, kPut1_q, kPut2_q, kPz1_q, kPz2_q, kPr1_q, kPr2_q, kPo1_q, kPo2_q, kAs1_q, kAs2_q, kAs3_q, kZs1_q, kZs2_q, kZs3_q, kRs1_q, kRs2_q, kRs3_q, kAo1_q, kAo2_q, kAo3_q, kIf_q, kIte_q, kItr_q, kRet_q, kReR_q, kSw_q, neb_q, gtb_q, geb_q, lnB_s, isI_s, isI_z, gI_s, gI_z, gR_s, gR_z, gA_s, isA_s, bdo_s, rHd_c, isHd_c, noL_z, noL_1, noL_s, nl_I, nl_R, nl_U, stI, stR, bd_t, oA, oS, oM, oD, oR, tn_add, tn_mul, tn_nat, eqb_t, eqb_f, ltb_t, ltb_f, leb_t, leb_f, nob_s, nob_n, nat_eq, nat_lt, nat_le, pK0 hP, pK1 hP, pK2 hP, pK3 hP, pK4 hP, pK5 hP, pK6 hP, pK7 hP, pK8 hP, pR1 hP, pR2 hP, pR3 hP, pR4 hP, pR5 hP, pR6 hP, pR7 hP, pR8 hP]
  rw [← g3']
  have q1 := hQ.1
  have q2 := hQ.2
  have f3 : ∀ i, i ≤ 8 → i ≠ 3 → i ≠ 4 → i ≠ 5 → upI (upI J (a + 5) rt (-1)) (a + 3) rt 0 (a + i) = I (a + i) := fun i h1 h2 h3 h4 => by rw [upI_row (by omega), upI_row (by omega), q1 _ (by omega)]
  have f0 : upI (upI J (a + 5) rt (-1)) (a + 3) rt 0 a = I a := by rw [upI_row (by omega), upI_row (by omega), q1 _ (by omega)]
  have f4 : upI (upI J (a + 5) rt (-1)) (a + 3) rt 0 (a + 4) = J (a + 4) := by rw [upI_row (by omega), upI_row (by omega)]
  have f5 : upI (upI J (a + 5) rt (-1)) (a + 3) rt 0 (a + 5) = updL (I (a + 5)) rt (-1) := by rw [upI_row (by omega), upI_at, q1 _ (by omega)]
  have f3' : upI (upI J (a + 5) rt (-1)) (a + 3) rt 0 (a + 3) = updL (I (a + 3)) rt 0 := by rw [upI_at, upI_row (by omega), q1 _ (by omega)]
  refine hk _ (fun x hx => by rw [upI_row (by omega), upI_row (by omega), q1 x (by omega)]) ?_
  have e : ∀ x, x ≠ 69 → x ≠ 71 → x ≠ 77 → gPull G rt x = G x := fun x a b c => by unfold gPull; rw [upI_row c, upI_row a, setRow_row b]
  have e69 : gPull G rt 69 = updL (G 69) rt 0 := by unfold gPull; rw [upI_row (by decide), upI_at, setRow_row (by decide)]
  have e71 : ∀ k, k < 200 → gPull G rt 71 k = pullF G rt k := fun k hk => by unfold gPull; rw [upI_row (by decide), upI_row (by decide), setRow_at hk]
  have e77 : gPull G rt 77 = updL (G 77) rt 0 := by unfold gPull; rw [upI_at, upI_row (by decide), setRow_row (by decide)]
  unfold RC
  simp only [e 64 (by decide) (by decide) (by decide), e 65 (by decide) (by decide) (by decide), e 66 (by decide) (by decide) (by decide), e 67 (by decide) (by decide) (by decide), e 68 (by decide) (by decide) (by decide), e 70 (by decide) (by decide) (by decide), e 72 (by decide) (by decide) (by decide), e 73 (by decide) (by decide) (by decide), e 74 (by decide) (by decide) (by decide), e 75 (by decide) (by decide) (by decide), e 76 (by decide) (by decide) (by decide), e69, e77, f0, f4, f5, f3', f3 1 (by omega) (by omega) (by omega) (by omega), f3 2 (by omega) (by omega) (by omega) (by omega), f3 6 (by omega) (by omega) (by omega) (by omega), f3 7 (by omega) (by omega) (by omega) (by omega), f3 8 (by omega) (by omega) (by omega) (by omega)]
  refine ⟨⟨c1, c2, c3, c4⟩, c5, c6, c7, fun r hr => ?_, fun r i hr2 hi => ?_, fun r hr2 => ?_, c11, c12, c13⟩
  · by_cases h : r = rt
    · subst h; rw [updL_at, updL_at]
    · rw [updL_ne h, updL_ne h]; exact c8 r hr
  · by_cases h : r = rt
    · subst h; rw [updL_at] at hi; omega
    · rw [updL_ne h] at hi
      have := (w1 r hr2).2.1
      rw [q2 r i hr2 hi, if_pos (by omega), e71 _ (by omega)]
  · by_cases h : r = rt
    · subst h; rw [updL_at, updL_at, if_neg (by decide)]
    · rw [updL_ne h, updL_ne h, c10 r hr2]
      by_cases h77 : G 77 r = 1
      · rw [if_pos h77, if_pos h77, e71 _ (by omega), pullF_no (hpf r hr2 h77)]
      · rw [if_neg h77, if_neg h77]
end CL2
