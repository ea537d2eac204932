/-! the class's programs: changes -/
section CM
variable {kd : List (Nat × Nat)} {R : Nat → Nat → Option Nat} {I G : Nat → Nat → Int} {K : AV → XS → Prop} {a : Nat}
def frA (a : Nat) (I J : Nat → Nat → Int) : Prop := ∀ x, ¬ (a ≤ x ∧ x ≤ a + 8) → J x = I x
theorem frA_up {J : Nat → Nat → Int} (h : frA a I J) {i k : Nat} {v : Int} (hi : i ≤ 8) : frA a I (upI J (a + i) k v) := fun x hx => by rw [upI_row (by omega)]; exact h x hx
theorem frA_refl : frA a I I := fun _ _ => rfl
/-- copies of a program -/
def cpP (I : Nat → Nat → Int) (b a : Nat) : Nat → Nat → Int := setRow (setRow (setRow (setRow (setRow (setRow (setRow (setRow (upI I b 0 (I a 0)) (b + 1) 3 (I (a + 1))) (b + 2) 60 (I (a + 2))) (b + 3) 20 (I (a + 3))) (b + 4) 200 (I (a + 4))) (b + 5) 20 (I (a + 5))) (b + 6) 8 (I (a + 6))) (b + 7) 48 (I (a + 7))) (b + 8) 100 (I (a + 8))
theorem X3_copyFrom_ok {b : Nat} (hP : isProg kd R b) (hQ : isProg kd R a) (hd : ∀ i j, i ≤ 8 → j ≤ 8 → a + i ≠ b + j) (hk : K vU (kd, cpP I b a, R)) : B_X3_copyFrom [vR (some b), vR (some a)] (kd, I, R) K := by
  have n0 : ∀ i, i ≤ 8 → a + i ≠ b := fun i hi => by have := hd i 0 hi (by omega); omega
  have h1 : ∀ v, upI I b 0 v (a + 1) = I (a + 1) := fun v => upI_row (n0 1 (by omega))
  have h2 : ∀ v f, setRow (upI I b 0 v) (b + 1) 3 f (a + 2) = I (a + 2) := fun v f => by rw [setRow_row (hd 2 1 (by omega) (by omega)), upI_row (n0 2 (by omega))]
  have h3 : ∀ v f g, setRow (setRow (upI I b 0 v) (b + 1) 3 f) (b + 2) 60 g (a + 3) = I (a + 3) := fun v f g => by rw [setRow_row (hd 3 2 (by omega) (by omega)), setRow_row (hd 3 1 (by omega) (by omega)), upI_row (n0 3 (by omega))]
  have h4 : ∀ v f g h, setRow (setRow (setRow (upI I b 0 v) (b + 1) 3 f) (b + 2) 60 g) (b + 3) 20 h (a + 4) = I (a + 4) := fun v f g h => by rw [setRow_row (hd 4 3 (by omega) (by omega)), setRow_row (hd 4 2 (by omega) (by omega)), setRow_row (hd 4 1 (by omega) (by omega)), upI_row (n0 4 (by omega))]
  have h5 : ∀ v f g h i, setRow (setRow (setRow (setRow (upI I b 0 v) (b + 1) 3 f) (b + 2) 60 g) (b + 3) 20 h) (b + 4) 200 i (a + 5) = I (a + 5) := fun v f g h i => by rw [setRow_row (hd 5 4 (by omega) (by omega)), setRow_row (hd 5 3 (by omega) (by omega)), setRow_row (hd 5 2 (by omega) (by omega)), setRow_row (hd 5 1 (by omega) (by omega)), upI_row (n0 5 (by omega))]
  have h6 : ∀ v f g h i j, setRow (setRow (setRow (setRow (setRow (upI I b 0 v) (b + 1) 3 f) (b + 2) 60 g) (b + 3) 20 h) (b + 4) 200 i) (b + 5) 20 j (a + 6) = I (a + 6) := fun v f g h i j => by rw [setRow_row (hd 6 5 (by omega) (by omega)), setRow_row (hd 6 4 (by omega) (by omega)), setRow_row (hd 6 3 (by omega) (by omega)), setRow_row (hd 6 2 (by omega) (by omega)), setRow_row (hd 6 1 (by omega) (by omega)), upI_row (n0 6 (by omega))]
  have h7 : ∀ v f g h i j k, setRow (setRow (setRow (setRow (setRow (setRow (upI I b 0 v) (b + 1) 3 f) (b + 2) 60 g) (b + 3) 20 h) (b + 4) 200 i) (b + 5) 20 j) (b + 6) 8 k (a + 7) = I (a + 7) := fun v f g h i j k => by rw [setRow_row (hd 7 6 (by omega) (by omega)), setRow_row (hd 7 5 (by omega) (by omega)), setRow_row (hd 7 4 (by omega) (by omega)), setRow_row (hd 7 3 (by omega) (by omega)), setRow_row (hd 7 2 (by omega) (by omega)), setRow_row (hd 7 1 (by omega) (by omega)), upI_row (n0 7 (by omega))]
  have h8 : ∀ v f g h i j k l, setRow (setRow (setRow (setRow (setRow (setRow (setRow (upI I b 0 v) (b + 1) 3 f) (b + 2) 60 g) (b + 3) 20 h) (b + 4) 200 i) (b + 5) 20 j) (b + 6) 8 k) (b + 7) 48 l (a + 8) = I (a + 8) := fun v f g h i j k l => by rw [setRow_row (hd 8 7 (by omega) (by omega)), setRow_row (hd 8 6 (by omega) (by omega)), setRow_row (hd 8 5 (by omega) (by omega)), setRow_row (hd 8 4 (by omega) (by omega)), setRow_row (hd 8 3 (by omega) (by omega)), setRow_row (hd 8 2 (by omega) (by omega)), setRow_row (hd 8 1 (by omega) (by omega)), upI_row (n0 8 (by omega))]
  simp [B_X3_copyFrom, bodyOf, envOf, exA, catV, rkOK]
  simp (disch := omega) [t_X3_copyFrom, -Int.not_le, -Int.not_lt, ↓e_ci_p, ↓r_null_p, ↓a_nil_p, ↓s_skip_p, ↓s_inc_p, ↓s_brk_p, ↓s_ret_p, ↓lvI_s, ↓lvI_z, ↓lvL_s, ↓lvL_z, ↓lvR_s, ↓lvR_z, ↓e_lv_q, ↓l_lv_q, ↓r_lv_q, ↓kFld_q, ↓e_fld_q, ↓kFlR_q, ↓r_fld_q, ↓kAl1_q, ↓kAl2_q, ↓e_ald_q, ↓z_ald_q, ↓kAr1_q, ↓kAr2_q, ↓r_ald_q, ↓kLen_q, ↓e_len_q, ↓kO1_q, ↓kO2_q, ↓kD1_q, ↓kD2_q, ↓e_op_q, ↓e_dv_q, ↓l_op_q, ↓l_dv_q, ↓l_sh_q, ↓e_lcmp_q, ↓e_min_q, ↓kL2i_q, ↓e_l2i_q, ↓kB1_q, ↓kB2_q, ↓c_eq_q, ↓c_ne_q, ↓c_lt_q, ↓c_ge_q, ↓c_gt_q, ↓c_le_q, ↓kCb_q, ↓kCb_0, ↓kCb_1, ↓c_b_q, ↓kNot_q, ↓c_not_q, ↓kAnd_q, ↓c_and_q, ↓kOr_q, ↓c_or_q, ↓kNul_q, ↓c_null_q, ↓kCond_q, ↓e_cond_q, ↓kTern_q, ↓x_tern_q, ↓kA2_q, ↓kAI_q, ↓kAL_q, ↓kAR_q, ↓a_I_q, ↓a_L_q, ↓a_R_q, ↓kCall_q, ↓kCalS_q, ↓kRI_q, ↓kRR_q, ↓kRU_q, ↓kRP_q, ↓e_callV_q, ↓r_callV_q, ↓e_callS_q, ↓s_callV_q, ↓s_popV_q, ↓s_seq_q, ↓kSt_q, ↓s_st_q, ↓kStL_q, ↓s_stL_q, ↓kStR_q, ↓s_stR_q, ↓kPut1_q, ↓kPut2_q, ↓s_put_q, ↓kPz1_q, ↓kPz2_q, ↓s_putZ_q, ↓kPr1_q, ↓kPr2_q, ↓s_putR_q, ↓kPo1_q, ↓kPo2_q, ↓s_putop_q, ↓kAs1_q, ↓kAs2_q, ↓kAs3_q, ↓s_ast_q, ↓kZs1_q, ↓kZs2_q, ↓kZs3_q, ↓s_zast_q, ↓kRs1_q, ↓kRs2_q, ↓kRs3_q, ↓s_rast_q, ↓kAo1_q, ↓kAo2_q, ↓kAo3_q, ↓s_astop_q, ↓kIf_q, ↓s_if_q, ↓kIte_q, ↓s_ite_q, ↓kItr_q, ↓s_itr_q, ↓kRet_q, ↓s_retI_q, ↓kReR_q, ↓s_retR_q, ↓kSw_q, ↓s_sw_q, lvI_s, lvI_z, lvL_s, lvL_z, lvR_s, lvR_z, kFld_q, kFlR_q, kAl1_q, kAl2_q, kAr1_q, kAr2_q, kLen_q, kO1_q, kO2_q, kD1_q, kD2_q, kL2i_q, kB1_q, kB2_q, kCb_q, kCb_0, kCb_1, kNot_q, kAnd_q, kOr_q, kNul_q, kCond_q, kTern_q, kA2_q, kAI_q, kAL_q, kAR_q, kCall_q, kCalS_q, kRI_q, kRR_q, kRU_q, kRP_q, kSt_q, kStL_q, kStR_q, kPut1_q, kPut2_q, kPz1_q, kPz2_q, kPr1_q, kPr2_q, kPo1_q, kPo2_q, kAs1_q, kAs2_q, kAs3_q, kZs1_q, kZs2_q, kZs3_q, kRs1_q, kRs2_q, kRs3_q, kAo1_q, kAo2_q, kAo3_q, kIf_q, kIte_q, kItr_q, kRet_q, kReR_q, kSw_q, neb_q, gtb_q, geb_q, lnB_s, isI_s, isI_z, gI_s, gI_z, gR_s, gR_z, gA_s, isA_s, bdo_s, rHd_c, isHd_c, noL_z, noL_1, noL_s, nl_I, nl_R, nl_U, stI, stR, bd_t, oA, oS, oM, oD, oR, tn_add, tn_mul, tn_nat, eqb_t, eqb_f, ltb_t, ltb_f, leb_t, leb_f, nob_s, nob_n, nat_eq, nat_lt, nat_le, ↓s_copy_q, ↓kCp1_q, kCp1_q, ↓kCp2_q, kCp2_q, ↓kCp3_q, kCp3_q, ↓kCp4_q, kCp4_q, ↓kCp5_q, kCp5_q, cpB_s, pK0 hP, pK1 hP, pK2 hP, pK3 hP, pK4 hP, pK5 hP, pK6 hP, pK7 hP, pK8 hP, pR1 hP, pR2 hP, pR3 hP, pR4 hP, pR5 hP, pR6 hP, pR7 hP, pR8 hP, pK0 hQ, pK1 hQ, pK2 hQ, pK3 hQ, pK4 hQ, pK5 hQ, pK6 hQ, pK7 hQ, pK8 hQ, pR1 hQ, pR2 hQ, pR3 hQ, pR4 hQ, pR5 hQ, pR6 hQ, pR7 hQ, pR8 hQ, h1, h2, h3, h4, h5, h6, h7, h8]
  exact hk
theorem cpP_fr {b : Nat} : frA b I (cpP I b a) := fun x hx => by
  unfold cpP
  rw [setRow_row (by omega), setRow_row (by omega), setRow_row (by omega), setRow_row (by omega), setRow_row (by omega), setRow_row (by omega), setRow_row (by omega), setRow_row (by omega), upI_row (by omega)]
theorem cpP_RC {b : Nat} (hC : RC I a G) (hw : WF G) : RC (cpP I b a) b G := by
  obtain ⟨⟨c1, c2, c3, c4⟩, c5, c6, c7, c8, c9, c10, c11, c12, c13⟩ := hC
  have hp := hw.1
  have r0 : cpP I b a b 0 = I a 0 := by
    unfold cpP
    rw [setRow_row (by omega), setRow_row (by omega), setRow_row (by omega), setRow_row (by omega), setRow_row (by omega), setRow_row (by omega), setRow_row (by omega), setRow_row (by omega)]; simp [upI]
  have r1 : ∀ k, k < 3 → cpP I b a (b + 1) k = I (a + 1) k := fun k hk => by
    unfold cpP
    rw [setRow_row (by omega), setRow_row (by omega), setRow_row (by omega), setRow_row (by omega), setRow_row (by omega), setRow_row (by omega), setRow_row (by omega), setRow_at hk]
  have r2 : ∀ k, k < 60 → cpP I b a (b + 2) k = I (a + 2) k := fun k hk => by
    unfold cpP
    rw [setRow_row (by omega), setRow_row (by omega), setRow_row (by omega), setRow_row (by omega), setRow_row (by omega), setRow_row (by omega), setRow_at hk]
  have r3 : ∀ k, k < 20 → cpP I b a (b + 3) k = I (a + 3) k := fun k hk => by
    unfold cpP
    rw [setRow_row (by omega), setRow_row (by omega), setRow_row (by omega), setRow_row (by omega), setRow_row (by omega), setRow_at hk]
  have r4 : ∀ k, k < 200 → cpP I b a (b + 4) k = I (a + 4) k := fun k hk => by
    unfold cpP
    rw [setRow_row (by omega), setRow_row (by omega), setRow_row (by omega), setRow_row (by omega), setRow_at hk]
  have r5 : ∀ k, k < 20 → cpP I b a (b + 5) k = I (a + 5) k := fun k hk => by
    unfold cpP
    rw [setRow_row (by omega), setRow_row (by omega), setRow_row (by omega), setRow_at hk]
  have r6 : ∀ k, k < 8 → cpP I b a (b + 6) k = I (a + 6) k := fun k hk => by
    unfold cpP
    rw [setRow_row (by omega), setRow_row (by omega), setRow_at hk]
  have r7 : ∀ k, k < 48 → cpP I b a (b + 7) k = I (a + 7) k := fun k hk => by
    unfold cpP
    rw [setRow_row (by omega), setRow_at hk]
  have r8 : ∀ k, k < 100 → cpP I b a (b + 8) k = I (a + 8) k := fun k hk => by
    unfold cpP
    rw [setRow_at hk]
  refine ⟨⟨by rw [r0]; exact c1, by rw [r1 0 (by omega)]; exact c2, by rw [r1 1 (by omega)]; exact c3, by rw [r1 2 (by omega)]; exact c4⟩, fun r hr => by rw [r2 r (by omega)]; exact c5 r hr, fun r hr => by rw [r2 _ (by omega)]; exact c6 r hr, fun r hr => by rw [r2 _ (by omega)]; exact c7 r hr, fun r hr => by rw [r3 r hr]; exact c8 r hr, fun r i hr hi => ?_, fun r hr => by rw [r5 r (by omega)]; exact c10 r hr, fun r hr => by rw [r6 r hr]; exact c11 r hr, fun m i hm hi => ?_, fun k hk => by rw [r8 k hk]; exact c13 k hk⟩
  · have := (hw.2.1 r hr).2.1
    rw [r4 _ (by omega)]; exact c9 r i hr hi
  · have := (hw.2.2.2.2.1 m hm).2
    rw [r7 _ (by omega)]; exact c12 m i hm hi
theorem RC_part (hC : RC I a G) : RC (upI I a 0 (G 64 0 + 1)) a (gPart G) := by
  obtain ⟨⟨c1, c2, c3, c4⟩, c5, c6, c7, c8, c9, c10, c11, c12, c13⟩ := hC
  have e : ∀ x, x ≠ 64 → gPart G x = G x := fun x hx => upI_row hx
  have e0 : gPart G 64 0 = G 64 0 + 1 := by simp [gPart, upI]
  have r : ∀ i, 1 ≤ i → upI I a 0 (G 64 0 + 1) (a + i) = I (a + i) := fun i hi => upI_row (by omega)
  unfold RC
  simp only [e 65 (by decide), e 66 (by decide), e 67 (by decide), e 68 (by decide), e 69 (by decide), e 70 (by decide), e 71 (by decide), e 72 (by decide), e 73 (by decide), e 74 (by decide), e 75 (by decide), e 76 (by decide), e 77 (by decide), e0, r 1 (by omega), r 2 (by omega), r 3 (by omega), r 4 (by omega), r 5 (by omega), r 6 (by omega), r 7 (by omega), r 8 (by omega)]
  exact ⟨⟨by simp [upI], c2, c3, c4⟩, c5, c6, c7, c8, c9, c10, c11, c12, c13⟩
theorem X3_addPart_ok (hP : isProg kd R a) (hC : RC I a G) (hw : WF G) (hk : K (vI (G 64 0)) (kd, upI I a 0 (G 64 0 + 1), R)) : B_X3_addPart [vR (some a)] (kd, I, R) K := by
  have c1 := hC.1.1
  have hp := hw.1.1
  have u : upI I a 0 (G 64 0 + 1) a 0 = G 64 0 + 1 := by simp [upI]
  have e : G 64 0 + 1 - 1 = G 64 0 := by omega
  simp [B_X3_addPart, bodyOf, envOf, exA, catV, rkOK]
  simp (disch := omega) [t_X3_addPart, -Int.not_le, -Int.not_lt, ↓e_ci_p, ↓r_null_p, ↓a_nil_p, ↓s_skip_p, ↓s_inc_p, ↓s_brk_p, ↓s_ret_p, ↓lvI_s, ↓lvI_z, ↓lvL_s, ↓lvL_z, ↓lvR_s, ↓lvR_z, ↓e_lv_q, ↓l_lv_q, ↓r_lv_q, ↓kFld_q, ↓e_fld_q, ↓kFlR_q, ↓r_fld_q, ↓kAl1_q, ↓kAl2_q, ↓e_ald_q, ↓z_ald_q, ↓kAr1_q, ↓kAr2_q, ↓r_ald_q, ↓kLen_q, ↓e_len_q, ↓kO1_q, ↓kO2_q, ↓kD1_q, ↓kD2_q, ↓e_op_q, ↓e_dv_q, ↓l_op_q, ↓l_dv_q, ↓l_sh_q, ↓e_lcmp_q, ↓e_min_q, ↓kL2i_q, ↓e_l2i_q, ↓kB1_q, ↓kB2_q, ↓c_eq_q, ↓c_ne_q, ↓c_lt_q, ↓c_ge_q, ↓c_gt_q, ↓c_le_q, ↓kCb_q, ↓kCb_0, ↓kCb_1, ↓c_b_q, ↓kNot_q, ↓c_not_q, ↓kAnd_q, ↓c_and_q, ↓kOr_q, ↓c_or_q, ↓kNul_q, ↓c_null_q, ↓kCond_q, ↓e_cond_q, ↓kTern_q, ↓x_tern_q, ↓kA2_q, ↓kAI_q, ↓kAL_q, ↓kAR_q, ↓a_I_q, ↓a_L_q, ↓a_R_q, ↓kCall_q, ↓kCalS_q, ↓kRI_q, ↓kRR_q, ↓kRU_q, ↓kRP_q, ↓e_callV_q, ↓r_callV_q, ↓e_callS_q, ↓s_callV_q, ↓s_popV_q, ↓s_seq_q, ↓kSt_q, ↓s_st_q, ↓kStL_q, ↓s_stL_q, ↓kStR_q, ↓s_stR_q, ↓kPut1_q, ↓kPut2_q, ↓s_put_q, ↓kPz1_q, ↓kPz2_q, ↓s_putZ_q, ↓kPr1_q, ↓kPr2_q, ↓s_putR_q, ↓kPo1_q, ↓kPo2_q, ↓s_putop_q, ↓kAs1_q, ↓kAs2_q, ↓kAs3_q, ↓s_ast_q, ↓kZs1_q, ↓kZs2_q, ↓kZs3_q, ↓s_zast_q, ↓kRs1_q, ↓kRs2_q, ↓kRs3_q, ↓s_rast_q, ↓kAo1_q, ↓kAo2_q, ↓kAo3_q, ↓s_astop_q, ↓kIf_q, ↓s_if_q, ↓kIte_q, ↓s_ite_q, ↓kItr_q, ↓s_itr_q, ↓kRet_q, ↓s_retI_q, ↓kReR_q, ↓s_retR_q, ↓kSw_q, ↓s_sw_q, lvI_s, lvI_z, lvL_s, lvL_z, lvR_s, lvR_z, kFld_q, kFlR_q, kAl1_q, kAl2_q, kAr1_q, kAr2_q, kLen_q, kO1_q, kO2_q, kD1_q, kD2_q, kL2i_q, kB1_q, kB2_q, kCb_q, kCb_0, kCb_1, kNot_q, kAnd_q, kOr_q, kNul_q, kCond_q, kTern_q, kA2_q, kAI_q, kAL_q, kAR_q, kCall_q, kCalS_q, kRI_q, kRR_q, kRU_q, kRP_q, kSt_q, kStL_q, kStR_q, kPut1_q, kPut2_q, kPz1_q, kPz2_q, kPr1_q, kPr2_q, kPo1_q, kPo2_q, kAs1_q, kAs2_q, kAs3_q, kZs1_q, kZs2_q, kZs3_q, kRs1_q, kRs2_q, kRs3_q, kAo1_q, kAo2_q, kAo3_q, kIf_q, kIte_q, kItr_q, kRet_q, kReR_q, kSw_q, neb_q, gtb_q, geb_q, lnB_s, isI_s, isI_z, gI_s, gI_z, gR_s, gR_z, gA_s, isA_s, bdo_s, rHd_c, isHd_c, noL_z, noL_1, noL_s, nl_I, nl_R, nl_U, stI, stR, bd_t, oA, oS, oM, oD, oR, tn_add, tn_mul, tn_nat, eqb_t, eqb_f, ltb_t, ltb_f, leb_t, leb_f, nob_s, nob_n, nat_eq, nat_lt, nat_le, pK0 hP, pK1 hP, pK2 hP, pK3 hP, pK4 hP, pK5 hP, pK6 hP, pK7 hP, pK8 hP, pR1 hP, pR2 hP, pR3 hP, pR4 hP, pR5 hP, pR6 hP, pR7 hP, pR8 hP, c1, u, e]
  exact hk
def thI (I : Nat → Nat → Int) (a : Nat) (what : Int) (m : Nat) (part : Int) : Nat → Nat → Int := if what = 0 then upI (upI (upI I (a + 1) 0 ((m : Int) + 1)) (a + 2) m part) (a + 5) m (-1) else if what = 1 then upI (upI I (a + 1) 1 ((m : Int) + 1)) (a + 2) (20 + m) part else upI (upI I (a + 1) 2 ((m : Int) + 1)) (a + 2) (40 + m) part
theorem RC_thing (hC : RC I a G) (hw : WG G) {what part : Int} {m : Nat} (hwh : 0 ≤ what ∧ what ≤ 2) (hm : cntOf G what = (m : Int)) (hl : cntOf G what < limOf what) : RC (thI I a what m part) a (gAdd G what part) := by
  obtain ⟨⟨c1, c2, c3, c4⟩, c5, c6, c7, c8, c9, c10, c11, c12, c13⟩ := hC
  have hp := hw.1.1
  rcases (show what = 0 ∨ what = 1 ∨ what = 2 by omega) with rfl | rfl | rfl
  · simp [cntOf, limOf] at hm hl
    have hmt : (G 65 0).toNat = m := by omega
    have z69 := hw.2.1 m (by omega) (by omega)
    have e : ∀ x, x ≠ 65 → x ≠ 68 → x ≠ 69 → x ≠ 77 → gAdd G 0 part x = G x := fun x a b c d => by simp only [gAdd, if_true]; unfold gAdd0; rw [upI_row a, upI_row d, upI_row c, upI_row b]
    have e65 : gAdd G 0 part 65 0 = (m : Int) + 1 := by simp [gAdd, gAdd0, upI, hm]
    have e68 : gAdd G 0 part 68 = updL (G 68) m part := by simp only [gAdd, if_true]; unfold gAdd0; rw [upI_row (by decide), upI_row (by decide), upI_row (by decide), upI_at, hmt]
    have e69 : gAdd G 0 part 69 = updL (G 69) m 0 := by simp only [gAdd, if_true]; unfold gAdd0; rw [upI_row (by decide), upI_row (by decide), upI_at, upI_row (by decide), hmt]
    have e77 : gAdd G 0 part 77 = updL (G 77) m 0 := by simp only [gAdd, if_true]; unfold gAdd0; rw [upI_row (by decide), upI_at, upI_row (by decide), upI_row (by decide), hmt]
    have q : ∀ i, i ≠ 1 → i ≠ 2 → i ≠ 5 → thI I a 0 m part (a + i) = I (a + i) := fun i a b c => by simp only [thI, if_true]; rw [upI_row (by omega), upI_row (by omega), upI_row (by omega)]
    have q0 := q 0 (by omega) (by omega) (by omega)
    simp only [Nat.add_zero] at q0
    have q1 : thI I a 0 m part (a + 1) = updL (I (a + 1)) 0 ((m : Int) + 1) := by simp only [thI, if_true]; rw [upI_row (by omega), upI_row (by omega), upI_at]
    have q2 : thI I a 0 m part (a + 2) = updL (I (a + 2)) m part := by simp only [thI, if_true]; rw [upI_row (by omega), upI_at, upI_row (by omega)]
    have q5 : thI I a 0 m part (a + 5) = updL (I (a + 5)) m (-1) := by simp only [thI, if_true]; rw [upI_at, upI_row (by omega), upI_row (by omega)]
    unfold RC
    simp only [e 64 (by decide) (by decide) (by decide) (by decide), e 66 (by decide) (by decide) (by decide) (by decide), e 67 (by decide) (by decide) (by decide) (by decide), e 70 (by decide) (by decide) (by decide) (by decide), e 71 (by decide) (by decide) (by decide) (by decide), e 72 (by decide) (by decide) (by decide) (by decide), e 73 (by decide) (by decide) (by decide) (by decide), e 74 (by decide) (by decide) (by decide) (by decide), e 75 (by decide) (by decide) (by decide) (by decide), e 76 (by decide) (by decide) (by decide) (by decide), e65, e68, e69, e77, q0, q1, q2, q 3 (by omega) (by omega) (by omega), q 4 (by omega) (by omega) (by omega), q5, q 6 (by omega) (by omega) (by omega), q 7 (by omega) (by omega) (by omega), q 8 (by omega) (by omega) (by omega)]
    rw [hm] at c5 c9 c10
    refine ⟨⟨c1, updL_at, by rw [updL_ne (by decide)]; exact c3, by rw [updL_ne (by decide)]; exact c4⟩, fun r hr => ?_, fun f hf => by rw [updL_ne (by omega)]; exact c6 f hf, fun f hf => by rw [updL_ne (by omega)]; exact c7 f hf, fun r hr => ?_, fun r i hr hi => ?_, fun r hr => ?_, c11, c12, c13⟩
    · by_cases h : r = m
      · rw [h, updL_at, updL_at]
      · rw [updL_ne h, updL_ne h]; exact c5 r (by omega)
    · by_cases h : r = m
      · rw [h, updL_at, c8 m (by omega)]; exact z69.1
      · rw [updL_ne h]; exact c8 r hr
    · by_cases h : r = m
      · rw [h, updL_at] at hi; omega
      · rw [updL_ne h] at hi; exact c9 r i (by omega) hi
    · by_cases h : r = m
      · rw [h, updL_at, updL_at]; simp
      · rw [updL_ne h, updL_ne h]; exact c10 r (by omega)
  · simp [cntOf, limOf] at hm hl
    have hmt : (G 66 0).toNat = m := by omega
    have e : ∀ x, x ≠ 66 → x ≠ 72 → gAdd G 1 part x = G x := fun x a b => by show gAdd1 G part x = _; unfold gAdd1; rw [upI_row a, upI_row b]
    have e66 : gAdd G 1 part 66 0 = (m : Int) + 1 := by show gAdd1 G part 66 0 = _; simp [gAdd1, upI, hm]
    have e72 : gAdd G 1 part 72 = updL (G 72) m part := by show gAdd1 G part 72 = _; unfold gAdd1; rw [upI_row (by decide), upI_at, hmt]
    have hth : thI I a 1 m part = upI (upI I (a + 1) 1 ((m : Int) + 1)) (a + 2) (20 + m) part := by simp [thI]
    have q : ∀ i, i ≠ 1 → i ≠ 2 → thI I a 1 m part (a + i) = I (a + i) := fun i a b => by rw [hth, upI_row (by omega), upI_row (by omega)]
    have q0 := q 0 (by omega) (by omega)
    simp only [Nat.add_zero] at q0
    have q1 : thI I a 1 m part (a + 1) = updL (I (a + 1)) 1 ((m : Int) + 1) := by rw [hth, upI_row (by omega), upI_at]
    have q2 : thI I a 1 m part (a + 2) = updL (I (a + 2)) (20 + m) part := by rw [hth, upI_at, upI_row (by omega)]
    unfold RC
    simp only [e 64 (by decide) (by decide), e 65 (by decide) (by decide), e 67 (by decide) (by decide), e 68 (by decide) (by decide), e 69 (by decide) (by decide), e 70 (by decide) (by decide), e 71 (by decide) (by decide), e 73 (by decide) (by decide), e 74 (by decide) (by decide), e 75 (by decide) (by decide), e 76 (by decide) (by decide), e 77 (by decide) (by decide), e66, e72, q0, q1, q2, q 3 (by omega) (by omega), q 4 (by omega) (by omega), q 5 (by omega) (by omega), q 6 (by omega) (by omega), q 7 (by omega) (by omega), q 8 (by omega) (by omega)]
    rw [hm] at c6
    refine ⟨⟨c1, by rw [updL_ne (by decide)]; exact c2, updL_at, by rw [updL_ne (by decide)]; exact c4⟩, fun r hr => by rw [updL_ne (by omega)]; exact c5 r hr, fun f hf => ?_, fun f hf => by rw [updL_ne (by omega)]; exact c7 f hf, c8, c9, c10, c11, c12, c13⟩
    by_cases h : f = m
    · rw [h, updL_at, updL_at]
    · rw [updL_ne (by omega), updL_ne h]; exact c6 f (by omega)
  · simp [cntOf, limOf] at hm hl
    have hmt : (G 67 0).toNat = m := by omega
    have z74 := hw.2.2.1 m (by omega) (by omega)
    have e : ∀ x, x ≠ 67 → x ≠ 73 → x ≠ 74 → gAdd G 2 part x = G x := fun x a b c => by show gAdd2 G part x = _; unfold gAdd2; rw [upI_row a, upI_row c, upI_row b]
    have e67 : gAdd G 2 part 67 0 = (m : Int) + 1 := by show gAdd2 G part 67 0 = _; simp [gAdd2, upI, hm]
    have e73 : gAdd G 2 part 73 = updL (G 73) m part := by show gAdd2 G part 73 = _; unfold gAdd2; rw [upI_row (by decide), upI_row (by decide), upI_at, hmt]
    have e74 : gAdd G 2 part 74 = updL (G 74) m 0 := by show gAdd2 G part 74 = _; unfold gAdd2; rw [upI_row (by decide), upI_at, upI_row (by decide), hmt]
    have hth : thI I a 2 m part = upI (upI I (a + 1) 2 ((m : Int) + 1)) (a + 2) (40 + m) part := by simp [thI]
    have q : ∀ i, i ≠ 1 → i ≠ 2 → thI I a 2 m part (a + i) = I (a + i) := fun i a b => by rw [hth, upI_row (by omega), upI_row (by omega)]
    have q0 := q 0 (by omega) (by omega)
    simp only [Nat.add_zero] at q0
    have q1 : thI I a 2 m part (a + 1) = updL (I (a + 1)) 2 ((m : Int) + 1) := by rw [hth, upI_row (by omega), upI_at]
    have q2 : thI I a 2 m part (a + 2) = updL (I (a + 2)) (40 + m) part := by rw [hth, upI_at, upI_row (by omega)]
    unfold RC
    simp only [e 64 (by decide) (by decide) (by decide), e 65 (by decide) (by decide) (by decide), e 66 (by decide) (by decide) (by decide), e 68 (by decide) (by decide) (by decide), e 69 (by decide) (by decide) (by decide), e 70 (by decide) (by decide) (by decide), e 71 (by decide) (by decide) (by decide), e 72 (by decide) (by decide) (by decide), e 75 (by decide) (by decide) (by decide), e 76 (by decide) (by decide) (by decide), e 77 (by decide) (by decide) (by decide), e67, e73, e74, q0, q1, q2, q 3 (by omega) (by omega), q 4 (by omega) (by omega), q 5 (by omega) (by omega), q 6 (by omega) (by omega), q 7 (by omega) (by omega), q 8 (by omega) (by omega)]
    rw [hm] at c7 c12
    refine ⟨⟨c1, by rw [updL_ne (by decide)]; exact c2, by rw [updL_ne (by decide)]; exact c3, updL_at⟩, fun r hr => by rw [updL_ne (by omega)]; exact c5 r hr, fun f hf => by rw [updL_ne (by omega)]; exact c6 f hf, fun f hf => ?_, c8, c9, c10, fun r hr => ?_, fun r i hr hi => ?_, c13⟩
    · by_cases h : f = m
      · rw [h, updL_at, updL_at]
      · rw [updL_ne (by omega), updL_ne h]; exact c7 f (by omega)
    · by_cases h : r = m
      · rw [h, updL_at, c11 m (by omega)]; exact z74
      · rw [updL_ne h]; exact c11 r hr
    · by_cases h : r = m
      · rw [h, updL_at] at hi; omega
      · rw [updL_ne h] at hi; exact c12 r i (by omega) hi
end CM
