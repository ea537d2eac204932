/-! bodies, and steps back -/
section TCG
variable {T T' : Nat → Int} {sz : Nat}
theorem tpk_cg (h : ∀ j, j < sz → T' j = T j) (a : Nat) : tpk T' sz a = tpk T sz a := by
  unfold tpk; split
  · rename_i h1; exact h a h1
  · rfl
theorem mtc_cg (h : ∀ j, j < sz → T' j = T j) (a w : Nat) : mtc T' sz a w = mtc T sz a w := by
  unfold mtc; simp only [tpk_cg h]
theorem dgN_cg (h : ∀ j, j < sz → T' j = T j) (a : Nat) : dgN T' sz a = dgN T sz a := by
  unfold dgN; simp only [tpk_cg h]
theorem dgV_cg (h : ∀ j, j < sz → T' j = T j) (a : Nat) : ∀ n, dgV T' sz a n = dgV T sz a n := by
  intro n
  induction n with
  | zero => rfl
  | succ n ih => rw [dgV, dgV, ih, tpk_cg h]
theorem raW_cg (h : ∀ j, j < sz → T' j = T j) (a : Nat) : raW T' sz a = raW T sz a := by unfold raW; rw [tpk_cg h]
theorem raM_cg (h : ∀ j, j < sz → T' j = T j) (a : Nat) : raM T' sz a = raM T sz a := by unfold raM; rw [raW_cg h, mtc_cg h]
theorem raB_cg (h : ∀ j, j < sz → T' j = T j) (a : Nat) : raB T' sz a = raB T sz a := by unfold raB; rw [raW_cg h, raM_cg h]
theorem ra1_cg (h : ∀ j, j < sz → T' j = T j) (a : Nat) : ra1 T' sz a = ra1 T sz a := by unfold ra1; rw [raM_cg h]
theorem raD_cg (h : ∀ j, j < sz → T' j = T j) (a : Nat) : raD T' sz a = raD T sz a := by unfold raD; rw [ra1_cg h, dgN_cg h]
theorem raV_cg (h : ∀ j, j < sz → T' j = T j) (a : Nat) : raV T' sz a = raV T sz a := by unfold raV; rw [ra1_cg h, raD_cg h, dgV_cg h]
theorem raOk_cg (h : ∀ j, j < sz → T' j = T j) (a : Nat) : raOk T' sz a = raOk T sz a := by unfold raOk; rw [raB_cg h, raD_cg h]
theorem raAt_cg (h : ∀ j, j < sz → T' j = T j) (a : Nat) : raAt T' sz a = raAt T sz a := by unfold raAt; rw [raW_cg h, raB_cg h, ra1_cg h, raD_cg h]
theorem rAt_cg (h : ∀ j, j < sz → T' j = T j) : ∀ i, rAt T' sz i = rAt T sz i := by
  intro i
  induction i with
  | zero => rfl
  | succ i ih => rw [rAt, rAt, ih, raAt_cg h]
theorem rMore_cg (h : ∀ j, j < sz → T' j = T j) (i : Nat) : rMore T' sz i = rMore T sz i := by unfold rMore; rw [rAt_cg h, raOk_cg h, raAt_cg h, tpk_cg h]
theorem rLast_cg (h : ∀ j, j < sz → T' j = T j) : rLast T' sz = rLast T sz := by unfold rLast; simp only [rMore_cg h]
theorem rdP_cg (h : ∀ j, j < sz → T' j = T j) : rdP T' sz = rdP T sz := by unfold rdP; rw [rLast_cg h, rAt_cg h, raAt_cg h]
theorem rdOK_cg (h : ∀ j, j < sz → T' j = T j) : rdOK T' sz = rdOK T sz := by unfold rdOK; rw [rLast_cg h, rAt_cg h, raOk_cg h, rdP_cg h]
theorem rdN_cg (h : ∀ j, j < sz → T' j = T j) : rdN T' sz = rdN T sz := by unfold rdN; rw [rLast_cg h]
end TCG
section MX
variable {kd : List (Nat × Nat)} {R : Nat → Nat → Option Nat} {I J : Nat → Nat → Int}
theorem body_end (h : REL kd I R) (hx : ∀ x, x ≠ 21 → x ≠ 23 → x ≠ 24 → x ≠ 63 → x ≠ 80 → x ≠ 81 → J x = I x) (h63 : ∀ k, k ≠ 16 → k ≠ 22 → k ≠ 23 → k ≠ 24 → J 63 k = I 63 k) (h16 : J 63 16 = 0) (h21 : J 21 1 = 0) : REL kd J R := by
  obtain ⟨na, aa, f, kp, H, ⟨F, C, hH, hO, hwd⟩, ⟨hP, hS, hC⟩, hsl, hsc, htp⟩ := h
  obtain ⟨hr, hw, h14', hkl, h19'⟩ := hH
  obtain ⟨d1, d2, d3, d4, d5⟩ := hsc
  have hna := hP.2.1.2.2.1
  unfold pgA at hna
  have e : ∀ x, (x < 21 ∨ x = 22 ∨ (24 < x ∧ x < 63) ∨ (63 < x ∧ x < 80) ∨ 82 ≤ x) → J x = I x := fun x h => hx x (by omega) (by omega) (by omega) (by omega) (by omega) (by omega)
  refine REL_mk (J := J) (G := I) F C (fun _ _ => rfl) hP (PST_fr2 hP hS (fun x h _ => e x (by omega))) (RC_fr hC (fun i hi => e _ (by omega))) hw (ORD_fr hO (fun x _ _ => e x (by omega))) (agr_fr (fun x h1 h2 => e x (by omega))) (fun s h1 h2 => SG_fr (hsl s h1 h2) (fun x h1 h2 => e x (by omega))) ?_ ?_ ?_ (by rw [h63 14 (by omega) (by omega) (by omega) (by omega)]; exact h14') (by rw [h63 19 (by omega) (by omega) (by omega) (by omega)]; exact h19') ?_ ?_ ?_
  · unfold Z77; rw [e 77 (by omega)]; exact hr.2.1
  · unfold Pr; rw [e 79 (by omega)]; exact hr.2.2.1
  · rw [e 86 (by omega), e 87 (by omega), e 93 (by omega)]; exact fun k hk => ⟨hr.2.2.2.1 k hk, hr.2.2.2.2 k hk⟩
  · rw [e 82 (by omega)]; exact hwd
  · unfold SCL
    rw [e 0 (by omega), e 62 (by omega), e 79 (by omega), h63 18 (by omega) (by omega) (by omega) (by omega), h63 19 (by omega) (by omega) (by omega) (by omega), h63 20 (by omega) (by omega) (by omega) (by omega), h63 21 (by omega) (by omega) (by omega) (by omega)]
    exact ⟨d1, d2, d3, d4, d5⟩
  · exact ⟨0, by rw [h16]; rfl, by omega, by rw [h21]; rfl, fun j hj => by omega⟩
set_option maxHeartbeats 4000000 in
theorem st_body (h : REL kd I R) {rt : Int} : STPs B_X8_body B_X9_body [vI rt] (kd, I, R) := by
  have h0 := h
  obtain ⟨na, aa, f, kp, H, ⟨F, C, hH, hO, hwd⟩, ⟨hP, hS, hC⟩, hsl, hsc, htp⟩ := h
  obtain ⟨hr, hw, h14, hkl, h19⟩ := id hH
  obtain ⟨⟨p1, p2⟩, ⟨p3, p4, p5, p6, p7⟩, p8, p9⟩ := id hP
  have hp0 := hw.1.1
  obtain ⟨n, hn⟩ : ∃ n : Nat, I 64 0 = (n : Int) := ⟨(I 64 0).toNat, by omega⟩
  have mk1 := mK_63 F
  obtain ⟨sz, t1, t2, t3, t4⟩ := id htp
  obtain ⟨d1, d2, d3, d4, d5⟩ := id hsc
  have hpg := p5
  have hpa := p6
  unfold pgA at hpg hpa
  refine STPs_of (fun K hK => ?_)
  have k2 := fun (K : AV → XS → Prop) => X3_has_eq (K := K) (what := 0) (i := rt) p3 hC
  have ec0 : cntOf I 0 = I 65 0 := by simp [cntOf]
  rw [ec0] at k2
  simp [B_X8_body, bodyOf, envOf, exA, catV, rkOK]
  by_cases c2 : 0 ≤ rt ∧ rt < I 65 0
  · rw [if_pos ⟨by omega, c2⟩] at k2
    obtain ⟨r, rfl⟩ : ∃ j : Nat, rt = j := ⟨rt.toNat, by omega⟩
    have kf := fun (K : AV → XS → Prop) => X3_isFace_eq (K := K) (r := r) p3 hC hw c2.2
    rcases hw.2.2.2.2 r (by omega) with hf | hf
    · rw [hf] at kf
      simp (disch := omega) [t_X8_body, -Int.not_le, -Int.not_lt, ↓e_ci_p, ↓r_null_p, ↓a_nil_p, ↓s_skip_p, ↓s_inc_p, ↓s_brk_p, ↓s_ret_p, ↓lvI_s, ↓lvI_z, ↓lvL_s, ↓lvL_z, ↓lvR_s, ↓lvR_z, ↓e_lv_q, ↓l_lv_q, ↓r_lv_q, ↓kFld_q, ↓e_fld_q, ↓kFlR_q, ↓r_fld_q, ↓kAl1_q, ↓kAl2_q, ↓e_ald_q, ↓z_ald_q, ↓kAr1_q, ↓kAr2_q, ↓r_ald_q, ↓kLen_q, ↓e_len_q, ↓kO1_q, ↓kO2_q, ↓kD1_q, ↓kD2_q, ↓e_op_q, ↓e_dv_q, ↓l_op_q, ↓l_dv_q, ↓l_sh_q, ↓e_lcmp_q, ↓e_min_q, ↓kL2i_q, ↓e_l2i_q, ↓kB1_q, ↓kB2_q, ↓c_eq_q, ↓c_ne_q, ↓c_lt_q, ↓c_ge_q, ↓c_gt_q, ↓c_le_q, ↓kCb_q, ↓kCb_0, ↓kCb_1, ↓c_b_q, ↓kNot_q, ↓c_not_q, ↓kAnd_q, ↓c_and_q, ↓kOr_q, ↓c_or_q, ↓kNul_q, ↓c_null_q, ↓kCond_q, ↓e_cond_q, ↓kTern_q, ↓x_tern_q, ↓kA2_q, ↓kAI_q, ↓kAL_q, ↓kAR_q, ↓a_I_q, ↓a_L_q, ↓a_R_q, ↓kCall_q, ↓kCalS_q, ↓kRI_q, ↓kRR_q, ↓kRU_q, ↓kRP_q, ↓e_callV_q, ↓r_callV_q, ↓e_callS_q, ↓s_callV_q, ↓s_popV_q, ↓s_seq_q, ↓kSt_q, ↓s_st_q, ↓kStL_q, ↓s_stL_q, ↓kStR_q, ↓s_stR_q, ↓kPut1_q, ↓kPut2_q, ↓s_put_q, ↓kPz1_q, ↓kPz2_q, ↓s_putZ_q, ↓kPr1_q, ↓kPr2_q, ↓s_putR_q, ↓kPo1_q, ↓kPo2_q, ↓s_putop_q, ↓kAs1_q, ↓kAs2_q, ↓kAs3_q, ↓s_ast_q, ↓kZs1_q, ↓kZs2_q, ↓kZs3_q, ↓s_zast_q, ↓kRs1_q, ↓kRs2_q, ↓kRs3_q, ↓s_rast_q, ↓kAo1_q, ↓kAo2_q, ↓kAo3_q, ↓s_astop_q, ↓kIf_q, ↓s_if_q, ↓kIte_q, ↓s_ite_q, ↓kItr_q, ↓s_itr_q, ↓kRet_q, ↓s_retI_q, ↓kReR_q, ↓s_retR_q, ↓kSw_q, ↓s_sw_q, lvI_s, lvI_z, lvL_s, lvL_z, lvR_s, lvR_z, kFld_q, kFlR_q, kAl1_q, kAl2_q, kAr1_q, kAr2_q, kLen_q, kO1_q, kO2_q, kD1_q, kD2_q, kL2i_q, kB1_q, kB2_q, kCb_q, kCb_0, kCb_1, kNot_q, kAnd_q, kOr_q, kNul_q, kCond_q, kTern_q, kA2_q, kAI_q, kAL_q, kAR_q, kCall_q, kCalS_q, kRI_q, kRR_q, kRU_q, kRP_q, kSt_q, kStL_q, kStR_q, kPut1_q, kPut2_q, kPz1_q, kPz2_q, kPr1_q, kPr2_q, kPo1_q, kPo2_q, kAs1_q, kAs2_q, kAs3_q, kZs1_q, kZs2_q, kZs3_q, kRs1_q, kRs2_q, kRs3_q, kAo1_q, kAo2_q, kAo3_q, kIf_q, kIte_q, kItr_q, kRet_q, kReR_q, kSw_q, neb_q, gtb_q, geb_q, lnB_s, isI_s, isI_z, gI_s, gI_z, gR_s, gR_z, gA_s, isA_s, bdo_s, rHd_c, isHd_c, noL_z, noL_1, noL_s, nl_I, nl_R, nl_U, stI, stR, bd_t, oA, oS, oM, oD, oR, tn_add, tn_mul, tn_nat, eqb_t, eqb_f, ltb_t, ltb_f, leb_t, leb_f, nob_s, nob_n, nat_eq, nat_lt, nat_le, cK_0 C, p1, p2, pK0 p3, pR1 p3, pK1 p3, cR_0_5 C, cK_27 C, cR_27_0 C, cR_27_1 C, cR_27_2 C, cR_27_3 C, cK_28 C, cK_29 C, cK_30 C, cK_31 C, k2, kf, cR_0_3 C, cK_21 C]
      refine X5_read_ok C t2 t3 (fun J1 hJ1 hacts => ?_)
      rw [rdOK_cg t4] at hacts ⊢
      rw [rdP_cg t4]
      rw [rdN_cg t4] at hacts
      -- the tape is empty then
      have f1 : ∀ x, x ≠ 21 → x ≠ 23 → x ≠ 24 → upI J1 21 1 0 x = I x := fun x a b c => by rw [upI_row a]; exact hJ1.1 x a b c
      have u21 : upI J1 21 1 0 21 1 = 0 := by simp [upI]
      have hrow2 : ∀ x, 63 ≤ x → x < 98 → upI J1 21 1 0 x = I x := fun x h1 h2 => f1 x (by omega) (by omega) (by omega)
      have hH2 := RH_fr hH hrow2
      -- the reference, from any memory that looks so
      have T : ∀ (kd' : List (Nat × Nat)) (J' : Nat → Nat → Int) (R' : Nat → Nat → Option Nat) (K9 : AV → XS → Prop), isMod kd' R' → (∀ x, 63 ≤ x → x < 98 → J' x = I x) → RH J' kp → (rdOK (I 78) sz = false → ∀ J, TPd J' J → K9 (vI (-10 - (rdP (I 78) sz : Int))) (kd', J, R')) → (rdOK (I 78) sz = true → allN (tOK I (rdW (I 78) sz) (rdV (I 78) sz)) (rdN (I 78) sz) = false → ∀ J, TPd J' J → K9 (vI (-2)) (kd', J, R')) → (rdOK (I 78) sz = true → allN (tOK I (rdW (I 78) sz) (rdV (I 78) sz)) (rdN (I 78) sz) = true → ∀ I1, TPd J' I1 → MR kd' R' K9 I1 (gBody J' r (rdN (I 78) sz) (rdW (I 78) sz) (rdV (I 78) sz)) (-1) kp (rdN (I 78) sz)) → B_X9_body [vR (some 63), vI (r : Int)] (kd', J', R') K9 := by
        intro kd' J' R' K9 F' hrow hH' q3 q4 q5
        have eT : ∀ W V, tOK J' W V = tOK I W V := fun W V => by
          funext k; unfold tOK tLim; rw [hrow 65 (by omega) (by omega), hrow 66 (by omega) (by omega), hrow 67 (by omega) (by omega)]
        have T0 := X9_body_ok (K := K9) (sz := sz) (rt := (r : Int)) F' hH' (by rw [hrow 63 (by omega) (by omega)]; exact t1) t2 (by rw [hrow 82 (by omega) (by omega)]; exact hwd)
        simp only [tn_nat, eT, hrow 65 (by omega) (by omega), hrow 77 (by omega) (by omega), hrow 78 (by omega) (by omega)] at T0
        exact T0 (fun q => absurd c2 q) (fun _ q => by omega) (fun _ _ => q3) (fun _ _ => q4) (fun _ _ => q5)
      have hend : ∀ J, TPd (upI J1 21 1 0) J → REL kd J R := fun J hJ => body_end h0 (fun x a b c d e g => by rw [hJ.1 x d e g]; exact f1 x a b c) (fun k a b c d => by rw [hJ.2.1 k a b c d, hrow2 63 (by omega) (by omega)]) hJ.2.2 (by rw [hJ.1 21 (by omega) (by omega) (by omega)]; exact u21)
      cases ok : rdOK (I 78) sz with
      | false =>
        have go := hK (-10 - (rdP (I 78) sz : Int)) (kd, upI J1 21 1 0, R) mk1 (fun K9 h9 => T kd _ R K9 F hrow2 hH2 (fun _ J hJ => h9 _ (hend J hJ)) (fun q => by rw [ok] at q; exact absurd q (by simp)) (fun q => by rw [ok] at q; exact absurd q (by simp)))
        have hle := rdP_le (T := I 78) (sz := sz)
        have hne : ¬ ((rdP (I 78) sz : Nat) : Int) = -1 := by omega
        simp (disch := omega) [-Int.not_le, -Int.not_lt, ↓e_ci_p, ↓r_null_p, ↓a_nil_p, ↓s_skip_p, ↓s_inc_p, ↓s_brk_p, ↓s_ret_p, ↓lvI_s, ↓lvI_z, ↓lvL_s, ↓lvL_z, ↓lvR_s, ↓lvR_z, ↓e_lv_q, ↓l_lv_q, ↓r_lv_q, ↓kFld_q, ↓e_fld_q, ↓kFlR_q, ↓r_fld_q, ↓kAl1_q, ↓kAl2_q, ↓e_ald_q, ↓z_ald_q, ↓kAr1_q, ↓kAr2_q, ↓r_ald_q, ↓kLen_q, ↓e_len_q, ↓kO1_q, ↓kO2_q, ↓kD1_q, ↓kD2_q, ↓e_op_q, ↓e_dv_q, ↓l_op_q, ↓l_dv_q, ↓l_sh_q, ↓e_lcmp_q, ↓e_min_q, ↓kL2i_q, ↓e_l2i_q, ↓kB1_q, ↓kB2_q, ↓c_eq_q, ↓c_ne_q, ↓c_lt_q, ↓c_ge_q, ↓c_gt_q, ↓c_le_q, ↓kCb_q, ↓kCb_0, ↓kCb_1, ↓c_b_q, ↓kNot_q, ↓c_not_q, ↓kAnd_q, ↓c_and_q, ↓kOr_q, ↓c_or_q, ↓kNul_q, ↓c_null_q, ↓kCond_q, ↓e_cond_q, ↓kTern_q, ↓x_tern_q, ↓kA2_q, ↓kAI_q, ↓kAL_q, ↓kAR_q, ↓a_I_q, ↓a_L_q, ↓a_R_q, ↓kCall_q, ↓kCalS_q, ↓kRI_q, ↓kRR_q, ↓kRU_q, ↓kRP_q, ↓e_callV_q, ↓r_callV_q, ↓e_callS_q, ↓s_callV_q, ↓s_popV_q, ↓s_seq_q, ↓kSt_q, ↓s_st_q, ↓kStL_q, ↓s_stL_q, ↓kStR_q, ↓s_stR_q, ↓kPut1_q, ↓kPut2_q, ↓s_put_q, ↓kPz1_q, ↓kPz2_q, ↓s_putZ_q, ↓kPr1_q, ↓kPr2_q, ↓s_putR_q, ↓kPo1_q, ↓kPo2_q, ↓s_putop_q, ↓kAs1_q, ↓kAs2_q, ↓kAs3_q, ↓s_ast_q, ↓kZs1_q, ↓kZs2_q, ↓kZs3_q, ↓s_zast_q, ↓kRs1_q, ↓kRs2_q, ↓kRs3_q, ↓s_rast_q, ↓kAo1_q, ↓kAo2_q, ↓kAo3_q, ↓s_astop_q, ↓kIf_q, ↓s_if_q, ↓kIte_q, ↓s_ite_q, ↓kItr_q, ↓s_itr_q, ↓kRet_q, ↓s_retI_q, ↓kReR_q, ↓s_retR_q, ↓kSw_q, ↓s_sw_q, lvI_s, lvI_z, lvL_s, lvL_z, lvR_s, lvR_z, kFld_q, kFlR_q, kAl1_q, kAl2_q, kAr1_q, kAr2_q, kLen_q, kO1_q, kO2_q, kD1_q, kD2_q, kL2i_q, kB1_q, kB2_q, kCb_q, kCb_0, kCb_1, kNot_q, kAnd_q, kOr_q, kNul_q, kCond_q, kTern_q, kA2_q, kAI_q, kAL_q, kAR_q, kCall_q, kCalS_q, kRI_q, kRR_q, kRU_q, kRP_q, kSt_q, kStL_q, kStR_q, kPut1_q, kPut2_q, kPz1_q, kPz2_q, kPr1_q, kPr2_q, kPo1_q, kPo2_q, kAs1_q, kAs2_q, kAs3_q, kZs1_q, kZs2_q, kZs3_q, kRs1_q, kRs2_q, kRs3_q, kAo1_q, kAo2_q, kAo3_q, kIf_q, kIte_q, kItr_q, kRet_q, kReR_q, kSw_q, neb_q, gtb_q, geb_q, lnB_s, isI_s, isI_z, gI_s, gI_z, gR_s, gR_z, gA_s, isA_s, bdo_s, rHd_c, isHd_c, noL_z, noL_1, noL_s, nl_I, nl_R, nl_U, stI, stR, bd_t, oA, oS, oM, oD, oR, tn_add, tn_mul, tn_nat, eqb_t, eqb_f, ltb_t, ltb_f, leb_t, leb_f, nob_s, nob_n, nat_eq, nat_lt, nat_le, cK_0 C, cR_0_3 C, cK_21 C, hne]
        exact go
      | true =>
        obtain ⟨a1, a2⟩ := hacts ok
        have hWV : ∀ j, j < rdN (I 78) sz → upI J1 21 1 0 23 j = ((rdW (I 78) sz j : Nat) : Int) ∧ upI J1 21 1 0 24 j = rdV (I 78) sz j := fun j hj => by
          rw [upI_row (by decide), upI_row (by decide)]
          have := a2 j hj
          rw [rAt_cg t4, raW_cg t4, raV_cg t4] at this
          exact this
        have hB := fun j hj => rd_rng (T := I 78) (sz := sz) (k := j) ok hj
        have hN10 := rdN_le (T := I 78) (sz := sz)
        have a1' : upI J1 21 1 0 21 3 = ((rdN (I 78) sz : Nat) : Int) := by simp [upI]; exact a1
        have hC2 : RC (upI J1 21 1 0) na I := RC_fr hC (fun i hi => f1 _ (by omega) (by omega) (by omega))
        simp (disch := omega) [-Int.not_le, -Int.not_lt, ↓e_ci_p, ↓r_null_p, ↓a_nil_p, ↓s_skip_p, ↓s_inc_p, ↓s_brk_p, ↓s_ret_p, ↓lvI_s, ↓lvI_z, ↓lvL_s, ↓lvL_z, ↓lvR_s, ↓lvR_z, ↓e_lv_q, ↓l_lv_q, ↓r_lv_q, ↓kFld_q, ↓e_fld_q, ↓kFlR_q, ↓r_fld_q, ↓kAl1_q, ↓kAl2_q, ↓e_ald_q, ↓z_ald_q, ↓kAr1_q, ↓kAr2_q, ↓r_ald_q, ↓kLen_q, ↓e_len_q, ↓kO1_q, ↓kO2_q, ↓kD1_q, ↓kD2_q, ↓e_op_q, ↓e_dv_q, ↓l_op_q, ↓l_dv_q, ↓l_sh_q, ↓e_lcmp_q, ↓e_min_q, ↓kL2i_q, ↓e_l2i_q, ↓kB1_q, ↓kB2_q, ↓c_eq_q, ↓c_ne_q, ↓c_lt_q, ↓c_ge_q, ↓c_gt_q, ↓c_le_q, ↓kCb_q, ↓kCb_0, ↓kCb_1, ↓c_b_q, ↓kNot_q, ↓c_not_q, ↓kAnd_q, ↓c_and_q, ↓kOr_q, ↓c_or_q, ↓kNul_q, ↓c_null_q, ↓kCond_q, ↓e_cond_q, ↓kTern_q, ↓x_tern_q, ↓kA2_q, ↓kAI_q, ↓kAL_q, ↓kAR_q, ↓a_I_q, ↓a_L_q, ↓a_R_q, ↓kCall_q, ↓kCalS_q, ↓kRI_q, ↓kRR_q, ↓kRU_q, ↓kRP_q, ↓e_callV_q, ↓r_callV_q, ↓e_callS_q, ↓s_callV_q, ↓s_popV_q, ↓s_seq_q, ↓kSt_q, ↓s_st_q, ↓kStL_q, ↓s_stL_q, ↓kStR_q, ↓s_stR_q, ↓kPut1_q, ↓kPut2_q, ↓s_put_q, ↓kPz1_q, ↓kPz2_q, ↓s_putZ_q, ↓kPr1_q, ↓kPr2_q, ↓s_putR_q, ↓kPo1_q, ↓kPo2_q, ↓s_putop_q, ↓kAs1_q, ↓kAs2_q, ↓kAs3_q, ↓s_ast_q, ↓kZs1_q, ↓kZs2_q, ↓kZs3_q, ↓s_zast_q, ↓kRs1_q, ↓kRs2_q, ↓kRs3_q, ↓s_rast_q, ↓kAo1_q, ↓kAo2_q, ↓kAo3_q, ↓s_astop_q, ↓kIf_q, ↓s_if_q, ↓kIte_q, ↓s_ite_q, ↓kItr_q, ↓s_itr_q, ↓kRet_q, ↓s_retI_q, ↓kReR_q, ↓s_retR_q, ↓kSw_q, ↓s_sw_q, lvI_s, lvI_z, lvL_s, lvL_z, lvR_s, lvR_z, kFld_q, kFlR_q, kAl1_q, kAl2_q, kAr1_q, kAr2_q, kLen_q, kO1_q, kO2_q, kD1_q, kD2_q, kL2i_q, kB1_q, kB2_q, kCb_q, kCb_0, kCb_1, kNot_q, kAnd_q, kOr_q, kNul_q, kCond_q, kTern_q, kA2_q, kAI_q, kAL_q, kAR_q, kCall_q, kCalS_q, kRI_q, kRR_q, kRU_q, kRP_q, kSt_q, kStL_q, kStR_q, kPut1_q, kPut2_q, kPz1_q, kPz2_q, kPr1_q, kPr2_q, kPo1_q, kPo2_q, kAs1_q, kAs2_q, kAs3_q, kZs1_q, kZs2_q, kZs3_q, kRs1_q, kRs2_q, kRs3_q, kAo1_q, kAo2_q, kAo3_q, kIf_q, kIte_q, kItr_q, kRet_q, kReR_q, kSw_q, neb_q, gtb_q, geb_q, lnB_s, isI_s, isI_z, gI_s, gI_z, gR_s, gR_z, gA_s, isA_s, bdo_s, rHd_c, isHd_c, noL_z, noL_1, noL_s, nl_I, nl_R, nl_U, stI, stR, bd_t, oA, oS, oM, oD, oR, tn_add, tn_mul, tn_nat, eqb_t, eqb_f, ltb_t, ltb_f, leb_t, leb_f, nob_s, nob_n, nat_eq, nat_lt, nat_le, cK_0 C, p1, p2, pK0 p3, pR1 p3, pK1 p3, cR_0_5 C, cK_27 C, cR_27_0 C, cR_27_1 C, cR_27_2 C, cR_27_3 C, cK_28 C, cK_29 C, cK_30 C, cK_31 C, cR_0_3 C, cK_21 C]
        generalize hM0 : upI J1 21 1 0 = M0 at *
        refine X3_knows_ok C p3 hC2 hN10 a1' hWV hB ?_
        cases kn : allN (tOK I (rdW (I 78) sz) (rdV (I 78) sz)) (rdN (I 78) sz) with
        | false =>
          have go := hK (-2) (kd, M0, R) mk1 (fun K9 h9 => T kd _ R K9 F hrow2 hH2 (fun q => by rw [ok] at q; exact absurd q (by simp)) (fun _ _ J hJ => h9 _ (hend J hJ)) (fun _ q => by rw [kn] at q; exact absurd q (by simp)))
          simp (disch := omega) [-Int.not_le, -Int.not_lt, ↓e_ci_p, ↓r_null_p, ↓a_nil_p, ↓s_skip_p, ↓s_inc_p, ↓s_brk_p, ↓s_ret_p, ↓lvI_s, ↓lvI_z, ↓lvL_s, ↓lvL_z, ↓lvR_s, ↓lvR_z, ↓e_lv_q, ↓l_lv_q, ↓r_lv_q, ↓kFld_q, ↓e_fld_q, ↓kFlR_q, ↓r_fld_q, ↓kAl1_q, ↓kAl2_q, ↓e_ald_q, ↓z_ald_q, ↓kAr1_q, ↓kAr2_q, ↓r_ald_q, ↓kLen_q, ↓e_len_q, ↓kO1_q, ↓kO2_q, ↓kD1_q, ↓kD2_q, ↓e_op_q, ↓e_dv_q, ↓l_op_q, ↓l_dv_q, ↓l_sh_q, ↓e_lcmp_q, ↓e_min_q, ↓kL2i_q, ↓e_l2i_q, ↓kB1_q, ↓kB2_q, ↓c_eq_q, ↓c_ne_q, ↓c_lt_q, ↓c_ge_q, ↓c_gt_q, ↓c_le_q, ↓kCb_q, ↓kCb_0, ↓kCb_1, ↓c_b_q, ↓kNot_q, ↓c_not_q, ↓kAnd_q, ↓c_and_q, ↓kOr_q, ↓c_or_q, ↓kNul_q, ↓c_null_q, ↓kCond_q, ↓e_cond_q, ↓kTern_q, ↓x_tern_q, ↓kA2_q, ↓kAI_q, ↓kAL_q, ↓kAR_q, ↓a_I_q, ↓a_L_q, ↓a_R_q, ↓kCall_q, ↓kCalS_q, ↓kRI_q, ↓kRR_q, ↓kRU_q, ↓kRP_q, ↓e_callV_q, ↓r_callV_q, ↓e_callS_q, ↓s_callV_q, ↓s_popV_q, ↓s_seq_q, ↓kSt_q, ↓s_st_q, ↓kStL_q, ↓s_stL_q, ↓kStR_q, ↓s_stR_q, ↓kPut1_q, ↓kPut2_q, ↓s_put_q, ↓kPz1_q, ↓kPz2_q, ↓s_putZ_q, ↓kPr1_q, ↓kPr2_q, ↓s_putR_q, ↓kPo1_q, ↓kPo2_q, ↓s_putop_q, ↓kAs1_q, ↓kAs2_q, ↓kAs3_q, ↓s_ast_q, ↓kZs1_q, ↓kZs2_q, ↓kZs3_q, ↓s_zast_q, ↓kRs1_q, ↓kRs2_q, ↓kRs3_q, ↓s_rast_q, ↓kAo1_q, ↓kAo2_q, ↓kAo3_q, ↓s_astop_q, ↓kIf_q, ↓s_if_q, ↓kIte_q, ↓s_ite_q, ↓kItr_q, ↓s_itr_q, ↓kRet_q, ↓s_retI_q, ↓kReR_q, ↓s_retR_q, ↓kSw_q, ↓s_sw_q, lvI_s, lvI_z, lvL_s, lvL_z, lvR_s, lvR_z, kFld_q, kFlR_q, kAl1_q, kAl2_q, kAr1_q, kAr2_q, kLen_q, kO1_q, kO2_q, kD1_q, kD2_q, kL2i_q, kB1_q, kB2_q, kCb_q, kCb_0, kCb_1, kNot_q, kAnd_q, kOr_q, kNul_q, kCond_q, kTern_q, kA2_q, kAI_q, kAL_q, kAR_q, kCall_q, kCalS_q, kRI_q, kRR_q, kRU_q, kRP_q, kSt_q, kStL_q, kStR_q, kPut1_q, kPut2_q, kPz1_q, kPz2_q, kPr1_q, kPr2_q, kPo1_q, kPo2_q, kAs1_q, kAs2_q, kAs3_q, kZs1_q, kZs2_q, kZs3_q, kRs1_q, kRs2_q, kRs3_q, kAo1_q, kAo2_q, kAo3_q, kIf_q, kIte_q, kItr_q, kRet_q, kReR_q, kSw_q, neb_q, gtb_q, geb_q, lnB_s, isI_s, isI_z, gI_s, gI_z, gR_s, gR_z, gA_s, isA_s, bdo_s, rHd_c, isHd_c, noL_z, noL_1, noL_s, nl_I, nl_R, nl_U, stI, stR, bd_t, oA, oS, oM, oD, oR, tn_add, tn_mul, tn_nat, eqb_t, eqb_f, ltb_t, ltb_f, leb_t, leb_f, nob_s, nob_n, nat_eq, nat_lt, nat_le, b2i]
          exact go
        | true =>
          simp (disch := omega) [-Int.not_le, -Int.not_lt, ↓e_ci_p, ↓r_null_p, ↓a_nil_p, ↓s_skip_p, ↓s_inc_p, ↓s_brk_p, ↓s_ret_p, ↓lvI_s, ↓lvI_z, ↓lvL_s, ↓lvL_z, ↓lvR_s, ↓lvR_z, ↓e_lv_q, ↓l_lv_q, ↓r_lv_q, ↓kFld_q, ↓e_fld_q, ↓kFlR_q, ↓r_fld_q, ↓kAl1_q, ↓kAl2_q, ↓e_ald_q, ↓z_ald_q, ↓kAr1_q, ↓kAr2_q, ↓r_ald_q, ↓kLen_q, ↓e_len_q, ↓kO1_q, ↓kO2_q, ↓kD1_q, ↓kD2_q, ↓e_op_q, ↓e_dv_q, ↓l_op_q, ↓l_dv_q, ↓l_sh_q, ↓e_lcmp_q, ↓e_min_q, ↓kL2i_q, ↓e_l2i_q, ↓kB1_q, ↓kB2_q, ↓c_eq_q, ↓c_ne_q, ↓c_lt_q, ↓c_ge_q, ↓c_gt_q, ↓c_le_q, ↓kCb_q, ↓kCb_0, ↓kCb_1, ↓c_b_q, ↓kNot_q, ↓c_not_q, ↓kAnd_q, ↓c_and_q, ↓kOr_q, ↓c_or_q, ↓kNul_q, ↓c_null_q, ↓kCond_q, ↓e_cond_q, ↓kTern_q, ↓x_tern_q, ↓kA2_q, ↓kAI_q, ↓kAL_q, ↓kAR_q, ↓a_I_q, ↓a_L_q, ↓a_R_q, ↓kCall_q, ↓kCalS_q, ↓kRI_q, ↓kRR_q, ↓kRU_q, ↓kRP_q, ↓e_callV_q, ↓r_callV_q, ↓e_callS_q, ↓s_callV_q, ↓s_popV_q, ↓s_seq_q, ↓kSt_q, ↓s_st_q, ↓kStL_q, ↓s_stL_q, ↓kStR_q, ↓s_stR_q, ↓kPut1_q, ↓kPut2_q, ↓s_put_q, ↓kPz1_q, ↓kPz2_q, ↓s_putZ_q, ↓kPr1_q, ↓kPr2_q, ↓s_putR_q, ↓kPo1_q, ↓kPo2_q, ↓s_putop_q, ↓kAs1_q, ↓kAs2_q, ↓kAs3_q, ↓s_ast_q, ↓kZs1_q, ↓kZs2_q, ↓kZs3_q, ↓s_zast_q, ↓kRs1_q, ↓kRs2_q, ↓kRs3_q, ↓s_rast_q, ↓kAo1_q, ↓kAo2_q, ↓kAo3_q, ↓s_astop_q, ↓kIf_q, ↓s_if_q, ↓kIte_q, ↓s_ite_q, ↓kItr_q, ↓s_itr_q, ↓kRet_q, ↓s_retI_q, ↓kReR_q, ↓s_retR_q, ↓kSw_q, ↓s_sw_q, lvI_s, lvI_z, lvL_s, lvL_z, lvR_s, lvR_z, kFld_q, kFlR_q, kAl1_q, kAl2_q, kAr1_q, kAr2_q, kLen_q, kO1_q, kO2_q, kD1_q, kD2_q, kL2i_q, kB1_q, kB2_q, kCb_q, kCb_0, kCb_1, kNot_q, kAnd_q, kOr_q, kNul_q, kCond_q, kTern_q, kA2_q, kAI_q, kAL_q, kAR_q, kCall_q, kCalS_q, kRI_q, kRR_q, kRU_q, kRP_q, kSt_q, kStL_q, kStR_q, kPut1_q, kPut2_q, kPz1_q, kPz2_q, kPr1_q, kPr2_q, kPo1_q, kPo2_q, kAs1_q, kAs2_q, kAs3_q, kZs1_q, kZs2_q, kZs3_q, kRs1_q, kRs2_q, kRs3_q, kAo1_q, kAo2_q, kAo3_q, kIf_q, kIte_q, kItr_q, kRet_q, kReR_q, kSw_q, neb_q, gtb_q, geb_q, lnB_s, isI_s, isI_z, gI_s, gI_z, gR_s, gR_z, gA_s, isA_s, bdo_s, rHd_c, isHd_c, noL_z, noL_1, noL_s, nl_I, nl_R, nl_U, stI, stR, bd_t, oA, oS, oM, oD, oR, tn_add, tn_mul, tn_nat, eqb_t, eqb_f, ltb_t, ltb_f, leb_t, leb_f, nob_s, nob_n, nat_eq, nat_lt, nat_le, cK_0 C, p1, p2, pK0 p3, pR1 p3, pK1 p3, cR_0_5 C, cK_27 C, cR_27_0 C, cR_27_1 C, cR_27_2 C, cR_27_3 C, cK_28 C, cK_29 C, cK_30 C, cK_31 C, b2i, pK0 p4]
          refine X3_copyFrom_ok p4 p3 (cp_sep hP) ?_
          have hC3 : RC (cpP M0 aa na) na I := RC_fr hC2 (fun i hi => cpP_fr _ (by have := p7; unfold sep at this; omega))
          have cpx : ∀ x, ¬ (aa ≤ x ∧ x ≤ aa + 8) → cpP M0 aa na x = M0 x := fun x hx => cpP_fr x hx
          simp (disch := omega) [-Int.not_le, -Int.not_lt, ↓e_ci_p, ↓r_null_p, ↓a_nil_p, ↓s_skip_p, ↓s_inc_p, ↓s_brk_p, ↓s_ret_p, ↓lvI_s, ↓lvI_z, ↓lvL_s, ↓lvL_z, ↓lvR_s, ↓lvR_z, ↓e_lv_q, ↓l_lv_q, ↓r_lv_q, ↓kFld_q, ↓e_fld_q, ↓kFlR_q, ↓r_fld_q, ↓kAl1_q, ↓kAl2_q, ↓e_ald_q, ↓z_ald_q, ↓kAr1_q, ↓kAr2_q, ↓r_ald_q, ↓kLen_q, ↓e_len_q, ↓kO1_q, ↓kO2_q, ↓kD1_q, ↓kD2_q, ↓e_op_q, ↓e_dv_q, ↓l_op_q, ↓l_dv_q, ↓l_sh_q, ↓e_lcmp_q, ↓e_min_q, ↓kL2i_q, ↓e_l2i_q, ↓kB1_q, ↓kB2_q, ↓c_eq_q, ↓c_ne_q, ↓c_lt_q, ↓c_ge_q, ↓c_gt_q, ↓c_le_q, ↓kCb_q, ↓kCb_0, ↓kCb_1, ↓c_b_q, ↓kNot_q, ↓c_not_q, ↓kAnd_q, ↓c_and_q, ↓kOr_q, ↓c_or_q, ↓kNul_q, ↓c_null_q, ↓kCond_q, ↓e_cond_q, ↓kTern_q, ↓x_tern_q, ↓kA2_q, ↓kAI_q, ↓kAL_q, ↓kAR_q, ↓a_I_q, ↓a_L_q, ↓a_R_q, ↓kCall_q, ↓kCalS_q, ↓kRI_q, ↓kRR_q, ↓kRU_q, ↓kRP_q, ↓e_callV_q, ↓r_callV_q, ↓e_callS_q, ↓s_callV_q, ↓s_popV_q, ↓s_seq_q, ↓kSt_q, ↓s_st_q, ↓kStL_q, ↓s_stL_q, ↓kStR_q, ↓s_stR_q, ↓kPut1_q, ↓kPut2_q, ↓s_put_q, ↓kPz1_q, ↓kPz2_q, ↓s_putZ_q, ↓kPr1_q, ↓kPr2_q, ↓s_putR_q, ↓kPo1_q, ↓kPo2_q, ↓s_putop_q, ↓kAs1_q, ↓kAs2_q, ↓kAs3_q, ↓s_ast_q, ↓kZs1_q, ↓kZs2_q, ↓kZs3_q, ↓s_zast_q, ↓kRs1_q, ↓kRs2_q, ↓kRs3_q, ↓s_rast_q, ↓kAo1_q, ↓kAo2_q, ↓kAo3_q, ↓s_astop_q, ↓kIf_q, ↓s_if_q, ↓kIte_q, ↓s_ite_q, ↓kItr_q, ↓s_itr_q, ↓kRet_q, ↓s_retI_q, ↓kReR_q, ↓s_retR_q, ↓kSw_q, ↓s_sw_q, lvI_s, lvI_z, lvL_s, lvL_z, lvR_s, lvR_z, kFld_q, kFlR_q, kAl1_q, kAl2_q, kAr1_q, kAr2_q, kLen_q, kO1_q, kO2_q, kD1_q, kD2_q, kL2i_q, kB1_q, kB2_q, kCb_q, kCb_0, kCb_1, kNot_q, kAnd_q, kOr_q, kNul_q, kCond_q, kTern_q, kA2_q, kAI_q, kAL_q, kAR_q, kCall_q, kCalS_q, kRI_q, kRR_q, kRU_q, kRP_q, kSt_q, kStL_q, kStR_q, kPut1_q, kPut2_q, kPz1_q, kPz2_q, kPr1_q, kPr2_q, kPo1_q, kPo2_q, kAs1_q, kAs2_q, kAs3_q, kZs1_q, kZs2_q, kZs3_q, kRs1_q, kRs2_q, kRs3_q, kAo1_q, kAo2_q, kAo3_q, kIf_q, kIte_q, kItr_q, kRet_q, kReR_q, kSw_q, neb_q, gtb_q, geb_q, lnB_s, isI_s, isI_z, gI_s, gI_z, gR_s, gR_z, gA_s, isA_s, bdo_s, rHd_c, isHd_c, noL_z, noL_1, noL_s, nl_I, nl_R, nl_U, stI, stR, bd_t, oA, oS, oM, oD, oR, tn_add, tn_mul, tn_nat, eqb_t, eqb_f, ltb_t, ltb_f, leb_t, leb_f, nob_s, nob_n, nat_eq, nat_lt, nat_le, cK_0 C, p1, p2, pK0 p3, pR1 p3, pK1 p3, cR_0_5 C, cK_27 C, cR_27_0 C, cR_27_1 C, cR_27_2 C, cR_27_3 C, cK_28 C, cK_29 C, cK_30 C, cK_31 C, cR_0_3 C, cK_21 C]
          refine X3_setBody_ok C p3 p5 hC3 hw c2.2 hf hN10 (by rw [cpx 21 (by omega)]; exact a1') (fun j hj => by rw [cpx 23 (by omega), cpx 24 (by omega)]; exact hWV j hj) hB (fun J hfr hC4 => ?_)
          have hx : ∀ x, ¬ (na ≤ x ∧ x ≤ na + 8) → ¬ (aa ≤ x ∧ x ≤ aa + 8) → J x = M0 x := fun x h1 h2 => by rw [hfr x h1, cpx x h2]
          have e : ∀ x, x = 0 ∨ x = 19 ∨ x = 20 ∨ x = 22 ∨ (25 ≤ x ∧ x < 98) → J x = I x := fun x h => by rw [hx x (by omega) (by omega)]; exact f1 x (by omega) (by omega) (by omega)
          have j3 : J 21 3 = ((rdN (I 78) sz : Nat) : Int) := by rw [hx 21 (by omega) (by omega)]; exact a1'
          simp (disch := omega) [-Int.not_le, -Int.not_lt, ↓e_ci_p, ↓r_null_p, ↓a_nil_p, ↓s_skip_p, ↓s_inc_p, ↓s_brk_p, ↓s_ret_p, ↓lvI_s, ↓lvI_z, ↓lvL_s, ↓lvL_z, ↓lvR_s, ↓lvR_z, ↓e_lv_q, ↓l_lv_q, ↓r_lv_q, ↓kFld_q, ↓e_fld_q, ↓kFlR_q, ↓r_fld_q, ↓kAl1_q, ↓kAl2_q, ↓e_ald_q, ↓z_ald_q, ↓kAr1_q, ↓kAr2_q, ↓r_ald_q, ↓kLen_q, ↓e_len_q, ↓kO1_q, ↓kO2_q, ↓kD1_q, ↓kD2_q, ↓e_op_q, ↓e_dv_q, ↓l_op_q, ↓l_dv_q, ↓l_sh_q, ↓e_lcmp_q, ↓e_min_q, ↓kL2i_q, ↓e_l2i_q, ↓kB1_q, ↓kB2_q, ↓c_eq_q, ↓c_ne_q, ↓c_lt_q, ↓c_ge_q, ↓c_gt_q, ↓c_le_q, ↓kCb_q, ↓kCb_0, ↓kCb_1, ↓c_b_q, ↓kNot_q, ↓c_not_q, ↓kAnd_q, ↓c_and_q, ↓kOr_q, ↓c_or_q, ↓kNul_q, ↓c_null_q, ↓kCond_q, ↓e_cond_q, ↓kTern_q, ↓x_tern_q, ↓kA2_q, ↓kAI_q, ↓kAL_q, ↓kAR_q, ↓a_I_q, ↓a_L_q, ↓a_R_q, ↓kCall_q, ↓kCalS_q, ↓kRI_q, ↓kRR_q, ↓kRU_q, ↓kRP_q, ↓e_callV_q, ↓r_callV_q, ↓e_callS_q, ↓s_callV_q, ↓s_popV_q, ↓s_seq_q, ↓kSt_q, ↓s_st_q, ↓kStL_q, ↓s_stL_q, ↓kStR_q, ↓s_stR_q, ↓kPut1_q, ↓kPut2_q, ↓s_put_q, ↓kPz1_q, ↓kPz2_q, ↓s_putZ_q, ↓kPr1_q, ↓kPr2_q, ↓s_putR_q, ↓kPo1_q, ↓kPo2_q, ↓s_putop_q, ↓kAs1_q, ↓kAs2_q, ↓kAs3_q, ↓s_ast_q, ↓kZs1_q, ↓kZs2_q, ↓kZs3_q, ↓s_zast_q, ↓kRs1_q, ↓kRs2_q, ↓kRs3_q, ↓s_rast_q, ↓kAo1_q, ↓kAo2_q, ↓kAo3_q, ↓s_astop_q, ↓kIf_q, ↓s_if_q, ↓kIte_q, ↓s_ite_q, ↓kItr_q, ↓s_itr_q, ↓kRet_q, ↓s_retI_q, ↓kReR_q, ↓s_retR_q, ↓kSw_q, ↓s_sw_q, lvI_s, lvI_z, lvL_s, lvL_z, lvR_s, lvR_z, kFld_q, kFlR_q, kAl1_q, kAl2_q, kAr1_q, kAr2_q, kLen_q, kO1_q, kO2_q, kD1_q, kD2_q, kL2i_q, kB1_q, kB2_q, kCb_q, kCb_0, kCb_1, kNot_q, kAnd_q, kOr_q, kNul_q, kCond_q, kTern_q, kA2_q, kAI_q, kAL_q, kAR_q, kCall_q, kCalS_q, kRI_q, kRR_q, kRU_q, kRP_q, kSt_q, kStL_q, kStR_q, kPut1_q, kPut2_q, kPz1_q, kPz2_q, kPr1_q, kPr2_q, kPo1_q, kPo2_q, kAs1_q, kAs2_q, kAs3_q, kZs1_q, kZs2_q, kZs3_q, kRs1_q, kRs2_q, kRs3_q, kAo1_q, kAo2_q, kAo3_q, kIf_q, kIte_q, kItr_q, kRet_q, kReR_q, kSw_q, neb_q, gtb_q, geb_q, lnB_s, isI_s, isI_z, gI_s, gI_z, gR_s, gR_z, gA_s, isA_s, bdo_s, rHd_c, isHd_c, noL_z, noL_1, noL_s, nl_I, nl_R, nl_U, stI, stR, bd_t, oA, oS, oM, oD, oR, tn_add, tn_mul, tn_nat, eqb_t, eqb_f, ltb_t, ltb_f, leb_t, leb_f, nob_s, nob_n, nat_eq, nat_lt, nat_le, cK_0 C, p1, p2, pK0 p3, pR1 p3, pK1 p3, cR_0_5 C, cK_27 C, cR_27_0 C, cR_27_1 C, cR_27_2 C, cR_27_3 C, cK_28 C, cK_29 C, cK_30 C, cK_31 C, cR_0_3 C, cK_21 C, j3]
          have hS2 : PST J R f kp H := by
            obtain ⟨⟨s1, s2, s3, s4⟩, s5⟩ := id hS
            refine ⟨⟨by rw [e 19 (by omega)]; exact s1, s2, by rw [e 19 (by omega)]; exact s3, s4⟩, fun j hj => ?_⟩
            obtain ⟨b, b1, b2, b3⟩ := s5 j hj
            have hb := p8 _ b (by omega) b1
            have q0 := hb.2.1
            have q1 := hb.2.2.1
            have q2 := hb.2.2.2
            unfold sep at q1 q2
            unfold pgA at q0
            exact ⟨b, b1, RC_fr b2 (fun i hi => by rw [hx _ (by omega) (by omega)]; exact f1 _ (by omega) (by omega) (by omega)), b3⟩
          have hA : RC J aa I := RC_fr (cpP_RC hC2 hw.1) (fun i hi => hfr _ (by have := p7; unfold sep at this; omega))
          have hw2 : WG (gBody I r (rdN (I 78) sz) (rdW (I 78) sz) (rdV (I 78) sz)) := WG_body hw c2.2 hf hN10 (fun k hk => ⟨(hB k hk).1, ⟨(hB k hk).2.1, (hB k hk).2.2⟩, by
            have := allN_iff.1 kn k hk
            unfold tOK at this
            exact of_decide_eq_true this⟩)
          refine settle_step (B9 := B_X9_body) (l := [vI (r : Int)]) (tz := 0) (f := f) (G' := gBody I r (rdN (I 78) sz) (rdW (I 78) sz) (rdV (I 78) sz)) F C hH hwd hP hsl (ORD_fr hO (fun x _ _ => e x (by omega))) hS2 hA hC4 hw2 (fun x h1 h2 => e x (by omega)) (by rw [e 0 (by omega)]; exact d3) ⟨⟨by rw [e 0 (by omega)]; exact d1, by rw [e 0 (by omega)]; exact d2, by rw [e 0 (by omega)]; exact d4, fun s hs => by rw [e 62 (by omega)]; exact d5 s hs⟩, by rw [hx 21 (by omega) (by omega)]; exact u21, by omega, fun j hj => by omega⟩ (fun kd' J' R' K9 F' hrow hH' hM => ?_) (fun z st1 a b => ?_)
          · refine T kd' J' R' K9 F' hrow hH' (fun q => by rw [ok] at q; exact absurd q (by simp)) (fun _ q => by rw [kn] at q; exact absurd q (by simp)) (fun _ _ I1 hI1 => hM I1 _ ?_ ?_)
            · obtain ⟨g1, g2, g3⟩ := hI1
              exact ⟨fun x hx => g1 x (by omega) (by omega) (by omega), fun x h1 h2 => by rw [g1 x (by omega) (by omega) (by omega)]; exact hrow x (by omega) (by omega), by rw [g1 79 (by omega) (by omega) (by omega)]; exact hrow 79 (by omega) (by omega), by rw [g1 82 (by omega) (by omega) (by omega)]; exact hrow 82 (by omega) (by omega), fun k hk => by rw [g2 k (by omega) (by omega) (by omega) (by omega), hrow 63 (by omega) (by omega)], by rw [g3]; rfl, fun j hj => by omega⟩
            · unfold gBody
              exact agr_bd (agr_up (agr_fr (fun x h1 h2 => hrow x (by omega) (by omega))))
          · have go := hK z st1 a b
            obtain ⟨kd1, J1', R1⟩ := st1
            simp (disch := omega) [-Int.not_le, -Int.not_lt, ↓e_ci_p, ↓r_null_p, ↓a_nil_p, ↓s_skip_p, ↓s_inc_p, ↓s_brk_p, ↓s_ret_p, ↓lvI_s, ↓lvI_z, ↓lvL_s, ↓lvL_z, ↓lvR_s, ↓lvR_z, ↓e_lv_q, ↓l_lv_q, ↓r_lv_q, ↓kFld_q, ↓e_fld_q, ↓kFlR_q, ↓r_fld_q, ↓kAl1_q, ↓kAl2_q, ↓e_ald_q, ↓z_ald_q, ↓kAr1_q, ↓kAr2_q, ↓r_ald_q, ↓kLen_q, ↓e_len_q, ↓kO1_q, ↓kO2_q, ↓kD1_q, ↓kD2_q, ↓e_op_q, ↓e_dv_q, ↓l_op_q, ↓l_dv_q, ↓l_sh_q, ↓e_lcmp_q, ↓e_min_q, ↓kL2i_q, ↓e_l2i_q, ↓kB1_q, ↓kB2_q, ↓c_eq_q, ↓c_ne_q, ↓c_lt_q, ↓c_ge_q, ↓c_gt_q, ↓c_le_q, ↓kCb_q, ↓kCb_0, ↓kCb_1, ↓c_b_q, ↓kNot_q, ↓c_not_q, ↓kAnd_q, ↓c_and_q, ↓kOr_q, ↓c_or_q, ↓kNul_q, ↓c_null_q, ↓kCond_q, ↓e_cond_q, ↓kTern_q, ↓x_tern_q, ↓kA2_q, ↓kAI_q, ↓kAL_q, ↓kAR_q, ↓a_I_q, ↓a_L_q, ↓a_R_q, ↓kCall_q, ↓kCalS_q, ↓kRI_q, ↓kRR_q, ↓kRU_q, ↓kRP_q, ↓e_callV_q, ↓r_callV_q, ↓e_callS_q, ↓s_callV_q, ↓s_popV_q, ↓s_seq_q, ↓kSt_q, ↓s_st_q, ↓kStL_q, ↓s_stL_q, ↓kStR_q, ↓s_stR_q, ↓kPut1_q, ↓kPut2_q, ↓s_put_q, ↓kPz1_q, ↓kPz2_q, ↓s_putZ_q, ↓kPr1_q, ↓kPr2_q, ↓s_putR_q, ↓kPo1_q, ↓kPo2_q, ↓s_putop_q, ↓kAs1_q, ↓kAs2_q, ↓kAs3_q, ↓s_ast_q, ↓kZs1_q, ↓kZs2_q, ↓kZs3_q, ↓s_zast_q, ↓kRs1_q, ↓kRs2_q, ↓kRs3_q, ↓s_rast_q, ↓kAo1_q, ↓kAo2_q, ↓kAo3_q, ↓s_astop_q, ↓kIf_q, ↓s_if_q, ↓kIte_q, ↓s_ite_q, ↓kItr_q, ↓s_itr_q, ↓kRet_q, ↓s_retI_q, ↓kReR_q, ↓s_retR_q, ↓kSw_q, ↓s_sw_q, lvI_s, lvI_z, lvL_s, lvL_z, lvR_s, lvR_z, kFld_q, kFlR_q, kAl1_q, kAl2_q, kAr1_q, kAr2_q, kLen_q, kO1_q, kO2_q, kD1_q, kD2_q, kL2i_q, kB1_q, kB2_q, kCb_q, kCb_0, kCb_1, kNot_q, kAnd_q, kOr_q, kNul_q, kCond_q, kTern_q, kA2_q, kAI_q, kAL_q, kAR_q, kCall_q, kCalS_q, kRI_q, kRR_q, kRU_q, kRP_q, kSt_q, kStL_q, kStR_q, kPut1_q, kPut2_q, kPz1_q, kPz2_q, kPr1_q, kPr2_q, kPo1_q, kPo2_q, kAs1_q, kAs2_q, kAs3_q, kZs1_q, kZs2_q, kZs3_q, kRs1_q, kRs2_q, kRs3_q, kAo1_q, kAo2_q, kAo3_q, kIf_q, kIte_q, kItr_q, kRet_q, kReR_q, kSw_q, neb_q, gtb_q, geb_q, lnB_s, isI_s, isI_z, gI_s, gI_z, gR_s, gR_z, gA_s, isA_s, bdo_s, rHd_c, isHd_c, noL_z, noL_1, noL_s, nl_I, nl_R, nl_U, stI, stR, bd_t, oA, oS, oM, oD, oR, tn_add, tn_mul, tn_nat, eqb_t, eqb_f, ltb_t, ltb_f, leb_t, leb_f, nob_s, nob_n, nat_eq, nat_lt, nat_le]
            exact go
    · rw [hf] at kf
      have go := hK (-3) (kd, I, R) mk1 (fun K9 h9 => by
        have T := X9_body_ok (K := K9) (rt := (r : Int)) F hH t1 t2 hwd
        simp only [tn_nat] at T
        exact T (fun q => absurd c2 q) (fun _ _ => h9 _ h0) (fun _ q => by omega) (fun _ q => by omega) (fun _ q => by omega))
      simp (disch := omega) [t_X8_body, -Int.not_le, -Int.not_lt, ↓e_ci_p, ↓r_null_p, ↓a_nil_p, ↓s_skip_p, ↓s_inc_p, ↓s_brk_p, ↓s_ret_p, ↓lvI_s, ↓lvI_z, ↓lvL_s, ↓lvL_z, ↓lvR_s, ↓lvR_z, ↓e_lv_q, ↓l_lv_q, ↓r_lv_q, ↓kFld_q, ↓e_fld_q, ↓kFlR_q, ↓r_fld_q, ↓kAl1_q, ↓kAl2_q, ↓e_ald_q, ↓z_ald_q, ↓kAr1_q, ↓kAr2_q, ↓r_ald_q, ↓kLen_q, ↓e_len_q, ↓kO1_q, ↓kO2_q, ↓kD1_q, ↓kD2_q, ↓e_op_q, ↓e_dv_q, ↓l_op_q, ↓l_dv_q, ↓l_sh_q, ↓e_lcmp_q, ↓e_min_q, ↓kL2i_q, ↓e_l2i_q, ↓kB1_q, ↓kB2_q, ↓c_eq_q, ↓c_ne_q, ↓c_lt_q, ↓c_ge_q, ↓c_gt_q, ↓c_le_q, ↓kCb_q, ↓kCb_0, ↓kCb_1, ↓c_b_q, ↓kNot_q, ↓c_not_q, ↓kAnd_q, ↓c_and_q, ↓kOr_q, ↓c_or_q, ↓kNul_q, ↓c_null_q, ↓kCond_q, ↓e_cond_q, ↓kTern_q, ↓x_tern_q, ↓kA2_q, ↓kAI_q, ↓kAL_q, ↓kAR_q, ↓a_I_q, ↓a_L_q, ↓a_R_q, ↓kCall_q, ↓kCalS_q, ↓kRI_q, ↓kRR_q, ↓kRU_q, ↓kRP_q, ↓e_callV_q, ↓r_callV_q, ↓e_callS_q, ↓s_callV_q, ↓s_popV_q, ↓s_seq_q, ↓kSt_q, ↓s_st_q, ↓kStL_q, ↓s_stL_q, ↓kStR_q, ↓s_stR_q, ↓kPut1_q, ↓kPut2_q, ↓s_put_q, ↓kPz1_q, ↓kPz2_q, ↓s_putZ_q, ↓kPr1_q, ↓kPr2_q, ↓s_putR_q, ↓kPo1_q, ↓kPo2_q, ↓s_putop_q, ↓kAs1_q, ↓kAs2_q, ↓kAs3_q, ↓s_ast_q, ↓kZs1_q, ↓kZs2_q, ↓kZs3_q, ↓s_zast_q, ↓kRs1_q, ↓kRs2_q, ↓kRs3_q, ↓s_rast_q, ↓kAo1_q, ↓kAo2_q, ↓kAo3_q, ↓s_astop_q, ↓kIf_q, ↓s_if_q, ↓kIte_q, ↓s_ite_q, ↓kItr_q, ↓s_itr_q, ↓kRet_q, ↓s_retI_q, ↓kReR_q, ↓s_retR_q, ↓kSw_q, ↓s_sw_q, lvI_s, lvI_z, lvL_s, lvL_z, lvR_s, lvR_z, kFld_q, kFlR_q, kAl1_q, kAl2_q, kAr1_q, kAr2_q, kLen_q, kO1_q, kO2_q, kD1_q, kD2_q, kL2i_q, kB1_q, kB2_q, kCb_q, kCb_0, kCb_1, kNot_q, kAnd_q, kOr_q, kNul_q, kCond_q, kTern_q, kA2_q, kAI_q, kAL_q, kAR_q, kCall_q, kCalS_q, kRI_q, kRR_q, kRU_q, kRP_q, kSt_q, kStL_q, kStR_q, kPut1_q, kPut2_q, kPz1_q, kPz2_q, kPr1_q, kPr2_q, kPo1_q, kPo2_q, kAs1_q, kAs2_q, kAs3_q, kZs1_q, kZs2_q, kZs3_q, kRs1_q, kRs2_q, kRs3_q, kAo1_q, kAo2_q, kAo3_q, kIf_q, kIte_q, kItr_q, kRet_q, kReR_q, kSw_q, neb_q, gtb_q, geb_q, lnB_s, isI_s, isI_z, gI_s, gI_z, gR_s, gR_z, gA_s, isA_s, bdo_s, rHd_c, isHd_c, noL_z, noL_1, noL_s, nl_I, nl_R, nl_U, stI, stR, bd_t, oA, oS, oM, oD, oR, tn_add, tn_mul, tn_nat, eqb_t, eqb_f, ltb_t, ltb_f, leb_t, leb_f, nob_s, nob_n, nat_eq, nat_lt, nat_le, cK_0 C, p1, p2, pK0 p3, pR1 p3, pK1 p3, cR_0_5 C, cK_27 C, cR_27_0 C, cR_27_1 C, cR_27_2 C, cR_27_3 C, cK_28 C, cK_29 C, cK_30 C, cK_31 C, k2, kf]
      exact go
  · rw [if_neg (fun h => c2 h.2)] at k2
    have go := hK (-1) (kd, I, R) mk1 (fun K9 h9 => X9_body_ok F hH t1 t2 hwd (fun _ => h9 _ h0) (fun q => absurd q c2) (fun q => absurd q c2) (fun q => absurd q c2) (fun q => absurd q c2))
    simp (disch := omega) [t_X8_body, -Int.not_le, -Int.not_lt, ↓e_ci_p, ↓r_null_p, ↓a_nil_p, ↓s_skip_p, ↓s_inc_p, ↓s_brk_p, ↓s_ret_p, ↓lvI_s, ↓lvI_z, ↓lvL_s, ↓lvL_z, ↓lvR_s, ↓lvR_z, ↓e_lv_q, ↓l_lv_q, ↓r_lv_q, ↓kFld_q, ↓e_fld_q, ↓kFlR_q, ↓r_fld_q, ↓kAl1_q, ↓kAl2_q, ↓e_ald_q, ↓z_ald_q, ↓kAr1_q, ↓kAr2_q, ↓r_ald_q, ↓kLen_q, ↓e_len_q, ↓kO1_q, ↓kO2_q, ↓kD1_q, ↓kD2_q, ↓e_op_q, ↓e_dv_q, ↓l_op_q, ↓l_dv_q, ↓l_sh_q, ↓e_lcmp_q, ↓e_min_q, ↓kL2i_q, ↓e_l2i_q, ↓kB1_q, ↓kB2_q, ↓c_eq_q, ↓c_ne_q, ↓c_lt_q, ↓c_ge_q, ↓c_gt_q, ↓c_le_q, ↓kCb_q, ↓kCb_0, ↓kCb_1, ↓c_b_q, ↓kNot_q, ↓c_not_q, ↓kAnd_q, ↓c_and_q, ↓kOr_q, ↓c_or_q, ↓kNul_q, ↓c_null_q, ↓kCond_q, ↓e_cond_q, ↓kTern_q, ↓x_tern_q, ↓kA2_q, ↓kAI_q, ↓kAL_q, ↓kAR_q, ↓a_I_q, ↓a_L_q, ↓a_R_q, ↓kCall_q, ↓kCalS_q, ↓kRI_q, ↓kRR_q, ↓kRU_q, ↓kRP_q, ↓e_callV_q, ↓r_callV_q, ↓e_callS_q, ↓s_callV_q, ↓s_popV_q, ↓s_seq_q, ↓kSt_q, ↓s_st_q, ↓kStL_q, ↓s_stL_q, ↓kStR_q, ↓s_stR_q, ↓kPut1_q, ↓kPut2_q, ↓s_put_q, ↓kPz1_q, ↓kPz2_q, ↓s_putZ_q, ↓kPr1_q, ↓kPr2_q, ↓s_putR_q, ↓kPo1_q, ↓kPo2_q, ↓s_putop_q, ↓kAs1_q, ↓kAs2_q, ↓kAs3_q, ↓s_ast_q, ↓kZs1_q, ↓kZs2_q, ↓kZs3_q, ↓s_zast_q, ↓kRs1_q, ↓kRs2_q, ↓kRs3_q, ↓s_rast_q, ↓kAo1_q, ↓kAo2_q, ↓kAo3_q, ↓s_astop_q, ↓kIf_q, ↓s_if_q, ↓kIte_q, ↓s_ite_q, ↓kItr_q, ↓s_itr_q, ↓kRet_q, ↓s_retI_q, ↓kReR_q, ↓s_retR_q, ↓kSw_q, ↓s_sw_q, lvI_s, lvI_z, lvL_s, lvL_z, lvR_s, lvR_z, kFld_q, kFlR_q, kAl1_q, kAl2_q, kAr1_q, kAr2_q, kLen_q, kO1_q, kO2_q, kD1_q, kD2_q, kL2i_q, kB1_q, kB2_q, kCb_q, kCb_0, kCb_1, kNot_q, kAnd_q, kOr_q, kNul_q, kCond_q, kTern_q, kA2_q, kAI_q, kAL_q, kAR_q, kCall_q, kCalS_q, kRI_q, kRR_q, kRU_q, kRP_q, kSt_q, kStL_q, kStR_q, kPut1_q, kPut2_q, kPz1_q, kPz2_q, kPr1_q, kPr2_q, kPo1_q, kPo2_q, kAs1_q, kAs2_q, kAs3_q, kZs1_q, kZs2_q, kZs3_q, kRs1_q, kRs2_q, kRs3_q, kAo1_q, kAo2_q, kAo3_q, kIf_q, kIte_q, kItr_q, kRet_q, kReR_q, kSw_q, neb_q, gtb_q, geb_q, lnB_s, isI_s, isI_z, gI_s, gI_z, gR_s, gR_z, gA_s, isA_s, bdo_s, rHd_c, isHd_c, noL_z, noL_1, noL_s, nl_I, nl_R, nl_U, stI, stR, bd_t, oA, oS, oM, oD, oR, tn_add, tn_mul, tn_nat, eqb_t, eqb_f, ltb_t, ltb_f, leb_t, leb_f, nob_s, nob_n, nat_eq, nat_lt, nat_le, cK_0 C, p1, p2, pK0 p3, pR1 p3, pK1 p3, cR_0_5 C, cK_27 C, cR_27_0 C, cR_27_1 C, cR_27_2 C, cR_27_3 C, cK_28 C, cK_29 C, cK_30 C, cK_31 C, k2]
    exact go
theorem st_back (h : REL kd I R) : STPs B_X8_back B_X9_back [] (kd, I, R) := by
  have h0 := h
  obtain ⟨na, aa, f, kp, H, ⟨F, C, hH, hO, hwd⟩, ⟨hP, hS, hC⟩, hsl, hsc, htp⟩ := h
  obtain ⟨hr, hw, h14, hkl, h19⟩ := id hH
  obtain ⟨⟨p1, p2⟩, ⟨p3, p4, p5, p6, p7⟩, p8, p9⟩ := id hP
  have hp0 := hw.1.1
  obtain ⟨n, hn⟩ : ∃ n : Nat, I 64 0 = (n : Int) := ⟨(I 64 0).toNat, by omega⟩
  have mk1 := mK_63 F
  obtain ⟨⟨s1, s2, s3, s4⟩, s5⟩ := id hS
  refine STPs_of (fun K hK => ?_)
  simp [B_X8_back, bodyOf, envOf, exA, catV, rkOK]
  by_cases c : kp = 0
  · have s3' : I 19 2 = 0 := by rw [s3, c]; rfl
    have go := hK (-3) (kd, I, R) mk1 (fun K9 h9 => X9_back_ok F hH (fun _ => h9 _ h0) (fun q => absurd c q))
    simp (disch := omega) [t_X8_back, -Int.not_le, -Int.not_lt, ↓e_ci_p, ↓r_null_p, ↓a_nil_p, ↓s_skip_p, ↓s_inc_p, ↓s_brk_p, ↓s_ret_p, ↓lvI_s, ↓lvI_z, ↓lvL_s, ↓lvL_z, ↓lvR_s, ↓lvR_z, ↓e_lv_q, ↓l_lv_q, ↓r_lv_q, ↓kFld_q, ↓e_fld_q, ↓kFlR_q, ↓r_fld_q, ↓kAl1_q, ↓kAl2_q, ↓e_ald_q, ↓z_ald_q, ↓kAr1_q, ↓kAr2_q, ↓r_ald_q, ↓kLen_q, ↓e_len_q, ↓kO1_q, ↓kO2_q, ↓kD1_q, ↓kD2_q, ↓e_op_q, ↓e_dv_q, ↓l_op_q, ↓l_dv_q, ↓l_sh_q, ↓e_lcmp_q, ↓e_min_q, ↓kL2i_q, ↓e_l2i_q, ↓kB1_q, ↓kB2_q, ↓c_eq_q, ↓c_ne_q, ↓c_lt_q, ↓c_ge_q, ↓c_gt_q, ↓c_le_q, ↓kCb_q, ↓kCb_0, ↓kCb_1, ↓c_b_q, ↓kNot_q, ↓c_not_q, ↓kAnd_q, ↓c_and_q, ↓kOr_q, ↓c_or_q, ↓kNul_q, ↓c_null_q, ↓kCond_q, ↓e_cond_q, ↓kTern_q, ↓x_tern_q, ↓kA2_q, ↓kAI_q, ↓kAL_q, ↓kAR_q, ↓a_I_q, ↓a_L_q, ↓a_R_q, ↓kCall_q, ↓kCalS_q, ↓kRI_q, ↓kRR_q, ↓kRU_q, ↓kRP_q, ↓e_callV_q, ↓r_callV_q, ↓e_callS_q, ↓s_callV_q, ↓s_popV_q, ↓s_seq_q, ↓kSt_q, ↓s_st_q, ↓kStL_q, ↓s_stL_q, ↓kStR_q, ↓s_stR_q, ↓kPut1_q, ↓kPut2_q, ↓s_put_q, ↓kPz1_q, ↓kPz2_q, ↓s_putZ_q, ↓kPr1_q, ↓kPr2_q, ↓s_putR_q, ↓kPo1_q, ↓kPo2_q, ↓s_putop_q, ↓kAs1_q, ↓kAs2_q, ↓kAs3_q, ↓s_ast_q, ↓kZs1_q, ↓kZs2_q, ↓kZs3_q, ↓s_zast_q, ↓kRs1_q, ↓kRs2_q, ↓kRs3_q, ↓s_rast_q, ↓kAo1_q, ↓kAo2_q, ↓kAo3_q, ↓s_astop_q, ↓kIf_q, ↓s_if_q, ↓kIte_q, ↓s_ite_q, ↓kItr_q, ↓s_itr_q, ↓kRet_q, ↓s_retI_q, ↓kReR_q, ↓s_retR_q, ↓kSw_q, ↓s_sw_q, lvI_s, lvI_z, lvL_s, lvL_z, lvR_s, lvR_z, kFld_q, kFlR_q, kAl1_q, kAl2_q, kAr1_q, kAr2_q, kLen_q, kO1_q, kO2_q, kD1_q, kD2_q, kL2i_q, kB1_q, kB2_q, kCb_q, kCb_0, kCb_1, kNot_q, kAnd_q, kOr_q, kNul_q, kCond_q, kTern_q, kA2_q, kAI_q, kAL_q, kAR_q, kCall_q, kCalS_q, kRI_q, kRR_q, kRU_q, kRP_q, kSt_q, kStL_q, kStR_q, kPut1_q, kPut2_q, kPz1_q, kPz2_q, kPr1_q, kPr2_q, kPo1_q, kPo2_q, kAs1_q, kAs2_q, kAs3_q, kZs1_q, kZs2_q, kZs3_q, kRs1_q, kRs2_q, kRs3_q, kAo1_q, kAo2_q, kAo3_q, kIf_q, kIte_q, kItr_q, kRet_q, kReR_q, kSw_q, neb_q, gtb_q, geb_q, lnB_s, isI_s, isI_z, gI_s, gI_z, gR_s, gR_z, gA_s, isA_s, bdo_s, rHd_c, isHd_c, noL_z, noL_1, noL_s, nl_I, nl_R, nl_U, stI, stR, bd_t, oA, oS, oM, oD, oR, tn_add, tn_mul, tn_nat, eqb_t, eqb_f, ltb_t, ltb_f, leb_t, leb_f, nob_s, nob_n, nat_eq, nat_lt, nat_le, cK_0 C, cR_0_2 C, cK_19 C, s3']
    exact go
  · have c' : ¬ ((kp : Int) = 0) := by omega
    obtain ⟨b, b1, b2, b3⟩ := s5 (kp - 1) (by omega)
    rw [show kp - 1 + 1 = kp by omega] at b2 b3
    generalize ht : (f + (kp - 1)) % 20 = t at *
    have ht20 : t < 20 := by omega
    obtain ⟨q1, q2, q3, q4⟩ := p8 t b ht20 b1
    simp (disch := omega) [t_X8_back, -Int.not_le, -Int.not_lt, ↓e_ci_p, ↓r_null_p, ↓a_nil_p, ↓s_skip_p, ↓s_inc_p, ↓s_brk_p, ↓s_ret_p, ↓lvI_s, ↓lvI_z, ↓lvL_s, ↓lvL_z, ↓lvR_s, ↓lvR_z, ↓e_lv_q, ↓l_lv_q, ↓r_lv_q, ↓kFld_q, ↓e_fld_q, ↓kFlR_q, ↓r_fld_q, ↓kAl1_q, ↓kAl2_q, ↓e_ald_q, ↓z_ald_q, ↓kAr1_q, ↓kAr2_q, ↓r_ald_q, ↓kLen_q, ↓e_len_q, ↓kO1_q, ↓kO2_q, ↓kD1_q, ↓kD2_q, ↓e_op_q, ↓e_dv_q, ↓l_op_q, ↓l_dv_q, ↓l_sh_q, ↓e_lcmp_q, ↓e_min_q, ↓kL2i_q, ↓e_l2i_q, ↓kB1_q, ↓kB2_q, ↓c_eq_q, ↓c_ne_q, ↓c_lt_q, ↓c_ge_q, ↓c_gt_q, ↓c_le_q, ↓kCb_q, ↓kCb_0, ↓kCb_1, ↓c_b_q, ↓kNot_q, ↓c_not_q, ↓kAnd_q, ↓c_and_q, ↓kOr_q, ↓c_or_q, ↓kNul_q, ↓c_null_q, ↓kCond_q, ↓e_cond_q, ↓kTern_q, ↓x_tern_q, ↓kA2_q, ↓kAI_q, ↓kAL_q, ↓kAR_q, ↓a_I_q, ↓a_L_q, ↓a_R_q, ↓kCall_q, ↓kCalS_q, ↓kRI_q, ↓kRR_q, ↓kRU_q, ↓kRP_q, ↓e_callV_q, ↓r_callV_q, ↓e_callS_q, ↓s_callV_q, ↓s_popV_q, ↓s_seq_q, ↓kSt_q, ↓s_st_q, ↓kStL_q, ↓s_stL_q, ↓kStR_q, ↓s_stR_q, ↓kPut1_q, ↓kPut2_q, ↓s_put_q, ↓kPz1_q, ↓kPz2_q, ↓s_putZ_q, ↓kPr1_q, ↓kPr2_q, ↓s_putR_q, ↓kPo1_q, ↓kPo2_q, ↓s_putop_q, ↓kAs1_q, ↓kAs2_q, ↓kAs3_q, ↓s_ast_q, ↓kZs1_q, ↓kZs2_q, ↓kZs3_q, ↓s_zast_q, ↓kRs1_q, ↓kRs2_q, ↓kRs3_q, ↓s_rast_q, ↓kAo1_q, ↓kAo2_q, ↓kAo3_q, ↓s_astop_q, ↓kIf_q, ↓s_if_q, ↓kIte_q, ↓s_ite_q, ↓kItr_q, ↓s_itr_q, ↓kRet_q, ↓s_retI_q, ↓kReR_q, ↓s_retR_q, ↓kSw_q, ↓s_sw_q, lvI_s, lvI_z, lvL_s, lvL_z, lvR_s, lvR_z, kFld_q, kFlR_q, kAl1_q, kAl2_q, kAr1_q, kAr2_q, kLen_q, kO1_q, kO2_q, kD1_q, kD2_q, kL2i_q, kB1_q, kB2_q, kCb_q, kCb_0, kCb_1, kNot_q, kAnd_q, kOr_q, kNul_q, kCond_q, kTern_q, kA2_q, kAI_q, kAL_q, kAR_q, kCall_q, kCalS_q, kRI_q, kRR_q, kRU_q, kRP_q, kSt_q, kStL_q, kStR_q, kPut1_q, kPut2_q, kPz1_q, kPz2_q, kPr1_q, kPr2_q, kPo1_q, kPo2_q, kAs1_q, kAs2_q, kAs3_q, kZs1_q, kZs2_q, kZs3_q, kRs1_q, kRs2_q, kRs3_q, kAo1_q, kAo2_q, kAo3_q, kIf_q, kIte_q, kItr_q, kRet_q, kReR_q, kSw_q, neb_q, gtb_q, geb_q, lnB_s, isI_s, isI_z, gI_s, gI_z, gR_s, gR_z, gA_s, isA_s, bdo_s, rHd_c, isHd_c, noL_z, noL_1, noL_s, nl_I, nl_R, nl_U, stI, stR, bd_t, oA, oS, oM, oD, oR, tn_add, tn_mul, tn_nat, eqb_t, eqb_f, ltb_t, ltb_f, leb_t, leb_f, nob_s, nob_n, nat_eq, nat_lt, nat_le, cK_0 C, cR_0_2 C, cK_19 C, s3, c', c, p1]
    refine X2_take_ok C s1 s3 s4 c s2 ht (pK0 p3) b1 ?_
    have u2 : upI I 19 2 ((kp : Int) - 1) 19 2 = (kp : Int) - 1 := by simp [upI]
    have r02 : upR (upR R 20 t (some na)) 0 0 (some b) 0 2 = some 19 := by
      rw [show upR (upR R 20 t (some na)) 0 0 (some b) 0 2 = R 0 2 by simp [upR]]; exact cR_0_2 C
    have hx : xt kd R kd (upR (upR R 20 t (some na)) 0 0 (some b)) := xt_trans (xt_up (Or.inl rfl)) (xt_up (Or.inr ⟨rfl, Or.inl rfl⟩))
    have F' := xt_mod C F hx
    have C' := xt_cls C hx
    have hu : ∀ x, x ≠ 19 → upI I 19 2 ((kp : Int) - 1) x = I x := fun x hx => upI_row hx
    have hrow : ∀ x, 63 ≤ x → x < 98 → upI I 19 2 ((kp : Int) - 1) x = I x := fun x h1 h2 => hu x (by omega)
    have hpb := q2
    unfold pgA at hpb
    have hR20 : ∀ j, j ≠ t → upR (upR R 20 t (some na)) 0 0 (some b) 20 j = R 20 j := fun j hj => by simp [upR, hj]
    have hR20t : upR (upR R 20 t (some na)) 0 0 (some b) 20 t = some na := by simp [upR]
    have hP' : PGS kd (upR (upR R 20 t (some na)) 0 0 (some b)) b aa := by
      refine ⟨⟨by simp [upR], by rw [show upR (upR R 20 t (some na)) 0 0 (some b) 0 1 = R 0 1 by simp [upR]]; exact p2⟩, ⟨xt_prog q1 q2 hx, xt_prog p4 p6 hx, q2, p6, q4⟩, fun j z hj hz => ?_, fun i j z w hi hj hij hz hw2 => ?_⟩
      · by_cases cj : j = t
        · rw [cj, hR20t] at hz
          cases hz
          exact ⟨xt_prog p3 p5 hx, p5, by unfold sep at q3 ⊢; omega, p7⟩
        · rw [hR20 j cj] at hz
          obtain ⟨z1, z2, z3, z4⟩ := p8 j z hj hz
          exact ⟨xt_prog z1 z2 hx, z2, p9 j t z b hj ht20 cj hz b1, z4⟩
      · by_cases ci : i = t
        · rw [ci, hR20t] at hz
          cases hz
          rw [hR20 j (by omega)] at hw2
          have := (p8 j w hj hw2).2.2.1
          unfold sep at this ⊢; omega
        · rw [hR20 i ci] at hz
          by_cases cj : j = t
          · rw [cj, hR20t] at hw2
            cases hw2
            exact (p8 i z hi hz).2.2.1
          · rw [hR20 j cj] at hw2
            exact p9 i j z w hi hj hij hz hw2
    have hS' : PST (upI I 19 2 ((kp : Int) - 1)) (upR (upR R 20 t (some na)) 0 0 (some b)) f (kp - 1) H := by
      refine ⟨⟨by simp [upI]; exact s1, s2, by rw [u2]; omega, by omega⟩, fun j hj => ?_⟩
      obtain ⟨z, z1, z2, z3⟩ := s5 j (by omega)
      have hne : (f + j) % 20 ≠ t := by
        rw [← ht]; intro hh
        have := mod_at (f := f) s2 (j := j) (k := kp - 1) (by omega) (by omega) hh
        omega
      have hz := (p8 _ z (by omega) z1).2.1
      unfold pgA at hz
      exact ⟨z, by rw [hR20 _ hne]; exact z1, RC_fr z2 (fun i hi => hu _ (by omega)), z3⟩
    have hH' := RH_fr hH hrow
    have go := hK ((kp : Int) - 1) (kd, upI I 19 2 ((kp : Int) - 1), upR (upR R 20 t (some na)) 0 0 (some b)) (mK_63 F') (fun K9 h9 => X9_back_ok F' hH' (fun q => absurd q c) (fun _ J2 hJ2 => h9 _ ?_))
    · simp (disch := omega) [-Int.not_le, -Int.not_lt, ↓e_ci_p, ↓r_null_p, ↓a_nil_p, ↓s_skip_p, ↓s_inc_p, ↓s_brk_p, ↓s_ret_p, ↓lvI_s, ↓lvI_z, ↓lvL_s, ↓lvL_z, ↓lvR_s, ↓lvR_z, ↓e_lv_q, ↓l_lv_q, ↓r_lv_q, ↓kFld_q, ↓e_fld_q, ↓kFlR_q, ↓r_fld_q, ↓kAl1_q, ↓kAl2_q, ↓e_ald_q, ↓z_ald_q, ↓kAr1_q, ↓kAr2_q, ↓r_ald_q, ↓kLen_q, ↓e_len_q, ↓kO1_q, ↓kO2_q, ↓kD1_q, ↓kD2_q, ↓e_op_q, ↓e_dv_q, ↓l_op_q, ↓l_dv_q, ↓l_sh_q, ↓e_lcmp_q, ↓e_min_q, ↓kL2i_q, ↓e_l2i_q, ↓kB1_q, ↓kB2_q, ↓c_eq_q, ↓c_ne_q, ↓c_lt_q, ↓c_ge_q, ↓c_gt_q, ↓c_le_q, ↓kCb_q, ↓kCb_0, ↓kCb_1, ↓c_b_q, ↓kNot_q, ↓c_not_q, ↓kAnd_q, ↓c_and_q, ↓kOr_q, ↓c_or_q, ↓kNul_q, ↓c_null_q, ↓kCond_q, ↓e_cond_q, ↓kTern_q, ↓x_tern_q, ↓kA2_q, ↓kAI_q, ↓kAL_q, ↓kAR_q, ↓a_I_q, ↓a_L_q, ↓a_R_q, ↓kCall_q, ↓kCalS_q, ↓kRI_q, ↓kRR_q, ↓kRU_q, ↓kRP_q, ↓e_callV_q, ↓r_callV_q, ↓e_callS_q, ↓s_callV_q, ↓s_popV_q, ↓s_seq_q, ↓kSt_q, ↓s_st_q, ↓kStL_q, ↓s_stL_q, ↓kStR_q, ↓s_stR_q, ↓kPut1_q, ↓kPut2_q, ↓s_put_q, ↓kPz1_q, ↓kPz2_q, ↓s_putZ_q, ↓kPr1_q, ↓kPr2_q, ↓s_putR_q, ↓kPo1_q, ↓kPo2_q, ↓s_putop_q, ↓kAs1_q, ↓kAs2_q, ↓kAs3_q, ↓s_ast_q, ↓kZs1_q, ↓kZs2_q, ↓kZs3_q, ↓s_zast_q, ↓kRs1_q, ↓kRs2_q, ↓kRs3_q, ↓s_rast_q, ↓kAo1_q, ↓kAo2_q, ↓kAo3_q, ↓s_astop_q, ↓kIf_q, ↓s_if_q, ↓kIte_q, ↓s_ite_q, ↓kItr_q, ↓s_itr_q, ↓kRet_q, ↓s_retI_q, ↓kReR_q, ↓s_retR_q, ↓kSw_q, ↓s_sw_q, lvI_s, lvI_z, lvL_s, lvL_z, lvR_s, lvR_z, kFld_q, kFlR_q, kAl1_q, kAl2_q, kAr1_q, kAr2_q, kLen_q, kO1_q, kO2_q, kD1_q, kD2_q, kL2i_q, kB1_q, kB2_q, kCb_q, kCb_0, kCb_1, kNot_q, kAnd_q, kOr_q, kNul_q, kCond_q, kTern_q, kA2_q, kAI_q, kAL_q, kAR_q, kCall_q, kCalS_q, kRI_q, kRR_q, kRU_q, kRP_q, kSt_q, kStL_q, kStR_q, kPut1_q, kPut2_q, kPz1_q, kPz2_q, kPr1_q, kPr2_q, kPo1_q, kPo2_q, kAs1_q, kAs2_q, kAs3_q, kZs1_q, kZs2_q, kZs3_q, kRs1_q, kRs2_q, kRs3_q, kAo1_q, kAo2_q, kAo3_q, kIf_q, kIte_q, kItr_q, kRet_q, kReR_q, kSw_q, neb_q, gtb_q, geb_q, lnB_s, isI_s, isI_z, gI_s, gI_z, gR_s, gR_z, gA_s, isA_s, bdo_s, rHd_c, isHd_c, noL_z, noL_1, noL_s, nl_I, nl_R, nl_U, stI, stR, bd_t, oA, oS, oM, oD, oR, tn_add, tn_mul, tn_nat, eqb_t, eqb_f, ltb_t, ltb_f, leb_t, leb_f, nob_s, nob_n, nat_eq, nat_lt, nat_le, cK_0 C, r02, cK_19 C, u2]
      exact go
    · obtain ⟨g1, g2, g3, g4, g5, g6⟩ := hJ2
      have e : ∀ x, ¬ slR x → x ≠ 63 → x ≠ 19 → J2 x = I x := fun x a b c => by rw [g1 x a b, hu x c]
      have e63 : ∀ k, k ≠ 14 → J2 63 k = I 63 k := fun k hk => by rw [g2 k hk, hu 63 (by omega)]
      have hcl : ∀ x, x < 63 ∨ 98 ≤ x → J2 x = upI I 19 2 ((kp : Int) - 1) x := fun x hx => g1 x (by unfold slR; omega) (by omega)
      have hSG : ∀ s, 1 ≤ s → s ≤ kp → SG (upI I 19 2 ((kp : Int) - 1)) s (H s) := fun s h1 h2 => SG_fr (hsl s h1 h2) (fun x h1 h2 => hu x (by omega))
      show REL kd J2 _
      refine REL_mk (J := upI I 19 2 ((kp : Int) - 1)) (G := H kp) (kp := kp - 1) F' C' hcl hP' hS' (RC_fr b2 (fun i hi => hu _ (by omega))) b3 (ORD_fr hO (fun x _ _ => hu x (by omega))) (agr_0 (g5 _ (hSG kp (by omega) (by omega)))) (fun s h1 h2 => g6 s _ h1 (hSG s h1 (by omega))) g4 ?_ ?_ (by rw [g3]; omega) (by rw [e63 19 (by omega)]; exact h19) ?_ ?_ ?_
      · unfold Pr; rw [e 79 (by unfold slR; omega) (by omega) (by omega)]; exact hr.2.2.1
      · rw [e 86 (by unfold slR; omega) (by omega) (by omega), e 87 (by unfold slR; omega) (by omega) (by omega), e 93 (by unfold slR; omega) (by omega) (by omega)]; exact fun k hk => ⟨hr.2.2.2.1 k hk, hr.2.2.2.2 k hk⟩
      · rw [e 82 (by unfold slR; omega) (by omega) (by omega)]; exact hwd
      · unfold SCL
        rw [e 0 (by unfold slR; omega) (by omega) (by omega), e 62 (by unfold slR; omega) (by omega) (by omega), e 79 (by unfold slR; omega) (by omega) (by omega), e63 18 (by omega), e63 19 (by omega), e63 20 (by omega), e63 21 (by omega)]; exact hsc
      · unfold TAP
        rw [e 21 (by unfold slR; omega) (by omega) (by omega), e 22 (by unfold slR; omega) (by omega) (by omega), e 78 (by unfold slR; omega) (by omega) (by omega), e63 16 (by omega)]; exact htp
end MX
