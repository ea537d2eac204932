/-! the class's past -/
def sep (a b : Nat) : Prop := a + 8 < b ∨ b + 8 < a
/-- where the programs lie -/
def PGS (kd : List (Nat × Nat)) (R : Nat → Nat → Option Nat) (na aa : Nat) : Prop := (R 0 0 = some na ∧ R 0 1 = some aa) ∧ (isProg kd R na ∧ isProg kd R aa ∧ pgA na ∧ pgA aa ∧ sep na aa) ∧ (∀ j b, j < 20 → R 20 j = some b → isProg kd R b ∧ pgA b ∧ sep b na ∧ sep b aa) ∧ ∀ i j b c, i < 20 → j < 20 → i ≠ j → R 20 i = some b → R 20 j = some c → sep b c
/-- what is kept: H 1, .. H kp -/
def PST (I : Nat → Nat → Int) (R : Nat → Nat → Option Nat) (f kp : Nat) (H : Nat → Nat → Nat → Int) : Prop := (I 19 1 = (f : Int) ∧ f < 20 ∧ I 19 2 = (kp : Int) ∧ kp ≤ 20) ∧ ∀ j, j < kp → ∃ b, R 20 ((f + j) % 20) = some b ∧ RC I b (H (j + 1)) ∧ WG (H (j + 1))
def nH (kp : Nat) (H : Nat → Nat → Nat → Int) (G : Nat → Nat → Int) (s : Nat) : Nat → Nat → Int := if s < nKept kp then H (if kp = 20 then s + 1 else s) else G
theorem isProg_lt {kd : List (Nat × Nat)} {R : Nat → Nat → Option Nat} {a : Nat} (h : isProg kd R a) : a + 8 < kd.length := by
  obtain ⟨h1, _⟩ := List.getElem?_eq_some_iff.1 (pK8 h)
  exact h1
/-- cells added, references elsewhere -/
def xt (kd : List (Nat × Nat)) (R : Nat → Nat → Option Nat) (kd' : List (Nat × Nat)) (R' : Nat → Nat → Option Nat) : Prop := (∀ (a : Nat) (p : Nat × Nat), kd[a]? = some p → kd'[a]? = some p) ∧ ∀ a k : Nat, a < kd.length → a ≠ 20 → ¬ (a = 0 ∧ (k = 0 ∨ k = 1)) → R' a k = R a k
theorem xt_refl {kd : List (Nat × Nat)} {R : Nat → Nat → Option Nat} : xt kd R kd R := ⟨fun _ _ h => h, fun _ _ _ _ _ => rfl⟩
theorem xt_up {kd : List (Nat × Nat)} {R : Nat → Nat → Option Nat} {a k : Nat} {v : Option Nat} (h : a = 20 ∨ (a = 0 ∧ (k = 0 ∨ k = 1))) : xt kd R kd (upR R a k v) := ⟨fun _ _ h => h, fun b j _ h2 h3 => by
  unfold upR
  rw [if_neg (by rintro ⟨rfl, rfl⟩; rcases h with h | h
                 · exact h2 h
                 · exact h3 h)]⟩
section PA
variable {kd kd' : List (Nat × Nat)} {R R' : Nat → Nat → Option Nat} {I G : Nat → Nat → Int} {K : AV → XS → Prop} {na aa f kp : Nat} {H : Nat → Nat → Nat → Int}
theorem xt_len (h : xt kd R kd' R') : kd.length ≤ kd'.length := by
  by_cases c : kd.length = 0
  · omega
  · have h1 : kd[kd.length - 1]? = some (kd[kd.length - 1]'(by omega)) := List.getElem?_eq_getElem (by omega)
    obtain ⟨h2, _⟩ := List.getElem?_eq_some_iff.1 (h.1 _ _ h1)
    omega
theorem xt_trans {kd2 : List (Nat × Nat)} {R2 : Nat → Nat → Option Nat} (h : xt kd R kd' R') (h2 : xt kd' R' kd2 R2) : xt kd R kd2 R2 :=
  ⟨fun a p hp => h2.1 a p (h.1 a p hp), fun a k h1 h3 h4 => by rw [h2.2 a k (by have := xt_len h; omega) h3 h4]; exact h.2 a k h1 h3 h4⟩
theorem kd0_some {a : Nat} (h : a < 98) : ∃ p, kd0[a]? = some p := ⟨kd0[a]'(by rw [show kd0.length = 98 by decide]; exact h), List.getElem?_eq_getElem _⟩
theorem cls_len (C : isCls kd R) : 98 ≤ kd.length := by
  obtain ⟨p, hp⟩ := kd0_some (a := 97) (by omega)
  have := C.1 97 (by omega)
  rw [hp] at this
  obtain ⟨h1, _⟩ := List.getElem?_eq_some_iff.1 this
  omega
theorem crefs_ok : ∀ q ∈ crefs, q.1 < 98 ∧ q.1 ≠ 20 ∧ ¬ (q.1 = 0 ∧ (q.2.1 = 0 ∨ q.2.1 = 1)) := by decide
theorem xt_cls (C : isCls kd R) (h : xt kd R kd' R') : isCls kd' R' := by
  have hl := cls_len C
  refine ⟨fun a ha => ?_, fun q hq => ?_⟩
  · obtain ⟨p, hp⟩ := kd0_some ha
    have := C.1 a ha
    rw [hp] at this ⊢
    exact h.1 a p this
  · obtain ⟨h1, h2, h3⟩ := crefs_ok q hq
    rw [h.2 q.1 q.2.1 (by omega) h2 h3]
    exact C.2 q hq
theorem xt_mod (C : isCls kd R) (F : isMod kd R) (h : xt kd R kd' R') : isMod kd' R' := by
  have hl := cls_len C
  refine ⟨fun a h1 ha => ?_, fun q hq => ?_⟩
  · obtain ⟨p, hp⟩ := kd0_some ha
    have := F.1 a h1 ha
    rw [hp] at this ⊢
    exact h.1 a p this
  · rw [h.2 63 q.1 (by omega) (by decide) (by omega)]
    exact F.2 q hq
theorem xt_prog {a : Nat} (ha : isProg kd R a) (hg : pgA a) (h : xt kd R kd' R') : isProg kd' R' a := by
  have hl := isProg_lt ha
  have hr : ∀ k, R' a k = R a k := fun k => h.2 a k (by omega) (by unfold pgA at hg; omega) (by unfold pgA at hg; omega)
  obtain ⟨a0, a1, a2, a3, a4, a5, a6, a7, a8, r1, r2, r3, r4, r5, r6, r7, r8⟩ := ha
  exact ⟨h.1 _ _ a0, h.1 _ _ a1, h.1 _ _ a2, h.1 _ _ a3, h.1 _ _ a4, h.1 _ _ a5, h.1 _ _ a6, h.1 _ _ a7, h.1 _ _ a8, by rw [hr]; exact r1, by rw [hr]; exact r2, by rw [hr]; exact r3, by rw [hr]; exact r4, by rw [hr]; exact r5, by rw [hr]; exact r6, by rw [hr]; exact r7, by rw [hr]; exact r8⟩
theorem RC_frx {J : Nat → Nat → Int} {a : Nat} (h : RC I a G) (hJ : ∀ i, i ≤ 8 → J (a + i) = I (a + i)) : RC J a G := RC_fr h hJ
theorem mod_at {f j k : Nat} (hf : f < 20) (hj : j < 20) (hk : k < 20) (h : (f + j) % 20 = (f + k) % 20) : j = k := by omega
def KP (I : Nat → Nat → Int) (f kp : Nat) : Nat → Nat → Int := if kp < 20 then upI I 19 2 ((kp : Int) + 1) else upI I 19 1 (((f : Int) + 1) % 20)
theorem X2_keep_ok (C : isCls kd R) {t : Nat} (s1 : I 19 1 = (f : Int)) (s3 : I 19 2 = (kp : Int)) (hkp : kp ≤ 20) (hf : f < 20) (ht : (f + kp) % 20 = t) (ka : kd[aa]? = some (6, 0)) (hs : ∀ b, R 20 t = some b → K (vR (some b)) (kd, KP I f kp, upR R 20 t (some aa))) (hn : R 20 t = none → K (vR (some kd.length)) (prS (kd, KP I f kp, upR R 20 t (some aa)))) : B_X2_keep [vR (some 19), vR (some aa)] (kd, I, R) K := by
  have esl : (((f : Int) + (kp : Int)) % 20) = (t : Int) := by omega
  have ht20 : t < 20 := by omega
  have a1 : upR R 20 t (some aa) 19 0 = some 20 := by rw [show upR R 20 t (some aa) 19 0 = R 19 0 by simp [upR]]; exact cR_19_0 C
  have kini := fun (st : XS) (K : AV → XS → Prop) => X3_init_ok (st := st) (K := K)
  have knew := fun (env : XE) (st : XS) (K : Option Nat → XS → Prop) (h : K (some st.1.length) (prS st)) => (show r_new 3 B_X3_init a_nil env st K from kini st _ ⟨rfl, h⟩)
  simp [B_X2_keep, bodyOf, envOf, exA, catV, rkOK]
  by_cases c : kp < 20
  · have c' : (kp : Int) < 20 := by omega
    rw [KP, if_pos c] at hs hn
    cases hr : R 20 t with
    | none =>
      have hn := hn hr
      simp (disch := omega) [t_X2_keep, -Int.not_le, -Int.not_lt, ↓e_ci_p, ↓r_null_p, ↓a_nil_p, ↓s_skip_p, ↓s_inc_p, ↓s_brk_p, ↓s_ret_p, ↓lvI_s, ↓lvI_z, ↓lvL_s, ↓lvL_z, ↓lvR_s, ↓lvR_z, ↓e_lv_q, ↓l_lv_q, ↓r_lv_q, ↓kFld_q, ↓e_fld_q, ↓kFlR_q, ↓r_fld_q, ↓kAl1_q, ↓kAl2_q, ↓e_ald_q, ↓z_ald_q, ↓kAr1_q, ↓kAr2_q, ↓r_ald_q, ↓kLen_q, ↓e_len_q, ↓kO1_q, ↓kO2_q, ↓kD1_q, ↓kD2_q, ↓e_op_q, ↓e_dv_q, ↓l_op_q, ↓l_dv_q, ↓l_sh_q, ↓e_lcmp_q, ↓e_min_q, ↓kL2i_q, ↓e_l2i_q, ↓kB1_q, ↓kB2_q, ↓c_eq_q, ↓c_ne_q, ↓c_lt_q, ↓c_ge_q, ↓c_gt_q, ↓c_le_q, ↓kCb_q, ↓kCb_0, ↓kCb_1, ↓c_b_q, ↓kNot_q, ↓c_not_q, ↓kAnd_q, ↓c_and_q, ↓kOr_q, ↓c_or_q, ↓kNul_q, ↓c_null_q, ↓kCond_q, ↓e_cond_q, ↓kTern_q, ↓x_tern_q, ↓kA2_q, ↓kAI_q, ↓kAL_q, ↓kAR_q, ↓a_I_q, ↓a_L_q, ↓a_R_q, ↓kCall_q, ↓kCalS_q, ↓kRI_q, ↓kRR_q, ↓kRU_q, ↓kRP_q, ↓e_callV_q, ↓r_callV_q, ↓e_callS_q, ↓s_callV_q, ↓s_popV_q, ↓s_seq_q, ↓kSt_q, ↓s_st_q, ↓kStL_q, ↓s_stL_q, ↓kStR_q, ↓s_stR_q, ↓kPut1_q, ↓kPut2_q, ↓s_put_q, ↓kPz1_q, ↓kPz2_q, ↓s_putZ_q, ↓kPr1_q, ↓kPr2_q, ↓s_putR_q, ↓kPo1_q, ↓kPo2_q, ↓s_putop_q, ↓kAs1_q, ↓kAs2_q, ↓kAs3_q, ↓s_ast_q, ↓kZs1_q, ↓kZs2_q, ↓kZs3_q, ↓s_zast_q, ↓kRs1_q, ↓kRs2_q, ↓kRs3_q, ↓s_rast_q, ↓kAo1_q, ↓kAo2_q, ↓kAo3_q, ↓s_astop_q, ↓kIf_q, ↓s_if_q, ↓kIte_q, ↓s_ite_q, ↓kItr_q, ↓s_itr_q, ↓kRet_q, ↓s_retI_q, ↓kReR_q, ↓s_retR_q, ↓kSw_q, ↓s_sw_q, lvI_s, lvI_z, lvL_s, lvL_z, lvR_s, lvR_z, kFld_q, kFlR_q, kAl1_q, kAl2_q, kAr1_q, kAr2_q, kLen_q, kO1_q, kO2_q, kD1_q, kD2_q, kL2i_q, kB1_q, kB2_q, kCb_q, kCb_0, kCb_1, kNot_q, kAnd_q, kOr_q, kNul_q, kCond_q, kTern_q, kA2_q, kAI_q, kAL_q, kAR_q, kCall_q, kCalS_q, kRI_q, kRR_q, kRU_q, kRP_q, kSt_q, kStL_q, kStR_q, kPut1_q, kPut2_q, kPz1_q, kPz2_q, kPr1_q, kPr2_q, kPo1_q, kPo2_q, kAs1_q, kAs2_q, kAs3_q, kZs1_q, kZs2_q, kZs3_q, kRs1_q, kRs2_q, kRs3_q, kAo1_q, kAo2_q, kAo3_q, kIf_q, kIte_q, kItr_q, kRet_q, kReR_q, kSw_q, neb_q, gtb_q, geb_q, lnB_s, isI_s, isI_z, gI_s, gI_z, gR_s, gR_z, gA_s, isA_s, bdo_s, rHd_c, isHd_c, noL_z, noL_1, noL_s, nl_I, nl_R, nl_U, stI, stR, bd_t, oA, oS, oM, oD, oR, tn_add, tn_mul, tn_nat, eqb_t, eqb_f, ltb_t, ltb_f, leb_t, leb_f, nob_s, nob_n, nat_eq, nat_lt, nat_le, cK_19 C, cK_20 C, cR_19_0 C, s1, s3, esl, hr, a1, ka, c', c]
      exact knew _ _ _ ⟨⟨_, rfl⟩, hn⟩
    | some b =>
      have hs := hs b hr
      simp (disch := omega) [t_X2_keep, -Int.not_le, -Int.not_lt, ↓e_ci_p, ↓r_null_p, ↓a_nil_p, ↓s_skip_p, ↓s_inc_p, ↓s_brk_p, ↓s_ret_p, ↓lvI_s, ↓lvI_z, ↓lvL_s, ↓lvL_z, ↓lvR_s, ↓lvR_z, ↓e_lv_q, ↓l_lv_q, ↓r_lv_q, ↓kFld_q, ↓e_fld_q, ↓kFlR_q, ↓r_fld_q, ↓kAl1_q, ↓kAl2_q, ↓e_ald_q, ↓z_ald_q, ↓kAr1_q, ↓kAr2_q, ↓r_ald_q, ↓kLen_q, ↓e_len_q, ↓kO1_q, ↓kO2_q, ↓kD1_q, ↓kD2_q, ↓e_op_q, ↓e_dv_q, ↓l_op_q, ↓l_dv_q, ↓l_sh_q, ↓e_lcmp_q, ↓e_min_q, ↓kL2i_q, ↓e_l2i_q, ↓kB1_q, ↓kB2_q, ↓c_eq_q, ↓c_ne_q, ↓c_lt_q, ↓c_ge_q, ↓c_gt_q, ↓c_le_q, ↓kCb_q, ↓kCb_0, ↓kCb_1, ↓c_b_q, ↓kNot_q, ↓c_not_q, ↓kAnd_q, ↓c_and_q, ↓kOr_q, ↓c_or_q, ↓kNul_q, ↓c_null_q, ↓kCond_q, ↓e_cond_q, ↓kTern_q, ↓x_tern_q, ↓kA2_q, ↓kAI_q, ↓kAL_q, ↓kAR_q, ↓a_I_q, ↓a_L_q, ↓a_R_q, ↓kCall_q, ↓kCalS_q, ↓kRI_q, ↓kRR_q, ↓kRU_q, ↓kRP_q, ↓e_callV_q, ↓r_callV_q, ↓e_callS_q, ↓s_callV_q, ↓s_popV_q, ↓s_seq_q, ↓kSt_q, ↓s_st_q, ↓kStL_q, ↓s_stL_q, ↓kStR_q, ↓s_stR_q, ↓kPut1_q, ↓kPut2_q, ↓s_put_q, ↓kPz1_q, ↓kPz2_q, ↓s_putZ_q, ↓kPr1_q, ↓kPr2_q, ↓s_putR_q, ↓kPo1_q, ↓kPo2_q, ↓s_putop_q, ↓kAs1_q, ↓kAs2_q, ↓kAs3_q, ↓s_ast_q, ↓kZs1_q, ↓kZs2_q, ↓kZs3_q, ↓s_zast_q, ↓kRs1_q, ↓kRs2_q, ↓kRs3_q, ↓s_rast_q, ↓kAo1_q, ↓kAo2_q, ↓kAo3_q, ↓s_astop_q, ↓kIf_q, ↓s_if_q, ↓kIte_q, ↓s_ite_q, ↓kItr_q, ↓s_itr_q, ↓kRet_q, ↓s_retI_q, ↓kReR_q, ↓s_retR_q, ↓kSw_q, ↓s_sw_q, lvI_s, lvI_z, lvL_s, lvL_z, lvR_s, lvR_z, kFld_q, kFlR_q, kAl1_q, kAl2_q, kAr1_q, kAr2_q, kLen_q, kO1_q, kO2_q, kD1_q, kD2_q, kL2i_q, kB1_q, kB2_q, kCb_q, kCb_0, kCb_1, kNot_q, kAnd_q, kOr_q, kNul_q, kCond_q, kTern_q, kA2_q, kAI_q, kAL_q, kAR_q, kCall_q, kCalS_q, kRI_q, kRR_q, kRU_q, kRP_q, kSt_q, kStL_q, kStR_q, kPut1_q, kPut2_q, kPz1_q, kPz2_q, kPr1_q, kPr2_q, kPo1_q, kPo2_q, kAs1_q, kAs2_q, kAs3_q, kZs1_q, kZs2_q, kZs3_q, kRs1_q, kRs2_q, kRs3_q, kAo1_q, kAo2_q, kAo3_q, kIf_q, kIte_q, kItr_q, kRet_q, kReR_q, kSw_q, neb_q, gtb_q, geb_q, lnB_s, isI_s, isI_z, gI_s, gI_z, gR_s, gR_z, gA_s, isA_s, bdo_s, rHd_c, isHd_c, noL_z, noL_1, noL_s, nl_I, nl_R, nl_U, stI, stR, bd_t, oA, oS, oM, oD, oR, tn_add, tn_mul, tn_nat, eqb_t, eqb_f, ltb_t, ltb_f, leb_t, leb_f, nob_s, nob_n, nat_eq, nat_lt, nat_le, cK_19 C, cK_20 C, cR_19_0 C, s1, s3, esl, hr, a1, ka, c', c]
      exact hs
  · have c' : ¬ (kp : Int) < 20 := by omega
    rw [KP, if_neg c] at hs hn
    cases hr : R 20 t with
    | none =>
      have hn := hn hr
      simp (disch := omega) [t_X2_keep, -Int.not_le, -Int.not_lt, ↓e_ci_p, ↓r_null_p, ↓a_nil_p, ↓s_skip_p, ↓s_inc_p, ↓s_brk_p, ↓s_ret_p, ↓lvI_s, ↓lvI_z, ↓lvL_s, ↓lvL_z, ↓lvR_s, ↓lvR_z, ↓e_lv_q, ↓l_lv_q, ↓r_lv_q, ↓kFld_q, ↓e_fld_q, ↓kFlR_q, ↓r_fld_q, ↓kAl1_q, ↓kAl2_q, ↓e_ald_q, ↓z_ald_q, ↓kAr1_q, ↓kAr2_q, ↓r_ald_q, ↓kLen_q, ↓e_len_q, ↓kO1_q, ↓kO2_q, ↓kD1_q, ↓kD2_q, ↓e_op_q, ↓e_dv_q, ↓l_op_q, ↓l_dv_q, ↓l_sh_q, ↓e_lcmp_q, ↓e_min_q, ↓kL2i_q, ↓e_l2i_q, ↓kB1_q, ↓kB2_q, ↓c_eq_q, ↓c_ne_q, ↓c_lt_q, ↓c_ge_q, ↓c_gt_q, ↓c_le_q, ↓kCb_q, ↓kCb_0, ↓kCb_1, ↓c_b_q, ↓kNot_q, ↓c_not_q, ↓kAnd_q, ↓c_and_q, ↓kOr_q, ↓c_or_q, ↓kNul_q, ↓c_null_q, ↓kCond_q, ↓e_cond_q, ↓kTern_q, ↓x_tern_q, ↓kA2_q, ↓kAI_q, ↓kAL_q, ↓kAR_q, ↓a_I_q, ↓a_L_q, ↓a_R_q, ↓kCall_q, ↓kCalS_q, ↓kRI_q, ↓kRR_q, ↓kRU_q, ↓kRP_q, ↓e_callV_q, ↓r_callV_q, ↓e_callS_q, ↓s_callV_q, ↓s_popV_q, ↓s_seq_q, ↓kSt_q, ↓s_st_q, ↓kStL_q, ↓s_stL_q, ↓kStR_q, ↓s_stR_q, ↓kPut1_q, ↓kPut2_q, ↓s_put_q, ↓kPz1_q, ↓kPz2_q, ↓s_putZ_q, ↓kPr1_q, ↓kPr2_q, ↓s_putR_q, ↓kPo1_q, ↓kPo2_q, ↓s_putop_q, ↓kAs1_q, ↓kAs2_q, ↓kAs3_q, ↓s_ast_q, ↓kZs1_q, ↓kZs2_q, ↓kZs3_q, ↓s_zast_q, ↓kRs1_q, ↓kRs2_q, ↓kRs3_q, ↓s_rast_q, ↓kAo1_q, ↓kAo2_q, ↓kAo3_q, ↓s_astop_q, ↓kIf_q, ↓s_if_q, ↓kIte_q, ↓s_ite_q, ↓kItr_q, ↓s_itr_q, ↓kRet_q, ↓s_retI_q, ↓kReR_q, ↓s_retR_q, ↓kSw_q, ↓s_sw_q, lvI_s, lvI_z, lvL_s, lvL_z, lvR_s, lvR_z, kFld_q, kFlR_q, kAl1_q, kAl2_q, kAr1_q, kAr2_q, kLen_q, kO1_q, kO2_q, kD1_q, kD2_q, kL2i_q, kB1_q, kB2_q, kCb_q, kCb_0, kCb_1, kNot_q, kAnd_q, kOr_q, kNul_q, kCond_q, kTern_q, kA2_q, kAI_q, kAL_q, kAR_q, kCall_q, kCalS_q, kRI_q, kRR_q, kRU_q, kRP_q, kSt_q, kStL_q, kStR_q, kPut1_q, kPut2_q, kPz1_q, kPz2_q, kPr1_q, kPr2_q, kPo1_q, kPo2_q, kAs1_q, kAs2_q, kAs3_q, kZs1_q, kZs2_q, kZs3_q, kRs1_q, kRs2_q, kRs3_q, kAo1_q, kAo2_q, kAo3_q, kIf_q, kIte_q, kItr_q, kRet_q, kReR_q, kSw_q, neb_q, gtb_q, geb_q, lnB_s, isI_s, isI_z, gI_s, gI_z, gR_s, gR_z, gA_s, isA_s, bdo_s, rHd_c, isHd_c, noL_z, noL_1, noL_s, nl_I, nl_R, nl_U, stI, stR, bd_t, oA, oS, oM, oD, oR, tn_add, tn_mul, tn_nat, eqb_t, eqb_f, ltb_t, ltb_f, leb_t, leb_f, nob_s, nob_n, nat_eq, nat_lt, nat_le, cK_19 C, cK_20 C, cR_19_0 C, s1, s3, esl, hr, a1, ka, c', c]
      exact knew _ _ _ ⟨⟨_, rfl⟩, hn⟩
    | some b =>
      have hs := hs b hr
      simp (disch := omega) [t_X2_keep, -Int.not_le, -Int.not_lt, ↓e_ci_p, ↓r_null_p, ↓a_nil_p, ↓s_skip_p, ↓s_inc_p, ↓s_brk_p, ↓s_ret_p, ↓lvI_s, ↓lvI_z, ↓lvL_s, ↓lvL_z, ↓lvR_s, ↓lvR_z, ↓e_lv_q, ↓l_lv_q, ↓r_lv_q, ↓kFld_q, ↓e_fld_q, ↓kFlR_q, ↓r_fld_q, ↓kAl1_q, ↓kAl2_q, ↓e_ald_q, ↓z_ald_q, ↓kAr1_q, ↓kAr2_q, ↓r_ald_q, ↓kLen_q, ↓e_len_q, ↓kO1_q, ↓kO2_q, ↓kD1_q, ↓kD2_q, ↓e_op_q, ↓e_dv_q, ↓l_op_q, ↓l_dv_q, ↓l_sh_q, ↓e_lcmp_q, ↓e_min_q, ↓kL2i_q, ↓e_l2i_q, ↓kB1_q, ↓kB2_q, ↓c_eq_q, ↓c_ne_q, ↓c_lt_q, ↓c_ge_q, ↓c_gt_q, ↓c_le_q, ↓kCb_q, ↓kCb_0, ↓kCb_1, ↓c_b_q, ↓kNot_q, ↓c_not_q, ↓kAnd_q, ↓c_and_q, ↓kOr_q, ↓c_or_q, ↓kNul_q, ↓c_null_q, ↓kCond_q, ↓e_cond_q, ↓kTern_q, ↓x_tern_q, ↓kA2_q, ↓kAI_q, ↓kAL_q, ↓kAR_q, ↓a_I_q, ↓a_L_q, ↓a_R_q, ↓kCall_q, ↓kCalS_q, ↓kRI_q, ↓kRR_q, ↓kRU_q, ↓kRP_q, ↓e_callV_q, ↓r_callV_q, ↓e_callS_q, ↓s_callV_q, ↓s_popV_q, ↓s_seq_q, ↓kSt_q, ↓s_st_q, ↓kStL_q, ↓s_stL_q, ↓kStR_q, ↓s_stR_q, ↓kPut1_q, ↓kPut2_q, ↓s_put_q, ↓kPz1_q, ↓kPz2_q, ↓s_putZ_q, ↓kPr1_q, ↓kPr2_q, ↓s_putR_q, ↓kPo1_q, ↓kPo2_q, ↓s_putop_q, ↓kAs1_q, ↓kAs2_q, ↓kAs3_q, ↓s_ast_q, ↓kZs1_q, ↓kZs2_q, ↓kZs3_q, ↓s_zast_q, ↓kRs1_q, ↓kRs2_q, ↓kRs3_q, ↓s_rast_q, ↓kAo1_q, ↓kAo2_q, ↓kAo3_q, ↓s_astop_q, ↓kIf_q, ↓s_if_q, ↓kIte_q, ↓s_ite_q, ↓kItr_q, ↓s_itr_q, ↓kRet_q, ↓s_retI_q, ↓kReR_q, ↓s_retR_q, ↓kSw_q, ↓s_sw_q, lvI_s, lvI_z, lvL_s, lvL_z, lvR_s, lvR_z, kFld_q, kFlR_q, kAl1_q, kAl2_q, kAr1_q, kAr2_q, kLen_q, kO1_q, kO2_q, kD1_q, kD2_q, kL2i_q, kB1_q, kB2_q, kCb_q, kCb_0, kCb_1, kNot_q, kAnd_q, kOr_q, kNul_q, kCond_q, kTern_q, kA2_q, kAI_q, kAL_q, kAR_q, kCall_q, kCalS_q, kRI_q, kRR_q, kRU_q, kRP_q, kSt_q, kStL_q, kStR_q, kPut1_q, kPut2_q, kPz1_q, kPz2_q, kPr1_q, kPr2_q, kPo1_q, kPo2_q, kAs1_q, kAs2_q, kAs3_q, kZs1_q, kZs2_q, kZs3_q, kRs1_q, kRs2_q, kRs3_q, kAo1_q, kAo2_q, kAo3_q, kIf_q, kIte_q, kItr_q, kRet_q, kReR_q, kSw_q, neb_q, gtb_q, geb_q, lnB_s, isI_s, isI_z, gI_s, gI_z, gR_s, gR_z, gA_s, isA_s, bdo_s, rHd_c, isHd_c, noL_z, noL_1, noL_s, nl_I, nl_R, nl_U, stI, stR, bd_t, oA, oS, oM, oD, oR, tn_add, tn_mul, tn_nat, eqb_t, eqb_f, ltb_t, ltb_f, leb_t, leb_f, nob_s, nob_n, nat_eq, nat_lt, nat_le, cK_19 C, cK_20 C, cR_19_0 C, s1, s3, esl, hr, a1, ka, c', c]
      exact hs
set_option maxHeartbeats 4000000 in
/-- a change is kept -/
theorem X8_keep_ok (C : isCls kd R) (hP : PGS kd R na aa) (hS : PST I R f kp H) (hG : RC I aa G) (hw : WG G) (hk : ∀ kd' J R' aa' f', xt kd R kd' R' → PGS kd' R' na aa' → (∀ x, x ≠ 19 → x < kd.length → J x = I x) → PST J R' f' (nKept kp) (nH kp H G) → K vU (kd', J, R')) : B_X8_keepChange [vR (some 0)] (kd, I, R) K := by
  obtain ⟨⟨p1, p2⟩, ⟨p3, p4, p5, p6, p7⟩, p8, p9⟩ := hP
  obtain ⟨⟨s1, s2, s3, s4⟩, s5⟩ := hS
  have hl := cls_len C
  have hpg5 := p5
  have hpg6 := p6
  unfold pgA at hpg5 hpg6
  have la := isProg_lt p4
  have ln := isProg_lt p3
  have ka := pK0 p4
  -- the slot
  generalize hsl : (f + kp) % 20 = t at *
  have ht : t < 20 := by omega
  have esl : (((f : Int) + (kp : Int)) % 20) = (t : Int) := by omega
  -- behind the write
  have hR1 : ∀ j, j < 20 → j ≠ t → upR R 20 t (some aa) 20 j = R 20 j := fun j _ hj => by simp [upR, hj]
  have hRt : upR R 20 t (some aa) 20 t = some aa := by simp [upR]
  -- what is kept then
  have hkeep : ∀ (J : Nat → Nat → Int) (R' : Nat → Nat → Option Nat) (f' : Nat), (∀ j, j < 20 → R' 20 j = upR R 20 t (some aa) 20 j) → (∀ x, x ≠ 19 → x < kd.length → J x = I x) → J 19 1 = (f' : Int) → J 19 2 = ((nKept kp : Nat) : Int) → (f' = if kp = 20 then (f + 1) % 20 else f) → PST J R' f' (nKept kp) (nH kp H G) := by
    intro J R' f' hR' hJ j1 j2 hf'
    have hn : nKept kp ≤ 20 := by unfold nKept; split <;> omega
    refine ⟨⟨j1, by split at hf' <;> omega, j2, hn⟩, fun j hj => ?_⟩
    by_cases cl : j + 1 < nKept kp
    · have hjk : (if kp = 20 then j + 1 else j) < kp := by
        unfold nKept at cl
        split <;> rename_i h
        · rw [if_pos h] at cl; omega
        · rw [if_neg h] at cl; omega
      obtain ⟨b, b1, b2, b3⟩ := s5 (if kp = 20 then j + 1 else j) hjk
      have epos : (f' + j) % 20 = (f + (if kp = 20 then j + 1 else j)) % 20 := by
        rw [hf']; split <;> omega
      have hne : (f' + j) % 20 ≠ t := by
        rw [epos, ← hsl]
        intro h
        have := mod_at (f := f) s2 (j := if kp = 20 then j + 1 else j) (k := kp % 20) (by omega) (by omega) (by omega)
        split at this <;> omega
      have hb := p8 _ b (by omega) b1
      have hbl := isProg_lt hb.1
      have hpgb := hb.2.1
      unfold pgA at hpgb
      have eH : nH kp H G (j + 1) = H ((if kp = 20 then j + 1 else j) + 1) := by
        unfold nH; rw [if_pos cl]; congr 1; split <;> omega
      refine ⟨b, ?_, ?_, ?_⟩
      · rw [hR' _ (by omega), hR1 _ (by omega) hne, epos]; exact b1
      · rw [eH]; exact RC_fr b2 (fun i hi => hJ _ (by omega) (by omega))
      · rw [eH]; exact b3
    · have ej : j + 1 = nKept kp := by omega
      have epos : (f' + j) % 20 = t := by
        rw [hf', ← hsl]; unfold nKept at ej; split <;> rename_i h
        · rw [if_pos h] at ej; omega
        · rw [if_neg h] at ej; omega
      have eH : nH kp H G (j + 1) = G := by unfold nH; rw [if_neg cl]
      refine ⟨aa, ?_, ?_, ?_⟩
      · rw [hR' _ (by omega), epos]; exact hRt
      · rw [eH]; exact RC_fr hG (fun i hi => hJ _ (by omega) (by omega))
      · rw [eH]; exact hw
  -- the programs' places, with the next one ahead
  have hplace : ∀ (kd' : List (Nat × Nat)) (R' : Nat → Nat → Option Nat) (x : Nat), xt kd R kd' R' → R' 0 0 = some na → R' 0 1 = some x → (∀ j, j < 20 → R' 20 j = upR R 20 t (some aa) 20 j) → isProg kd' R' x → pgA x → sep x na → sep x aa → (∀ j b, j < 20 → j ≠ t → R 20 j = some b → sep b x) → PGS kd' R' na x := by
    intro kd' R' x hx r0 r1 hR' hpx hgx hsn hsa hsj
    refine ⟨⟨r0, r1⟩, ⟨xt_prog p3 p5 hx, hpx, p5, hgx, by unfold sep at hsn ⊢; omega⟩, fun j b hj hb => ?_, fun i j b c hi hj hij hb hc => ?_⟩
    · rw [hR' j hj] at hb
      by_cases cj : j = t
      · subst cj
        rw [hRt] at hb
        cases hb
        exact ⟨xt_prog p4 p6 hx, p6, by unfold sep at p7 ⊢; omega, by unfold sep at hsa ⊢; omega⟩
      · rw [hR1 j hj cj] at hb
        obtain ⟨b1, b2, b3, b4⟩ := p8 j b hj hb
        exact ⟨xt_prog b1 b2 hx, b2, b3, hsj j b hj cj hb⟩
    · rw [hR' i hi] at hb
      rw [hR' j hj] at hc
      by_cases ci : i = t
      · subst ci
        rw [hRt] at hb
        cases hb
        rw [hR1 j hj (by omega)] at hc
        have := (p8 j c hj hc).2.2.2
        unfold sep at this ⊢; omega
      · rw [hR1 i hi ci] at hb
        by_cases cj : j = t
        · subst cj
          rw [hRt] at hc
          cases hc
          exact (p8 i b hi hb).2.2.2
        · rw [hR1 j hj cj] at hc
          exact p9 i j b c hi hj hij hb hc
  have c0 := cK_0 C
  obtain ⟨f', j1, j2, hf'⟩ : ∃ (f' : Nat), KP I f kp 19 1 = (f' : Int) ∧ KP I f kp 19 2 = ((nKept kp : Nat) : Int) ∧ (f' = if kp = 20 then (f + 1) % 20 else f) := by
    by_cases c : kp < 20
    · rw [KP, if_pos c]
      refine ⟨f, by simp [upI]; exact s1, by simp [upI, nKept]; rw [if_neg (by omega)]; omega, by rw [if_neg (by omega)]⟩
    · rw [KP, if_neg c]
      refine ⟨(f + 1) % 20, by simp [upI], by simp [upI, nKept]; rw [if_pos (by omega)]; omega, by rw [if_pos (by omega)]⟩
  have jx : ∀ x, x ≠ 19 → KP I f kp x = I x := fun x hx => by unfold KP; split <;> exact upI_row hx
  have hxt1 : xt kd R kd (upR R 20 t (some aa)) := xt_up (Or.inl rfl)
  have main := fun (K : AV → XS → Prop) hs hn => X2_keep_ok (K := K) C s1 s3 s4 s2 hsl ka hs hn
  generalize KP I f kp = J at *
  refine ⟨Nat.le_refl 1, ?_⟩
  show t_X8_keepChange _ _ _ [vR (some 0)] _
  unfold t_X8_keepChange
  rw [s_seq_p, s_putR_p]
  refine ⟨some 0, rfl, ?_⟩
  dsimp only
  rw [r_callV_p]
  refine ⟨some 0, rfl, 0, rfl, c0, ?_⟩
  show r_fld (r_lv 0) 8 1 _ _ _
  refine ⟨some 0, rfl, 0, rfl, c0, ?_⟩
  show _ ∧ _ ∧ _
  dsimp only
  rw [cR_0_2 C, p2]
  refine ⟨⟨_, _, rfl⟩, ⟨19, rfl, cK_19 C⟩, main _ (fun b hb => ?_) (fun hn => ?_)⟩
  · refine ⟨⟨_, rfl⟩, ⟨0, rfl, c0⟩, rfl, ?_⟩
    have hb' := p8 t b ht hb
    have hx : xt kd R kd (upR (upR R 20 t (some aa)) 0 1 (some b)) := xt_trans hxt1 (xt_up (Or.inr ⟨rfl, Or.inr rfl⟩))
    have hR' : ∀ j, j < 20 → upR (upR R 20 t (some aa)) 0 1 (some b) 20 j = upR R 20 t (some aa) 20 j := fun j _ => by simp [upR]
    refine hk kd J (upR (upR R 20 t (some aa)) 0 1 (some b)) b f' hx ?_ (fun x hx _ => jx x hx) (hkeep J _ f' hR' (fun x hx _ => jx x hx) j1 j2 hf')
    refine hplace kd (upR (upR R 20 t (some aa)) 0 1 (some b)) b hx (by simp [upR]; exact p1) (by simp [upR]) hR' (xt_prog hb'.1 hb'.2.1 hx) hb'.2.1 hb'.2.2.1 hb'.2.2.2 (fun j c hj hjt hc => p9 j t c b hj ht hjt hc hb)
  · have hkd : (prS (kd, J, upR R 20 t (some aa))).1 = kd ++ prK := prS_k
    have hx0 : xt kd R (kd ++ prK) (prS (kd, J, upR R 20 t (some aa))).2.2 := by
      refine ⟨fun a p hp => ?_, fun a k h1 h2 h3 => ?_⟩
      · obtain ⟨h1, _⟩ := List.getElem?_eq_some_iff.1 hp
        rw [List.getElem?_append_left h1]; exact hp
      · rw [prS_R (by omega) (Or.inl h1)]; exact hxt1.2 a k h1 h2 h3
    have hJI : ∀ x, x < kd.length → (prS (kd, J, upR R 20 t (some aa))).2.1 x = J x := fun x hx => by
      funext j; rw [prS_I, if_neg (by omega)]
    have hpr := prS_prog (kd := kd) (I := J) (R := upR R 20 t (some aa))
    generalize hst : prS (kd, J, upR R 20 t (some aa)) = st at *
    obtain ⟨kd', J', R'⟩ := st
    simp only at hkd hx0 hJI hpr
    subst hkd
    refine ⟨⟨_, rfl⟩, ⟨0, rfl, hx0.1 0 _ c0⟩, rfl, ?_⟩
    have hx : xt kd R (kd ++ prK) (upR R' 0 1 (some kd.length)) := xt_trans hx0 (xt_up (Or.inr ⟨rfl, Or.inr rfl⟩))
    have hRj : ∀ a k, a < kd.length → R' a k = upR R 20 t (some aa) a k := fun a k ha => by
      have := prS_R (kd := kd) (I := J) (R := upR R 20 t (some aa)) (b := a) (j := k) (by omega) (Or.inl ha)
      rw [hst] at this; exact this
    have hR' : ∀ j, j < 20 → upR R' 0 1 (some kd.length) 20 j = upR R 20 t (some aa) 20 j := fun j _ => by
      rw [show upR R' 0 1 (some kd.length) 20 j = R' 20 j by simp [upR]]; exact hRj 20 j (by omega)
    refine hk _ J' (upR R' 0 1 (some kd.length)) kd.length f' hx ?_ (fun x hx hxl => by rw [hJI x hxl]; exact jx x hx) (hkeep J' _ f' hR' (fun x hx hxl => by rw [hJI x hxl]; exact jx x hx) (by rw [hJI 19 (by omega)]; exact j1) (by rw [hJI 19 (by omega)]; exact j2) hf')
    refine hplace _ (upR R' 0 1 (some kd.length)) kd.length hx (by rw [show upR R' 0 1 (some kd.length) 0 0 = R' 0 0 by simp [upR], hRj 0 0 (by omega)]; simp [upR]; exact p1) (by simp [upR]) hR' (xt_prog hpr (by unfold pgA; omega) (xt_up (Or.inr ⟨rfl, Or.inr rfl⟩))) (by unfold pgA; omega) (by unfold sep; omega) (by unfold sep; omega) (fun j b hj _ hb => by
      have := isProg_lt (p8 j b hj hb).1
      unfold sep; omega)
end PA
