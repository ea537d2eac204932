/-! class and reference side by side -/
def SCL (I : Nat → Nat → Int) : Prop := I 0 10 = I 63 18 ∧ I 0 11 = I 63 19 ∧ I 0 12 = I 63 20 ∧ I 0 13 = I 63 21 ∧ ∀ s, s < 4 → I 62 s = I 79 s
def TAP (I : Nat → Nat → Int) : Prop := ∃ sz : Nat, I 63 16 = (sz : Int) ∧ sz ≤ 120 ∧ I 21 1 = (sz : Int) ∧ ∀ j, j < sz → I 22 j = I 78 j
def REL (kd : List (Nat × Nat)) (I : Nat → Nat → Int) (R : Nat → Nat → Option Nat) : Prop := ∃ (na aa f kp : Nat) (H : Nat → Nat → Nat → Int), (isMod kd R ∧ isCls kd R ∧ RH I kp ∧ ORD I ∧ isWds (I 82)) ∧ (PGS kd R na aa ∧ PST I R f kp H ∧ RC I na I) ∧ (∀ s, 1 ≤ s → s ≤ kp → SG I s (H s)) ∧ SCL I ∧ TAP I
def RELs (st : XS) : Prop := REL st.1 st.2.1 st.2.2
theorem RC_agr {I G G' : Nat → Nat → Int} {a : Nat} (h : RC I a G) (hw : WF G) (hg : agr G G') : RC I a G' := by
  obtain ⟨⟨c1, c2, c3, c4⟩, c5, c6, c7, c8, c9, c10, c11, c12, c13⟩ := h
  obtain ⟨⟨hp0, hr0, hf0, hn0⟩, w1, w2, w3, w4, w5, w6, w7⟩ := hw
  have e64 : G' 64 0 = G 64 0 := hg 64 0 (by decide)
  have e65 : G' 65 0 = G 65 0 := hg 65 0 (by decide)
  have e66 : G' 66 0 = G 66 0 := hg 66 0 (by decide)
  have e67 : G' 67 0 = G 67 0 := hg 67 0 (by decide)
  have e68 : ∀ k, k < 20 → G' 68 k = G 68 k := fun k hk => hg 68 k (by simpa [wd] using hk)
  have e69 : ∀ k, k < 20 → G' 69 k = G 69 k := fun k hk => hg 69 k (by simpa [wd] using hk)
  have e70 : ∀ k, k < 200 → G' 70 k = G 70 k := fun k hk => hg 70 k (by simpa [wd] using hk)
  have e71 : ∀ k, k < 200 → G' 71 k = G 71 k := fun k hk => hg 71 k (by simpa [wd] using hk)
  have e72 : ∀ k, k < 10 → G' 72 k = G 72 k := fun k hk => hg 72 k (by simpa [wd] using hk)
  have e73 : ∀ k, k < 8 → G' 73 k = G 73 k := fun k hk => hg 73 k (by simpa [wd] using hk)
  have e74 : ∀ k, k < 8 → G' 74 k = G 74 k := fun k hk => hg 74 k (by simpa [wd] using hk)
  have e75 : ∀ k, k < 48 → G' 75 k = G 75 k := fun k hk => hg 75 k (by simpa [wd] using hk)
  have e76 : ∀ k, k < 100 → G' 76 k = G 76 k := fun k hk => hg 76 k (by simpa [wd] using hk)
  have e77 : ∀ k, k < 20 → G' 77 k = G 77 k := fun k hk => hg 77 k (by simpa [wd] using hk)
  unfold RC
  rw [e64, e65, e66, e67]
  refine ⟨⟨c1, c2, c3, c4⟩, fun r hr => by rw [e68 r (by omega)]; exact c5 r hr, fun r hr => by rw [e72 r (by omega)]; exact c6 r hr, fun r hr => by rw [e73 r (by omega)]; exact c7 r hr, fun r hr => by rw [e69 r hr]; exact c8 r hr, fun r i hr hi => ?_, fun r hr => ?_, fun n hn => by rw [e74 n hn]; exact c11 n hn, fun n i hn hi => ?_, fun k hk => by rw [e76 k hk]; exact c13 k hk⟩
  · rw [e69 r (by omega)] at hi
    have := (w1 r hr).2.1
    rw [e70 _ (by omega), e71 _ (by omega)]; exact c9 r i hr hi
  · rw [e77 r (by omega), e71 _ (by omega)]; exact c10 r hr
  · rw [e74 n (by omega)] at hi
    have := (w4 n hn).2
    rw [e75 _ (by omega)]; exact c12 n i hn hi
theorem ORD_fr {I J : Nat → Nat → Int} (h : ORD I) (hJ : ∀ x, 47 ≤ x → x ≤ 53 → J x = I x) : ORD J := by
  unfold ORD LZ ORR at h ⊢
  rw [hJ 47 (by omega) (by omega), hJ 48 (by omega) (by omega), hJ 49 (by omega) (by omega), hJ 50 (by omega) (by omega), hJ 51 (by omega) (by omega), hJ 52 (by omega) (by omega), hJ 53 (by omega) (by omega)]
  exact h
theorem SG_fr {I J G : Nat → Nat → Int} {s : Nat} (h : SG I s G) (hJ : ∀ x, 64 ≤ x → x ≤ 77 → J x = I x) : SG J s G := by
  intro x k hk
  have : 64 ≤ x ∧ x ≤ 77 := by
    by_cases c : slR x
    · exact c
    · have := wd_0 (x := x) c
      omega
  rw [hJ x this.1 this.2]; exact h x k hk
theorem agr_fr {I J : Nat → Nat → Int} (hJ : ∀ x, 64 ≤ x → x ≤ 77 → J x = I x) : agr I J := by
  intro x k hk
  have : 64 ≤ x ∧ x ≤ 77 := by
    by_cases c : slR x
    · exact c
    · have := wd_0 (x := x) c
      omega
  rw [hJ x this.1 this.2]
section RL
variable {kd : List (Nat × Nat)} {R : Nat → Nat → Option Nat} {I J J2 G : Nat → Nat → Int} {K : AV → XS → Prop} {na aa f kp : Nat} {H : Nat → Nat → Nat → Int}
theorem PST_fr2 (hP : PGS kd R na aa) (hS : PST I R f kp H) (hJ : ∀ x, x < 19 ∨ x = 19 ∨ 98 ≤ x → x ≠ 0 → J x = I x) : PST J R f kp H := by
  obtain ⟨⟨s1, s2, s3, s4⟩, s5⟩ := hS
  have e := hJ 19 (by omega) (by omega)
  refine ⟨⟨by rw [e]; exact s1, s2, by rw [e]; exact s3, s4⟩, fun j hj => ?_⟩
  obtain ⟨b, b1, b2, b3⟩ := s5 j hj
  have hb := (hP.2.2.1 _ b (by omega) b1).2.1
  unfold pgA at hb
  exact ⟨b, b1, RC_fr b2 (fun i hi => hJ _ (by omega) (by omega)), b3⟩
/-- the relation out of its pieces -/
theorem REL_mk (F : isMod kd R) (C : isCls kd R) (hx : ∀ x, x < 63 ∨ 98 ≤ x → J2 x = J x) (hP : PGS kd R na aa) (hS : PST J R f kp H) (hC : RC J na G) (hw : WG G) (hO : ORD J) (ha : agr G J2) (hsl : ∀ s, 1 ≤ s → s ≤ kp → SG J2 s (H s)) (h77 : Z77 J2) (hpr : Pr J2) (hz : ∀ k, 100 ≤ k → (J2 86 k = 0 ∧ J2 87 k = 0) ∧ J2 93 k = 0) (h14 : J2 63 14 = (kp : Int)) (h19 : J2 63 19 = 0 ∨ J2 63 19 = 1) (hwd : isWds (J2 82)) (hsc : SCL J2) (htp : TAP J2) : REL kd J2 R := by
  have hw2 := WG_agr hw ha
  have hna := hP.2.1.2.2.1
  unfold pgA at hna
  refine ⟨na, aa, f, kp, H, ⟨F, C, ⟨⟨hw2.1, h77, hpr, fun k hk => (hz k hk).1, fun k hk => (hz k hk).2⟩, hw2, h14, hS.1.2.2.2, h19⟩, ORD_fr hO (fun x _ _ => hx x (by omega)), hwd⟩, ⟨hP, PST_fr2 hP hS (fun x h _ => hx x (by omega)), ?_⟩, hsl, hsc, htp⟩
  exact RC_agr (RC_fr hC (fun i hi => hx _ (by omega))) hw.1 ha
/-- what a question leaves of the class -/
def QT (I J : Nat → Nat → Int) : Prop := (∀ x, ¬ (23 ≤ x ∧ x ≤ 61) → J x = I x) ∧ ORD J
theorem QT_rel (h : REL kd I R) (hq : QT I J) : REL kd J R := by
  obtain ⟨na, aa, f, kp, H, ⟨F, C, hH, hO, hwd⟩, ⟨hP, hS, hC⟩, hsl, hsc, htp⟩ := h
  obtain ⟨q1, q2⟩ := hq
  have hna := hP.2.1.2.2.1
  unfold pgA at hna
  have r := fun x h => q1 x h
  obtain ⟨hr, hw, h14, hkl, h19⟩ := hH
  have hag : agr I J := agr_fr (fun x h1 h2 => q1 x (by omega))
  refine REL_mk (J := J) (G := I) F C (fun x _ => rfl) hP (PST_fr2 hP hS (fun x h _ => q1 x (by omega))) (RC_fr hC (fun i hi => q1 _ (by omega))) hw q2 hag (fun s h1 h2 => SG_fr (hsl s h1 h2) (fun x h1 h2 => q1 x (by omega))) ?_ ?_ ?_ ?_ ?_ ?_ ?_ ?_
  · unfold Z77; rw [q1 77 (by omega)]; exact hr.2.1
  · unfold Pr; rw [q1 79 (by omega)]; exact hr.2.2.1
  · rw [q1 86 (by omega), q1 87 (by omega), q1 93 (by omega)]; exact fun k hk => ⟨hr.2.2.2.1 k hk, hr.2.2.2.2 k hk⟩
  · rw [q1 63 (by omega)]; exact h14
  · rw [q1 63 (by omega)]; exact h19
  · rw [q1 82 (by omega)]; exact hwd
  · unfold SCL; rw [q1 0 (by omega), q1 63 (by omega), q1 62 (by omega), q1 79 (by omega)]; exact hsc
  · unfold TAP; rw [q1 63 (by omega), q1 21 (by omega), q1 22 (by omega), q1 78 (by omega)]; exact htp
theorem same_rel (h : REL kd I R) (hq : sameR I J) : REL kd J R := by
  obtain ⟨na, aa, f, kp, H, ⟨F, C, hH, hO, hwd⟩, ⟨hP, hS, hC⟩, hsl, hsc, htp⟩ := h
  obtain ⟨s1, s2, s3, s4, s5⟩ := hq
  obtain ⟨hr, hw, h14, hkl, h19⟩ := hH
  have hag : agr I J := agr_fr (fun x h1 h2 => s1 x (by omega) (by omega))
  have hcl : ∀ x, x < 63 ∨ 98 ≤ x → J x = I x := fun x hx => by
    rcases hx with hx | hx
    · exact s1 x (by omega) (by omega)
    · exact s2 x hx
  refine REL_mk (J := I) (G := I) F C hcl hP hS hC hw hO hag (fun s h1 h2 => SG_fr (hsl s h1 h2) (fun x h1 h2 => s1 x (by omega) (by omega))) ?_ ?_ s5 ?_ ?_ ?_ ?_ ?_
  · unfold Z77; rw [s1 77 (by omega) (by omega)]; exact hr.2.1
  · unfold Pr; rw [s1 79 (by omega) (by omega)]; exact hr.2.2.1
  · rw [s4 14 (by omega)]; exact h14
  · rw [s4 19 (by omega)]; exact h19
  · rw [s3]; exact hwd
  · unfold SCL; rw [s1 0 (by omega) (by omega), s1 62 (by omega) (by omega), s1 79 (by omega) (by omega), s4 18 (by omega), s4 19 (by omega), s4 20 (by omega), s4 21 (by omega)]; exact hsc
  · unfold TAP; rw [s1 21 (by omega) (by omega), s1 22 (by omega) (by omega), s1 78 (by omega) (by omega), s4 16 (by omega)]; exact htp
/-- a call on both sides -/
def STPs (B8 B9 : XB) (l : List AV) (st : XS) : Prop := ∀ K8 : AV → XS → Prop, (∀ x (st1 : XS), st1.1[63]? = some (12, 0) → (∀ K9 : AV → XS → Prop, (∀ st2, RELs st2 → K9 (vI x) st2) → B9 (vR (some 63) :: l) st1 K9) → K8 (vI x) st1) → B8 (vR (some 0) :: l) st K8
/-- a question that both answer alike -/
theorem stepQ {B8 B9 : XB} {l : List AV} (h : REL kd I R) {ans : Int} (h8 : ∀ K : AV → XS → Prop, (∀ J, QT I J → K (vI ans) (kd, J, R)) → B8 (vR (some 0) :: l) (kd, I, R) K) (h9 : ∀ J, QT I J → REL kd J R → ∀ K : AV → XS → Prop, (∀ J2, sameR J J2 → K (vI ans) (kd, J2, R)) → B9 (vR (some 63) :: l) (kd, J, R) K) : STPs B8 B9 l (kd, I, R) := by
  intro K8 hK8
  refine h8 K8 (fun J hq => hK8 ans (kd, J, R) ?_ (fun K9 hK9 => ?_))
  · obtain ⟨na, aa, f, kp, H, ⟨F, _⟩, _⟩ := h
    exact mK_63 F
  · have hJ := QT_rel h hq
    exact h9 J hq hJ K9 (fun J2 hs => hK9 (kd, J2, R) (same_rel hJ hs))
theorem QT_refl (h : ORD I) : QT I I := ⟨fun _ _ => rfl, h⟩
theorem X8_ties_ok (C : isCls kd R) (hP : PGS kd R na aa) (hC : RC I na I) (hw : WG I) (hp : Pr I) (hsc : SCL I) {n : Nat} (hn : I 64 0 = (n : Int)) (hk : ∀ J, frT 27 I J → TIE J 27 I (I 79) (I 63 18) n → K vU (kd, J, R)) : B_X8_readTies [vR (some 0)] (kd, I, R) K := by
  obtain ⟨s1, s2, s3, s4, s5⟩ := hsc
  obtain ⟨⟨p1, p2⟩, ⟨p3, p4, p5, p6, p7⟩, p8, p9⟩ := hP
  simp [B_X8_readTies, bodyOf, envOf, exA, catV, rkOK]
  simp (disch := omega) [t_X8_readTies, -Int.not_le, -Int.not_lt, ↓e_ci_p, ↓r_null_p, ↓a_nil_p, ↓s_skip_p, ↓s_inc_p, ↓s_brk_p, ↓s_ret_p, ↓lvI_s, ↓lvI_z, ↓lvL_s, ↓lvL_z, ↓lvR_s, ↓lvR_z, ↓e_lv_q, ↓l_lv_q, ↓r_lv_q, ↓kFld_q, ↓e_fld_q, ↓kFlR_q, ↓r_fld_q, ↓kAl1_q, ↓kAl2_q, ↓e_ald_q, ↓z_ald_q, ↓kAr1_q, ↓kAr2_q, ↓r_ald_q, ↓kLen_q, ↓e_len_q, ↓kO1_q, ↓kO2_q, ↓kD1_q, ↓kD2_q, ↓e_op_q, ↓e_dv_q, ↓l_op_q, ↓l_dv_q, ↓l_sh_q, ↓e_lcmp_q, ↓e_min_q, ↓kL2i_q, ↓e_l2i_q, ↓kB1_q, ↓kB2_q, ↓c_eq_q, ↓c_ne_q, ↓c_lt_q, ↓c_ge_q, ↓c_gt_q, ↓c_le_q, ↓kCb_q, ↓kCb_0, ↓kCb_1, ↓c_b_q, ↓kNot_q, ↓c_not_q, ↓kAnd_q, ↓c_and_q, ↓kOr_q, ↓c_or_q, ↓kNul_q, ↓c_null_q, ↓kCond_q, ↓e_cond_q, ↓kTern_q, ↓x_tern_q, ↓kA2_q, ↓kAI_q, ↓kAL_q, ↓kAR_q, ↓a_I_q, ↓a_L_q, ↓a_R_q, ↓kCall_q, ↓kCalS_q, ↓kRI_q, ↓kRR_q, ↓kRU_q, ↓kRP_q, ↓e_callV_q, ↓r_callV_q, ↓e_callS_q, ↓s_callV_q, ↓s_popV_q, ↓s_seq_q, ↓kSt_q, ↓s_st_q, ↓kStL_q, ↓s_stL_q, ↓kStR_q, ↓s_stR_q, ↓kPut1_q, ↓kPut2_q, ↓s_put_q, ↓kPz1_q, ↓kPz2_q, ↓s_putZ_q, ↓kPr1_q, ↓kPr2_q, ↓s_putR_q, ↓kPo1_q, ↓kPo2_q, ↓s_putop_q, ↓kAs1_q, ↓kAs2_q, ↓kAs3_q, ↓s_ast_q, ↓kZs1_q, ↓kZs2_q, ↓kZs3_q, ↓s_zast_q, ↓kRs1_q, ↓kRs2_q, ↓kRs3_q, ↓s_rast_q, ↓kAo1_q, ↓kAo2_q, ↓kAo3_q, ↓s_astop_q, ↓kIf_q, ↓s_if_q, ↓kIte_q, ↓s_ite_q, ↓kItr_q, ↓s_itr_q, ↓kRet_q, ↓s_retI_q, ↓kReR_q, ↓s_retR_q, ↓kSw_q, ↓s_sw_q, lvI_s, lvI_z, lvL_s, lvL_z, lvR_s, lvR_z, kFld_q, kFlR_q, kAl1_q, kAl2_q, kAr1_q, kAr2_q, kLen_q, kO1_q, kO2_q, kD1_q, kD2_q, kL2i_q, kB1_q, kB2_q, kCb_q, kCb_0, kCb_1, kNot_q, kAnd_q, kOr_q, kNul_q, kCond_q, kTern_q, kA2_q, kAI_q, kAL_q, kAR_q, kCall_q, kCalS_q, kRI_q, kRR_q, kRU_q, kRP_q, kSt_q, kStL_q, kStR_q, kPut1_q, kPut2_q, kPz1_q, kPz2_q, kPr1_q, kPr2_q, kPo1_q, kPo2_q, kAs1_q, kAs2_q, kAs3_q, kZs1_q, kZs2_q, kZs3_q, kRs1_q, kRs2_q, kRs3_q, kAo1_q, kAo2_q, kAo3_q, kIf_q, kIte_q, kItr_q, kRet_q, kReR_q, kSw_q, neb_q, gtb_q, geb_q, lnB_s, isI_s, isI_z, gI_s, gI_z, gR_s, gR_z, gA_s, isA_s, bdo_s, rHd_c, isHd_c, noL_z, noL_1, noL_s, nl_I, nl_R, nl_U, stI, stR, bd_t, oA, oS, oM, oD, oR, tn_add, tn_mul, tn_nat, eqb_t, eqb_f, ltb_t, ltb_f, leb_t, leb_f, nob_s, nob_n, nat_eq, nat_lt, nat_le, cK_0 C, cR_0_5 C, cR_0_9 C, cK_27 C, p1, s1]
  refine X6_readFrom_ok (t := 27) (pr := I 79) p3 (isT_27 C) (isW_31 C) hC hw hp (pg_ts p5 (Or.inl rfl)) (cK_62 C) (by omega) s5 hn (fun J fJ hT => ?_)
  simp (disch := omega) [-Int.not_le, -Int.not_lt, ↓e_ci_p, ↓r_null_p, ↓a_nil_p, ↓s_skip_p, ↓s_inc_p, ↓s_brk_p, ↓s_ret_p, ↓lvI_s, ↓lvI_z, ↓lvL_s, ↓lvL_z, ↓lvR_s, ↓lvR_z, ↓e_lv_q, ↓l_lv_q, ↓r_lv_q, ↓kFld_q, ↓e_fld_q, ↓kFlR_q, ↓r_fld_q, ↓kAl1_q, ↓kAl2_q, ↓e_ald_q, ↓z_ald_q, ↓kAr1_q, ↓kAr2_q, ↓r_ald_q, ↓kLen_q, ↓e_len_q, ↓kO1_q, ↓kO2_q, ↓kD1_q, ↓kD2_q, ↓e_op_q, ↓e_dv_q, ↓l_op_q, ↓l_dv_q, ↓l_sh_q, ↓e_lcmp_q, ↓e_min_q, ↓kL2i_q, ↓e_l2i_q, ↓kB1_q, ↓kB2_q, ↓c_eq_q, ↓c_ne_q, ↓c_lt_q, ↓c_ge_q, ↓c_gt_q, ↓c_le_q, ↓kCb_q, ↓kCb_0, ↓kCb_1, ↓c_b_q, ↓kNot_q, ↓c_not_q, ↓kAnd_q, ↓c_and_q, ↓kOr_q, ↓c_or_q, ↓kNul_q, ↓c_null_q, ↓kCond_q, ↓e_cond_q, ↓kTern_q, ↓x_tern_q, ↓kA2_q, ↓kAI_q, ↓kAL_q, ↓kAR_q, ↓a_I_q, ↓a_L_q, ↓a_R_q, ↓kCall_q, ↓kCalS_q, ↓kRI_q, ↓kRR_q, ↓kRU_q, ↓kRP_q, ↓e_callV_q, ↓r_callV_q, ↓e_callS_q, ↓s_callV_q, ↓s_popV_q, ↓s_seq_q, ↓kSt_q, ↓s_st_q, ↓kStL_q, ↓s_stL_q, ↓kStR_q, ↓s_stR_q, ↓kPut1_q, ↓kPut2_q, ↓s_put_q, ↓kPz1_q, ↓kPz2_q, ↓s_putZ_q, ↓kPr1_q, ↓kPr2_q, ↓s_putR_q, ↓kPo1_q, ↓kPo2_q, ↓s_putop_q, ↓kAs1_q, ↓kAs2_q, ↓kAs3_q, ↓s_ast_q, ↓kZs1_q, ↓kZs2_q, ↓kZs3_q, ↓s_zast_q, ↓kRs1_q, ↓kRs2_q, ↓kRs3_q, ↓s_rast_q, ↓kAo1_q, ↓kAo2_q, ↓kAo3_q, ↓s_astop_q, ↓kIf_q, ↓s_if_q, ↓kIte_q, ↓s_ite_q, ↓kItr_q, ↓s_itr_q, ↓kRet_q, ↓s_retI_q, ↓kReR_q, ↓s_retR_q, ↓kSw_q, ↓s_sw_q, lvI_s, lvI_z, lvL_s, lvL_z, lvR_s, lvR_z, kFld_q, kFlR_q, kAl1_q, kAl2_q, kAr1_q, kAr2_q, kLen_q, kO1_q, kO2_q, kD1_q, kD2_q, kL2i_q, kB1_q, kB2_q, kCb_q, kCb_0, kCb_1, kNot_q, kAnd_q, kOr_q, kNul_q, kCond_q, kTern_q, kA2_q, kAI_q, kAL_q, kAR_q, kCall_q, kCalS_q, kRI_q, kRR_q, kRU_q, kRP_q, kSt_q, kStL_q, kStR_q, kPut1_q, kPut2_q, kPz1_q, kPz2_q, kPr1_q, kPr2_q, kPo1_q, kPo2_q, kAs1_q, kAs2_q, kAs3_q, kZs1_q, kZs2_q, kZs3_q, kRs1_q, kRs2_q, kRs3_q, kAo1_q, kAo2_q, kAo3_q, kIf_q, kIte_q, kItr_q, kRet_q, kReR_q, kSw_q, neb_q, gtb_q, geb_q, lnB_s, isI_s, isI_z, gI_s, gI_z, gR_s, gR_z, gA_s, isA_s, bdo_s, rHd_c, isHd_c, noL_z, noL_1, noL_s, nl_I, nl_R, nl_U, stI, stR, bd_t, oA, oS, oM, oD, oR, tn_add, tn_mul, tn_nat, eqb_t, eqb_f, ltb_t, ltb_f, leb_t, leb_f, nob_s, nob_n, nat_eq, nat_lt, nat_le]
  exact hk J fJ hT
theorem frT_QT (hO : ORD I) (h : frT 27 I J) : QT I J := ⟨fun x hx => h.1 x (by omega), ORD_fr hO (fun x _ _ => h.1 x (by omega))⟩
theorem QT_trans (h : QT I J) (h2 : ∀ x, ¬ (23 ≤ x ∧ x ≤ 61) → J2 x = J x) (hO : ORD J2) : QT I J2 := ⟨fun x hx => by rw [h2 x hx]; exact h.1 x hx, hO⟩
/-- the ties as both see them -/
theorem QT_Cn (hw : WG I) (h : QT I J) : Cn J (J 63 18) = Cn I (I 63 18) := by
  rw [h.1 63 (by omega)]
  exact Cn_agr hw.1 hw.2.2.2.2 (agr_fr (fun x h1 h2 => h.1 x (by omega))) _
theorem QT_Cc (hw : WG I) (h : QT I J) : Cc J (J 79) (J 63 18) = Cc I (I 79) (I 63 18) := by
  rw [h.1 63 (by omega), h.1 79 (by omega)]
  exact Cc_agr hw.1 hw.2.2.2.2 (agr_fr (fun x h1 h2 => h.1 x (by omega))) _ _
theorem X8_isPair_eq (C : isCls kd R) (r0 : R 0 0 = some na) (hN : isProg kd R na) (hC : RC I na G) {p q : Int} : B_X8_isPair [vR (some 0), vI p, vI q] (kd, I, R) K = K (vI (if (0 ≤ p ∧ p < G 64 0) ∧ (0 ≤ q ∧ q < G 64 0) ∧ p ≠ q then 1 else 0)) (kd, I, R) := by
  have b1 := fun (p : Int) (K : AV → XS → Prop) => X3_hasPart_eq (K := K) (p := p) hN hC
  simp [B_X8_isPair, bodyOf, envOf, exA, catV, rkOK]
  by_cases c1 : 0 ≤ p ∧ p < G 64 0
  · by_cases c2 : 0 ≤ q ∧ q < G 64 0
    · by_cases c3 : p = q
      · simp (disch := omega) [t_X8_isPair, -Int.not_le, -Int.not_lt, ↓e_ci_p, ↓r_null_p, ↓a_nil_p, ↓s_skip_p, ↓s_inc_p, ↓s_brk_p, ↓s_ret_p, ↓lvI_s, ↓lvI_z, ↓lvL_s, ↓lvL_z, ↓lvR_s, ↓lvR_z, ↓e_lv_q, ↓l_lv_q, ↓r_lv_q, ↓kFld_q, ↓e_fld_q, ↓kFlR_q, ↓r_fld_q, ↓kAl1_q, ↓kAl2_q, ↓e_ald_q, ↓z_ald_q, ↓kAr1_q, ↓kAr2_q, ↓r_ald_q, ↓kLen_q, ↓e_len_q, ↓kO1_q, ↓kO2_q, ↓kD1_q, ↓kD2_q, ↓e_op_q, ↓e_dv_q, ↓l_op_q, ↓l_dv_q, ↓l_sh_q, ↓e_lcmp_q, ↓e_min_q, ↓kL2i_q, ↓e_l2i_q, ↓kB1_q, ↓kB2_q, ↓c_eq_q, ↓c_ne_q, ↓c_lt_q, ↓c_ge_q, ↓c_gt_q, ↓c_le_q, ↓kCb_q, ↓kCb_0, ↓kCb_1, ↓c_b_q, ↓kNot_q, ↓c_not_q, ↓kAnd_q, ↓c_and_q, ↓kOr_q, ↓c_or_q, ↓kNul_q, ↓c_null_q, ↓kCond_q, ↓e_cond_q, ↓kTern_q, ↓x_tern_q, ↓kA2_q, ↓kAI_q, ↓kAL_q, ↓kAR_q, ↓a_I_q, ↓a_L_q, ↓a_R_q, ↓kCall_q, ↓kCalS_q, ↓kRI_q, ↓kRR_q, ↓kRU_q, ↓kRP_q, ↓e_callV_q, ↓r_callV_q, ↓e_callS_q, ↓s_callV_q, ↓s_popV_q, ↓s_seq_q, ↓kSt_q, ↓s_st_q, ↓kStL_q, ↓s_stL_q, ↓kStR_q, ↓s_stR_q, ↓kPut1_q, ↓kPut2_q, ↓s_put_q, ↓kPz1_q, ↓kPz2_q, ↓s_putZ_q, ↓kPr1_q, ↓kPr2_q, ↓s_putR_q, ↓kPo1_q, ↓kPo2_q, ↓s_putop_q, ↓kAs1_q, ↓kAs2_q, ↓kAs3_q, ↓s_ast_q, ↓kZs1_q, ↓kZs2_q, ↓kZs3_q, ↓s_zast_q, ↓kRs1_q, ↓kRs2_q, ↓kRs3_q, ↓s_rast_q, ↓kAo1_q, ↓kAo2_q, ↓kAo3_q, ↓s_astop_q, ↓kIf_q, ↓s_if_q, ↓kIte_q, ↓s_ite_q, ↓kItr_q, ↓s_itr_q, ↓kRet_q, ↓s_retI_q, ↓kReR_q, ↓s_retR_q, ↓kSw_q, ↓s_sw_q, lvI_s, lvI_z, lvL_s, lvL_z, lvR_s, lvR_z, kFld_q, kFlR_q, kAl1_q, kAl2_q, kAr1_q, kAr2_q, kLen_q, kO1_q, kO2_q, kD1_q, kD2_q, kL2i_q, kB1_q, kB2_q, kCb_q, kCb_0, kCb_1, kNot_q, kAnd_q, kOr_q, kNul_q, kCond_q, kTern_q, kA2_q, kAI_q, kAL_q, kAR_q, kCall_q, kCalS_q, kRI_q, kRR_q, kRU_q, kRP_q, kSt_q, kStL_q, kStR_q, kPut1_q, kPut2_q, kPz1_q, kPz2_q, kPr1_q, kPr2_q, kPo1_q, kPo2_q, kAs1_q, kAs2_q, kAs3_q, kZs1_q, kZs2_q, kZs3_q, kRs1_q, kRs2_q, kRs3_q, kAo1_q, kAo2_q, kAo3_q, kIf_q, kIte_q, kItr_q, kRet_q, kReR_q, kSw_q, neb_q, gtb_q, geb_q, lnB_s, isI_s, isI_z, gI_s, gI_z, gR_s, gR_z, gA_s, isA_s, bdo_s, rHd_c, isHd_c, noL_z, noL_1, noL_s, nl_I, nl_R, nl_U, stI, stR, bd_t, oA, oS, oM, oD, oR, tn_add, tn_mul, tn_nat, eqb_t, eqb_f, ltb_t, ltb_f, leb_t, leb_f, nob_s, nob_n, nat_eq, nat_lt, nat_le, cK_0 C, r0, pK0 hN, b1, c1, c2, c3]
      · simp (disch := omega) [t_X8_isPair, -Int.not_le, -Int.not_lt, ↓e_ci_p, ↓r_null_p, ↓a_nil_p, ↓s_skip_p, ↓s_inc_p, ↓s_brk_p, ↓s_ret_p, ↓lvI_s, ↓lvI_z, ↓lvL_s, ↓lvL_z, ↓lvR_s, ↓lvR_z, ↓e_lv_q, ↓l_lv_q, ↓r_lv_q, ↓kFld_q, ↓e_fld_q, ↓kFlR_q, ↓r_fld_q, ↓kAl1_q, ↓kAl2_q, ↓e_ald_q, ↓z_ald_q, ↓kAr1_q, ↓kAr2_q, ↓r_ald_q, ↓kLen_q, ↓e_len_q, ↓kO1_q, ↓kO2_q, ↓kD1_q, ↓kD2_q, ↓e_op_q, ↓e_dv_q, ↓l_op_q, ↓l_dv_q, ↓l_sh_q, ↓e_lcmp_q, ↓e_min_q, ↓kL2i_q, ↓e_l2i_q, ↓kB1_q, ↓kB2_q, ↓c_eq_q, ↓c_ne_q, ↓c_lt_q, ↓c_ge_q, ↓c_gt_q, ↓c_le_q, ↓kCb_q, ↓kCb_0, ↓kCb_1, ↓c_b_q, ↓kNot_q, ↓c_not_q, ↓kAnd_q, ↓c_and_q, ↓kOr_q, ↓c_or_q, ↓kNul_q, ↓c_null_q, ↓kCond_q, ↓e_cond_q, ↓kTern_q, ↓x_tern_q, ↓kA2_q, ↓kAI_q, ↓kAL_q, ↓kAR_q, ↓a_I_q, ↓a_L_q, ↓a_R_q, ↓kCall_q, ↓kCalS_q, ↓kRI_q, ↓kRR_q, ↓kRU_q, ↓kRP_q, ↓e_callV_q, ↓r_callV_q, ↓e_callS_q, ↓s_callV_q, ↓s_popV_q, ↓s_seq_q, ↓kSt_q, ↓s_st_q, ↓kStL_q, ↓s_stL_q, ↓kStR_q, ↓s_stR_q, ↓kPut1_q, ↓kPut2_q, ↓s_put_q, ↓kPz1_q, ↓kPz2_q, ↓s_putZ_q, ↓kPr1_q, ↓kPr2_q, ↓s_putR_q, ↓kPo1_q, ↓kPo2_q, ↓s_putop_q, ↓kAs1_q, ↓kAs2_q, ↓kAs3_q, ↓s_ast_q, ↓kZs1_q, ↓kZs2_q, ↓kZs3_q, ↓s_zast_q, ↓kRs1_q, ↓kRs2_q, ↓kRs3_q, ↓s_rast_q, ↓kAo1_q, ↓kAo2_q, ↓kAo3_q, ↓s_astop_q, ↓kIf_q, ↓s_if_q, ↓kIte_q, ↓s_ite_q, ↓kItr_q, ↓s_itr_q, ↓kRet_q, ↓s_retI_q, ↓kReR_q, ↓s_retR_q, ↓kSw_q, ↓s_sw_q, lvI_s, lvI_z, lvL_s, lvL_z, lvR_s, lvR_z, kFld_q, kFlR_q, kAl1_q, kAl2_q, kAr1_q, kAr2_q, kLen_q, kO1_q, kO2_q, kD1_q, kD2_q, kL2i_q, kB1_q, kB2_q, kCb_q, kCb_0, kCb_1, kNot_q, kAnd_q, kOr_q, kNul_q, kCond_q, kTern_q, kA2_q, kAI_q, kAL_q, kAR_q, kCall_q, kCalS_q, kRI_q, kRR_q, kRU_q, kRP_q, kSt_q, kStL_q, kStR_q, kPut1_q, kPut2_q, kPz1_q, kPz2_q, kPr1_q, kPr2_q, kPo1_q, kPo2_q, kAs1_q, kAs2_q, kAs3_q, kZs1_q, kZs2_q, kZs3_q, kRs1_q, kRs2_q, kRs3_q, kAo1_q, kAo2_q, kAo3_q, kIf_q, kIte_q, kItr_q, kRet_q, kReR_q, kSw_q, neb_q, gtb_q, geb_q, lnB_s, isI_s, isI_z, gI_s, gI_z, gR_s, gR_z, gA_s, isA_s, bdo_s, rHd_c, isHd_c, noL_z, noL_1, noL_s, nl_I, nl_R, nl_U, stI, stR, bd_t, oA, oS, oM, oD, oR, tn_add, tn_mul, tn_nat, eqb_t, eqb_f, ltb_t, ltb_f, leb_t, leb_f, nob_s, nob_n, nat_eq, nat_lt, nat_le, cK_0 C, r0, pK0 hN, b1, c1, c2, c3]
    · simp (disch := omega) [t_X8_isPair, -Int.not_le, -Int.not_lt, ↓e_ci_p, ↓r_null_p, ↓a_nil_p, ↓s_skip_p, ↓s_inc_p, ↓s_brk_p, ↓s_ret_p, ↓lvI_s, ↓lvI_z, ↓lvL_s, ↓lvL_z, ↓lvR_s, ↓lvR_z, ↓e_lv_q, ↓l_lv_q, ↓r_lv_q, ↓kFld_q, ↓e_fld_q, ↓kFlR_q, ↓r_fld_q, ↓kAl1_q, ↓kAl2_q, ↓e_ald_q, ↓z_ald_q, ↓kAr1_q, ↓kAr2_q, ↓r_ald_q, ↓kLen_q, ↓e_len_q, ↓kO1_q, ↓kO2_q, ↓kD1_q, ↓kD2_q, ↓e_op_q, ↓e_dv_q, ↓l_op_q, ↓l_dv_q, ↓l_sh_q, ↓e_lcmp_q, ↓e_min_q, ↓kL2i_q, ↓e_l2i_q, ↓kB1_q, ↓kB2_q, ↓c_eq_q, ↓c_ne_q, ↓c_lt_q, ↓c_ge_q, ↓c_gt_q, ↓c_le_q, ↓kCb_q, ↓kCb_0, ↓kCb_1, ↓c_b_q, ↓kNot_q, ↓c_not_q, ↓kAnd_q, ↓c_and_q, ↓kOr_q, ↓c_or_q, ↓kNul_q, ↓c_null_q, ↓kCond_q, ↓e_cond_q, ↓kTern_q, ↓x_tern_q, ↓kA2_q, ↓kAI_q, ↓kAL_q, ↓kAR_q, ↓a_I_q, ↓a_L_q, ↓a_R_q, ↓kCall_q, ↓kCalS_q, ↓kRI_q, ↓kRR_q, ↓kRU_q, ↓kRP_q, ↓e_callV_q, ↓r_callV_q, ↓e_callS_q, ↓s_callV_q, ↓s_popV_q, ↓s_seq_q, ↓kSt_q, ↓s_st_q, ↓kStL_q, ↓s_stL_q, ↓kStR_q, ↓s_stR_q, ↓kPut1_q, ↓kPut2_q, ↓s_put_q, ↓kPz1_q, ↓kPz2_q, ↓s_putZ_q, ↓kPr1_q, ↓kPr2_q, ↓s_putR_q, ↓kPo1_q, ↓kPo2_q, ↓s_putop_q, ↓kAs1_q, ↓kAs2_q, ↓kAs3_q, ↓s_ast_q, ↓kZs1_q, ↓kZs2_q, ↓kZs3_q, ↓s_zast_q, ↓kRs1_q, ↓kRs2_q, ↓kRs3_q, ↓s_rast_q, ↓kAo1_q, ↓kAo2_q, ↓kAo3_q, ↓s_astop_q, ↓kIf_q, ↓s_if_q, ↓kIte_q, ↓s_ite_q, ↓kItr_q, ↓s_itr_q, ↓kRet_q, ↓s_retI_q, ↓kReR_q, ↓s_retR_q, ↓kSw_q, ↓s_sw_q, lvI_s, lvI_z, lvL_s, lvL_z, lvR_s, lvR_z, kFld_q, kFlR_q, kAl1_q, kAl2_q, kAr1_q, kAr2_q, kLen_q, kO1_q, kO2_q, kD1_q, kD2_q, kL2i_q, kB1_q, kB2_q, kCb_q, kCb_0, kCb_1, kNot_q, kAnd_q, kOr_q, kNul_q, kCond_q, kTern_q, kA2_q, kAI_q, kAL_q, kAR_q, kCall_q, kCalS_q, kRI_q, kRR_q, kRU_q, kRP_q, kSt_q, kStL_q, kStR_q, kPut1_q, kPut2_q, kPz1_q, kPz2_q, kPr1_q, kPr2_q, kPo1_q, kPo2_q, kAs1_q, kAs2_q, kAs3_q, kZs1_q, kZs2_q, kZs3_q, kRs1_q, kRs2_q, kRs3_q, kAo1_q, kAo2_q, kAo3_q, kIf_q, kIte_q, kItr_q, kRet_q, kReR_q, kSw_q, neb_q, gtb_q, geb_q, lnB_s, isI_s, isI_z, gI_s, gI_z, gR_s, gR_z, gA_s, isA_s, bdo_s, rHd_c, isHd_c, noL_z, noL_1, noL_s, nl_I, nl_R, nl_U, stI, stR, bd_t, oA, oS, oM, oD, oR, tn_add, tn_mul, tn_nat, eqb_t, eqb_f, ltb_t, ltb_f, leb_t, leb_f, nob_s, nob_n, nat_eq, nat_lt, nat_le, cK_0 C, r0, pK0 hN, b1, c1, c2]
  · simp (disch := omega) [t_X8_isPair, -Int.not_le, -Int.not_lt, ↓e_ci_p, ↓r_null_p, ↓a_nil_p, ↓s_skip_p, ↓s_inc_p, ↓s_brk_p, ↓s_ret_p, ↓lvI_s, ↓lvI_z, ↓lvL_s, ↓lvL_z, ↓lvR_s, ↓lvR_z, ↓e_lv_q, ↓l_lv_q, ↓r_lv_q, ↓kFld_q, ↓e_fld_q, ↓kFlR_q, ↓r_fld_q, ↓kAl1_q, ↓kAl2_q, ↓e_ald_q, ↓z_ald_q, ↓kAr1_q, ↓kAr2_q, ↓r_ald_q, ↓kLen_q, ↓e_len_q, ↓kO1_q, ↓kO2_q, ↓kD1_q, ↓kD2_q, ↓e_op_q, ↓e_dv_q, ↓l_op_q, ↓l_dv_q, ↓l_sh_q, ↓e_lcmp_q, ↓e_min_q, ↓kL2i_q, ↓e_l2i_q, ↓kB1_q, ↓kB2_q, ↓c_eq_q, ↓c_ne_q, ↓c_lt_q, ↓c_ge_q, ↓c_gt_q, ↓c_le_q, ↓kCb_q, ↓kCb_0, ↓kCb_1, ↓c_b_q, ↓kNot_q, ↓c_not_q, ↓kAnd_q, ↓c_and_q, ↓kOr_q, ↓c_or_q, ↓kNul_q, ↓c_null_q, ↓kCond_q, ↓e_cond_q, ↓kTern_q, ↓x_tern_q, ↓kA2_q, ↓kAI_q, ↓kAL_q, ↓kAR_q, ↓a_I_q, ↓a_L_q, ↓a_R_q, ↓kCall_q, ↓kCalS_q, ↓kRI_q, ↓kRR_q, ↓kRU_q, ↓kRP_q, ↓e_callV_q, ↓r_callV_q, ↓e_callS_q, ↓s_callV_q, ↓s_popV_q, ↓s_seq_q, ↓kSt_q, ↓s_st_q, ↓kStL_q, ↓s_stL_q, ↓kStR_q, ↓s_stR_q, ↓kPut1_q, ↓kPut2_q, ↓s_put_q, ↓kPz1_q, ↓kPz2_q, ↓s_putZ_q, ↓kPr1_q, ↓kPr2_q, ↓s_putR_q, ↓kPo1_q, ↓kPo2_q, ↓s_putop_q, ↓kAs1_q, ↓kAs2_q, ↓kAs3_q, ↓s_ast_q, ↓kZs1_q, ↓kZs2_q, ↓kZs3_q, ↓s_zast_q, ↓kRs1_q, ↓kRs2_q, ↓kRs3_q, ↓s_rast_q, ↓kAo1_q, ↓kAo2_q, ↓kAo3_q, ↓s_astop_q, ↓kIf_q, ↓s_if_q, ↓kIte_q, ↓s_ite_q, ↓kItr_q, ↓s_itr_q, ↓kRet_q, ↓s_retI_q, ↓kReR_q, ↓s_retR_q, ↓kSw_q, ↓s_sw_q, lvI_s, lvI_z, lvL_s, lvL_z, lvR_s, lvR_z, kFld_q, kFlR_q, kAl1_q, kAl2_q, kAr1_q, kAr2_q, kLen_q, kO1_q, kO2_q, kD1_q, kD2_q, kL2i_q, kB1_q, kB2_q, kCb_q, kCb_0, kCb_1, kNot_q, kAnd_q, kOr_q, kNul_q, kCond_q, kTern_q, kA2_q, kAI_q, kAL_q, kAR_q, kCall_q, kCalS_q, kRI_q, kRR_q, kRU_q, kRP_q, kSt_q, kStL_q, kStR_q, kPut1_q, kPut2_q, kPz1_q, kPz2_q, kPr1_q, kPr2_q, kPo1_q, kPo2_q, kAs1_q, kAs2_q, kAs3_q, kZs1_q, kZs2_q, kZs3_q, kRs1_q, kRs2_q, kRs3_q, kAo1_q, kAo2_q, kAo3_q, kIf_q, kIte_q, kItr_q, kRet_q, kReR_q, kSw_q, neb_q, gtb_q, geb_q, lnB_s, isI_s, isI_z, gI_s, gI_z, gR_s, gR_z, gA_s, isA_s, bdo_s, rHd_c, isHd_c, noL_z, noL_1, noL_s, nl_I, nl_R, nl_U, stI, stR, bd_t, oA, oS, oM, oD, oR, tn_add, tn_mul, tn_nat, eqb_t, eqb_f, ltb_t, ltb_f, leb_t, leb_f, nob_s, nob_n, nat_eq, nat_lt, nat_le, cK_0 C, r0, pK0 hN, b1, c1]
end RL
