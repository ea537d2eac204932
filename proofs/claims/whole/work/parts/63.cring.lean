/-! the class's rings -/
theorem setB_and (f g : Nat → Bool) (n : Nat) : setB f n &&& setB g n = setB (fun q => f q && g q) n := by
  apply tb_eq; intro q; rw [Nat.testBit_and, setB_tb, setB_tb, setB_tb]
  by_cases hq : q < n <;> simp [hq]
theorem setB_z {f : Nat → Bool} {n : Nat} : setB f n = 0 ↔ ∀ q, q < n → f q = false := by
  constructor
  · intro h q hq
    have := setB_tb f n q
    rw [h] at this
    simp [hq] at this
    exact this
  · intro h
    apply tb_eq; intro q
    rw [setB_tb]
    by_cases hq : q < n
    · simp [hq, h q hq]
    · simp [hq]
section CR
variable {kd : List (Nat × Nat)} {R : Nat → Nat → Option Nat} {I : Nat → Nat → Int} {K : AV → XS → Prop} {w n : Nat} {e : Nat → Int}
/-- reached below t, and below q at t -/
def rcd (e : Nat → Int) (n h t q x : Nat) : Bool := decide (dst e n x h < t) || (decide (x < q) && decide (dst e n x h = t))
def rcs (e : Nat → Int) (n h t q : Nat) : Nat := setB (rcd e n h t q) n
def stp (e : Nat → Int) (n h t q x : Nat) : Int := if rcd e n h t q x = true then dst e n x h else -1
theorem rcd_0 {h t x : Nat} : rcd e n h t 0 x = decide (dst e n x h < t) := by simp [rcd]
theorem rcd_n {h t x : Nat} (hx : x < n) : rcd e n h t n x = rcd e n h (t + 1) 0 x := by
  have d := (dst_nn (e := e) n x h).1
  rw [rcd_0]
  by_cases h1 : dst e n x h < t
  · have : dst e n x h < ((t + 1 : Nat) : Int) := by omega
    simp only [rcd, h1, this, decide_true, Bool.true_or]
  · by_cases h2 : dst e n x h = t
    · have : dst e n x h < ((t + 1 : Nat) : Int) := by omega
      simp [rcd, hx, h2]
      omega
    · have : ¬ dst e n x h < ((t + 1 : Nat) : Int) := by omega
      simp only [rcd, h1, h2, this, decide_false, Bool.and_false, Bool.or_false]
theorem step_in (hd : nsf e) {h p t : Nat} (hh : h < n) (ht : 1 ≤ t) (ht2 : t < 1000) (hp : p < n) (h1 : ¬ dst e n p h < t) : (ndS e n p &&& rcs e n h t 0 = 0) ↔ ¬ dst e n p h = t := by
  unfold ndS rcs
  rw [setB_and, setB_z]
  constructor
  · intro hz hdp
    have hph : p ≠ h := fun hh => by subst hh; rw [dst_self] at hdp; omega
    obtain ⟨x, x1, x2, x3, x4⟩ := dst_first (e := e) hh hph (by omega)
    have := hz x x1
    rw [rcd_0] at this
    have h5 : dst e n x h < t := by omega
    simp [x3, h5] at this
  · intro hne q hq
    by_cases c : 0 < e (10 * p + q)
    · have hpq : p ≠ q := fun hh => by rw [hh] at c; exact hd q c
      have := dst_step (e := e) (n := n) (q := h) hq hpq c
      have h5 : ¬ dst e n q h < t := by omega
      simp only [rcd_0, h5, decide_false, Bool.and_false]
    · simp [c]
set_option maxHeartbeats 4000000 in
theorem X7_meas_0 (hW : isWeb kd R w) (hn : n ≤ 10) (hw0 : I w 0 = (n : Int)) {v1 v3 v4 v5 : AV} (h1 : nl v1 = true) {S0 : Nat → Nat → Int} (e_S : S0 = setRow I (w + 3) (0) (fun _ => -1)) {Kn Kb : XE → XS → Prop} {Kr : AV → XS → Prop} 
    (hkk : Kn [vR (some w), v1, vI ((n : Nat) : Int), v3, v4, v5] (kd, setRow I (w + 3) (n) (fun _ => -1), R)) : lp_X7_measureTo_0 Kn Kb Kr [vR (some w), v1, vI 0, v3, v4, v5] (kd, S0, R) := by
  unfold lp_X7_measureTo_0
  refine forUp (lo := 0) (n := n) (fun k env st => env = [vR (some w), v1, vI (k : Int), v3, v4, v5] ∧ st = (kd, setRow I (w + 3) (k) (fun _ => -1), R)) (by omega) (by omega) ⟨rfl, by first | (rw [e_S]; done) | (rw [e_S]; rfl)⟩ ?_ ?_ ?_
  · rintro k env st hle ⟨rfl, rfl⟩
    first | exact ⟨rfl, fun K h => h⟩ | exact ⟨rfl, fun K h => ⟨_, rfl, h⟩⟩ | (refine ⟨rfl, fun K h => ?_⟩; simp (disch := omega) [-Int.not_le, -Int.not_lt, ↓e_ci_p, ↓e_lv_p, ↓l_lv_p, ↓r_lv_p, ↓r_null_p, ↓e_fld_p, ↓r_fld_p, ↓e_ald_p, ↓z_ald_p, ↓r_ald_p, ↓e_len_p, ↓e_op_p, ↓e_dv_p, ↓l_op_p, ↓l_dv_p, ↓l_sh_p, ↓e_lcmp_p, ↓e_l2i_p, ↓e_min_p, ↓c_b_p, ↓c_not_p, ↓c_and_p, ↓c_or_p, ↓c_null_p, ↓c_eq_p, ↓c_ne_p, ↓c_lt_p, ↓c_ge_p, ↓c_gt_p, ↓c_le_p, ↓e_cond_p, ↓x_tern_p, ↓a_nil_p, ↓a_I_p, ↓a_L_p, ↓a_R_p, ↓e_callV_p, ↓r_callV_p, ↓e_callS_p, ↓s_skip_p, ↓s_seq_p, ↓s_st_p, ↓s_stL_p, ↓s_stR_p, ↓s_inc_p, ↓s_put_p, ↓s_putZ_p, ↓s_putR_p, ↓s_putop_p, ↓s_ast_p, ↓s_zast_p, ↓s_rast_p, ↓s_astop_p, ↓s_callV_p, ↓s_popV_p, ↓s_if_p, ↓s_ite_p, ↓s_itr_p, ↓s_brk_p, ↓s_retI_p, ↓s_retR_p, ↓s_ret_p, ↓s_sw_p, isI_s, isI_z, isL_s, isL_z, isR_s, isR_z, gI_s, gI_z, gL_z, gR_s, gR_z, gA_s, isA_s, bdo_s, arOK_s, isVI_I, isVR_R, vInt_I, vInt_L, vRef_R, lenOf_s, lnOK_s, rHd_c, isHd_c, noL_z, noL_1, noL_s, nl_I, nl_R, nl_U, stI, stR, bd_t, oA, oS, oM, oD, oR, tn_add, tn_mul, tn_nat, eqb_t, eqb_f, ltb_t, ltb_f, leb_t, leb_f, nob_s, nob_n, nat_eq, nat_lt, nat_le, wK0 hW, wK1 hW, wK2 hW, wK3 hW, wK4 hW, wK5 hW, wR1 hW, wR2 hW, wR3 hW, wR4 hW, wR5 hW, (show ∀ k f, setRow I (w + 3) k f w 0 = (n : Int) from fun k f => by rw [setRow_row (by omega)]; exact hw0)]; first | exact h | simpa using h)
  · rintro k env st hlo hlt ⟨rfl, rfl⟩ Kx hx
    have fin : ∀ (S' : Nat → Nat → Int) , S' = setRow I (w + 3) (k + 1) (fun _ => -1) → Kx [vR (some w), v1, vI (k : Int), v3, v4, v5] (kd, S', R) := by
      intro S' q_S
      subst q_S
      exact hx _ _ rfl (by simp [noL_z, noL_1, noL_s, nl_I, nl_R, nl_U, h1]) ⟨rfl, rfl⟩
    simp (disch := omega) [-Int.not_le, -Int.not_lt, ↓e_ci_p, ↓r_null_p, ↓a_nil_p, ↓s_skip_p, ↓s_inc_p, ↓s_brk_p, ↓s_ret_p, ↓lvI_s, ↓lvI_z, ↓lvL_s, ↓lvL_z, ↓lvR_s, ↓lvR_z, ↓e_lv_q, ↓l_lv_q, ↓r_lv_q, ↓kFld_q, ↓e_fld_q, ↓kFlR_q, ↓r_fld_q, ↓kAl1_q, ↓kAl2_q, ↓e_ald_q, ↓z_ald_q, ↓kAr1_q, ↓kAr2_q, ↓r_ald_q, ↓kLen_q, ↓e_len_q, ↓kO1_q, ↓kO2_q, ↓kD1_q, ↓kD2_q, ↓e_op_q, ↓e_dv_q, ↓l_op_q, ↓l_dv_q, ↓l_sh_q, ↓e_lcmp_q, ↓e_min_q, ↓kL2i_q, ↓e_l2i_q, ↓kB1_q, ↓kB2_q, ↓c_eq_q, ↓c_ne_q, ↓c_lt_q, ↓c_ge_q, ↓c_gt_q, ↓c_le_q, ↓kCb_q, ↓kCb_0, ↓kCb_1, ↓c_b_q, ↓kNot_q, ↓c_not_q, ↓kAnd_q, ↓c_and_q, ↓kOr_q, ↓c_or_q, ↓kNul_q, ↓c_null_q, ↓kCond_q, ↓e_cond_q, ↓kTern_q, ↓x_tern_q, ↓kA2_q, ↓kAI_q, ↓kAL_q, ↓kAR_q, ↓a_I_q, ↓a_L_q, ↓a_R_q, ↓kCall_q, ↓kCalS_q, ↓kRI_q, ↓kRR_q, ↓kRU_q, ↓kRP_q, ↓e_callV_q, ↓r_callV_q, ↓e_callS_q, ↓s_callV_q, ↓s_popV_q, ↓s_seq_q, ↓kSt_q, ↓s_st_q, ↓kStL_q, ↓s_stL_q, ↓kStR_q, ↓s_stR_q, ↓kPut1_q, ↓kPut2_q, ↓s_put_q, ↓kPz1_q, ↓kPz2_q, ↓s_putZ_q, ↓kPr1_q, ↓kPr2_q, ↓s_putR_q, ↓kPo1_q, ↓kPo2_q, ↓s_putop_q, ↓kAs1_q, ↓kAs2_q, ↓kAs3_q, ↓s_ast_q, ↓kZs1_q, ↓kZs2_q, ↓kZs3_q, ↓s_zast_q, ↓kRs1_q, ↓kRs2_q, ↓kRs3_q, ↓s_rast_q, ↓kAo1_q, ↓kAo2_q, ↓kAo3_q, ↓s_astop_q, ↓kIf_q, ↓s_if_q, ↓kIte_q, ↓s_ite_q, ↓kItr_q, ↓s_itr_q, ↓kRet_q, ↓s_retI_q, ↓kReR_q, ↓s_retR_q, ↓kSw_q, ↓s_sw_q, lvI_s, lvI_z, lvL_s, lvL_z, lvR_s, lvR_z, kFld_q, kFlR_q, kAl1_q, kAl2_q, kAr1_q, kAr2_q, kLen_q, kO1_q, kO2_q, kD1_q, kD2_q, kL2i_q, kB1_q, kB2_q, kCb_q, kCb_0, kCb_1, kNot_q, kAnd_q, kOr_q, kNul_q, kCond_q, kTern_q, kA2_q, kAI_q, kAL_q, kAR_q, kCall_q, kCalS_q, kRI_q, kRR_q, kRU_q, kRP_q, kSt_q, kStL_q, kStR_q, kPut1_q, kPut2_q, kPz1_q, kPz2_q, kPr1_q, kPr2_q, kPo1_q, kPo2_q, kAs1_q, kAs2_q, kAs3_q, kZs1_q, kZs2_q, kZs3_q, kRs1_q, kRs2_q, kRs3_q, kAo1_q, kAo2_q, kAo3_q, kIf_q, kIte_q, kItr_q, kRet_q, kReR_q, kSw_q, neb_q, gtb_q, geb_q, lnB_s, isI_s, isI_z, gI_s, gI_z, gR_s, gR_z, gA_s, isA_s, bdo_s, rHd_c, isHd_c, noL_z, noL_1, noL_s, nl_I, nl_R, nl_U, stI, stR, bd_t, oA, oS, oM, oD, oR, tn_add, tn_mul, tn_nat, eqb_t, eqb_f, ltb_t, ltb_f, leb_t, leb_f, nob_s, nob_n, nat_eq, nat_lt, nat_le, wK0 hW, wK1 hW, wK2 hW, wK3 hW, wK4 hW, wK5 hW, wR1 hW, wR2 hW, wR3 hW, wR4 hW, wR5 hW]
    exact fin _ (setRow_S (f := fun _ => -1))
  · rintro env st ⟨rfl, rfl⟩
    exact hkk
set_option maxHeartbeats 4000000 in
theorem X7_meas_1 (hW : isWeb kd R w) (hE : WEB I w e n) (hd : nsf e) {h t : Nat} (hh : h < n) (ht : 1 ≤ t) (ht2 : t < n) {v1 : AV} {a4 : Int} (e_a4 : vI a4 = vI ((rcs e n h t (0) : Nat) : Int)) {S0 : Nat → Nat → Int} (e_S : S0 = setRow I (w + 3) n (stp e n h t (0))) {Kn Kb : XE → XS → Prop} {Kr : AV → XS → Prop} 
    (hkk : Kn [vR (some w), v1, vI ((rcs e n h t 0 : Nat) : Int), vI (t : Int), vI ((rcs e n h t (n) : Nat) : Int), vI ((n : Nat) : Int)] (kd, setRow I (w + 3) n (stp e n h t (n)), R)) : lp_X7_measureTo_1 Kn Kb Kr [vR (some w), v1, vI ((rcs e n h t 0 : Nat) : Int), vI (t : Int), vI a4, vI 0] (kd, S0, R) := by
  unfold lp_X7_measureTo_1
  have hn := hE.2.1
  have hw0 := hE.1
  refine forUp (lo := 0) (n := n) (fun p env st => env = [vR (some w), v1, vI ((rcs e n h t 0 : Nat) : Int), vI (t : Int), vI ((rcs e n h t (p) : Nat) : Int), vI (p : Int)] ∧ st = (kd, setRow I (w + 3) n (stp e n h t (p)), R)) (by omega) (by omega) ⟨by first | (rw [e_a4]; done) | (rw [e_a4]; rfl), by first | (rw [e_S]; done) | (rw [e_S]; rfl)⟩ ?_ ?_ ?_
  · rintro p env st hle ⟨rfl, rfl⟩
    first | exact ⟨rfl, fun K h => h⟩ | exact ⟨rfl, fun K h => ⟨_, rfl, h⟩⟩ | (refine ⟨rfl, fun K h => ?_⟩; simp (disch := omega) [-Int.not_le, -Int.not_lt, ↓e_ci_p, ↓e_lv_p, ↓l_lv_p, ↓r_lv_p, ↓r_null_p, ↓e_fld_p, ↓r_fld_p, ↓e_ald_p, ↓z_ald_p, ↓r_ald_p, ↓e_len_p, ↓e_op_p, ↓e_dv_p, ↓l_op_p, ↓l_dv_p, ↓l_sh_p, ↓e_lcmp_p, ↓e_l2i_p, ↓e_min_p, ↓c_b_p, ↓c_not_p, ↓c_and_p, ↓c_or_p, ↓c_null_p, ↓c_eq_p, ↓c_ne_p, ↓c_lt_p, ↓c_ge_p, ↓c_gt_p, ↓c_le_p, ↓e_cond_p, ↓x_tern_p, ↓a_nil_p, ↓a_I_p, ↓a_L_p, ↓a_R_p, ↓e_callV_p, ↓r_callV_p, ↓e_callS_p, ↓s_skip_p, ↓s_seq_p, ↓s_st_p, ↓s_stL_p, ↓s_stR_p, ↓s_inc_p, ↓s_put_p, ↓s_putZ_p, ↓s_putR_p, ↓s_putop_p, ↓s_ast_p, ↓s_zast_p, ↓s_rast_p, ↓s_astop_p, ↓s_callV_p, ↓s_popV_p, ↓s_if_p, ↓s_ite_p, ↓s_itr_p, ↓s_brk_p, ↓s_retI_p, ↓s_retR_p, ↓s_ret_p, ↓s_sw_p, isI_s, isI_z, isL_s, isL_z, isR_s, isR_z, gI_s, gI_z, gL_z, gR_s, gR_z, gA_s, isA_s, bdo_s, arOK_s, isVI_I, isVR_R, vInt_I, vInt_L, vRef_R, lenOf_s, lnOK_s, rHd_c, isHd_c, noL_z, noL_1, noL_s, nl_I, nl_R, nl_U, stI, stR, bd_t, oA, oS, oM, oD, oR, tn_add, tn_mul, tn_nat, eqb_t, eqb_f, ltb_t, ltb_f, leb_t, leb_f, nob_s, nob_n, nat_eq, nat_lt, nat_le, wK0 hW, wK1 hW, wK2 hW, wK3 hW, wK4 hW, wK5 hW, wR1 hW, wR2 hW, wR3 hW, wR4 hW, wR5 hW, (show ∀ f, setRow I (w + 3) n f w 0 = (n : Int) from fun f => by rw [setRow_row (by omega)]; exact hw0)]; first | exact h | simpa using h)
  · rintro p env st hlo hlt ⟨rfl, rfl⟩ Kx hx
    have fin : ∀ (b4 : Int) (S' : Nat → Nat → Int) , vI b4 = vI ((rcs e n h t (p + 1) : Nat) : Int) → S' = setRow I (w + 3) n (stp e n h t (p + 1)) → Kx [vR (some w), v1, vI ((rcs e n h t 0 : Nat) : Int), vI (t : Int), vI b4, vI (p : Int)] (kd, S', R) := by
      intro b4 S' q_a4 q_S
      subst q_S
      exact hx _ _ rfl (by simp [noL_z, noL_1, noL_s, nl_I, nl_R, nl_U]) ⟨by simp [q_a4], rfl⟩
    have hB0 : rcs e n h t 0 < 1024 := setB_1024 _ hn
    have hBp : rcs e n h t p < 1024 := setB_1024 _ hn
    have hBn : ndS e n p < 1024 := setB_1024 _ hn
    have hin := fun (st : XS) (K : AV → XS → Prop) => X8_in (K := K) (st := st) (q := p) hB0 (by omega)
    have htb : (rcs e n h t 0).testBit p = decide (dst e n p h < t) := by unfold rcs; rw [setB_tb, rcd_0]; simp [hlt]
    rw [htb] at hin
    have r1 : setRow I (w + 3) n (stp e n h t p) (w + 1) p = ((ndS e n p : Nat) : Int) := by rw [setRow_row (by omega)]; exact hE.2.2.1 p hlt
    have hand : o2 f_iand ((ndS e n p : Nat) : Int) ((rcs e n h t 0 : Nat) : Int) = ((ndS e n p &&& rcs e n h t 0 : Nat) : Int) := by rw [oAnd (by omega) (by omega) (by omega) (by omega), tn_nat, tn_nat]
    have hor : o2 f_ior ((rcs e n h t p : Nat) : Int) (o2 f_ishl 1 (p : Int)) = ((rcs e n h t p ||| 2 ^ p : Nat) : Int) := by rw [oOrS (by omega) (by omega) (by omega) (by omega), tn_nat, tn_nat]
    -- what p adds
    have same : ¬ (¬ dst e n p h < t ∧ dst e n p h = t) → ∀ x, rcd e n h t (p + 1) x = rcd e n h t p x := by
      intro hno x
      unfold rcd
      by_cases hx : x = p
      · subst hx
        have : ¬ dst e n x h = t := fun hh => hno ⟨by omega, hh⟩
        simp [this]
      · have : (x < p + 1) = (x < p) := by apply propext; omega
        simp only [this]
    have mem0 : ¬ (¬ dst e n p h < t ∧ dst e n p h = t) → setRow I (w + 3) n (stp e n h t p) = setRow I (w + 3) n (stp e n h t (p + 1)) := fun hno => setRow_congr (fun j _ => by unfold stp; rw [same hno j])
    have set0 : ¬ (¬ dst e n p h < t ∧ dst e n p h = t) → rcs e n h t (p + 1) = rcs e n h t p := fun hno => setB_congr (fun q _ => same hno q)
    by_cases c1 : dst e n p h < t
    · have no : ¬ (¬ dst e n p h < t ∧ dst e n p h = t) := fun hh => hh.1 c1
      have m0 := mem0 no
      have s0 := set0 no
      generalize setRow I (w + 3) n (stp e n h t p) = M at *
      simp (disch := omega) [-Int.not_le, -Int.not_lt, ↓e_ci_p, ↓e_lv_p, ↓l_lv_p, ↓r_lv_p, ↓r_null_p, ↓e_fld_p, ↓r_fld_p, ↓e_ald_p, ↓z_ald_p, ↓r_ald_p, ↓e_len_p, ↓e_op_p, ↓e_dv_p, ↓l_op_p, ↓l_dv_p, ↓l_sh_p, ↓e_lcmp_p, ↓e_l2i_p, ↓e_min_p, ↓c_b_p, ↓c_not_p, ↓c_and_p, ↓c_or_p, ↓c_null_p, ↓c_eq_p, ↓c_ne_p, ↓c_lt_p, ↓c_ge_p, ↓c_gt_p, ↓c_le_p, ↓e_cond_p, ↓x_tern_p, ↓a_nil_p, ↓a_I_p, ↓a_L_p, ↓a_R_p, ↓e_callV_p, ↓r_callV_p, ↓e_callS_p, ↓s_skip_p, ↓s_seq_p, ↓s_st_p, ↓s_stL_p, ↓s_stR_p, ↓s_inc_p, ↓s_put_p, ↓s_putZ_p, ↓s_putR_p, ↓s_putop_p, ↓s_ast_p, ↓s_zast_p, ↓s_rast_p, ↓s_astop_p, ↓s_callV_p, ↓s_popV_p, ↓s_if_p, ↓s_ite_p, ↓s_itr_p, ↓s_brk_p, ↓s_retI_p, ↓s_retR_p, ↓s_ret_p, ↓s_sw_p, isI_s, isI_z, isL_s, isL_z, isR_s, isR_z, gI_s, gI_z, gL_z, gR_s, gR_z, gA_s, isA_s, bdo_s, arOK_s, isVI_I, isVR_R, vInt_I, vInt_L, vRef_R, lenOf_s, lnOK_s, rHd_c, isHd_c, noL_z, noL_1, noL_s, nl_I, nl_R, nl_U, stI, stR, bd_t, oA, oS, oM, oD, oR, tn_add, tn_mul, tn_nat, eqb_t, eqb_f, ltb_t, ltb_f, leb_t, leb_f, nob_s, nob_n, nat_eq, nat_lt, nat_le, wK0 hW, wK1 hW, wK2 hW, wK3 hW, wK4 hW, wK5 hW, wR1 hW, wR2 hW, wR3 hW, wR4 hW, wR5 hW, hin, c1, b2i]
      exact fin _ _ (by rw [s0]) m0
    · have hst := step_in hd hh ht (by omega) hlt c1
      by_cases c2 : dst e n p h = t
      · have hnz : ¬ (ndS e n p &&& rcs e n h t 0 : Nat) = 0 := fun hz => (hst.1 hz) c2
        have s1 : rcs e n h t (p + 1) = rcs e n h t p ||| 2 ^ p := by
          apply tb_eq; intro q
          unfold rcs
          rw [tb_or, setB_tb, setB_tb, tb_pow]
          by_cases hq : q = p
          · subst hq; simp [rcd, hlt, c2]
          · have h3 : (q < p + 1) = (q < p) := by apply propext; omega
            have h4 : ¬ p = q := fun hh => hq hh.symm
            simp only [rcd, h3, h4, decide_false, Bool.or_false]
        have m1 : upI (setRow I (w + 3) n (stp e n h t p)) (w + 3) p (t : Int) = setRow I (w + 3) n (stp e n h t (p + 1)) := by
          funext a b
          simp only [upI, setRow]
          by_cases h1 : a = w + 3
          · by_cases h2 : b = p
            · subst h2; simp [h1, hlt, stp, rcd, c2]
            · have h3 : (b < p + 1) = (b < p) := by apply propext; omega
              simp [h1, h2, stp, rcd, h3]
          · simp [h1]
        generalize hQ : (ndS e n p &&& rcs e n h t 0 : Nat) = Q at *
        generalize hP : (rcs e n h t p ||| 2 ^ p : Nat) = P at *
        generalize setRow I (w + 3) n (stp e n h t p) = M at *
        simp (disch := omega) [-Int.not_le, -Int.not_lt, ↓e_ci_p, ↓e_lv_p, ↓l_lv_p, ↓r_lv_p, ↓r_null_p, ↓e_fld_p, ↓r_fld_p, ↓e_ald_p, ↓z_ald_p, ↓r_ald_p, ↓e_len_p, ↓e_op_p, ↓e_dv_p, ↓l_op_p, ↓l_dv_p, ↓l_sh_p, ↓e_lcmp_p, ↓e_l2i_p, ↓e_min_p, ↓c_b_p, ↓c_not_p, ↓c_and_p, ↓c_or_p, ↓c_null_p, ↓c_eq_p, ↓c_ne_p, ↓c_lt_p, ↓c_ge_p, ↓c_gt_p, ↓c_le_p, ↓e_cond_p, ↓x_tern_p, ↓a_nil_p, ↓a_I_p, ↓a_L_p, ↓a_R_p, ↓e_callV_p, ↓r_callV_p, ↓e_callS_p, ↓s_skip_p, ↓s_seq_p, ↓s_st_p, ↓s_stL_p, ↓s_stR_p, ↓s_inc_p, ↓s_put_p, ↓s_putZ_p, ↓s_putR_p, ↓s_putop_p, ↓s_ast_p, ↓s_zast_p, ↓s_rast_p, ↓s_astop_p, ↓s_callV_p, ↓s_popV_p, ↓s_if_p, ↓s_ite_p, ↓s_itr_p, ↓s_brk_p, ↓s_retI_p, ↓s_retR_p, ↓s_ret_p, ↓s_sw_p, isI_s, isI_z, isL_s, isL_z, isR_s, isR_z, gI_s, gI_z, gL_z, gR_s, gR_z, gA_s, isA_s, bdo_s, arOK_s, isVI_I, isVR_R, vInt_I, vInt_L, vRef_R, lenOf_s, lnOK_s, rHd_c, isHd_c, noL_z, noL_1, noL_s, nl_I, nl_R, nl_U, stI, stR, bd_t, oA, oS, oM, oD, oR, tn_add, tn_mul, tn_nat, eqb_t, eqb_f, ltb_t, ltb_f, leb_t, leb_f, nob_s, nob_n, nat_eq, nat_lt, nat_le, wK0 hW, wK1 hW, wK2 hW, wK3 hW, wK4 hW, wK5 hW, wR1 hW, wR2 hW, wR3 hW, wR4 hW, wR5 hW, hin, c1, b2i, r1, hand, hnz, hor]
        exact fin _ _ (by rw [s1]) m1
      · have hz : (ndS e n p &&& rcs e n h t 0 : Nat) = 0 := hst.2 c2
        have no : ¬ (¬ dst e n p h < t ∧ dst e n p h = t) := fun hh => c2 hh.2
        have m0 := mem0 no
        have s0 := set0 no
        rw [hz] at hand
        generalize setRow I (w + 3) n (stp e n h t p) = M at *
        simp (disch := omega) [-Int.not_le, -Int.not_lt, ↓e_ci_p, ↓e_lv_p, ↓l_lv_p, ↓r_lv_p, ↓r_null_p, ↓e_fld_p, ↓r_fld_p, ↓e_ald_p, ↓z_ald_p, ↓r_ald_p, ↓e_len_p, ↓e_op_p, ↓e_dv_p, ↓l_op_p, ↓l_dv_p, ↓l_sh_p, ↓e_lcmp_p, ↓e_l2i_p, ↓e_min_p, ↓c_b_p, ↓c_not_p, ↓c_and_p, ↓c_or_p, ↓c_null_p, ↓c_eq_p, ↓c_ne_p, ↓c_lt_p, ↓c_ge_p, ↓c_gt_p, ↓c_le_p, ↓e_cond_p, ↓x_tern_p, ↓a_nil_p, ↓a_I_p, ↓a_L_p, ↓a_R_p, ↓e_callV_p, ↓r_callV_p, ↓e_callS_p, ↓s_skip_p, ↓s_seq_p, ↓s_st_p, ↓s_stL_p, ↓s_stR_p, ↓s_inc_p, ↓s_put_p, ↓s_putZ_p, ↓s_putR_p, ↓s_putop_p, ↓s_ast_p, ↓s_zast_p, ↓s_rast_p, ↓s_astop_p, ↓s_callV_p, ↓s_popV_p, ↓s_if_p, ↓s_ite_p, ↓s_itr_p, ↓s_brk_p, ↓s_retI_p, ↓s_retR_p, ↓s_ret_p, ↓s_sw_p, isI_s, isI_z, isL_s, isL_z, isR_s, isR_z, gI_s, gI_z, gL_z, gR_s, gR_z, gA_s, isA_s, bdo_s, arOK_s, isVI_I, isVR_R, vInt_I, vInt_L, vRef_R, lenOf_s, lnOK_s, rHd_c, isHd_c, noL_z, noL_1, noL_s, nl_I, nl_R, nl_U, stI, stR, bd_t, oA, oS, oM, oD, oR, tn_add, tn_mul, tn_nat, eqb_t, eqb_f, ltb_t, ltb_f, leb_t, leb_f, nob_s, nob_n, nat_eq, nat_lt, nat_le, wK0 hW, wK1 hW, wK2 hW, wK3 hW, wK4 hW, wK5 hW, wR1 hW, wR2 hW, wR3 hW, wR4 hW, wR5 hW, hin, c1, b2i, r1, hand]
        exact fin _ _ (by rw [s0]) m0
  · rintro env st ⟨rfl, rfl⟩
    exact hkk
set_option maxHeartbeats 4000000 in
theorem X7_meas_2 (hW : isWeb kd R w) (hE : WEB I w e n) (hd : nsf e) {h : Nat} (hh : h < n) {v1 : AV} (h1 : nl v1 = true) {v4 v5 : AV} (h_v4 : nl v4 = true) (h_v5 : nl v5 = true) {a2 : Int} (e_a2 : vI a2 = vI ((rcs e n h (1) 0 : Nat) : Int)) {S0 : Nat → Nat → Int} (e_S : S0 = setRow I (w + 3) n (stp e n h (1) 0)) {Kn Kb : XE → XS → Prop} {Kr : AV → XS → Prop} 
    (hkk : ∀ v4 v5 : AV, nl v4 = true → nl v5 = true → Kn [vR (some w), v1, vI ((rcs e n h (n) 0 : Nat) : Int), vI ((n : Nat) : Int), v4, v5] (kd, setRow I (w + 3) n (stp e n h (n) 0), R)) : lp_X7_measureTo_2 Kn Kb Kr [vR (some w), v1, vI a2, vI 1, v4, v5] (kd, S0, R) := by
  unfold lp_X7_measureTo_2
  have hn := hE.2.1
  have hw0 := hE.1
  refine forUp (lo := 1) (n := n) (fun t env st => ∃ v4 v5 : AV, nl v4 = true ∧ nl v5 = true ∧ env = [vR (some w), v1, vI ((rcs e n h (t) 0 : Nat) : Int), vI (t : Int), v4, v5] ∧ st = (kd, setRow I (w + 3) n (stp e n h (t) 0), R)) (by omega) (by omega) ⟨v4, v5, h_v4, h_v5, by first | (rw [e_a2]; done) | (rw [e_a2]; rfl), by first | (rw [e_S]; done) | (rw [e_S]; rfl)⟩ ?_ ?_ ?_
  · rintro t env st hle ⟨v4, v5, h_v4, h_v5, rfl, rfl⟩
    first | exact ⟨rfl, fun K h => h⟩ | exact ⟨rfl, fun K h => ⟨_, rfl, h⟩⟩ | (refine ⟨rfl, fun K h => ?_⟩; simp (disch := omega) [-Int.not_le, -Int.not_lt, ↓e_ci_p, ↓e_lv_p, ↓l_lv_p, ↓r_lv_p, ↓r_null_p, ↓e_fld_p, ↓r_fld_p, ↓e_ald_p, ↓z_ald_p, ↓r_ald_p, ↓e_len_p, ↓e_op_p, ↓e_dv_p, ↓l_op_p, ↓l_dv_p, ↓l_sh_p, ↓e_lcmp_p, ↓e_l2i_p, ↓e_min_p, ↓c_b_p, ↓c_not_p, ↓c_and_p, ↓c_or_p, ↓c_null_p, ↓c_eq_p, ↓c_ne_p, ↓c_lt_p, ↓c_ge_p, ↓c_gt_p, ↓c_le_p, ↓e_cond_p, ↓x_tern_p, ↓a_nil_p, ↓a_I_p, ↓a_L_p, ↓a_R_p, ↓e_callV_p, ↓r_callV_p, ↓e_callS_p, ↓s_skip_p, ↓s_seq_p, ↓s_st_p, ↓s_stL_p, ↓s_stR_p, ↓s_inc_p, ↓s_put_p, ↓s_putZ_p, ↓s_putR_p, ↓s_putop_p, ↓s_ast_p, ↓s_zast_p, ↓s_rast_p, ↓s_astop_p, ↓s_callV_p, ↓s_popV_p, ↓s_if_p, ↓s_ite_p, ↓s_itr_p, ↓s_brk_p, ↓s_retI_p, ↓s_retR_p, ↓s_ret_p, ↓s_sw_p, isI_s, isI_z, isL_s, isL_z, isR_s, isR_z, gI_s, gI_z, gL_z, gR_s, gR_z, gA_s, isA_s, bdo_s, arOK_s, isVI_I, isVR_R, vInt_I, vInt_L, vRef_R, lenOf_s, lnOK_s, rHd_c, isHd_c, noL_z, noL_1, noL_s, nl_I, nl_R, nl_U, stI, stR, bd_t, oA, oS, oM, oD, oR, tn_add, tn_mul, tn_nat, eqb_t, eqb_f, ltb_t, ltb_f, leb_t, leb_f, nob_s, nob_n, nat_eq, nat_lt, nat_le, wK0 hW, wK1 hW, wK2 hW, wK3 hW, wK4 hW, wK5 hW, wR1 hW, wR2 hW, wR3 hW, wR4 hW, wR5 hW, (show ∀ f, setRow I (w + 3) n f w 0 = (n : Int) from fun f => by rw [setRow_row (by omega)]; exact hw0)]; first | exact h | simpa using h)
  · rintro t env st hlo hlt ⟨v4, v5, h_v4, h_v5, rfl, rfl⟩ Kx hx
    have fin : ∀ (b2 : Int) (S' : Nat → Nat → Int) (v4' v5' : AV) , vI b2 = vI ((rcs e n h (t + 1) 0 : Nat) : Int) → S' = setRow I (w + 3) n (stp e n h (t + 1) 0) → nl v4' = true → nl v5' = true → Kx [vR (some w), v1, vI b2, vI (t : Int), v4', v5'] (kd, S', R) := by
      intro b2 S' v4' v5' q_a2 q_S q_v4 q_v5
      subst q_S
      exact hx _ _ rfl (by simp [noL_z, noL_1, noL_s, nl_I, nl_R, nl_U, q_v4, q_v5, h_v4, h_v5]) ⟨v4', v5', q_v4, q_v5, by simp [q_a2], rfl⟩
    simp (disch := omega) [-Int.not_le, -Int.not_lt, ↓e_ci_p, ↓r_null_p, ↓a_nil_p, ↓s_skip_p, ↓s_inc_p, ↓s_brk_p, ↓s_ret_p, ↓lvI_s, ↓lvI_z, ↓lvL_s, ↓lvL_z, ↓lvR_s, ↓lvR_z, ↓e_lv_q, ↓l_lv_q, ↓r_lv_q, ↓kFld_q, ↓e_fld_q, ↓kFlR_q, ↓r_fld_q, ↓kAl1_q, ↓kAl2_q, ↓e_ald_q, ↓z_ald_q, ↓kAr1_q, ↓kAr2_q, ↓r_ald_q, ↓kLen_q, ↓e_len_q, ↓kO1_q, ↓kO2_q, ↓kD1_q, ↓kD2_q, ↓e_op_q, ↓e_dv_q, ↓l_op_q, ↓l_dv_q, ↓l_sh_q, ↓e_lcmp_q, ↓e_min_q, ↓kL2i_q, ↓e_l2i_q, ↓kB1_q, ↓kB2_q, ↓c_eq_q, ↓c_ne_q, ↓c_lt_q, ↓c_ge_q, ↓c_gt_q, ↓c_le_q, ↓kCb_q, ↓kCb_0, ↓kCb_1, ↓c_b_q, ↓kNot_q, ↓c_not_q, ↓kAnd_q, ↓c_and_q, ↓kOr_q, ↓c_or_q, ↓kNul_q, ↓c_null_q, ↓kCond_q, ↓e_cond_q, ↓kTern_q, ↓x_tern_q, ↓kA2_q, ↓kAI_q, ↓kAL_q, ↓kAR_q, ↓a_I_q, ↓a_L_q, ↓a_R_q, ↓kCall_q, ↓kCalS_q, ↓kRI_q, ↓kRR_q, ↓kRU_q, ↓kRP_q, ↓e_callV_q, ↓r_callV_q, ↓e_callS_q, ↓s_callV_q, ↓s_popV_q, ↓s_seq_q, ↓kSt_q, ↓s_st_q, ↓kStL_q, ↓s_stL_q, ↓kStR_q, ↓s_stR_q, ↓kPut1_q, ↓kPut2_q, ↓s_put_q, ↓kPz1_q, ↓kPz2_q, ↓s_putZ_q, ↓kPr1_q, ↓kPr2_q, ↓s_putR_q, ↓kPo1_q, ↓kPo2_q, ↓s_putop_q, ↓kAs1_q, ↓kAs2_q, ↓kAs3_q, ↓s_ast_q, ↓kZs1_q, ↓kZs2_q, ↓kZs3_q, ↓s_zast_q, ↓kRs1_q, ↓kRs2_q, ↓kRs3_q, ↓s_rast_q, ↓kAo1_q, ↓kAo2_q, ↓kAo3_q, ↓s_astop_q, ↓kIf_q, ↓s_if_q, ↓kIte_q, ↓s_ite_q, ↓kItr_q, ↓s_itr_q, ↓kRet_q, ↓s_retI_q, ↓kReR_q, ↓s_retR_q, ↓kSw_q, ↓s_sw_q, lvI_s, lvI_z, lvL_s, lvL_z, lvR_s, lvR_z, kFld_q, kFlR_q, kAl1_q, kAl2_q, kAr1_q, kAr2_q, kLen_q, kO1_q, kO2_q, kD1_q, kD2_q, kL2i_q, kB1_q, kB2_q, kCb_q, kCb_0, kCb_1, kNot_q, kAnd_q, kOr_q, kNul_q, kCond_q, kTern_q, kA2_q, kAI_q, kAL_q, kAR_q, kCall_q, kCalS_q, kRI_q, kRR_q, kRU_q, kRP_q, kSt_q, kStL_q, kStR_q, kPut1_q, kPut2_q, kPz1_q, kPz2_q, kPr1_q, kPr2_q, kPo1_q, kPo2_q, kAs1_q, kAs2_q, kAs3_q, kZs1_q, kZs2_q, kZs3_q, kRs1_q, kRs2_q, kRs3_q, kAo1_q, kAo2_q, kAo3_q, kIf_q, kIte_q, kItr_q, kRet_q, kReR_q, kSw_q, neb_q, gtb_q, geb_q, lnB_s, isI_s, isI_z, gI_s, gI_z, gR_s, gR_z, gA_s, isA_s, bdo_s, rHd_c, isHd_c, noL_z, noL_1, noL_s, nl_I, nl_R, nl_U, stI, stR, bd_t, oA, oS, oM, oD, oR, tn_add, tn_mul, tn_nat, eqb_t, eqb_f, ltb_t, ltb_f, leb_t, leb_f, nob_s, nob_n, nat_eq, nat_lt, nat_le, wK0 hW, wK1 hW, wK2 hW, wK3 hW, wK4 hW, wK5 hW, wR1 hW, wR2 hW, wR3 hW, wR4 hW, wR5 hW, h_v4, h_v5]
    refine X7_meas_1 hW hE hd hh hlo hlt rfl rfl ?_
    simp (disch := omega) [-Int.not_le, -Int.not_lt, ↓e_ci_p, ↓r_null_p, ↓a_nil_p, ↓s_skip_p, ↓s_inc_p, ↓s_brk_p, ↓s_ret_p, ↓lvI_s, ↓lvI_z, ↓lvL_s, ↓lvL_z, ↓lvR_s, ↓lvR_z, ↓e_lv_q, ↓l_lv_q, ↓r_lv_q, ↓kFld_q, ↓e_fld_q, ↓kFlR_q, ↓r_fld_q, ↓kAl1_q, ↓kAl2_q, ↓e_ald_q, ↓z_ald_q, ↓kAr1_q, ↓kAr2_q, ↓r_ald_q, ↓kLen_q, ↓e_len_q, ↓kO1_q, ↓kO2_q, ↓kD1_q, ↓kD2_q, ↓e_op_q, ↓e_dv_q, ↓l_op_q, ↓l_dv_q, ↓l_sh_q, ↓e_lcmp_q, ↓e_min_q, ↓kL2i_q, ↓e_l2i_q, ↓kB1_q, ↓kB2_q, ↓c_eq_q, ↓c_ne_q, ↓c_lt_q, ↓c_ge_q, ↓c_gt_q, ↓c_le_q, ↓kCb_q, ↓kCb_0, ↓kCb_1, ↓c_b_q, ↓kNot_q, ↓c_not_q, ↓kAnd_q, ↓c_and_q, ↓kOr_q, ↓c_or_q, ↓kNul_q, ↓c_null_q, ↓kCond_q, ↓e_cond_q, ↓kTern_q, ↓x_tern_q, ↓kA2_q, ↓kAI_q, ↓kAL_q, ↓kAR_q, ↓a_I_q, ↓a_L_q, ↓a_R_q, ↓kCall_q, ↓kCalS_q, ↓kRI_q, ↓kRR_q, ↓kRU_q, ↓kRP_q, ↓e_callV_q, ↓r_callV_q, ↓e_callS_q, ↓s_callV_q, ↓s_popV_q, ↓s_seq_q, ↓kSt_q, ↓s_st_q, ↓kStL_q, ↓s_stL_q, ↓kStR_q, ↓s_stR_q, ↓kPut1_q, ↓kPut2_q, ↓s_put_q, ↓kPz1_q, ↓kPz2_q, ↓s_putZ_q, ↓kPr1_q, ↓kPr2_q, ↓s_putR_q, ↓kPo1_q, ↓kPo2_q, ↓s_putop_q, ↓kAs1_q, ↓kAs2_q, ↓kAs3_q, ↓s_ast_q, ↓kZs1_q, ↓kZs2_q, ↓kZs3_q, ↓s_zast_q, ↓kRs1_q, ↓kRs2_q, ↓kRs3_q, ↓s_rast_q, ↓kAo1_q, ↓kAo2_q, ↓kAo3_q, ↓s_astop_q, ↓kIf_q, ↓s_if_q, ↓kIte_q, ↓s_ite_q, ↓kItr_q, ↓s_itr_q, ↓kRet_q, ↓s_retI_q, ↓kReR_q, ↓s_retR_q, ↓kSw_q, ↓s_sw_q, lvI_s, lvI_z, lvL_s, lvL_z, lvR_s, lvR_z, kFld_q, kFlR_q, kAl1_q, kAl2_q, kAr1_q, kAr2_q, kLen_q, kO1_q, kO2_q, kD1_q, kD2_q, kL2i_q, kB1_q, kB2_q, kCb_q, kCb_0, kCb_1, kNot_q, kAnd_q, kOr_q, kNul_q, kCond_q, kTern_q, kA2_q, kAI_q, kAL_q, kAR_q, kCall_q, kCalS_q, kRI_q, kRR_q, kRU_q, kRP_q, kSt_q, kStL_q, kStR_q, kPut1_q, kPut2_q, kPz1_q, kPz2_q, kPr1_q, kPr2_q, kPo1_q, kPo2_q, kAs1_q, kAs2_q, kAs3_q, kZs1_q, kZs2_q, kZs3_q, kRs1_q, kRs2_q, kRs3_q, kAo1_q, kAo2_q, kAo3_q, kIf_q, kIte_q, kItr_q, kRet_q, kReR_q, kSw_q, neb_q, gtb_q, geb_q, lnB_s, isI_s, isI_z, gI_s, gI_z, gR_s, gR_z, gA_s, isA_s, bdo_s, rHd_c, isHd_c, noL_z, noL_1, noL_s, nl_I, nl_R, nl_U, stI, stR, bd_t, oA, oS, oM, oD, oR, tn_add, tn_mul, tn_nat, eqb_t, eqb_f, ltb_t, ltb_f, leb_t, leb_f, nob_s, nob_n, nat_eq, nat_lt, nat_le, wK0 hW, wK1 hW, wK2 hW, wK3 hW, wK4 hW, wK5 hW, wR1 hW, wR2 hW, wR3 hW, wR4 hW, wR5 hW, h1]
    refine fin _ _ _ _ ?_ (setRow_congr (f := stp e n h t n) (g := stp e n h (t + 1) 0) (fun j hj => by unfold stp; rw [rcd_n hj])) (nl_I _) (nl_I _)
    rw [show rcs e n h (t + 1) 0 = rcs e n h t n from setB_congr (fun q hq => (rcd_n hq).symm)]
  · rintro env st ⟨v4, v5, h_v4, h_v5, rfl, rfl⟩
    exact hkk v4 v5 h_v4 h_v5
/-- the steps to h are laid -/
def STP (J : Nat → Nat → Int) (w : Nat) (e : Nat → Int) (n h : Nat) : Prop := ∀ p, p < n → J (w + 3) p = enc (dst e n p h)
theorem X7_measureTo_ok (hW : isWeb kd R w) (hE : WEB I w e n) (hd : nsf e) {h : Nat} (hh : h < n) (hk : ∀ J, (∀ x, x ≠ w + 3 → J x = I x) → STP J w e n h → K vU (kd, J, R)) : B_X7_measureTo [vR (some w), vI (h : Int)] (kd, I, R) K := by
  have hn := hE.2.1
  have es : o2 f_ishl 1 (h : Int) = ((2 ^ h : Nat) : Int) := by rw [oSh1 (by omega) (by omega), tn_nat]
  have e1 : rcs e n h 1 0 = 2 ^ h := by
    apply tb_eq; intro q
    unfold rcs
    rw [setB_tb, tb_pow]
    by_cases hq : q = h
    · subst hq; rw [rcd_0, dst_self]; simp [hh]
    · have h4 : ¬ h = q := fun hh => hq hh.symm
      by_cases hqn : q < n
      · have := dst_pos (e := e) hh hq
        have h5 : ¬ dst e n q h < ((1 : Nat) : Int) := by omega
        simp only [rcd_0, h5, h4, decide_false, Bool.and_false]
      · simp [hqn, h4]
  have e2 : upI (setRow I (w + 3) n (fun _ => -1)) (w + 3) h 0 = setRow I (w + 3) n (stp e n h 1 0) := by
    funext a b
    simp only [upI, setRow]
    by_cases h1 : a = w + 3
    · by_cases h2 : b = h
      · subst h2; simp [h1, hh, stp, rcd_0, dst_self]
      · by_cases h3 : b < n
        · have := dst_pos (e := e) hh h2
          have h5 : ¬ dst e n b h < ((1 : Nat) : Int) := by omega
          simp only [h1, h2, h3, stp, rcd_0, h5, decide_false, and_false, and_true, if_false, if_true]
          simp
        · simp [h1, h2, h3]
    · simp [h1]
  simp [B_X7_measureTo, bodyOf, envOf, exA, catV, rkOK]
  simp (disch := omega) [t_X7_measureTo, -Int.not_le, -Int.not_lt, ↓e_ci_p, ↓r_null_p, ↓a_nil_p, ↓s_skip_p, ↓s_inc_p, ↓s_brk_p, ↓s_ret_p, ↓lvI_s, ↓lvI_z, ↓lvL_s, ↓lvL_z, ↓lvR_s, ↓lvR_z, ↓e_lv_q, ↓l_lv_q, ↓r_lv_q, ↓kFld_q, ↓e_fld_q, ↓kFlR_q, ↓r_fld_q, ↓kAl1_q, ↓kAl2_q, ↓e_ald_q, ↓z_ald_q, ↓kAr1_q, ↓kAr2_q, ↓r_ald_q, ↓kLen_q, ↓e_len_q, ↓kO1_q, ↓kO2_q, ↓kD1_q, ↓kD2_q, ↓e_op_q, ↓e_dv_q, ↓l_op_q, ↓l_dv_q, ↓l_sh_q, ↓e_lcmp_q, ↓e_min_q, ↓kL2i_q, ↓e_l2i_q, ↓kB1_q, ↓kB2_q, ↓c_eq_q, ↓c_ne_q, ↓c_lt_q, ↓c_ge_q, ↓c_gt_q, ↓c_le_q, ↓kCb_q, ↓kCb_0, ↓kCb_1, ↓c_b_q, ↓kNot_q, ↓c_not_q, ↓kAnd_q, ↓c_and_q, ↓kOr_q, ↓c_or_q, ↓kNul_q, ↓c_null_q, ↓kCond_q, ↓e_cond_q, ↓kTern_q, ↓x_tern_q, ↓kA2_q, ↓kAI_q, ↓kAL_q, ↓kAR_q, ↓a_I_q, ↓a_L_q, ↓a_R_q, ↓kCall_q, ↓kCalS_q, ↓kRI_q, ↓kRR_q, ↓kRU_q, ↓kRP_q, ↓e_callV_q, ↓r_callV_q, ↓e_callS_q, ↓s_callV_q, ↓s_popV_q, ↓s_seq_q, ↓kSt_q, ↓s_st_q, ↓kStL_q, ↓s_stL_q, ↓kStR_q, ↓s_stR_q, ↓kPut1_q, ↓kPut2_q, ↓s_put_q, ↓kPz1_q, ↓kPz2_q, ↓s_putZ_q, ↓kPr1_q, ↓kPr2_q, ↓s_putR_q, ↓kPo1_q, ↓kPo2_q, ↓s_putop_q, ↓kAs1_q, ↓kAs2_q, ↓kAs3_q, ↓s_ast_q, ↓kZs1_q, ↓kZs2_q, ↓kZs3_q, ↓s_zast_q, ↓kRs1_q, ↓kRs2_q, ↓kRs3_q, ↓s_rast_q, ↓kAo1_q, ↓kAo2_q, ↓kAo3_q, ↓s_astop_q, ↓kIf_q, ↓s_if_q, ↓kIte_q, ↓s_ite_q, ↓kItr_q, ↓s_itr_q, ↓kRet_q, ↓s_retI_q, ↓kReR_q, ↓s_retR_q, ↓kSw_q, ↓s_sw_q, lvI_s, lvI_z, lvL_s, lvL_z, lvR_s, lvR_z, kFld_q, kFlR_q, kAl1_q, kAl2_q, kAr1_q, kAr2_q, kLen_q, kO1_q, kO2_q, kD1_q, kD2_q, kL2i_q, kB1_q, kB2_q, kCb_q, kCb_0, kCb_1, kNot_q, kAnd_q, kOr_q, kNul_q, kCond_q, kTern_q, kA2_q, kAI_q, kAL_q, kAR_q, kCall_q, kCalS_q, kRI_q, kRR_q, kRU_q, kRP_q, kSt_q, kStL_q, kStR_q, kPut1_q, kPut2_q, kPz1_q, kPz2_q, kPr1_q, kPr2_q, kPo1_q, kPo2_q, kAs1_q, kAs2_q, kAs3_q, kZs1_q, kZs2_q, kZs3_q, kRs1_q, kRs2_q, kRs3_q, kAo1_q, kAo2_q, kAo3_q, kIf_q, kIte_q, kItr_q, kRet_q, kReR_q, kSw_q, neb_q, gtb_q, geb_q, lnB_s, isI_s, isI_z, gI_s, gI_z, gR_s, gR_z, gA_s, isA_s, bdo_s, rHd_c, isHd_c, noL_z, noL_1, noL_s, nl_I, nl_R, nl_U, stI, stR, bd_t, oA, oS, oM, oD, oR, tn_add, tn_mul, tn_nat, eqb_t, eqb_f, ltb_t, ltb_f, leb_t, leb_f, nob_s, nob_n, nat_eq, nat_lt, nat_le, wK0 hW, wK1 hW, wK2 hW, wK3 hW, wK4 hW, wK5 hW, wR1 hW, wR2 hW, wR3 hW, wR4 hW, wR5 hW]
  refine X7_meas_0 (I := I) (n := n) hW hn hE.1 rfl setRow_0.symm ?_
  simp (disch := omega) [-Int.not_le, -Int.not_lt, ↓e_ci_p, ↓e_lv_p, ↓l_lv_p, ↓r_lv_p, ↓r_null_p, ↓e_fld_p, ↓r_fld_p, ↓e_ald_p, ↓z_ald_p, ↓r_ald_p, ↓e_len_p, ↓e_op_p, ↓e_dv_p, ↓l_op_p, ↓l_dv_p, ↓l_sh_p, ↓e_lcmp_p, ↓e_l2i_p, ↓e_min_p, ↓c_b_p, ↓c_not_p, ↓c_and_p, ↓c_or_p, ↓c_null_p, ↓c_eq_p, ↓c_ne_p, ↓c_lt_p, ↓c_ge_p, ↓c_gt_p, ↓c_le_p, ↓e_cond_p, ↓x_tern_p, ↓a_nil_p, ↓a_I_p, ↓a_L_p, ↓a_R_p, ↓e_callV_p, ↓r_callV_p, ↓e_callS_p, ↓s_skip_p, ↓s_seq_p, ↓s_st_p, ↓s_stL_p, ↓s_stR_p, ↓s_inc_p, ↓s_put_p, ↓s_putZ_p, ↓s_putR_p, ↓s_putop_p, ↓s_ast_p, ↓s_zast_p, ↓s_rast_p, ↓s_astop_p, ↓s_callV_p, ↓s_popV_p, ↓s_if_p, ↓s_ite_p, ↓s_itr_p, ↓s_brk_p, ↓s_retI_p, ↓s_retR_p, ↓s_ret_p, ↓s_sw_p, isI_s, isI_z, isL_s, isL_z, isR_s, isR_z, gI_s, gI_z, gL_z, gR_s, gR_z, gA_s, isA_s, bdo_s, arOK_s, isVI_I, isVR_R, vInt_I, vInt_L, vRef_R, lenOf_s, lnOK_s, rHd_c, isHd_c, noL_z, noL_1, noL_s, nl_I, nl_R, nl_U, stI, stR, bd_t, oA, oS, oM, oD, oR, tn_add, tn_mul, tn_nat, eqb_t, eqb_f, ltb_t, ltb_f, leb_t, leb_f, nob_s, nob_n, nat_eq, nat_lt, nat_le, wK0 hW, wK1 hW, wK2 hW, wK3 hW, wK4 hW, wK5 hW, wR1 hW, wR2 hW, wR3 hW, wR4 hW, wR5 hW, es]
  rw [e2]
  have e1' : ((2 ^ h : Nat) : Int) = ((rcs e n h 1 0 : Nat) : Int) := by rw [e1]
  first | rw [e1'] | (simp only [Int.natCast_pow] at e1'; rw [show ((2 : Int) ^ h) = ((rcs e n h 1 0 : Nat) : Int) from by simpa using e1'])
  refine X7_meas_2 (I := I) (n := n) (e := e) hW hE hd hh rfl rfl rfl rfl rfl (fun v4 v5 _ _ => ?_)
  try simp (disch := omega) [-Int.not_le, -Int.not_lt, ↓e_ci_p, ↓r_null_p, ↓a_nil_p, ↓s_skip_p, ↓s_inc_p, ↓s_brk_p, ↓s_ret_p, ↓lvI_s, ↓lvI_z, ↓lvL_s, ↓lvL_z, ↓lvR_s, ↓lvR_z, ↓e_lv_q, ↓l_lv_q, ↓r_lv_q, ↓kFld_q, ↓e_fld_q, ↓kFlR_q, ↓r_fld_q, ↓kAl1_q, ↓kAl2_q, ↓e_ald_q, ↓z_ald_q, ↓kAr1_q, ↓kAr2_q, ↓r_ald_q, ↓kLen_q, ↓e_len_q, ↓kO1_q, ↓kO2_q, ↓kD1_q, ↓kD2_q, ↓e_op_q, ↓e_dv_q, ↓l_op_q, ↓l_dv_q, ↓l_sh_q, ↓e_lcmp_q, ↓e_min_q, ↓kL2i_q, ↓e_l2i_q, ↓kB1_q, ↓kB2_q, ↓c_eq_q, ↓c_ne_q, ↓c_lt_q, ↓c_ge_q, ↓c_gt_q, ↓c_le_q, ↓kCb_q, ↓kCb_0, ↓kCb_1, ↓c_b_q, ↓kNot_q, ↓c_not_q, ↓kAnd_q, ↓c_and_q, ↓kOr_q, ↓c_or_q, ↓kNul_q, ↓c_null_q, ↓kCond_q, ↓e_cond_q, ↓kTern_q, ↓x_tern_q, ↓kA2_q, ↓kAI_q, ↓kAL_q, ↓kAR_q, ↓a_I_q, ↓a_L_q, ↓a_R_q, ↓kCall_q, ↓kCalS_q, ↓kRI_q, ↓kRR_q, ↓kRU_q, ↓kRP_q, ↓e_callV_q, ↓r_callV_q, ↓e_callS_q, ↓s_callV_q, ↓s_popV_q, ↓s_seq_q, ↓kSt_q, ↓s_st_q, ↓kStL_q, ↓s_stL_q, ↓kStR_q, ↓s_stR_q, ↓kPut1_q, ↓kPut2_q, ↓s_put_q, ↓kPz1_q, ↓kPz2_q, ↓s_putZ_q, ↓kPr1_q, ↓kPr2_q, ↓s_putR_q, ↓kPo1_q, ↓kPo2_q, ↓s_putop_q, ↓kAs1_q, ↓kAs2_q, ↓kAs3_q, ↓s_ast_q, ↓kZs1_q, ↓kZs2_q, ↓kZs3_q, ↓s_zast_q, ↓kRs1_q, ↓kRs2_q, ↓kRs3_q, ↓s_rast_q, ↓kAo1_q, ↓kAo2_q, ↓kAo3_q, ↓s_astop_q, ↓kIf_q, ↓s_if_q, ↓kIte_q, ↓s_ite_q, ↓kItr_q, ↓s_itr_q, ↓kRet_q, ↓s_retI_q, ↓kReR_q, ↓s_retR_q, ↓kSw_q, ↓s_sw_q, lvI_s, lvI_z, lvL_s, lvL_z, lvR_s, lvR_z, kFld_q, kFlR_q, kAl1_q, kAl2_q, kAr1_q, kAr2_q, kLen_q, kO1_q, kO2_q, kD1_q, kD2_q, kL2i_q, kB1_q, kB2_q, kCb_q, kCb_0, kCb_1, kNot_q, kAnd_q, kOr_q, kNul_q, kCond_q, kTern_q, kA2_q, kAI_q, kAL_q, kAR_q, kCall_q, kCalS_q, kRI_q, kRR_q, kRU_q, kRP_q, kSt_q, kStL_q, kStR_q, kPut1_q, kPut2_q, kPz1_q, kPz2_q, kPr1_q, kPr2_q, kPo1_q, kPo2_q, kAs1_q, kAs2_q, kAs3_q, kZs1_q, kZs2_q, kZs3_q, kRs1_q, kRs2_q, kRs3_q, kAo1_q, kAo2_q, kAo3_q, kIf_q, kIte_q, kItr_q, kRet_q, kReR_q, kSw_q, neb_q, gtb_q, geb_q, lnB_s, isI_s, isI_z, gI_s, gI_z, gR_s, gR_z, gA_s, isA_s, bdo_s, rHd_c, isHd_c, noL_z, noL_1, noL_s, nl_I, nl_R, nl_U, stI, stR, bd_t, oA, oS, oM, oD, oR, tn_add, tn_mul, tn_nat, eqb_t, eqb_f, ltb_t, ltb_f, leb_t, leb_f, nob_s, nob_n, nat_eq, nat_lt, nat_le, wK0 hW, wK1 hW, wK2 hW, wK3 hW, wK4 hW, wK5 hW, wR1 hW, wR2 hW, wR3 hW, wR4 hW, wR5 hW]
  refine hk _ (fun x hx => setRow_row hx) (fun p hp => ?_)
  rw [setRow_at hp]
  unfold stp enc
  rw [rcd_0]
  by_cases c : dst e n p h < 1000000
  · have := dst_lt (e := e) hp hh c
    simp [c, this]
  · have : ¬ dst e n p h < n := by omega
    simp [c, this]
set_option maxHeartbeats 4000000 in
theorem X7_next_0 (hW : isWeb kd R w) (hE : WEB I w e n) (hd : nsf e) {h p : Nat} (hh : h < n) (hp : p < n) (hph : p ≠ h) (hfin : dst e n p h < 1000000) (hS : STP I w e n h) (h_Q : ∀ j, j < (0) → nxp e n h p j = false) {Kn Kb : XE → XS → Prop} {Kr : AV → XS → Prop} (hret : Kr (vI ((nxt e n h p : Nat) : Int)) (kd, I, R))
    (hkk : (∀ j, j < (n) → nxp e n h p j = false) → Kn [vR (some w), vI (p : Int), vI ((n : Nat) : Int)] (kd, I, R)) : lp_X7_nextTowardsHome_0 Kn Kb Kr [vR (some w), vI (p : Int), vI 0] (kd, I, R) := by
  unfold lp_X7_nextTowardsHome_0
  have hn := hE.2.1
  have hw0 := hE.1
  refine forUp (lo := 0) (n := n) (fun q env st => (∀ j, j < (q) → nxp e n h p j = false) ∧ env = [vR (some w), vI (p : Int), vI (q : Int)] ∧ st = (kd, I, R)) (by omega) (by omega) ⟨h_Q, rfl, rfl⟩ ?_ ?_ ?_
  · rintro q env st hle ⟨h_Q, rfl, rfl⟩
    first | exact ⟨rfl, fun K h => h⟩ | exact ⟨rfl, fun K h => ⟨_, rfl, h⟩⟩ | (refine ⟨rfl, fun K h => ?_⟩; simp (disch := omega) [-Int.not_le, -Int.not_lt, ↓e_ci_p, ↓e_lv_p, ↓l_lv_p, ↓r_lv_p, ↓r_null_p, ↓e_fld_p, ↓r_fld_p, ↓e_ald_p, ↓z_ald_p, ↓r_ald_p, ↓e_len_p, ↓e_op_p, ↓e_dv_p, ↓l_op_p, ↓l_dv_p, ↓l_sh_p, ↓e_lcmp_p, ↓e_l2i_p, ↓e_min_p, ↓c_b_p, ↓c_not_p, ↓c_and_p, ↓c_or_p, ↓c_null_p, ↓c_eq_p, ↓c_ne_p, ↓c_lt_p, ↓c_ge_p, ↓c_gt_p, ↓c_le_p, ↓e_cond_p, ↓x_tern_p, ↓a_nil_p, ↓a_I_p, ↓a_L_p, ↓a_R_p, ↓e_callV_p, ↓r_callV_p, ↓e_callS_p, ↓s_skip_p, ↓s_seq_p, ↓s_st_p, ↓s_stL_p, ↓s_stR_p, ↓s_inc_p, ↓s_put_p, ↓s_putZ_p, ↓s_putR_p, ↓s_putop_p, ↓s_ast_p, ↓s_zast_p, ↓s_rast_p, ↓s_astop_p, ↓s_callV_p, ↓s_popV_p, ↓s_if_p, ↓s_ite_p, ↓s_itr_p, ↓s_brk_p, ↓s_retI_p, ↓s_retR_p, ↓s_ret_p, ↓s_sw_p, isI_s, isI_z, isL_s, isL_z, isR_s, isR_z, gI_s, gI_z, gL_z, gR_s, gR_z, gA_s, isA_s, bdo_s, arOK_s, isVI_I, isVR_R, vInt_I, vInt_L, vRef_R, lenOf_s, lnOK_s, rHd_c, isHd_c, noL_z, noL_1, noL_s, nl_I, nl_R, nl_U, stI, stR, bd_t, oA, oS, oM, oD, oR, tn_add, tn_mul, tn_nat, eqb_t, eqb_f, ltb_t, ltb_f, leb_t, leb_f, nob_s, nob_n, nat_eq, nat_lt, nat_le, wK0 hW, wK1 hW, wK2 hW, wK3 hW, wK4 hW, wK5 hW, wR1 hW, wR2 hW, wR3 hW, wR4 hW, wR5 hW, hw0]; first | exact h | simpa using h)
  · rintro q env st hlo hlt ⟨h_Q, rfl, rfl⟩ Kx hx
    have fin : ∀ (S' : Nat → Nat → Int) , S' = I → (∀ j, j < (q + 1) → nxp e n h p j = false) → Kx [vR (some w), vI (p : Int), vI (q : Int)] (kd, S', R) := by
      intro S' q_S q_Q
      subst q_S
      exact hx _ _ rfl (by simp [noL_z, noL_1, noL_s, nl_I, nl_R, nl_U]) ⟨q_Q, rfl, rfl⟩
    have i1 := fun (K : AV → XS → Prop) => X7_isTie_eq (K := K) hW hE hp hlt
    have s1 := hS p hp
    have s2 := hS q hlt
    have d1 := dst_nn (e := e) n p h
    have d2 := dst_nn (e := e) n q h
    have dp := dst_pos (e := e) hh hph
    have ep : enc (dst e n p h) = dst e n p h := by unfold enc; rw [if_pos hfin]
    rw [ep] at s1
    have eq : (enc (dst e n q h) = dst e n p h - 1) = (dst e n q h = dst e n p h - 1) := by
      apply propext; unfold enc; split <;> omega
    have go : nxp e n h p q = false → Kx [vR (some w), vI (p : Int), vI (q : Int)] (kd, I, R) := by
      intro hno
      refine fin _ rfl (fun j hj => ?_)
      by_cases hjq : j = q
      · rw [hjq]; exact hno
      · exact h_Q j (by omega)
    by_cases c1 : 0 < e (10 * p + q)
    · have hpq : q ≠ p := fun hh => by rw [hh] at c1; exact hd p c1
      by_cases c2 : dst e n q h = dst e n p h - 1
      · have hx : nxp e n h p q = true := by simp [nxp, hpq, c1, c2]
        have : nxt e n h p = q := fstN_eq (by omega) h_Q (fun _ => hx)
        rw [this] at hret
        have c2' : enc (dst e n q h) = dst e n p h - 1 := by rw [eq]; exact c2
        simp (disch := omega) [-Int.not_le, -Int.not_lt, ↓e_ci_p, ↓r_null_p, ↓a_nil_p, ↓s_skip_p, ↓s_inc_p, ↓s_brk_p, ↓s_ret_p, ↓lvI_s, ↓lvI_z, ↓lvL_s, ↓lvL_z, ↓lvR_s, ↓lvR_z, ↓e_lv_q, ↓l_lv_q, ↓r_lv_q, ↓kFld_q, ↓e_fld_q, ↓kFlR_q, ↓r_fld_q, ↓kAl1_q, ↓kAl2_q, ↓e_ald_q, ↓z_ald_q, ↓kAr1_q, ↓kAr2_q, ↓r_ald_q, ↓kLen_q, ↓e_len_q, ↓kO1_q, ↓kO2_q, ↓kD1_q, ↓kD2_q, ↓e_op_q, ↓e_dv_q, ↓l_op_q, ↓l_dv_q, ↓l_sh_q, ↓e_lcmp_q, ↓e_min_q, ↓kL2i_q, ↓e_l2i_q, ↓kB1_q, ↓kB2_q, ↓c_eq_q, ↓c_ne_q, ↓c_lt_q, ↓c_ge_q, ↓c_gt_q, ↓c_le_q, ↓kCb_q, ↓kCb_0, ↓kCb_1, ↓c_b_q, ↓kNot_q, ↓c_not_q, ↓kAnd_q, ↓c_and_q, ↓kOr_q, ↓c_or_q, ↓kNul_q, ↓c_null_q, ↓kCond_q, ↓e_cond_q, ↓kTern_q, ↓x_tern_q, ↓kA2_q, ↓kAI_q, ↓kAL_q, ↓kAR_q, ↓a_I_q, ↓a_L_q, ↓a_R_q, ↓kCall_q, ↓kCalS_q, ↓kRI_q, ↓kRR_q, ↓kRU_q, ↓kRP_q, ↓e_callV_q, ↓r_callV_q, ↓e_callS_q, ↓s_callV_q, ↓s_popV_q, ↓s_seq_q, ↓kSt_q, ↓s_st_q, ↓kStL_q, ↓s_stL_q, ↓kStR_q, ↓s_stR_q, ↓kPut1_q, ↓kPut2_q, ↓s_put_q, ↓kPz1_q, ↓kPz2_q, ↓s_putZ_q, ↓kPr1_q, ↓kPr2_q, ↓s_putR_q, ↓kPo1_q, ↓kPo2_q, ↓s_putop_q, ↓kAs1_q, ↓kAs2_q, ↓kAs3_q, ↓s_ast_q, ↓kZs1_q, ↓kZs2_q, ↓kZs3_q, ↓s_zast_q, ↓kRs1_q, ↓kRs2_q, ↓kRs3_q, ↓s_rast_q, ↓kAo1_q, ↓kAo2_q, ↓kAo3_q, ↓s_astop_q, ↓kIf_q, ↓s_if_q, ↓kIte_q, ↓s_ite_q, ↓kItr_q, ↓s_itr_q, ↓kRet_q, ↓s_retI_q, ↓kReR_q, ↓s_retR_q, ↓kSw_q, ↓s_sw_q, lvI_s, lvI_z, lvL_s, lvL_z, lvR_s, lvR_z, kFld_q, kFlR_q, kAl1_q, kAl2_q, kAr1_q, kAr2_q, kLen_q, kO1_q, kO2_q, kD1_q, kD2_q, kL2i_q, kB1_q, kB2_q, kCb_q, kCb_0, kCb_1, kNot_q, kAnd_q, kOr_q, kNul_q, kCond_q, kTern_q, kA2_q, kAI_q, kAL_q, kAR_q, kCall_q, kCalS_q, kRI_q, kRR_q, kRU_q, kRP_q, kSt_q, kStL_q, kStR_q, kPut1_q, kPut2_q, kPz1_q, kPz2_q, kPr1_q, kPr2_q, kPo1_q, kPo2_q, kAs1_q, kAs2_q, kAs3_q, kZs1_q, kZs2_q, kZs3_q, kRs1_q, kRs2_q, kRs3_q, kAo1_q, kAo2_q, kAo3_q, kIf_q, kIte_q, kItr_q, kRet_q, kReR_q, kSw_q, neb_q, gtb_q, geb_q, lnB_s, isI_s, isI_z, gI_s, gI_z, gR_s, gR_z, gA_s, isA_s, bdo_s, rHd_c, isHd_c, noL_z, noL_1, noL_s, nl_I, nl_R, nl_U, stI, stR, bd_t, oA, oS, oM, oD, oR, tn_add, tn_mul, tn_nat, eqb_t, eqb_f, ltb_t, ltb_f, leb_t, leb_f, nob_s, nob_n, nat_eq, nat_lt, nat_le, wK0 hW, wK1 hW, wK2 hW, wK3 hW, wK4 hW, wK5 hW, wR1 hW, wR2 hW, wR3 hW, wR4 hW, wR5 hW, i1, c1, b2i, s1, s2, c2']
        exact hret
      · have c2' : ¬ enc (dst e n q h) = dst e n p h - 1 := by rw [eq]; exact c2
        simp (disch := omega) [-Int.not_le, -Int.not_lt, ↓e_ci_p, ↓r_null_p, ↓a_nil_p, ↓s_skip_p, ↓s_inc_p, ↓s_brk_p, ↓s_ret_p, ↓lvI_s, ↓lvI_z, ↓lvL_s, ↓lvL_z, ↓lvR_s, ↓lvR_z, ↓e_lv_q, ↓l_lv_q, ↓r_lv_q, ↓kFld_q, ↓e_fld_q, ↓kFlR_q, ↓r_fld_q, ↓kAl1_q, ↓kAl2_q, ↓e_ald_q, ↓z_ald_q, ↓kAr1_q, ↓kAr2_q, ↓r_ald_q, ↓kLen_q, ↓e_len_q, ↓kO1_q, ↓kO2_q, ↓kD1_q, ↓kD2_q, ↓e_op_q, ↓e_dv_q, ↓l_op_q, ↓l_dv_q, ↓l_sh_q, ↓e_lcmp_q, ↓e_min_q, ↓kL2i_q, ↓e_l2i_q, ↓kB1_q, ↓kB2_q, ↓c_eq_q, ↓c_ne_q, ↓c_lt_q, ↓c_ge_q, ↓c_gt_q, ↓c_le_q, ↓kCb_q, ↓kCb_0, ↓kCb_1, ↓c_b_q, ↓kNot_q, ↓c_not_q, ↓kAnd_q, ↓c_and_q, ↓kOr_q, ↓c_or_q, ↓kNul_q, ↓c_null_q, ↓kCond_q, ↓e_cond_q, ↓kTern_q, ↓x_tern_q, ↓kA2_q, ↓kAI_q, ↓kAL_q, ↓kAR_q, ↓a_I_q, ↓a_L_q, ↓a_R_q, ↓kCall_q, ↓kCalS_q, ↓kRI_q, ↓kRR_q, ↓kRU_q, ↓kRP_q, ↓e_callV_q, ↓r_callV_q, ↓e_callS_q, ↓s_callV_q, ↓s_popV_q, ↓s_seq_q, ↓kSt_q, ↓s_st_q, ↓kStL_q, ↓s_stL_q, ↓kStR_q, ↓s_stR_q, ↓kPut1_q, ↓kPut2_q, ↓s_put_q, ↓kPz1_q, ↓kPz2_q, ↓s_putZ_q, ↓kPr1_q, ↓kPr2_q, ↓s_putR_q, ↓kPo1_q, ↓kPo2_q, ↓s_putop_q, ↓kAs1_q, ↓kAs2_q, ↓kAs3_q, ↓s_ast_q, ↓kZs1_q, ↓kZs2_q, ↓kZs3_q, ↓s_zast_q, ↓kRs1_q, ↓kRs2_q, ↓kRs3_q, ↓s_rast_q, ↓kAo1_q, ↓kAo2_q, ↓kAo3_q, ↓s_astop_q, ↓kIf_q, ↓s_if_q, ↓kIte_q, ↓s_ite_q, ↓kItr_q, ↓s_itr_q, ↓kRet_q, ↓s_retI_q, ↓kReR_q, ↓s_retR_q, ↓kSw_q, ↓s_sw_q, lvI_s, lvI_z, lvL_s, lvL_z, lvR_s, lvR_z, kFld_q, kFlR_q, kAl1_q, kAl2_q, kAr1_q, kAr2_q, kLen_q, kO1_q, kO2_q, kD1_q, kD2_q, kL2i_q, kB1_q, kB2_q, kCb_q, kCb_0, kCb_1, kNot_q, kAnd_q, kOr_q, kNul_q, kCond_q, kTern_q, kA2_q, kAI_q, kAL_q, kAR_q, kCall_q, kCalS_q, kRI_q, kRR_q, kRU_q, kRP_q, kSt_q, kStL_q, kStR_q, kPut1_q, kPut2_q, kPz1_q, kPz2_q, kPr1_q, kPr2_q, kPo1_q, kPo2_q, kAs1_q, kAs2_q, kAs3_q, kZs1_q, kZs2_q, kZs3_q, kRs1_q, kRs2_q, kRs3_q, kAo1_q, kAo2_q, kAo3_q, kIf_q, kIte_q, kItr_q, kRet_q, kReR_q, kSw_q, neb_q, gtb_q, geb_q, lnB_s, isI_s, isI_z, gI_s, gI_z, gR_s, gR_z, gA_s, isA_s, bdo_s, rHd_c, isHd_c, noL_z, noL_1, noL_s, nl_I, nl_R, nl_U, stI, stR, bd_t, oA, oS, oM, oD, oR, tn_add, tn_mul, tn_nat, eqb_t, eqb_f, ltb_t, ltb_f, leb_t, leb_f, nob_s, nob_n, nat_eq, nat_lt, nat_le, wK0 hW, wK1 hW, wK2 hW, wK3 hW, wK4 hW, wK5 hW, wR1 hW, wR2 hW, wR3 hW, wR4 hW, wR5 hW, i1, c1, b2i, s1, s2, c2']
        exact go (by simp [nxp, c2])
    · simp (disch := omega) [-Int.not_le, -Int.not_lt, ↓e_ci_p, ↓r_null_p, ↓a_nil_p, ↓s_skip_p, ↓s_inc_p, ↓s_brk_p, ↓s_ret_p, ↓lvI_s, ↓lvI_z, ↓lvL_s, ↓lvL_z, ↓lvR_s, ↓lvR_z, ↓e_lv_q, ↓l_lv_q, ↓r_lv_q, ↓kFld_q, ↓e_fld_q, ↓kFlR_q, ↓r_fld_q, ↓kAl1_q, ↓kAl2_q, ↓e_ald_q, ↓z_ald_q, ↓kAr1_q, ↓kAr2_q, ↓r_ald_q, ↓kLen_q, ↓e_len_q, ↓kO1_q, ↓kO2_q, ↓kD1_q, ↓kD2_q, ↓e_op_q, ↓e_dv_q, ↓l_op_q, ↓l_dv_q, ↓l_sh_q, ↓e_lcmp_q, ↓e_min_q, ↓kL2i_q, ↓e_l2i_q, ↓kB1_q, ↓kB2_q, ↓c_eq_q, ↓c_ne_q, ↓c_lt_q, ↓c_ge_q, ↓c_gt_q, ↓c_le_q, ↓kCb_q, ↓kCb_0, ↓kCb_1, ↓c_b_q, ↓kNot_q, ↓c_not_q, ↓kAnd_q, ↓c_and_q, ↓kOr_q, ↓c_or_q, ↓kNul_q, ↓c_null_q, ↓kCond_q, ↓e_cond_q, ↓kTern_q, ↓x_tern_q, ↓kA2_q, ↓kAI_q, ↓kAL_q, ↓kAR_q, ↓a_I_q, ↓a_L_q, ↓a_R_q, ↓kCall_q, ↓kCalS_q, ↓kRI_q, ↓kRR_q, ↓kRU_q, ↓kRP_q, ↓e_callV_q, ↓r_callV_q, ↓e_callS_q, ↓s_callV_q, ↓s_popV_q, ↓s_seq_q, ↓kSt_q, ↓s_st_q, ↓kStL_q, ↓s_stL_q, ↓kStR_q, ↓s_stR_q, ↓kPut1_q, ↓kPut2_q, ↓s_put_q, ↓kPz1_q, ↓kPz2_q, ↓s_putZ_q, ↓kPr1_q, ↓kPr2_q, ↓s_putR_q, ↓kPo1_q, ↓kPo2_q, ↓s_putop_q, ↓kAs1_q, ↓kAs2_q, ↓kAs3_q, ↓s_ast_q, ↓kZs1_q, ↓kZs2_q, ↓kZs3_q, ↓s_zast_q, ↓kRs1_q, ↓kRs2_q, ↓kRs3_q, ↓s_rast_q, ↓kAo1_q, ↓kAo2_q, ↓kAo3_q, ↓s_astop_q, ↓kIf_q, ↓s_if_q, ↓kIte_q, ↓s_ite_q, ↓kItr_q, ↓s_itr_q, ↓kRet_q, ↓s_retI_q, ↓kReR_q, ↓s_retR_q, ↓kSw_q, ↓s_sw_q, lvI_s, lvI_z, lvL_s, lvL_z, lvR_s, lvR_z, kFld_q, kFlR_q, kAl1_q, kAl2_q, kAr1_q, kAr2_q, kLen_q, kO1_q, kO2_q, kD1_q, kD2_q, kL2i_q, kB1_q, kB2_q, kCb_q, kCb_0, kCb_1, kNot_q, kAnd_q, kOr_q, kNul_q, kCond_q, kTern_q, kA2_q, kAI_q, kAL_q, kAR_q, kCall_q, kCalS_q, kRI_q, kRR_q, kRU_q, kRP_q, kSt_q, kStL_q, kStR_q, kPut1_q, kPut2_q, kPz1_q, kPz2_q, kPr1_q, kPr2_q, kPo1_q, kPo2_q, kAs1_q, kAs2_q, kAs3_q, kZs1_q, kZs2_q, kZs3_q, kRs1_q, kRs2_q, kRs3_q, kAo1_q, kAo2_q, kAo3_q, kIf_q, kIte_q, kItr_q, kRet_q, kReR_q, kSw_q, neb_q, gtb_q, geb_q, lnB_s, isI_s, isI_z, gI_s, gI_z, gR_s, gR_z, gA_s, isA_s, bdo_s, rHd_c, isHd_c, noL_z, noL_1, noL_s, nl_I, nl_R, nl_U, stI, stR, bd_t, oA, oS, oM, oD, oR, tn_add, tn_mul, tn_nat, eqb_t, eqb_f, ltb_t, ltb_f, leb_t, leb_f, nob_s, nob_n, nat_eq, nat_lt, nat_le, wK0 hW, wK1 hW, wK2 hW, wK3 hW, wK4 hW, wK5 hW, wR1 hW, wR2 hW, wR3 hW, wR4 hW, wR5 hW, i1, c1, b2i]
      exact go (by simp [nxp, c1])
  · rintro env st ⟨h_Q, rfl, rfl⟩
    exact hkk h_Q
theorem X7_next_ok (hW : isWeb kd R w) (hE : WEB I w e n) (hd : nsf e) {h p : Nat} (hh : h < n) (hp : p < n) (hph : p ≠ h) (hfin : dst e n p h < 1000000) (hS : STP I w e n h) (hk : K (vI ((nxt e n h p : Nat) : Int)) (kd, I, R)) : B_X7_nextTowardsHome [vR (some w), vI (p : Int)] (kd, I, R) K := by
  simp [B_X7_nextTowardsHome, bodyOf, envOf, exA, catV, rkOK]
  simp (disch := omega) [t_X7_nextTowardsHome, -Int.not_le, -Int.not_lt, ↓e_ci_p, ↓r_null_p, ↓a_nil_p, ↓s_skip_p, ↓s_inc_p, ↓s_brk_p, ↓s_ret_p, ↓lvI_s, ↓lvI_z, ↓lvL_s, ↓lvL_z, ↓lvR_s, ↓lvR_z, ↓e_lv_q, ↓l_lv_q, ↓r_lv_q, ↓kFld_q, ↓e_fld_q, ↓kFlR_q, ↓r_fld_q, ↓kAl1_q, ↓kAl2_q, ↓e_ald_q, ↓z_ald_q, ↓kAr1_q, ↓kAr2_q, ↓r_ald_q, ↓kLen_q, ↓e_len_q, ↓kO1_q, ↓kO2_q, ↓kD1_q, ↓kD2_q, ↓e_op_q, ↓e_dv_q, ↓l_op_q, ↓l_dv_q, ↓l_sh_q, ↓e_lcmp_q, ↓e_min_q, ↓kL2i_q, ↓e_l2i_q, ↓kB1_q, ↓kB2_q, ↓c_eq_q, ↓c_ne_q, ↓c_lt_q, ↓c_ge_q, ↓c_gt_q, ↓c_le_q, ↓kCb_q, ↓kCb_0, ↓kCb_1, ↓c_b_q, ↓kNot_q, ↓c_not_q, ↓kAnd_q, ↓c_and_q, ↓kOr_q, ↓c_or_q, ↓kNul_q, ↓c_null_q, ↓kCond_q, ↓e_cond_q, ↓kTern_q, ↓x_tern_q, ↓kA2_q, ↓kAI_q, ↓kAL_q, ↓kAR_q, ↓a_I_q, ↓a_L_q, ↓a_R_q, ↓kCall_q, ↓kCalS_q, ↓kRI_q, ↓kRR_q, ↓kRU_q, ↓kRP_q, ↓e_callV_q, ↓r_callV_q, ↓e_callS_q, ↓s_callV_q, ↓s_popV_q, ↓s_seq_q, ↓kSt_q, ↓s_st_q, ↓kStL_q, ↓s_stL_q, ↓kStR_q, ↓s_stR_q, ↓kPut1_q, ↓kPut2_q, ↓s_put_q, ↓kPz1_q, ↓kPz2_q, ↓s_putZ_q, ↓kPr1_q, ↓kPr2_q, ↓s_putR_q, ↓kPo1_q, ↓kPo2_q, ↓s_putop_q, ↓kAs1_q, ↓kAs2_q, ↓kAs3_q, ↓s_ast_q, ↓kZs1_q, ↓kZs2_q, ↓kZs3_q, ↓s_zast_q, ↓kRs1_q, ↓kRs2_q, ↓kRs3_q, ↓s_rast_q, ↓kAo1_q, ↓kAo2_q, ↓kAo3_q, ↓s_astop_q, ↓kIf_q, ↓s_if_q, ↓kIte_q, ↓s_ite_q, ↓kItr_q, ↓s_itr_q, ↓kRet_q, ↓s_retI_q, ↓kReR_q, ↓s_retR_q, ↓kSw_q, ↓s_sw_q, lvI_s, lvI_z, lvL_s, lvL_z, lvR_s, lvR_z, kFld_q, kFlR_q, kAl1_q, kAl2_q, kAr1_q, kAr2_q, kLen_q, kO1_q, kO2_q, kD1_q, kD2_q, kL2i_q, kB1_q, kB2_q, kCb_q, kCb_0, kCb_1, kNot_q, kAnd_q, kOr_q, kNul_q, kCond_q, kTern_q, kA2_q, kAI_q, kAL_q, kAR_q, kCall_q, kCalS_q, kRI_q, kRR_q, kRU_q, kRP_q, kSt_q, kStL_q, kStR_q, kPut1_q, kPut2_q, kPz1_q, kPz2_q, kPr1_q, kPr2_q, kPo1_q, kPo2_q, kAs1_q, kAs2_q, kAs3_q, kZs1_q, kZs2_q, kZs3_q, kRs1_q, kRs2_q, kRs3_q, kAo1_q, kAo2_q, kAo3_q, kIf_q, kIte_q, kItr_q, kRet_q, kReR_q, kSw_q, neb_q, gtb_q, geb_q, lnB_s, isI_s, isI_z, gI_s, gI_z, gR_s, gR_z, gA_s, isA_s, bdo_s, rHd_c, isHd_c, noL_z, noL_1, noL_s, nl_I, nl_R, nl_U, stI, stR, bd_t, oA, oS, oM, oD, oR, tn_add, tn_mul, tn_nat, eqb_t, eqb_f, ltb_t, ltb_f, leb_t, leb_f, nob_s, nob_n, nat_eq, nat_lt, nat_le, wK0 hW, wK1 hW, wK2 hW, wK3 hW, wK4 hW, wK5 hW, wR1 hW, wR2 hW, wR3 hW, wR4 hW, wR5 hW]
  refine X7_next_0 hW hE hd hh hp hph hfin hS (fun j hj => by omega) ⟨⟨_, rfl⟩, hk⟩ (fun hQ => ?_)
  obtain ⟨h1, h2⟩ := nxt_ok (e := e) hh hph hfin
  rw [hQ _ h1] at h2
  exact absurd h2 (by simp)
/-- like I but for what a ring's search works on -/
def frW (w : Nat) (I J : Nat → Nat → Int) : Prop := (∀ x, x ≠ w → x ≠ w + 3 → x ≠ w + 5 → J x = I x) ∧ ∀ k, k ≠ 6 → J w k = I w k
theorem frW_web {J : Nat → Nat → Int} (h : frW w I J) (hE : WEB I w e n) : WEB J w e n := WEB_fr hE (h.2 0 (by decide)) (h.1 _ (by omega) (by omega) (by omega)) (h.1 _ (by omega) (by omega) (by omega))
theorem X7_findRing_0 (hW : isWeb kd R w) (hE : WEB I w e n) (hd : nsf e) {p q : Nat} (hp : p < n) (hq : q < n) (hpq : p ≠ q) (hfin : dst e n q p < 1000000) (hS : STP I w e n p) (h6 : I w 6 = (rgL e n p q : Int)) (h50 : I (w + 5) 0 = (p : Int)) {Kn Kb : XE → XS → Prop} {Kr : AV → XS → Prop} (hkk : ∀ v3 v4 J, (∀ x, x ≠ w + 5 → J x = I x) → (∀ j, j < rgL e n p q → J (w + 5) j = ((rg e n p q j : Nat) : Int)) → Kn [vR (some w), vI (p : Int), vI (q : Int), v3, v4] (kd, J, R)) : lp_X7_findRing_0 Kn Kb Kr [vR (some w), vI (p : Int), vI (q : Int), vI (q : Int), vI 1] (kd, I, R) := by
  have hn := hE.2.1
  have hL := rgL_le hp hq hpq hfin
  unfold lp_X7_findRing_0
  refine forUp (lo := 1) (n := rgL e n p q) (fun i env st => ∃ (J : Nat → Nat → Int) (x : Nat), (∀ x, x ≠ w + 5 → J x = I x) ∧ (∀ j, j < i → J (w + 5) j = ((rg e n p q j : Nat) : Int)) ∧ (i < rgL e n p q → x = rg e n p q i) ∧ env = [vR (some w), vI (p : Int), vI (q : Int), vI (x : Int), vI (i : Int)] ∧ st = (kd, J, R)) (by omega) (by omega) ⟨I, q, fun _ _ => rfl, fun j hj => (show j = 0 by omega) ▸ h50, fun _ => rfl, rfl, rfl⟩ ?_ ?_ ?_
  · rintro i env st hi ⟨J, x, h1, h2, h3, rfl, rfl⟩
    refine ⟨rfl, fun K h => ?_⟩
    have j6 : J w 6 = (rgL e n p q : Int) := by rw [h1 w (by omega)]; exact h6
    simp (disch := omega) [-Int.not_le, -Int.not_lt, ↓e_ci_p, ↓r_null_p, ↓a_nil_p, ↓s_skip_p, ↓s_inc_p, ↓s_brk_p, ↓s_ret_p, ↓lvI_s, ↓lvI_z, ↓lvL_s, ↓lvL_z, ↓lvR_s, ↓lvR_z, ↓e_lv_q, ↓l_lv_q, ↓r_lv_q, ↓kFld_q, ↓e_fld_q, ↓kFlR_q, ↓r_fld_q, ↓kAl1_q, ↓kAl2_q, ↓e_ald_q, ↓z_ald_q, ↓kAr1_q, ↓kAr2_q, ↓r_ald_q, ↓kLen_q, ↓e_len_q, ↓kO1_q, ↓kO2_q, ↓kD1_q, ↓kD2_q, ↓e_op_q, ↓e_dv_q, ↓l_op_q, ↓l_dv_q, ↓l_sh_q, ↓e_lcmp_q, ↓e_min_q, ↓kL2i_q, ↓e_l2i_q, ↓kB1_q, ↓kB2_q, ↓c_eq_q, ↓c_ne_q, ↓c_lt_q, ↓c_ge_q, ↓c_gt_q, ↓c_le_q, ↓kCb_q, ↓kCb_0, ↓kCb_1, ↓c_b_q, ↓kNot_q, ↓c_not_q, ↓kAnd_q, ↓c_and_q, ↓kOr_q, ↓c_or_q, ↓kNul_q, ↓c_null_q, ↓kCond_q, ↓e_cond_q, ↓kTern_q, ↓x_tern_q, ↓kA2_q, ↓kAI_q, ↓kAL_q, ↓kAR_q, ↓a_I_q, ↓a_L_q, ↓a_R_q, ↓kCall_q, ↓kCalS_q, ↓kRI_q, ↓kRR_q, ↓kRU_q, ↓kRP_q, ↓e_callV_q, ↓r_callV_q, ↓e_callS_q, ↓s_callV_q, ↓s_popV_q, ↓s_seq_q, ↓kSt_q, ↓s_st_q, ↓kStL_q, ↓s_stL_q, ↓kStR_q, ↓s_stR_q, ↓kPut1_q, ↓kPut2_q, ↓s_put_q, ↓kPz1_q, ↓kPz2_q, ↓s_putZ_q, ↓kPr1_q, ↓kPr2_q, ↓s_putR_q, ↓kPo1_q, ↓kPo2_q, ↓s_putop_q, ↓kAs1_q, ↓kAs2_q, ↓kAs3_q, ↓s_ast_q, ↓kZs1_q, ↓kZs2_q, ↓kZs3_q, ↓s_zast_q, ↓kRs1_q, ↓kRs2_q, ↓kRs3_q, ↓s_rast_q, ↓kAo1_q, ↓kAo2_q, ↓kAo3_q, ↓s_astop_q, ↓kIf_q, ↓s_if_q, ↓kIte_q, ↓s_ite_q, ↓kItr_q, ↓s_itr_q, ↓kRet_q, ↓s_retI_q, ↓kReR_q, ↓s_retR_q, ↓kSw_q, ↓s_sw_q, lvI_s, lvI_z, lvL_s, lvL_z, lvR_s, lvR_z, kFld_q, kFlR_q, kAl1_q, kAl2_q, kAr1_q, kAr2_q, kLen_q, kO1_q, kO2_q, kD1_q, kD2_q, kL2i_q, kB1_q, kB2_q, kCb_q, kCb_0, kCb_1, kNot_q, kAnd_q, kOr_q, kNul_q, kCond_q, kTern_q, kA2_q, kAI_q, kAL_q, kAR_q, kCall_q, kCalS_q, kRI_q, kRR_q, kRU_q, kRP_q, kSt_q, kStL_q, kStR_q, kPut1_q, kPut2_q, kPz1_q, kPz2_q, kPr1_q, kPr2_q, kPo1_q, kPo2_q, kAs1_q, kAs2_q, kAs3_q, kZs1_q, kZs2_q, kZs3_q, kRs1_q, kRs2_q, kRs3_q, kAo1_q, kAo2_q, kAo3_q, kIf_q, kIte_q, kItr_q, kRet_q, kReR_q, kSw_q, neb_q, gtb_q, geb_q, lnB_s, isI_s, isI_z, gI_s, gI_z, gR_s, gR_z, gA_s, isA_s, bdo_s, rHd_c, isHd_c, noL_z, noL_1, noL_s, nl_I, nl_R, nl_U, stI, stR, bd_t, oA, oS, oM, oD, oR, tn_add, tn_mul, tn_nat, eqb_t, eqb_f, ltb_t, ltb_f, leb_t, leb_f, nob_s, nob_n, nat_eq, nat_lt, nat_le, wK0 hW, wK1 hW, wK2 hW, wK3 hW, wK4 hW, wK5 hW, wR1 hW, wR2 hW, wR3 hW, wR4 hW, wR5 hW, j6]
    exact h
  · rintro i env st hi1 hi ⟨J, x, h1, h2, h3, rfl, rfl⟩ Kx hx
    obtain ⟨m, rfl⟩ : ∃ m, i = m + 1 := ⟨i - 1, by omega⟩
    have hxe := h3 hi
    subst hxe
    obtain ⟨g1, g2⟩ := rg_ok hp hq hpq hfin m hi
    have hLd : (rgL e n p q : Int) = dst e n q p + 1 := by have := (dst_nn (e := e) n q p).1; unfold rgL; omega
    have hap : rg e n p q (m + 1) ≠ p := fun hh => by rw [hh, dst_self] at g2; omega
    have hda : dst e n (rg e n p q (m + 1)) p < 1000000 := by omega
    have hnx : rg e n p q (m + 1 + 1) = nxt e n p (rg e n p q (m + 1)) := rfl
    generalize hra : rg e n p q (m + 1) = a at *
    simp (disch := omega) [-Int.not_le, -Int.not_lt, ↓e_ci_p, ↓r_null_p, ↓a_nil_p, ↓s_skip_p, ↓s_inc_p, ↓s_brk_p, ↓s_ret_p, ↓lvI_s, ↓lvI_z, ↓lvL_s, ↓lvL_z, ↓lvR_s, ↓lvR_z, ↓e_lv_q, ↓l_lv_q, ↓r_lv_q, ↓kFld_q, ↓e_fld_q, ↓kFlR_q, ↓r_fld_q, ↓kAl1_q, ↓kAl2_q, ↓e_ald_q, ↓z_ald_q, ↓kAr1_q, ↓kAr2_q, ↓r_ald_q, ↓kLen_q, ↓e_len_q, ↓kO1_q, ↓kO2_q, ↓kD1_q, ↓kD2_q, ↓e_op_q, ↓e_dv_q, ↓l_op_q, ↓l_dv_q, ↓l_sh_q, ↓e_lcmp_q, ↓e_min_q, ↓kL2i_q, ↓e_l2i_q, ↓kB1_q, ↓kB2_q, ↓c_eq_q, ↓c_ne_q, ↓c_lt_q, ↓c_ge_q, ↓c_gt_q, ↓c_le_q, ↓kCb_q, ↓kCb_0, ↓kCb_1, ↓c_b_q, ↓kNot_q, ↓c_not_q, ↓kAnd_q, ↓c_and_q, ↓kOr_q, ↓c_or_q, ↓kNul_q, ↓c_null_q, ↓kCond_q, ↓e_cond_q, ↓kTern_q, ↓x_tern_q, ↓kA2_q, ↓kAI_q, ↓kAL_q, ↓kAR_q, ↓a_I_q, ↓a_L_q, ↓a_R_q, ↓kCall_q, ↓kCalS_q, ↓kRI_q, ↓kRR_q, ↓kRU_q, ↓kRP_q, ↓e_callV_q, ↓r_callV_q, ↓e_callS_q, ↓s_callV_q, ↓s_popV_q, ↓s_seq_q, ↓kSt_q, ↓s_st_q, ↓kStL_q, ↓s_stL_q, ↓kStR_q, ↓s_stR_q, ↓kPut1_q, ↓kPut2_q, ↓s_put_q, ↓kPz1_q, ↓kPz2_q, ↓s_putZ_q, ↓kPr1_q, ↓kPr2_q, ↓s_putR_q, ↓kPo1_q, ↓kPo2_q, ↓s_putop_q, ↓kAs1_q, ↓kAs2_q, ↓kAs3_q, ↓s_ast_q, ↓kZs1_q, ↓kZs2_q, ↓kZs3_q, ↓s_zast_q, ↓kRs1_q, ↓kRs2_q, ↓kRs3_q, ↓s_rast_q, ↓kAo1_q, ↓kAo2_q, ↓kAo3_q, ↓s_astop_q, ↓kIf_q, ↓s_if_q, ↓kIte_q, ↓s_ite_q, ↓kItr_q, ↓s_itr_q, ↓kRet_q, ↓s_retI_q, ↓kReR_q, ↓s_retR_q, ↓kSw_q, ↓s_sw_q, lvI_s, lvI_z, lvL_s, lvL_z, lvR_s, lvR_z, kFld_q, kFlR_q, kAl1_q, kAl2_q, kAr1_q, kAr2_q, kLen_q, kO1_q, kO2_q, kD1_q, kD2_q, kL2i_q, kB1_q, kB2_q, kCb_q, kCb_0, kCb_1, kNot_q, kAnd_q, kOr_q, kNul_q, kCond_q, kTern_q, kA2_q, kAI_q, kAL_q, kAR_q, kCall_q, kCalS_q, kRI_q, kRR_q, kRU_q, kRP_q, kSt_q, kStL_q, kStR_q, kPut1_q, kPut2_q, kPz1_q, kPz2_q, kPr1_q, kPr2_q, kPo1_q, kPo2_q, kAs1_q, kAs2_q, kAs3_q, kZs1_q, kZs2_q, kZs3_q, kRs1_q, kRs2_q, kRs3_q, kAo1_q, kAo2_q, kAo3_q, kIf_q, kIte_q, kItr_q, kRet_q, kReR_q, kSw_q, neb_q, gtb_q, geb_q, lnB_s, isI_s, isI_z, gI_s, gI_z, gR_s, gR_z, gA_s, isA_s, bdo_s, rHd_c, isHd_c, noL_z, noL_1, noL_s, nl_I, nl_R, nl_U, stI, stR, bd_t, oA, oS, oM, oD, oR, tn_add, tn_mul, tn_nat, eqb_t, eqb_f, ltb_t, ltb_f, leb_t, leb_f, nob_s, nob_n, nat_eq, nat_lt, nat_le, wK0 hW, wK1 hW, wK2 hW, wK3 hW, wK4 hW, wK5 hW, wR1 hW, wR2 hW, wR3 hW, wR4 hW, wR5 hW]
    have hro : ∀ x, x ≠ w + 5 → upI J (w + 5) (m + 1) (a : Int) x = I x := fun x hx => by rw [upI_row hx]; exact h1 x hx
    refine X7_next_ok hW (WEB_fr hE (by rw [hro w (by omega)]) (hro _ (by omega)) (hro _ (by omega))) hd hp g1 hap hda (fun y hy => by rw [hro _ (by omega)]; exact hS y hy) ?_
    simp (disch := omega) [-Int.not_le, -Int.not_lt, ↓e_ci_p, ↓r_null_p, ↓a_nil_p, ↓s_skip_p, ↓s_inc_p, ↓s_brk_p, ↓s_ret_p, ↓lvI_s, ↓lvI_z, ↓lvL_s, ↓lvL_z, ↓lvR_s, ↓lvR_z, ↓e_lv_q, ↓l_lv_q, ↓r_lv_q, ↓kFld_q, ↓e_fld_q, ↓kFlR_q, ↓r_fld_q, ↓kAl1_q, ↓kAl2_q, ↓e_ald_q, ↓z_ald_q, ↓kAr1_q, ↓kAr2_q, ↓r_ald_q, ↓kLen_q, ↓e_len_q, ↓kO1_q, ↓kO2_q, ↓kD1_q, ↓kD2_q, ↓e_op_q, ↓e_dv_q, ↓l_op_q, ↓l_dv_q, ↓l_sh_q, ↓e_lcmp_q, ↓e_min_q, ↓kL2i_q, ↓e_l2i_q, ↓kB1_q, ↓kB2_q, ↓c_eq_q, ↓c_ne_q, ↓c_lt_q, ↓c_ge_q, ↓c_gt_q, ↓c_le_q, ↓kCb_q, ↓kCb_0, ↓kCb_1, ↓c_b_q, ↓kNot_q, ↓c_not_q, ↓kAnd_q, ↓c_and_q, ↓kOr_q, ↓c_or_q, ↓kNul_q, ↓c_null_q, ↓kCond_q, ↓e_cond_q, ↓kTern_q, ↓x_tern_q, ↓kA2_q, ↓kAI_q, ↓kAL_q, ↓kAR_q, ↓a_I_q, ↓a_L_q, ↓a_R_q, ↓kCall_q, ↓kCalS_q, ↓kRI_q, ↓kRR_q, ↓kRU_q, ↓kRP_q, ↓e_callV_q, ↓r_callV_q, ↓e_callS_q, ↓s_callV_q, ↓s_popV_q, ↓s_seq_q, ↓kSt_q, ↓s_st_q, ↓kStL_q, ↓s_stL_q, ↓kStR_q, ↓s_stR_q, ↓kPut1_q, ↓kPut2_q, ↓s_put_q, ↓kPz1_q, ↓kPz2_q, ↓s_putZ_q, ↓kPr1_q, ↓kPr2_q, ↓s_putR_q, ↓kPo1_q, ↓kPo2_q, ↓s_putop_q, ↓kAs1_q, ↓kAs2_q, ↓kAs3_q, ↓s_ast_q, ↓kZs1_q, ↓kZs2_q, ↓kZs3_q, ↓s_zast_q, ↓kRs1_q, ↓kRs2_q, ↓kRs3_q, ↓s_rast_q, ↓kAo1_q, ↓kAo2_q, ↓kAo3_q, ↓s_astop_q, ↓kIf_q, ↓s_if_q, ↓kIte_q, ↓s_ite_q, ↓kItr_q, ↓s_itr_q, ↓kRet_q, ↓s_retI_q, ↓kReR_q, ↓s_retR_q, ↓kSw_q, ↓s_sw_q, lvI_s, lvI_z, lvL_s, lvL_z, lvR_s, lvR_z, kFld_q, kFlR_q, kAl1_q, kAl2_q, kAr1_q, kAr2_q, kLen_q, kO1_q, kO2_q, kD1_q, kD2_q, kL2i_q, kB1_q, kB2_q, kCb_q, kCb_0, kCb_1, kNot_q, kAnd_q, kOr_q, kNul_q, kCond_q, kTern_q, kA2_q, kAI_q, kAL_q, kAR_q, kCall_q, kCalS_q, kRI_q, kRR_q, kRU_q, kRP_q, kSt_q, kStL_q, kStR_q, kPut1_q, kPut2_q, kPz1_q, kPz2_q, kPr1_q, kPr2_q, kPo1_q, kPo2_q, kAs1_q, kAs2_q, kAs3_q, kZs1_q, kZs2_q, kZs3_q, kRs1_q, kRs2_q, kRs3_q, kAo1_q, kAo2_q, kAo3_q, kIf_q, kIte_q, kItr_q, kRet_q, kReR_q, kSw_q, neb_q, gtb_q, geb_q, lnB_s, isI_s, isI_z, gI_s, gI_z, gR_s, gR_z, gA_s, isA_s, bdo_s, rHd_c, isHd_c, noL_z, noL_1, noL_s, nl_I, nl_R, nl_U, stI, stR, bd_t, oA, oS, oM, oD, oR, tn_add, tn_mul, tn_nat, eqb_t, eqb_f, ltb_t, ltb_f, leb_t, leb_f, nob_s, nob_n, nat_eq, nat_lt, nat_le, wK0 hW, wK1 hW, wK2 hW, wK3 hW, wK4 hW, wK5 hW, wR1 hW, wR2 hW, wR3 hW, wR4 hW, wR5 hW]
    refine hx _ _ rfl (by simp [noL_z, noL_1, noL_s, nl_I, nl_R]) ⟨_, nxt e n p a, hro, fun j hj => ?_, fun _ => by rw [hnx], rfl, rfl⟩
    rw [upI_at]
    by_cases hj2 : j = m + 1
    · rw [hj2, updL_at, hra]
    · rw [updL_ne hj2]; exact h2 j (by omega)
  · rintro env st ⟨J, x, h1, h2, h3, rfl, rfl⟩
    exact hkk _ _ J h1 h2
theorem X7_findRing_ok (hW : isWeb kd R w) (hE : WEB I w e n) (hd : nsf e) {p q : Nat} (hp : p < n) (hq : q < n) (h0 : rOK e n p q = false → ∀ J, frW w I J → K (vI 0) (kd, J, R)) (h1 : rOK e n p q = true → ∀ J, frW w I J → (∀ j, j < rgL e n p q → J (w + 5) j = ((rg e n p q j : Nat) : Int)) → K (vI (rgL e n p q : Int)) (kd, J, R)) : B_X7_findRing [vR (some w), vI (p : Int), vI (q : Int)] (kd, I, R) K := by
  have hn := hE.2.1
  have hfr0 : frW w I (upI I w 6 0) := ⟨fun x a b c => upI_row a, fun k hk => by simp [upI, hk]⟩
  have hE0 := frW_web hfr0 hE
  have i1 := fun (K : AV → XS → Prop) => X7_ringTie_eq (K := K) hW hE0 hd hp hq
  simp [B_X7_findRing, bodyOf, envOf, exA, catV, rkOK]
  cases c : rOK e n p q with
  | false =>
    have u6 : upI I w 6 0 w 6 = 0 := by simp [upI]
    simp (disch := omega) [t_X7_findRing, -Int.not_le, -Int.not_lt, ↓e_ci_p, ↓r_null_p, ↓a_nil_p, ↓s_skip_p, ↓s_inc_p, ↓s_brk_p, ↓s_ret_p, ↓lvI_s, ↓lvI_z, ↓lvL_s, ↓lvL_z, ↓lvR_s, ↓lvR_z, ↓e_lv_q, ↓l_lv_q, ↓r_lv_q, ↓kFld_q, ↓e_fld_q, ↓kFlR_q, ↓r_fld_q, ↓kAl1_q, ↓kAl2_q, ↓e_ald_q, ↓z_ald_q, ↓kAr1_q, ↓kAr2_q, ↓r_ald_q, ↓kLen_q, ↓e_len_q, ↓kO1_q, ↓kO2_q, ↓kD1_q, ↓kD2_q, ↓e_op_q, ↓e_dv_q, ↓l_op_q, ↓l_dv_q, ↓l_sh_q, ↓e_lcmp_q, ↓e_min_q, ↓kL2i_q, ↓e_l2i_q, ↓kB1_q, ↓kB2_q, ↓c_eq_q, ↓c_ne_q, ↓c_lt_q, ↓c_ge_q, ↓c_gt_q, ↓c_le_q, ↓kCb_q, ↓kCb_0, ↓kCb_1, ↓c_b_q, ↓kNot_q, ↓c_not_q, ↓kAnd_q, ↓c_and_q, ↓kOr_q, ↓c_or_q, ↓kNul_q, ↓c_null_q, ↓kCond_q, ↓e_cond_q, ↓kTern_q, ↓x_tern_q, ↓kA2_q, ↓kAI_q, ↓kAL_q, ↓kAR_q, ↓a_I_q, ↓a_L_q, ↓a_R_q, ↓kCall_q, ↓kCalS_q, ↓kRI_q, ↓kRR_q, ↓kRU_q, ↓kRP_q, ↓e_callV_q, ↓r_callV_q, ↓e_callS_q, ↓s_callV_q, ↓s_popV_q, ↓s_seq_q, ↓kSt_q, ↓s_st_q, ↓kStL_q, ↓s_stL_q, ↓kStR_q, ↓s_stR_q, ↓kPut1_q, ↓kPut2_q, ↓s_put_q, ↓kPz1_q, ↓kPz2_q, ↓s_putZ_q, ↓kPr1_q, ↓kPr2_q, ↓s_putR_q, ↓kPo1_q, ↓kPo2_q, ↓s_putop_q, ↓kAs1_q, ↓kAs2_q, ↓kAs3_q, ↓s_ast_q, ↓kZs1_q, ↓kZs2_q, ↓kZs3_q, ↓s_zast_q, ↓kRs1_q, ↓kRs2_q, ↓kRs3_q, ↓s_rast_q, ↓kAo1_q, ↓kAo2_q, ↓kAo3_q, ↓s_astop_q, ↓kIf_q, ↓s_if_q, ↓kIte_q, ↓s_ite_q, ↓kItr_q, ↓s_itr_q, ↓kRet_q, ↓s_retI_q, ↓kReR_q, ↓s_retR_q, ↓kSw_q, ↓s_sw_q, lvI_s, lvI_z, lvL_s, lvL_z, lvR_s, lvR_z, kFld_q, kFlR_q, kAl1_q, kAl2_q, kAr1_q, kAr2_q, kLen_q, kO1_q, kO2_q, kD1_q, kD2_q, kL2i_q, kB1_q, kB2_q, kCb_q, kCb_0, kCb_1, kNot_q, kAnd_q, kOr_q, kNul_q, kCond_q, kTern_q, kA2_q, kAI_q, kAL_q, kAR_q, kCall_q, kCalS_q, kRI_q, kRR_q, kRU_q, kRP_q, kSt_q, kStL_q, kStR_q, kPut1_q, kPut2_q, kPz1_q, kPz2_q, kPr1_q, kPr2_q, kPo1_q, kPo2_q, kAs1_q, kAs2_q, kAs3_q, kZs1_q, kZs2_q, kZs3_q, kRs1_q, kRs2_q, kRs3_q, kAo1_q, kAo2_q, kAo3_q, kIf_q, kIte_q, kItr_q, kRet_q, kReR_q, kSw_q, neb_q, gtb_q, geb_q, lnB_s, isI_s, isI_z, gI_s, gI_z, gR_s, gR_z, gA_s, isA_s, bdo_s, rHd_c, isHd_c, noL_z, noL_1, noL_s, nl_I, nl_R, nl_U, stI, stR, bd_t, oA, oS, oM, oD, oR, tn_add, tn_mul, tn_nat, eqb_t, eqb_f, ltb_t, ltb_f, leb_t, leb_f, nob_s, nob_n, nat_eq, nat_lt, nat_le, wK0 hW, wK1 hW, wK2 hW, wK3 hW, wK4 hW, wK5 hW, wR1 hW, wR2 hW, wR3 hW, wR4 hW, wR5 hW, i1, c, b2i, u6]
    exact h0 c _ hfr0
  | true =>
    have cc := c
    simp [rOK, one] at cc
    obtain ⟨c1, c2, c3⟩ := cc
    have hpq : p ≠ q := fun hh => by rw [hh] at c1; exact hd q c1
    have hL := rgL_le hp hq hpq c3
    have hLd : (rgL e n p q : Int) = dst e n q p + 1 := by have := (dst_nn (e := e) n q p).1; unfold rgL; omega
    simp (disch := omega) [t_X7_findRing, -Int.not_le, -Int.not_lt, ↓e_ci_p, ↓r_null_p, ↓a_nil_p, ↓s_skip_p, ↓s_inc_p, ↓s_brk_p, ↓s_ret_p, ↓lvI_s, ↓lvI_z, ↓lvL_s, ↓lvL_z, ↓lvR_s, ↓lvR_z, ↓e_lv_q, ↓l_lv_q, ↓r_lv_q, ↓kFld_q, ↓e_fld_q, ↓kFlR_q, ↓r_fld_q, ↓kAl1_q, ↓kAl2_q, ↓e_ald_q, ↓z_ald_q, ↓kAr1_q, ↓kAr2_q, ↓r_ald_q, ↓kLen_q, ↓e_len_q, ↓kO1_q, ↓kO2_q, ↓kD1_q, ↓kD2_q, ↓e_op_q, ↓e_dv_q, ↓l_op_q, ↓l_dv_q, ↓l_sh_q, ↓e_lcmp_q, ↓e_min_q, ↓kL2i_q, ↓e_l2i_q, ↓kB1_q, ↓kB2_q, ↓c_eq_q, ↓c_ne_q, ↓c_lt_q, ↓c_ge_q, ↓c_gt_q, ↓c_le_q, ↓kCb_q, ↓kCb_0, ↓kCb_1, ↓c_b_q, ↓kNot_q, ↓c_not_q, ↓kAnd_q, ↓c_and_q, ↓kOr_q, ↓c_or_q, ↓kNul_q, ↓c_null_q, ↓kCond_q, ↓e_cond_q, ↓kTern_q, ↓x_tern_q, ↓kA2_q, ↓kAI_q, ↓kAL_q, ↓kAR_q, ↓a_I_q, ↓a_L_q, ↓a_R_q, ↓kCall_q, ↓kCalS_q, ↓kRI_q, ↓kRR_q, ↓kRU_q, ↓kRP_q, ↓e_callV_q, ↓r_callV_q, ↓e_callS_q, ↓s_callV_q, ↓s_popV_q, ↓s_seq_q, ↓kSt_q, ↓s_st_q, ↓kStL_q, ↓s_stL_q, ↓kStR_q, ↓s_stR_q, ↓kPut1_q, ↓kPut2_q, ↓s_put_q, ↓kPz1_q, ↓kPz2_q, ↓s_putZ_q, ↓kPr1_q, ↓kPr2_q, ↓s_putR_q, ↓kPo1_q, ↓kPo2_q, ↓s_putop_q, ↓kAs1_q, ↓kAs2_q, ↓kAs3_q, ↓s_ast_q, ↓kZs1_q, ↓kZs2_q, ↓kZs3_q, ↓s_zast_q, ↓kRs1_q, ↓kRs2_q, ↓kRs3_q, ↓s_rast_q, ↓kAo1_q, ↓kAo2_q, ↓kAo3_q, ↓s_astop_q, ↓kIf_q, ↓s_if_q, ↓kIte_q, ↓s_ite_q, ↓kItr_q, ↓s_itr_q, ↓kRet_q, ↓s_retI_q, ↓kReR_q, ↓s_retR_q, ↓kSw_q, ↓s_sw_q, lvI_s, lvI_z, lvL_s, lvL_z, lvR_s, lvR_z, kFld_q, kFlR_q, kAl1_q, kAl2_q, kAr1_q, kAr2_q, kLen_q, kO1_q, kO2_q, kD1_q, kD2_q, kL2i_q, kB1_q, kB2_q, kCb_q, kCb_0, kCb_1, kNot_q, kAnd_q, kOr_q, kNul_q, kCond_q, kTern_q, kA2_q, kAI_q, kAL_q, kAR_q, kCall_q, kCalS_q, kRI_q, kRR_q, kRU_q, kRP_q, kSt_q, kStL_q, kStR_q, kPut1_q, kPut2_q, kPz1_q, kPz2_q, kPr1_q, kPr2_q, kPo1_q, kPo2_q, kAs1_q, kAs2_q, kAs3_q, kZs1_q, kZs2_q, kZs3_q, kRs1_q, kRs2_q, kRs3_q, kAo1_q, kAo2_q, kAo3_q, kIf_q, kIte_q, kItr_q, kRet_q, kReR_q, kSw_q, neb_q, gtb_q, geb_q, lnB_s, isI_s, isI_z, gI_s, gI_z, gR_s, gR_z, gA_s, isA_s, bdo_s, rHd_c, isHd_c, noL_z, noL_1, noL_s, nl_I, nl_R, nl_U, stI, stR, bd_t, oA, oS, oM, oD, oR, tn_add, tn_mul, tn_nat, eqb_t, eqb_f, ltb_t, ltb_f, leb_t, leb_f, nob_s, nob_n, nat_eq, nat_lt, nat_le, wK0 hW, wK1 hW, wK2 hW, wK3 hW, wK4 hW, wK5 hW, wR1 hW, wR2 hW, wR3 hW, wR4 hW, wR5 hW, i1, c, b2i]
    refine X7_measureTo_ok hW hE0 hd hp (fun J hJ hS => ?_)
    have s1 : J (w + 3) q = dst e n q p := by rw [hS q hq]; unfold enc; rw [if_pos c3]
    have u1 : upI J (w + 5) 0 (p : Int) (w + 3) q = dst e n q p := by rw [upI_row (by omega)]; exact s1
    have d0 := dst_nn (e := e) n q p
    simp (disch := omega) [-Int.not_le, -Int.not_lt, ↓e_ci_p, ↓r_null_p, ↓a_nil_p, ↓s_skip_p, ↓s_inc_p, ↓s_brk_p, ↓s_ret_p, ↓lvI_s, ↓lvI_z, ↓lvL_s, ↓lvL_z, ↓lvR_s, ↓lvR_z, ↓e_lv_q, ↓l_lv_q, ↓r_lv_q, ↓kFld_q, ↓e_fld_q, ↓kFlR_q, ↓r_fld_q, ↓kAl1_q, ↓kAl2_q, ↓e_ald_q, ↓z_ald_q, ↓kAr1_q, ↓kAr2_q, ↓r_ald_q, ↓kLen_q, ↓e_len_q, ↓kO1_q, ↓kO2_q, ↓kD1_q, ↓kD2_q, ↓e_op_q, ↓e_dv_q, ↓l_op_q, ↓l_dv_q, ↓l_sh_q, ↓e_lcmp_q, ↓e_min_q, ↓kL2i_q, ↓e_l2i_q, ↓kB1_q, ↓kB2_q, ↓c_eq_q, ↓c_ne_q, ↓c_lt_q, ↓c_ge_q, ↓c_gt_q, ↓c_le_q, ↓kCb_q, ↓kCb_0, ↓kCb_1, ↓c_b_q, ↓kNot_q, ↓c_not_q, ↓kAnd_q, ↓c_and_q, ↓kOr_q, ↓c_or_q, ↓kNul_q, ↓c_null_q, ↓kCond_q, ↓e_cond_q, ↓kTern_q, ↓x_tern_q, ↓kA2_q, ↓kAI_q, ↓kAL_q, ↓kAR_q, ↓a_I_q, ↓a_L_q, ↓a_R_q, ↓kCall_q, ↓kCalS_q, ↓kRI_q, ↓kRR_q, ↓kRU_q, ↓kRP_q, ↓e_callV_q, ↓r_callV_q, ↓e_callS_q, ↓s_callV_q, ↓s_popV_q, ↓s_seq_q, ↓kSt_q, ↓s_st_q, ↓kStL_q, ↓s_stL_q, ↓kStR_q, ↓s_stR_q, ↓kPut1_q, ↓kPut2_q, ↓s_put_q, ↓kPz1_q, ↓kPz2_q, ↓s_putZ_q, ↓kPr1_q, ↓kPr2_q, ↓s_putR_q, ↓kPo1_q, ↓kPo2_q, ↓s_putop_q, ↓kAs1_q, ↓kAs2_q, ↓kAs3_q, ↓s_ast_q, ↓kZs1_q, ↓kZs2_q, ↓kZs3_q, ↓s_zast_q, ↓kRs1_q, ↓kRs2_q, ↓kRs3_q, ↓s_rast_q, ↓kAo1_q, ↓kAo2_q, ↓kAo3_q, ↓s_astop_q, ↓kIf_q, ↓s_if_q, ↓kIte_q, ↓s_ite_q, ↓kItr_q, ↓s_itr_q, ↓kRet_q, ↓s_retI_q, ↓kReR_q, ↓s_retR_q, ↓kSw_q, ↓s_sw_q, lvI_s, lvI_z, lvL_s, lvL_z, lvR_s, lvR_z, kFld_q, kFlR_q, kAl1_q, kAl2_q, kAr1_q, kAr2_q, kLen_q, kO1_q, kO2_q, kD1_q, kD2_q, kL2i_q, kB1_q, kB2_q, kCb_q, kCb_0, kCb_1, kNot_q, kAnd_q, kOr_q, kNul_q, kCond_q, kTern_q, kA2_q, kAI_q, kAL_q, kAR_q, kCall_q, kCalS_q, kRI_q, kRR_q, kRU_q, kRP_q, kSt_q, kStL_q, kStR_q, kPut1_q, kPut2_q, kPz1_q, kPz2_q, kPr1_q, kPr2_q, kPo1_q, kPo2_q, kAs1_q, kAs2_q, kAs3_q, kZs1_q, kZs2_q, kZs3_q, kRs1_q, kRs2_q, kRs3_q, kAo1_q, kAo2_q, kAo3_q, kIf_q, kIte_q, kItr_q, kRet_q, kReR_q, kSw_q, neb_q, gtb_q, geb_q, lnB_s, isI_s, isI_z, gI_s, gI_z, gR_s, gR_z, gA_s, isA_s, bdo_s, rHd_c, isHd_c, noL_z, noL_1, noL_s, nl_I, nl_R, nl_U, stI, stR, bd_t, oA, oS, oM, oD, oR, tn_add, tn_mul, tn_nat, eqb_t, eqb_f, ltb_t, ltb_f, leb_t, leb_f, nob_s, nob_n, nat_eq, nat_lt, nat_le, wK0 hW, wK1 hW, wK2 hW, wK3 hW, wK4 hW, wK5 hW, wR1 hW, wR2 hW, wR3 hW, wR4 hW, wR5 hW, u1]
    have hro : ∀ x, x ≠ w → x ≠ w + 5 → upI (upI J (w + 5) 0 (p : Int)) w 6 (dst e n q p + 1) x = J x := fun x a b => by rw [upI_row a, upI_row b]
    have hrw : ∀ k, k ≠ 6 → upI (upI J (w + 5) 0 (p : Int)) w 6 (dst e n q p + 1) w k = J w k := fun k hk => by
      have : ¬ w = w + 5 := by omega
      simp [upI, hk]
    have hE2 : WEB (upI (upI J (w + 5) 0 (p : Int)) w 6 (dst e n q p + 1)) w e n := WEB_fr hE0 (by rw [hrw 0 (by decide), hJ w (by omega)]) (by rw [hro _ (by omega) (by omega), hJ _ (by omega)]) (by rw [hro _ (by omega) (by omega), hJ _ (by omega)])
    refine X7_findRing_0 hW hE2 hd hp hq hpq c3 (fun y hy => by rw [hro _ (by omega) (by omega)]; exact hS y hy) (by simp [upI]; omega) (by rw [upI_row (by omega)]; simp [upI]) (fun v3 v4 J2 hJ2 h5 => ?_)
    have e6 : J2 w 6 = (rgL e n p q : Int) := by rw [hJ2 w (by omega), hLd]; simp [upI]
    simp (disch := omega) [-Int.not_le, -Int.not_lt, ↓e_ci_p, ↓r_null_p, ↓a_nil_p, ↓s_skip_p, ↓s_inc_p, ↓s_brk_p, ↓s_ret_p, ↓lvI_s, ↓lvI_z, ↓lvL_s, ↓lvL_z, ↓lvR_s, ↓lvR_z, ↓e_lv_q, ↓l_lv_q, ↓r_lv_q, ↓kFld_q, ↓e_fld_q, ↓kFlR_q, ↓r_fld_q, ↓kAl1_q, ↓kAl2_q, ↓e_ald_q, ↓z_ald_q, ↓kAr1_q, ↓kAr2_q, ↓r_ald_q, ↓kLen_q, ↓e_len_q, ↓kO1_q, ↓kO2_q, ↓kD1_q, ↓kD2_q, ↓e_op_q, ↓e_dv_q, ↓l_op_q, ↓l_dv_q, ↓l_sh_q, ↓e_lcmp_q, ↓e_min_q, ↓kL2i_q, ↓e_l2i_q, ↓kB1_q, ↓kB2_q, ↓c_eq_q, ↓c_ne_q, ↓c_lt_q, ↓c_ge_q, ↓c_gt_q, ↓c_le_q, ↓kCb_q, ↓kCb_0, ↓kCb_1, ↓c_b_q, ↓kNot_q, ↓c_not_q, ↓kAnd_q, ↓c_and_q, ↓kOr_q, ↓c_or_q, ↓kNul_q, ↓c_null_q, ↓kCond_q, ↓e_cond_q, ↓kTern_q, ↓x_tern_q, ↓kA2_q, ↓kAI_q, ↓kAL_q, ↓kAR_q, ↓a_I_q, ↓a_L_q, ↓a_R_q, ↓kCall_q, ↓kCalS_q, ↓kRI_q, ↓kRR_q, ↓kRU_q, ↓kRP_q, ↓e_callV_q, ↓r_callV_q, ↓e_callS_q, ↓s_callV_q, ↓s_popV_q, ↓s_seq_q, ↓kSt_q, ↓s_st_q, ↓kStL_q, ↓s_stL_q, ↓kStR_q, ↓s_stR_q, ↓kPut1_q, ↓kPut2_q, ↓s_put_q, ↓kPz1_q, ↓kPz2_q, ↓s_putZ_q, ↓kPr1_q, ↓kPr2_q, ↓s_putR_q, ↓kPo1_q, ↓kPo2_q, ↓s_putop_q, ↓kAs1_q, ↓kAs2_q, ↓kAs3_q, ↓s_ast_q, ↓kZs1_q, ↓kZs2_q, ↓kZs3_q, ↓s_zast_q, ↓kRs1_q, ↓kRs2_q, ↓kRs3_q, ↓s_rast_q, ↓kAo1_q, ↓kAo2_q, ↓kAo3_q, ↓s_astop_q, ↓kIf_q, ↓s_if_q, ↓kIte_q, ↓s_ite_q, ↓kItr_q, ↓s_itr_q, ↓kRet_q, ↓s_retI_q, ↓kReR_q, ↓s_retR_q, ↓kSw_q, ↓s_sw_q, lvI_s, lvI_z, lvL_s, lvL_z, lvR_s, lvR_z, kFld_q, kFlR_q, kAl1_q, kAl2_q, kAr1_q, kAr2_q, kLen_q, kO1_q, kO2_q, kD1_q, kD2_q, kL2i_q, kB1_q, kB2_q, kCb_q, kCb_0, kCb_1, kNot_q, kAnd_q, kOr_q, kNul_q, kCond_q, kTern_q, kA2_q, kAI_q, kAL_q, kAR_q, kCall_q, kCalS_q, kRI_q, kRR_q, kRU_q, kRP_q, kSt_q, kStL_q, kStR_q, kPut1_q, kPut2_q, kPz1_q, kPz2_q, kPr1_q, kPr2_q, kPo1_q, kPo2_q, kAs1_q, kAs2_q, kAs3_q, kZs1_q, kZs2_q, kZs3_q, kRs1_q, kRs2_q, kRs3_q, kAo1_q, kAo2_q, kAo3_q, kIf_q, kIte_q, kItr_q, kRet_q, kReR_q, kSw_q, neb_q, gtb_q, geb_q, lnB_s, isI_s, isI_z, gI_s, gI_z, gR_s, gR_z, gA_s, isA_s, bdo_s, rHd_c, isHd_c, noL_z, noL_1, noL_s, nl_I, nl_R, nl_U, stI, stR, bd_t, oA, oS, oM, oD, oR, tn_add, tn_mul, tn_nat, eqb_t, eqb_f, ltb_t, ltb_f, leb_t, leb_f, nob_s, nob_n, nat_eq, nat_lt, nat_le, wK0 hW, wK1 hW, wK2 hW, wK3 hW, wK4 hW, wK5 hW, wR1 hW, wR2 hW, wR3 hW, wR4 hW, wR5 hW, e6]
    refine h1 c J2 ⟨fun x a b d => ?_, fun k hk => ?_⟩ h5
    · rw [hJ2 x d, hro x a d, hJ x b, upI_row a]
    · rw [hJ2 w (by omega), hrw k hk, hJ w (by omega)]; simp [upI, hk]
end CR
