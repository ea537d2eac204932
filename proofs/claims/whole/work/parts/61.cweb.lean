/-! the class's web -/
def setB (f : Nat → Bool) : Nat → Nat
  | 0 => 0
  | q + 1 => if f q = true then setB f q ||| 2 ^ q else setB f q
theorem setB_tb (f : Nat → Bool) : ∀ n q, (setB f n).testBit q = (decide (q < n) && f q) := by
  intro n
  induction n with
  | zero => intro q; simp [setB]
  | succ n ih =>
    intro q
    rw [setB]
    by_cases hf : f n = true
    · rw [if_pos hf, tb_or, ih, tb_pow]
      by_cases h1 : q = n
      · subst h1; simp [hf]
      · have h2 : ¬ n = q := fun h => h1 h.symm
        by_cases h3 : q < n
        · have : q < n + 1 := by omega
          simp [h2, h3, this]
        · have : ¬ q < n + 1 := by omega
          simp [h2, h3, this]
    · rw [if_neg hf, ih]
      by_cases h1 : q = n
      · subst h1; simp at hf; simp [hf]
      · by_cases h3 : q < n
        · have : q < n + 1 := by omega
          simp [h3, this]
        · have : ¬ q < n + 1 := by omega
          simp [h3, this]
theorem setB_lt (f : Nat → Bool) (n : Nat) : setB f n < 2 ^ n := by
  apply tb_lt
  intro q hq
  have : ¬ q < n := by omega
  rw [setB_tb]; simp [this]
theorem setB_1024 (f : Nat → Bool) {n : Nat} (hn : n ≤ 10) : setB f n < 1024 := Nat.lt_of_lt_of_le (setB_lt f n) (Nat.pow_le_pow_right (n := 2) (by decide) hn)
theorem setB_congr {f g : Nat → Bool} {n : Nat} (h : ∀ q, q < n → f q = g q) : setB f n = setB g n := by
  apply tb_eq; intro q; rw [setB_tb, setB_tb]
  by_cases hq : q < n
  · rw [h q hq]
  · simp [hq]
theorem setB_or (f g : Nat → Bool) (n : Nat) : setB f n ||| setB g n = setB (fun q => f q || g q) n := by
  apply tb_eq; intro q; rw [tb_or, setB_tb, setB_tb, setB_tb]
  by_cases hq : q < n <;> simp [hq]
theorem upI_idem {I : Nat → Nat → Int} {x k : Nat} {v w : Int} : upI (upI I x k v) x k w = upI I x k w := by
  funext y j; unfold upI; split <;> simp_all
/-- the web of e with n parts is laid at w -/
def WEB (J : Nat → Nat → Int) (w : Nat) (e : Nat → Int) (n : Nat) : Prop := J w 0 = (n : Int) ∧ n ≤ 10 ∧ (∀ p, p < n → J (w + 1) p = ((setB (fun q => decide (0 < e (10 * p + q))) n : Nat) : Int)) ∧ ∀ p, p < n → J (w + 2) p = ((setB (rch e n p) n : Nat) : Int)
section CW
variable {kd : List (Nat × Nat)} {R : Nat → Nat → Option Nat} {I : Nat → Nat → Int} {K : AV → XS → Prop} {w : Nat}
def ndS (e : Nat → Int) (n p : Nat) : Nat := setB (fun q => decide (0 < e (10 * p + q))) n
theorem X8_pr {st : XS} {p q : Nat} (hp : p < 10) (hq : q < 10) : B_X8_pair [vI (p : Int), vI (q : Int)] st K = K (vI ((10 * p + q : Nat) : Int)) st := by
  rw [X8_pair_eq (by omega) (by omega) (by omega) (by omega)]
  have : 10 * (p : Int) + q = ((10 * p + q : Nat) : Int) := by omega
  rw [this]
theorem X8_in {st : XS} {S q : Nat} (hS : S < 1024) (hq : q < 20) : B_X8_isIn [vI (q : Int), vI (S : Int)] st K = K (vI (b2i (S.testBit q))) st := by
  rw [X8_isIn_eq (by omega) (by omega) (by omega) (by omega), tn_nat, tn_nat]; rfl
set_option maxHeartbeats 4000000 in
theorem X7_link_0 (hW : isWeb kd R w) {o n p : Nat} {e : Nat → Int} (ho : kd[o]? = some (0, 100)) (ho1 : o ≠ w + 1) (he : ∀ k, k < 100 → I o k = e k) (hn : n ≤ 10) (hp : p < n) (hw0 : I w 0 = (n : Int)) {S0 : Nat → Nat → Int} (e_S : S0 = upI I (w + 1) p ((ndS e (0) p : Nat) : Int)) {Kn Kb : XE → XS → Prop} {Kr : AV → XS → Prop} 
    (hkk : Kn [vR (some w), vR (some o), vI (n : Int), vI (p : Int), vI ((n : Nat) : Int)] (kd, upI I (w + 1) p ((ndS e (n) p : Nat) : Int), R)) : lp_X7_link_0 Kn Kb Kr [vR (some w), vR (some o), vI (n : Int), vI (p : Int), vI 0] (kd, S0, R) := by
  unfold lp_X7_link_0
  refine forUp (lo := 0) (n := n) (fun q env st => env = [vR (some w), vR (some o), vI (n : Int), vI (p : Int), vI (q : Int)] ∧ st = (kd, upI I (w + 1) p ((ndS e (q) p : Nat) : Int), R)) (by omega) (by omega) ⟨rfl, by first | (rw [e_S]; done) | (rw [e_S]; rfl)⟩ ?_ ?_ ?_
  · rintro q env st hle ⟨rfl, rfl⟩
    first | exact ⟨rfl, fun K h => h⟩ | exact ⟨rfl, fun K h => ⟨_, rfl, h⟩⟩ | (refine ⟨rfl, fun K h => ?_⟩; simp (disch := omega) [-Int.not_le, -Int.not_lt, ↓e_ci_p, ↓e_lv_p, ↓l_lv_p, ↓r_lv_p, ↓r_null_p, ↓e_fld_p, ↓r_fld_p, ↓e_ald_p, ↓z_ald_p, ↓r_ald_p, ↓e_len_p, ↓e_op_p, ↓e_dv_p, ↓l_op_p, ↓l_dv_p, ↓l_sh_p, ↓e_lcmp_p, ↓e_l2i_p, ↓e_min_p, ↓c_b_p, ↓c_not_p, ↓c_and_p, ↓c_or_p, ↓c_null_p, ↓c_eq_p, ↓c_ne_p, ↓c_lt_p, ↓c_ge_p, ↓c_gt_p, ↓c_le_p, ↓e_cond_p, ↓x_tern_p, ↓a_nil_p, ↓a_I_p, ↓a_L_p, ↓a_R_p, ↓e_callV_p, ↓r_callV_p, ↓e_callS_p, ↓s_skip_p, ↓s_seq_p, ↓s_st_p, ↓s_stL_p, ↓s_stR_p, ↓s_inc_p, ↓s_put_p, ↓s_putZ_p, ↓s_putR_p, ↓s_putop_p, ↓s_ast_p, ↓s_zast_p, ↓s_rast_p, ↓s_astop_p, ↓s_callV_p, ↓s_popV_p, ↓s_if_p, ↓s_ite_p, ↓s_itr_p, ↓s_brk_p, ↓s_retI_p, ↓s_retR_p, ↓s_ret_p, ↓s_sw_p, isI_s, isI_z, isL_s, isL_z, isR_s, isR_z, gI_s, gI_z, gL_z, gR_s, gR_z, gA_s, isA_s, bdo_s, arOK_s, isVI_I, isVR_R, vInt_I, vInt_L, vRef_R, lenOf_s, lnOK_s, rHd_c, isHd_c, noL_z, noL_1, noL_s, nl_I, nl_R, nl_U, stI, stR, bd_t, oA, oS, oM, oD, oR, tn_add, tn_mul, tn_nat, eqb_t, eqb_f, ltb_t, ltb_f, leb_t, leb_f, nob_s, nob_n, nat_eq, nat_lt, nat_le, wK0 hW, wK1 hW, wK2 hW, wK3 hW, wK4 hW, wK5 hW, wR1 hW, wR2 hW, wR3 hW, wR4 hW, wR5 hW, (show ∀ v, upI I (w + 1) p v w 0 = (n : Int) from fun v => by rw [upI_row (by omega)]; exact hw0)]; first | exact h | simpa using h)
  · rintro q env st hlo hlt ⟨rfl, rfl⟩ Kx hx
    have fin : ∀ (S' : Nat → Nat → Int) , S' = upI I (w + 1) p ((ndS e (q + 1) p : Nat) : Int) → Kx [vR (some w), vR (some o), vI (n : Int), vI (p : Int), vI (q : Int)] (kd, S', R) := by
      intro S' q_S
      subst q_S
      exact hx _ _ rfl (by simp [noL_z, noL_1, noL_s, nl_I, nl_R, nl_U]) ⟨rfl, rfl⟩
    have r1 : upI I (w + 1) p ((ndS e q p : Nat) : Int) o (10 * p + q) = e (10 * p + q) := by rw [upI_row ho1]; exact he _ (by omega)
    have r2 : upI I (w + 1) p ((ndS e q p : Nat) : Int) (w + 1) p = ((ndS e q p : Nat) : Int) := by simp [upI]
    have hS : ndS e (q + 1) p = if decide (0 < e (10 * p + q)) = true then ndS e q p ||| 2 ^ q else ndS e q p := rfl
    have hB : ndS e q p < 1024 := setB_1024 _ (by omega)
    generalize ndS e q p = B at *
    have hor : o2 f_ior (B : Int) (o2 f_ishl 1 (q : Int)) = ((B ||| 2 ^ q : Nat) : Int) := by rw [oOrS (by omega) (by omega) (by omega) (by omega), tn_nat, tn_nat]
    have hpr := fun (st : XS) (K : AV → XS → Prop) => X8_pr (K := K) (st := st) (show p < 10 by omega) (show q < 10 by omega)
    by_cases c : 0 < e (10 * p + q)
    · simp (disch := omega) [-Int.not_le, -Int.not_lt, ↓e_ci_p, ↓e_lv_p, ↓l_lv_p, ↓r_lv_p, ↓r_null_p, ↓e_fld_p, ↓r_fld_p, ↓e_ald_p, ↓z_ald_p, ↓r_ald_p, ↓e_len_p, ↓e_op_p, ↓e_dv_p, ↓l_op_p, ↓l_dv_p, ↓l_sh_p, ↓e_lcmp_p, ↓e_l2i_p, ↓e_min_p, ↓c_b_p, ↓c_not_p, ↓c_and_p, ↓c_or_p, ↓c_null_p, ↓c_eq_p, ↓c_ne_p, ↓c_lt_p, ↓c_ge_p, ↓c_gt_p, ↓c_le_p, ↓e_cond_p, ↓x_tern_p, ↓a_nil_p, ↓a_I_p, ↓a_L_p, ↓a_R_p, ↓e_callV_p, ↓r_callV_p, ↓e_callS_p, ↓s_skip_p, ↓s_seq_p, ↓s_st_p, ↓s_stL_p, ↓s_stR_p, ↓s_inc_p, ↓s_put_p, ↓s_putZ_p, ↓s_putR_p, ↓s_putop_p, ↓s_ast_p, ↓s_zast_p, ↓s_rast_p, ↓s_astop_p, ↓s_callV_p, ↓s_popV_p, ↓s_if_p, ↓s_ite_p, ↓s_itr_p, ↓s_brk_p, ↓s_retI_p, ↓s_retR_p, ↓s_ret_p, ↓s_sw_p, isI_s, isI_z, isL_s, isL_z, isR_s, isR_z, gI_s, gI_z, gL_z, gR_s, gR_z, gA_s, isA_s, bdo_s, arOK_s, isVI_I, isVR_R, vInt_I, vInt_L, vRef_R, lenOf_s, lnOK_s, rHd_c, isHd_c, noL_z, noL_1, noL_s, nl_I, nl_R, nl_U, stI, stR, bd_t, oA, oS, oM, oD, oR, tn_add, tn_mul, tn_nat, eqb_t, eqb_f, ltb_t, ltb_f, leb_t, leb_f, nob_s, nob_n, nat_eq, nat_lt, nat_le, wK0 hW, wK1 hW, wK2 hW, wK3 hW, wK4 hW, wK5 hW, wR1 hW, wR2 hW, wR3 hW, wR4 hW, wR5 hW, hpr, ho, r1, c, r2, hor]
      exact fin _ (by rw [upI_idem, hS]; simp [c])
    · simp (disch := omega) [-Int.not_le, -Int.not_lt, ↓e_ci_p, ↓e_lv_p, ↓l_lv_p, ↓r_lv_p, ↓r_null_p, ↓e_fld_p, ↓r_fld_p, ↓e_ald_p, ↓z_ald_p, ↓r_ald_p, ↓e_len_p, ↓e_op_p, ↓e_dv_p, ↓l_op_p, ↓l_dv_p, ↓l_sh_p, ↓e_lcmp_p, ↓e_l2i_p, ↓e_min_p, ↓c_b_p, ↓c_not_p, ↓c_and_p, ↓c_or_p, ↓c_null_p, ↓c_eq_p, ↓c_ne_p, ↓c_lt_p, ↓c_ge_p, ↓c_gt_p, ↓c_le_p, ↓e_cond_p, ↓x_tern_p, ↓a_nil_p, ↓a_I_p, ↓a_L_p, ↓a_R_p, ↓e_callV_p, ↓r_callV_p, ↓e_callS_p, ↓s_skip_p, ↓s_seq_p, ↓s_st_p, ↓s_stL_p, ↓s_stR_p, ↓s_inc_p, ↓s_put_p, ↓s_putZ_p, ↓s_putR_p, ↓s_putop_p, ↓s_ast_p, ↓s_zast_p, ↓s_rast_p, ↓s_astop_p, ↓s_callV_p, ↓s_popV_p, ↓s_if_p, ↓s_ite_p, ↓s_itr_p, ↓s_brk_p, ↓s_retI_p, ↓s_retR_p, ↓s_ret_p, ↓s_sw_p, isI_s, isI_z, isL_s, isL_z, isR_s, isR_z, gI_s, gI_z, gL_z, gR_s, gR_z, gA_s, isA_s, bdo_s, arOK_s, isVI_I, isVR_R, vInt_I, vInt_L, vRef_R, lenOf_s, lnOK_s, rHd_c, isHd_c, noL_z, noL_1, noL_s, nl_I, nl_R, nl_U, stI, stR, bd_t, oA, oS, oM, oD, oR, tn_add, tn_mul, tn_nat, eqb_t, eqb_f, ltb_t, ltb_f, leb_t, leb_f, nob_s, nob_n, nat_eq, nat_lt, nat_le, wK0 hW, wK1 hW, wK2 hW, wK3 hW, wK4 hW, wK5 hW, wR1 hW, wR2 hW, wR3 hW, wR4 hW, wR5 hW, hpr, ho, r1, c]
      exact fin _ (by rw [hS]; simp [c])
  · rintro env st ⟨rfl, rfl⟩
    exact hkk
/-- rows of the web as they are laid, p by p -/
def ndR (e : Nat → Int) (n p : Nat) : Int := ((ndS e n p : Nat) : Int)
def rcS (e : Nat → Int) (n b p : Nat) : Nat := setB (RR e b p) n
def rcR (e : Nat → Int) (n b p : Nat) : Int := ((rcS e n b p : Nat) : Int)
theorem rc0 {e : Nat → Int} {n p : Nat} : rcR e n 0 p = ndR e n p := by
  unfold rcR ndR rcS ndS
  rw [setB_congr (f := RR e 0 p) (g := fun q => decide (0 < e (10 * p + q))) (fun q _ => by simp [RR])]
set_option maxHeartbeats 4000000 in
theorem X7_link_1 (hW : isWeb kd R w) {o n : Nat} {e : Nat → Int} (ho : kd[o]? = some (0, 100)) (ho1 : o ≠ w + 1 ∧ o ≠ w + 2) (he : ∀ k, k < 100 → I o k = e k) (hn : n ≤ 10) (hw0 : I w 0 = (n : Int)) {v4 : AV} (h_v4 : nl v4 = true) {S0 : Nat → Nat → Int} (e_S : S0 = setRow (setRow I (w + 1) (0) (ndR e n)) (w + 2) (0) (ndR e n)) {Kn Kb : XE → XS → Prop} {Kr : AV → XS → Prop} 
    (hkk : ∀ v4 : AV, nl v4 = true → Kn [vR (some w), vR (some o), vI (n : Int), vI ((n : Nat) : Int), v4] (kd, setRow (setRow I (w + 1) (n) (ndR e n)) (w + 2) (n) (ndR e n), R)) : lp_X7_link_1 Kn Kb Kr [vR (some w), vR (some o), vI (n : Int), vI 0, v4] (kd, S0, R) := by
  unfold lp_X7_link_1
  refine forUp (lo := 0) (n := n) (fun p env st => ∃ v4 : AV, nl v4 = true ∧ env = [vR (some w), vR (some o), vI (n : Int), vI (p : Int), v4] ∧ st = (kd, setRow (setRow I (w + 1) (p) (ndR e n)) (w + 2) (p) (ndR e n), R)) (by omega) (by omega) ⟨v4, h_v4, rfl, by first | (rw [e_S]; done) | (rw [e_S]; rfl)⟩ ?_ ?_ ?_
  · rintro p env st hle ⟨v4, h_v4, rfl, rfl⟩
    first | exact ⟨rfl, fun K h => h⟩ | exact ⟨rfl, fun K h => ⟨_, rfl, h⟩⟩ | (refine ⟨rfl, fun K h => ?_⟩; simp (disch := omega) [-Int.not_le, -Int.not_lt, ↓e_ci_p, ↓e_lv_p, ↓l_lv_p, ↓r_lv_p, ↓r_null_p, ↓e_fld_p, ↓r_fld_p, ↓e_ald_p, ↓z_ald_p, ↓r_ald_p, ↓e_len_p, ↓e_op_p, ↓e_dv_p, ↓l_op_p, ↓l_dv_p, ↓l_sh_p, ↓e_lcmp_p, ↓e_l2i_p, ↓e_min_p, ↓c_b_p, ↓c_not_p, ↓c_and_p, ↓c_or_p, ↓c_null_p, ↓c_eq_p, ↓c_ne_p, ↓c_lt_p, ↓c_ge_p, ↓c_gt_p, ↓c_le_p, ↓e_cond_p, ↓x_tern_p, ↓a_nil_p, ↓a_I_p, ↓a_L_p, ↓a_R_p, ↓e_callV_p, ↓r_callV_p, ↓e_callS_p, ↓s_skip_p, ↓s_seq_p, ↓s_st_p, ↓s_stL_p, ↓s_stR_p, ↓s_inc_p, ↓s_put_p, ↓s_putZ_p, ↓s_putR_p, ↓s_putop_p, ↓s_ast_p, ↓s_zast_p, ↓s_rast_p, ↓s_astop_p, ↓s_callV_p, ↓s_popV_p, ↓s_if_p, ↓s_ite_p, ↓s_itr_p, ↓s_brk_p, ↓s_retI_p, ↓s_retR_p, ↓s_ret_p, ↓s_sw_p, isI_s, isI_z, isL_s, isL_z, isR_s, isR_z, gI_s, gI_z, gL_z, gR_s, gR_z, gA_s, isA_s, bdo_s, arOK_s, isVI_I, isVR_R, vInt_I, vInt_L, vRef_R, lenOf_s, lnOK_s, rHd_c, isHd_c, noL_z, noL_1, noL_s, nl_I, nl_R, nl_U, stI, stR, bd_t, oA, oS, oM, oD, oR, tn_add, tn_mul, tn_nat, eqb_t, eqb_f, ltb_t, ltb_f, leb_t, leb_f, nob_s, nob_n, nat_eq, nat_lt, nat_le, wK0 hW, wK1 hW, wK2 hW, wK3 hW, wK4 hW, wK5 hW, wR1 hW, wR2 hW, wR3 hW, wR4 hW, wR5 hW, (show ∀ k, setRow (setRow I (w + 1) k (ndR e n)) (w + 2) k (ndR e n) w 0 = (n : Int) from fun k => by rw [setRow_row (by omega), setRow_row (by omega)]; exact hw0)]; first | exact h | simpa using h)
  · rintro p env st hlo hlt ⟨v4, h_v4, rfl, rfl⟩ Kx hx
    have fin : ∀ (S' : Nat → Nat → Int) (v4' : AV) , S' = setRow (setRow I (w + 1) (p + 1) (ndR e n)) (w + 2) (p + 1) (ndR e n) → nl v4' = true → Kx [vR (some w), vR (some o), vI (n : Int), vI (p : Int), v4'] (kd, S', R) := by
      intro S' v4' q_S q_v4
      subst q_S
      exact hx _ _ rfl (by simp [noL_z, noL_1, noL_s, nl_I, nl_R, nl_U, q_v4, h_v4]) ⟨v4', q_v4, rfl, rfl⟩
    have hSS := setRow2_S (I := I) (x := w + 1) (y := w + 2) (k := p) (f := ndR e n) (g := ndR e n) (by omega)
    have hro : ∀ v, upI (setRow (setRow I (w + 1) p (ndR e n)) (w + 2) p (ndR e n)) (w + 1) p v o = I o := fun v => by rw [upI_row ho1.1, setRow_row ho1.2, setRow_row ho1.1]
    have hrw : ∀ v, upI (setRow (setRow I (w + 1) p (ndR e n)) (w + 2) p (ndR e n)) (w + 1) p v w 0 = (n : Int) := fun v => by rw [upI_row (by omega), setRow_row (by omega), setRow_row (by omega)]; exact hw0
    have z0 : ndS e 0 p = 0 := rfl
    generalize setRow (setRow I (w + 1) p (ndR e n)) (w + 2) p (ndR e n) = M at *
    simp (disch := omega) [-Int.not_le, -Int.not_lt, ↓e_ci_p, ↓r_null_p, ↓a_nil_p, ↓s_skip_p, ↓s_inc_p, ↓s_brk_p, ↓s_ret_p, ↓lvI_s, ↓lvI_z, ↓lvL_s, ↓lvL_z, ↓lvR_s, ↓lvR_z, ↓e_lv_q, ↓l_lv_q, ↓r_lv_q, ↓kFld_q, ↓e_fld_q, ↓kFlR_q, ↓r_fld_q, ↓kAl1_q, ↓kAl2_q, ↓e_ald_q, ↓z_ald_q, ↓kAr1_q, ↓kAr2_q, ↓r_ald_q, ↓kLen_q, ↓e_len_q, ↓kO1_q, ↓kO2_q, ↓kD1_q, ↓kD2_q, ↓e_op_q, ↓e_dv_q, ↓l_op_q, ↓l_dv_q, ↓l_sh_q, ↓e_lcmp_q, ↓e_min_q, ↓kL2i_q, ↓e_l2i_q, ↓kB1_q, ↓kB2_q, ↓c_eq_q, ↓c_ne_q, ↓c_lt_q, ↓c_ge_q, ↓c_gt_q, ↓c_le_q, ↓kCb_q, ↓kCb_0, ↓kCb_1, ↓c_b_q, ↓kNot_q, ↓c_not_q, ↓kAnd_q, ↓c_and_q, ↓kOr_q, ↓c_or_q, ↓kNul_q, ↓c_null_q, ↓kCond_q, ↓e_cond_q, ↓kTern_q, ↓x_tern_q, ↓kA2_q, ↓kAI_q, ↓kAL_q, ↓kAR_q, ↓a_I_q, ↓a_L_q, ↓a_R_q, ↓kCall_q, ↓kCalS_q, ↓kRI_q, ↓kRR_q, ↓kRU_q, ↓kRP_q, ↓e_callV_q, ↓r_callV_q, ↓e_callS_q, ↓s_callV_q, ↓s_popV_q, ↓s_seq_q, ↓kSt_q, ↓s_st_q, ↓kStL_q, ↓s_stL_q, ↓kStR_q, ↓s_stR_q, ↓kPut1_q, ↓kPut2_q, ↓s_put_q, ↓kPz1_q, ↓kPz2_q, ↓s_putZ_q, ↓kPr1_q, ↓kPr2_q, ↓s_putR_q, ↓kPo1_q, ↓kPo2_q, ↓s_putop_q, ↓kAs1_q, ↓kAs2_q, ↓kAs3_q, ↓s_ast_q, ↓kZs1_q, ↓kZs2_q, ↓kZs3_q, ↓s_zast_q, ↓kRs1_q, ↓kRs2_q, ↓kRs3_q, ↓s_rast_q, ↓kAo1_q, ↓kAo2_q, ↓kAo3_q, ↓s_astop_q, ↓kIf_q, ↓s_if_q, ↓kIte_q, ↓s_ite_q, ↓kItr_q, ↓s_itr_q, ↓kRet_q, ↓s_retI_q, ↓kReR_q, ↓s_retR_q, ↓kSw_q, ↓s_sw_q, lvI_s, lvI_z, lvL_s, lvL_z, lvR_s, lvR_z, kFld_q, kFlR_q, kAl1_q, kAl2_q, kAr1_q, kAr2_q, kLen_q, kO1_q, kO2_q, kD1_q, kD2_q, kL2i_q, kB1_q, kB2_q, kCb_q, kCb_0, kCb_1, kNot_q, kAnd_q, kOr_q, kNul_q, kCond_q, kTern_q, kA2_q, kAI_q, kAL_q, kAR_q, kCall_q, kCalS_q, kRI_q, kRR_q, kRU_q, kRP_q, kSt_q, kStL_q, kStR_q, kPut1_q, kPut2_q, kPz1_q, kPz2_q, kPr1_q, kPr2_q, kPo1_q, kPo2_q, kAs1_q, kAs2_q, kAs3_q, kZs1_q, kZs2_q, kZs3_q, kRs1_q, kRs2_q, kRs3_q, kAo1_q, kAo2_q, kAo3_q, kIf_q, kIte_q, kItr_q, kRet_q, kReR_q, kSw_q, neb_q, gtb_q, geb_q, lnB_s, isI_s, isI_z, gI_s, gI_z, gR_s, gR_z, gA_s, isA_s, bdo_s, rHd_c, isHd_c, noL_z, noL_1, noL_s, nl_I, nl_R, nl_U, stI, stR, bd_t, oA, oS, oM, oD, oR, tn_add, tn_mul, tn_nat, eqb_t, eqb_f, ltb_t, ltb_f, leb_t, leb_f, nob_s, nob_n, nat_eq, nat_lt, nat_le, wK0 hW, wK1 hW, wK2 hW, wK3 hW, wK4 hW, wK5 hW, wR1 hW, wR2 hW, wR3 hW, wR4 hW, wR5 hW, h_v4]
    refine X7_link_0 (I := upI M (w + 1) p 0) (e := e) hW ho ho1.1 (fun k hk => by rw [hro]; exact he k hk) hn hlt (hrw 0) (by rw [z0, upI_idem]; rfl) ?_
    have r1 : upI (upI M (w + 1) p 0) (w + 1) p ((ndS e n p : Nat) : Int) (w + 1) p = ndR e n p := by simp [upI, ndR]
    simp (disch := omega) [-Int.not_le, -Int.not_lt, ↓e_ci_p, ↓r_null_p, ↓a_nil_p, ↓s_skip_p, ↓s_inc_p, ↓s_brk_p, ↓s_ret_p, ↓lvI_s, ↓lvI_z, ↓lvL_s, ↓lvL_z, ↓lvR_s, ↓lvR_z, ↓e_lv_q, ↓l_lv_q, ↓r_lv_q, ↓kFld_q, ↓e_fld_q, ↓kFlR_q, ↓r_fld_q, ↓kAl1_q, ↓kAl2_q, ↓e_ald_q, ↓z_ald_q, ↓kAr1_q, ↓kAr2_q, ↓r_ald_q, ↓kLen_q, ↓e_len_q, ↓kO1_q, ↓kO2_q, ↓kD1_q, ↓kD2_q, ↓e_op_q, ↓e_dv_q, ↓l_op_q, ↓l_dv_q, ↓l_sh_q, ↓e_lcmp_q, ↓e_min_q, ↓kL2i_q, ↓e_l2i_q, ↓kB1_q, ↓kB2_q, ↓c_eq_q, ↓c_ne_q, ↓c_lt_q, ↓c_ge_q, ↓c_gt_q, ↓c_le_q, ↓kCb_q, ↓kCb_0, ↓kCb_1, ↓c_b_q, ↓kNot_q, ↓c_not_q, ↓kAnd_q, ↓c_and_q, ↓kOr_q, ↓c_or_q, ↓kNul_q, ↓c_null_q, ↓kCond_q, ↓e_cond_q, ↓kTern_q, ↓x_tern_q, ↓kA2_q, ↓kAI_q, ↓kAL_q, ↓kAR_q, ↓a_I_q, ↓a_L_q, ↓a_R_q, ↓kCall_q, ↓kCalS_q, ↓kRI_q, ↓kRR_q, ↓kRU_q, ↓kRP_q, ↓e_callV_q, ↓r_callV_q, ↓e_callS_q, ↓s_callV_q, ↓s_popV_q, ↓s_seq_q, ↓kSt_q, ↓s_st_q, ↓kStL_q, ↓s_stL_q, ↓kStR_q, ↓s_stR_q, ↓kPut1_q, ↓kPut2_q, ↓s_put_q, ↓kPz1_q, ↓kPz2_q, ↓s_putZ_q, ↓kPr1_q, ↓kPr2_q, ↓s_putR_q, ↓kPo1_q, ↓kPo2_q, ↓s_putop_q, ↓kAs1_q, ↓kAs2_q, ↓kAs3_q, ↓s_ast_q, ↓kZs1_q, ↓kZs2_q, ↓kZs3_q, ↓s_zast_q, ↓kRs1_q, ↓kRs2_q, ↓kRs3_q, ↓s_rast_q, ↓kAo1_q, ↓kAo2_q, ↓kAo3_q, ↓s_astop_q, ↓kIf_q, ↓s_if_q, ↓kIte_q, ↓s_ite_q, ↓kItr_q, ↓s_itr_q, ↓kRet_q, ↓s_retI_q, ↓kReR_q, ↓s_retR_q, ↓kSw_q, ↓s_sw_q, lvI_s, lvI_z, lvL_s, lvL_z, lvR_s, lvR_z, kFld_q, kFlR_q, kAl1_q, kAl2_q, kAr1_q, kAr2_q, kLen_q, kO1_q, kO2_q, kD1_q, kD2_q, kL2i_q, kB1_q, kB2_q, kCb_q, kCb_0, kCb_1, kNot_q, kAnd_q, kOr_q, kNul_q, kCond_q, kTern_q, kA2_q, kAI_q, kAL_q, kAR_q, kCall_q, kCalS_q, kRI_q, kRR_q, kRU_q, kRP_q, kSt_q, kStL_q, kStR_q, kPut1_q, kPut2_q, kPz1_q, kPz2_q, kPr1_q, kPr2_q, kPo1_q, kPo2_q, kAs1_q, kAs2_q, kAs3_q, kZs1_q, kZs2_q, kZs3_q, kRs1_q, kRs2_q, kRs3_q, kAo1_q, kAo2_q, kAo3_q, kIf_q, kIte_q, kItr_q, kRet_q, kReR_q, kSw_q, neb_q, gtb_q, geb_q, lnB_s, isI_s, isI_z, gI_s, gI_z, gR_s, gR_z, gA_s, isA_s, bdo_s, rHd_c, isHd_c, noL_z, noL_1, noL_s, nl_I, nl_R, nl_U, stI, stR, bd_t, oA, oS, oM, oD, oR, tn_add, tn_mul, tn_nat, eqb_t, eqb_f, ltb_t, ltb_f, leb_t, leb_f, nob_s, nob_n, nat_eq, nat_lt, nat_le, wK0 hW, wK1 hW, wK2 hW, wK3 hW, wK4 hW, wK5 hW, wR1 hW, wR2 hW, wR3 hW, wR4 hW, wR5 hW, r1]
    refine fin _ _ ?_ rfl
    rw [upI_idem, ← hSS]; rfl
  · rintro env st ⟨v4, h_v4, rfl, rfl⟩
    exact hkk v4 h_v4
set_option maxHeartbeats 4000000 in
theorem X7_link_2 (hW : isWeb kd R w) {n b : Nat} {e : Nat → Int} (hn : n ≤ 10) (hb : b < n) (hw0 : I w 0 = (n : Int)) {v1 v2 : AV} {S0 : Nat → Nat → Int} (e_S : S0 = setRow I (w + 2) n (fun j => if j < (0) then rcR e n (b + 1) j else rcR e n b j)) {Kn Kb : XE → XS → Prop} {Kr : AV → XS → Prop} 
    (hkk : Kn [vR (some w), v1, v2, vI (b : Int), vI ((n : Nat) : Int)] (kd, setRow I (w + 2) n (fun j => if j < (n) then rcR e n (b + 1) j else rcR e n b j), R)) : lp_X7_link_2 Kn Kb Kr [vR (some w), v1, v2, vI (b : Int), vI 0] (kd, S0, R) := by
  unfold lp_X7_link_2
  refine forUp (lo := 0) (n := n) (fun p env st => env = [vR (some w), v1, v2, vI (b : Int), vI (p : Int)] ∧ st = (kd, setRow I (w + 2) n (fun j => if j < (p) then rcR e n (b + 1) j else rcR e n b j), R)) (by omega) (by omega) ⟨rfl, by first | (rw [e_S]; done) | (rw [e_S]; rfl)⟩ ?_ ?_ ?_
  · rintro p env st hle ⟨rfl, rfl⟩
    first | exact ⟨rfl, fun K h => h⟩ | exact ⟨rfl, fun K h => ⟨_, rfl, h⟩⟩ | (refine ⟨rfl, fun K h => ?_⟩; simp (disch := omega) [-Int.not_le, -Int.not_lt, ↓e_ci_p, ↓e_lv_p, ↓l_lv_p, ↓r_lv_p, ↓r_null_p, ↓e_fld_p, ↓r_fld_p, ↓e_ald_p, ↓z_ald_p, ↓r_ald_p, ↓e_len_p, ↓e_op_p, ↓e_dv_p, ↓l_op_p, ↓l_dv_p, ↓l_sh_p, ↓e_lcmp_p, ↓e_l2i_p, ↓e_min_p, ↓c_b_p, ↓c_not_p, ↓c_and_p, ↓c_or_p, ↓c_null_p, ↓c_eq_p, ↓c_ne_p, ↓c_lt_p, ↓c_ge_p, ↓c_gt_p, ↓c_le_p, ↓e_cond_p, ↓x_tern_p, ↓a_nil_p, ↓a_I_p, ↓a_L_p, ↓a_R_p, ↓e_callV_p, ↓r_callV_p, ↓e_callS_p, ↓s_skip_p, ↓s_seq_p, ↓s_st_p, ↓s_stL_p, ↓s_stR_p, ↓s_inc_p, ↓s_put_p, ↓s_putZ_p, ↓s_putR_p, ↓s_putop_p, ↓s_ast_p, ↓s_zast_p, ↓s_rast_p, ↓s_astop_p, ↓s_callV_p, ↓s_popV_p, ↓s_if_p, ↓s_ite_p, ↓s_itr_p, ↓s_brk_p, ↓s_retI_p, ↓s_retR_p, ↓s_ret_p, ↓s_sw_p, isI_s, isI_z, isL_s, isL_z, isR_s, isR_z, gI_s, gI_z, gL_z, gR_s, gR_z, gA_s, isA_s, bdo_s, arOK_s, isVI_I, isVR_R, vInt_I, vInt_L, vRef_R, lenOf_s, lnOK_s, rHd_c, isHd_c, noL_z, noL_1, noL_s, nl_I, nl_R, nl_U, stI, stR, bd_t, oA, oS, oM, oD, oR, tn_add, tn_mul, tn_nat, eqb_t, eqb_f, ltb_t, ltb_f, leb_t, leb_f, nob_s, nob_n, nat_eq, nat_lt, nat_le, wK0 hW, wK1 hW, wK2 hW, wK3 hW, wK4 hW, wK5 hW, wR1 hW, wR2 hW, wR3 hW, wR4 hW, wR5 hW, (show ∀ f, setRow I (w + 2) n f w 0 = (n : Int) from fun f => by rw [setRow_row (by omega)]; exact hw0)]; first | exact h | simpa using h)
  · rintro p env st hlo hlt ⟨rfl, rfl⟩ Kx hx
    have fin : ∀ (S' : Nat → Nat → Int) , S' = setRow I (w + 2) n (fun j => if j < (p + 1) then rcR e n (b + 1) j else rcR e n b j) → Kx [vR (some w), v1, v2, vI (b : Int), vI (p : Int)] (kd, S', R) := by
      intro S' q_S
      subst q_S
      exact hx _ _ rfl (by simp [noL_z, noL_1, noL_s, nl_I, nl_R, nl_U]) ⟨rfl, rfl⟩
    have r1 : setRow I (w + 2) n (fun j => if j < p then rcR e n (b + 1) j else rcR e n b j) (w + 2) p = ((rcS e n b p : Nat) : Int) := by rw [setRow_at hlt, if_neg (by omega)]; rfl
    have hcol : rcS e n (b + 1) b = rcS e n b b := setB_congr (fun q _ => by simp [RR])
    have r2 : setRow I (w + 2) n (fun j => if j < p then rcR e n (b + 1) j else rcR e n b j) (w + 2) b = ((rcS e n b b : Nat) : Int) := by
      rw [setRow_at hb]
      split
      · show ((rcS e n (b + 1) b : Nat) : Int) = _; rw [hcol]
      · rfl
    have hB : rcS e n b p < 1024 := setB_1024 _ hn
    have hB2 : rcS e n b b < 1024 := setB_1024 _ hn
    have htb : (rcS e n b p).testBit b = RR e b p b := by unfold rcS; rw [setB_tb]; simp [hb]
    have hin := fun (st : XS) (K : AV → XS → Prop) => X8_in (K := K) (st := st) (q := b) hB (by omega)
    have hnx : rcS e n (b + 1) p = if RR e b p b = true then rcS e n b p ||| rcS e n b b else rcS e n b p := by
      split
      · rename_i h
        unfold rcS; rw [setB_or]; exact setB_congr (fun q _ => by simp [RR, h])
      · rename_i h
        have h' : RR e b p b = false := by simpa using h
        unfold rcS; exact setB_congr (fun q _ => by simp [RR, h'])
    have hSS : ∀ v, v = rcR e n (b + 1) p → upI (setRow I (w + 2) n (fun j => if j < p then rcR e n (b + 1) j else rcR e n b j)) (w + 2) p v = setRow I (w + 2) n (fun j => if j < p + 1 then rcR e n (b + 1) j else rcR e n b j) := by
      intro v hv
      funext x j
      unfold upI setRow
      by_cases h1 : x = w + 2
      · subst h1
        by_cases h2 : j = p
        · subst h2; simp [hlt, hv]
        · by_cases h3 : j < n
          · have h4 : (j < p + 1) = (j < p) := by apply propext; omega
            simp [h2, h3, h4]
          · simp [h2, h3]
      · simp [h1]
    have hor : o2 f_ior ((rcS e n b p : Nat) : Int) ((rcS e n b b : Nat) : Int) = ((rcS e n b p ||| rcS e n b b : Nat) : Int) := by rw [oOr (by omega) (by omega) (by omega) (by omega), tn_nat, tn_nat]
    rw [htb] at hin
    cases c : RR e b p b with
    | true =>
      rw [c] at hnx hin
      rw [if_pos rfl] at hnx
      have hS1 := hSS ((rcS e n b p ||| rcS e n b b : Nat) : Int) (by unfold rcR; rw [hnx])
      generalize setRow I (w + 2) n (fun j => if j < p then rcR e n (b + 1) j else rcR e n b j) = M at *
      simp (disch := omega) [-Int.not_le, -Int.not_lt, ↓e_ci_p, ↓e_lv_p, ↓l_lv_p, ↓r_lv_p, ↓r_null_p, ↓e_fld_p, ↓r_fld_p, ↓e_ald_p, ↓z_ald_p, ↓r_ald_p, ↓e_len_p, ↓e_op_p, ↓e_dv_p, ↓l_op_p, ↓l_dv_p, ↓l_sh_p, ↓e_lcmp_p, ↓e_l2i_p, ↓e_min_p, ↓c_b_p, ↓c_not_p, ↓c_and_p, ↓c_or_p, ↓c_null_p, ↓c_eq_p, ↓c_ne_p, ↓c_lt_p, ↓c_ge_p, ↓c_gt_p, ↓c_le_p, ↓e_cond_p, ↓x_tern_p, ↓a_nil_p, ↓a_I_p, ↓a_L_p, ↓a_R_p, ↓e_callV_p, ↓r_callV_p, ↓e_callS_p, ↓s_skip_p, ↓s_seq_p, ↓s_st_p, ↓s_stL_p, ↓s_stR_p, ↓s_inc_p, ↓s_put_p, ↓s_putZ_p, ↓s_putR_p, ↓s_putop_p, ↓s_ast_p, ↓s_zast_p, ↓s_rast_p, ↓s_astop_p, ↓s_callV_p, ↓s_popV_p, ↓s_if_p, ↓s_ite_p, ↓s_itr_p, ↓s_brk_p, ↓s_retI_p, ↓s_retR_p, ↓s_ret_p, ↓s_sw_p, isI_s, isI_z, isL_s, isL_z, isR_s, isR_z, gI_s, gI_z, gL_z, gR_s, gR_z, gA_s, isA_s, bdo_s, arOK_s, isVI_I, isVR_R, vInt_I, vInt_L, vRef_R, lenOf_s, lnOK_s, rHd_c, isHd_c, noL_z, noL_1, noL_s, nl_I, nl_R, nl_U, stI, stR, bd_t, oA, oS, oM, oD, oR, tn_add, tn_mul, tn_nat, eqb_t, eqb_f, ltb_t, ltb_f, leb_t, leb_f, nob_s, nob_n, nat_eq, nat_lt, nat_le, wK0 hW, wK1 hW, wK2 hW, wK3 hW, wK4 hW, wK5 hW, wR1 hW, wR2 hW, wR3 hW, wR4 hW, wR5 hW, r1, hin, b2i, r2, hor]
      exact fin _ hS1
    | false =>
      rw [c] at hnx hin
      rw [if_neg (by simp)] at hnx
      have hS1 := hSS ((rcS e n b p : Nat) : Int) (by unfold rcR; rw [hnx])
      rw [upI_id r1] at hS1
      generalize setRow I (w + 2) n (fun j => if j < p then rcR e n (b + 1) j else rcR e n b j) = M at *
      simp (disch := omega) [-Int.not_le, -Int.not_lt, ↓e_ci_p, ↓e_lv_p, ↓l_lv_p, ↓r_lv_p, ↓r_null_p, ↓e_fld_p, ↓r_fld_p, ↓e_ald_p, ↓z_ald_p, ↓r_ald_p, ↓e_len_p, ↓e_op_p, ↓e_dv_p, ↓l_op_p, ↓l_dv_p, ↓l_sh_p, ↓e_lcmp_p, ↓e_l2i_p, ↓e_min_p, ↓c_b_p, ↓c_not_p, ↓c_and_p, ↓c_or_p, ↓c_null_p, ↓c_eq_p, ↓c_ne_p, ↓c_lt_p, ↓c_ge_p, ↓c_gt_p, ↓c_le_p, ↓e_cond_p, ↓x_tern_p, ↓a_nil_p, ↓a_I_p, ↓a_L_p, ↓a_R_p, ↓e_callV_p, ↓r_callV_p, ↓e_callS_p, ↓s_skip_p, ↓s_seq_p, ↓s_st_p, ↓s_stL_p, ↓s_stR_p, ↓s_inc_p, ↓s_put_p, ↓s_putZ_p, ↓s_putR_p, ↓s_putop_p, ↓s_ast_p, ↓s_zast_p, ↓s_rast_p, ↓s_astop_p, ↓s_callV_p, ↓s_popV_p, ↓s_if_p, ↓s_ite_p, ↓s_itr_p, ↓s_brk_p, ↓s_retI_p, ↓s_retR_p, ↓s_ret_p, ↓s_sw_p, isI_s, isI_z, isL_s, isL_z, isR_s, isR_z, gI_s, gI_z, gL_z, gR_s, gR_z, gA_s, isA_s, bdo_s, arOK_s, isVI_I, isVR_R, vInt_I, vInt_L, vRef_R, lenOf_s, lnOK_s, rHd_c, isHd_c, noL_z, noL_1, noL_s, nl_I, nl_R, nl_U, stI, stR, bd_t, oA, oS, oM, oD, oR, tn_add, tn_mul, tn_nat, eqb_t, eqb_f, ltb_t, ltb_f, leb_t, leb_f, nob_s, nob_n, nat_eq, nat_lt, nat_le, wK0 hW, wK1 hW, wK2 hW, wK3 hW, wK4 hW, wK5 hW, wR1 hW, wR2 hW, wR3 hW, wR4 hW, wR5 hW, r1, hin, b2i]
      exact fin _ hS1
  · rintro env st ⟨rfl, rfl⟩
    exact hkk
set_option maxHeartbeats 4000000 in
theorem X7_link_3 (hW : isWeb kd R w) {n : Nat} {e : Nat → Int} (hn : n ≤ 10) (hw0 : I w 0 = (n : Int)) {v1 v2 : AV} (h2 : nl v2 = true) {v4 : AV} (h_v4 : nl v4 = true) {S0 : Nat → Nat → Int} (e_S : S0 = setRow I (w + 2) n (rcR e n (0))) {Kn Kb : XE → XS → Prop} {Kr : AV → XS → Prop} 
    (hkk : ∀ v4 : AV, nl v4 = true → Kn [vR (some w), v1, v2, vI ((n : Nat) : Int), v4] (kd, setRow I (w + 2) n (rcR e n (n)), R)) : lp_X7_link_3 Kn Kb Kr [vR (some w), v1, v2, vI 0, v4] (kd, S0, R) := by
  unfold lp_X7_link_3
  refine forUp (lo := 0) (n := n) (fun b env st => ∃ v4 : AV, nl v4 = true ∧ env = [vR (some w), v1, v2, vI (b : Int), v4] ∧ st = (kd, setRow I (w + 2) n (rcR e n (b)), R)) (by omega) (by omega) ⟨v4, h_v4, rfl, by first | (rw [e_S]; done) | (rw [e_S]; rfl)⟩ ?_ ?_ ?_
  · rintro b env st hle ⟨v4, h_v4, rfl, rfl⟩
    first | exact ⟨rfl, fun K h => h⟩ | exact ⟨rfl, fun K h => ⟨_, rfl, h⟩⟩ | (refine ⟨rfl, fun K h => ?_⟩; simp (disch := omega) [-Int.not_le, -Int.not_lt, ↓e_ci_p, ↓e_lv_p, ↓l_lv_p, ↓r_lv_p, ↓r_null_p, ↓e_fld_p, ↓r_fld_p, ↓e_ald_p, ↓z_ald_p, ↓r_ald_p, ↓e_len_p, ↓e_op_p, ↓e_dv_p, ↓l_op_p, ↓l_dv_p, ↓l_sh_p, ↓e_lcmp_p, ↓e_l2i_p, ↓e_min_p, ↓c_b_p, ↓c_not_p, ↓c_and_p, ↓c_or_p, ↓c_null_p, ↓c_eq_p, ↓c_ne_p, ↓c_lt_p, ↓c_ge_p, ↓c_gt_p, ↓c_le_p, ↓e_cond_p, ↓x_tern_p, ↓a_nil_p, ↓a_I_p, ↓a_L_p, ↓a_R_p, ↓e_callV_p, ↓r_callV_p, ↓e_callS_p, ↓s_skip_p, ↓s_seq_p, ↓s_st_p, ↓s_stL_p, ↓s_stR_p, ↓s_inc_p, ↓s_put_p, ↓s_putZ_p, ↓s_putR_p, ↓s_putop_p, ↓s_ast_p, ↓s_zast_p, ↓s_rast_p, ↓s_astop_p, ↓s_callV_p, ↓s_popV_p, ↓s_if_p, ↓s_ite_p, ↓s_itr_p, ↓s_brk_p, ↓s_retI_p, ↓s_retR_p, ↓s_ret_p, ↓s_sw_p, isI_s, isI_z, isL_s, isL_z, isR_s, isR_z, gI_s, gI_z, gL_z, gR_s, gR_z, gA_s, isA_s, bdo_s, arOK_s, isVI_I, isVR_R, vInt_I, vInt_L, vRef_R, lenOf_s, lnOK_s, rHd_c, isHd_c, noL_z, noL_1, noL_s, nl_I, nl_R, nl_U, stI, stR, bd_t, oA, oS, oM, oD, oR, tn_add, tn_mul, tn_nat, eqb_t, eqb_f, ltb_t, ltb_f, leb_t, leb_f, nob_s, nob_n, nat_eq, nat_lt, nat_le, wK0 hW, wK1 hW, wK2 hW, wK3 hW, wK4 hW, wK5 hW, wR1 hW, wR2 hW, wR3 hW, wR4 hW, wR5 hW, (show ∀ f, setRow I (w + 2) n f w 0 = (n : Int) from fun f => by rw [setRow_row (by omega)]; exact hw0)]; first | exact h | simpa using h)
  · rintro b env st hlo hlt ⟨v4, h_v4, rfl, rfl⟩ Kx hx
    have fin : ∀ (S' : Nat → Nat → Int) (v4' : AV) , S' = setRow I (w + 2) n (rcR e n (b + 1)) → nl v4' = true → Kx [vR (some w), v1, v2, vI (b : Int), v4'] (kd, S', R) := by
      intro S' v4' q_S q_v4
      subst q_S
      exact hx _ _ rfl (by simp [noL_z, noL_1, noL_s, nl_I, nl_R, nl_U, q_v4, h_v4, h2]) ⟨v4', q_v4, rfl, rfl⟩
    simp (disch := omega) [-Int.not_le, -Int.not_lt, ↓e_ci_p, ↓r_null_p, ↓a_nil_p, ↓s_skip_p, ↓s_inc_p, ↓s_brk_p, ↓s_ret_p, ↓lvI_s, ↓lvI_z, ↓lvL_s, ↓lvL_z, ↓lvR_s, ↓lvR_z, ↓e_lv_q, ↓l_lv_q, ↓r_lv_q, ↓kFld_q, ↓e_fld_q, ↓kFlR_q, ↓r_fld_q, ↓kAl1_q, ↓kAl2_q, ↓e_ald_q, ↓z_ald_q, ↓kAr1_q, ↓kAr2_q, ↓r_ald_q, ↓kLen_q, ↓e_len_q, ↓kO1_q, ↓kO2_q, ↓kD1_q, ↓kD2_q, ↓e_op_q, ↓e_dv_q, ↓l_op_q, ↓l_dv_q, ↓l_sh_q, ↓e_lcmp_q, ↓e_min_q, ↓kL2i_q, ↓e_l2i_q, ↓kB1_q, ↓kB2_q, ↓c_eq_q, ↓c_ne_q, ↓c_lt_q, ↓c_ge_q, ↓c_gt_q, ↓c_le_q, ↓kCb_q, ↓kCb_0, ↓kCb_1, ↓c_b_q, ↓kNot_q, ↓c_not_q, ↓kAnd_q, ↓c_and_q, ↓kOr_q, ↓c_or_q, ↓kNul_q, ↓c_null_q, ↓kCond_q, ↓e_cond_q, ↓kTern_q, ↓x_tern_q, ↓kA2_q, ↓kAI_q, ↓kAL_q, ↓kAR_q, ↓a_I_q, ↓a_L_q, ↓a_R_q, ↓kCall_q, ↓kCalS_q, ↓kRI_q, ↓kRR_q, ↓kRU_q, ↓kRP_q, ↓e_callV_q, ↓r_callV_q, ↓e_callS_q, ↓s_callV_q, ↓s_popV_q, ↓s_seq_q, ↓kSt_q, ↓s_st_q, ↓kStL_q, ↓s_stL_q, ↓kStR_q, ↓s_stR_q, ↓kPut1_q, ↓kPut2_q, ↓s_put_q, ↓kPz1_q, ↓kPz2_q, ↓s_putZ_q, ↓kPr1_q, ↓kPr2_q, ↓s_putR_q, ↓kPo1_q, ↓kPo2_q, ↓s_putop_q, ↓kAs1_q, ↓kAs2_q, ↓kAs3_q, ↓s_ast_q, ↓kZs1_q, ↓kZs2_q, ↓kZs3_q, ↓s_zast_q, ↓kRs1_q, ↓kRs2_q, ↓kRs3_q, ↓s_rast_q, ↓kAo1_q, ↓kAo2_q, ↓kAo3_q, ↓s_astop_q, ↓kIf_q, ↓s_if_q, ↓kIte_q, ↓s_ite_q, ↓kItr_q, ↓s_itr_q, ↓kRet_q, ↓s_retI_q, ↓kReR_q, ↓s_retR_q, ↓kSw_q, ↓s_sw_q, lvI_s, lvI_z, lvL_s, lvL_z, lvR_s, lvR_z, kFld_q, kFlR_q, kAl1_q, kAl2_q, kAr1_q, kAr2_q, kLen_q, kO1_q, kO2_q, kD1_q, kD2_q, kL2i_q, kB1_q, kB2_q, kCb_q, kCb_0, kCb_1, kNot_q, kAnd_q, kOr_q, kNul_q, kCond_q, kTern_q, kA2_q, kAI_q, kAL_q, kAR_q, kCall_q, kCalS_q, kRI_q, kRR_q, kRU_q, kRP_q, kSt_q, kStL_q, kStR_q, kPut1_q, kPut2_q, kPz1_q, kPz2_q, kPr1_q, kPr2_q, kPo1_q, kPo2_q, kAs1_q, kAs2_q, kAs3_q, kZs1_q, kZs2_q, kZs3_q, kRs1_q, kRs2_q, kRs3_q, kAo1_q, kAo2_q, kAo3_q, kIf_q, kIte_q, kItr_q, kRet_q, kReR_q, kSw_q, neb_q, gtb_q, geb_q, lnB_s, isI_s, isI_z, gI_s, gI_z, gR_s, gR_z, gA_s, isA_s, bdo_s, rHd_c, isHd_c, noL_z, noL_1, noL_s, nl_I, nl_R, nl_U, stI, stR, bd_t, oA, oS, oM, oD, oR, tn_add, tn_mul, tn_nat, eqb_t, eqb_f, ltb_t, ltb_f, leb_t, leb_f, nob_s, nob_n, nat_eq, nat_lt, nat_le, wK0 hW, wK1 hW, wK2 hW, wK3 hW, wK4 hW, wK5 hW, wR1 hW, wR2 hW, wR3 hW, wR4 hW, wR5 hW, h_v4]
    refine X7_link_2 (I := I) (e := e) hW hn hlt hw0 (setRow_congr (fun j hj => by rw [if_neg (by omega)])) ?_
    exact fin _ _ (setRow_congr (fun j hj => by rw [if_pos hj])) rfl
  · rintro env st ⟨v4, h_v4, rfl, rfl⟩
    exact hkk v4 h_v4
theorem X7_link_ok (hW : isWeb kd R w) {o n : Nat} {e : Nat → Int} (ho : kd[o]? = some (0, 100)) (ho1 : o ≠ w ∧ o ≠ w + 1 ∧ o ≠ w + 2) (he : ∀ k, k < 100 → I o k = e k) (hn : n ≤ 10) (hk : ∀ J, (∀ x, x ≠ w → x ≠ w + 1 → x ≠ w + 2 → J x = I x) → (∀ k, k ≠ 0 → J w k = I w k) → WEB J w e n → K vU (kd, J, R)) : B_X7_link [vR (some w), vR (some o), vI (n : Int)] (kd, I, R) K := by
  simp [B_X7_link, bodyOf, envOf, exA, catV, rkOK]
  simp (disch := omega) [t_X7_link, -Int.not_le, -Int.not_lt, ↓e_ci_p, ↓r_null_p, ↓a_nil_p, ↓s_skip_p, ↓s_inc_p, ↓s_brk_p, ↓s_ret_p, ↓lvI_s, ↓lvI_z, ↓lvL_s, ↓lvL_z, ↓lvR_s, ↓lvR_z, ↓e_lv_q, ↓l_lv_q, ↓r_lv_q, ↓kFld_q, ↓e_fld_q, ↓kFlR_q, ↓r_fld_q, ↓kAl1_q, ↓kAl2_q, ↓e_ald_q, ↓z_ald_q, ↓kAr1_q, ↓kAr2_q, ↓r_ald_q, ↓kLen_q, ↓e_len_q, ↓kO1_q, ↓kO2_q, ↓kD1_q, ↓kD2_q, ↓e_op_q, ↓e_dv_q, ↓l_op_q, ↓l_dv_q, ↓l_sh_q, ↓e_lcmp_q, ↓e_min_q, ↓kL2i_q, ↓e_l2i_q, ↓kB1_q, ↓kB2_q, ↓c_eq_q, ↓c_ne_q, ↓c_lt_q, ↓c_ge_q, ↓c_gt_q, ↓c_le_q, ↓kCb_q, ↓kCb_0, ↓kCb_1, ↓c_b_q, ↓kNot_q, ↓c_not_q, ↓kAnd_q, ↓c_and_q, ↓kOr_q, ↓c_or_q, ↓kNul_q, ↓c_null_q, ↓kCond_q, ↓e_cond_q, ↓kTern_q, ↓x_tern_q, ↓kA2_q, ↓kAI_q, ↓kAL_q, ↓kAR_q, ↓a_I_q, ↓a_L_q, ↓a_R_q, ↓kCall_q, ↓kCalS_q, ↓kRI_q, ↓kRR_q, ↓kRU_q, ↓kRP_q, ↓e_callV_q, ↓r_callV_q, ↓e_callS_q, ↓s_callV_q, ↓s_popV_q, ↓s_seq_q, ↓kSt_q, ↓s_st_q, ↓kStL_q, ↓s_stL_q, ↓kStR_q, ↓s_stR_q, ↓kPut1_q, ↓kPut2_q, ↓s_put_q, ↓kPz1_q, ↓kPz2_q, ↓s_putZ_q, ↓kPr1_q, ↓kPr2_q, ↓s_putR_q, ↓kPo1_q, ↓kPo2_q, ↓s_putop_q, ↓kAs1_q, ↓kAs2_q, ↓kAs3_q, ↓s_ast_q, ↓kZs1_q, ↓kZs2_q, ↓kZs3_q, ↓s_zast_q, ↓kRs1_q, ↓kRs2_q, ↓kRs3_q, ↓s_rast_q, ↓kAo1_q, ↓kAo2_q, ↓kAo3_q, ↓s_astop_q, ↓kIf_q, ↓s_if_q, ↓kIte_q, ↓s_ite_q, ↓kItr_q, ↓s_itr_q, ↓kRet_q, ↓s_retI_q, ↓kReR_q, ↓s_retR_q, ↓kSw_q, ↓s_sw_q, lvI_s, lvI_z, lvL_s, lvL_z, lvR_s, lvR_z, kFld_q, kFlR_q, kAl1_q, kAl2_q, kAr1_q, kAr2_q, kLen_q, kO1_q, kO2_q, kD1_q, kD2_q, kL2i_q, kB1_q, kB2_q, kCb_q, kCb_0, kCb_1, kNot_q, kAnd_q, kOr_q, kNul_q, kCond_q, kTern_q, kA2_q, kAI_q, kAL_q, kAR_q, kCall_q, kCalS_q, kRI_q, kRR_q, kRU_q, kRP_q, kSt_q, kStL_q, kStR_q, kPut1_q, kPut2_q, kPz1_q, kPz2_q, kPr1_q, kPr2_q, kPo1_q, kPo2_q, kAs1_q, kAs2_q, kAs3_q, kZs1_q, kZs2_q, kZs3_q, kRs1_q, kRs2_q, kRs3_q, kAo1_q, kAo2_q, kAo3_q, kIf_q, kIte_q, kItr_q, kRet_q, kReR_q, kSw_q, neb_q, gtb_q, geb_q, lnB_s, isI_s, isI_z, gI_s, gI_z, gR_s, gR_z, gA_s, isA_s, bdo_s, rHd_c, isHd_c, noL_z, noL_1, noL_s, nl_I, nl_R, nl_U, stI, stR, bd_t, oA, oS, oM, oD, oR, tn_add, tn_mul, tn_nat, eqb_t, eqb_f, ltb_t, ltb_f, leb_t, leb_f, nob_s, nob_n, nat_eq, nat_lt, nat_le, wK0 hW, wK1 hW, wK2 hW, wK3 hW, wK4 hW, wK5 hW, wR1 hW, wR2 hW, wR3 hW, wR4 hW, wR5 hW]
  refine X7_link_1 (I := upI I w 0 (n : Int)) (e := e) hW ho ho1.2 (fun k hk => by rw [upI_row ho1.1]; exact he k hk) hn (by simp [upI]) rfl (by rw [setRow_0, setRow_0]) (fun v4 n4 => ?_)
  simp (disch := omega) [-Int.not_le, -Int.not_lt, ↓e_ci_p, ↓r_null_p, ↓a_nil_p, ↓s_skip_p, ↓s_inc_p, ↓s_brk_p, ↓s_ret_p, ↓lvI_s, ↓lvI_z, ↓lvL_s, ↓lvL_z, ↓lvR_s, ↓lvR_z, ↓e_lv_q, ↓l_lv_q, ↓r_lv_q, ↓kFld_q, ↓e_fld_q, ↓kFlR_q, ↓r_fld_q, ↓kAl1_q, ↓kAl2_q, ↓e_ald_q, ↓z_ald_q, ↓kAr1_q, ↓kAr2_q, ↓r_ald_q, ↓kLen_q, ↓e_len_q, ↓kO1_q, ↓kO2_q, ↓kD1_q, ↓kD2_q, ↓e_op_q, ↓e_dv_q, ↓l_op_q, ↓l_dv_q, ↓l_sh_q, ↓e_lcmp_q, ↓e_min_q, ↓kL2i_q, ↓e_l2i_q, ↓kB1_q, ↓kB2_q, ↓c_eq_q, ↓c_ne_q, ↓c_lt_q, ↓c_ge_q, ↓c_gt_q, ↓c_le_q, ↓kCb_q, ↓kCb_0, ↓kCb_1, ↓c_b_q, ↓kNot_q, ↓c_not_q, ↓kAnd_q, ↓c_and_q, ↓kOr_q, ↓c_or_q, ↓kNul_q, ↓c_null_q, ↓kCond_q, ↓e_cond_q, ↓kTern_q, ↓x_tern_q, ↓kA2_q, ↓kAI_q, ↓kAL_q, ↓kAR_q, ↓a_I_q, ↓a_L_q, ↓a_R_q, ↓kCall_q, ↓kCalS_q, ↓kRI_q, ↓kRR_q, ↓kRU_q, ↓kRP_q, ↓e_callV_q, ↓r_callV_q, ↓e_callS_q, ↓s_callV_q, ↓s_popV_q, ↓s_seq_q, ↓kSt_q, ↓s_st_q, ↓kStL_q, ↓s_stL_q, ↓kStR_q, ↓s_stR_q, ↓kPut1_q, ↓kPut2_q, ↓s_put_q, ↓kPz1_q, ↓kPz2_q, ↓s_putZ_q, ↓kPr1_q, ↓kPr2_q, ↓s_putR_q, ↓kPo1_q, ↓kPo2_q, ↓s_putop_q, ↓kAs1_q, ↓kAs2_q, ↓kAs3_q, ↓s_ast_q, ↓kZs1_q, ↓kZs2_q, ↓kZs3_q, ↓s_zast_q, ↓kRs1_q, ↓kRs2_q, ↓kRs3_q, ↓s_rast_q, ↓kAo1_q, ↓kAo2_q, ↓kAo3_q, ↓s_astop_q, ↓kIf_q, ↓s_if_q, ↓kIte_q, ↓s_ite_q, ↓kItr_q, ↓s_itr_q, ↓kRet_q, ↓s_retI_q, ↓kReR_q, ↓s_retR_q, ↓kSw_q, ↓s_sw_q, lvI_s, lvI_z, lvL_s, lvL_z, lvR_s, lvR_z, kFld_q, kFlR_q, kAl1_q, kAl2_q, kAr1_q, kAr2_q, kLen_q, kO1_q, kO2_q, kD1_q, kD2_q, kL2i_q, kB1_q, kB2_q, kCb_q, kCb_0, kCb_1, kNot_q, kAnd_q, kOr_q, kNul_q, kCond_q, kTern_q, kA2_q, kAI_q, kAL_q, kAR_q, kCall_q, kCalS_q, kRI_q, kRR_q, kRU_q, kRP_q, kSt_q, kStL_q, kStR_q, kPut1_q, kPut2_q, kPz1_q, kPz2_q, kPr1_q, kPr2_q, kPo1_q, kPo2_q, kAs1_q, kAs2_q, kAs3_q, kZs1_q, kZs2_q, kZs3_q, kRs1_q, kRs2_q, kRs3_q, kAo1_q, kAo2_q, kAo3_q, kIf_q, kIte_q, kItr_q, kRet_q, kReR_q, kSw_q, neb_q, gtb_q, geb_q, lnB_s, isI_s, isI_z, gI_s, gI_z, gR_s, gR_z, gA_s, isA_s, bdo_s, rHd_c, isHd_c, noL_z, noL_1, noL_s, nl_I, nl_R, nl_U, stI, stR, bd_t, oA, oS, oM, oD, oR, tn_add, tn_mul, tn_nat, eqb_t, eqb_f, ltb_t, ltb_f, leb_t, leb_f, nob_s, nob_n, nat_eq, nat_lt, nat_le, wK0 hW, wK1 hW, wK2 hW, wK3 hW, wK4 hW, wK5 hW, wR1 hW, wR2 hW, wR3 hW, wR4 hW, wR5 hW, n4]
  have e0 : setRow (setRow (upI I w 0 (n : Int)) (w + 1) n (ndR e n)) (w + 2) n (ndR e n) = setRow (setRow (upI I w 0 (n : Int)) (w + 1) n (ndR e n)) (w + 2) n (rcR e n 0) := setRow_congr (fun j _ => rc0.symm)
  refine X7_link_3 (I := setRow (upI I w 0 (n : Int)) (w + 1) n (ndR e n)) (e := e) hW hn (by rw [setRow_row (by omega)]; simp [upI]) rfl n4 e0 (fun v4 _ => ?_)
  simp (disch := omega) [-Int.not_le, -Int.not_lt, ↓e_ci_p, ↓r_null_p, ↓a_nil_p, ↓s_skip_p, ↓s_inc_p, ↓s_brk_p, ↓s_ret_p, ↓lvI_s, ↓lvI_z, ↓lvL_s, ↓lvL_z, ↓lvR_s, ↓lvR_z, ↓e_lv_q, ↓l_lv_q, ↓r_lv_q, ↓kFld_q, ↓e_fld_q, ↓kFlR_q, ↓r_fld_q, ↓kAl1_q, ↓kAl2_q, ↓e_ald_q, ↓z_ald_q, ↓kAr1_q, ↓kAr2_q, ↓r_ald_q, ↓kLen_q, ↓e_len_q, ↓kO1_q, ↓kO2_q, ↓kD1_q, ↓kD2_q, ↓e_op_q, ↓e_dv_q, ↓l_op_q, ↓l_dv_q, ↓l_sh_q, ↓e_lcmp_q, ↓e_min_q, ↓kL2i_q, ↓e_l2i_q, ↓kB1_q, ↓kB2_q, ↓c_eq_q, ↓c_ne_q, ↓c_lt_q, ↓c_ge_q, ↓c_gt_q, ↓c_le_q, ↓kCb_q, ↓kCb_0, ↓kCb_1, ↓c_b_q, ↓kNot_q, ↓c_not_q, ↓kAnd_q, ↓c_and_q, ↓kOr_q, ↓c_or_q, ↓kNul_q, ↓c_null_q, ↓kCond_q, ↓e_cond_q, ↓kTern_q, ↓x_tern_q, ↓kA2_q, ↓kAI_q, ↓kAL_q, ↓kAR_q, ↓a_I_q, ↓a_L_q, ↓a_R_q, ↓kCall_q, ↓kCalS_q, ↓kRI_q, ↓kRR_q, ↓kRU_q, ↓kRP_q, ↓e_callV_q, ↓r_callV_q, ↓e_callS_q, ↓s_callV_q, ↓s_popV_q, ↓s_seq_q, ↓kSt_q, ↓s_st_q, ↓kStL_q, ↓s_stL_q, ↓kStR_q, ↓s_stR_q, ↓kPut1_q, ↓kPut2_q, ↓s_put_q, ↓kPz1_q, ↓kPz2_q, ↓s_putZ_q, ↓kPr1_q, ↓kPr2_q, ↓s_putR_q, ↓kPo1_q, ↓kPo2_q, ↓s_putop_q, ↓kAs1_q, ↓kAs2_q, ↓kAs3_q, ↓s_ast_q, ↓kZs1_q, ↓kZs2_q, ↓kZs3_q, ↓s_zast_q, ↓kRs1_q, ↓kRs2_q, ↓kRs3_q, ↓s_rast_q, ↓kAo1_q, ↓kAo2_q, ↓kAo3_q, ↓s_astop_q, ↓kIf_q, ↓s_if_q, ↓kIte_q, ↓s_ite_q, ↓kItr_q, ↓s_itr_q, ↓kRet_q, ↓s_retI_q, ↓kReR_q, ↓s_retR_q, ↓kSw_q, ↓s_sw_q, lvI_s, lvI_z, lvL_s, lvL_z, lvR_s, lvR_z, kFld_q, kFlR_q, kAl1_q, kAl2_q, kAr1_q, kAr2_q, kLen_q, kO1_q, kO2_q, kD1_q, kD2_q, kL2i_q, kB1_q, kB2_q, kCb_q, kCb_0, kCb_1, kNot_q, kAnd_q, kOr_q, kNul_q, kCond_q, kTern_q, kA2_q, kAI_q, kAL_q, kAR_q, kCall_q, kCalS_q, kRI_q, kRR_q, kRU_q, kRP_q, kSt_q, kStL_q, kStR_q, kPut1_q, kPut2_q, kPz1_q, kPz2_q, kPr1_q, kPr2_q, kPo1_q, kPo2_q, kAs1_q, kAs2_q, kAs3_q, kZs1_q, kZs2_q, kZs3_q, kRs1_q, kRs2_q, kRs3_q, kAo1_q, kAo2_q, kAo3_q, kIf_q, kIte_q, kItr_q, kRet_q, kReR_q, kSw_q, neb_q, gtb_q, geb_q, lnB_s, isI_s, isI_z, gI_s, gI_z, gR_s, gR_z, gA_s, isA_s, bdo_s, rHd_c, isHd_c, noL_z, noL_1, noL_s, nl_I, nl_R, nl_U, stI, stR, bd_t, oA, oS, oM, oD, oR, tn_add, tn_mul, tn_nat, eqb_t, eqb_f, ltb_t, ltb_f, leb_t, leb_f, nob_s, nob_n, nat_eq, nat_lt, nat_le, wK0 hW, wK1 hW, wK2 hW, wK3 hW, wK4 hW, wK5 hW, wR1 hW, wR2 hW, wR3 hW, wR4 hW, wR5 hW]
  refine hk _ (fun x h0 h1 h2 => ?_) (fun k hk => ?_) ⟨?_, hn, fun p hp => ?_, fun p hp => ?_⟩
  · rw [setRow_row h2, setRow_row h1, upI_row h0]
  · rw [setRow_row (by omega), setRow_row (by omega)]; simp [upI, hk]
  · rw [setRow_row (by omega), setRow_row (by omega)]; simp [upI]
  · rw [setRow_row (by omega), setRow_at hp]; rfl
  · rw [setRow_at hp]; rfl
end CW
