/-! deps: 30.tool 30.toolb -/
/-! bits -/
theorem bv_nn {x : Int} (h1 : 0 ≤ x) (h2 : x < 2147483648) : (Int32.ofInt x).toBitVec.toNat = x.toNat := by
  rw [Int32.toBitVec_ofInt, BitVec.toNat_ofInt]
  have : ((2 ^ 32 : Nat) : Int) = 4294967296 := rfl
  rw [this, Int.emod_eq_of_lt h1 (by omega)]
theorem bv_ti {b : BitVec 32} (h : b.toNat < 2147483648) : b.toInt = (b.toNat : Int) := BitVec.toInt_eq_toNat_of_lt (by omega)
theorem oOr {x y : Int} (h1 : 0 ≤ x) (h2 : x < 2147483648) (h3 : 0 ≤ y) (h4 : y < 2147483648) : o2 f_ior x y = ((x.toNat ||| y.toNat : Nat) : Int) := by
  show (Int32.ofInt x ||| Int32.ofInt y).toBitVec.toInt = _
  have hl : x.toNat ||| y.toNat < 2 ^ 31 := Nat.or_lt_two_pow (by omega) (by omega)
  have e : (Int32.ofInt x ||| Int32.ofInt y).toBitVec.toNat = x.toNat ||| y.toNat := by rw [Int32.toBitVec_or, BitVec.toNat_or, bv_nn h1 h2, bv_nn h3 h4]
  rw [bv_ti (by omega), e]
theorem oAnd {x y : Int} (h1 : 0 ≤ x) (h2 : x < 2147483648) (h3 : 0 ≤ y) (h4 : y < 2147483648) : o2 f_iand x y = ((x.toNat &&& y.toNat : Nat) : Int) := by
  show (Int32.ofInt x &&& Int32.ofInt y).toBitVec.toInt = _
  have hl : x.toNat &&& y.toNat < 2 ^ 31 := Nat.and_lt_two_pow _ (by omega)
  have e : (Int32.ofInt x &&& Int32.ofInt y).toBitVec.toNat = x.toNat &&& y.toNat := by rw [Int32.toBitVec_and, BitVec.toNat_and, bv_nn h1 h2, bv_nn h3 h4]
  rw [bv_ti (by omega), e]
theorem sh_am : ∀ q : Fin 32, ((Int32.ofInt (q.val : Int) &&& 31).toBitVec.smod 32).toNat = q.val := by decide +kernel
theorem oShr {x q : Int} (h1 : -2147483648 ≤ x) (h2 : x < 2147483648) (h3 : 0 ≤ q) (h4 : q < 32) : o2 f_ishr x q = x >>> q.toNat := by
  show (Int32.ofInt x >>> (Int32.ofInt q &&& 31)).toBitVec.toInt = _
  have e := sh_am ⟨q.toNat, by omega⟩
  have eq : ((q.toNat : Nat) : Int) = q := by omega
  simp only [eq] at e
  rw [Int32.toBitVec_shiftRight, BitVec.sshiftRight', e, BitVec.toInt_sshiftRight]
  congr 1
  exact i32_t ⟨h1, h2⟩
theorem oShl : ∀ q : Fin 31, o2 f_ishl 1 (q.val : Int) = ((2 ^ q.val : Nat) : Int) := by decide +kernel
theorem oSh1 {q : Int} (h3 : 0 ≤ q) (h4 : q < 31) : o2 f_ishl 1 q = ((2 ^ q.toNat : Nat) : Int) := by
  have e := oShl ⟨q.toNat, by omega⟩
  have eq : ((q.toNat : Nat) : Int) = q := by omega
  simp only [eq] at e
  exact e
theorem shr_nat (m k : Nat) : ((m : Int) >>> k) = ((m >>> k : Nat) : Int) := rfl
theorem and1_tb (m : Nat) (q : Nat) : (m >>> q) &&& 1 = if m.testBit q then 1 else 0 := by
  rw [Nat.testBit, Nat.and_comm]
  have : 1 &&& m >>> q < 2 := Nat.lt_of_le_of_lt Nat.and_le_left (by decide)
  by_cases h : 1 &&& m >>> q = 0
  · simp [h]
  · have : 1 &&& m >>> q = 1 := by omega
    simp [this]
theorem oBit {x q : Int} (h1 : 0 ≤ x) (h2 : x < 2147483648) (h3 : 0 ≤ q) (h4 : q < 32) : o2 f_iand (o2 f_ishr x q) 1 = if x.toNat.testBit q.toNat then 1 else 0 := by
  have ex : x = ((x.toNat : Nat) : Int) := by omega
  have e1 : o2 f_ishr x q = ((x.toNat >>> q.toNat : Nat) : Int) := by
    rw [oShr (by omega) h2 h3 h4]; conv => lhs; rw [ex]
    exact shr_nat _ _
  have hl : x.toNat >>> q.toNat ≤ x.toNat := by rw [Nat.shiftRight_eq_div_pow]; exact Nat.div_le_self _ _
  have e2 := and1_tb x.toNat q.toNat
  rw [e1]
  generalize x.toNat >>> q.toNat = m at *
  rw [oAnd (by omega) (by omega) (by decide) (by decide), tn_nat]
  have e3 : ((1 : Int)).toNat = 1 := rfl
  rw [e3, e2]
  split <;> rfl
theorem X8_isIn_eq {st : XS} {K : AV → XS → Prop} {x q : Int} (h1 : 0 ≤ x) (h2 : x < 2147483648) (h3 : 0 ≤ q) (h4 : q < 32) : B_X8_isIn [vI q, vI x] st K = K (vI (if x.toNat.testBit q.toNat then 1 else 0)) st := by
  simp [B_X8_isIn, bodyOf, envOf, exA, catV, rkOK]
  simp [t_X8_isIn, -Int.not_le, -Int.not_lt, ↓e_ci_p, ↓e_lv_p, ↓l_lv_p, ↓r_lv_p, ↓r_null_p, ↓e_fld_p, ↓r_fld_p, ↓e_ald_p, ↓z_ald_p, ↓r_ald_p, ↓e_len_p, ↓e_op_p, ↓e_dv_p, ↓l_op_p, ↓l_dv_p, ↓l_sh_p, ↓e_lcmp_p, ↓e_l2i_p, ↓e_min_p, ↓c_b_p, ↓c_not_p, ↓c_and_p, ↓c_or_p, ↓c_null_p, ↓c_eq_p, ↓c_ne_p, ↓c_lt_p, ↓c_ge_p, ↓c_gt_p, ↓c_le_p, ↓e_cond_p, ↓x_tern_p, ↓a_nil_p, ↓a_I_p, ↓a_L_p, ↓a_R_p, ↓e_callV_p, ↓r_callV_p, ↓e_callS_p, ↓s_skip_p, ↓s_seq_p, ↓s_st_p, ↓s_stL_p, ↓s_stR_p, ↓s_inc_p, ↓s_put_p, ↓s_putZ_p, ↓s_putR_p, ↓s_putop_p, ↓s_ast_p, ↓s_zast_p, ↓s_rast_p, ↓s_astop_p, ↓s_callV_p, ↓s_popV_p, ↓s_if_p, ↓s_ite_p, ↓s_itr_p, ↓s_brk_p, ↓s_retI_p, ↓s_retR_p, ↓s_ret_p, ↓s_sw_p, isI_s, isI_z, isL_s, isL_z, isR_s, isR_z, gI_s, gI_z, gL_z, gR_s, gR_z, gA_s, isA_s, bdo_s, arOK_s, isVI_I, isVR_R, vInt_I, vInt_L, vRef_R, lenOf_s, lnOK_s, rHd_c, isHd_c, noL_z, noL_1, noL_s, nl_I, nl_R, nl_U, stI, stR, bd_t, oA, oS, oM, oD, oR, tn_add, tn_mul, tn_nat, eqb_t, eqb_f, ltb_t, ltb_f, leb_t, leb_f, nob_s, nob_n, nat_eq, nat_lt, nat_le, oBit h1 h2 h3 h4]
theorem X8_pair_eq {st : XS} {K : AV → XS → Prop} {p q : Int} (h1 : 0 ≤ p) (h2 : p < 1000) (h3 : 0 ≤ q) (h4 : q < 1000) : B_X8_pair [vI p, vI q] st K = K (vI (10 * p + q)) st := by
  simp [B_X8_pair, bodyOf, envOf, exA, catV, rkOK]
  simp (disch := omega) [t_X8_pair, -Int.not_le, -Int.not_lt, ↓e_ci_p, ↓e_lv_p, ↓l_lv_p, ↓r_lv_p, ↓r_null_p, ↓e_fld_p, ↓r_fld_p, ↓e_ald_p, ↓z_ald_p, ↓r_ald_p, ↓e_len_p, ↓e_op_p, ↓e_dv_p, ↓l_op_p, ↓l_dv_p, ↓l_sh_p, ↓e_lcmp_p, ↓e_l2i_p, ↓e_min_p, ↓c_b_p, ↓c_not_p, ↓c_and_p, ↓c_or_p, ↓c_null_p, ↓c_eq_p, ↓c_ne_p, ↓c_lt_p, ↓c_ge_p, ↓c_gt_p, ↓c_le_p, ↓e_cond_p, ↓x_tern_p, ↓a_nil_p, ↓a_I_p, ↓a_L_p, ↓a_R_p, ↓e_callV_p, ↓r_callV_p, ↓e_callS_p, ↓s_skip_p, ↓s_seq_p, ↓s_st_p, ↓s_stL_p, ↓s_stR_p, ↓s_inc_p, ↓s_put_p, ↓s_putZ_p, ↓s_putR_p, ↓s_putop_p, ↓s_ast_p, ↓s_zast_p, ↓s_rast_p, ↓s_astop_p, ↓s_callV_p, ↓s_popV_p, ↓s_if_p, ↓s_ite_p, ↓s_itr_p, ↓s_brk_p, ↓s_retI_p, ↓s_retR_p, ↓s_ret_p, ↓s_sw_p, isI_s, isI_z, isL_s, isL_z, isR_s, isR_z, gI_s, gI_z, gL_z, gR_s, gR_z, gA_s, isA_s, bdo_s, arOK_s, isVI_I, isVR_R, vInt_I, vInt_L, vRef_R, lenOf_s, lnOK_s, rHd_c, isHd_c, noL_z, noL_1, noL_s, nl_I, nl_R, nl_U, stI, stR, bd_t, oA, oS, oM, oD, oR, tn_add, tn_mul, tn_nat, eqb_t, eqb_f, ltb_t, ltb_f, leb_t, leb_f, nob_s, nob_n, nat_eq, nat_lt, nat_le]
  rw [Int.mul_comm]
theorem tb_or (x y q : Nat) : (x ||| y).testBit q = (x.testBit q || y.testBit q) := Nat.testBit_or x y q
theorem tb_pow (p q : Nat) : (2 ^ p).testBit q = decide (p = q) := Nat.testBit_two_pow
theorem tb_eq {x y : Nat} (h : ∀ q, x.testBit q = y.testBit q) : x = y := Nat.eq_of_testBit_eq h
theorem tb_lt {x n : Nat} (h : ∀ q, n ≤ q → x.testBit q = false) : x < 2 ^ n := Nat.lt_pow_two_of_testBit x h
/-- sums -/
def sumN (f : Nat → Int) : Nat → Int
  | 0 => 0
  | n + 1 => sumN f n + f n
theorem sumN_le {f : Nat → Int} {c : Int} {n : Nat} (h : ∀ k, k < n → 0 ≤ f k ∧ f k ≤ c) : 0 ≤ sumN f n ∧ sumN f n ≤ c * n := by
  induction n with
  | zero => simp [sumN]
  | succ n ih =>
    have h1 := ih (fun k hk => h k (by omega))
    have h2 := h n (by omega)
    have : c * ((n + 1 : Nat) : Int) = c * n + c := by rw [Int.natCast_add, Int.mul_add]; simp
    rw [sumN, this]
    omega
theorem sumN_congr {f g : Nat → Int} {n : Nat} (h : ∀ k, k < n → f k = g k) : sumN f n = sumN g n := by
  induction n with
  | zero => rfl
  | succ n ih => rw [sumN, sumN, ih (fun k hk => h k (by omega)), h n (by omega)]
theorem oOrS {a b : Int} (h1 : 0 ≤ a) (h2 : a < 2147483648) (h3 : 0 ≤ b) (h4 : b < 31) : o2 f_ior a (o2 f_ishl 1 b) = ((a.toNat ||| 2 ^ b.toNat : Nat) : Int) := by
  have hp : 2 ^ b.toNat < 2 ^ 31 := Nat.pow_lt_pow_right (by decide) (by omega)
  rw [oSh1 h3 h4]
  generalize 2 ^ b.toNat = P at *
  rw [oOr h1 h2 (by omega) (by omega), tn_nat]
