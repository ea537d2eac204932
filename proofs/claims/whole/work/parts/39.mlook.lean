/-! deps: 30.tool 30.toolb 30.toolc 31.lay 32.mcopy 33.leafm 34.mhist 35.mties 36.mties2 37.mways 38.graph -/
/-! the reference looks at groups -/
def b2i (b : Bool) : Int := if b = true then 1 else 0
theorem b2i_0 {b : Bool} : (b2i b = 0) = (b = false) := by cases b <;> simp [b2i]
theorem b2i_1 {b : Bool} : (b2i b = 1) = (b = true) := by cases b <;> simp [b2i]
def allN (f : Nat → Bool) : Nat → Bool
  | 0 => true
  | n + 1 => allN f n && f n
def anyN (f : Nat → Bool) : Nat → Bool
  | 0 => false
  | n + 1 => anyN f n || f n
theorem allN_iff {f : Nat → Bool} {n : Nat} : allN f n = true ↔ ∀ k, k < n → f k = true := by
  induction n with
  | zero => simp [allN]
  | succ n ih =>
    simp only [allN, Bool.and_eq_true, ih]
    refine ⟨fun ⟨h1, h2⟩ k hk => ?_, fun h => ⟨fun k hk => h k (by omega), h n (by omega)⟩⟩
    by_cases hkn : k = n
    · rw [hkn]; exact h2
    · exact h1 k (by omega)
theorem anyN_iff {f : Nat → Bool} {n : Nat} : anyN f n = true ↔ ∃ k, k < n ∧ f k = true := by
  induction n with
  | zero => simp [anyN]
  | succ n ih =>
    simp only [anyN, Bool.or_eq_true, ih]
    refine ⟨fun h => ?_, fun ⟨k, hk, h⟩ => ?_⟩
    · rcases h with ⟨k, hk, h⟩ | h
      · exact ⟨k, by omega, h⟩
      · exact ⟨n, by omega, h⟩
    · by_cases hkn : k = n
      · right; rw [← hkn]; exact h
      · left; exact ⟨k, by omega, h⟩
/-- the first place below m, else m -/
def fstN (f : Nat → Bool) : Nat → Nat
  | 0 => 0
  | m + 1 => if fstN f m < m then fstN f m else if f m = true then m else m + 1
theorem fstN_le (f : Nat → Bool) (m : Nat) : fstN f m ≤ m := by
  induction m with
  | zero => exact Nat.le_refl _
  | succ m ih => unfold fstN; repeat' split
                 all_goals omega
theorem fstN_lt {f : Nat → Bool} {m : Nat} (h : fstN f m < m) : f (fstN f m) = true := by
  induction m with
  | zero => omega
  | succ m ih =>
    unfold fstN at h ⊢
    by_cases h1 : fstN f m < m
    · rw [if_pos h1]; exact ih h1
    · rw [if_neg h1] at h ⊢
      by_cases h2 : f m = true
      · rw [if_pos h2]; exact h2
      · rw [if_neg h2] at h; omega
theorem fstN_no {f : Nat → Bool} {m k : Nat} (h : k < fstN f m) : f k = false := by
  induction m with
  | zero => simp [fstN] at h
  | succ m ih =>
    have hle := fstN_le f m
    unfold fstN at h
    by_cases h1 : fstN f m < m
    · rw [if_pos h1] at h; exact ih h
    · rw [if_neg h1] at h
      by_cases h2 : f m = true
      · rw [if_pos h2] at h; exact ih (by omega)
      · rw [if_neg h2] at h
        by_cases hk : k = m
        · rw [hk]; simpa using h2
        · exact ih (by omega)
theorem fstN_eq {f : Nat → Bool} {m r : Nat} (h1 : r ≤ m) (h2 : ∀ k, k < r → f k = false) (h3 : r < m → f r = true) : fstN f m = r := by
  rcases Nat.lt_trichotomy (fstN f m) r with h | h | h
  · have := fstN_lt (f := f) (m := m) (by omega)
    rw [h2 _ h] at this
    exact absurd this (by simp)
  · exact h
  · have := fstN_no h
    have hl := fstN_le f m
    rw [h3 (by omega)] at this
    exact absurd this (by simp)
/-- p and q are of one group -/
def one (e : Nat → Int) (n p q : Nat) : Bool := decide (dst e n p q < 1000000) && decide (dst e n q p < 1000000)
theorem one_self {e : Nat → Int} {n p : Nat} : one e n p p = true := by simp [one, dst_self]
theorem one_comm {e : Nat → Int} {n p q : Nat} : one e n p q = one e n q p := by simp [one, Bool.and_comm]
/-- the row far is laid -/
def FAR (I : Nat → Nat → Int) (e : Nat → Int) (n : Nat) : Prop := I 64 0 = (n : Int) ∧ n ≤ 10 ∧ ∀ p q, p < n → q < n → I 88 (10 * p + q) = enc (dst e n p q)
section ML
variable {kd : List (Nat × Nat)} {R : Nat → Nat → Option Nat} {I : Nat → Nat → Int} {K : AV → XS → Prop}
theorem X9_one (F : isMod kd R) {e : Nat → Int} {n p q : Nat} (hf : FAR I e n) (hp : p < n) (hq : q < n) : B_X9_areOne [vR (some 63), vI p, vI q] (kd, I, R) K = K (vI (b2i (one e n p q))) (kd, I, R) := by
  have hn := hf.2.1
  rw [X9_areOne_eq F (by omega) (by omega), hf.2.2 p q hp hq, hf.2.2 q p hq hp]
  congr 2
  have h1 := enc_dst (e := e) (n := n) (p := p) (q := q)
  have h2 := enc_dst (e := e) (n := n) (p := q) (q := p)
  simp only [ne_eq, h1, h2, Decidable.not_not, b2i, one, Bool.and_eq_true, decide_eq_true_eq]
set_option maxHeartbeats 4000000 in
theorem X9_groups_0 (F : isMod kd R) {e : Nat → Int} {n p : Nat} (hf : FAR I e n) (hp : p < n) {c : Int} {a3 : Int} (e_a3 : vI a3 = vI (b2i (allN (fun q => decide (p ≤ q) || !one e n p q) (0)))) {a4 : Int} (e_a4 : vI a4 = vI (b2i (anyN (fun q => decide (q ≠ p) && one e n p q) (0)))) {Kn Kb : XE → XS → Prop} {Kr : AV → XS → Prop} 
    (hkk : Kn [vR (some 63), vI c, vI p, vI (b2i (allN (fun q => decide (p ≤ q) || !one e n p q) (n))), vI (b2i (anyN (fun q => decide (q ≠ p) && one e n p q) (n))), vI ((n : Nat) : Int)] (kd, I, R)) : lp_X9_groups_0 Kn Kb Kr [vR (some 63), vI c, vI p, vI a3, vI a4, vI 0] (kd, I, R) := by
  unfold lp_X9_groups_0
  have hn := hf.2.1
  have h64 := hf.1
  refine forUp (lo := 0) (n := n) (fun q env st => env = [vR (some 63), vI c, vI p, vI (b2i (allN (fun q => decide (p ≤ q) || !one e n p q) (q))), vI (b2i (anyN (fun q => decide (q ≠ p) && one e n p q) (q))), vI (q : Int)] ∧ st = (kd, I, R)) (by omega) (by omega) ⟨by first | (rw [e_a3, e_a4]; done) | (rw [e_a3, e_a4]; rfl), rfl⟩ ?_ ?_ ?_
  · rintro q env st hle ⟨rfl, rfl⟩
    first | exact ⟨rfl, fun K h => h⟩ | exact ⟨rfl, fun K h => ⟨_, rfl, h⟩⟩ | (refine ⟨rfl, fun K h => ?_⟩; simp (disch := omega) [-Int.not_le, -Int.not_lt, ↓e_ci_p, ↓e_lv_p, ↓l_lv_p, ↓r_lv_p, ↓r_null_p, ↓e_fld_p, ↓r_fld_p, ↓e_ald_p, ↓z_ald_p, ↓r_ald_p, ↓e_len_p, ↓e_op_p, ↓e_dv_p, ↓l_op_p, ↓l_dv_p, ↓l_sh_p, ↓e_lcmp_p, ↓e_l2i_p, ↓e_min_p, ↓c_b_p, ↓c_not_p, ↓c_and_p, ↓c_or_p, ↓c_null_p, ↓c_eq_p, ↓c_ne_p, ↓c_lt_p, ↓c_ge_p, ↓c_gt_p, ↓c_le_p, ↓e_cond_p, ↓x_tern_p, ↓a_nil_p, ↓a_I_p, ↓a_L_p, ↓a_R_p, ↓e_callV_p, ↓r_callV_p, ↓e_callS_p, ↓s_skip_p, ↓s_seq_p, ↓s_st_p, ↓s_stL_p, ↓s_stR_p, ↓s_inc_p, ↓s_put_p, ↓s_putZ_p, ↓s_putR_p, ↓s_putop_p, ↓s_ast_p, ↓s_zast_p, ↓s_rast_p, ↓s_astop_p, ↓s_callV_p, ↓s_popV_p, ↓s_if_p, ↓s_ite_p, ↓s_itr_p, ↓s_brk_p, ↓s_retI_p, ↓s_retR_p, ↓s_ret_p, ↓s_sw_p, isI_s, isI_z, isL_s, isL_z, isR_s, isR_z, gI_s, gI_z, gL_z, gR_s, gR_z, gA_s, isA_s, bdo_s, arOK_s, isVI_I, isVR_R, vInt_I, vInt_L, vRef_R, lenOf_s, lnOK_s, rHd_c, isHd_c, noL_z, noL_1, noL_s, nl_I, nl_R, nl_U, stI, stR, bd_t, oA, oS, oM, oD, oR, tn_add, tn_mul, tn_nat, eqb_t, eqb_f, ltb_t, ltb_f, leb_t, leb_f, nob_s, nob_n, nat_eq, nat_lt, nat_le, mR_0 F, mR_1 F, mR_2 F, mR_3 F, mR_4 F, mR_5 F, mR_6 F, mR_7 F, mR_8 F, mR_9 F, mR_10 F, mR_11 F, mR_12 F, mR_13 F, mR_15 F, mR_17 F, mR_25 F, mR_26 F, mR_27 F, mR_28 F, mR_29 F, mR_30 F, mR_35 F, mR_36 F, mR_37 F, mR_38 F, mR_40 F, mR_41 F, mR_42 F, mR_43 F, mR_44 F, mR_45 F, mR_46 F, mR_47 F, mK_63 F, mK_64 F, mK_65 F, mK_66 F, mK_67 F, mK_68 F, mK_69 F, mK_70 F, mK_71 F, mK_72 F, mK_73 F, mK_74 F, mK_75 F, mK_76 F, mK_77 F, mK_78 F, mK_79 F, mK_80 F, mK_81 F, mK_82 F, mK_83 F, mK_84 F, mK_85 F, mK_86 F, mK_87 F, mK_88 F, mK_89 F, mK_90 F, mK_91 F, mK_92 F, mK_93 F, mK_94 F, mK_95 F, mK_96 F, mK_97 F, h64]; first | exact h | simpa using h)
  · rintro q env st hlo hlt ⟨rfl, rfl⟩ Kx hx
    have fin : ∀ (b3 : Int) (b4 : Int) (S' : Nat → Nat → Int) , vI b3 = vI (b2i (allN (fun q => decide (p ≤ q) || !one e n p q) (q + 1))) → vI b4 = vI (b2i (anyN (fun q => decide (q ≠ p) && one e n p q) (q + 1))) → S' = I → Kx [vR (some 63), vI c, vI p, vI b3, vI b4, vI (q : Int)] (kd, S', R) := by
      intro b3 b4 S' q_a3 q_a4 q_S
      subst q_S
      exact hx _ _ rfl (by simp [noL_z, noL_1, noL_s, nl_I, nl_R, nl_U]) ⟨by simp [q_a3, q_a4], rfl⟩
    simp (disch := omega) [-Int.not_le, -Int.not_lt, ↓e_ci_p, ↓e_lv_p, ↓l_lv_p, ↓r_lv_p, ↓r_null_p, ↓e_fld_p, ↓r_fld_p, ↓e_ald_p, ↓z_ald_p, ↓r_ald_p, ↓e_len_p, ↓e_op_p, ↓e_dv_p, ↓l_op_p, ↓l_dv_p, ↓l_sh_p, ↓e_lcmp_p, ↓e_l2i_p, ↓e_min_p, ↓c_b_p, ↓c_not_p, ↓c_and_p, ↓c_or_p, ↓c_null_p, ↓c_eq_p, ↓c_ne_p, ↓c_lt_p, ↓c_ge_p, ↓c_gt_p, ↓c_le_p, ↓e_cond_p, ↓x_tern_p, ↓a_nil_p, ↓a_I_p, ↓a_L_p, ↓a_R_p, ↓e_callV_p, ↓r_callV_p, ↓e_callS_p, ↓s_skip_p, ↓s_seq_p, ↓s_st_p, ↓s_stL_p, ↓s_stR_p, ↓s_inc_p, ↓s_put_p, ↓s_putZ_p, ↓s_putR_p, ↓s_putop_p, ↓s_ast_p, ↓s_zast_p, ↓s_rast_p, ↓s_astop_p, ↓s_callV_p, ↓s_popV_p, ↓s_if_p, ↓s_ite_p, ↓s_itr_p, ↓s_brk_p, ↓s_retI_p, ↓s_retR_p, ↓s_ret_p, ↓s_sw_p, isI_s, isI_z, isL_s, isL_z, isR_s, isR_z, gI_s, gI_z, gL_z, gR_s, gR_z, gA_s, isA_s, bdo_s, arOK_s, isVI_I, isVR_R, vInt_I, vInt_L, vRef_R, lenOf_s, lnOK_s, rHd_c, isHd_c, noL_z, noL_1, noL_s, nl_I, nl_R, nl_U, stI, stR, bd_t, oA, oS, oM, oD, oR, tn_add, tn_mul, tn_nat, eqb_t, eqb_f, ltb_t, ltb_f, leb_t, leb_f, nob_s, nob_n, nat_eq, nat_lt, nat_le, mR_0 F, mR_1 F, mR_2 F, mR_3 F, mR_4 F, mR_5 F, mR_6 F, mR_7 F, mR_8 F, mR_9 F, mR_10 F, mR_11 F, mR_12 F, mR_13 F, mR_15 F, mR_17 F, mR_25 F, mR_26 F, mR_27 F, mR_28 F, mR_29 F, mR_30 F, mR_35 F, mR_36 F, mR_37 F, mR_38 F, mR_40 F, mR_41 F, mR_42 F, mR_43 F, mR_44 F, mR_45 F, mR_46 F, mR_47 F, mK_63 F, mK_64 F, mK_65 F, mK_66 F, mK_67 F, mK_68 F, mK_69 F, mK_70 F, mK_71 F, mK_72 F, mK_73 F, mK_74 F, mK_75 F, mK_76 F, mK_77 F, mK_78 F, mK_79 F, mK_80 F, mK_81 F, mK_82 F, mK_83 F, mK_84 F, mK_85 F, mK_86 F, mK_87 F, mK_88 F, mK_89 F, mK_90 F, mK_91 F, mK_92 F, mK_93 F, mK_94 F, mK_95 F, mK_96 F, mK_97 F, X9_one F hf hp hlt, b2i_0, b2i_1]
    repeat' split
    all_goals exact fin _ _ _ (by simp_all [allN, b2i]; try omega) (by simp_all [anyN, b2i]; try omega) rfl
  · rintro env st ⟨rfl, rfl⟩
    exact hkk
/-- a search: the place goes up while f holds -/
theorem srch {i : Nat} {c : EC} {Kn Kb : XE → XS → Prop} {Kr : AV → XS → Prop} {st : XS} (E : Int → XE) (f : Nat → Bool) {m : Nat} (hm : f m = false) (hm2 : m < 1000) (hE : ∀ q : Int, (E q)[i]? = some (vI q) ∧ noL (E q) i = true ∧ (E q).set i (vI (q + 1)) = E (q + 1))
    (hc : ∀ q : Nat, q ≤ m → ∀ K : Bool → XS → Prop, K (f q) st → c (E q) st K) (hk : Kn (E (fstN (fun q => !f q) m)) st) : s_while c (s_inc i 1) Kn Kb Kr (E 0) st := by
  refine ⟨fun k env st' => st' = st ∧ ∃ j : Nat, j + k = m ∧ env = E j ∧ ∀ x, x < j → f x = true, m, ⟨rfl, 0, by omega, rfl, fun x h => by omega⟩, ?_⟩
  rintro k env st' ⟨rfl, j, hj, rfl, hx⟩
  refine hc j (by omega) _ ?_
  by_cases hf : f j = true
  · rw [if_pos hf]
    have hjm : j ≠ m := fun h => by subst h; rw [hm] at hf; exact absurd hf (by simp)
    obtain ⟨h1, h2, h3⟩ := hE j
    refine ⟨_, h1, h2, k - 1, by omega, rfl, j + 1, by omega, ?_, fun x hx' => ?_⟩
    · rw [oA (by omega) (by omega), h3]; rfl
    · by_cases hxj : x = j
      · rw [hxj]; exact hf
      · exact hx x (by omega)
  · rw [if_neg hf]
    have : fstN (fun q => !f q) m = j := fstN_eq (by omega) (fun k hk => by simp [hx k hk]) (fun _ => by simpa using hf)
    rw [this] at hk
    exact hk
def gFi (e : Nat → Int) (n p : Nat) : Bool := allN (fun q => decide (p ≤ q) || !one e n p q) n
def gTw (e : Nat → Int) (n p : Nat) : Bool := anyN (fun q => decide (q ≠ p) && one e n p q) n
/-- p is the first of a group of two or more -/
def gIs (e : Nat → Int) (n p : Nat) : Bool := gFi e n p && gTw e n p
theorem sb_le (f : Nat → Bool) (n : Nat) : 0 ≤ sumN (fun k => b2i (f k)) n ∧ sumN (fun k => b2i (f k)) n ≤ n := by
  have := sumN_le (c := 1) (n := n) (f := fun k => b2i (f k)) (fun k _ => by unfold b2i; split <;> omega)
  omega
set_option maxHeartbeats 4000000 in
theorem X9_groups_1 (F : isMod kd R) {e : Nat → Int} {n : Nat} (hf : FAR I e n) {v3 v4 v5 : AV} (h_v3 : nl v3 = true) (h_v4 : nl v4 = true) (h_v5 : nl v5 = true) {a1 : Int} (e_a1 : vI a1 = vI (sumN (fun p => b2i (gIs e n p)) (0))) {Kn Kb : XE → XS → Prop} {Kr : AV → XS → Prop} 
    (hkk : ∀ v3 v4 v5 : AV, nl v3 = true → nl v4 = true → nl v5 = true → Kn [vR (some 63), vI (sumN (fun p => b2i (gIs e n p)) (n)), vI ((n : Nat) : Int), v3, v4, v5] (kd, I, R)) : lp_X9_groups_1 Kn Kb Kr [vR (some 63), vI a1, vI 0, v3, v4, v5] (kd, I, R) := by
  unfold lp_X9_groups_1
  have hn := hf.2.1
  have h64 := hf.1
  refine forUp (lo := 0) (n := n) (fun p env st => ∃ v3 v4 v5 : AV, nl v3 = true ∧ nl v4 = true ∧ nl v5 = true ∧ env = [vR (some 63), vI (sumN (fun p => b2i (gIs e n p)) (p)), vI (p : Int), v3, v4, v5] ∧ st = (kd, I, R)) (by omega) (by omega) ⟨v3, v4, v5, h_v3, h_v4, h_v5, by first | (rw [e_a1]; done) | (rw [e_a1]; rfl), rfl⟩ ?_ ?_ ?_
  · rintro p env st hle ⟨v3, v4, v5, h_v3, h_v4, h_v5, rfl, rfl⟩
    first | exact ⟨rfl, fun K h => h⟩ | exact ⟨rfl, fun K h => ⟨_, rfl, h⟩⟩ | (refine ⟨rfl, fun K h => ?_⟩; simp (disch := omega) [-Int.not_le, -Int.not_lt, ↓e_ci_p, ↓e_lv_p, ↓l_lv_p, ↓r_lv_p, ↓r_null_p, ↓e_fld_p, ↓r_fld_p, ↓e_ald_p, ↓z_ald_p, ↓r_ald_p, ↓e_len_p, ↓e_op_p, ↓e_dv_p, ↓l_op_p, ↓l_dv_p, ↓l_sh_p, ↓e_lcmp_p, ↓e_l2i_p, ↓e_min_p, ↓c_b_p, ↓c_not_p, ↓c_and_p, ↓c_or_p, ↓c_null_p, ↓c_eq_p, ↓c_ne_p, ↓c_lt_p, ↓c_ge_p, ↓c_gt_p, ↓c_le_p, ↓e_cond_p, ↓x_tern_p, ↓a_nil_p, ↓a_I_p, ↓a_L_p, ↓a_R_p, ↓e_callV_p, ↓r_callV_p, ↓e_callS_p, ↓s_skip_p, ↓s_seq_p, ↓s_st_p, ↓s_stL_p, ↓s_stR_p, ↓s_inc_p, ↓s_put_p, ↓s_putZ_p, ↓s_putR_p, ↓s_putop_p, ↓s_ast_p, ↓s_zast_p, ↓s_rast_p, ↓s_astop_p, ↓s_callV_p, ↓s_popV_p, ↓s_if_p, ↓s_ite_p, ↓s_itr_p, ↓s_brk_p, ↓s_retI_p, ↓s_retR_p, ↓s_ret_p, ↓s_sw_p, isI_s, isI_z, isL_s, isL_z, isR_s, isR_z, gI_s, gI_z, gL_z, gR_s, gR_z, gA_s, isA_s, bdo_s, arOK_s, isVI_I, isVR_R, vInt_I, vInt_L, vRef_R, lenOf_s, lnOK_s, rHd_c, isHd_c, noL_z, noL_1, noL_s, nl_I, nl_R, nl_U, stI, stR, bd_t, oA, oS, oM, oD, oR, tn_add, tn_mul, tn_nat, eqb_t, eqb_f, ltb_t, ltb_f, leb_t, leb_f, nob_s, nob_n, nat_eq, nat_lt, nat_le, mR_0 F, mR_1 F, mR_2 F, mR_3 F, mR_4 F, mR_5 F, mR_6 F, mR_7 F, mR_8 F, mR_9 F, mR_10 F, mR_11 F, mR_12 F, mR_13 F, mR_15 F, mR_17 F, mR_25 F, mR_26 F, mR_27 F, mR_28 F, mR_29 F, mR_30 F, mR_35 F, mR_36 F, mR_37 F, mR_38 F, mR_40 F, mR_41 F, mR_42 F, mR_43 F, mR_44 F, mR_45 F, mR_46 F, mR_47 F, mK_63 F, mK_64 F, mK_65 F, mK_66 F, mK_67 F, mK_68 F, mK_69 F, mK_70 F, mK_71 F, mK_72 F, mK_73 F, mK_74 F, mK_75 F, mK_76 F, mK_77 F, mK_78 F, mK_79 F, mK_80 F, mK_81 F, mK_82 F, mK_83 F, mK_84 F, mK_85 F, mK_86 F, mK_87 F, mK_88 F, mK_89 F, mK_90 F, mK_91 F, mK_92 F, mK_93 F, mK_94 F, mK_95 F, mK_96 F, mK_97 F, h64]; first | exact h | simpa using h)
  · rintro p env st hlo hlt ⟨v3, v4, v5, h_v3, h_v4, h_v5, rfl, rfl⟩ Kx hx
    have fin : ∀ (b1 : Int) (S' : Nat → Nat → Int) (v3' v4' v5' : AV) , vI b1 = vI (sumN (fun p => b2i (gIs e n p)) (p + 1)) → S' = I → nl v3' = true → nl v4' = true → nl v5' = true → Kx [vR (some 63), vI b1, vI (p : Int), v3', v4', v5'] (kd, S', R) := by
      intro b1 S' v3' v4' v5' q_a1 q_S q_v3 q_v4 q_v5
      subst q_S
      exact hx _ _ rfl (by simp [noL_z, noL_1, noL_s, nl_I, nl_R, nl_U, q_v3, q_v4, q_v5, h_v3, h_v4, h_v5]) ⟨v3', v4', v5', q_v3, q_v4, q_v5, by simp [q_a1], rfl⟩
    simp (disch := omega) [-Int.not_le, -Int.not_lt, ↓e_ci_p, ↓e_lv_p, ↓l_lv_p, ↓r_lv_p, ↓r_null_p, ↓e_fld_p, ↓r_fld_p, ↓e_ald_p, ↓z_ald_p, ↓r_ald_p, ↓e_len_p, ↓e_op_p, ↓e_dv_p, ↓l_op_p, ↓l_dv_p, ↓l_sh_p, ↓e_lcmp_p, ↓e_l2i_p, ↓e_min_p, ↓c_b_p, ↓c_not_p, ↓c_and_p, ↓c_or_p, ↓c_null_p, ↓c_eq_p, ↓c_ne_p, ↓c_lt_p, ↓c_ge_p, ↓c_gt_p, ↓c_le_p, ↓e_cond_p, ↓x_tern_p, ↓a_nil_p, ↓a_I_p, ↓a_L_p, ↓a_R_p, ↓e_callV_p, ↓r_callV_p, ↓e_callS_p, ↓s_skip_p, ↓s_seq_p, ↓s_st_p, ↓s_stL_p, ↓s_stR_p, ↓s_inc_p, ↓s_put_p, ↓s_putZ_p, ↓s_putR_p, ↓s_putop_p, ↓s_ast_p, ↓s_zast_p, ↓s_rast_p, ↓s_astop_p, ↓s_callV_p, ↓s_popV_p, ↓s_if_p, ↓s_ite_p, ↓s_itr_p, ↓s_brk_p, ↓s_retI_p, ↓s_retR_p, ↓s_ret_p, ↓s_sw_p, isI_s, isI_z, isL_s, isL_z, isR_s, isR_z, gI_s, gI_z, gL_z, gR_s, gR_z, gA_s, isA_s, bdo_s, arOK_s, isVI_I, isVR_R, vInt_I, vInt_L, vRef_R, lenOf_s, lnOK_s, rHd_c, isHd_c, noL_z, noL_1, noL_s, nl_I, nl_R, nl_U, stI, stR, bd_t, oA, oS, oM, oD, oR, tn_add, tn_mul, tn_nat, eqb_t, eqb_f, ltb_t, ltb_f, leb_t, leb_f, nob_s, nob_n, nat_eq, nat_lt, nat_le, mR_0 F, mR_1 F, mR_2 F, mR_3 F, mR_4 F, mR_5 F, mR_6 F, mR_7 F, mR_8 F, mR_9 F, mR_10 F, mR_11 F, mR_12 F, mR_13 F, mR_15 F, mR_17 F, mR_25 F, mR_26 F, mR_27 F, mR_28 F, mR_29 F, mR_30 F, mR_35 F, mR_36 F, mR_37 F, mR_38 F, mR_40 F, mR_41 F, mR_42 F, mR_43 F, mR_44 F, mR_45 F, mR_46 F, mR_47 F, mK_63 F, mK_64 F, mK_65 F, mK_66 F, mK_67 F, mK_68 F, mK_69 F, mK_70 F, mK_71 F, mK_72 F, mK_73 F, mK_74 F, mK_75 F, mK_76 F, mK_77 F, mK_78 F, mK_79 F, mK_80 F, mK_81 F, mK_82 F, mK_83 F, mK_84 F, mK_85 F, mK_86 F, mK_87 F, mK_88 F, mK_89 F, mK_90 F, mK_91 F, mK_92 F, mK_93 F, mK_94 F, mK_95 F, mK_96 F, mK_97 F, h_v3, h_v4, h_v5]
    refine X9_groups_0 F hf hlt rfl rfl ?_
    have hb := sb_le (gIs e n) p
    have hs : sumN (fun p => b2i (gIs e n p)) (p + 1) = sumN (fun p => b2i (gIs e n p)) p + b2i (gIs e n p) := rfl
    generalize sumN (fun p => b2i (gIs e n p)) p = s at *
    have hA : allN (fun q => decide (p ≤ q) || !one e n p q) n = gFi e n p := rfl
    have hB : anyN (fun q => decide (q ≠ p) && one e n p q) n = gTw e n p := rfl
    rw [hA, hB]
    cases h1 : gFi e n p <;> cases h2 : gTw e n p <;> simp (disch := omega) [-Int.not_le, -Int.not_lt, ↓e_ci_p, ↓e_lv_p, ↓l_lv_p, ↓r_lv_p, ↓r_null_p, ↓e_fld_p, ↓r_fld_p, ↓e_ald_p, ↓z_ald_p, ↓r_ald_p, ↓e_len_p, ↓e_op_p, ↓e_dv_p, ↓l_op_p, ↓l_dv_p, ↓l_sh_p, ↓e_lcmp_p, ↓e_l2i_p, ↓e_min_p, ↓c_b_p, ↓c_not_p, ↓c_and_p, ↓c_or_p, ↓c_null_p, ↓c_eq_p, ↓c_ne_p, ↓c_lt_p, ↓c_ge_p, ↓c_gt_p, ↓c_le_p, ↓e_cond_p, ↓x_tern_p, ↓a_nil_p, ↓a_I_p, ↓a_L_p, ↓a_R_p, ↓e_callV_p, ↓r_callV_p, ↓e_callS_p, ↓s_skip_p, ↓s_seq_p, ↓s_st_p, ↓s_stL_p, ↓s_stR_p, ↓s_inc_p, ↓s_put_p, ↓s_putZ_p, ↓s_putR_p, ↓s_putop_p, ↓s_ast_p, ↓s_zast_p, ↓s_rast_p, ↓s_astop_p, ↓s_callV_p, ↓s_popV_p, ↓s_if_p, ↓s_ite_p, ↓s_itr_p, ↓s_brk_p, ↓s_retI_p, ↓s_retR_p, ↓s_ret_p, ↓s_sw_p, isI_s, isI_z, isL_s, isL_z, isR_s, isR_z, gI_s, gI_z, gL_z, gR_s, gR_z, gA_s, isA_s, bdo_s, arOK_s, isVI_I, isVR_R, vInt_I, vInt_L, vRef_R, lenOf_s, lnOK_s, rHd_c, isHd_c, noL_z, noL_1, noL_s, nl_I, nl_R, nl_U, stI, stR, bd_t, oA, oS, oM, oD, oR, tn_add, tn_mul, tn_nat, eqb_t, eqb_f, ltb_t, ltb_f, leb_t, leb_f, nob_s, nob_n, nat_eq, nat_lt, nat_le, mR_0 F, mR_1 F, mR_2 F, mR_3 F, mR_4 F, mR_5 F, mR_6 F, mR_7 F, mR_8 F, mR_9 F, mR_10 F, mR_11 F, mR_12 F, mR_13 F, mR_15 F, mR_17 F, mR_25 F, mR_26 F, mR_27 F, mR_28 F, mR_29 F, mR_30 F, mR_35 F, mR_36 F, mR_37 F, mR_38 F, mR_40 F, mR_41 F, mR_42 F, mR_43 F, mR_44 F, mR_45 F, mR_46 F, mR_47 F, mK_63 F, mK_64 F, mK_65 F, mK_66 F, mK_67 F, mK_68 F, mK_69 F, mK_70 F, mK_71 F, mK_72 F, mK_73 F, mK_74 F, mK_75 F, mK_76 F, mK_77 F, mK_78 F, mK_79 F, mK_80 F, mK_81 F, mK_82 F, mK_83 F, mK_84 F, mK_85 F, mK_86 F, mK_87 F, mK_88 F, mK_89 F, mK_90 F, mK_91 F, mK_92 F, mK_93 F, mK_94 F, mK_95 F, mK_96 F, mK_97 F, b2i] <;> exact fin _ _ _ _ _ (by rw [hs]; simp [gIs, h1, h2, b2i]) rfl rfl rfl rfl
  · rintro env st ⟨v3, v4, v5, h_v3, h_v4, h_v5, rfl, rfl⟩
    exact hkk v3 v4 v5 h_v3 h_v4 h_v5
/-- neither comes to the other -/
def free (e : Nat → Int) (n p q : Nat) : Bool := !decide (dst e n p q < 1000000) && !decide (dst e n q p < 1000000)
set_option maxHeartbeats 4000000 in
theorem X9_worth_0 (F : isMod kd R) {e : Nat → Int} {n p : Nat} (hf : FAR I e n) (hp : p < n) {c : Int} (hc : 0 ≤ c ∧ c ≤ 1000) {a1 : Int} (e_a1 : vI a1 = vI (c + sumN (fun q => b2i (free e n p q)) (0))) {Kn Kb : XE → XS → Prop} {Kr : AV → XS → Prop} 
    (hkk : Kn [vR (some 63), vI (c + sumN (fun q => b2i (free e n p q)) (p)), vI p, vI ((p : Nat) : Int)] (kd, I, R)) : lp_X9_worth_0 Kn Kb Kr [vR (some 63), vI a1, vI p, vI 0] (kd, I, R) := by
  unfold lp_X9_worth_0
  have hn := hf.2.1
  have h64 := hf.1
  refine forUp (lo := 0) (n := p) (fun q env st => env = [vR (some 63), vI (c + sumN (fun q => b2i (free e n p q)) (q)), vI p, vI (q : Int)] ∧ st = (kd, I, R)) (by omega) (by omega) ⟨by first | (rw [e_a1]; done) | (rw [e_a1]; rfl), rfl⟩ ?_ ?_ ?_
  · rintro q env st hle ⟨rfl, rfl⟩
    first | exact ⟨rfl, fun K h => h⟩ | exact ⟨rfl, fun K h => ⟨_, rfl, h⟩⟩ | (refine ⟨rfl, fun K h => ?_⟩; simp (disch := omega) [-Int.not_le, -Int.not_lt, ↓e_ci_p, ↓e_lv_p, ↓l_lv_p, ↓r_lv_p, ↓r_null_p, ↓e_fld_p, ↓r_fld_p, ↓e_ald_p, ↓z_ald_p, ↓r_ald_p, ↓e_len_p, ↓e_op_p, ↓e_dv_p, ↓l_op_p, ↓l_dv_p, ↓l_sh_p, ↓e_lcmp_p, ↓e_l2i_p, ↓e_min_p, ↓c_b_p, ↓c_not_p, ↓c_and_p, ↓c_or_p, ↓c_null_p, ↓c_eq_p, ↓c_ne_p, ↓c_lt_p, ↓c_ge_p, ↓c_gt_p, ↓c_le_p, ↓e_cond_p, ↓x_tern_p, ↓a_nil_p, ↓a_I_p, ↓a_L_p, ↓a_R_p, ↓e_callV_p, ↓r_callV_p, ↓e_callS_p, ↓s_skip_p, ↓s_seq_p, ↓s_st_p, ↓s_stL_p, ↓s_stR_p, ↓s_inc_p, ↓s_put_p, ↓s_putZ_p, ↓s_putR_p, ↓s_putop_p, ↓s_ast_p, ↓s_zast_p, ↓s_rast_p, ↓s_astop_p, ↓s_callV_p, ↓s_popV_p, ↓s_if_p, ↓s_ite_p, ↓s_itr_p, ↓s_brk_p, ↓s_retI_p, ↓s_retR_p, ↓s_ret_p, ↓s_sw_p, isI_s, isI_z, isL_s, isL_z, isR_s, isR_z, gI_s, gI_z, gL_z, gR_s, gR_z, gA_s, isA_s, bdo_s, arOK_s, isVI_I, isVR_R, vInt_I, vInt_L, vRef_R, lenOf_s, lnOK_s, rHd_c, isHd_c, noL_z, noL_1, noL_s, nl_I, nl_R, nl_U, stI, stR, bd_t, oA, oS, oM, oD, oR, tn_add, tn_mul, tn_nat, eqb_t, eqb_f, ltb_t, ltb_f, leb_t, leb_f, nob_s, nob_n, nat_eq, nat_lt, nat_le, mR_0 F, mR_1 F, mR_2 F, mR_3 F, mR_4 F, mR_5 F, mR_6 F, mR_7 F, mR_8 F, mR_9 F, mR_10 F, mR_11 F, mR_12 F, mR_13 F, mR_15 F, mR_17 F, mR_25 F, mR_26 F, mR_27 F, mR_28 F, mR_29 F, mR_30 F, mR_35 F, mR_36 F, mR_37 F, mR_38 F, mR_40 F, mR_41 F, mR_42 F, mR_43 F, mR_44 F, mR_45 F, mR_46 F, mR_47 F, mK_63 F, mK_64 F, mK_65 F, mK_66 F, mK_67 F, mK_68 F, mK_69 F, mK_70 F, mK_71 F, mK_72 F, mK_73 F, mK_74 F, mK_75 F, mK_76 F, mK_77 F, mK_78 F, mK_79 F, mK_80 F, mK_81 F, mK_82 F, mK_83 F, mK_84 F, mK_85 F, mK_86 F, mK_87 F, mK_88 F, mK_89 F, mK_90 F, mK_91 F, mK_92 F, mK_93 F, mK_94 F, mK_95 F, mK_96 F, mK_97 F, h64]; first | exact h | simpa using h)
  · rintro q env st hlo hlt ⟨rfl, rfl⟩ Kx hx
    have fin : ∀ (b1 : Int) (S' : Nat → Nat → Int) , vI b1 = vI (c + sumN (fun q => b2i (free e n p q)) (q + 1)) → S' = I → Kx [vR (some 63), vI b1, vI p, vI (q : Int)] (kd, S', R) := by
      intro b1 S' q_a1 q_S
      subst q_S
      exact hx _ _ rfl (by simp [noL_z, noL_1, noL_s, nl_I, nl_R, nl_U]) ⟨by simp [q_a1], rfl⟩
    have hb := sb_le (free e n p) q
    have hs : sumN (fun q => b2i (free e n p q)) (q + 1) = sumN (fun q => b2i (free e n p q)) q + b2i (free e n p q) := rfl
    generalize sumN (fun q => b2i (free e n p q)) q = s at *
    have f1 := hf.2.2 p q hp (by omega)
    have f2 := hf.2.2 q p (by omega) hp
    have g1 := enc_dst (e := e) (n := n) (p := p) (q := q)
    have g2 := enc_dst (e := e) (n := n) (p := q) (q := p)
    by_cases c1 : dst e n p q < 1000000 <;> by_cases c2 : dst e n q p < 1000000 <;> simp (disch := omega) [-Int.not_le, -Int.not_lt, ↓e_ci_p, ↓e_lv_p, ↓l_lv_p, ↓r_lv_p, ↓r_null_p, ↓e_fld_p, ↓r_fld_p, ↓e_ald_p, ↓z_ald_p, ↓r_ald_p, ↓e_len_p, ↓e_op_p, ↓e_dv_p, ↓l_op_p, ↓l_dv_p, ↓l_sh_p, ↓e_lcmp_p, ↓e_l2i_p, ↓e_min_p, ↓c_b_p, ↓c_not_p, ↓c_and_p, ↓c_or_p, ↓c_null_p, ↓c_eq_p, ↓c_ne_p, ↓c_lt_p, ↓c_ge_p, ↓c_gt_p, ↓c_le_p, ↓e_cond_p, ↓x_tern_p, ↓a_nil_p, ↓a_I_p, ↓a_L_p, ↓a_R_p, ↓e_callV_p, ↓r_callV_p, ↓e_callS_p, ↓s_skip_p, ↓s_seq_p, ↓s_st_p, ↓s_stL_p, ↓s_stR_p, ↓s_inc_p, ↓s_put_p, ↓s_putZ_p, ↓s_putR_p, ↓s_putop_p, ↓s_ast_p, ↓s_zast_p, ↓s_rast_p, ↓s_astop_p, ↓s_callV_p, ↓s_popV_p, ↓s_if_p, ↓s_ite_p, ↓s_itr_p, ↓s_brk_p, ↓s_retI_p, ↓s_retR_p, ↓s_ret_p, ↓s_sw_p, isI_s, isI_z, isL_s, isL_z, isR_s, isR_z, gI_s, gI_z, gL_z, gR_s, gR_z, gA_s, isA_s, bdo_s, arOK_s, isVI_I, isVR_R, vInt_I, vInt_L, vRef_R, lenOf_s, lnOK_s, rHd_c, isHd_c, noL_z, noL_1, noL_s, nl_I, nl_R, nl_U, stI, stR, bd_t, oA, oS, oM, oD, oR, tn_add, tn_mul, tn_nat, eqb_t, eqb_f, ltb_t, ltb_f, leb_t, leb_f, nob_s, nob_n, nat_eq, nat_lt, nat_le, mR_0 F, mR_1 F, mR_2 F, mR_3 F, mR_4 F, mR_5 F, mR_6 F, mR_7 F, mR_8 F, mR_9 F, mR_10 F, mR_11 F, mR_12 F, mR_13 F, mR_15 F, mR_17 F, mR_25 F, mR_26 F, mR_27 F, mR_28 F, mR_29 F, mR_30 F, mR_35 F, mR_36 F, mR_37 F, mR_38 F, mR_40 F, mR_41 F, mR_42 F, mR_43 F, mR_44 F, mR_45 F, mR_46 F, mR_47 F, mK_63 F, mK_64 F, mK_65 F, mK_66 F, mK_67 F, mK_68 F, mK_69 F, mK_70 F, mK_71 F, mK_72 F, mK_73 F, mK_74 F, mK_75 F, mK_76 F, mK_77 F, mK_78 F, mK_79 F, mK_80 F, mK_81 F, mK_82 F, mK_83 F, mK_84 F, mK_85 F, mK_86 F, mK_87 F, mK_88 F, mK_89 F, mK_90 F, mK_91 F, mK_92 F, mK_93 F, mK_94 F, mK_95 F, mK_96 F, mK_97 F, f1, f2, g1, g2, c1, c2] <;> exact fin _ _ (by rw [hs]; simp [free, c1, c2, b2i]; try omega) rfl
  · rintro env st ⟨rfl, rfl⟩
    exact hkk
set_option maxHeartbeats 4000000 in
theorem X9_worth_1 (F : isMod kd R) {e : Nat → Int} {n : Nat} (hf : FAR I e n) {v3 : AV} (h_v3 : nl v3 = true) {a1 : Int} (e_a1 : vI a1 = vI (sumN (fun p => sumN (fun q => b2i (free e n p q)) p) (0))) {Kn Kb : XE → XS → Prop} {Kr : AV → XS → Prop} 
    (hkk : ∀ v3 : AV, nl v3 = true → Kn [vR (some 63), vI (sumN (fun p => sumN (fun q => b2i (free e n p q)) p) (n)), vI ((n : Nat) : Int), v3] (kd, I, R)) : lp_X9_worth_1 Kn Kb Kr [vR (some 63), vI a1, vI 0, v3] (kd, I, R) := by
  unfold lp_X9_worth_1
  have hn := hf.2.1
  have h64 := hf.1
  refine forUp (lo := 0) (n := n) (fun p env st => ∃ v3 : AV, nl v3 = true ∧ env = [vR (some 63), vI (sumN (fun p => sumN (fun q => b2i (free e n p q)) p) (p)), vI (p : Int), v3] ∧ st = (kd, I, R)) (by omega) (by omega) ⟨v3, h_v3, by first | (rw [e_a1]; done) | (rw [e_a1]; rfl), rfl⟩ ?_ ?_ ?_
  · rintro p env st hle ⟨v3, h_v3, rfl, rfl⟩
    first | exact ⟨rfl, fun K h => h⟩ | exact ⟨rfl, fun K h => ⟨_, rfl, h⟩⟩ | (refine ⟨rfl, fun K h => ?_⟩; simp (disch := omega) [-Int.not_le, -Int.not_lt, ↓e_ci_p, ↓e_lv_p, ↓l_lv_p, ↓r_lv_p, ↓r_null_p, ↓e_fld_p, ↓r_fld_p, ↓e_ald_p, ↓z_ald_p, ↓r_ald_p, ↓e_len_p, ↓e_op_p, ↓e_dv_p, ↓l_op_p, ↓l_dv_p, ↓l_sh_p, ↓e_lcmp_p, ↓e_l2i_p, ↓e_min_p, ↓c_b_p, ↓c_not_p, ↓c_and_p, ↓c_or_p, ↓c_null_p, ↓c_eq_p, ↓c_ne_p, ↓c_lt_p, ↓c_ge_p, ↓c_gt_p, ↓c_le_p, ↓e_cond_p, ↓x_tern_p, ↓a_nil_p, ↓a_I_p, ↓a_L_p, ↓a_R_p, ↓e_callV_p, ↓r_callV_p, ↓e_callS_p, ↓s_skip_p, ↓s_seq_p, ↓s_st_p, ↓s_stL_p, ↓s_stR_p, ↓s_inc_p, ↓s_put_p, ↓s_putZ_p, ↓s_putR_p, ↓s_putop_p, ↓s_ast_p, ↓s_zast_p, ↓s_rast_p, ↓s_astop_p, ↓s_callV_p, ↓s_popV_p, ↓s_if_p, ↓s_ite_p, ↓s_itr_p, ↓s_brk_p, ↓s_retI_p, ↓s_retR_p, ↓s_ret_p, ↓s_sw_p, isI_s, isI_z, isL_s, isL_z, isR_s, isR_z, gI_s, gI_z, gL_z, gR_s, gR_z, gA_s, isA_s, bdo_s, arOK_s, isVI_I, isVR_R, vInt_I, vInt_L, vRef_R, lenOf_s, lnOK_s, rHd_c, isHd_c, noL_z, noL_1, noL_s, nl_I, nl_R, nl_U, stI, stR, bd_t, oA, oS, oM, oD, oR, tn_add, tn_mul, tn_nat, eqb_t, eqb_f, ltb_t, ltb_f, leb_t, leb_f, nob_s, nob_n, nat_eq, nat_lt, nat_le, mR_0 F, mR_1 F, mR_2 F, mR_3 F, mR_4 F, mR_5 F, mR_6 F, mR_7 F, mR_8 F, mR_9 F, mR_10 F, mR_11 F, mR_12 F, mR_13 F, mR_15 F, mR_17 F, mR_25 F, mR_26 F, mR_27 F, mR_28 F, mR_29 F, mR_30 F, mR_35 F, mR_36 F, mR_37 F, mR_38 F, mR_40 F, mR_41 F, mR_42 F, mR_43 F, mR_44 F, mR_45 F, mR_46 F, mR_47 F, mK_63 F, mK_64 F, mK_65 F, mK_66 F, mK_67 F, mK_68 F, mK_69 F, mK_70 F, mK_71 F, mK_72 F, mK_73 F, mK_74 F, mK_75 F, mK_76 F, mK_77 F, mK_78 F, mK_79 F, mK_80 F, mK_81 F, mK_82 F, mK_83 F, mK_84 F, mK_85 F, mK_86 F, mK_87 F, mK_88 F, mK_89 F, mK_90 F, mK_91 F, mK_92 F, mK_93 F, mK_94 F, mK_95 F, mK_96 F, mK_97 F, h64]; first | exact h | simpa using h)
  · rintro p env st hlo hlt ⟨v3, h_v3, rfl, rfl⟩ Kx hx
    have fin : ∀ (b1 : Int) (S' : Nat → Nat → Int) (v3' : AV) , vI b1 = vI (sumN (fun p => sumN (fun q => b2i (free e n p q)) p) (p + 1)) → S' = I → nl v3' = true → Kx [vR (some 63), vI b1, vI (p : Int), v3'] (kd, S', R) := by
      intro b1 S' v3' q_a1 q_S q_v3
      subst q_S
      exact hx _ _ rfl (by simp [noL_z, noL_1, noL_s, nl_I, nl_R, nl_U, q_v3, h_v3]) ⟨v3', q_v3, by simp [q_a1], rfl⟩
    have hs : sumN (fun p => sumN (fun q => b2i (free e n p q)) p) (p + 1) = sumN (fun p => sumN (fun q => b2i (free e n p q)) p) p + sumN (fun q => b2i (free e n p q)) p := rfl
    have hb := sumN_le (c := 10) (n := p) (f := fun p => sumN (fun q => b2i (free e n p q)) p) (fun k _ => by have := sb_le (free e n k) k; omega)
    simp (disch := omega) [-Int.not_le, -Int.not_lt, ↓e_ci_p, ↓e_lv_p, ↓l_lv_p, ↓r_lv_p, ↓r_null_p, ↓e_fld_p, ↓r_fld_p, ↓e_ald_p, ↓z_ald_p, ↓r_ald_p, ↓e_len_p, ↓e_op_p, ↓e_dv_p, ↓l_op_p, ↓l_dv_p, ↓l_sh_p, ↓e_lcmp_p, ↓e_l2i_p, ↓e_min_p, ↓c_b_p, ↓c_not_p, ↓c_and_p, ↓c_or_p, ↓c_null_p, ↓c_eq_p, ↓c_ne_p, ↓c_lt_p, ↓c_ge_p, ↓c_gt_p, ↓c_le_p, ↓e_cond_p, ↓x_tern_p, ↓a_nil_p, ↓a_I_p, ↓a_L_p, ↓a_R_p, ↓e_callV_p, ↓r_callV_p, ↓e_callS_p, ↓s_skip_p, ↓s_seq_p, ↓s_st_p, ↓s_stL_p, ↓s_stR_p, ↓s_inc_p, ↓s_put_p, ↓s_putZ_p, ↓s_putR_p, ↓s_putop_p, ↓s_ast_p, ↓s_zast_p, ↓s_rast_p, ↓s_astop_p, ↓s_callV_p, ↓s_popV_p, ↓s_if_p, ↓s_ite_p, ↓s_itr_p, ↓s_brk_p, ↓s_retI_p, ↓s_retR_p, ↓s_ret_p, ↓s_sw_p, isI_s, isI_z, isL_s, isL_z, isR_s, isR_z, gI_s, gI_z, gL_z, gR_s, gR_z, gA_s, isA_s, bdo_s, arOK_s, isVI_I, isVR_R, vInt_I, vInt_L, vRef_R, lenOf_s, lnOK_s, rHd_c, isHd_c, noL_z, noL_1, noL_s, nl_I, nl_R, nl_U, stI, stR, bd_t, oA, oS, oM, oD, oR, tn_add, tn_mul, tn_nat, eqb_t, eqb_f, ltb_t, ltb_f, leb_t, leb_f, nob_s, nob_n, nat_eq, nat_lt, nat_le, mR_0 F, mR_1 F, mR_2 F, mR_3 F, mR_4 F, mR_5 F, mR_6 F, mR_7 F, mR_8 F, mR_9 F, mR_10 F, mR_11 F, mR_12 F, mR_13 F, mR_15 F, mR_17 F, mR_25 F, mR_26 F, mR_27 F, mR_28 F, mR_29 F, mR_30 F, mR_35 F, mR_36 F, mR_37 F, mR_38 F, mR_40 F, mR_41 F, mR_42 F, mR_43 F, mR_44 F, mR_45 F, mR_46 F, mR_47 F, mK_63 F, mK_64 F, mK_65 F, mK_66 F, mK_67 F, mK_68 F, mK_69 F, mK_70 F, mK_71 F, mK_72 F, mK_73 F, mK_74 F, mK_75 F, mK_76 F, mK_77 F, mK_78 F, mK_79 F, mK_80 F, mK_81 F, mK_82 F, mK_83 F, mK_84 F, mK_85 F, mK_86 F, mK_87 F, mK_88 F, mK_89 F, mK_90 F, mK_91 F, mK_92 F, mK_93 F, mK_94 F, mK_95 F, mK_96 F, mK_97 F, h_v3]
    refine X9_worth_0 F hf hlt (c := sumN (fun p => sumN (fun q => b2i (free e n p q)) p) p) (by omega) (by simp [sumN]) ?_
    exact fin _ _ _ (by rw [hs]) rfl rfl
  · rintro env st ⟨v3, h_v3, rfl, rfl⟩
    exact hkk v3 h_v3
set_option maxHeartbeats 4000000 in
theorem X9_hasGroup_0 (F : isMod kd R) {e : Nat → Int} {n p : Nat} (hf : FAR I e n) (hp : p < n) {c : Bool} {a1 : Int} (e_a1 : vI a1 = vI (b2i (c || anyN (fun q => one e n p q) (0)))) {Kn Kb : XE → XS → Prop} {Kr : AV → XS → Prop} 
    (hkk : Kn [vR (some 63), vI (b2i (c || anyN (fun q => one e n p q) (p))), vI p, vI ((p : Nat) : Int)] (kd, I, R)) : lp_X9_hasGroup_0 Kn Kb Kr [vR (some 63), vI a1, vI p, vI 0] (kd, I, R) := by
  unfold lp_X9_hasGroup_0
  have hn := hf.2.1
  have h64 := hf.1
  refine forUp (lo := 0) (n := p) (fun q env st => env = [vR (some 63), vI (b2i (c || anyN (fun q => one e n p q) (q))), vI p, vI (q : Int)] ∧ st = (kd, I, R)) (by omega) (by omega) ⟨by first | (rw [e_a1]; done) | (rw [e_a1]; rfl), rfl⟩ ?_ ?_ ?_
  · rintro q env st hle ⟨rfl, rfl⟩
    first | exact ⟨rfl, fun K h => h⟩ | exact ⟨rfl, fun K h => ⟨_, rfl, h⟩⟩ | (refine ⟨rfl, fun K h => ?_⟩; simp (disch := omega) [-Int.not_le, -Int.not_lt, ↓e_ci_p, ↓e_lv_p, ↓l_lv_p, ↓r_lv_p, ↓r_null_p, ↓e_fld_p, ↓r_fld_p, ↓e_ald_p, ↓z_ald_p, ↓r_ald_p, ↓e_len_p, ↓e_op_p, ↓e_dv_p, ↓l_op_p, ↓l_dv_p, ↓l_sh_p, ↓e_lcmp_p, ↓e_l2i_p, ↓e_min_p, ↓c_b_p, ↓c_not_p, ↓c_and_p, ↓c_or_p, ↓c_null_p, ↓c_eq_p, ↓c_ne_p, ↓c_lt_p, ↓c_ge_p, ↓c_gt_p, ↓c_le_p, ↓e_cond_p, ↓x_tern_p, ↓a_nil_p, ↓a_I_p, ↓a_L_p, ↓a_R_p, ↓e_callV_p, ↓r_callV_p, ↓e_callS_p, ↓s_skip_p, ↓s_seq_p, ↓s_st_p, ↓s_stL_p, ↓s_stR_p, ↓s_inc_p, ↓s_put_p, ↓s_putZ_p, ↓s_putR_p, ↓s_putop_p, ↓s_ast_p, ↓s_zast_p, ↓s_rast_p, ↓s_astop_p, ↓s_callV_p, ↓s_popV_p, ↓s_if_p, ↓s_ite_p, ↓s_itr_p, ↓s_brk_p, ↓s_retI_p, ↓s_retR_p, ↓s_ret_p, ↓s_sw_p, isI_s, isI_z, isL_s, isL_z, isR_s, isR_z, gI_s, gI_z, gL_z, gR_s, gR_z, gA_s, isA_s, bdo_s, arOK_s, isVI_I, isVR_R, vInt_I, vInt_L, vRef_R, lenOf_s, lnOK_s, rHd_c, isHd_c, noL_z, noL_1, noL_s, nl_I, nl_R, nl_U, stI, stR, bd_t, oA, oS, oM, oD, oR, tn_add, tn_mul, tn_nat, eqb_t, eqb_f, ltb_t, ltb_f, leb_t, leb_f, nob_s, nob_n, nat_eq, nat_lt, nat_le, mR_0 F, mR_1 F, mR_2 F, mR_3 F, mR_4 F, mR_5 F, mR_6 F, mR_7 F, mR_8 F, mR_9 F, mR_10 F, mR_11 F, mR_12 F, mR_13 F, mR_15 F, mR_17 F, mR_25 F, mR_26 F, mR_27 F, mR_28 F, mR_29 F, mR_30 F, mR_35 F, mR_36 F, mR_37 F, mR_38 F, mR_40 F, mR_41 F, mR_42 F, mR_43 F, mR_44 F, mR_45 F, mR_46 F, mR_47 F, mK_63 F, mK_64 F, mK_65 F, mK_66 F, mK_67 F, mK_68 F, mK_69 F, mK_70 F, mK_71 F, mK_72 F, mK_73 F, mK_74 F, mK_75 F, mK_76 F, mK_77 F, mK_78 F, mK_79 F, mK_80 F, mK_81 F, mK_82 F, mK_83 F, mK_84 F, mK_85 F, mK_86 F, mK_87 F, mK_88 F, mK_89 F, mK_90 F, mK_91 F, mK_92 F, mK_93 F, mK_94 F, mK_95 F, mK_96 F, mK_97 F, h64]; first | exact h | simpa using h)
  · rintro q env st hlo hlt ⟨rfl, rfl⟩ Kx hx
    have fin : ∀ (b1 : Int) (S' : Nat → Nat → Int) , vI b1 = vI (b2i (c || anyN (fun q => one e n p q) (q + 1))) → S' = I → Kx [vR (some 63), vI b1, vI p, vI (q : Int)] (kd, S', R) := by
      intro b1 S' q_a1 q_S
      subst q_S
      exact hx _ _ rfl (by simp [noL_z, noL_1, noL_s, nl_I, nl_R, nl_U]) ⟨by simp [q_a1], rfl⟩
    have hs : anyN (fun q => one e n p q) (q + 1) = (anyN (fun q => one e n p q) q || one e n p q) := rfl
    generalize anyN (fun q => one e n p q) q = s at *
    cases c <;> cases s <;> simp (disch := omega) [-Int.not_le, -Int.not_lt, ↓e_ci_p, ↓e_lv_p, ↓l_lv_p, ↓r_lv_p, ↓r_null_p, ↓e_fld_p, ↓r_fld_p, ↓e_ald_p, ↓z_ald_p, ↓r_ald_p, ↓e_len_p, ↓e_op_p, ↓e_dv_p, ↓l_op_p, ↓l_dv_p, ↓l_sh_p, ↓e_lcmp_p, ↓e_l2i_p, ↓e_min_p, ↓c_b_p, ↓c_not_p, ↓c_and_p, ↓c_or_p, ↓c_null_p, ↓c_eq_p, ↓c_ne_p, ↓c_lt_p, ↓c_ge_p, ↓c_gt_p, ↓c_le_p, ↓e_cond_p, ↓x_tern_p, ↓a_nil_p, ↓a_I_p, ↓a_L_p, ↓a_R_p, ↓e_callV_p, ↓r_callV_p, ↓e_callS_p, ↓s_skip_p, ↓s_seq_p, ↓s_st_p, ↓s_stL_p, ↓s_stR_p, ↓s_inc_p, ↓s_put_p, ↓s_putZ_p, ↓s_putR_p, ↓s_putop_p, ↓s_ast_p, ↓s_zast_p, ↓s_rast_p, ↓s_astop_p, ↓s_callV_p, ↓s_popV_p, ↓s_if_p, ↓s_ite_p, ↓s_itr_p, ↓s_brk_p, ↓s_retI_p, ↓s_retR_p, ↓s_ret_p, ↓s_sw_p, isI_s, isI_z, isL_s, isL_z, isR_s, isR_z, gI_s, gI_z, gL_z, gR_s, gR_z, gA_s, isA_s, bdo_s, arOK_s, isVI_I, isVR_R, vInt_I, vInt_L, vRef_R, lenOf_s, lnOK_s, rHd_c, isHd_c, noL_z, noL_1, noL_s, nl_I, nl_R, nl_U, stI, stR, bd_t, oA, oS, oM, oD, oR, tn_add, tn_mul, tn_nat, eqb_t, eqb_f, ltb_t, ltb_f, leb_t, leb_f, nob_s, nob_n, nat_eq, nat_lt, nat_le, mR_0 F, mR_1 F, mR_2 F, mR_3 F, mR_4 F, mR_5 F, mR_6 F, mR_7 F, mR_8 F, mR_9 F, mR_10 F, mR_11 F, mR_12 F, mR_13 F, mR_15 F, mR_17 F, mR_25 F, mR_26 F, mR_27 F, mR_28 F, mR_29 F, mR_30 F, mR_35 F, mR_36 F, mR_37 F, mR_38 F, mR_40 F, mR_41 F, mR_42 F, mR_43 F, mR_44 F, mR_45 F, mR_46 F, mR_47 F, mK_63 F, mK_64 F, mK_65 F, mK_66 F, mK_67 F, mK_68 F, mK_69 F, mK_70 F, mK_71 F, mK_72 F, mK_73 F, mK_74 F, mK_75 F, mK_76 F, mK_77 F, mK_78 F, mK_79 F, mK_80 F, mK_81 F, mK_82 F, mK_83 F, mK_84 F, mK_85 F, mK_86 F, mK_87 F, mK_88 F, mK_89 F, mK_90 F, mK_91 F, mK_92 F, mK_93 F, mK_94 F, mK_95 F, mK_96 F, mK_97 F, X9_one F hf hp (show q < n by omega), b2i] <;> exact fin _ _ (by rw [hs]; cases one e n p q <;> simp [b2i]) rfl
  · rintro env st ⟨rfl, rfl⟩
    exact hkk
set_option maxHeartbeats 4000000 in
theorem X9_hasGroup_1 (F : isMod kd R) {e : Nat → Int} {n : Nat} (hf : FAR I e n) {v3 : AV} (h_v3 : nl v3 = true) {a1 : Int} (e_a1 : vI a1 = vI (b2i (anyN (fun p => anyN (fun q => one e n p q) p) (0)))) {Kn Kb : XE → XS → Prop} {Kr : AV → XS → Prop} 
    (hkk : ∀ v3 : AV, nl v3 = true → Kn [vR (some 63), vI (b2i (anyN (fun p => anyN (fun q => one e n p q) p) (n))), vI ((n : Nat) : Int), v3] (kd, I, R)) : lp_X9_hasGroup_1 Kn Kb Kr [vR (some 63), vI a1, vI 0, v3] (kd, I, R) := by
  unfold lp_X9_hasGroup_1
  have hn := hf.2.1
  have h64 := hf.1
  refine forUp (lo := 0) (n := n) (fun p env st => ∃ v3 : AV, nl v3 = true ∧ env = [vR (some 63), vI (b2i (anyN (fun p => anyN (fun q => one e n p q) p) (p))), vI (p : Int), v3] ∧ st = (kd, I, R)) (by omega) (by omega) ⟨v3, h_v3, by first | (rw [e_a1]; done) | (rw [e_a1]; rfl), rfl⟩ ?_ ?_ ?_
  · rintro p env st hle ⟨v3, h_v3, rfl, rfl⟩
    first | exact ⟨rfl, fun K h => h⟩ | exact ⟨rfl, fun K h => ⟨_, rfl, h⟩⟩ | (refine ⟨rfl, fun K h => ?_⟩; simp (disch := omega) [-Int.not_le, -Int.not_lt, ↓e_ci_p, ↓e_lv_p, ↓l_lv_p, ↓r_lv_p, ↓r_null_p, ↓e_fld_p, ↓r_fld_p, ↓e_ald_p, ↓z_ald_p, ↓r_ald_p, ↓e_len_p, ↓e_op_p, ↓e_dv_p, ↓l_op_p, ↓l_dv_p, ↓l_sh_p, ↓e_lcmp_p, ↓e_l2i_p, ↓e_min_p, ↓c_b_p, ↓c_not_p, ↓c_and_p, ↓c_or_p, ↓c_null_p, ↓c_eq_p, ↓c_ne_p, ↓c_lt_p, ↓c_ge_p, ↓c_gt_p, ↓c_le_p, ↓e_cond_p, ↓x_tern_p, ↓a_nil_p, ↓a_I_p, ↓a_L_p, ↓a_R_p, ↓e_callV_p, ↓r_callV_p, ↓e_callS_p, ↓s_skip_p, ↓s_seq_p, ↓s_st_p, ↓s_stL_p, ↓s_stR_p, ↓s_inc_p, ↓s_put_p, ↓s_putZ_p, ↓s_putR_p, ↓s_putop_p, ↓s_ast_p, ↓s_zast_p, ↓s_rast_p, ↓s_astop_p, ↓s_callV_p, ↓s_popV_p, ↓s_if_p, ↓s_ite_p, ↓s_itr_p, ↓s_brk_p, ↓s_retI_p, ↓s_retR_p, ↓s_ret_p, ↓s_sw_p, isI_s, isI_z, isL_s, isL_z, isR_s, isR_z, gI_s, gI_z, gL_z, gR_s, gR_z, gA_s, isA_s, bdo_s, arOK_s, isVI_I, isVR_R, vInt_I, vInt_L, vRef_R, lenOf_s, lnOK_s, rHd_c, isHd_c, noL_z, noL_1, noL_s, nl_I, nl_R, nl_U, stI, stR, bd_t, oA, oS, oM, oD, oR, tn_add, tn_mul, tn_nat, eqb_t, eqb_f, ltb_t, ltb_f, leb_t, leb_f, nob_s, nob_n, nat_eq, nat_lt, nat_le, mR_0 F, mR_1 F, mR_2 F, mR_3 F, mR_4 F, mR_5 F, mR_6 F, mR_7 F, mR_8 F, mR_9 F, mR_10 F, mR_11 F, mR_12 F, mR_13 F, mR_15 F, mR_17 F, mR_25 F, mR_26 F, mR_27 F, mR_28 F, mR_29 F, mR_30 F, mR_35 F, mR_36 F, mR_37 F, mR_38 F, mR_40 F, mR_41 F, mR_42 F, mR_43 F, mR_44 F, mR_45 F, mR_46 F, mR_47 F, mK_63 F, mK_64 F, mK_65 F, mK_66 F, mK_67 F, mK_68 F, mK_69 F, mK_70 F, mK_71 F, mK_72 F, mK_73 F, mK_74 F, mK_75 F, mK_76 F, mK_77 F, mK_78 F, mK_79 F, mK_80 F, mK_81 F, mK_82 F, mK_83 F, mK_84 F, mK_85 F, mK_86 F, mK_87 F, mK_88 F, mK_89 F, mK_90 F, mK_91 F, mK_92 F, mK_93 F, mK_94 F, mK_95 F, mK_96 F, mK_97 F, h64]; first | exact h | simpa using h)
  · rintro p env st hlo hlt ⟨v3, h_v3, rfl, rfl⟩ Kx hx
    have fin : ∀ (b1 : Int) (S' : Nat → Nat → Int) (v3' : AV) , vI b1 = vI (b2i (anyN (fun p => anyN (fun q => one e n p q) p) (p + 1))) → S' = I → nl v3' = true → Kx [vR (some 63), vI b1, vI (p : Int), v3'] (kd, S', R) := by
      intro b1 S' v3' q_a1 q_S q_v3
      subst q_S
      exact hx _ _ rfl (by simp [noL_z, noL_1, noL_s, nl_I, nl_R, nl_U, q_v3, h_v3]) ⟨v3', q_v3, by simp [q_a1], rfl⟩
    simp (disch := omega) [-Int.not_le, -Int.not_lt, ↓e_ci_p, ↓e_lv_p, ↓l_lv_p, ↓r_lv_p, ↓r_null_p, ↓e_fld_p, ↓r_fld_p, ↓e_ald_p, ↓z_ald_p, ↓r_ald_p, ↓e_len_p, ↓e_op_p, ↓e_dv_p, ↓l_op_p, ↓l_dv_p, ↓l_sh_p, ↓e_lcmp_p, ↓e_l2i_p, ↓e_min_p, ↓c_b_p, ↓c_not_p, ↓c_and_p, ↓c_or_p, ↓c_null_p, ↓c_eq_p, ↓c_ne_p, ↓c_lt_p, ↓c_ge_p, ↓c_gt_p, ↓c_le_p, ↓e_cond_p, ↓x_tern_p, ↓a_nil_p, ↓a_I_p, ↓a_L_p, ↓a_R_p, ↓e_callV_p, ↓r_callV_p, ↓e_callS_p, ↓s_skip_p, ↓s_seq_p, ↓s_st_p, ↓s_stL_p, ↓s_stR_p, ↓s_inc_p, ↓s_put_p, ↓s_putZ_p, ↓s_putR_p, ↓s_putop_p, ↓s_ast_p, ↓s_zast_p, ↓s_rast_p, ↓s_astop_p, ↓s_callV_p, ↓s_popV_p, ↓s_if_p, ↓s_ite_p, ↓s_itr_p, ↓s_brk_p, ↓s_retI_p, ↓s_retR_p, ↓s_ret_p, ↓s_sw_p, isI_s, isI_z, isL_s, isL_z, isR_s, isR_z, gI_s, gI_z, gL_z, gR_s, gR_z, gA_s, isA_s, bdo_s, arOK_s, isVI_I, isVR_R, vInt_I, vInt_L, vRef_R, lenOf_s, lnOK_s, rHd_c, isHd_c, noL_z, noL_1, noL_s, nl_I, nl_R, nl_U, stI, stR, bd_t, oA, oS, oM, oD, oR, tn_add, tn_mul, tn_nat, eqb_t, eqb_f, ltb_t, ltb_f, leb_t, leb_f, nob_s, nob_n, nat_eq, nat_lt, nat_le, mR_0 F, mR_1 F, mR_2 F, mR_3 F, mR_4 F, mR_5 F, mR_6 F, mR_7 F, mR_8 F, mR_9 F, mR_10 F, mR_11 F, mR_12 F, mR_13 F, mR_15 F, mR_17 F, mR_25 F, mR_26 F, mR_27 F, mR_28 F, mR_29 F, mR_30 F, mR_35 F, mR_36 F, mR_37 F, mR_38 F, mR_40 F, mR_41 F, mR_42 F, mR_43 F, mR_44 F, mR_45 F, mR_46 F, mR_47 F, mK_63 F, mK_64 F, mK_65 F, mK_66 F, mK_67 F, mK_68 F, mK_69 F, mK_70 F, mK_71 F, mK_72 F, mK_73 F, mK_74 F, mK_75 F, mK_76 F, mK_77 F, mK_78 F, mK_79 F, mK_80 F, mK_81 F, mK_82 F, mK_83 F, mK_84 F, mK_85 F, mK_86 F, mK_87 F, mK_88 F, mK_89 F, mK_90 F, mK_91 F, mK_92 F, mK_93 F, mK_94 F, mK_95 F, mK_96 F, mK_97 F, h_v3]
    refine X9_hasGroup_0 F hf hlt (c := anyN (fun p => anyN (fun q => one e n p q) p) p) (by simp [anyN]) ?_
    exact fin _ _ _ (by simp [anyN]) rfl rfl
  · rintro env st ⟨v3, h_v3, rfl, rfl⟩
    exact hkk v3 h_v3
def hasG (e : Nat → Int) (n : Nat) : Bool := anyN (fun p => anyN (fun q => one e n p q) p) n
theorem X9_hasGroup_ok (F : isMod kd R) {e : Nat → Int} {n : Nat} (hf : FAR I e n) (hk : K (vI (b2i (hasG e n))) (kd, I, R)) : B_X9_hasGroup [vR (some 63)] (kd, I, R) K := by
  simp [B_X9_hasGroup, bodyOf, envOf, exA, catV, rkOK]
  simp (disch := omega) [t_X9_hasGroup, -Int.not_le, -Int.not_lt, ↓e_ci_p, ↓e_lv_p, ↓l_lv_p, ↓r_lv_p, ↓r_null_p, ↓e_fld_p, ↓r_fld_p, ↓e_ald_p, ↓z_ald_p, ↓r_ald_p, ↓e_len_p, ↓e_op_p, ↓e_dv_p, ↓l_op_p, ↓l_dv_p, ↓l_sh_p, ↓e_lcmp_p, ↓e_l2i_p, ↓e_min_p, ↓c_b_p, ↓c_not_p, ↓c_and_p, ↓c_or_p, ↓c_null_p, ↓c_eq_p, ↓c_ne_p, ↓c_lt_p, ↓c_ge_p, ↓c_gt_p, ↓c_le_p, ↓e_cond_p, ↓x_tern_p, ↓a_nil_p, ↓a_I_p, ↓a_L_p, ↓a_R_p, ↓e_callV_p, ↓r_callV_p, ↓e_callS_p, ↓s_skip_p, ↓s_seq_p, ↓s_st_p, ↓s_stL_p, ↓s_stR_p, ↓s_inc_p, ↓s_put_p, ↓s_putZ_p, ↓s_putR_p, ↓s_putop_p, ↓s_ast_p, ↓s_zast_p, ↓s_rast_p, ↓s_astop_p, ↓s_callV_p, ↓s_popV_p, ↓s_if_p, ↓s_ite_p, ↓s_itr_p, ↓s_brk_p, ↓s_retI_p, ↓s_retR_p, ↓s_ret_p, ↓s_sw_p, isI_s, isI_z, isL_s, isL_z, isR_s, isR_z, gI_s, gI_z, gL_z, gR_s, gR_z, gA_s, isA_s, bdo_s, arOK_s, isVI_I, isVR_R, vInt_I, vInt_L, vRef_R, lenOf_s, lnOK_s, rHd_c, isHd_c, noL_z, noL_1, noL_s, nl_I, nl_R, nl_U, stI, stR, bd_t, oA, oS, oM, oD, oR, tn_add, tn_mul, tn_nat, eqb_t, eqb_f, ltb_t, ltb_f, leb_t, leb_f, nob_s, nob_n, nat_eq, nat_lt, nat_le, mR_0 F, mR_1 F, mR_2 F, mR_3 F, mR_4 F, mR_5 F, mR_6 F, mR_7 F, mR_8 F, mR_9 F, mR_10 F, mR_11 F, mR_12 F, mR_13 F, mR_15 F, mR_17 F, mR_25 F, mR_26 F, mR_27 F, mR_28 F, mR_29 F, mR_30 F, mR_35 F, mR_36 F, mR_37 F, mR_38 F, mR_40 F, mR_41 F, mR_42 F, mR_43 F, mR_44 F, mR_45 F, mR_46 F, mR_47 F, mK_63 F, mK_64 F, mK_65 F, mK_66 F, mK_67 F, mK_68 F, mK_69 F, mK_70 F, mK_71 F, mK_72 F, mK_73 F, mK_74 F, mK_75 F, mK_76 F, mK_77 F, mK_78 F, mK_79 F, mK_80 F, mK_81 F, mK_82 F, mK_83 F, mK_84 F, mK_85 F, mK_86 F, mK_87 F, mK_88 F, mK_89 F, mK_90 F, mK_91 F, mK_92 F, mK_93 F, mK_94 F, mK_95 F, mK_96 F, mK_97 F]
  refine X9_hasGroup_1 F hf rfl rfl (fun v3 h3 => ?_)
  simp (disch := omega) [-Int.not_le, -Int.not_lt, ↓e_ci_p, ↓e_lv_p, ↓l_lv_p, ↓r_lv_p, ↓r_null_p, ↓e_fld_p, ↓r_fld_p, ↓e_ald_p, ↓z_ald_p, ↓r_ald_p, ↓e_len_p, ↓e_op_p, ↓e_dv_p, ↓l_op_p, ↓l_dv_p, ↓l_sh_p, ↓e_lcmp_p, ↓e_l2i_p, ↓e_min_p, ↓c_b_p, ↓c_not_p, ↓c_and_p, ↓c_or_p, ↓c_null_p, ↓c_eq_p, ↓c_ne_p, ↓c_lt_p, ↓c_ge_p, ↓c_gt_p, ↓c_le_p, ↓e_cond_p, ↓x_tern_p, ↓a_nil_p, ↓a_I_p, ↓a_L_p, ↓a_R_p, ↓e_callV_p, ↓r_callV_p, ↓e_callS_p, ↓s_skip_p, ↓s_seq_p, ↓s_st_p, ↓s_stL_p, ↓s_stR_p, ↓s_inc_p, ↓s_put_p, ↓s_putZ_p, ↓s_putR_p, ↓s_putop_p, ↓s_ast_p, ↓s_zast_p, ↓s_rast_p, ↓s_astop_p, ↓s_callV_p, ↓s_popV_p, ↓s_if_p, ↓s_ite_p, ↓s_itr_p, ↓s_brk_p, ↓s_retI_p, ↓s_retR_p, ↓s_ret_p, ↓s_sw_p, isI_s, isI_z, isL_s, isL_z, isR_s, isR_z, gI_s, gI_z, gL_z, gR_s, gR_z, gA_s, isA_s, bdo_s, arOK_s, isVI_I, isVR_R, vInt_I, vInt_L, vRef_R, lenOf_s, lnOK_s, rHd_c, isHd_c, noL_z, noL_1, noL_s, nl_I, nl_R, nl_U, stI, stR, bd_t, oA, oS, oM, oD, oR, tn_add, tn_mul, tn_nat, eqb_t, eqb_f, ltb_t, ltb_f, leb_t, leb_f, nob_s, nob_n, nat_eq, nat_lt, nat_le, mR_0 F, mR_1 F, mR_2 F, mR_3 F, mR_4 F, mR_5 F, mR_6 F, mR_7 F, mR_8 F, mR_9 F, mR_10 F, mR_11 F, mR_12 F, mR_13 F, mR_15 F, mR_17 F, mR_25 F, mR_26 F, mR_27 F, mR_28 F, mR_29 F, mR_30 F, mR_35 F, mR_36 F, mR_37 F, mR_38 F, mR_40 F, mR_41 F, mR_42 F, mR_43 F, mR_44 F, mR_45 F, mR_46 F, mR_47 F, mK_63 F, mK_64 F, mK_65 F, mK_66 F, mK_67 F, mK_68 F, mK_69 F, mK_70 F, mK_71 F, mK_72 F, mK_73 F, mK_74 F, mK_75 F, mK_76 F, mK_77 F, mK_78 F, mK_79 F, mK_80 F, mK_81 F, mK_82 F, mK_83 F, mK_84 F, mK_85 F, mK_86 F, mK_87 F, mK_88 F, mK_89 F, mK_90 F, mK_91 F, mK_92 F, mK_93 F, mK_94 F, mK_95 F, mK_96 F, mK_97 F]
  simp [b2i] at *
  exact hk
/-- the memory behind a look at the ties -/
def TI (I : Nat → Nat → Int) : Nat → Nat → Int := nL (clr I 100) (notes I)
def LK (I : Nat → Nat → Int) (n : Nat) : Nat → Nat → Int := setRow (TI I) 88 100 (farR (TI I 86) n)
theorem TI_row {x : Nat} (h1 : x ≠ 86) (h2 : x ≠ 87) : TI I x = I x := by
  rw [TI, nL_row h1 h2]; funext j; simp [clr, h1, h2]
theorem LK_row {n x : Nat} (h1 : x ≠ 86) (h2 : x ≠ 87) (h3 : x ≠ 88) : LK I n x = I x := by
  rw [LK, setRow_row h3, TI_row h1 h2]
theorem LK_t {n x : Nat} (h : x ≠ 88) : LK I n x = TI I x := setRow_row h
theorem LK_far {n : Nat} (h64 : I 64 0 = (n : Int)) (hn : n ≤ 10) : FAR (LK I n) (TI I 86) n := by
  refine ⟨by rw [LK_row (by decide) (by decide) (by decide)]; exact h64, hn, fun p q hp hq => ?_⟩
  rw [LK, setRow_at (by omega), farR_at hp hq hn]; rfl
/-- what the reference's calls want -/
def RI (I : Nat → Nat → Int) : Prop := WF I ∧ Z77 I ∧ Pr I ∧ (∀ k, 100 ≤ k → I 86 k = 0 ∧ I 87 k = 0) ∧ ∀ k, 100 ≤ k → I 93 k = 0
theorem X9_looks_ok (F : isMod kd R) (hr : RI I) {n : Nat} (h64 : I 64 0 = (n : Int)) (hn : n ≤ 10) (hk : K vU (kd, LK I n, R)) : B_X9_looks [vR (some 63)] (kd, I, R) K := by
  simp [B_X9_looks, bodyOf, envOf, exA, catV, rkOK]
  simp (disch := omega) [t_X9_looks, -Int.not_le, -Int.not_lt, ↓e_ci_p, ↓e_lv_p, ↓l_lv_p, ↓r_lv_p, ↓r_null_p, ↓e_fld_p, ↓r_fld_p, ↓e_ald_p, ↓z_ald_p, ↓r_ald_p, ↓e_len_p, ↓e_op_p, ↓e_dv_p, ↓l_op_p, ↓l_dv_p, ↓l_sh_p, ↓e_lcmp_p, ↓e_l2i_p, ↓e_min_p, ↓c_b_p, ↓c_not_p, ↓c_and_p, ↓c_or_p, ↓c_null_p, ↓c_eq_p, ↓c_ne_p, ↓c_lt_p, ↓c_ge_p, ↓c_gt_p, ↓c_le_p, ↓e_cond_p, ↓x_tern_p, ↓a_nil_p, ↓a_I_p, ↓a_L_p, ↓a_R_p, ↓e_callV_p, ↓r_callV_p, ↓e_callS_p, ↓s_skip_p, ↓s_seq_p, ↓s_st_p, ↓s_stL_p, ↓s_stR_p, ↓s_inc_p, ↓s_put_p, ↓s_putZ_p, ↓s_putR_p, ↓s_putop_p, ↓s_ast_p, ↓s_zast_p, ↓s_rast_p, ↓s_astop_p, ↓s_callV_p, ↓s_popV_p, ↓s_if_p, ↓s_ite_p, ↓s_itr_p, ↓s_brk_p, ↓s_retI_p, ↓s_retR_p, ↓s_ret_p, ↓s_sw_p, isI_s, isI_z, isL_s, isL_z, isR_s, isR_z, gI_s, gI_z, gL_z, gR_s, gR_z, gA_s, isA_s, bdo_s, arOK_s, isVI_I, isVR_R, vInt_I, vInt_L, vRef_R, lenOf_s, lnOK_s, rHd_c, isHd_c, noL_z, noL_1, noL_s, nl_I, nl_R, nl_U, stI, stR, bd_t, oA, oS, oM, oD, oR, tn_add, tn_mul, tn_nat, eqb_t, eqb_f, ltb_t, ltb_f, leb_t, leb_f, nob_s, nob_n, nat_eq, nat_lt, nat_le, mR_0 F, mR_1 F, mR_2 F, mR_3 F, mR_4 F, mR_5 F, mR_6 F, mR_7 F, mR_8 F, mR_9 F, mR_10 F, mR_11 F, mR_12 F, mR_13 F, mR_15 F, mR_17 F, mR_25 F, mR_26 F, mR_27 F, mR_28 F, mR_29 F, mR_30 F, mR_35 F, mR_36 F, mR_37 F, mR_38 F, mR_40 F, mR_41 F, mR_42 F, mR_43 F, mR_44 F, mR_45 F, mR_46 F, mR_47 F, mK_63 F, mK_64 F, mK_65 F, mK_66 F, mK_67 F, mK_68 F, mK_69 F, mK_70 F, mK_71 F, mK_72 F, mK_73 F, mK_74 F, mK_75 F, mK_76 F, mK_77 F, mK_78 F, mK_79 F, mK_80 F, mK_81 F, mK_82 F, mK_83 F, mK_84 F, mK_85 F, mK_86 F, mK_87 F, mK_88 F, mK_89 F, mK_90 F, mK_91 F, mK_92 F, mK_93 F, mK_94 F, mK_95 F, mK_96 F, mK_97 F]
  refine X9_ties_ok F hr.1 hr.2.1 hr.2.2.1 hr.2.2.2.1 ?_
  simp (disch := omega) [-Int.not_le, -Int.not_lt, ↓e_ci_p, ↓e_lv_p, ↓l_lv_p, ↓r_lv_p, ↓r_null_p, ↓e_fld_p, ↓r_fld_p, ↓e_ald_p, ↓z_ald_p, ↓r_ald_p, ↓e_len_p, ↓e_op_p, ↓e_dv_p, ↓l_op_p, ↓l_dv_p, ↓l_sh_p, ↓e_lcmp_p, ↓e_l2i_p, ↓e_min_p, ↓c_b_p, ↓c_not_p, ↓c_and_p, ↓c_or_p, ↓c_null_p, ↓c_eq_p, ↓c_ne_p, ↓c_lt_p, ↓c_ge_p, ↓c_gt_p, ↓c_le_p, ↓e_cond_p, ↓x_tern_p, ↓a_nil_p, ↓a_I_p, ↓a_L_p, ↓a_R_p, ↓e_callV_p, ↓r_callV_p, ↓e_callS_p, ↓s_skip_p, ↓s_seq_p, ↓s_st_p, ↓s_stL_p, ↓s_stR_p, ↓s_inc_p, ↓s_put_p, ↓s_putZ_p, ↓s_putR_p, ↓s_putop_p, ↓s_ast_p, ↓s_zast_p, ↓s_rast_p, ↓s_astop_p, ↓s_callV_p, ↓s_popV_p, ↓s_if_p, ↓s_ite_p, ↓s_itr_p, ↓s_brk_p, ↓s_retI_p, ↓s_retR_p, ↓s_ret_p, ↓s_sw_p, isI_s, isI_z, isL_s, isL_z, isR_s, isR_z, gI_s, gI_z, gL_z, gR_s, gR_z, gA_s, isA_s, bdo_s, arOK_s, isVI_I, isVR_R, vInt_I, vInt_L, vRef_R, lenOf_s, lnOK_s, rHd_c, isHd_c, noL_z, noL_1, noL_s, nl_I, nl_R, nl_U, stI, stR, bd_t, oA, oS, oM, oD, oR, tn_add, tn_mul, tn_nat, eqb_t, eqb_f, ltb_t, ltb_f, leb_t, leb_f, nob_s, nob_n, nat_eq, nat_lt, nat_le, mR_0 F, mR_1 F, mR_2 F, mR_3 F, mR_4 F, mR_5 F, mR_6 F, mR_7 F, mR_8 F, mR_9 F, mR_10 F, mR_11 F, mR_12 F, mR_13 F, mR_15 F, mR_17 F, mR_25 F, mR_26 F, mR_27 F, mR_28 F, mR_29 F, mR_30 F, mR_35 F, mR_36 F, mR_37 F, mR_38 F, mR_40 F, mR_41 F, mR_42 F, mR_43 F, mR_44 F, mR_45 F, mR_46 F, mR_47 F, mK_63 F, mK_64 F, mK_65 F, mK_66 F, mK_67 F, mK_68 F, mK_69 F, mK_70 F, mK_71 F, mK_72 F, mK_73 F, mK_74 F, mK_75 F, mK_76 F, mK_77 F, mK_78 F, mK_79 F, mK_80 F, mK_81 F, mK_82 F, mK_83 F, mK_84 F, mK_85 F, mK_86 F, mK_87 F, mK_88 F, mK_89 F, mK_90 F, mK_91 F, mK_92 F, mK_93 F, mK_94 F, mK_95 F, mK_96 F, mK_97 F]
  refine X9_ways_ok F hn (I := TI I) (by rw [TI_row (by decide) (by decide)]; exact h64) (mK_86 F) (by decide) ?_
  first | exact hk | exact ⟨rfl, hk⟩ | (simp; exact hk)
end ML
