/-! the reference's ways -/
def D0 (e : Nat → Int) (p q : Nat) : Int := if p = q then 0 else if 0 < e (10 * p + q) then 1 else 1000000
def mi (c s : Int) : Int := if s < c then s else c
def DD (e : Nat → Int) : Nat → Nat → Nat → Int
  | 0 => D0 e
  | k + 1 => fun p q => mi (DD e k p q) (DD e k p k + DD e k k q)
def enc (d : Int) : Int := if d < 1000000 then d else -1
theorem DD_rng (e : Nat → Int) (k : Nat) : ∀ p q, 0 ≤ DD e k p q ∧ DD e k p q ≤ 1000000 ∧ (DD e k p q < 1000000 → DD e k p q ≤ 2 ^ k) := by
  induction k with
  | zero =>
    intro p q
    show 0 ≤ D0 e p q ∧ D0 e p q ≤ 1000000 ∧ (D0 e p q < 1000000 → D0 e p q ≤ 2 ^ 0)
    unfold D0
    repeat' split
    all_goals simp
  | succ k ih =>
    intro p q
    have h1 := ih p q
    have h2 := ih p k
    have h3 := ih k q
    have e2 : (2 : Int) ^ (k + 1) = 2 * 2 ^ k := by rw [Int.pow_succ]; omega
    rw [e2]
    show 0 ≤ mi _ _ ∧ mi _ _ ≤ _ ∧ (mi _ _ < _ → mi _ _ ≤ _)
    unfold mi
    split <;> omega
theorem DD_self (e : Nat → Int) (k p : Nat) : DD e k p p = 0 := by
  induction k with
  | zero => simp [DD, D0]
  | succ k ih =>
    have h1 := (DD_rng e k p k).1
    have h2 := (DD_rng e k k p).1
    show mi _ _ = 0
    unfold mi
    split <;> omega
theorem DD_col (e : Nat → Int) (k p : Nat) : DD e (k + 1) p k = DD e k p k := by
  show mi _ _ = _
  rw [DD_self]
  unfold mi
  split <;> omega
theorem DD_row (e : Nat → Int) (k q : Nat) : DD e (k + 1) k q = DD e k k q := by
  show mi _ _ = _
  rw [DD_self]
  unfold mi
  split <;> omega
/-- the reference's row far while k, p, q stand so -/
def FM (e : Nat → Int) (n k p q : Nat) : Nat → Int := fun j => if j / 10 < n ∧ j % 10 < n then (if j / 10 < p ∨ (j / 10 = p ∧ j % 10 < q) then enc (DD e (k + 1) (j / 10) (j % 10)) else enc (DD e k (j / 10) (j % 10))) else enc (D0 e (j / 10) (j % 10))
def setRow (I : Nat → Nat → Int) (y n : Nat) (f : Nat → Int) : Nat → Nat → Int := fun x j => if x = y ∧ j < n then f j else I x j
theorem setRow_row {I : Nat → Nat → Int} {y n x : Nat} {f : Nat → Int} (h : x ≠ y) : setRow I y n f x = I x := by
  funext j
  rw [setRow, if_neg (fun q => h q.1)]
theorem setRow_at {I : Nat → Nat → Int} {y n j : Nat} {f : Nat → Int} (h : j < n) : setRow I y n f y j = f j := by rw [setRow, if_pos ⟨rfl, h⟩]
theorem setRow_congr {I : Nat → Nat → Int} {y n : Nat} {f g : Nat → Int} (h : ∀ j, j < n → f j = g j) : setRow I y n f = setRow I y n g := by
  funext x j
  unfold setRow
  split
  · rename_i q; exact h j q.2
  · rfl
theorem setRow_S {I : Nat → Nat → Int} {y k : Nat} {f : Nat → Int} : upI (setRow I y k f) y k (f k) = setRow I y (k + 1) f := by
  funext x j
  simp only [upI, setRow]
  by_cases h1 : x = y <;> by_cases h2 : j = k
  · subst h2; simp [h1]
  · simp only [h1, h2, true_and, if_false]
    repeat' split
    all_goals first | rfl | omega
  · simp [h1]
  · simp [h1]
theorem setRow_0 {I : Nat → Nat → Int} {y : Nat} {f : Nat → Int} : setRow I y 0 f = I := by
  funext x j
  simp [setRow]
section MW
variable {kd : List (Nat × Nat)} {R : Nat → Nat → Option Nat} {I : Nat → Nat → Int} {K : AV → XS → Prop}
theorem FM_r {e : Nat → Int} {n k p q : Nat} (hp : p < n) (hk : k < n) (hn : n ≤ 10) : FM e n k p q (10 * p + k) = enc (DD e k p k) := by
  have h1 : (10 * p + k) / 10 = p := by omega
  have h2 : (10 * p + k) % 10 = k := by omega
  rw [FM, h1, h2, if_pos ⟨hp, hk⟩, DD_col]
  split <;> rfl
theorem FM_c {e : Nat → Int} {n k p q : Nat} (hq : q < n) (hk : k < n) (hn : n ≤ 10) : FM e n k p q (10 * k + q) = enc (DD e k k q) := by
  have h1 : (10 * k + q) / 10 = k := by omega
  have h2 : (10 * k + q) % 10 = q := by omega
  rw [FM, h1, h2, if_pos ⟨hk, hq⟩, DD_row]
  split <;> rfl
theorem FM_h {e : Nat → Int} {n k p q : Nat} (hq : q < n) (hp : p < n) (hn : n ≤ 10) : FM e n k p q (10 * p + q) = enc (DD e k p q) := by
  have h1 : (10 * p + q) / 10 = p := by omega
  have h2 : (10 * p + q) % 10 = q := by omega
  rw [FM, h1, h2, if_pos ⟨hp, hq⟩, if_neg (by omega)]
theorem FM_s {e : Nat → Int} {n k p q : Nat} (hq : q < n) (hp : p < n) (hn : n ≤ 10) : ∀ j, j < 100 → (if j = 10 * p + q then enc (DD e (k + 1) p q) else FM e n k p q j) = FM e n k p (q + 1) j := by
  intro j hj
  by_cases h : j = 10 * p + q
  · have h1 : (10 * p + q) / 10 = p := by omega
    have h2 : (10 * p + q) % 10 = q := by omega
    subst h
    rw [if_pos rfl, FM, h1, h2, if_pos ⟨hp, hq⟩, if_pos (by omega)]
  · rw [if_neg h]
    unfold FM
    split
    · rename_i hh
      by_cases h3 : j / 10 < p ∨ j / 10 = p ∧ j % 10 < q
      · rw [if_pos h3, if_pos (by omega)]
      · rw [if_neg h3, if_neg (by omega)]
    · rfl
theorem FM_e {e : Nat → Int} {n k p : Nat} : ∀ j, FM e n k p n j = FM e n k (p + 1) 0 j := by
  intro j
  unfold FM
  split
  · rename_i hh
    by_cases h3 : j / 10 < p ∨ j / 10 = p ∧ j % 10 < n
    · rw [if_pos h3, if_pos (by omega)]
    · rw [if_neg h3, if_neg (by omega)]
  · rfl
theorem FM_k {e : Nat → Int} {n k : Nat} : ∀ j, FM e n k n 0 j = FM e n (k + 1) 0 0 j := by
  intro j
  unfold FM
  split
  · rename_i hh
    rw [if_pos (by omega), if_neg (by omega)]
  · rfl
theorem enc_step {e : Nat → Int} {k p q : Nat} (hk : k < 11) : (if (enc (DD e k p k) ≠ -1 ∧ enc (DD e k k q) ≠ -1) ∧ (enc (DD e k p q) = -1 ∨ enc (DD e k p k) + enc (DD e k k q) < enc (DD e k p q)) then enc (DD e k p k) + enc (DD e k k q) else enc (DD e k p q)) = enc (DD e (k + 1) p q) := by
  have h1 := DD_rng e k p q
  have h2 := DD_rng e k p k
  have h3 := DD_rng e k k q
  have hp : (2 : Int) ^ k ≤ 1024 := by
    have : ∀ k, k < 11 → (2 : Int) ^ k ≤ 1024 := by decide
    exact this k hk
  show _ = enc (mi _ _)
  unfold enc mi
  repeat' split
  all_goals omega
set_option maxHeartbeats 4000000 in
theorem X9_ways_1 (F : isMod kd R) {o n k p : Nat} (hn : n ≤ 10) (hk : k < n) (hp : p < n) (e : Nat → Int) {v6 v7 v8 : AV} (h6 : nl v6 = true) (h7 : nl v7 = true) (h8 : nl v8 = true) {Kn Kb : XE → XS → Prop} {Kr : AV → XS → Prop}
    (hkk : ∀ v6 v7 v8, nl v6 = true → nl v7 = true → nl v8 = true → Kn [vR (some 63), vR (some o), vI n, vI k, vI p, vI n, v6, v7, v8] (kd, setRow I 88 100 (FM e n k (p + 1) 0), R)) : lp_X9_ways_1 Kn Kb Kr [vR (some 63), vR (some o), vI n, vI k, vI p, vI 0, v6, v7, v8] (kd, setRow I 88 100 (FM e n k p 0), R) := by
  unfold lp_X9_ways_1
  refine forUp (lo := 0) (n := n) (fun q env st => ∃ v6 v7 v8, nl v6 = true ∧ nl v7 = true ∧ nl v8 = true ∧ env = [vR (some 63), vR (some o), vI n, vI k, vI p, vI (q : Int), v6, v7, v8] ∧ st = (kd, setRow I 88 100 (FM e n k p q), R)) (by omega) (by omega) ⟨v6, v7, v8, h6, h7, h8, rfl, rfl⟩ ?_ ?_ ?_
  · rintro q env st hq ⟨v6, v7, v8, h6, h7, h8, rfl, rfl⟩
    exact ⟨rfl, fun K h => ⟨_, rfl, h⟩⟩
  · rintro q env st hlo hq ⟨v6, v7, v8, h6, h7, h8, rfl, rfl⟩ Kx hx
    have r1 : setRow I 88 100 (FM e n k p q) 88 (10 * p + k) = enc (DD e k p k) := by rw [setRow_at (by omega), FM_r hp hk hn]
    have r2 : setRow I 88 100 (FM e n k p q) 88 (10 * k + q) = enc (DD e k k q) := by rw [setRow_at (by omega), FM_c hq hk hn]
    have r3 : setRow I 88 100 (FM e n k p q) 88 (10 * p + q) = enc (DD e k p q) := by rw [setRow_at (by omega), FM_h hq hp hn]
    have hst := enc_step (e := e) (k := k) (p := p) (q := q) (by omega)
    have hrg : enc (DD e k p k) ≤ 1024 ∧ -1 ≤ enc (DD e k p k) ∧ enc (DD e k k q) ≤ 1024 ∧ -1 ≤ enc (DD e k k q) := by
      have h2 := DD_rng e k p k
      have h3 := DD_rng e k k q
      have hp : (2 : Int) ^ k ≤ 1024 := by
        have : ∀ k, k < 11 → (2 : Int) ^ k ≤ 1024 := by decide
        exact this k (by omega)
      unfold enc
      repeat' split
      all_goals omega
    generalize hA : enc (DD e k p k) = A at *
    generalize hB : enc (DD e k k q) = B at *
    generalize hC : enc (DD e k p q) = C at *
    have fin : ∀ z, z = enc (DD e (k + 1) p q) → Kx [vR (some 63), vR (some o), vI n, vI k, vI p, vI (q : Int), vI A, vI B, vI C] (kd, upI (setRow I 88 100 (FM e n k p q)) 88 (10 * p + q) z, R) := by
      intro z hz
      refine hx _ _ rfl rfl ⟨vI A, vI B, vI C, rfl, rfl, rfl, rfl, ?_⟩
      refine congrArg (fun z => (kd, z, R)) ?_
      rw [← setRow_congr (FM_s hq hp hn)]
      funext x j
      subst hz
      unfold upI setRow
      by_cases hx8 : x = 88
      · by_cases hj : j = 10 * p + q
        · subst hj; simp [hx8]; omega
        · simp [hx8, hj]
      · simp [hx8]
    simp (disch := omega) [-Int.not_le, -Int.not_lt, ↓e_ci_p, ↓e_lv_p, ↓l_lv_p, ↓r_lv_p, ↓r_null_p, ↓e_fld_p, ↓r_fld_p, ↓e_ald_p, ↓z_ald_p, ↓r_ald_p, ↓e_len_p, ↓e_op_p, ↓e_dv_p, ↓l_op_p, ↓l_dv_p, ↓l_sh_p, ↓e_lcmp_p, ↓e_l2i_p, ↓e_min_p, ↓c_b_p, ↓c_not_p, ↓c_and_p, ↓c_or_p, ↓c_null_p, ↓c_eq_p, ↓c_ne_p, ↓c_lt_p, ↓c_ge_p, ↓c_gt_p, ↓c_le_p, ↓e_cond_p, ↓x_tern_p, ↓a_nil_p, ↓a_I_p, ↓a_L_p, ↓a_R_p, ↓e_callV_p, ↓r_callV_p, ↓e_callS_p, ↓s_skip_p, ↓s_seq_p, ↓s_st_p, ↓s_stL_p, ↓s_stR_p, ↓s_inc_p, ↓s_put_p, ↓s_putZ_p, ↓s_putR_p, ↓s_putop_p, ↓s_ast_p, ↓s_zast_p, ↓s_rast_p, ↓s_astop_p, ↓s_callV_p, ↓s_popV_p, ↓s_if_p, ↓s_ite_p, ↓s_itr_p, ↓s_brk_p, ↓s_retI_p, ↓s_retR_p, ↓s_ret_p, ↓s_sw_p, isI_s, isI_z, isL_s, isL_z, isR_s, isR_z, gI_s, gI_z, gL_z, gR_s, gR_z, gA_s, isA_s, bdo_s, arOK_s, isVI_I, isVR_R, vInt_I, vInt_L, vRef_R, lenOf_s, lnOK_s, rHd_c, isHd_c, noL_z, noL_1, noL_s, nl_I, nl_R, nl_U, stI, stR, bd_t, oA, oS, oM, oD, oR, tn_add, tn_mul, tn_nat, eqb_t, eqb_f, ltb_t, ltb_f, leb_t, leb_f, nob_s, nob_n, nat_eq, nat_lt, nat_le, mR_0 F, mR_1 F, mR_2 F, mR_3 F, mR_4 F, mR_5 F, mR_6 F, mR_7 F, mR_8 F, mR_9 F, mR_10 F, mR_11 F, mR_12 F, mR_13 F, mR_15 F, mR_17 F, mR_25 F, mR_26 F, mR_27 F, mR_28 F, mR_29 F, mR_30 F, mR_35 F, mR_36 F, mR_37 F, mR_38 F, mR_40 F, mR_41 F, mR_42 F, mR_43 F, mR_44 F, mR_45 F, mR_46 F, mR_47 F, mK_63 F, mK_64 F, mK_65 F, mK_66 F, mK_67 F, mK_68 F, mK_69 F, mK_70 F, mK_71 F, mK_72 F, mK_73 F, mK_74 F, mK_75 F, mK_76 F, mK_77 F, mK_78 F, mK_79 F, mK_80 F, mK_81 F, mK_82 F, mK_83 F, mK_84 F, mK_85 F, mK_86 F, mK_87 F, mK_88 F, mK_89 F, mK_90 F, mK_91 F, mK_92 F, mK_93 F, mK_94 F, mK_95 F, mK_96 F, mK_97 F, h6, h7, h8, r1, r2, r3]
    repeat' split
    all_goals exact fin _ (by rw [← hst]; split <;> omega)
  · rintro env st ⟨v6, v7, v8, h6, h7, h8, rfl, rfl⟩
    have := hkk v6 v7 v8 h6 h7 h8
    rw [← setRow_congr (fun j _ => FM_e (e := e) (n := n) (k := k) (p := p) j)] at this
    exact this
set_option maxHeartbeats 4000000 in
theorem X9_ways_2 (F : isMod kd R) {o n k : Nat} (hn : n ≤ 10) (hk : k < n) (e : Nat → Int) {v5 v6 v7 v8 : AV} (h5 : nl v5 = true) (h6 : nl v6 = true) (h7 : nl v7 = true) (h8 : nl v8 = true) {Kn Kb : XE → XS → Prop} {Kr : AV → XS → Prop}
    (hkk : ∀ v5 v6 v7 v8, nl v5 = true → nl v6 = true → nl v7 = true → nl v8 = true → Kn [vR (some 63), vR (some o), vI n, vI k, vI n, v5, v6, v7, v8] (kd, setRow I 88 100 (FM e n (k + 1) 0 0), R)) : lp_X9_ways_2 Kn Kb Kr [vR (some 63), vR (some o), vI n, vI k, vI 0, v5, v6, v7, v8] (kd, setRow I 88 100 (FM e n k 0 0), R) := by
  unfold lp_X9_ways_2
  refine forUp (lo := 0) (n := n) (fun p env st => ∃ v5 v6 v7 v8, nl v5 = true ∧ nl v6 = true ∧ nl v7 = true ∧ nl v8 = true ∧ env = [vR (some 63), vR (some o), vI n, vI k, vI (p : Int), v5, v6, v7, v8] ∧ st = (kd, setRow I 88 100 (FM e n k p 0), R)) (by omega) (by omega) ⟨v5, v6, v7, v8, h5, h6, h7, h8, rfl, rfl⟩ ?_ ?_ ?_
  · rintro p env st hp ⟨v5, v6, v7, v8, h5, h6, h7, h8, rfl, rfl⟩
    exact ⟨rfl, fun K h => ⟨_, rfl, h⟩⟩
  · rintro p env st hlo hp ⟨v5, v6, v7, v8, h5, h6, h7, h8, rfl, rfl⟩ Kx hx
    simp (disch := omega) [-Int.not_le, -Int.not_lt, ↓e_ci_p, ↓e_lv_p, ↓l_lv_p, ↓r_lv_p, ↓r_null_p, ↓e_fld_p, ↓r_fld_p, ↓e_ald_p, ↓z_ald_p, ↓r_ald_p, ↓e_len_p, ↓e_op_p, ↓e_dv_p, ↓l_op_p, ↓l_dv_p, ↓l_sh_p, ↓e_lcmp_p, ↓e_l2i_p, ↓e_min_p, ↓c_b_p, ↓c_not_p, ↓c_and_p, ↓c_or_p, ↓c_null_p, ↓c_eq_p, ↓c_ne_p, ↓c_lt_p, ↓c_ge_p, ↓c_gt_p, ↓c_le_p, ↓e_cond_p, ↓x_tern_p, ↓a_nil_p, ↓a_I_p, ↓a_L_p, ↓a_R_p, ↓e_callV_p, ↓r_callV_p, ↓e_callS_p, ↓s_skip_p, ↓s_seq_p, ↓s_st_p, ↓s_stL_p, ↓s_stR_p, ↓s_inc_p, ↓s_put_p, ↓s_putZ_p, ↓s_putR_p, ↓s_putop_p, ↓s_ast_p, ↓s_zast_p, ↓s_rast_p, ↓s_astop_p, ↓s_callV_p, ↓s_popV_p, ↓s_if_p, ↓s_ite_p, ↓s_itr_p, ↓s_brk_p, ↓s_retI_p, ↓s_retR_p, ↓s_ret_p, ↓s_sw_p, isI_s, isI_z, isL_s, isL_z, isR_s, isR_z, gI_s, gI_z, gL_z, gR_s, gR_z, gA_s, isA_s, bdo_s, arOK_s, isVI_I, isVR_R, vInt_I, vInt_L, vRef_R, lenOf_s, lnOK_s, rHd_c, isHd_c, noL_z, noL_1, noL_s, nl_I, nl_R, nl_U, stI, stR, bd_t, oA, oS, oM, oD, oR, tn_add, tn_mul, tn_nat, eqb_t, eqb_f, ltb_t, ltb_f, leb_t, leb_f, nob_s, nob_n, nat_eq, nat_lt, nat_le]
    exact X9_ways_1 F hn hk hp e h6 h7 h8 (fun v6 v7 v8 h6 h7 h8 => hx _ _ rfl rfl ⟨_, v6, v7, v8, nl_I _, h6, h7, h8, rfl, rfl⟩)
  · rintro env st ⟨v5, v6, v7, v8, h5, h6, h7, h8, rfl, rfl⟩
    have := hkk v5 v6 v7 v8 h5 h6 h7 h8
    rw [← setRow_congr (fun j _ => FM_k (e := e) (n := n) (k := k) j)] at this
    exact this
set_option maxHeartbeats 4000000 in
theorem X9_ways_3 (F : isMod kd R) {o n : Nat} (hn : n ≤ 10) (e : Nat → Int) {v4 v5 v6 v7 v8 : AV} (h4 : nl v4 = true) (h5 : nl v5 = true) (h6 : nl v6 = true) (h7 : nl v7 = true) (h8 : nl v8 = true) {Kn Kb : XE → XS → Prop} {Kr : AV → XS → Prop}
    (hkk : ∀ v4 v5 v6 v7 v8, Kn [vR (some 63), vR (some o), vI n, vI n, v4, v5, v6, v7, v8] (kd, setRow I 88 100 (FM e n n 0 0), R)) : lp_X9_ways_3 Kn Kb Kr [vR (some 63), vR (some o), vI n, vI 0, v4, v5, v6, v7, v8] (kd, setRow I 88 100 (FM e n 0 0 0), R) := by
  unfold lp_X9_ways_3
  refine forUp (lo := 0) (n := n) (fun k env st => ∃ v4 v5 v6 v7 v8, nl v4 = true ∧ nl v5 = true ∧ nl v6 = true ∧ nl v7 = true ∧ nl v8 = true ∧ env = [vR (some 63), vR (some o), vI n, vI (k : Int), v4, v5, v6, v7, v8] ∧ st = (kd, setRow I 88 100 (FM e n k 0 0), R)) (by omega) (by omega) ⟨v4, v5, v6, v7, v8, h4, h5, h6, h7, h8, rfl, rfl⟩ ?_ ?_ ?_
  · rintro p env st hp ⟨v4, v5, v6, v7, v8, h4, h5, h6, h7, h8, rfl, rfl⟩
    exact ⟨rfl, fun K h => ⟨_, rfl, h⟩⟩
  · rintro k env st hlo hk ⟨v4, v5, v6, v7, v8, h4, h5, h6, h7, h8, rfl, rfl⟩ Kx hx
    simp (disch := omega) [-Int.not_le, -Int.not_lt, ↓e_ci_p, ↓e_lv_p, ↓l_lv_p, ↓r_lv_p, ↓r_null_p, ↓e_fld_p, ↓r_fld_p, ↓e_ald_p, ↓z_ald_p, ↓r_ald_p, ↓e_len_p, ↓e_op_p, ↓e_dv_p, ↓l_op_p, ↓l_dv_p, ↓l_sh_p, ↓e_lcmp_p, ↓e_l2i_p, ↓e_min_p, ↓c_b_p, ↓c_not_p, ↓c_and_p, ↓c_or_p, ↓c_null_p, ↓c_eq_p, ↓c_ne_p, ↓c_lt_p, ↓c_ge_p, ↓c_gt_p, ↓c_le_p, ↓e_cond_p, ↓x_tern_p, ↓a_nil_p, ↓a_I_p, ↓a_L_p, ↓a_R_p, ↓e_callV_p, ↓r_callV_p, ↓e_callS_p, ↓s_skip_p, ↓s_seq_p, ↓s_st_p, ↓s_stL_p, ↓s_stR_p, ↓s_inc_p, ↓s_put_p, ↓s_putZ_p, ↓s_putR_p, ↓s_putop_p, ↓s_ast_p, ↓s_zast_p, ↓s_rast_p, ↓s_astop_p, ↓s_callV_p, ↓s_popV_p, ↓s_if_p, ↓s_ite_p, ↓s_itr_p, ↓s_brk_p, ↓s_retI_p, ↓s_retR_p, ↓s_ret_p, ↓s_sw_p, isI_s, isI_z, isL_s, isL_z, isR_s, isR_z, gI_s, gI_z, gL_z, gR_s, gR_z, gA_s, isA_s, bdo_s, arOK_s, isVI_I, isVR_R, vInt_I, vInt_L, vRef_R, lenOf_s, lnOK_s, rHd_c, isHd_c, noL_z, noL_1, noL_s, nl_I, nl_R, nl_U, stI, stR, bd_t, oA, oS, oM, oD, oR, tn_add, tn_mul, tn_nat, eqb_t, eqb_f, ltb_t, ltb_f, leb_t, leb_f, nob_s, nob_n, nat_eq, nat_lt, nat_le]
    exact X9_ways_2 F hn hk e h5 h6 h7 h8 (fun v5 v6 v7 v8 h5 h6 h7 h8 => hx _ _ rfl rfl ⟨_, v5, v6, v7, v8, nl_I _, h5, h6, h7, h8, rfl, rfl⟩)
  · rintro env st ⟨v4, v5, v6, v7, v8, h4, h5, h6, h7, h8, rfl, rfl⟩
    exact hkk v4 v5 v6 v7 v8
set_option maxHeartbeats 4000000 in
theorem X9_ways_0 (F : isMod kd R) {o : Nat} (ho : kd[o]? = some (0, 100)) (ho8 : o ≠ 88) {v2 v4 v5 v6 v7 v8 : AV} (h2 : nl v2 = true) {Kn Kb : XE → XS → Prop} {Kr : AV → XS → Prop}
    (hkk : Kn [vR (some 63), vR (some o), v2, vI 100, v4, v5, v6, v7, v8] (kd, setRow I 88 100 (fun j => enc (D0 (I o) (j / 10) (j % 10))), R)) : lp_X9_ways_0 Kn Kb Kr [vR (some 63), vR (some o), v2, vI 0, v4, v5, v6, v7, v8] (kd, I, R) := by
  unfold lp_X9_ways_0
  refine forUp (lo := 0) (n := 100) (fun k env st => env = [vR (some 63), vR (some o), v2, vI (k : Int), v4, v5, v6, v7, v8] ∧ st = (kd, setRow I 88 k (fun j => enc (D0 (I o) (j / 10) (j % 10))), R)) (by omega) (by omega) ⟨rfl, by congr 2; funext x j; simp [setRow]⟩ ?_ ?_ ?_
  · rintro p env st hp ⟨rfl, rfl⟩
    exact ⟨rfl, fun K h => h⟩
  · rintro k env st hlo hk ⟨rfl, rfl⟩ Kx hx
    have ro : setRow I 88 k (fun j => enc (D0 (I o) (j / 10) (j % 10))) o = I o := setRow_row ho8
    have fin : ∀ z, z = enc (D0 (I o) (k / 10) (k % 10)) → Kx [vR (some 63), vR (some o), v2, vI (k : Int), v4, v5, v6, v7, v8] (kd, upI (setRow I 88 k (fun j => enc (D0 (I o) (j / 10) (j % 10)))) 88 k z, R) := by
      rintro z rfl
      refine hx _ _ rfl (by simp [noL_s, noL_1, h2]) ⟨rfl, ?_⟩
      exact congrArg (fun z => (kd, z, R)) (setRow_S (f := fun j => enc (D0 (I o) (j / 10) (j % 10))))
    simp (disch := omega) [-Int.not_le, -Int.not_lt, ↓e_ci_p, ↓e_lv_p, ↓l_lv_p, ↓r_lv_p, ↓r_null_p, ↓e_fld_p, ↓r_fld_p, ↓e_ald_p, ↓z_ald_p, ↓r_ald_p, ↓e_len_p, ↓e_op_p, ↓e_dv_p, ↓l_op_p, ↓l_dv_p, ↓l_sh_p, ↓e_lcmp_p, ↓e_l2i_p, ↓e_min_p, ↓c_b_p, ↓c_not_p, ↓c_and_p, ↓c_or_p, ↓c_null_p, ↓c_eq_p, ↓c_ne_p, ↓c_lt_p, ↓c_ge_p, ↓c_gt_p, ↓c_le_p, ↓e_cond_p, ↓x_tern_p, ↓a_nil_p, ↓a_I_p, ↓a_L_p, ↓a_R_p, ↓e_callV_p, ↓r_callV_p, ↓e_callS_p, ↓s_skip_p, ↓s_seq_p, ↓s_st_p, ↓s_stL_p, ↓s_stR_p, ↓s_inc_p, ↓s_put_p, ↓s_putZ_p, ↓s_putR_p, ↓s_putop_p, ↓s_ast_p, ↓s_zast_p, ↓s_rast_p, ↓s_astop_p, ↓s_callV_p, ↓s_popV_p, ↓s_if_p, ↓s_ite_p, ↓s_itr_p, ↓s_brk_p, ↓s_retI_p, ↓s_retR_p, ↓s_ret_p, ↓s_sw_p, isI_s, isI_z, isL_s, isL_z, isR_s, isR_z, gI_s, gI_z, gL_z, gR_s, gR_z, gA_s, isA_s, bdo_s, arOK_s, isVI_I, isVR_R, vInt_I, vInt_L, vRef_R, lenOf_s, lnOK_s, rHd_c, isHd_c, noL_z, noL_1, noL_s, nl_I, nl_R, nl_U, stI, stR, bd_t, oA, oS, oM, oD, oR, tn_add, tn_mul, tn_nat, eqb_t, eqb_f, ltb_t, ltb_f, leb_t, leb_f, nob_s, nob_n, nat_eq, nat_lt, nat_le, mR_0 F, mR_1 F, mR_2 F, mR_3 F, mR_4 F, mR_5 F, mR_6 F, mR_7 F, mR_8 F, mR_9 F, mR_10 F, mR_11 F, mR_12 F, mR_13 F, mR_15 F, mR_17 F, mR_25 F, mR_26 F, mR_27 F, mR_28 F, mR_29 F, mR_30 F, mR_35 F, mR_36 F, mR_37 F, mR_38 F, mR_40 F, mR_41 F, mR_42 F, mR_43 F, mR_44 F, mR_45 F, mR_46 F, mR_47 F, mK_63 F, mK_64 F, mK_65 F, mK_66 F, mK_67 F, mK_68 F, mK_69 F, mK_70 F, mK_71 F, mK_72 F, mK_73 F, mK_74 F, mK_75 F, mK_76 F, mK_77 F, mK_78 F, mK_79 F, mK_80 F, mK_81 F, mK_82 F, mK_83 F, mK_84 F, mK_85 F, mK_86 F, mK_87 F, mK_88 F, mK_89 F, mK_90 F, mK_91 F, mK_92 F, mK_93 F, mK_94 F, mK_95 F, mK_96 F, mK_97 F, h2, ho, ro]
    have e10 : 10 * (k / 10) + k % 10 = k := by omega
    repeat' split
    all_goals exact fin _ (by simp only [D0, e10, enc]; repeat' split; all_goals omega)
  · rintro env st ⟨rfl, rfl⟩
    exact hkk
/-- the ways by the row e of n parts, as the reference lays them -/
def farR (e : Nat → Int) (n : Nat) : Nat → Int := FM e n n 0 0
theorem farR_at {e : Nat → Int} {n p q : Nat} (hp : p < n) (hq : q < n) (hn : n ≤ 10) : farR e n (10 * p + q) = enc (DD e n p q) := by
  have h1 : (10 * p + q) / 10 = p := by omega
  have h2 : (10 * p + q) % 10 = q := by omega
  rw [farR, FM, h1, h2, if_pos ⟨hp, hq⟩, if_neg (by omega)]
set_option maxHeartbeats 4000000 in
theorem X9_ways_ok (F : isMod kd R) {o n : Nat} (hn : n ≤ 10) (h64 : I 64 0 = (n : Int)) (ho : kd[o]? = some (0, 100)) (ho8 : o ≠ 88) (hk : K vU (kd, setRow I 88 100 (farR (I o) n), R)) : B_X9_ways [vR (some 63), vR (some o)] (kd, I, R) K := by
  simp [B_X9_ways, bodyOf, envOf, exA, catV, rkOK]
  simp (disch := omega) [t_X9_ways, -Int.not_le, -Int.not_lt, ↓e_ci_p, ↓e_lv_p, ↓l_lv_p, ↓r_lv_p, ↓r_null_p, ↓e_fld_p, ↓r_fld_p, ↓e_ald_p, ↓z_ald_p, ↓r_ald_p, ↓e_len_p, ↓e_op_p, ↓e_dv_p, ↓l_op_p, ↓l_dv_p, ↓l_sh_p, ↓e_lcmp_p, ↓e_l2i_p, ↓e_min_p, ↓c_b_p, ↓c_not_p, ↓c_and_p, ↓c_or_p, ↓c_null_p, ↓c_eq_p, ↓c_ne_p, ↓c_lt_p, ↓c_ge_p, ↓c_gt_p, ↓c_le_p, ↓e_cond_p, ↓x_tern_p, ↓a_nil_p, ↓a_I_p, ↓a_L_p, ↓a_R_p, ↓e_callV_p, ↓r_callV_p, ↓e_callS_p, ↓s_skip_p, ↓s_seq_p, ↓s_st_p, ↓s_stL_p, ↓s_stR_p, ↓s_inc_p, ↓s_put_p, ↓s_putZ_p, ↓s_putR_p, ↓s_putop_p, ↓s_ast_p, ↓s_zast_p, ↓s_rast_p, ↓s_astop_p, ↓s_callV_p, ↓s_popV_p, ↓s_if_p, ↓s_ite_p, ↓s_itr_p, ↓s_brk_p, ↓s_retI_p, ↓s_retR_p, ↓s_ret_p, ↓s_sw_p, isI_s, isI_z, isL_s, isL_z, isR_s, isR_z, gI_s, gI_z, gL_z, gR_s, gR_z, gA_s, isA_s, bdo_s, arOK_s, isVI_I, isVR_R, vInt_I, vInt_L, vRef_R, lenOf_s, lnOK_s, rHd_c, isHd_c, noL_z, noL_1, noL_s, nl_I, nl_R, nl_U, stI, stR, bd_t, oA, oS, oM, oD, oR, tn_add, tn_mul, tn_nat, eqb_t, eqb_f, ltb_t, ltb_f, leb_t, leb_f, nob_s, nob_n, nat_eq, nat_lt, nat_le, mR_0 F, mR_1 F, mR_2 F, mR_3 F, mR_4 F, mR_5 F, mR_6 F, mR_7 F, mR_8 F, mR_9 F, mR_10 F, mR_11 F, mR_12 F, mR_13 F, mR_15 F, mR_17 F, mR_25 F, mR_26 F, mR_27 F, mR_28 F, mR_29 F, mR_30 F, mR_35 F, mR_36 F, mR_37 F, mR_38 F, mR_40 F, mR_41 F, mR_42 F, mR_43 F, mR_44 F, mR_45 F, mR_46 F, mR_47 F, mK_63 F, mK_64 F, mK_65 F, mK_66 F, mK_67 F, mK_68 F, mK_69 F, mK_70 F, mK_71 F, mK_72 F, mK_73 F, mK_74 F, mK_75 F, mK_76 F, mK_77 F, mK_78 F, mK_79 F, mK_80 F, mK_81 F, mK_82 F, mK_83 F, mK_84 F, mK_85 F, mK_86 F, mK_87 F, mK_88 F, mK_89 F, mK_90 F, mK_91 F, mK_92 F, mK_93 F, mK_94 F, mK_95 F, mK_96 F, mK_97 F, h64]
  refine X9_ways_0 F ho ho8 rfl ?_
  simp (disch := omega) [-Int.not_le, -Int.not_lt, ↓e_ci_p, ↓e_lv_p, ↓l_lv_p, ↓r_lv_p, ↓r_null_p, ↓e_fld_p, ↓r_fld_p, ↓e_ald_p, ↓z_ald_p, ↓r_ald_p, ↓e_len_p, ↓e_op_p, ↓e_dv_p, ↓l_op_p, ↓l_dv_p, ↓l_sh_p, ↓e_lcmp_p, ↓e_l2i_p, ↓e_min_p, ↓c_b_p, ↓c_not_p, ↓c_and_p, ↓c_or_p, ↓c_null_p, ↓c_eq_p, ↓c_ne_p, ↓c_lt_p, ↓c_ge_p, ↓c_gt_p, ↓c_le_p, ↓e_cond_p, ↓x_tern_p, ↓a_nil_p, ↓a_I_p, ↓a_L_p, ↓a_R_p, ↓e_callV_p, ↓r_callV_p, ↓e_callS_p, ↓s_skip_p, ↓s_seq_p, ↓s_st_p, ↓s_stL_p, ↓s_stR_p, ↓s_inc_p, ↓s_put_p, ↓s_putZ_p, ↓s_putR_p, ↓s_putop_p, ↓s_ast_p, ↓s_zast_p, ↓s_rast_p, ↓s_astop_p, ↓s_callV_p, ↓s_popV_p, ↓s_if_p, ↓s_ite_p, ↓s_itr_p, ↓s_brk_p, ↓s_retI_p, ↓s_retR_p, ↓s_ret_p, ↓s_sw_p, isI_s, isI_z, isL_s, isL_z, isR_s, isR_z, gI_s, gI_z, gL_z, gR_s, gR_z, gA_s, isA_s, bdo_s, arOK_s, isVI_I, isVR_R, vInt_I, vInt_L, vRef_R, lenOf_s, lnOK_s, rHd_c, isHd_c, noL_z, noL_1, noL_s, nl_I, nl_R, nl_U, stI, stR, bd_t, oA, oS, oM, oD, oR, tn_add, tn_mul, tn_nat, eqb_t, eqb_f, ltb_t, ltb_f, leb_t, leb_f, nob_s, nob_n, nat_eq, nat_lt, nat_le, mR_0 F, mR_1 F, mR_2 F, mR_3 F, mR_4 F, mR_5 F, mR_6 F, mR_7 F, mR_8 F, mR_9 F, mR_10 F, mR_11 F, mR_12 F, mR_13 F, mR_15 F, mR_17 F, mR_25 F, mR_26 F, mR_27 F, mR_28 F, mR_29 F, mR_30 F, mR_35 F, mR_36 F, mR_37 F, mR_38 F, mR_40 F, mR_41 F, mR_42 F, mR_43 F, mR_44 F, mR_45 F, mR_46 F, mR_47 F, mK_63 F, mK_64 F, mK_65 F, mK_66 F, mK_67 F, mK_68 F, mK_69 F, mK_70 F, mK_71 F, mK_72 F, mK_73 F, mK_74 F, mK_75 F, mK_76 F, mK_77 F, mK_78 F, mK_79 F, mK_80 F, mK_81 F, mK_82 F, mK_83 F, mK_84 F, mK_85 F, mK_86 F, mK_87 F, mK_88 F, mK_89 F, mK_90 F, mK_91 F, mK_92 F, mK_93 F, mK_94 F, mK_95 F, mK_96 F, mK_97 F]
  have e0 : setRow I 88 100 (fun j => enc (D0 (I o) (j / 10) (j % 10))) = setRow I 88 100 (FM (I o) n 0 0 0) := setRow_congr fun j _ => by simp [FM, DD]
  rw [e0]
  exact X9_ways_3 F hn (I o) rfl rfl rfl rfl rfl (fun v4 v5 v6 v7 v8 => hk)
end MW
