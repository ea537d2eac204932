/-! the reference's slots -/
def wd (x : Nat) : Nat := if x = 64 ∨ x = 65 ∨ x = 66 ∨ x = 67 then 1 else if x = 68 ∨ x = 69 ∨ x = 77 then 20 else if x = 70 ∨ x = 71 then 200 else if x = 72 then 10 else if x = 73 ∨ x = 74 then 8 else if x = 75 then 48 else if x = 76 then 100 else 0
def cpS (I : Nat → Nat → Int) (a b : Nat) : Nat → Nat → Int := fun x j => if wd x * b ≤ j ∧ j < wd x * b + wd x then I x (wd x * a + (j - wd x * b)) else I x j
/-- slot s holds G -/
def SG (I : Nat → Nat → Int) (s : Nat) (G : Nat → Nat → Int) : Prop := ∀ x k, k < wd x → I x (wd x * s + k) = G x k
def Z77 (I : Nat → Nat → Int) : Prop := ∀ j, I 77 j = 0 ∨ I 77 j = 1
theorem cpS_row {I : Nat → Nat → Int} {a b x : Nat} (h : wd x = 0) : cpS I a b x = I x := by
  funext j
  rw [cpS, if_neg (by rw [h]; omega)]
theorem cpS_at {I : Nat → Nat → Int} {a b x k : Nat} (h : k < wd x) : cpS I a b x (wd x * b + k) = I x (wd x * a + k) := by
  rw [cpS, if_pos ⟨by omega, by omega⟩]
  congr 1
  omega
theorem cpS_ne {I : Nat → Nat → Int} {a b s x k : Nat} (hs : s ≠ b) (h : k < wd x) : cpS I a b x (wd x * s + k) = I x (wd x * s + k) := by
  rw [cpS, if_neg]
  rintro ⟨h1, h2⟩
  rcases Nat.lt_or_ge s b with h3 | h3
  · have := Nat.mul_le_mul_left (wd x) h3
    rw [Nat.mul_succ] at this
    omega
  · have h4 : b + 1 ≤ s := by omega
    have := Nat.mul_le_mul_left (wd x) h4
    rw [Nat.mul_succ] at this
    omega
theorem SG_cp {I G : Nat → Nat → Int} {a b s : Nat} : SG (cpS I a b) s G ↔ SG I (if s = b then a else s) G := by
  by_cases h : s = b
  · subst h
    simp only [if_true, SG]
    exact ⟨fun q x k hk => by rw [← cpS_at (I := I) (b := s) hk]; exact q x k hk, fun q x k hk => by rw [cpS_at hk]; exact q x k hk⟩
  · simp only [if_neg h, SG]
    exact ⟨fun q x k hk => by rw [← cpS_ne (I := I) (a := a) h hk]; exact q x k hk, fun q x k hk => by rw [cpS_ne h hk]; exact q x k hk⟩
theorem Z77_cp {I : Nat → Nat → Int} {a b : Nat} (h : Z77 I) : Z77 (cpS I a b) := by
  intro j
  unfold cpS
  split
  · exact h _
  · exact h _
section MH
variable {kd : List (Nat × Nat)} {R : Nat → Nat → Option Nat} {I : Nat → Nat → Int} {K : AV → XS → Prop}
set_option maxHeartbeats 4000000 in
theorem X9_copies_ok (F : isMod kd R) {a b : Nat} (ha : a < 22) (hb : b < 22) (hz : Z77 I) (hk : K vU (kd, cpS I a b, R)) : B_X9_copies [vR (some 63), vI a, vI b] (kd, I, R) K := by
  simp [B_X9_copies, t_X9_copies, -Int.not_le, -Int.not_lt, bodyOf, envOf, exA, catV, rkOK, e_ci, e_lv, l_lv, r_lv, r_null, e_fld, r_fld, e_ald, z_ald, r_ald, e_len, e_op, e_dv, l_op, l_dv, l_sh, e_lcmp, e_l2i, e_min, c_b, c_not, c_and, c_or, c_null, c_eq, c_ne, c_lt, c_ge, c_gt, c_le, e_cond, x_tern, a_nil, a_I, a_L, a_R, g_callV, e_callV, r_callV, e_callS, s_skip, s_seq, s_st, s_stL, s_stR, s_inc, s_put, s_putZ, s_putR, s_putop, s_ast, s_zast, s_rast, s_astop, s_callV, s_popV, s_if, s_ite, s_itr, s_brk, s_retI, s_retR, s_ret, s_sw, noL, stI, stR, mR_0 F, mR_1 F, mR_2 F, mR_3 F, mR_4 F, mR_5 F, mR_6 F, mR_7 F, mR_8 F, mR_9 F, mR_10 F, mR_11 F, mR_12 F, mR_13 F, mR_15 F, mR_17 F, mR_25 F, mR_26 F, mR_27 F, mR_28 F, mR_29 F, mR_30 F, mR_35 F, mR_36 F, mR_37 F, mR_38 F, mR_40 F, mR_41 F, mR_42 F, mR_43 F, mR_44 F, mR_45 F, mR_46 F, mR_47 F, mK_63 F, mK_64 F, mK_65 F, mK_66 F, mK_67 F, mK_68 F, mK_69 F, mK_70 F, mK_71 F, mK_72 F, mK_73 F, mK_74 F, mK_75 F, mK_76 F, mK_77 F, mK_78 F, mK_79 F, mK_80 F, mK_81 F, mK_82 F, mK_83 F, mK_84 F, mK_85 F, mK_86 F, mK_87 F, mK_88 F, mK_89 F, mK_90 F, mK_91 F, mK_92 F, mK_93 F, mK_94 F, mK_95 F, mK_96 F, mK_97 F, ha, hb, upI]
  refine X9_copies_0 F ha hb (fun j => by simpa [upI] using hz j) ?_
  refine ⟨Nat.le_of_ble_eq_true rfl, rfl, X9_copies_1 F ha hb ?_⟩
  refine ⟨Nat.le_of_ble_eq_true rfl, rfl, X9_copies_2 F ha hb ?_⟩
  refine ⟨Nat.le_of_ble_eq_true rfl, rfl, X9_copies_3 F ha hb ?_⟩
  refine ⟨Nat.le_of_ble_eq_true rfl, rfl, X9_copies_4 F ha hb ?_⟩
  refine ⟨Nat.le_of_ble_eq_true rfl, rfl, X9_copies_5 F ha hb ?_⟩
  have e : ∀ J J' : Nat → Nat → Int, J = J' → K vU (kd, J', R) → K vU (kd, J, R) := fun J J' h q => by rw [h]; exact q
  refine e _ _ ?_ hk
  funext x j
  by_cases h4 : x = 64 ∨ x = 65 ∨ x = 66 ∨ x = 67
  · rcases h4 with rfl | rfl | rfl | rfl <;> simp [bcp, cpS, wd, upI] <;> split <;> first | rfl | omega | (split <;> first | rfl | omega | (congr 1; omega)) | (congr 1; omega)
  · by_cases h5 : x = 68 ∨ x = 69 ∨ x = 77 ∨ x = 70 ∨ x = 71 ∨ x = 72 ∨ x = 73 ∨ x = 74 ∨ x = 75 ∨ x = 76
    · rcases h5 with rfl | rfl | rfl | rfl | rfl | rfl | rfl | rfl | rfl | rfl <;> simp [bcp, cpS, wd, upI]
    · have h6 : wd x = 0 := by unfold wd; repeat rw [if_neg (by omega)]
      rw [cpS_row h6]
      have h7 : ¬ x = 68 ∧ ¬ x = 69 ∧ ¬ x = 77 ∧ ¬ x = 70 ∧ ¬ x = 71 ∧ ¬ x = 72 ∧ ¬ x = 73 ∧ ¬ x = 74 ∧ ¬ x = 75 ∧ ¬ x = 76 := by omega
      have h8 : ¬ x = 64 ∧ ¬ x = 65 ∧ ¬ x = 66 ∧ ¬ x = 67 := by omega
      simp [bcp, upI, h7, h8]
/-- slots 1 .. m hold what stood one further -/
def shS (I : Nat → Nat → Int) : Nat → Nat → Nat → Int
  | 0 => I
  | m + 1 => cpS (shS I m) (m + 2) (m + 1)
theorem shS_row {x m : Nat} (h : wd x = 0) : shS I m x = I x := by
  induction m with
  | zero => rfl
  | succ m ih => rw [shS, cpS_row h, ih]
theorem Z77_sh {m : Nat} (h : Z77 I) : Z77 (shS I m) := by
  induction m with
  | zero => exact h
  | succ m ih => exact Z77_cp ih
theorem SG_sh {G : Nat → Nat → Int} {m : Nat} : ∀ s, SG (shS I m) s G ↔ SG I (if 1 ≤ s ∧ s ≤ m then s + 1 else s) G := by
  induction m with
  | zero => intro s; rw [if_neg (by omega)]; rfl
  | succ m ih =>
    intro s
    rw [shS, SG_cp, ih]
    by_cases h1 : s = m + 1
    · subst h1
      rw [if_pos rfl, if_neg (by omega), if_pos (by omega)]
    · rw [if_neg h1]
      by_cases h2 : 1 ≤ s ∧ s ≤ m
      · rw [if_pos h2, if_pos (by omega)]
      · rw [if_neg h2, if_neg (by omega)]
set_option maxHeartbeats 2000000 in
theorem X9_changed_0 (F : isMod kd R) (hz : Z77 I) {Kn Kb : XE → XS → Prop} {Kr : AV → XS → Prop} (hk : Kn [vR (some 63), vI 20] (kd, shS I 19, R)) : lp_X9_changed_0 Kn Kb Kr [vR (some 63), vI 1] (kd, I, R) := by
  unfold lp_X9_changed_0
  refine forUp (lo := 1) (n := 20) (fun k env st => env = [vR (some 63), vI (k : Int)] ∧ st = (kd, shS I (k - 1), R)) (by decide) (by decide) ⟨rfl, rfl⟩ ?_ ?_ ?_
  · rintro k env st hk ⟨rfl, rfl⟩
    exact ⟨rfl, fun K h => h⟩
  · rintro k env st hlo hkn ⟨rfl, rfl⟩ Kx hx
    have e1 : o2 f_iadd (k : Int) 1 = ((k + 1 : Nat) : Int) := by rw [oA (by omega) (by omega)]; omega
    simp only [bodyOf, envOf, exA, catV, rkOK, e_ci, e_lv, l_lv, r_lv, r_null, e_fld, r_fld, e_ald, z_ald, r_ald, e_len, e_op, e_dv, l_op, l_dv, l_sh, e_lcmp, e_l2i, e_min, c_b, c_not, c_and, c_or, c_null, c_eq, c_ne, c_lt, c_ge, c_gt, c_le, e_cond, x_tern, a_nil, a_I, a_L, a_R, g_callV, e_callV, r_callV, e_callS, s_skip, s_seq, s_st, s_stL, s_stR, s_inc, s_put, s_putZ, s_putR, s_putop, s_ast, s_zast, s_rast, s_astop, s_callV, s_popV, s_if, s_ite, s_itr, s_brk, s_retI, s_retR, s_ret, s_sw, noL, stI, stR, List.getElem?_cons_zero, List.getElem?_cons_succ, Option.some.injEq, Sum.inl.injEq, Sum.inr.injEq, exists_eq_left', e1]
    refine ⟨63, _, rfl, mK_63 F, X9_copies_ok F (by omega) (by omega) (Z77_sh hz) ⟨rfl, hx _ _ rfl rfl ⟨rfl, ?_⟩⟩⟩
    obtain ⟨j, rfl⟩ : ∃ j, k = j + 1 := ⟨k - 1, by omega⟩
    rfl
  · rintro env st ⟨rfl, rfl⟩
    exact hk
/-- how many are kept behind a change -/
def nKept (kp : Nat) : Nat := if kp = 20 then 20 else kp + 1
theorem SG_up {G : Nat → Nat → Int} {J : Nat → Nat → Int} {s x k : Nat} {v : Int} (h : wd x = 0) : SG (upI J x k v) s G ↔ SG J s G := by
  have e : ∀ y j, wd y ≠ 0 → upI J x k v y j = J y j := by
    intro y j hy
    rw [upI, if_neg]
    rintro ⟨rfl, -⟩
    exact hy h
  exact ⟨fun q y j hj => by rw [← e y _ (by omega)]; exact q y j hj, fun q y j hj => by rw [e y _ (by omega)]; exact q y j hj⟩
theorem upI_row {J : Nat → Nat → Int} {x y k : Nat} {v : Int} (h : y ≠ x) : upI J x k v y = J y := by
  funext j
  rw [upI, if_neg (fun q => h q.1)]
/-- what a kept change leaves -/
def Chg (I I' : Nat → Nat → Int) (kp : Nat) : Prop := (∀ x, wd x = 0 → x ≠ 63 → I' x = I x) ∧ (∀ k, k ≠ 14 → I' 63 k = I 63 k) ∧ I' 63 14 = (nKept kp : Nat) ∧ Z77 I' ∧ (∀ G, SG I 0 G → SG I' 0 G) ∧ (∀ s G, 1 ≤ s → s < nKept kp → SG I (if kp = 20 then s + 1 else s) G → SG I' s G) ∧ ∀ G, SG I 21 G → SG I' (nKept kp) G
set_option maxHeartbeats 2000000 in
theorem X9_changed_ok (F : isMod kd R) (hz : Z77 I) {kp : Nat} (hkp : I 63 14 = (kp : Int)) (hkl : kp ≤ 20) (hk : ∀ I', Chg I I' kp → K vU (kd, I', R)) : B_X9_changed [vR (some 63)] (kd, I, R) K := by
  have e1 : o2 f_iadd (kp : Int) 1 = ((kp + 1 : Nat) : Int) := by rw [oA (by omega) (by omega)]; omega
  have w63 : wd 63 = 0 := rfl
  by_cases h20 : kp = 20
  · subst h20
    have e2 : o2 f_isub 20 1 = 19 := by rw [oS (by decide) (by decide)]; rfl
    have e3 : o2 f_iadd 19 1 = 20 := by rw [oA (by decide) (by decide)]; rfl
    have hkp : I 63 14 = 20 := hkp
    simp [B_X9_changed, t_X9_changed, -Int.not_le, -Int.not_lt, bodyOf, envOf, exA, catV, rkOK, e_ci, e_lv, l_lv, r_lv, r_null, e_fld, r_fld, e_ald, z_ald, r_ald, e_len, e_op, e_dv, l_op, l_dv, l_sh, e_lcmp, e_l2i, e_min, c_b, c_not, c_and, c_or, c_null, c_eq, c_ne, c_lt, c_ge, c_gt, c_le, e_cond, x_tern, a_nil, a_I, a_L, a_R, g_callV, e_callV, r_callV, e_callS, s_skip, s_seq, s_st, s_stL, s_stR, s_inc, s_put, s_putZ, s_putR, s_putop, s_ast, s_zast, s_rast, s_astop, s_callV, s_popV, s_if, s_ite, s_itr, s_brk, s_retI, s_retR, s_ret, s_sw, noL, stI, stR, mR_0 F, mR_1 F, mR_2 F, mR_3 F, mR_4 F, mR_5 F, mR_6 F, mR_7 F, mR_8 F, mR_9 F, mR_10 F, mR_11 F, mR_12 F, mR_13 F, mR_15 F, mR_17 F, mR_25 F, mR_26 F, mR_27 F, mR_28 F, mR_29 F, mR_30 F, mR_35 F, mR_36 F, mR_37 F, mR_38 F, mR_40 F, mR_41 F, mR_42 F, mR_43 F, mR_44 F, mR_45 F, mR_46 F, mR_47 F, mK_63 F, mK_64 F, mK_65 F, mK_66 F, mK_67 F, mK_68 F, mK_69 F, mK_70 F, mK_71 F, mK_72 F, mK_73 F, mK_74 F, mK_75 F, mK_76 F, mK_77 F, mK_78 F, mK_79 F, mK_80 F, mK_81 F, mK_82 F, mK_83 F, mK_84 F, mK_85 F, mK_86 F, mK_87 F, mK_88 F, mK_89 F, mK_90 F, mK_91 F, mK_92 F, mK_93 F, mK_94 F, mK_95 F, mK_96 F, mK_97 F, hkp]
    refine X9_changed_0 F hz ?_
    have h14 : shS I 19 63 14 = 20 := by rw [shS_row w63]; exact hkp
    simp [-Int.not_le, -Int.not_lt, bodyOf, envOf, exA, catV, rkOK, e_ci, e_lv, l_lv, r_lv, r_null, e_fld, r_fld, e_ald, z_ald, r_ald, e_len, e_op, e_dv, l_op, l_dv, l_sh, e_lcmp, e_l2i, e_min, c_b, c_not, c_and, c_or, c_null, c_eq, c_ne, c_lt, c_ge, c_gt, c_le, e_cond, x_tern, a_nil, a_I, a_L, a_R, g_callV, e_callV, r_callV, e_callS, s_skip, s_seq, s_st, s_stL, s_stR, s_inc, s_put, s_putZ, s_putR, s_putop, s_ast, s_zast, s_rast, s_astop, s_callV, s_popV, s_if, s_ite, s_itr, s_brk, s_retI, s_retR, s_ret, s_sw, noL, stI, stR, mR_0 F, mR_1 F, mR_2 F, mR_3 F, mR_4 F, mR_5 F, mR_6 F, mR_7 F, mR_8 F, mR_9 F, mR_10 F, mR_11 F, mR_12 F, mR_13 F, mR_15 F, mR_17 F, mR_25 F, mR_26 F, mR_27 F, mR_28 F, mR_29 F, mR_30 F, mR_35 F, mR_36 F, mR_37 F, mR_38 F, mR_40 F, mR_41 F, mR_42 F, mR_43 F, mR_44 F, mR_45 F, mR_46 F, mR_47 F, mK_63 F, mK_64 F, mK_65 F, mK_66 F, mK_67 F, mK_68 F, mK_69 F, mK_70 F, mK_71 F, mK_72 F, mK_73 F, mK_74 F, mK_75 F, mK_76 F, mK_77 F, mK_78 F, mK_79 F, mK_80 F, mK_81 F, mK_82 F, mK_83 F, mK_84 F, mK_85 F, mK_86 F, mK_87 F, mK_88 F, mK_89 F, mK_90 F, mK_91 F, mK_92 F, mK_93 F, mK_94 F, mK_95 F, mK_96 F, mK_97 F, h14, e2, e3, upI]
    refine X9_copies_ok F (a := 21) (b := 20) (by decide) (by decide) ?_ ?_
    · intro j; exact Z77_sh hz j
    · refine ⟨rfl, hk _ ⟨fun x h1 h2 => ?_, fun k h1 => ?_, ?_, ?_, fun G h => ?_, fun s G h1 h2 h => ?_, fun G h => ?_⟩⟩
      · rw [cpS_row h1, upI_row h2, upI_row h2, shS_row h1]
      · rw [cpS_row w63]; simp [upI, h1, shS_row w63]
      · rw [cpS_row w63]; simp [upI, nKept]
      · exact Z77_cp (fun j => Z77_sh hz j)
      · rw [SG_cp, if_neg (by decide), SG_up w63, SG_up w63, SG_sh, if_neg (by decide)]; exact h
      · rw [SG_cp, if_neg (by simp [nKept] at h2; omega), SG_up w63, SG_up w63, SG_sh, if_pos (by simp [nKept] at h2; omega)]; exact h
      · rw [show nKept 20 = 20 from rfl, SG_cp, if_pos rfl, SG_up w63, SG_up w63, SG_sh, if_neg (by decide)]; exact h
  · have hne : ¬ ((kp : Int) = 20) := by omega
    simp [B_X9_changed, t_X9_changed, -Int.not_le, -Int.not_lt, bodyOf, envOf, exA, catV, rkOK, e_ci, e_lv, l_lv, r_lv, r_null, e_fld, r_fld, e_ald, z_ald, r_ald, e_len, e_op, e_dv, l_op, l_dv, l_sh, e_lcmp, e_l2i, e_min, c_b, c_not, c_and, c_or, c_null, c_eq, c_ne, c_lt, c_ge, c_gt, c_le, e_cond, x_tern, a_nil, a_I, a_L, a_R, g_callV, e_callV, r_callV, e_callS, s_skip, s_seq, s_st, s_stL, s_stR, s_inc, s_put, s_putZ, s_putR, s_putop, s_ast, s_zast, s_rast, s_astop, s_callV, s_popV, s_if, s_ite, s_itr, s_brk, s_retI, s_retR, s_ret, s_sw, noL, stI, stR, mR_0 F, mR_1 F, mR_2 F, mR_3 F, mR_4 F, mR_5 F, mR_6 F, mR_7 F, mR_8 F, mR_9 F, mR_10 F, mR_11 F, mR_12 F, mR_13 F, mR_15 F, mR_17 F, mR_25 F, mR_26 F, mR_27 F, mR_28 F, mR_29 F, mR_30 F, mR_35 F, mR_36 F, mR_37 F, mR_38 F, mR_40 F, mR_41 F, mR_42 F, mR_43 F, mR_44 F, mR_45 F, mR_46 F, mR_47 F, mK_63 F, mK_64 F, mK_65 F, mK_66 F, mK_67 F, mK_68 F, mK_69 F, mK_70 F, mK_71 F, mK_72 F, mK_73 F, mK_74 F, mK_75 F, mK_76 F, mK_77 F, mK_78 F, mK_79 F, mK_80 F, mK_81 F, mK_82 F, mK_83 F, mK_84 F, mK_85 F, mK_86 F, mK_87 F, mK_88 F, mK_89 F, mK_90 F, mK_91 F, mK_92 F, mK_93 F, mK_94 F, mK_95 F, mK_96 F, mK_97 F, hkp, e1, upI, hne]
    refine X9_copies_ok F (a := 21) (b := kp + 1) (by decide) (by omega) (fun j => hz j) ?_
    refine ⟨rfl, hk _ ⟨fun x h1 h2 => ?_, fun k h1 => ?_, ?_, ?_, fun G h => ?_, fun s G h1 h2 h => ?_, fun G h => ?_⟩⟩
    · rw [cpS_row h1, upI_row h2]
    · rw [cpS_row w63]; simp [upI, h1]
    · rw [cpS_row w63]; simp [upI, nKept, h20]
    · exact Z77_cp (fun j => hz j)
    · rw [SG_cp, if_neg (by omega), SG_up w63]; exact h
    · rw [SG_cp, if_neg (by simp [nKept, h20] at h2; omega), SG_up w63]; rw [if_neg h20] at h; exact h
    · rw [show nKept kp = kp + 1 from if_neg h20, SG_cp, if_pos rfl, SG_up w63]; exact h
end MH
