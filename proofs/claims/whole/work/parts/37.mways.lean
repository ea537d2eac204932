/-! the reference's ways -/
def D0 (e : Nat → Int) (p q : Nat) : Int := if p = q then 0 else if 0 < e (10 * p + q) then 1 else 1000000
def mi (c s : Int) : Int := if s < c then s else c
def DD (e : Nat → Int) : Nat → Nat → Nat → Int
  | 0 => D0 e
  | k + 1 => fun p q => mi (DD e k p q) (DD e k p k + DD e k k q)
def enc (d : Int) : Int := if d < 1000000 then d else -1
theorem DD_rng (e : Nat → Int) (k : Nat) : ∀ p q, 0 ≤ DD e k p q ∧ DD e k p q ≤ 1000000 ∧ (DD e k p q < 1000000 → DD e k p q ≤ 2 ^ k) := by
  induction k with
  | zero =>
    intro p q
    show 0 ≤ D0 e p q ∧ D0 e p q ≤ 1000000 ∧ (D0 e p q < 1000000 → D0 e p q ≤ 2 ^ 0)
    unfold D0
    repeat' split
    all_goals simp
  | succ k ih =>
    intro p q
    have h1 := ih p q
    have h2 := ih p k
    have h3 := ih k q
    have e2 : (2 : Int) ^ (k + 1) = 2 * 2 ^ k := by rw [Int.pow_succ]; omega
    rw [e2]
    show 0 ≤ mi _ _ ∧ mi _ _ ≤ _ ∧ (mi _ _ < _ → mi _ _ ≤ _)
    unfold mi
    split <;> omega
theorem DD_self (e : Nat → Int) (k p : Nat) : DD e k p p = 0 := by
  induction k with
  | zero => simp [DD, D0]
  | succ k ih =>
    have h1 := (DD_rng e k p k).1
    have h2 := (DD_rng e k k p).1
    show mi _ _ = 0
    unfold mi
    split <;> omega
theorem DD_col (e : Nat → Int) (k p : Nat) : DD e (k + 1) p k = DD e k p k := by
  show mi _ _ = _
  rw [DD_self]
  unfold mi
  split <;> omega
theorem DD_row (e : Nat → Int) (k q : Nat) : DD e (k + 1) k q = DD e k k q := by
  show mi _ _ = _
  rw [DD_self]
  unfold mi
  split <;> omega
/-- the reference's row far while k, p, q stand so -/
def FM (e : Nat → Int) (n k p q : Nat) : Nat → Int := fun j => if j / 10 < n ∧ j % 10 < n then (if j / 10 < p ∨ (j / 10 = p ∧ j % 10 < q) then enc (DD e (k + 1) (j / 10) (j % 10)) else enc (DD e k (j / 10) (j % 10))) else enc (D0 e (j / 10) (j % 10))
def setRow (I : Nat → Nat → Int) (y n : Nat) (f : Nat → Int) : Nat → Nat → Int := fun x j => if x = y ∧ j < n then f j else I x j
theorem setRow_row {I : Nat → Nat → Int} {y n x : Nat} {f : Nat → Int} (h : x ≠ y) : setRow I y n f x = I x := by
  funext j
  rw [setRow, if_neg (fun q => h q.1)]
theorem setRow_at {I : Nat → Nat → Int} {y n j : Nat} {f : Nat → Int} (h : j < n) : setRow I y n f y j = f j := by rw [setRow, if_pos ⟨rfl, h⟩]
theorem setRow_congr {I : Nat → Nat → Int} {y n : Nat} {f g : Nat → Int} (h : ∀ j, j < n → f j = g j) : setRow I y n f = setRow I y n g := by
  funext x j
  unfold setRow
  split
  · rename_i q; exact h j q.2
  · rfl
section MW
variable {kd : List (Nat × Nat)} {R : Nat → Nat → Option Nat} {I : Nat → Nat → Int} {K : AV → XS → Prop}
theorem FM_r {e : Nat → Int} {n k p q : Nat} (hp : p < n) (hk : k < n) (hn : n ≤ 10) : FM e n k p q (10 * p + k) = enc (DD e k p k) := by
  have h1 : (10 * p + k) / 10 = p := by omega
  have h2 : (10 * p + k) % 10 = k := by omega
  rw [FM, h1, h2, if_pos ⟨hp, hk⟩, DD_col]
  split <;> rfl
theorem FM_c {e : Nat → Int} {n k p q : Nat} (hq : q < n) (hk : k < n) (hn : n ≤ 10) : FM e n k p q (10 * k + q) = enc (DD e k k q) := by
  have h1 : (10 * k + q) / 10 = k := by omega
  have h2 : (10 * k + q) % 10 = q := by omega
  rw [FM, h1, h2, if_pos ⟨hk, hq⟩, DD_row]
  split <;> rfl
theorem FM_h {e : Nat → Int} {n k p q : Nat} (hq : q < n) (hp : p < n) (hn : n ≤ 10) : FM e n k p q (10 * p + q) = enc (DD e k p q) := by
  have h1 : (10 * p + q) / 10 = p := by omega
  have h2 : (10 * p + q) % 10 = q := by omega
  rw [FM, h1, h2, if_pos ⟨hp, hq⟩, if_neg (by omega)]
theorem FM_s {e : Nat → Int} {n k p q : Nat} (hq : q < n) (hp : p < n) (hn : n ≤ 10) : ∀ j, j < 100 → (if j = 10 * p + q then enc (DD e (k + 1) p q) else FM e n k p q j) = FM e n k p (q + 1) j := by
  intro j hj
  by_cases h : j = 10 * p + q
  · have h1 : (10 * p + q) / 10 = p := by omega
    have h2 : (10 * p + q) % 10 = q := by omega
    subst h
    rw [if_pos rfl, FM, h1, h2, if_pos ⟨hp, hq⟩, if_pos (by omega)]
  · rw [if_neg h]
    unfold FM
    split
    · rename_i hh
      by_cases h3 : j / 10 < p ∨ j / 10 = p ∧ j % 10 < q
      · rw [if_pos h3, if_pos (by omega)]
      · rw [if_neg h3, if_neg (by omega)]
    · rfl
theorem FM_e {e : Nat → Int} {n k p : Nat} : ∀ j, FM e n k p n j = FM e n k (p + 1) 0 j := by
  intro j
  unfold FM
  split
  · rename_i hh
    by_cases h3 : j / 10 < p ∨ j / 10 = p ∧ j % 10 < n
    · rw [if_pos h3, if_pos (by omega)]
    · rw [if_neg h3, if_neg (by omega)]
  · rfl
theorem FM_k {e : Nat → Int} {n k : Nat} : ∀ j, FM e n k n 0 j = FM e n (k + 1) 0 0 j := by
  intro j
  unfold FM
  split
  · rename_i hh
    rw [if_pos (by omega), if_neg (by omega)]
  · rfl
theorem enc_step {e : Nat → Int} {k p q : Nat} (hk : k < 11) : (if (enc (DD e k p k) ≠ -1 ∧ enc (DD e k k q) ≠ -1) ∧ (enc (DD e k p q) = -1 ∨ enc (DD e k p k) + enc (DD e k k q) < enc (DD e k p q)) then enc (DD e k p k) + enc (DD e k k q) else enc (DD e k p q)) = enc (DD e (k + 1) p q) := by
  have h1 := DD_rng e k p q
  have h2 := DD_rng e k p k
  have h3 := DD_rng e k k q
  have hp : (2 : Int) ^ k ≤ 1024 := by
    have : ∀ k, k < 11 → (2 : Int) ^ k ≤ 1024 := by decide
    exact this k hk
  show _ = enc (mi _ _)
  unfold enc mi
  repeat' split
  all_goals omega
set_option maxHeartbeats 4000000 in
theorem X9_ways_1 (F : isMod kd R) {o n k p : Nat} (hn : n ≤ 10) (hk : k < n) (hp : p < n) (e : Nat → Int) {v6 v7 v8 : AV} (h6 : opn v6) (h7 : opn v7) (h8 : opn v8) {Kn Kb : XE → XS → Prop} {Kr : AV → XS → Prop}
    (hkk : ∀ v6 v7 v8, opn v6 → opn v7 → opn v8 → Kn [vR (some 63), vR (some o), vI n, vI k, vI p, vI n, v6, v7, v8] (kd, setRow I 88 100 (FM e n k (p + 1) 0), R)) : lp_X9_ways_1 Kn Kb Kr [vR (some 63), vR (some o), vI n, vI k, vI p, vI 0, v6, v7, v8] (kd, setRow I 88 100 (FM e n k p 0), R) := by
  unfold lp_X9_ways_1
  refine forUp (lo := 0) (n := n) (fun q env st => ∃ v6 v7 v8, opn v6 ∧ opn v7 ∧ opn v8 ∧ env = [vR (some 63), vR (some o), vI n, vI k, vI p, vI (q : Int), v6, v7, v8] ∧ st = (kd, setRow I 88 100 (FM e n k p q), R)) (by omega) (by omega) ⟨v6, v7, v8, h6, h7, h8, rfl, rfl⟩ ?_ ?_ ?_
  · rintro q env st hq ⟨v6, v7, v8, h6, h7, h8, rfl, rfl⟩
    refine ⟨rfl, fun K h => ?_⟩
    simp [-Int.not_le, -Int.not_lt, bodyOf, envOf, exA, catV, rkOK, e_ci, e_lv, l_lv, r_lv, r_null, e_fld, r_fld, e_ald, z_ald, r_ald, e_len, e_op, e_dv, l_op, l_dv, l_sh, e_lcmp, e_l2i, e_min, c_b, c_not, c_and, c_or, c_null, c_eq, c_ne, c_lt, c_ge, c_gt, c_le, e_cond, x_tern, a_nil, a_I, a_L, a_R, g_callV, e_callV, r_callV, e_callS, s_skip, s_seq, s_st, s_stL, s_stR, s_inc, s_put, s_putZ, s_putR, s_putop, s_ast, s_zast, s_rast, s_astop, s_callV, s_popV, s_if, s_ite, s_itr, s_brk, s_retI, s_retR, s_ret, s_sw, noL, stI, stR]
    exact h
  · rintro q env st hlo hq ⟨v6, v7, v8, h6, h7, h8, rfl, rfl⟩ Kx hx
    have e1 : o2 f_imul 10 (p : Int) = 10 * (p : Int) := oM (by omega) (by omega)
    have e2 : o2 f_imul 10 (k : Int) = 10 * (k : Int) := oM (by omega) (by omega)
    have e3 : o2 f_iadd (10 * (p : Int)) (k : Int) = 10 * (p : Int) + k := oA (by omega) (by omega)
    have e4 : o2 f_iadd (10 * (k : Int)) (q : Int) = 10 * (k : Int) + q := oA (by omega) (by omega)
    have e5 : o2 f_iadd (10 * (p : Int)) (q : Int) = 10 * (p : Int) + q := oA (by omega) (by omega)
    have t1 : (10 * (p : Int) + k).toNat = 10 * p + k := by omega
    have t2 : (10 * (k : Int) + q).toNat = 10 * k + q := by omega
    have t3 : (10 * (p : Int) + q).toNat = 10 * p + q := by omega
    have b1 : (0 : Int) ≤ 10 * (p : Int) + k ∧ 10 * (p : Int) + k < 100 := by omega
    have b2 : (0 : Int) ≤ 10 * (k : Int) + q ∧ 10 * (k : Int) + q < 100 := by omega
    have b3 : (0 : Int) ≤ 10 * (p : Int) + q ∧ 10 * (p : Int) + q < 100 := by omega
    have r1 : setRow I 88 100 (FM e n k p q) 88 (10 * p + k) = enc (DD e k p k) := by rw [setRow_at (by omega), FM_r hp hk hn]
    have r2 : setRow I 88 100 (FM e n k p q) 88 (10 * k + q) = enc (DD e k k q) := by rw [setRow_at (by omega), FM_c hq hk hn]
    have r3 : setRow I 88 100 (FM e n k p q) 88 (10 * p + q) = enc (DD e k p q) := by rw [setRow_at (by omega), FM_h hq hp hn]
    have hst := enc_step (e := e) (k := k) (p := p) (q := q) (by omega)
    have hrg : enc (DD e k p k) ≤ 1024 ∧ -1 ≤ enc (DD e k p k) ∧ enc (DD e k k q) ≤ 1024 ∧ -1 ≤ enc (DD e k k q) := by
      have h2 := DD_rng e k p k
      have h3 := DD_rng e k k q
      have hp : (2 : Int) ^ k ≤ 1024 := by
        have : ∀ k, k < 11 → (2 : Int) ^ k ≤ 1024 := by decide
        exact this k (by omega)
      unfold enc
      repeat' split
      all_goals omega
    generalize hA : enc (DD e k p k) = A at *
    generalize hB : enc (DD e k k q) = B at *
    generalize hC : enc (DD e k p q) = C at *
    have e6 : o2 f_iadd A B = A + B := oA (by omega) (by omega)
    have fin : ∀ z, z = enc (DD e (k + 1) p q) → Kx [vR (some 63), vR (some o), vI n, vI k, vI p, vI (q : Int), vI A, vI B, vI C] (kd, upI (setRow I 88 100 (FM e n k p q)) 88 (10 * p + q) z, R) := by
      intro z hz
      refine hx _ _ rfl rfl ⟨vI A, vI B, vI C, Or.inr ⟨_, rfl⟩, Or.inr ⟨_, rfl⟩, Or.inr ⟨_, rfl⟩, rfl, ?_⟩
      refine congrArg (fun z => (kd, z, R)) ?_
      rw [← setRow_congr (FM_s hq hp hn)]
      funext x j
      subst hz
      unfold upI setRow
      by_cases hx8 : x = 88
      · by_cases hj : j = 10 * p + q
        · subst hj; simp [hx8]; omega
        · simp [hx8, hj]
      · simp [hx8]
    by_cases c1 : A = -1
    · have := fin C (by rw [← hst, if_neg (by omega)])
      rcases h6 with rfl | ⟨x6, rfl⟩ <;> rcases h7 with rfl | ⟨x7, rfl⟩ <;> simp [-Int.not_le, -Int.not_lt, bodyOf, envOf, exA, catV, rkOK, e_ci, e_lv, l_lv, r_lv, r_null, e_fld, r_fld, e_ald, z_ald, r_ald, e_len, e_op, e_dv, l_op, l_dv, l_sh, e_lcmp, e_l2i, e_min, c_b, c_not, c_and, c_or, c_null, c_eq, c_ne, c_lt, c_ge, c_gt, c_le, e_cond, x_tern, a_nil, a_I, a_L, a_R, g_callV, e_callV, r_callV, e_callS, s_skip, s_seq, s_st, s_stL, s_stR, s_inc, s_put, s_putZ, s_putR, s_putop, s_ast, s_zast, s_rast, s_astop, s_callV, s_popV, s_if, s_ite, s_itr, s_brk, s_retI, s_retR, s_ret, s_sw, noL, stI, stR, mR_0 F, mR_1 F, mR_2 F, mR_3 F, mR_4 F, mR_5 F, mR_6 F, mR_7 F, mR_8 F, mR_9 F, mR_10 F, mR_11 F, mR_12 F, mR_13 F, mR_15 F, mR_17 F, mR_25 F, mR_26 F, mR_27 F, mR_28 F, mR_29 F, mR_30 F, mR_35 F, mR_36 F, mR_37 F, mR_38 F, mR_40 F, mR_41 F, mR_42 F, mR_43 F, mR_44 F, mR_45 F, mR_46 F, mR_47 F, mK_63 F, mK_64 F, mK_65 F, mK_66 F, mK_67 F, mK_68 F, mK_69 F, mK_70 F, mK_71 F, mK_72 F, mK_73 F, mK_74 F, mK_75 F, mK_76 F, mK_77 F, mK_78 F, mK_79 F, mK_80 F, mK_81 F, mK_82 F, mK_83 F, mK_84 F, mK_85 F, mK_86 F, mK_87 F, mK_88 F, mK_89 F, mK_90 F, mK_91 F, mK_92 F, mK_93 F, mK_94 F, mK_95 F, mK_96 F, mK_97 F, e1, e2, e3, e4, e5, t1, t2, t3, b1, b2, b3, r1, r2, r3, c1, e6] <;> (rw [c1] at this; exact this)
    · by_cases c2 : B = -1
      · have := fin C (by rw [← hst, if_neg (by omega)])
        rcases h6 with rfl | ⟨x6, rfl⟩ <;> rcases h7 with rfl | ⟨x7, rfl⟩ <;> simp [-Int.not_le, -Int.not_lt, bodyOf, envOf, exA, catV, rkOK, e_ci, e_lv, l_lv, r_lv, r_null, e_fld, r_fld, e_ald, z_ald, r_ald, e_len, e_op, e_dv, l_op, l_dv, l_sh, e_lcmp, e_l2i, e_min, c_b, c_not, c_and, c_or, c_null, c_eq, c_ne, c_lt, c_ge, c_gt, c_le, e_cond, x_tern, a_nil, a_I, a_L, a_R, g_callV, e_callV, r_callV, e_callS, s_skip, s_seq, s_st, s_stL, s_stR, s_inc, s_put, s_putZ, s_putR, s_putop, s_ast, s_zast, s_rast, s_astop, s_callV, s_popV, s_if, s_ite, s_itr, s_brk, s_retI, s_retR, s_ret, s_sw, noL, stI, stR, mR_0 F, mR_1 F, mR_2 F, mR_3 F, mR_4 F, mR_5 F, mR_6 F, mR_7 F, mR_8 F, mR_9 F, mR_10 F, mR_11 F, mR_12 F, mR_13 F, mR_15 F, mR_17 F, mR_25 F, mR_26 F, mR_27 F, mR_28 F, mR_29 F, mR_30 F, mR_35 F, mR_36 F, mR_37 F, mR_38 F, mR_40 F, mR_41 F, mR_42 F, mR_43 F, mR_44 F, mR_45 F, mR_46 F, mR_47 F, mK_63 F, mK_64 F, mK_65 F, mK_66 F, mK_67 F, mK_68 F, mK_69 F, mK_70 F, mK_71 F, mK_72 F, mK_73 F, mK_74 F, mK_75 F, mK_76 F, mK_77 F, mK_78 F, mK_79 F, mK_80 F, mK_81 F, mK_82 F, mK_83 F, mK_84 F, mK_85 F, mK_86 F, mK_87 F, mK_88 F, mK_89 F, mK_90 F, mK_91 F, mK_92 F, mK_93 F, mK_94 F, mK_95 F, mK_96 F, mK_97 F, e1, e2, e3, e4, e5, t1, t2, t3, b1, b2, b3, r1, r2, r3, c1, c2, e6] <;> (rw [c2] at this; exact this)
      · by_cases c3 : C = -1 ∨ A + B < C
        · have := fin (A + B) (by rw [← hst, if_pos ⟨⟨c1, c2⟩, c3⟩])
          rcases h6 with rfl | ⟨x6, rfl⟩ <;> rcases h7 with rfl | ⟨x7, rfl⟩ <;> by_cases c4 : C = -1 <;> simp [-Int.not_le, -Int.not_lt, bodyOf, envOf, exA, catV, rkOK, e_ci, e_lv, l_lv, r_lv, r_null, e_fld, r_fld, e_ald, z_ald, r_ald, e_len, e_op, e_dv, l_op, l_dv, l_sh, e_lcmp, e_l2i, e_min, c_b, c_not, c_and, c_or, c_null, c_eq, c_ne, c_lt, c_ge, c_gt, c_le, e_cond, x_tern, a_nil, a_I, a_L, a_R, g_callV, e_callV, r_callV, e_callS, s_skip, s_seq, s_st, s_stL, s_stR, s_inc, s_put, s_putZ, s_putR, s_putop, s_ast, s_zast, s_rast, s_astop, s_callV, s_popV, s_if, s_ite, s_itr, s_brk, s_retI, s_retR, s_ret, s_sw, noL, stI, stR, mR_0 F, mR_1 F, mR_2 F, mR_3 F, mR_4 F, mR_5 F, mR_6 F, mR_7 F, mR_8 F, mR_9 F, mR_10 F, mR_11 F, mR_12 F, mR_13 F, mR_15 F, mR_17 F, mR_25 F, mR_26 F, mR_27 F, mR_28 F, mR_29 F, mR_30 F, mR_35 F, mR_36 F, mR_37 F, mR_38 F, mR_40 F, mR_41 F, mR_42 F, mR_43 F, mR_44 F, mR_45 F, mR_46 F, mR_47 F, mK_63 F, mK_64 F, mK_65 F, mK_66 F, mK_67 F, mK_68 F, mK_69 F, mK_70 F, mK_71 F, mK_72 F, mK_73 F, mK_74 F, mK_75 F, mK_76 F, mK_77 F, mK_78 F, mK_79 F, mK_80 F, mK_81 F, mK_82 F, mK_83 F, mK_84 F, mK_85 F, mK_86 F, mK_87 F, mK_88 F, mK_89 F, mK_90 F, mK_91 F, mK_92 F, mK_93 F, mK_94 F, mK_95 F, mK_96 F, mK_97 F, e1, e2, e3, e4, e5, t1, t2, t3, b1, b2, b3, r1, r2, r3, c1, c2, c4, e6] <;> first | (rw [c4] at this; exact this) | (have c5 : A + B < C := by omega; simp [c5]; exact this)
        · have := fin C (by rw [← hst, if_neg (by omega)])
          have c4 : ¬ C = -1 := fun h => c3 (Or.inl h)
          have c5 : ¬ A + B < C := fun h => c3 (Or.inr h)
          rcases h6 with rfl | ⟨x6, rfl⟩ <;> rcases h7 with rfl | ⟨x7, rfl⟩ <;> simp [-Int.not_le, -Int.not_lt, bodyOf, envOf, exA, catV, rkOK, e_ci, e_lv, l_lv, r_lv, r_null, e_fld, r_fld, e_ald, z_ald, r_ald, e_len, e_op, e_dv, l_op, l_dv, l_sh, e_lcmp, e_l2i, e_min, c_b, c_not, c_and, c_or, c_null, c_eq, c_ne, c_lt, c_ge, c_gt, c_le, e_cond, x_tern, a_nil, a_I, a_L, a_R, g_callV, e_callV, r_callV, e_callS, s_skip, s_seq, s_st, s_stL, s_stR, s_inc, s_put, s_putZ, s_putR, s_putop, s_ast, s_zast, s_rast, s_astop, s_callV, s_popV, s_if, s_ite, s_itr, s_brk, s_retI, s_retR, s_ret, s_sw, noL, stI, stR, mR_0 F, mR_1 F, mR_2 F, mR_3 F, mR_4 F, mR_5 F, mR_6 F, mR_7 F, mR_8 F, mR_9 F, mR_10 F, mR_11 F, mR_12 F, mR_13 F, mR_15 F, mR_17 F, mR_25 F, mR_26 F, mR_27 F, mR_28 F, mR_29 F, mR_30 F, mR_35 F, mR_36 F, mR_37 F, mR_38 F, mR_40 F, mR_41 F, mR_42 F, mR_43 F, mR_44 F, mR_45 F, mR_46 F, mR_47 F, mK_63 F, mK_64 F, mK_65 F, mK_66 F, mK_67 F, mK_68 F, mK_69 F, mK_70 F, mK_71 F, mK_72 F, mK_73 F, mK_74 F, mK_75 F, mK_76 F, mK_77 F, mK_78 F, mK_79 F, mK_80 F, mK_81 F, mK_82 F, mK_83 F, mK_84 F, mK_85 F, mK_86 F, mK_87 F, mK_88 F, mK_89 F, mK_90 F, mK_91 F, mK_92 F, mK_93 F, mK_94 F, mK_95 F, mK_96 F, mK_97 F, e1, e2, e3, e4, e5, t1, t2, t3, b1, b2, b3, r1, r2, r3, c1, c2, c4, c5, e6] <;> exact this
  · rintro env st ⟨v6, v7, v8, h6, h7, h8, rfl, rfl⟩
    have := hkk v6 v7 v8 h6 h7 h8
    rw [← setRow_congr (fun j _ => FM_e (e := e) (n := n) (k := k) (p := p) j)] at this
    exact this
end MW
