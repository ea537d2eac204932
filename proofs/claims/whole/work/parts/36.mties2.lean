/-! the reference's ties -/
/-- the two rows of ties blank up to k -/
def clr (I : Nat → Nat → Int) (k : Nat) : Nat → Nat → Int := fun x j => if (x = 86 ∨ x = 87) ∧ j < k then 0 else I x j
section MU
variable {kd : List (Nat × Nat)} {R : Nat → Nat → Option Nat} {I : Nat → Nat → Int} {K : AV → XS → Prop}
set_option maxHeartbeats 2000000 in
theorem X9_ties_0 (F : isMod kd R) {Kn Kb : XE → XS → Prop} {Kr : AV → XS → Prop} (hk : Kn [vR (some 63), vI 100, vU, vU, vU] (kd, clr I 100, R)) : lp_X9_ties_0 Kn Kb Kr [vR (some 63), vI 0, vU, vU, vU] (kd, I, R) := by
  unfold lp_X9_ties_0
  refine forUp (lo := 0) (n := 100) (fun k env st => env = [vR (some 63), vI (k : Int), vU, vU, vU] ∧ st = (kd, clr I k, R)) (by decide) (by decide) ⟨rfl, ?_⟩ ?_ ?_ ?_
  · congr 2; funext x j; simp [clr]
  · rintro k env st hk ⟨rfl, rfl⟩
    exact ⟨rfl, fun K h => h⟩
  · rintro k env st - hkn ⟨rfl, rfl⟩ Kx hx
    simp [-Int.not_le, -Int.not_lt, bodyOf, envOf, exA, catV, rkOK, e_ci, e_lv, l_lv, r_lv, r_null, e_fld, r_fld, e_ald, z_ald, r_ald, e_len, e_op, e_dv, l_op, l_dv, l_sh, e_lcmp, e_l2i, e_min, c_b, c_not, c_and, c_or, c_null, c_eq, c_ne, c_lt, c_ge, c_gt, c_le, e_cond, x_tern, a_nil, a_I, a_L, a_R, g_callV, e_callV, r_callV, e_callS, s_skip, s_seq, s_st, s_stL, s_stR, s_inc, s_put, s_putZ, s_putR, s_putop, s_ast, s_zast, s_rast, s_astop, s_callV, s_popV, s_if, s_ite, s_itr, s_brk, s_retI, s_retR, s_ret, s_sw, noL, stI, stR, mR_0 F, mR_1 F, mR_2 F, mR_3 F, mR_4 F, mR_5 F, mR_6 F, mR_7 F, mR_8 F, mR_9 F, mR_10 F, mR_11 F, mR_12 F, mR_13 F, mR_15 F, mR_17 F, mR_25 F, mR_26 F, mR_27 F, mR_28 F, mR_29 F, mR_30 F, mR_35 F, mR_36 F, mR_37 F, mR_38 F, mR_40 F, mR_41 F, mR_42 F, mR_43 F, mR_44 F, mR_45 F, mR_46 F, mR_47 F, mK_63 F, mK_64 F, mK_65 F, mK_66 F, mK_67 F, mK_68 F, mK_69 F, mK_70 F, mK_71 F, mK_72 F, mK_73 F, mK_74 F, mK_75 F, mK_76 F, mK_77 F, mK_78 F, mK_79 F, mK_80 F, mK_81 F, mK_82 F, mK_83 F, mK_84 F, mK_85 F, mK_86 F, mK_87 F, mK_88 F, mK_89 F, mK_90 F, mK_91 F, mK_92 F, mK_93 F, mK_94 F, mK_95 F, mK_96 F, mK_97 F, hkn]
    refine hx _ _ rfl rfl ⟨rfl, ?_⟩
    refine congrArg (fun z => (kd, z, R)) ?_
    funext x j
    simp only [upI, clr]
    repeat' split
    all_goals first | rfl | omega
  · rintro env st ⟨rfl, rfl⟩
    exact hk
/-- an open local: nothing, or an int -/
def opn (v : AV) : Prop := v = vU ∨ ∃ x, v = vI x
set_option maxHeartbeats 4000000 in
theorem X9_ties_1 (F : isMod kd R) (hw : WF I) (hz : Z77 I) {r : Nat} (hr : (r : Int) < I 65 0) {J : Nat → Nat → Int} (hJ : ∀ x, x ≠ 86 → x ≠ 87 → J x = I x) {m0 : Nat} (hb : Bd J m0) (hm0 : m0 < 500) (hpr : Pr I) {o4 : AV} (ho : opn o4) {Kn Kb : XE → XS → Prop} {Kr : AV → XS → Prop}
    (hk : ∀ o3 o4, opn o3 → opn o4 → Kn [vR (some 63), vI r, vI (I 68 r), o3, o4] (kd, nL J (notesR I r (I 69 r).toNat), R)) : lp_X9_ties_1 Kn Kb Kr [vR (some 63), vI r, vI (I 68 r), vI (10 * r), o4] (kd, J, R) := by
  unfold lp_X9_ties_1
  obtain ⟨⟨hp0, hr0, hf0, hn0⟩, hR, hA, hFi, hN, -⟩ := hw
  have hRr := hR r hr
  obtain ⟨m, hm⟩ : ∃ m : Nat, I 69 r = (m : Int) := ⟨(I 69 r).toNat, by omega⟩
  obtain ⟨h, hh⟩ : ∃ m : Nat, I 68 r = (m : Int) := ⟨(I 68 r).toNat, by omega⟩
  have hmt : (I 69 r).toNat = m := by omega
  have e1 : o2 f_imul 10 (r : Int) = 10 * (r : Int) := oM (by omega) (by omega)
  have e2 : o2 f_iadd (10 * (r : Int)) (m : Int) = ((10 * r + m : Nat) : Int) := by rw [oA (by omega) (by omega)]; omega
  refine forUp (lo := 10 * r) (n := 10 * r + m) (fun k env st => ∃ o4 i, k = 10 * r + i ∧ opn o4 ∧ env = [vR (some 63), vI r, vI (I 68 r), vI (k : Int), o4] ∧ st = (kd, nL J (notesR I r i), R)) (by omega) (by omega) ⟨o4, 0, rfl, ho, ?_, ?_⟩ ?_ ?_ ?_
  · simp
  · simp [notesR, nL]
  · rintro k env st hk ⟨o4, i, rfl, ho, rfl, rfl⟩
    refine ⟨rfl, fun K h => ?_⟩
    have e69 : nL J (notesR I r i) 69 r = m := by rw [nL_row (by decide) (by decide), hJ 69 (by decide) (by decide), hm]
    have hr2 : r < 440 := by omega
    simp [-Int.not_le, -Int.not_lt, bodyOf, envOf, exA, catV, rkOK, e_ci, e_lv, l_lv, r_lv, r_null, e_fld, r_fld, e_ald, z_ald, r_ald, e_len, e_op, e_dv, l_op, l_dv, l_sh, e_lcmp, e_l2i, e_min, c_b, c_not, c_and, c_or, c_null, c_eq, c_ne, c_lt, c_ge, c_gt, c_le, e_cond, x_tern, a_nil, a_I, a_L, a_R, g_callV, e_callV, r_callV, e_callS, s_skip, s_seq, s_st, s_stL, s_stR, s_inc, s_put, s_putZ, s_putR, s_putop, s_ast, s_zast, s_rast, s_astop, s_callV, s_popV, s_if, s_ite, s_itr, s_brk, s_retI, s_retR, s_ret, s_sw, noL, stI, stR, mR_0 F, mR_1 F, mR_2 F, mR_3 F, mR_4 F, mR_5 F, mR_6 F, mR_7 F, mR_8 F, mR_9 F, mR_10 F, mR_11 F, mR_12 F, mR_13 F, mR_15 F, mR_17 F, mR_25 F, mR_26 F, mR_27 F, mR_28 F, mR_29 F, mR_30 F, mR_35 F, mR_36 F, mR_37 F, mR_38 F, mR_40 F, mR_41 F, mR_42 F, mR_43 F, mR_44 F, mR_45 F, mR_46 F, mR_47 F, mK_63 F, mK_64 F, mK_65 F, mK_66 F, mK_67 F, mK_68 F, mK_69 F, mK_70 F, mK_71 F, mK_72 F, mK_73 F, mK_74 F, mK_75 F, mK_76 F, mK_77 F, mK_78 F, mK_79 F, mK_80 F, mK_81 F, mK_82 F, mK_83 F, mK_84 F, mK_85 F, mK_86 F, mK_87 F, mK_88 F, mK_89 F, mK_90 F, mK_91 F, mK_92 F, mK_93 F, mK_94 F, mK_95 F, mK_96 F, mK_97 F, e1, e69, e2, hr2]
    simpa using h
  · rintro k env st hlo hkn ⟨o4, i, rfl, ho, rfl, rfl⟩ Kx hx
    have hi : (i : Int) < I 69 r := by omega
    have hAi := hA r i hr hi
    have h4 := notesR_4 (G := I) (r := r) (m := i)
    have hprJ : Pr J := fun s hs => by rw [hJ 79 (by decide) (by decide)]; exact hpr s hs
    have hprL : Pr (nL J (notesR I r i)) := fun s hs => by rw [nL_row (by decide) (by decide)]; exact hprJ s hs
    have hbL : Bd (nL J (notesR I r i)) (m0 + (notesR I r i).length) := Bd_nL hb hprJ h4.1
    obtain ⟨num, hnum⟩ : ∃ z : Nat, I 71 (10 * r + i) = (z : Int) := ⟨(I 71 (10 * r + i)).toNat, by omega⟩
    have row : ∀ x, x ≠ 86 → x ≠ 87 → nL J (notesR I r i) x = I x := fun x h1 h2 => by rw [nL_row h1 h2, hJ x h1 h2]
    have r70 := row 70 (by decide) (by decide)
    have r71 := row 71 (by decide) (by decide)
    have r77 := row 77 (by decide) (by decide)
    have r68 := row 68 (by decide) (by decide)
    have r72 := row 72 (by decide) (by decide)
    have r73 := row 73 (by decide) (by decide)
    have hkk : ((10 * r + i : Nat) : Int) = 10 * (r : Int) + i := by omega
    have t1 : (10 * (r : Int) + i).toNat = 10 * r + i := by omega
    have b1 : (0 : Int) ≤ 10 * (r : Int) + i ∧ 10 * (r : Int) + i < 4400 := by omega
    have hr2 : r < 440 := by omega
    have fin : ∀ (l : List NTE), noteA I r (10 * r + i) = l → Kx [vR (some 63), vI r, vI (I 68 r), vI (10 * (r : Int) + i), vI (I 70 (10 * r + i))] (kd, nL (nL J (notesR I r i)) l, R) := by
      intro l hl
      refine hx _ _ (by simp) rfl ⟨vI (I 70 (10 * r + i)), i + 1, rfl, Or.inr ⟨_, rfl⟩, by simp, ?_⟩
      rw [notesR_S, nL_app, hl]
    by_cases h77 : I 77 r = 1
    · have h41 := hRr.2.2 h77
      have hi0 : i = 0 := by omega
      have hlt : (num : Int) < I 65 0 := by have := hAi.2.2.2.1; subst hi0; simp at this hnum; omega
      have hR2 := hR num hlt
      obtain ⟨h2, hh2⟩ : ∃ z : Nat, I 68 num = (z : Int) := ⟨(I 68 num).toNat, by omega⟩
      have hn4 : num < 440 := by omega
      simp [-Int.not_le, -Int.not_lt, bodyOf, envOf, exA, catV, rkOK, e_ci, e_lv, l_lv, r_lv, r_null, e_fld, r_fld, e_ald, z_ald, r_ald, e_len, e_op, e_dv, l_op, l_dv, l_sh, e_lcmp, e_l2i, e_min, c_b, c_not, c_and, c_or, c_null, c_eq, c_ne, c_lt, c_ge, c_gt, c_le, e_cond, x_tern, a_nil, a_I, a_L, a_R, g_callV, e_callV, r_callV, e_callS, s_skip, s_seq, s_st, s_stL, s_stR, s_inc, s_put, s_putZ, s_putR, s_putop, s_ast, s_zast, s_rast, s_astop, s_callV, s_popV, s_if, s_ite, s_itr, s_brk, s_retI, s_retR, s_ret, s_sw, noL, stI, stR, mR_0 F, mR_1 F, mR_2 F, mR_3 F, mR_4 F, mR_5 F, mR_6 F, mR_7 F, mR_8 F, mR_9 F, mR_10 F, mR_11 F, mR_12 F, mR_13 F, mR_15 F, mR_17 F, mR_25 F, mR_26 F, mR_27 F, mR_28 F, mR_29 F, mR_30 F, mR_35 F, mR_36 F, mR_37 F, mR_38 F, mR_40 F, mR_41 F, mR_42 F, mR_43 F, mR_44 F, mR_45 F, mR_46 F, mR_47 F, mK_63 F, mK_64 F, mK_65 F, mK_66 F, mK_67 F, mK_68 F, mK_69 F, mK_70 F, mK_71 F, mK_72 F, mK_73 F, mK_74 F, mK_75 F, mK_76 F, mK_77 F, mK_78 F, mK_79 F, mK_80 F, mK_81 F, mK_82 F, mK_83 F, mK_84 F, mK_85 F, mK_86 F, mK_87 F, mK_88 F, mK_89 F, mK_90 F, mK_91 F, mK_92 F, mK_93 F, mK_94 F, mK_95 F, mK_96 F, mK_97 F, hkk, t1, b1, hr2, r70, r71, r77, r68, h77, hnum, hn4]
      rw [hh2, hh]
      refine X9_needs_ok F (p := h2) (q := h) (s := 3) (by omega) (by omega) (by decide) hbL (by omega) hprL ?_
      refine ⟨rfl, ?_⟩
      have := fin [(h2, h, 3)] (by simp [noteA, h77, hnum, hh2, hh])
      rw [hh] at this
      exact this
    · have h770 : I 77 r = 0 := by rcases hz r with q | q; exact q; exact absurd q h77
      by_cases h45 : I 70 (10 * r + i) = 4 ∨ I 70 (10 * r + i) = 5
      · have hlt : (num : Int) < I 65 0 := by have := hAi.2.2.2.1 h45; omega
        have hR2 := hR num hlt
        obtain ⟨h2, hh2⟩ : ∃ z : Nat, I 68 num = (z : Int) := ⟨(I 68 num).toNat, by omega⟩
        have hn4 : num < 440 := by omega
        have fin2 := fin [(h, h2, 0)] (by simp [noteA, h770, hnum, hh2, hh, h45])
        have goal : B_X9_needs [vR (some 63), vI h, vI h2, vI 0] (kd, nL J (notesR I r i), R) (fun v st2 => v = vU ∧ Kx [vR (some 63), vI r, vI (I 68 r), vI (10 * (r : Int) + i), vI (I 70 (10 * r + i))] st2) := X9_needs_ok F (p := h) (q := h2) (s := 0) (by omega) (by omega) (by decide) hbL (by omega) hprL ⟨rfl, fin2⟩
        rw [← hh2, ← hh] at goal
        rcases h45 with q | q <;> simp [-Int.not_le, -Int.not_lt, bodyOf, envOf, exA, catV, rkOK, e_ci, e_lv, l_lv, r_lv, r_null, e_fld, r_fld, e_ald, z_ald, r_ald, e_len, e_op, e_dv, l_op, l_dv, l_sh, e_lcmp, e_l2i, e_min, c_b, c_not, c_and, c_or, c_null, c_eq, c_ne, c_lt, c_ge, c_gt, c_le, e_cond, x_tern, a_nil, a_I, a_L, a_R, g_callV, e_callV, r_callV, e_callS, s_skip, s_seq, s_st, s_stL, s_stR, s_inc, s_put, s_putZ, s_putR, s_putop, s_ast, s_zast, s_rast, s_astop, s_callV, s_popV, s_if, s_ite, s_itr, s_brk, s_retI, s_retR, s_ret, s_sw, noL, stI, stR, mR_0 F, mR_1 F, mR_2 F, mR_3 F, mR_4 F, mR_5 F, mR_6 F, mR_7 F, mR_8 F, mR_9 F, mR_10 F, mR_11 F, mR_12 F, mR_13 F, mR_15 F, mR_17 F, mR_25 F, mR_26 F, mR_27 F, mR_28 F, mR_29 F, mR_30 F, mR_35 F, mR_36 F, mR_37 F, mR_38 F, mR_40 F, mR_41 F, mR_42 F, mR_43 F, mR_44 F, mR_45 F, mR_46 F, mR_47 F, mK_63 F, mK_64 F, mK_65 F, mK_66 F, mK_67 F, mK_68 F, mK_69 F, mK_70 F, mK_71 F, mK_72 F, mK_73 F, mK_74 F, mK_75 F, mK_76 F, mK_77 F, mK_78 F, mK_79 F, mK_80 F, mK_81 F, mK_82 F, mK_83 F, mK_84 F, mK_85 F, mK_86 F, mK_87 F, mK_88 F, mK_89 F, mK_90 F, mK_91 F, mK_92 F, mK_93 F, mK_94 F, mK_95 F, mK_96 F, mK_97 F, hkk, t1, b1, hr2, r70, r71, r77, r68, h770, hnum, hn4, q] <;> (rw [q] at goal; exact goal)
      · have h4 : ¬ I 70 (10 * r + i) = 4 := fun q => h45 (Or.inl q)
        have h5 : ¬ I 70 (10 * r + i) = 5 := fun q => h45 (Or.inr q)
        by_cases h23 : I 70 (10 * r + i) = 2 ∨ I 70 (10 * r + i) = 3
        · have hlt : (num : Int) < I 66 0 := by have := hAi.2.2.1 h23; omega
          have hR2 := hFi num hlt
          obtain ⟨h2, hh2⟩ : ∃ z : Nat, I 72 num = (z : Int) := ⟨(I 72 num).toNat, by omega⟩
          have hn4 : num < 220 := by omega
          have fin2 := fin [(h, h2, 1)] (by simp [noteA, h770, hnum, hh2, hh, h4, h5, h23])
          have goal : B_X9_needs [vR (some 63), vI h, vI h2, vI 1] (kd, nL J (notesR I r i), R) (fun v st2 => v = vU ∧ Kx [vR (some 63), vI r, vI (I 68 r), vI (10 * (r : Int) + i), vI (I 70 (10 * r + i))] st2) := X9_needs_ok F (p := h) (q := h2) (s := 1) (by omega) (by omega) (by decide) hbL (by omega) hprL ⟨rfl, fin2⟩
          rw [← hh2, ← hh] at goal
          rcases h23 with q | q <;> simp [-Int.not_le, -Int.not_lt, bodyOf, envOf, exA, catV, rkOK, e_ci, e_lv, l_lv, r_lv, r_null, e_fld, r_fld, e_ald, z_ald, r_ald, e_len, e_op, e_dv, l_op, l_dv, l_sh, e_lcmp, e_l2i, e_min, c_b, c_not, c_and, c_or, c_null, c_eq, c_ne, c_lt, c_ge, c_gt, c_le, e_cond, x_tern, a_nil, a_I, a_L, a_R, g_callV, e_callV, r_callV, e_callS, s_skip, s_seq, s_st, s_stL, s_stR, s_inc, s_put, s_putZ, s_putR, s_putop, s_ast, s_zast, s_rast, s_astop, s_callV, s_popV, s_if, s_ite, s_itr, s_brk, s_retI, s_retR, s_ret, s_sw, noL, stI, stR, mR_0 F, mR_1 F, mR_2 F, mR_3 F, mR_4 F, mR_5 F, mR_6 F, mR_7 F, mR_8 F, mR_9 F, mR_10 F, mR_11 F, mR_12 F, mR_13 F, mR_15 F, mR_17 F, mR_25 F, mR_26 F, mR_27 F, mR_28 F, mR_29 F, mR_30 F, mR_35 F, mR_36 F, mR_37 F, mR_38 F, mR_40 F, mR_41 F, mR_42 F, mR_43 F, mR_44 F, mR_45 F, mR_46 F, mR_47 F, mK_63 F, mK_64 F, mK_65 F, mK_66 F, mK_67 F, mK_68 F, mK_69 F, mK_70 F, mK_71 F, mK_72 F, mK_73 F, mK_74 F, mK_75 F, mK_76 F, mK_77 F, mK_78 F, mK_79 F, mK_80 F, mK_81 F, mK_82 F, mK_83 F, mK_84 F, mK_85 F, mK_86 F, mK_87 F, mK_88 F, mK_89 F, mK_90 F, mK_91 F, mK_92 F, mK_93 F, mK_94 F, mK_95 F, mK_96 F, mK_97 F, hkk, t1, b1, hr2, r70, r71, r77, r68, r72, h770, hnum, hn4, q] <;> (rw [q] at goal; exact goal)
        · have h2 : ¬ I 70 (10 * r + i) = 2 := fun q => h23 (Or.inl q)
          have h3 : ¬ I 70 (10 * r + i) = 3 := fun q => h23 (Or.inr q)
          by_cases h6 : I 70 (10 * r + i) = 6
          · have hlt : (num : Int) < I 67 0 := by have := hAi.2.2.2.2 h6; omega
            have hR2 := hN num hlt
            obtain ⟨h2', hh2⟩ : ∃ z : Nat, I 73 num = (z : Int) := ⟨(I 73 num).toNat, by omega⟩
            have hn4 : num < 176 := by omega
            have fin2 := fin [(h, h2', 2)] (by simp [noteA, h770, hnum, hh2, hh, h6])
            have goal : B_X9_needs [vR (some 63), vI h, vI h2', vI 2] (kd, nL J (notesR I r i), R) (fun v st2 => v = vU ∧ Kx [vR (some 63), vI r, vI (I 68 r), vI (10 * (r : Int) + i), vI (I 70 (10 * r + i))] st2) := X9_needs_ok F (p := h) (q := h2') (s := 2) (by omega) (by omega) (by decide) hbL (by omega) hprL ⟨rfl, fin2⟩
            rw [← hh2, ← hh] at goal
            simp [-Int.not_le, -Int.not_lt, bodyOf, envOf, exA, catV, rkOK, e_ci, e_lv, l_lv, r_lv, r_null, e_fld, r_fld, e_ald, z_ald, r_ald, e_len, e_op, e_dv, l_op, l_dv, l_sh, e_lcmp, e_l2i, e_min, c_b, c_not, c_and, c_or, c_null, c_eq, c_ne, c_lt, c_ge, c_gt, c_le, e_cond, x_tern, a_nil, a_I, a_L, a_R, g_callV, e_callV, r_callV, e_callS, s_skip, s_seq, s_st, s_stL, s_stR, s_inc, s_put, s_putZ, s_putR, s_putop, s_ast, s_zast, s_rast, s_astop, s_callV, s_popV, s_if, s_ite, s_itr, s_brk, s_retI, s_retR, s_ret, s_sw, noL, stI, stR, mR_0 F, mR_1 F, mR_2 F, mR_3 F, mR_4 F, mR_5 F, mR_6 F, mR_7 F, mR_8 F, mR_9 F, mR_10 F, mR_11 F, mR_12 F, mR_13 F, mR_15 F, mR_17 F, mR_25 F, mR_26 F, mR_27 F, mR_28 F, mR_29 F, mR_30 F, mR_35 F, mR_36 F, mR_37 F, mR_38 F, mR_40 F, mR_41 F, mR_42 F, mR_43 F, mR_44 F, mR_45 F, mR_46 F, mR_47 F, mK_63 F, mK_64 F, mK_65 F, mK_66 F, mK_67 F, mK_68 F, mK_69 F, mK_70 F, mK_71 F, mK_72 F, mK_73 F, mK_74 F, mK_75 F, mK_76 F, mK_77 F, mK_78 F, mK_79 F, mK_80 F, mK_81 F, mK_82 F, mK_83 F, mK_84 F, mK_85 F, mK_86 F, mK_87 F, mK_88 F, mK_89 F, mK_90 F, mK_91 F, mK_92 F, mK_93 F, mK_94 F, mK_95 F, mK_96 F, mK_97 F, hkk, t1, b1, hr2, r70, r71, r77, r73, h770, hnum, hn4, h6]
            rw [h6] at goal
            exact goal
          · have fin2 := fin [] (by simp [noteA, h770, h2, h3, h4, h5, h6])
            simp [-Int.not_le, -Int.not_lt, bodyOf, envOf, exA, catV, rkOK, e_ci, e_lv, l_lv, r_lv, r_null, e_fld, r_fld, e_ald, z_ald, r_ald, e_len, e_op, e_dv, l_op, l_dv, l_sh, e_lcmp, e_l2i, e_min, c_b, c_not, c_and, c_or, c_null, c_eq, c_ne, c_lt, c_ge, c_gt, c_le, e_cond, x_tern, a_nil, a_I, a_L, a_R, g_callV, e_callV, r_callV, e_callS, s_skip, s_seq, s_st, s_stL, s_stR, s_inc, s_put, s_putZ, s_putR, s_putop, s_ast, s_zast, s_rast, s_astop, s_callV, s_popV, s_if, s_ite, s_itr, s_brk, s_retI, s_retR, s_ret, s_sw, noL, stI, stR, mR_0 F, mR_1 F, mR_2 F, mR_3 F, mR_4 F, mR_5 F, mR_6 F, mR_7 F, mR_8 F, mR_9 F, mR_10 F, mR_11 F, mR_12 F, mR_13 F, mR_15 F, mR_17 F, mR_25 F, mR_26 F, mR_27 F, mR_28 F, mR_29 F, mR_30 F, mR_35 F, mR_36 F, mR_37 F, mR_38 F, mR_40 F, mR_41 F, mR_42 F, mR_43 F, mR_44 F, mR_45 F, mR_46 F, mR_47 F, mK_63 F, mK_64 F, mK_65 F, mK_66 F, mK_67 F, mK_68 F, mK_69 F, mK_70 F, mK_71 F, mK_72 F, mK_73 F, mK_74 F, mK_75 F, mK_76 F, mK_77 F, mK_78 F, mK_79 F, mK_80 F, mK_81 F, mK_82 F, mK_83 F, mK_84 F, mK_85 F, mK_86 F, mK_87 F, mK_88 F, mK_89 F, mK_90 F, mK_91 F, mK_92 F, mK_93 F, mK_94 F, mK_95 F, mK_96 F, mK_97 F, hkk, t1, b1, hr2, r70, r77, h770, h2, h3, h4, h5, h6]
            exact fin2
  · rintro env st ⟨o4, i, hi, ho, rfl, rfl⟩
    have : i = (I 69 r).toNat := by omega
    subst this
    exact hk _ _ (Or.inr ⟨_, rfl⟩) ho
theorem Bd_clr : Bd (clr I 100) 0 ∨ True := Or.inr trivial
set_option maxHeartbeats 4000000 in
theorem X9_ties_2 (F : isMod kd R) (hw : WF I) (hz : Z77 I) {J : Nat → Nat → Int} (hJ : ∀ x, x ≠ 86 → x ≠ 87 → J x = I x) (hb : Bd J 0) (hpr : Pr I) {Kn Kb : XE → XS → Prop} {Kr : AV → XS → Prop}
    (hk : ∀ v2 o3 o4, opn v2 → opn o3 → opn o4 → Kn [vR (some 63), vI (I 65 0), v2, o3, o4] (kd, nL J (notesRs I (I 65 0).toNat), R)) : lp_X9_ties_2 Kn Kb Kr [vR (some 63), vI 0, vU, vU, vU] (kd, J, R) := by
  unfold lp_X9_ties_2
  have hw0 := hw
  obtain ⟨⟨hp0, hr0, hf0, hn0⟩, hR, -⟩ := hw
  obtain ⟨m, hm⟩ : ∃ m : Nat, I 65 0 = (m : Int) := ⟨(I 65 0).toNat, by omega⟩
  have hmt : (I 65 0).toNat = m := by omega
  refine forUp (lo := 0) (n := m) (fun k env st => ∃ v2 o3 o4, opn v2 ∧ opn o3 ∧ opn o4 ∧ env = [vR (some 63), vI (k : Int), v2, o3, o4] ∧ st = (kd, nL J (notesRs I k), R)) (by omega) (by omega) ⟨vU, vU, vU, Or.inl rfl, Or.inl rfl, Or.inl rfl, rfl, by simp [notesRs, nL]⟩ ?_ ?_ ?_
  · rintro k env st hk ⟨v2, o3, o4, h2, h3, h4, rfl, rfl⟩
    refine ⟨rfl, fun K h => ?_⟩
    have e65 : nL J (notesRs I k) 65 0 = m := by rw [nL_row (by decide) (by decide), hJ 65 (by decide) (by decide), hm]
    simp [-Int.not_le, -Int.not_lt, bodyOf, envOf, exA, catV, rkOK, e_ci, e_lv, l_lv, r_lv, r_null, e_fld, r_fld, e_ald, z_ald, r_ald, e_len, e_op, e_dv, l_op, l_dv, l_sh, e_lcmp, e_l2i, e_min, c_b, c_not, c_and, c_or, c_null, c_eq, c_ne, c_lt, c_ge, c_gt, c_le, e_cond, x_tern, a_nil, a_I, a_L, a_R, g_callV, e_callV, r_callV, e_callS, s_skip, s_seq, s_st, s_stL, s_stR, s_inc, s_put, s_putZ, s_putR, s_putop, s_ast, s_zast, s_rast, s_astop, s_callV, s_popV, s_if, s_ite, s_itr, s_brk, s_retI, s_retR, s_ret, s_sw, noL, stI, stR, mR_0 F, mR_1 F, mR_2 F, mR_3 F, mR_4 F, mR_5 F, mR_6 F, mR_7 F, mR_8 F, mR_9 F, mR_10 F, mR_11 F, mR_12 F, mR_13 F, mR_15 F, mR_17 F, mR_25 F, mR_26 F, mR_27 F, mR_28 F, mR_29 F, mR_30 F, mR_35 F, mR_36 F, mR_37 F, mR_38 F, mR_40 F, mR_41 F, mR_42 F, mR_43 F, mR_44 F, mR_45 F, mR_46 F, mR_47 F, mK_63 F, mK_64 F, mK_65 F, mK_66 F, mK_67 F, mK_68 F, mK_69 F, mK_70 F, mK_71 F, mK_72 F, mK_73 F, mK_74 F, mK_75 F, mK_76 F, mK_77 F, mK_78 F, mK_79 F, mK_80 F, mK_81 F, mK_82 F, mK_83 F, mK_84 F, mK_85 F, mK_86 F, mK_87 F, mK_88 F, mK_89 F, mK_90 F, mK_91 F, mK_92 F, mK_93 F, mK_94 F, mK_95 F, mK_96 F, mK_97 F, e65]
    exact h
  · rintro k env st hlo hkn ⟨v2, o3, o4, h2, h3, h4, rfl, rfl⟩ Kx hx
    have hr : (k : Int) < I 65 0 := by omega
    have hRr := hR k hr
    have e1 : o2 f_imul 10 (k : Int) = 10 * (k : Int) := oM (by omega) (by omega)
    have r68 : nL J (notesRs I k) 68 = I 68 := by rw [nL_row (by decide) (by decide), hJ 68 (by decide) (by decide)]
    have hl := notesRs_4 (G := I) (m := k) (fun r hr' => (hR r (by omega)).2.1.2)
    have hprJ : Pr J := fun s hs => by rw [hJ 79 (by decide) (by decide)]; exact hpr s hs
    have hbL := Bd_nL hb hprJ hl.1
    have hk4 : k < 440 := by omega
    have goal := X9_ties_1 (Kn := Kx) (Kb := Kn) (Kr := Kr) F hw0 hz hr (J := nL J (notesRs I k)) (fun x q1 q2 => by rw [nL_row q1 q2, hJ x q1 q2]) hbL (by omega) hpr h4 (fun o3 o4 q3 q4 => hx _ _ rfl (by rcases h2 with rfl | ⟨x, rfl⟩ <;> rfl) ⟨_, o3, o4, Or.inr ⟨_, rfl⟩, q3, q4, rfl, by rw [notesRs_S, nL_app]⟩)
    rcases h2 with rfl | ⟨x2, rfl⟩ <;> rcases h3 with rfl | ⟨x3, rfl⟩ <;> simp [-Int.not_le, -Int.not_lt, bodyOf, envOf, exA, catV, rkOK, e_ci, e_lv, l_lv, r_lv, r_null, e_fld, r_fld, e_ald, z_ald, r_ald, e_len, e_op, e_dv, l_op, l_dv, l_sh, e_lcmp, e_l2i, e_min, c_b, c_not, c_and, c_or, c_null, c_eq, c_ne, c_lt, c_ge, c_gt, c_le, e_cond, x_tern, a_nil, a_I, a_L, a_R, g_callV, e_callV, r_callV, e_callS, s_skip, s_seq, s_st, s_stL, s_stR, s_inc, s_put, s_putZ, s_putR, s_putop, s_ast, s_zast, s_rast, s_astop, s_callV, s_popV, s_if, s_ite, s_itr, s_brk, s_retI, s_retR, s_ret, s_sw, noL, stI, stR, mR_0 F, mR_1 F, mR_2 F, mR_3 F, mR_4 F, mR_5 F, mR_6 F, mR_7 F, mR_8 F, mR_9 F, mR_10 F, mR_11 F, mR_12 F, mR_13 F, mR_15 F, mR_17 F, mR_25 F, mR_26 F, mR_27 F, mR_28 F, mR_29 F, mR_30 F, mR_35 F, mR_36 F, mR_37 F, mR_38 F, mR_40 F, mR_41 F, mR_42 F, mR_43 F, mR_44 F, mR_45 F, mR_46 F, mR_47 F, mK_63 F, mK_64 F, mK_65 F, mK_66 F, mK_67 F, mK_68 F, mK_69 F, mK_70 F, mK_71 F, mK_72 F, mK_73 F, mK_74 F, mK_75 F, mK_76 F, mK_77 F, mK_78 F, mK_79 F, mK_80 F, mK_81 F, mK_82 F, mK_83 F, mK_84 F, mK_85 F, mK_86 F, mK_87 F, mK_88 F, mK_89 F, mK_90 F, mK_91 F, mK_92 F, mK_93 F, mK_94 F, mK_95 F, mK_96 F, mK_97 F, e1, r68, hk4] <;> exact goal
  · rintro env st ⟨v2, o3, o4, h2, h3, h4, rfl, rfl⟩
    rw [hmt, hm] at hk
    exact hk _ _ _ h2 h3 h4
set_option maxHeartbeats 4000000 in
theorem X9_ties_3 (F : isMod kd R) (hw : WF I) {n : Nat} (hn : (n : Int) < I 67 0) {J : Nat → Nat → Int} (hJ : ∀ x, x ≠ 86 → x ≠ 87 → J x = I x) {m0 : Nat} (hb : Bd J m0) (hm0 : m0 < 500) (hpr : Pr I) {o3 o4 : AV} {Kn Kb : XE → XS → Prop} {Kr : AV → XS → Prop}
    (hk : Kn [vR (some 63), vI n, vI (I 74 n), o3, o4] (kd, nL J (notesH I n (I 74 n).toNat), R)) : lp_X9_ties_3 Kn Kb Kr [vR (some 63), vI n, vI 0, o3, o4] (kd, J, R) := by
  unfold lp_X9_ties_3
  obtain ⟨⟨hp0, hr0, hf0, hn0⟩, hR, hA, hFi, hN, hH, -⟩ := hw
  have hNn := hN n hn
  obtain ⟨m, hm⟩ : ∃ m : Nat, I 74 n = (m : Int) := ⟨(I 74 n).toNat, by omega⟩
  obtain ⟨q, hq⟩ : ∃ m : Nat, I 73 n = (m : Int) := ⟨(I 73 n).toNat, by omega⟩
  have hmt : (I 74 n).toNat = m := by omega
  have hn2 : n < 176 := by omega
  have e1 : o2 f_imul 6 (n : Int) = 6 * (n : Int) := oM (by omega) (by omega)
  refine forUp (lo := 0) (n := m) (fun k env st => env = [vR (some 63), vI n, vI (k : Int), o3, o4] ∧ st = (kd, nL J (notesH I n k), R)) (by omega) (by omega) ⟨rfl, by simp [notesH, nL]⟩ ?_ ?_ ?_
  · rintro k env st hk ⟨rfl, rfl⟩
    refine ⟨rfl, fun K h => ?_⟩
    have e74 : nL J (notesH I n k) 74 n = m := by rw [nL_row (by decide) (by decide), hJ 74 (by decide) (by decide), hm]
    simp [-Int.not_le, -Int.not_lt, bodyOf, envOf, exA, catV, rkOK, e_ci, e_lv, l_lv, r_lv, r_null, e_fld, r_fld, e_ald, z_ald, r_ald, e_len, e_op, e_dv, l_op, l_dv, l_sh, e_lcmp, e_l2i, e_min, c_b, c_not, c_and, c_or, c_null, c_eq, c_ne, c_lt, c_ge, c_gt, c_le, e_cond, x_tern, a_nil, a_I, a_L, a_R, g_callV, e_callV, r_callV, e_callS, s_skip, s_seq, s_st, s_stL, s_stR, s_inc, s_put, s_putZ, s_putR, s_putop, s_ast, s_zast, s_rast, s_astop, s_callV, s_popV, s_if, s_ite, s_itr, s_brk, s_retI, s_retR, s_ret, s_sw, noL, stI, stR, mR_0 F, mR_1 F, mR_2 F, mR_3 F, mR_4 F, mR_5 F, mR_6 F, mR_7 F, mR_8 F, mR_9 F, mR_10 F, mR_11 F, mR_12 F, mR_13 F, mR_15 F, mR_17 F, mR_25 F, mR_26 F, mR_27 F, mR_28 F, mR_29 F, mR_30 F, mR_35 F, mR_36 F, mR_37 F, mR_38 F, mR_40 F, mR_41 F, mR_42 F, mR_43 F, mR_44 F, mR_45 F, mR_46 F, mR_47 F, mK_63 F, mK_64 F, mK_65 F, mK_66 F, mK_67 F, mK_68 F, mK_69 F, mK_70 F, mK_71 F, mK_72 F, mK_73 F, mK_74 F, mK_75 F, mK_76 F, mK_77 F, mK_78 F, mK_79 F, mK_80 F, mK_81 F, mK_82 F, mK_83 F, mK_84 F, mK_85 F, mK_86 F, mK_87 F, mK_88 F, mK_89 F, mK_90 F, mK_91 F, mK_92 F, mK_93 F, mK_94 F, mK_95 F, mK_96 F, mK_97 F, e74, hn2]
    exact h
  · rintro k env st hlo hkn ⟨rfl, rfl⟩ Kx hx
    have hHk := hH n k hn (by omega)
    obtain ⟨h, hh⟩ : ∃ z : Nat, I 75 (6 * n + k) = (z : Int) := ⟨(I 75 (6 * n + k)).toNat, by omega⟩
    have hR2 := hR h (by omega)
    obtain ⟨p, hp⟩ : ∃ z : Nat, I 68 h = (z : Int) := ⟨(I 68 h).toNat, by omega⟩
    have e2 : o2 f_iadd (6 * (n : Int)) (k : Int) = 6 * (n : Int) + k := oA (by omega) (by omega)
    have t1 : (6 * (n : Int) + k).toNat = 6 * n + k := by omega
    have b1 : (0 : Int) ≤ 6 * (n : Int) + k ∧ 6 * (n : Int) + k < 1056 := by omega
    have h4 := notesH_4 (G := I) (n := n) (m := k)
    have hprJ : Pr J := fun s hs => by rw [hJ 79 (by decide) (by decide)]; exact hpr s hs
    have hprL : Pr (nL J (notesH I n k)) := fun s hs => by rw [nL_row (by decide) (by decide)]; exact hprJ s hs
    have hbL := Bd_nL hb hprJ h4.1
    have row : ∀ x, x ≠ 86 → x ≠ 87 → nL J (notesH I n k) x = I x := fun x h1 h2 => by rw [nL_row h1 h2, hJ x h1 h2]
    have r68 := row 68 (by decide) (by decide)
    have r73 := row 73 (by decide) (by decide)
    have r75 := row 75 (by decide) (by decide)
    have hh4 : h < 440 := by omega
    have goal : B_X9_needs [vR (some 63), vI p, vI q, vI 2] (kd, nL J (notesH I n k), R) (fun v st2 => v = vU ∧ Kx [vR (some 63), vI n, vI (k : Int), o3, o4] st2) := X9_needs_ok F (p := p) (q := q) (s := 2) (by omega) (by omega) (by decide) hbL (by omega) hprL ⟨rfl, hx _ _ rfl rfl ⟨rfl, by rw [notesH_S, nL_app, nL_one]; simp [hh, hp, hq]⟩⟩
    rw [← hp, ← hq] at goal
    simp [-Int.not_le, -Int.not_lt, bodyOf, envOf, exA, catV, rkOK, e_ci, e_lv, l_lv, r_lv, r_null, e_fld, r_fld, e_ald, z_ald, r_ald, e_len, e_op, e_dv, l_op, l_dv, l_sh, e_lcmp, e_l2i, e_min, c_b, c_not, c_and, c_or, c_null, c_eq, c_ne, c_lt, c_ge, c_gt, c_le, e_cond, x_tern, a_nil, a_I, a_L, a_R, g_callV, e_callV, r_callV, e_callS, s_skip, s_seq, s_st, s_stL, s_stR, s_inc, s_put, s_putZ, s_putR, s_putop, s_ast, s_zast, s_rast, s_astop, s_callV, s_popV, s_if, s_ite, s_itr, s_brk, s_retI, s_retR, s_ret, s_sw, noL, stI, stR, mR_0 F, mR_1 F, mR_2 F, mR_3 F, mR_4 F, mR_5 F, mR_6 F, mR_7 F, mR_8 F, mR_9 F, mR_10 F, mR_11 F, mR_12 F, mR_13 F, mR_15 F, mR_17 F, mR_25 F, mR_26 F, mR_27 F, mR_28 F, mR_29 F, mR_30 F, mR_35 F, mR_36 F, mR_37 F, mR_38 F, mR_40 F, mR_41 F, mR_42 F, mR_43 F, mR_44 F, mR_45 F, mR_46 F, mR_47 F, mK_63 F, mK_64 F, mK_65 F, mK_66 F, mK_67 F, mK_68 F, mK_69 F, mK_70 F, mK_71 F, mK_72 F, mK_73 F, mK_74 F, mK_75 F, mK_76 F, mK_77 F, mK_78 F, mK_79 F, mK_80 F, mK_81 F, mK_82 F, mK_83 F, mK_84 F, mK_85 F, mK_86 F, mK_87 F, mK_88 F, mK_89 F, mK_90 F, mK_91 F, mK_92 F, mK_93 F, mK_94 F, mK_95 F, mK_96 F, mK_97 F, e1, e2, t1, b1, r68, r73, r75, hh, hh4, hn2]
    exact goal
  · rintro env st ⟨rfl, rfl⟩
    rw [hmt, hm] at hk
    exact hk
set_option maxHeartbeats 4000000 in
theorem X9_ties_4 (F : isMod kd R) (hw : WF I) {J : Nat → Nat → Int} (hJ : ∀ x, x ≠ 86 → x ≠ 87 → J x = I x) {m0 : Nat} (hb : Bd J m0) (hm0 : m0 < 300) (hpr : Pr I) {v2 o3 o4 : AV} (h2 : opn v2) {Kn Kb : XE → XS → Prop} {Kr : AV → XS → Prop}
    (hk : ∀ v2, Kn [vR (some 63), vI (I 67 0), v2, o3, o4] (kd, nL J (notesN I (I 67 0).toNat), R)) : lp_X9_ties_4 Kn Kb Kr [vR (some 63), vI 0, v2, o3, o4] (kd, J, R) := by
  unfold lp_X9_ties_4
  have hw0 := hw
  obtain ⟨⟨hp0, hr0, hf0, hn0⟩, hR, hA, hFi, hN, -⟩ := hw
  obtain ⟨m, hm⟩ : ∃ m : Nat, I 67 0 = (m : Int) := ⟨(I 67 0).toNat, by omega⟩
  have hmt : (I 67 0).toNat = m := by omega
  refine forUp (lo := 0) (n := m) (fun k env st => ∃ v2, opn v2 ∧ env = [vR (some 63), vI (k : Int), v2, o3, o4] ∧ st = (kd, nL J (notesN I k), R)) (by omega) (by omega) ⟨v2, h2, rfl, by simp [notesN, nL]⟩ ?_ ?_ ?_
  · rintro k env st hk ⟨v2, h2, rfl, rfl⟩
    refine ⟨rfl, fun K h => ?_⟩
    have e67 : nL J (notesN I k) 67 0 = m := by rw [nL_row (by decide) (by decide), hJ 67 (by decide) (by decide), hm]
    simp [-Int.not_le, -Int.not_lt, bodyOf, envOf, exA, catV, rkOK, e_ci, e_lv, l_lv, r_lv, r_null, e_fld, r_fld, e_ald, z_ald, r_ald, e_len, e_op, e_dv, l_op, l_dv, l_sh, e_lcmp, e_l2i, e_min, c_b, c_not, c_and, c_or, c_null, c_eq, c_ne, c_lt, c_ge, c_gt, c_le, e_cond, x_tern, a_nil, a_I, a_L, a_R, g_callV, e_callV, r_callV, e_callS, s_skip, s_seq, s_st, s_stL, s_stR, s_inc, s_put, s_putZ, s_putR, s_putop, s_ast, s_zast, s_rast, s_astop, s_callV, s_popV, s_if, s_ite, s_itr, s_brk, s_retI, s_retR, s_ret, s_sw, noL, stI, stR, mR_0 F, mR_1 F, mR_2 F, mR_3 F, mR_4 F, mR_5 F, mR_6 F, mR_7 F, mR_8 F, mR_9 F, mR_10 F, mR_11 F, mR_12 F, mR_13 F, mR_15 F, mR_17 F, mR_25 F, mR_26 F, mR_27 F, mR_28 F, mR_29 F, mR_30 F, mR_35 F, mR_36 F, mR_37 F, mR_38 F, mR_40 F, mR_41 F, mR_42 F, mR_43 F, mR_44 F, mR_45 F, mR_46 F, mR_47 F, mK_63 F, mK_64 F, mK_65 F, mK_66 F, mK_67 F, mK_68 F, mK_69 F, mK_70 F, mK_71 F, mK_72 F, mK_73 F, mK_74 F, mK_75 F, mK_76 F, mK_77 F, mK_78 F, mK_79 F, mK_80 F, mK_81 F, mK_82 F, mK_83 F, mK_84 F, mK_85 F, mK_86 F, mK_87 F, mK_88 F, mK_89 F, mK_90 F, mK_91 F, mK_92 F, mK_93 F, mK_94 F, mK_95 F, mK_96 F, mK_97 F, e67]
    exact h
  · rintro k env st hlo hkn ⟨v2, h2, rfl, rfl⟩ Kx hx
    have hl := notesN_4 (G := I) (m := k) (fun r hr' => (hN r (by omega)).2.2)
    have hprJ : Pr J := fun s hs => by rw [hJ 79 (by decide) (by decide)]; exact hpr s hs
    have hbL := Bd_nL hb hprJ hl.1
    have goal := X9_ties_3 (Kn := Kx) (Kb := Kn) (Kr := Kr) F hw0 (n := k) (by omega) (J := nL J (notesN I k)) (fun x q1 q2 => by rw [nL_row q1 q2, hJ x q1 q2]) hbL (by omega) hpr (o3 := o3) (o4 := o4) (hx _ _ rfl rfl ⟨_, Or.inr ⟨_, rfl⟩, rfl, by rw [notesN_S, nL_app]⟩)
    rcases h2 with rfl | ⟨x2, rfl⟩ <;> simp [-Int.not_le, -Int.not_lt, bodyOf, envOf, exA, catV, rkOK, e_ci, e_lv, l_lv, r_lv, r_null, e_fld, r_fld, e_ald, z_ald, r_ald, e_len, e_op, e_dv, l_op, l_dv, l_sh, e_lcmp, e_l2i, e_min, c_b, c_not, c_and, c_or, c_null, c_eq, c_ne, c_lt, c_ge, c_gt, c_le, e_cond, x_tern, a_nil, a_I, a_L, a_R, g_callV, e_callV, r_callV, e_callS, s_skip, s_seq, s_st, s_stL, s_stR, s_inc, s_put, s_putZ, s_putR, s_putop, s_ast, s_zast, s_rast, s_astop, s_callV, s_popV, s_if, s_ite, s_itr, s_brk, s_retI, s_retR, s_ret, s_sw, noL, stI, stR, mR_0 F, mR_1 F, mR_2 F, mR_3 F, mR_4 F, mR_5 F, mR_6 F, mR_7 F, mR_8 F, mR_9 F, mR_10 F, mR_11 F, mR_12 F, mR_13 F, mR_15 F, mR_17 F, mR_25 F, mR_26 F, mR_27 F, mR_28 F, mR_29 F, mR_30 F, mR_35 F, mR_36 F, mR_37 F, mR_38 F, mR_40 F, mR_41 F, mR_42 F, mR_43 F, mR_44 F, mR_45 F, mR_46 F, mR_47 F, mK_63 F, mK_64 F, mK_65 F, mK_66 F, mK_67 F, mK_68 F, mK_69 F, mK_70 F, mK_71 F, mK_72 F, mK_73 F, mK_74 F, mK_75 F, mK_76 F, mK_77 F, mK_78 F, mK_79 F, mK_80 F, mK_81 F, mK_82 F, mK_83 F, mK_84 F, mK_85 F, mK_86 F, mK_87 F, mK_88 F, mK_89 F, mK_90 F, mK_91 F, mK_92 F, mK_93 F, mK_94 F, mK_95 F, mK_96 F, mK_97 F] <;> exact goal
  · rintro env st ⟨v2, h2, rfl, rfl⟩
    rw [hmt, hm] at hk
    exact hk _
set_option maxHeartbeats 4000000 in
theorem X9_ties_ok (F : isMod kd R) (hw : WF I) (hz : Z77 I) (hpr : Pr I) (hbig : ∀ k, 100 ≤ k → I 86 k = 0 ∧ I 87 k = 0) (hk : K vU (kd, nL (clr I 100) (notes I), R)) : B_X9_ties [vR (some 63)] (kd, I, R) K := by
  have hrow : ∀ x, x ≠ 86 → x ≠ 87 → clr I 100 x = I x := fun x h1 h2 => by funext j; simp [clr, h1, h2]
  have hb0 : Bd (clr I 100) 0 := by
    intro k
    have := hbig k
    by_cases h : k < 100
    · simp [clr, h]
    · simp [clr, h, this (by omega)]
  have hprC : Pr (clr I 100) := fun s hs => by rw [hrow 79 (by decide) (by decide)]; exact hpr s hs
  obtain ⟨⟨hp0, hr0, hf0, hn0⟩, hR, hA, hFi, hN, -⟩ := id hw
  have hl := notesRs_4 (G := I) (m := (I 65 0).toNat) (fun r hr' => (hR r (by omega)).2.1.2)
  simp [B_X9_ties, t_X9_ties, -Int.not_le, -Int.not_lt, bodyOf, envOf, exA, catV, rkOK, e_ci, e_lv, l_lv, r_lv, r_null, e_fld, r_fld, e_ald, z_ald, r_ald, e_len, e_op, e_dv, l_op, l_dv, l_sh, e_lcmp, e_l2i, e_min, c_b, c_not, c_and, c_or, c_null, c_eq, c_ne, c_lt, c_ge, c_gt, c_le, e_cond, x_tern, a_nil, a_I, a_L, a_R, g_callV, e_callV, r_callV, e_callS, s_skip, s_seq, s_st, s_stL, s_stR, s_inc, s_put, s_putZ, s_putR, s_putop, s_ast, s_zast, s_rast, s_astop, s_callV, s_popV, s_if, s_ite, s_itr, s_brk, s_retI, s_retR, s_ret, s_sw, noL, stI, stR]
  refine X9_ties_0 F ?_
  refine ⟨Nat.le_of_ble_eq_true rfl, rfl, X9_ties_2 F hw hz hrow hb0 hpr (fun v2 o3 o4 h2 h3 h4 => ?_)⟩
  refine ⟨Nat.le_of_ble_eq_true rfl, rfl, X9_ties_4 F hw (fun x q1 q2 => by rw [nL_row q1 q2, hrow x q1 q2]) (Bd_nL hb0 hprC hl.1) (by omega) hpr h2 (fun v2 => ?_)⟩
  rw [notes, nL_app] at hk
  exact hk
end MU
