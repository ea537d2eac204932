/-! ties: what the parts need, as a row of notes -/
def WF (G : Nat → Nat → Int) : Prop :=
  ((0 ≤ G 64 0 ∧ G 64 0 ≤ 10) ∧ (0 ≤ G 65 0 ∧ G 65 0 ≤ 20) ∧ (0 ≤ G 66 0 ∧ G 66 0 ≤ 10) ∧ (0 ≤ G 67 0 ∧ G 67 0 ≤ 8)) ∧
  (∀ r : Nat, (r : Int) < G 65 0 → (0 ≤ G 68 r ∧ G 68 r < G 64 0) ∧ (0 ≤ G 69 r ∧ G 69 r ≤ 10) ∧ (G 77 r = 1 → G 69 r = 1 ∧ G 70 (10 * r) = 4)) ∧
  (∀ r i : Nat, (r : Int) < G 65 0 → (i : Int) < G 69 r → (0 ≤ G 70 (10 * r + i) ∧ G 70 (10 * r + i) ≤ 6) ∧ (0 ≤ G 71 (10 * r + i) ∧ G 71 (10 * r + i) ≤ 999) ∧ (G 70 (10 * r + i) = 2 ∨ G 70 (10 * r + i) = 3 → G 71 (10 * r + i) < G 66 0) ∧ (G 70 (10 * r + i) = 4 ∨ G 70 (10 * r + i) = 5 → G 71 (10 * r + i) < G 65 0) ∧ (G 70 (10 * r + i) = 6 → G 71 (10 * r + i) < G 67 0)) ∧
  (∀ f : Nat, (f : Int) < G 66 0 → 0 ≤ G 72 f ∧ G 72 f < G 64 0) ∧
  (∀ n : Nat, (n : Int) < G 67 0 → (0 ≤ G 73 n ∧ G 73 n < G 64 0) ∧ (0 ≤ G 74 n ∧ G 74 n ≤ 6)) ∧
  (∀ n i : Nat, (n : Int) < G 67 0 → (i : Int) < G 74 n → 0 ≤ G 75 (6 * n + i) ∧ G 75 (6 * n + i) < G 65 0) ∧
  (∀ k : Nat, k < 100 → 0 ≤ G 76 k ∧ G 76 k ≤ 999) ∧
  (∀ p q : Nat, p < 10 → q < 10 → G 64 0 ≤ p ∨ G 64 0 ≤ q → G 76 (10 * p + q) = 0)
abbrev NTE : Type := Nat × Nat × Nat
def nM (I : Nat → Nat → Int) (n : NTE) : Nat → Nat → Int := if n.1 ≠ n.2.1 ∧ I 76 (10 * n.1 + n.2.1) ≤ I 63 18 then upI (upI I 86 (10 * n.1 + n.2.1) (I 86 (10 * n.1 + n.2.1) + 1)) 87 (10 * n.1 + n.2.1) (I 87 (10 * n.1 + n.2.1) + I 79 n.2.2) else I
def nL (I : Nat → Nat → Int) (l : List NTE) : Nat → Nat → Int := l.foldl nM I
theorem nM_row {I : Nat → Nat → Int} {n : NTE} {x : Nat} (h1 : x ≠ 86) (h2 : x ≠ 87) : nM I n x = I x := by
  unfold nM
  split
  · rw [upI_row h2, upI_row h1]
  · rfl
theorem nL_row {l : List NTE} {x : Nat} (h1 : x ≠ 86) (h2 : x ≠ 87) : ∀ {I : Nat → Nat → Int}, nL I l x = I x := by
  induction l with
  | nil => intro I; rfl
  | cons n l ih => intro I; show nL (nM I n) l x = _; rw [ih, nM_row h1 h2]
theorem nL_app (I : Nat → Nat → Int) (l m : List NTE) : nL I (l ++ m) = nL (nL I l) m := List.foldl_append
theorem nL_one (I : Nat → Nat → Int) (n : NTE) : nL I [n] = nM I n := rfl
/-- counts and costs behind at most m notes -/
def Bd (J : Nat → Nat → Int) (m : Nat) : Prop := ∀ k, (0 ≤ J 86 k ∧ J 86 k ≤ m) ∧ (0 ≤ J 87 k ∧ J 87 k ≤ 99 * (m : Int))
def Pr (I : Nat → Nat → Int) : Prop := ∀ s, s < 4 → 0 ≤ I 79 s ∧ I 79 s ≤ 99
theorem Bd_nM {J : Nat → Nat → Int} {m : Nat} {n : NTE} (h : Bd J m) (hp : Pr J) (hn : n.2.2 < 4) : Bd (nM J n) (m + 1) := by
  intro k
  have hk := h k
  have hs := hp _ hn
  have hi := h (10 * n.1 + n.2.1)
  unfold nM
  split
  · by_cases e : k = 10 * n.1 + n.2.1
    · subst e
      simp [upI]
      omega
    · simp [upI, e]
      omega
  · omega
theorem Bd_nL {l : List NTE} : ∀ {J : Nat → Nat → Int} {m : Nat}, Bd J m → Pr J → (∀ n ∈ l, n.2.2 < 4) → Bd (nL J l) (m + l.length) := by
  induction l with
  | nil => intro J m h _ _; exact h
  | cons n l ih =>
    intro J m h hp hl
    have h1 : Pr (nM J n) := fun s hs => by rw [nM_row (by decide) (by decide)]; exact hp s hs
    have := ih (Bd_nM h hp (hl n List.mem_cons_self)) h1 (fun z hz => hl z (List.mem_cons_of_mem _ hz))
    rw [List.length_cons, show m + (l.length + 1) = m + 1 + l.length by omega]
    exact this
def noteA (G : Nat → Nat → Int) (r k : Nat) : List NTE := if G 77 r = 1 then [((G 68 (G 71 k).toNat).toNat, (G 68 r).toNat, 3)] else if G 70 k = 4 ∨ G 70 k = 5 then [((G 68 r).toNat, (G 68 (G 71 k).toNat).toNat, 0)] else if G 70 k = 2 ∨ G 70 k = 3 then [((G 68 r).toNat, (G 72 (G 71 k).toNat).toNat, 1)] else if G 70 k = 6 then [((G 68 r).toNat, (G 73 (G 71 k).toNat).toNat, 2)] else []
def notesR (G : Nat → Nat → Int) (r m : Nat) : List NTE := (List.range m).flatMap (fun i => noteA G r (10 * r + i))
def notesRs (G : Nat → Nat → Int) (n : Nat) : List NTE := (List.range n).flatMap (fun r => notesR G r (G 69 r).toNat)
def notesH (G : Nat → Nat → Int) (n m : Nat) : List NTE := (List.range m).map (fun i => ((G 68 (G 75 (6 * n + i)).toNat).toNat, (G 73 n).toNat, 2))
def notesN (G : Nat → Nat → Int) (n : Nat) : List NTE := (List.range n).flatMap (fun j => notesH G j (G 74 j).toNat)
def notes (G : Nat → Nat → Int) : List NTE := notesRs G (G 65 0).toNat ++ notesN G (G 67 0).toNat
theorem notesR_S (G : Nat → Nat → Int) (r m : Nat) : notesR G r (m + 1) = notesR G r m ++ noteA G r (10 * r + m) := by simp [notesR, List.range_succ]
theorem notesRs_S (G : Nat → Nat → Int) (n : Nat) : notesRs G (n + 1) = notesRs G n ++ notesR G n (G 69 n).toNat := by simp [notesRs, List.range_succ]
theorem notesH_S (G : Nat → Nat → Int) (n m : Nat) : notesH G n (m + 1) = notesH G n m ++ [((G 68 (G 75 (6 * n + m)).toNat).toNat, (G 73 n).toNat, 2)] := by simp [notesH, List.range_succ]
theorem notesN_S (G : Nat → Nat → Int) (n : Nat) : notesN G (n + 1) = notesN G n ++ notesH G n (G 74 n).toNat := by simp [notesN, List.range_succ]
theorem noteA_4 {G : Nat → Nat → Int} {r k : Nat} : (∀ n ∈ noteA G r k, n.2.2 < 4) ∧ (noteA G r k).length ≤ 1 := by
  unfold noteA
  repeat' split
  all_goals simp
theorem notesR_4 {G : Nat → Nat → Int} {r m : Nat} : (∀ n ∈ notesR G r m, n.2.2 < 4) ∧ (notesR G r m).length ≤ m := by
  induction m with
  | zero => simp [notesR]
  | succ m ih =>
    rw [notesR_S]
    have h := noteA_4 (G := G) (r := r) (k := 10 * r + m)
    refine ⟨fun n hn => ?_, by rw [List.length_append]; omega⟩
    rcases List.mem_append.mp hn with q | q
    · exact ih.1 n q
    · exact h.1 n q
theorem notesRs_4 {G : Nat → Nat → Int} {m : Nat} (h : ∀ r : Nat, r < m → G 69 r ≤ 10) : (∀ n ∈ notesRs G m, n.2.2 < 4) ∧ (notesRs G m).length ≤ 10 * m := by
  induction m with
  | zero => simp [notesRs]
  | succ m ih =>
    rw [notesRs_S]
    have i := ih (fun r hr => h r (by omega))
    have q := notesR_4 (G := G) (r := m) (m := (G 69 m).toNat)
    have := h m (by omega)
    refine ⟨fun n hn => ?_, by rw [List.length_append]; omega⟩
    rcases List.mem_append.mp hn with z | z
    · exact i.1 n z
    · exact q.1 n z
theorem notesH_4 {G : Nat → Nat → Int} {n m : Nat} : (∀ z ∈ notesH G n m, z.2.2 < 4) ∧ (notesH G n m).length = m := by
  refine ⟨fun z hz => ?_, by simp [notesH]⟩
  obtain ⟨i, -, rfl⟩ := List.mem_map.mp hz
  exact (by decide : 2 < 4)
theorem notesN_4 {G : Nat → Nat → Int} {m : Nat} (h : ∀ r : Nat, r < m → G 74 r ≤ 6) : (∀ n ∈ notesN G m, n.2.2 < 4) ∧ (notesN G m).length ≤ 6 * m := by
  induction m with
  | zero => simp [notesN]
  | succ m ih =>
    rw [notesN_S]
    have i := ih (fun r hr => h r (by omega))
    have q := notesH_4 (G := G) (n := m) (m := (G 74 m).toNat)
    have := h m (by omega)
    refine ⟨fun n hn => ?_, by rw [List.length_append]; omega⟩
    rcases List.mem_append.mp hn with z | z
    · exact i.1 n z
    · exact q.1 n z
section MT
variable {kd : List (Nat × Nat)} {R : Nat → Nat → Option Nat} {I : Nat → Nat → Int} {K : AV → XS → Prop}
set_option maxHeartbeats 2000000 in
theorem X9_needs_ok (F : isMod kd R) {p q s m : Nat} (hp : p < 10) (hq : q < 10) (hs : s < 4) (hb : Bd I m) (hm : m < 1000) (hpr : Pr I) (hk : K vU (kd, nM I (p, q, s), R)) : B_X9_needs [vR (some 63), vI p, vI q, vI s] (kd, I, R) K := by
  have e1 : o2 f_imul 10 (p : Int) = 10 * (p : Int) := oM (by omega) (by omega)
  have e3 : o2 f_iadd (10 * (p : Int)) (q : Int) = 10 * (p : Int) + q := oA (by omega) (by omega)
  have e5 : (10 * (p : Int) + q).toNat = 10 * p + q := by omega
  have b1 : (0 : Int) ≤ 10 * (p : Int) + q ∧ 10 * (p : Int) + q < 100 := by omega
  have b2 : 10 * (p : Int) + q < 2200 := by omega
  have hbk := hb (10 * p + q)
  have hps := hpr s hs
  have e6 : o2 f_iadd (I 86 (10 * p + q)) 1 = I 86 (10 * p + q) + 1 := oA (by omega) (by omega)
  have e7 : o2 f_iadd (I 87 (10 * p + q)) (I 79 s) = I 87 (10 * p + q) + I 79 s := oA (by omega) (by omega)
  by_cases h1 : p = q
  · have hk : K vU (kd, I, R) := by simpa [nM, h1] using hk
    simp [B_X9_needs, t_X9_needs, -Int.not_le, -Int.not_lt, bodyOf, envOf, exA, catV, rkOK, e_ci, e_lv, l_lv, r_lv, r_null, e_fld, r_fld, e_ald, z_ald, r_ald, e_len, e_op, e_dv, l_op, l_dv, l_sh, e_lcmp, e_l2i, e_min, c_b, c_not, c_and, c_or, c_null, c_eq, c_ne, c_lt, c_ge, c_gt, c_le, e_cond, x_tern, a_nil, a_I, a_L, a_R, g_callV, e_callV, r_callV, e_callS, s_skip, s_seq, s_st, s_stL, s_stR, s_inc, s_put, s_putZ, s_putR, s_putop, s_ast, s_zast, s_rast, s_astop, s_callV, s_popV, s_if, s_ite, s_itr, s_brk, s_retI, s_retR, s_ret, s_sw, noL, stI, stR, mR_0 F, mR_1 F, mR_2 F, mR_3 F, mR_4 F, mR_5 F, mR_6 F, mR_7 F, mR_8 F, mR_9 F, mR_10 F, mR_11 F, mR_12 F, mR_13 F, mR_15 F, mR_17 F, mR_25 F, mR_26 F, mR_27 F, mR_28 F, mR_29 F, mR_30 F, mR_35 F, mR_36 F, mR_37 F, mR_38 F, mR_40 F, mR_41 F, mR_42 F, mR_43 F, mR_44 F, mR_45 F, mR_46 F, mR_47 F, mK_63 F, mK_64 F, mK_65 F, mK_66 F, mK_67 F, mK_68 F, mK_69 F, mK_70 F, mK_71 F, mK_72 F, mK_73 F, mK_74 F, mK_75 F, mK_76 F, mK_77 F, mK_78 F, mK_79 F, mK_80 F, mK_81 F, mK_82 F, mK_83 F, mK_84 F, mK_85 F, mK_86 F, mK_87 F, mK_88 F, mK_89 F, mK_90 F, mK_91 F, mK_92 F, mK_93 F, mK_94 F, mK_95 F, mK_96 F, mK_97 F, h1, hk]
  · have h1' : ¬ ((p : Int) = q) := by omega
    by_cases h2 : I 76 (10 * p + q) ≤ I 63 18
    · simp only [nM, h1, h2, ne_eq, not_false_eq_true, and_self, if_true] at hk
      simp [B_X9_needs, t_X9_needs, -Int.not_le, -Int.not_lt, bodyOf, envOf, exA, catV, rkOK, e_ci, e_lv, l_lv, r_lv, r_null, e_fld, r_fld, e_ald, z_ald, r_ald, e_len, e_op, e_dv, l_op, l_dv, l_sh, e_lcmp, e_l2i, e_min, c_b, c_not, c_and, c_or, c_null, c_eq, c_ne, c_lt, c_ge, c_gt, c_le, e_cond, x_tern, a_nil, a_I, a_L, a_R, g_callV, e_callV, r_callV, e_callS, s_skip, s_seq, s_st, s_stL, s_stR, s_inc, s_put, s_putZ, s_putR, s_putop, s_ast, s_zast, s_rast, s_astop, s_callV, s_popV, s_if, s_ite, s_itr, s_brk, s_retI, s_retR, s_ret, s_sw, noL, stI, stR, mR_0 F, mR_1 F, mR_2 F, mR_3 F, mR_4 F, mR_5 F, mR_6 F, mR_7 F, mR_8 F, mR_9 F, mR_10 F, mR_11 F, mR_12 F, mR_13 F, mR_15 F, mR_17 F, mR_25 F, mR_26 F, mR_27 F, mR_28 F, mR_29 F, mR_30 F, mR_35 F, mR_36 F, mR_37 F, mR_38 F, mR_40 F, mR_41 F, mR_42 F, mR_43 F, mR_44 F, mR_45 F, mR_46 F, mR_47 F, mK_63 F, mK_64 F, mK_65 F, mK_66 F, mK_67 F, mK_68 F, mK_69 F, mK_70 F, mK_71 F, mK_72 F, mK_73 F, mK_74 F, mK_75 F, mK_76 F, mK_77 F, mK_78 F, mK_79 F, mK_80 F, mK_81 F, mK_82 F, mK_83 F, mK_84 F, mK_85 F, mK_86 F, mK_87 F, mK_88 F, mK_89 F, mK_90 F, mK_91 F, mK_92 F, mK_93 F, mK_94 F, mK_95 F, mK_96 F, mK_97 F, h1, h1', h2, e1, e3, e5, b1, b2, e6, e7, hs, upI]
      exact hk
    · simp only [nM, h2, and_false, if_false] at hk
      simp [B_X9_needs, t_X9_needs, -Int.not_le, -Int.not_lt, bodyOf, envOf, exA, catV, rkOK, e_ci, e_lv, l_lv, r_lv, r_null, e_fld, r_fld, e_ald, z_ald, r_ald, e_len, e_op, e_dv, l_op, l_dv, l_sh, e_lcmp, e_l2i, e_min, c_b, c_not, c_and, c_or, c_null, c_eq, c_ne, c_lt, c_ge, c_gt, c_le, e_cond, x_tern, a_nil, a_I, a_L, a_R, g_callV, e_callV, r_callV, e_callS, s_skip, s_seq, s_st, s_stL, s_stR, s_inc, s_put, s_putZ, s_putR, s_putop, s_ast, s_zast, s_rast, s_astop, s_callV, s_popV, s_if, s_ite, s_itr, s_brk, s_retI, s_retR, s_ret, s_sw, noL, stI, stR, mR_0 F, mR_1 F, mR_2 F, mR_3 F, mR_4 F, mR_5 F, mR_6 F, mR_7 F, mR_8 F, mR_9 F, mR_10 F, mR_11 F, mR_12 F, mR_13 F, mR_15 F, mR_17 F, mR_25 F, mR_26 F, mR_27 F, mR_28 F, mR_29 F, mR_30 F, mR_35 F, mR_36 F, mR_37 F, mR_38 F, mR_40 F, mR_41 F, mR_42 F, mR_43 F, mR_44 F, mR_45 F, mR_46 F, mR_47 F, mK_63 F, mK_64 F, mK_65 F, mK_66 F, mK_67 F, mK_68 F, mK_69 F, mK_70 F, mK_71 F, mK_72 F, mK_73 F, mK_74 F, mK_75 F, mK_76 F, mK_77 F, mK_78 F, mK_79 F, mK_80 F, mK_81 F, mK_82 F, mK_83 F, mK_84 F, mK_85 F, mK_86 F, mK_87 F, mK_88 F, mK_89 F, mK_90 F, mK_91 F, mK_92 F, mK_93 F, mK_94 F, mK_95 F, mK_96 F, mK_97 F, h1, h1', h2, e1, e3, e5, b1, b2, hk]
end MT
