/-! layers -/
def updL (l : Nat → Int) (x : Nat) (v : Int) : Nat → Int := fun k => if k = x then v else l k
def l1 (e : Nat → Int) (l : Nat → Int) (x y : Nat) : Nat → Int := if 0 < e (10 * x + y) ∧ l x ≤ l y then updL l x (l y + 1) else l
def l2 (e : Nat → Int) (l : Nat → Int) (x : Nat) : Nat → Nat → Int
  | 0 => l
  | m + 1 => l1 e (l2 e l x m) x m
def l3 (e : Nat → Int) (n : Nat) (l : Nat → Int) : Nat → Nat → Int
  | 0 => l
  | m + 1 => l2 e (l3 e n l m) m n
def l4 (e : Nat → Int) (n : Nat) : Nat → Nat → Int
  | 0 => fun _ => 0
  | t + 1 => l3 e n (l4 e n t) n
section LY
variable {e : Nat → Int} {n : Nat}
theorem l1_ne {l : Nat → Int} {x y k : Nat} (h : k ≠ x) : l1 e l x y k = l k := by
  unfold l1
  split
  · simp [updL, h]
  · rfl
theorem l1_ge {l : Nat → Int} {x y : Nat} (k : Nat) : l k ≤ l1 e l x y k := by
  by_cases h : k = x
  · subst h
    unfold l1
    split
    · simp [updL]; omega
    · exact Int.le_refl _
  · rw [l1_ne h]; exact Int.le_refl _
theorem l1_rng {l : Nat → Int} {x y : Nat} {M : Int} (h : ∀ k, 0 ≤ l k ∧ l k ≤ M) (k : Nat) : 0 ≤ l1 e l x y k ∧ l1 e l x y k ≤ M + 1 := by
  have h1 := h k
  have h2 := h y
  unfold l1
  split
  · unfold updL; split <;> omega
  · omega
theorem l2_ne {l : Nat → Int} {x k : Nat} (h : k ≠ x) (m : Nat) : l2 e l x m k = l k := by
  induction m with
  | zero => rfl
  | succ m ih => rw [l2, l1_ne h, ih]
theorem l2_ge {l : Nat → Int} {x : Nat} (m k : Nat) : l k ≤ l2 e l x m k := by
  induction m with
  | zero => exact Int.le_refl _
  | succ m ih => rw [l2]; exact Int.le_trans ih (l1_ge k)
theorem l2_rng {l : Nat → Int} {x : Nat} {M : Int} (h : ∀ k, 0 ≤ l k ∧ l k ≤ M) (m k : Nat) : 0 ≤ l2 e l x m k ∧ l2 e l x m k ≤ M + m := by
  induction m generalizing k with
  | zero => simpa [l2] using h k
  | succ m ih => have := l1_rng (e := e) (x := x) (y := m) ih k
                 rw [l2]; omega
theorem l3_ge {l : Nat → Int} (m k : Nat) : l k ≤ l3 e n l m k := by
  induction m with
  | zero => exact Int.le_refl _
  | succ m ih => rw [l3]; exact Int.le_trans ih (l2_ge n k)
theorem l3_mono {l : Nat → Int} {m m' : Nat} (h : m ≤ m') (k : Nat) : l3 e n l m k ≤ l3 e n l m' k := by
  induction m' with
  | zero => have : m = 0 := by omega
            subst this; exact Int.le_refl _
  | succ m' ih =>
    by_cases hm : m = m' + 1
    · subst hm; exact Int.le_refl _
    · rw [l3]; exact Int.le_trans (ih (by omega)) (l2_ge n k)
theorem l3_rng {l : Nat → Int} {M : Int} (h : ∀ k, 0 ≤ l k ∧ l k ≤ M) (m k : Nat) : 0 ≤ l3 e n l m k ∧ l3 e n l m k ≤ M + n * m := by
  induction m generalizing k with
  | zero => simpa [l3] using h k
  | succ m ih => have := l2_rng (e := e) (x := m) ih n k
                 have e1 : (n : Int) * ((m + 1 : Nat) : Int) = n * m + n := by rw [Int.natCast_add, Int.mul_add]; simp
                 rw [l3, e1]; omega
theorem l3_hi {l : Nat → Int} {m k : Nat} (h : m ≤ k) : l3 e n l m k = l k := by
  induction m with
  | zero => rfl
  | succ m ih => rw [l3, l2_ne (by omega), ih (by omega)]
theorem l3_lo {l : Nat → Int} {m k : Nat} (h : k < m) : l3 e n l m k = l2 e (l3 e n l k) k n k := by
  induction m with
  | zero => omega
  | succ m ih =>
    by_cases hk : k = m
    · subst hk; rfl
    · rw [l3, l2_ne hk, ih (by omega)]
theorem l4_rng (hn : n ≤ 10) (t k : Nat) : 0 ≤ l4 e n t k ∧ l4 e n t k ≤ 100 * t := by
  induction t generalizing k with
  | zero => simp [l4]
  | succ t ih =>
    have := l3_rng (e := e) (n := n) ih n k
    have h2 : (n : Int) * n ≤ 10 * 10 := Int.mul_le_mul (by omega) (by omega) (by omega) (by decide)
    rw [l4]; omega
/-- behind a row's walk it stands above all that it needs -/
theorem l2_ab {l : Nat → Int} {x : Nat} : ∀ {m y : Nat}, y < m → y ≠ x → 0 < e (10 * x + y) → l y + 1 ≤ l2 e l x m x := by
  intro m
  induction m with
  | zero => intro y h; omega
  | succ m ih =>
    intro y hy hyx he
    by_cases h : y = m
    · subst h
      rw [l2]
      have e1 := l2_ne (e := e) (l := l) hyx y
      unfold l1
      split
      · simp [updL]; omega
      · rename_i hh
        have : ¬ l2 e l x y x ≤ l2 e l x y y := fun q => hh ⟨he, q⟩
        omega
    · rw [l2]; exact Int.le_trans (ih (by omega) hyx he) (l1_ge x)
theorem l2_fix {l : Nat → Int} {x : Nat} : ∀ {m : Nat}, (∀ y, y < m → 0 < e (10 * x + y) → l y < l x) → l2 e l x m = l := by
  intro m
  induction m with
  | zero => intro _; rfl
  | succ m ih =>
    intro h
    rw [l2, ih (fun y hy => h y (by omega)), l1, if_neg]
    rintro ⟨h1, h2⟩
    have := h m (by omega) h1
    omega
/-- how many one comes to -/
def rank (e : Nat → Int) (n p : Nat) : Int := sumN (fun q => b2i (rch e n p q)) n
theorem b2i_rng (b : Bool) : 0 ≤ b2i b ∧ b2i b ≤ 1 := by cases b <;> simp [b2i]
theorem sumN_mono {f g : Nat → Int} {n : Nat} (h : ∀ k, k < n → f k ≤ g k) : sumN f n ≤ sumN g n := by
  induction n with
  | zero => exact Int.le_refl _
  | succ n ih => have := ih (fun k hk => h k (by omega))
                 have := h n (by omega)
                 simp only [sumN]; omega
theorem sumN_lt {f g : Nat → Int} {n j : Nat} (hj : j < n) (h : ∀ k, k < n → f k ≤ g k) (hs : f j < g j) : sumN f n < sumN g n := by
  induction n with
  | zero => omega
  | succ n ih =>
    have h1 := h n (by omega)
    by_cases hjn : j = n
    · subst hjn
      have := sumN_mono (n := j) (fun k hk => h k (by omega))
      simp only [sumN]; omega
    · have := ih (by omega) (fun k hk => h k (by omega))
      simp only [sumN]; omega
theorem rank_lt (hac : ∀ p, p < n → rch e n p p = false) {p y : Nat} (hy : y < n) (he : 0 < e (10 * p + y)) : rank e n y < rank e n p := by
  have h1 := rch_edge (n := n) he
  refine sumN_lt hy (fun k _ => ?_) ?_
  · cases hk : rch e n y k
    · have := b2i_rng (rch e n p k); simp [b2i]; split <;> omega
    · rw [rch_tri hy h1 hk]; exact Int.le_refl _
  · rw [hac y hy, h1]; decide
theorem rank_nn (p : Nat) : 0 ≤ rank e n p := (sb_le (rch e n p) n).1
theorem rank_n (hac : ∀ p, p < n → rch e n p p = false) {p : Nat} (hp : p < n) : rank e n p < n := by
  have := sumN_lt (f := fun q => b2i (rch e n p q)) (g := fun _ => 1) hp (fun k _ => (b2i_rng _).2) (by rw [hac p hp]; decide)
  have e1 : ∀ m : Nat, sumN (fun _ => 1) m = m := by
    intro m
    induction m with
    | zero => rfl
    | succ m ih => simp only [sumN, ih]; omega
  rw [e1] at this
  exact this
theorem l4_stab (hac : ∀ p, p < n → rch e n p p = false) : ∀ (r p : Nat), p < n → rank e n p < r → ∀ t : Nat, rank e n p ≤ t → l4 e n (t + 1) p = l4 e n t p := by
  intro r
  induction r with
  | zero => intro p _ h; have := rank_nn (e := e) (n := n) p; omega
  | succ r ih =>
    intro p hp hr t ht
    have hne : ∀ y, y < n → 0 < e (10 * p + y) → y ≠ p := fun y hy he q => by
      subst q
      have := rch_edge (n := n) he
      rw [hac y hy] at this
      exact absurd this (by simp)
    have hmid : ∀ y t m, m ≤ n → l4 e n (t + 1) y = l4 e n t y → l3 e n (l4 e n t) m y = l4 e n t y := fun y t m hm h => by
      have a := l3_ge (e := e) (n := n) (l := l4 e n t) m y
      have b := l3_mono (e := e) (n := n) (l := l4 e n t) hm y
      have c : l3 e n (l4 e n t) n y = l4 e n (t + 1) y := rfl
      omega
    have key : ∀ y, y < n → 0 < e (10 * p + y) → l4 e n t y < l4 e n t p := by
      intro y hy he
      have hl := rank_lt hac hy he
      have hy0 := rank_nn (e := e) (n := n) y
      rcases t with _ | t
      · omega
      · have st := ih y hy (by omega) t (by omega)
        have e1 : l4 e n (t + 1) p = l2 e (l3 e n (l4 e n t) p) p n p := l3_lo hp
        have e2 := l2_ab (e := e) (l := l3 e n (l4 e n t) p) (x := p) (m := n) hy (hne y hy he) he
        rw [hmid y t p (by omega) st] at e2
        omega
    have e1 : l4 e n (t + 1) p = l2 e (l3 e n (l4 e n t) p) p n p := l3_lo hp
    rw [e1, l2_fix]
    · exact l3_hi (Nat.le_refl p)
    · intro y hy he
      have hl := rank_lt hac hy he
      rw [l3_hi (Nat.le_refl p), hmid y t p (by omega) (ih y hy (by omega) t (by omega))]
      exact key y hy he
theorem l4_end (hac : ∀ p, p < n → rch e n p p = false) {p t : Nat} (hp : p < n) (ht : n - 1 ≤ t) : l4 e n t p = l4 e n (n - 1) p := by
  have hr := rank_n hac hp
  induction t with
  | zero => have : n - 1 = 0 := by omega
            rw [this]
  | succ t ih =>
    by_cases h : n - 1 = t + 1
    · rw [h]
    · rw [l4_stab hac n p hp hr t (by omega), ih (by omega)]
/-- no group of two: no way comes back -/
theorem hasG_no (hd : ∀ p, ¬ 0 < e (10 * p + p)) (hn : n ≤ 10) : hasG e n = false ↔ ∀ p, p < n → rch e n p p = false := by
  constructor
  · intro h p hp
    cases hr : rch e n p p with
    | false => rfl
    | true =>
      exfalso
      obtain ⟨x, h1, h2, h3, h4⟩ := (rch_self hd hn).mp hr
      have ho : one e n p x = true := by simp [one, h3, h4]
      have ho' : one e n x p = true := by rw [one_comm]; exact ho
      have : hasG e n = true := by
        rw [hasG, anyN_iff]
        rcases Nat.lt_or_gt_of_ne h2 with h5 | h5
        · exact ⟨p, hp, anyN_iff.mpr ⟨x, h5, ho⟩⟩
        · exact ⟨x, h1, anyN_iff.mpr ⟨p, h5, ho'⟩⟩
      rw [h] at this
      exact absurd this (by simp)
  · intro h
    cases hg : hasG e n with
    | false => rfl
    | true =>
      exfalso
      rw [hasG, anyN_iff] at hg
      obtain ⟨p, hp, hg⟩ := hg
      obtain ⟨q, hq, hg⟩ := anyN_iff.mp hg
      simp [one] at hg
      have := (rch_self hd hn (p := p)).mpr ⟨q, by omega, by omega, hg.1, hg.2⟩
      rw [h p hp] at this
      exact absurd this (by simp)
end LY
section LR
variable {kd : List (Nat × Nat)} {R : Nat → Nat → Option Nat} {I : Nat → Nat → Int} {K : AV → XS → Prop}
set_option maxHeartbeats 4000000 in
theorem X9_layer_0 (F : isMod kd R) {p : Int} {v3 v4 v5 : AV} {S0 : Nat → Nat → Int} (e_S : S0 = setRow I 95 (0) (fun _ => 0)) {Kn Kb : XE → XS → Prop} {Kr : AV → XS → Prop} 
    (hkk : Kn [vR (some 63), vI p, vI 10, v3, v4, v5] (kd, setRow I 95 (10) (fun _ => 0), R)) : lp_X9_layer_0 Kn Kb Kr [vR (some 63), vI p, vI 0, v3, v4, v5] (kd, S0, R) := by
  unfold lp_X9_layer_0
  refine forUp (lo := 0) (n := 10) (fun k env st => env = [vR (some 63), vI p, vI (k : Int), v3, v4, v5] ∧ st = (kd, setRow I 95 (k) (fun _ => 0), R)) (by omega) (by omega) ⟨rfl, by first | (rw [e_S]; done) | (rw [e_S]; rfl)⟩ ?_ ?_ ?_
  · rintro k env st hle ⟨rfl, rfl⟩
    first | exact ⟨rfl, fun K h => h⟩ | exact ⟨rfl, fun K h => ⟨_, rfl, h⟩⟩ | (refine ⟨rfl, fun K h => ?_⟩; simp (disch := omega) [-Int.not_le, -Int.not_lt, ↓e_ci_p, ↓e_lv_p, ↓l_lv_p, ↓r_lv_p, ↓r_null_p, ↓e_fld_p, ↓r_fld_p, ↓e_ald_p, ↓z_ald_p, ↓r_ald_p, ↓e_len_p, ↓e_op_p, ↓e_dv_p, ↓l_op_p, ↓l_dv_p, ↓l_sh_p, ↓e_lcmp_p, ↓e_l2i_p, ↓e_min_p, ↓c_b_p, ↓c_not_p, ↓c_and_p, ↓c_or_p, ↓c_null_p, ↓c_eq_p, ↓c_ne_p, ↓c_lt_p, ↓c_ge_p, ↓c_gt_p, ↓c_le_p, ↓e_cond_p, ↓x_tern_p, ↓a_nil_p, ↓a_I_p, ↓a_L_p, ↓a_R_p, ↓e_callV_p, ↓r_callV_p, ↓e_callS_p, ↓s_skip_p, ↓s_seq_p, ↓s_st_p, ↓s_stL_p, ↓s_stR_p, ↓s_inc_p, ↓s_put_p, ↓s_putZ_p, ↓s_putR_p, ↓s_putop_p, ↓s_ast_p, ↓s_zast_p, ↓s_rast_p, ↓s_astop_p, ↓s_callV_p, ↓s_popV_p, ↓s_if_p, ↓s_ite_p, ↓s_itr_p, ↓s_brk_p, ↓s_retI_p, ↓s_retR_p, ↓s_ret_p, ↓s_sw_p, isI_s, isI_z, isL_s, isL_z, isR_s, isR_z, gI_s, gI_z, gL_z, gR_s, gR_z, gA_s, isA_s, bdo_s, arOK_s, isVI_I, isVR_R, vInt_I, vInt_L, vRef_R, lenOf_s, lnOK_s, rHd_c, isHd_c, noL_z, noL_1, noL_s, nl_I, nl_R, nl_U, stI, stR, bd_t, oA, oS, oM, oD, oR, tn_add, tn_mul, tn_nat, eqb_t, eqb_f, ltb_t, ltb_f, leb_t, leb_f, nob_s, nob_n, nat_eq, nat_lt, nat_le, mR_0 F, mR_1 F, mR_2 F, mR_3 F, mR_4 F, mR_5 F, mR_6 F, mR_7 F, mR_8 F, mR_9 F, mR_10 F, mR_11 F, mR_12 F, mR_13 F, mR_15 F, mR_17 F, mR_25 F, mR_26 F, mR_27 F, mR_28 F, mR_29 F, mR_30 F, mR_35 F, mR_36 F, mR_37 F, mR_38 F, mR_40 F, mR_41 F, mR_42 F, mR_43 F, mR_44 F, mR_45 F, mR_46 F, mR_47 F, mK_63 F, mK_64 F, mK_65 F, mK_66 F, mK_67 F, mK_68 F, mK_69 F, mK_70 F, mK_71 F, mK_72 F, mK_73 F, mK_74 F, mK_75 F, mK_76 F, mK_77 F, mK_78 F, mK_79 F, mK_80 F, mK_81 F, mK_82 F, mK_83 F, mK_84 F, mK_85 F, mK_86 F, mK_87 F, mK_88 F, mK_89 F, mK_90 F, mK_91 F, mK_92 F, mK_93 F, mK_94 F, mK_95 F, mK_96 F, mK_97 F]; first | exact h | simpa using h)
  · rintro k env st hlo hlt ⟨rfl, rfl⟩ Kx hx
    have fin : ∀ (S' : Nat → Nat → Int) , S' = setRow I 95 (k + 1) (fun _ => 0) → Kx [vR (some 63), vI p, vI (k : Int), v3, v4, v5] (kd, S', R) := by
      intro S' q_S
      subst q_S
      exact hx _ _ rfl (by simp [noL_z, noL_1, noL_s, nl_I, nl_R, nl_U]) ⟨rfl, rfl⟩
    simp (disch := omega) [-Int.not_le, -Int.not_lt, ↓e_ci_p, ↓e_lv_p, ↓l_lv_p, ↓r_lv_p, ↓r_null_p, ↓e_fld_p, ↓r_fld_p, ↓e_ald_p, ↓z_ald_p, ↓r_ald_p, ↓e_len_p, ↓e_op_p, ↓e_dv_p, ↓l_op_p, ↓l_dv_p, ↓l_sh_p, ↓e_lcmp_p, ↓e_l2i_p, ↓e_min_p, ↓c_b_p, ↓c_not_p, ↓c_and_p, ↓c_or_p, ↓c_null_p, ↓c_eq_p, ↓c_ne_p, ↓c_lt_p, ↓c_ge_p, ↓c_gt_p, ↓c_le_p, ↓e_cond_p, ↓x_tern_p, ↓a_nil_p, ↓a_I_p, ↓a_L_p, ↓a_R_p, ↓e_callV_p, ↓r_callV_p, ↓e_callS_p, ↓s_skip_p, ↓s_seq_p, ↓s_st_p, ↓s_stL_p, ↓s_stR_p, ↓s_inc_p, ↓s_put_p, ↓s_putZ_p, ↓s_putR_p, ↓s_putop_p, ↓s_ast_p, ↓s_zast_p, ↓s_rast_p, ↓s_astop_p, ↓s_callV_p, ↓s_popV_p, ↓s_if_p, ↓s_ite_p, ↓s_itr_p, ↓s_brk_p, ↓s_retI_p, ↓s_retR_p, ↓s_ret_p, ↓s_sw_p, isI_s, isI_z, isL_s, isL_z, isR_s, isR_z, gI_s, gI_z, gL_z, gR_s, gR_z, gA_s, isA_s, bdo_s, arOK_s, isVI_I, isVR_R, vInt_I, vInt_L, vRef_R, lenOf_s, lnOK_s, rHd_c, isHd_c, noL_z, noL_1, noL_s, nl_I, nl_R, nl_U, stI, stR, bd_t, oA, oS, oM, oD, oR, tn_add, tn_mul, tn_nat, eqb_t, eqb_f, ltb_t, ltb_f, leb_t, leb_f, nob_s, nob_n, nat_eq, nat_lt, nat_le, mR_0 F, mR_1 F, mR_2 F, mR_3 F, mR_4 F, mR_5 F, mR_6 F, mR_7 F, mR_8 F, mR_9 F, mR_10 F, mR_11 F, mR_12 F, mR_13 F, mR_15 F, mR_17 F, mR_25 F, mR_26 F, mR_27 F, mR_28 F, mR_29 F, mR_30 F, mR_35 F, mR_36 F, mR_37 F, mR_38 F, mR_40 F, mR_41 F, mR_42 F, mR_43 F, mR_44 F, mR_45 F, mR_46 F, mR_47 F, mK_63 F, mK_64 F, mK_65 F, mK_66 F, mK_67 F, mK_68 F, mK_69 F, mK_70 F, mK_71 F, mK_72 F, mK_73 F, mK_74 F, mK_75 F, mK_76 F, mK_77 F, mK_78 F, mK_79 F, mK_80 F, mK_81 F, mK_82 F, mK_83 F, mK_84 F, mK_85 F, mK_86 F, mK_87 F, mK_88 F, mK_89 F, mK_90 F, mK_91 F, mK_92 F, mK_93 F, mK_94 F, mK_95 F, mK_96 F, mK_97 F]
    exact fin _ (setRow_S (f := fun _ => 0))
  · rintro env st ⟨rfl, rfl⟩
    exact hkk
set_option maxHeartbeats 4000000 in
theorem X9_layer_1 (F : isMod kd R) {e : Nat → Int} {n x : Nat} (hn : n ≤ 10) (h64 : I 64 0 = (n : Int)) (he : I 86 = e) (hx9 : x < n) {p t : Int} {l : Nat → Int} {M : Int} (hl : ∀ k, 0 ≤ l k ∧ l k ≤ M) (hM : M ≤ 10000) {v5 : AV} (h_v5 : nl v5 = true) {S0 : Nat → Nat → Int} (e_S : S0 = setRow I 95 10 (l2 e l x (0))) {Kn Kb : XE → XS → Prop} {Kr : AV → XS → Prop} 
    (hkk : ∀ v5 : AV, nl v5 = true → Kn [vR (some 63), vI p, vI t, vI x, vI ((n : Nat) : Int), v5] (kd, setRow I 95 10 (l2 e l x (n)), R)) : lp_X9_layer_1 Kn Kb Kr [vR (some 63), vI p, vI t, vI x, vI 0, v5] (kd, S0, R) := by
  unfold lp_X9_layer_1
  refine forUp (lo := 0) (n := n) (fun y env st => ∃ v5 : AV, nl v5 = true ∧ env = [vR (some 63), vI p, vI t, vI x, vI (y : Int), v5] ∧ st = (kd, setRow I 95 10 (l2 e l x (y)), R)) (by omega) (by omega) ⟨v5, h_v5, rfl, by first | (rw [e_S]; done) | (rw [e_S]; rfl)⟩ ?_ ?_ ?_
  · rintro y env st hle ⟨v5, h_v5, rfl, rfl⟩
    first | exact ⟨rfl, fun K h => h⟩ | exact ⟨rfl, fun K h => ⟨_, rfl, h⟩⟩ | (refine ⟨rfl, fun K h => ?_⟩; simp (disch := omega) [-Int.not_le, -Int.not_lt, ↓e_ci_p, ↓e_lv_p, ↓l_lv_p, ↓r_lv_p, ↓r_null_p, ↓e_fld_p, ↓r_fld_p, ↓e_ald_p, ↓z_ald_p, ↓r_ald_p, ↓e_len_p, ↓e_op_p, ↓e_dv_p, ↓l_op_p, ↓l_dv_p, ↓l_sh_p, ↓e_lcmp_p, ↓e_l2i_p, ↓e_min_p, ↓c_b_p, ↓c_not_p, ↓c_and_p, ↓c_or_p, ↓c_null_p, ↓c_eq_p, ↓c_ne_p, ↓c_lt_p, ↓c_ge_p, ↓c_gt_p, ↓c_le_p, ↓e_cond_p, ↓x_tern_p, ↓a_nil_p, ↓a_I_p, ↓a_L_p, ↓a_R_p, ↓e_callV_p, ↓r_callV_p, ↓e_callS_p, ↓s_skip_p, ↓s_seq_p, ↓s_st_p, ↓s_stL_p, ↓s_stR_p, ↓s_inc_p, ↓s_put_p, ↓s_putZ_p, ↓s_putR_p, ↓s_putop_p, ↓s_ast_p, ↓s_zast_p, ↓s_rast_p, ↓s_astop_p, ↓s_callV_p, ↓s_popV_p, ↓s_if_p, ↓s_ite_p, ↓s_itr_p, ↓s_brk_p, ↓s_retI_p, ↓s_retR_p, ↓s_ret_p, ↓s_sw_p, isI_s, isI_z, isL_s, isL_z, isR_s, isR_z, gI_s, gI_z, gL_z, gR_s, gR_z, gA_s, isA_s, bdo_s, arOK_s, isVI_I, isVR_R, vInt_I, vInt_L, vRef_R, lenOf_s, lnOK_s, rHd_c, isHd_c, noL_z, noL_1, noL_s, nl_I, nl_R, nl_U, stI, stR, bd_t, oA, oS, oM, oD, oR, tn_add, tn_mul, tn_nat, eqb_t, eqb_f, ltb_t, ltb_f, leb_t, leb_f, nob_s, nob_n, nat_eq, nat_lt, nat_le, mR_0 F, mR_1 F, mR_2 F, mR_3 F, mR_4 F, mR_5 F, mR_6 F, mR_7 F, mR_8 F, mR_9 F, mR_10 F, mR_11 F, mR_12 F, mR_13 F, mR_15 F, mR_17 F, mR_25 F, mR_26 F, mR_27 F, mR_28 F, mR_29 F, mR_30 F, mR_35 F, mR_36 F, mR_37 F, mR_38 F, mR_40 F, mR_41 F, mR_42 F, mR_43 F, mR_44 F, mR_45 F, mR_46 F, mR_47 F, mK_63 F, mK_64 F, mK_65 F, mK_66 F, mK_67 F, mK_68 F, mK_69 F, mK_70 F, mK_71 F, mK_72 F, mK_73 F, mK_74 F, mK_75 F, mK_76 F, mK_77 F, mK_78 F, mK_79 F, mK_80 F, mK_81 F, mK_82 F, mK_83 F, mK_84 F, mK_85 F, mK_86 F, mK_87 F, mK_88 F, mK_89 F, mK_90 F, mK_91 F, mK_92 F, mK_93 F, mK_94 F, mK_95 F, mK_96 F, mK_97 F, setRow, h64]; first | exact h | simpa using h)
  · rintro y env st hlo hlt ⟨v5, h_v5, rfl, rfl⟩ Kx hx
    have fin : ∀ (S' : Nat → Nat → Int) (v5' : AV) , S' = setRow I 95 10 (l2 e l x (y + 1)) → nl v5' = true → Kx [vR (some 63), vI p, vI t, vI x, vI (y : Int), v5'] (kd, S', R) := by
      intro S' v5' q_S q_v5
      subst q_S
      exact hx _ _ rfl (by simp [noL_z, noL_1, noL_s, nl_I, nl_R, nl_U, q_v5, h_v5]) ⟨v5', q_v5, rfl, rfl⟩
    have hr := l2_rng (e := e) (x := x) hl y
    have rx := hr x
    have ry := hr y
    have a1 : setRow I 95 10 (l2 e l x y) 95 x = l2 e l x y x := setRow_at (by omega)
    have a2 : setRow I 95 10 (l2 e l x y) 95 y = l2 e l x y y := setRow_at (by omega)
    have a3 : setRow I 95 10 (l2 e l x y) 86 (10 * x + y) = e (10 * x + y) := by rw [setRow_row (by decide), he]
    have fs : ∀ z, z = l1 e (l2 e l x y) x y x → upI (setRow I 95 10 (l2 e l x y)) 95 x z = setRow I 95 10 (l2 e l x (y + 1)) := by
      intro z hz
      funext a b
      simp only [upI, setRow]
      by_cases h1 : a = 95
      · by_cases h2 : b = x
        · subst h2; simp [h1, hz, l2]; omega
        · simp only [h1, h2, l2, l1_ne h2, and_false, if_false]
      · simp [h1]
    by_cases c1 : 0 < e (10 * x + y) <;> by_cases c2 : l2 e l x y x ≤ l2 e l x y y <;> simp (disch := omega) [-Int.not_le, -Int.not_lt, ↓e_ci_p, ↓e_lv_p, ↓l_lv_p, ↓r_lv_p, ↓r_null_p, ↓e_fld_p, ↓r_fld_p, ↓e_ald_p, ↓z_ald_p, ↓r_ald_p, ↓e_len_p, ↓e_op_p, ↓e_dv_p, ↓l_op_p, ↓l_dv_p, ↓l_sh_p, ↓e_lcmp_p, ↓e_l2i_p, ↓e_min_p, ↓c_b_p, ↓c_not_p, ↓c_and_p, ↓c_or_p, ↓c_null_p, ↓c_eq_p, ↓c_ne_p, ↓c_lt_p, ↓c_ge_p, ↓c_gt_p, ↓c_le_p, ↓e_cond_p, ↓x_tern_p, ↓a_nil_p, ↓a_I_p, ↓a_L_p, ↓a_R_p, ↓e_callV_p, ↓r_callV_p, ↓e_callS_p, ↓s_skip_p, ↓s_seq_p, ↓s_st_p, ↓s_stL_p, ↓s_stR_p, ↓s_inc_p, ↓s_put_p, ↓s_putZ_p, ↓s_putR_p, ↓s_putop_p, ↓s_ast_p, ↓s_zast_p, ↓s_rast_p, ↓s_astop_p, ↓s_callV_p, ↓s_popV_p, ↓s_if_p, ↓s_ite_p, ↓s_itr_p, ↓s_brk_p, ↓s_retI_p, ↓s_retR_p, ↓s_ret_p, ↓s_sw_p, isI_s, isI_z, isL_s, isL_z, isR_s, isR_z, gI_s, gI_z, gL_z, gR_s, gR_z, gA_s, isA_s, bdo_s, arOK_s, isVI_I, isVR_R, vInt_I, vInt_L, vRef_R, lenOf_s, lnOK_s, rHd_c, isHd_c, noL_z, noL_1, noL_s, nl_I, nl_R, nl_U, stI, stR, bd_t, oA, oS, oM, oD, oR, tn_add, tn_mul, tn_nat, eqb_t, eqb_f, ltb_t, ltb_f, leb_t, leb_f, nob_s, nob_n, nat_eq, nat_lt, nat_le, mR_0 F, mR_1 F, mR_2 F, mR_3 F, mR_4 F, mR_5 F, mR_6 F, mR_7 F, mR_8 F, mR_9 F, mR_10 F, mR_11 F, mR_12 F, mR_13 F, mR_15 F, mR_17 F, mR_25 F, mR_26 F, mR_27 F, mR_28 F, mR_29 F, mR_30 F, mR_35 F, mR_36 F, mR_37 F, mR_38 F, mR_40 F, mR_41 F, mR_42 F, mR_43 F, mR_44 F, mR_45 F, mR_46 F, mR_47 F, mK_63 F, mK_64 F, mK_65 F, mK_66 F, mK_67 F, mK_68 F, mK_69 F, mK_70 F, mK_71 F, mK_72 F, mK_73 F, mK_74 F, mK_75 F, mK_76 F, mK_77 F, mK_78 F, mK_79 F, mK_80 F, mK_81 F, mK_82 F, mK_83 F, mK_84 F, mK_85 F, mK_86 F, mK_87 F, mK_88 F, mK_89 F, mK_90 F, mK_91 F, mK_92 F, mK_93 F, mK_94 F, mK_95 F, mK_96 F, mK_97 F, h_v5, a1, a2, a3, c1, c2] <;> exact fin _ _ (fs _ (by simp [l1, c1, c2, updL])) rfl
  · rintro env st ⟨v5, h_v5, rfl, rfl⟩
    exact hkk v5 h_v5
set_option maxHeartbeats 4000000 in
theorem X9_layer_2 (F : isMod kd R) {e : Nat → Int} {n : Nat} (hn : n ≤ 10) (h64 : I 64 0 = (n : Int)) (he : I 86 = e) {p t : Int} {l : Nat → Int} {M : Int} (hl : ∀ k, 0 ≤ l k ∧ l k ≤ M) (hM : M ≤ 5000) {v4 v5 : AV} (h_v4 : nl v4 = true) (h_v5 : nl v5 = true) {S0 : Nat → Nat → Int} (e_S : S0 = setRow I 95 10 (l3 e n l (0))) {Kn Kb : XE → XS → Prop} {Kr : AV → XS → Prop} 
    (hkk : ∀ v4 v5 : AV, nl v4 = true → nl v5 = true → Kn [vR (some 63), vI p, vI t, vI ((n : Nat) : Int), v4, v5] (kd, setRow I 95 10 (l3 e n l (n)), R)) : lp_X9_layer_2 Kn Kb Kr [vR (some 63), vI p, vI t, vI 0, v4, v5] (kd, S0, R) := by
  unfold lp_X9_layer_2
  refine forUp (lo := 0) (n := n) (fun x env st => ∃ v4 v5 : AV, nl v4 = true ∧ nl v5 = true ∧ env = [vR (some 63), vI p, vI t, vI (x : Int), v4, v5] ∧ st = (kd, setRow I 95 10 (l3 e n l (x)), R)) (by omega) (by omega) ⟨v4, v5, h_v4, h_v5, rfl, by first | (rw [e_S]; done) | (rw [e_S]; rfl)⟩ ?_ ?_ ?_
  · rintro x env st hle ⟨v4, v5, h_v4, h_v5, rfl, rfl⟩
    first | exact ⟨rfl, fun K h => h⟩ | exact ⟨rfl, fun K h => ⟨_, rfl, h⟩⟩ | (refine ⟨rfl, fun K h => ?_⟩; simp (disch := omega) [-Int.not_le, -Int.not_lt, ↓e_ci_p, ↓e_lv_p, ↓l_lv_p, ↓r_lv_p, ↓r_null_p, ↓e_fld_p, ↓r_fld_p, ↓e_ald_p, ↓z_ald_p, ↓r_ald_p, ↓e_len_p, ↓e_op_p, ↓e_dv_p, ↓l_op_p, ↓l_dv_p, ↓l_sh_p, ↓e_lcmp_p, ↓e_l2i_p, ↓e_min_p, ↓c_b_p, ↓c_not_p, ↓c_and_p, ↓c_or_p, ↓c_null_p, ↓c_eq_p, ↓c_ne_p, ↓c_lt_p, ↓c_ge_p, ↓c_gt_p, ↓c_le_p, ↓e_cond_p, ↓x_tern_p, ↓a_nil_p, ↓a_I_p, ↓a_L_p, ↓a_R_p, ↓e_callV_p, ↓r_callV_p, ↓e_callS_p, ↓s_skip_p, ↓s_seq_p, ↓s_st_p, ↓s_stL_p, ↓s_stR_p, ↓s_inc_p, ↓s_put_p, ↓s_putZ_p, ↓s_putR_p, ↓s_putop_p, ↓s_ast_p, ↓s_zast_p, ↓s_rast_p, ↓s_astop_p, ↓s_callV_p, ↓s_popV_p, ↓s_if_p, ↓s_ite_p, ↓s_itr_p, ↓s_brk_p, ↓s_retI_p, ↓s_retR_p, ↓s_ret_p, ↓s_sw_p, isI_s, isI_z, isL_s, isL_z, isR_s, isR_z, gI_s, gI_z, gL_z, gR_s, gR_z, gA_s, isA_s, bdo_s, arOK_s, isVI_I, isVR_R, vInt_I, vInt_L, vRef_R, lenOf_s, lnOK_s, rHd_c, isHd_c, noL_z, noL_1, noL_s, nl_I, nl_R, nl_U, stI, stR, bd_t, oA, oS, oM, oD, oR, tn_add, tn_mul, tn_nat, eqb_t, eqb_f, ltb_t, ltb_f, leb_t, leb_f, nob_s, nob_n, nat_eq, nat_lt, nat_le, mR_0 F, mR_1 F, mR_2 F, mR_3 F, mR_4 F, mR_5 F, mR_6 F, mR_7 F, mR_8 F, mR_9 F, mR_10 F, mR_11 F, mR_12 F, mR_13 F, mR_15 F, mR_17 F, mR_25 F, mR_26 F, mR_27 F, mR_28 F, mR_29 F, mR_30 F, mR_35 F, mR_36 F, mR_37 F, mR_38 F, mR_40 F, mR_41 F, mR_42 F, mR_43 F, mR_44 F, mR_45 F, mR_46 F, mR_47 F, mK_63 F, mK_64 F, mK_65 F, mK_66 F, mK_67 F, mK_68 F, mK_69 F, mK_70 F, mK_71 F, mK_72 F, mK_73 F, mK_74 F, mK_75 F, mK_76 F, mK_77 F, mK_78 F, mK_79 F, mK_80 F, mK_81 F, mK_82 F, mK_83 F, mK_84 F, mK_85 F, mK_86 F, mK_87 F, mK_88 F, mK_89 F, mK_90 F, mK_91 F, mK_92 F, mK_93 F, mK_94 F, mK_95 F, mK_96 F, mK_97 F, setRow, h64]; first | exact h | simpa using h)
  · rintro x env st hlo hlt ⟨v4, v5, h_v4, h_v5, rfl, rfl⟩ Kx hx
    have fin : ∀ (S' : Nat → Nat → Int) (v4' v5' : AV) , S' = setRow I 95 10 (l3 e n l (x + 1)) → nl v4' = true → nl v5' = true → Kx [vR (some 63), vI p, vI t, vI (x : Int), v4', v5'] (kd, S', R) := by
      intro S' v4' v5' q_S q_v4 q_v5
      subst q_S
      exact hx _ _ rfl (by simp [noL_z, noL_1, noL_s, nl_I, nl_R, nl_U, q_v4, q_v5, h_v4, h_v5]) ⟨v4', v5', q_v4, q_v5, rfl, rfl⟩
    simp (disch := omega) [-Int.not_le, -Int.not_lt, ↓e_ci_p, ↓e_lv_p, ↓l_lv_p, ↓r_lv_p, ↓r_null_p, ↓e_fld_p, ↓r_fld_p, ↓e_ald_p, ↓z_ald_p, ↓r_ald_p, ↓e_len_p, ↓e_op_p, ↓e_dv_p, ↓l_op_p, ↓l_dv_p, ↓l_sh_p, ↓e_lcmp_p, ↓e_l2i_p, ↓e_min_p, ↓c_b_p, ↓c_not_p, ↓c_and_p, ↓c_or_p, ↓c_null_p, ↓c_eq_p, ↓c_ne_p, ↓c_lt_p, ↓c_ge_p, ↓c_gt_p, ↓c_le_p, ↓e_cond_p, ↓x_tern_p, ↓a_nil_p, ↓a_I_p, ↓a_L_p, ↓a_R_p, ↓e_callV_p, ↓r_callV_p, ↓e_callS_p, ↓s_skip_p, ↓s_seq_p, ↓s_st_p, ↓s_stL_p, ↓s_stR_p, ↓s_inc_p, ↓s_put_p, ↓s_putZ_p, ↓s_putR_p, ↓s_putop_p, ↓s_ast_p, ↓s_zast_p, ↓s_rast_p, ↓s_astop_p, ↓s_callV_p, ↓s_popV_p, ↓s_if_p, ↓s_ite_p, ↓s_itr_p, ↓s_brk_p, ↓s_retI_p, ↓s_retR_p, ↓s_ret_p, ↓s_sw_p, isI_s, isI_z, isL_s, isL_z, isR_s, isR_z, gI_s, gI_z, gL_z, gR_s, gR_z, gA_s, isA_s, bdo_s, arOK_s, isVI_I, isVR_R, vInt_I, vInt_L, vRef_R, lenOf_s, lnOK_s, rHd_c, isHd_c, noL_z, noL_1, noL_s, nl_I, nl_R, nl_U, stI, stR, bd_t, oA, oS, oM, oD, oR, tn_add, tn_mul, tn_nat, eqb_t, eqb_f, ltb_t, ltb_f, leb_t, leb_f, nob_s, nob_n, nat_eq, nat_lt, nat_le, mR_0 F, mR_1 F, mR_2 F, mR_3 F, mR_4 F, mR_5 F, mR_6 F, mR_7 F, mR_8 F, mR_9 F, mR_10 F, mR_11 F, mR_12 F, mR_13 F, mR_15 F, mR_17 F, mR_25 F, mR_26 F, mR_27 F, mR_28 F, mR_29 F, mR_30 F, mR_35 F, mR_36 F, mR_37 F, mR_38 F, mR_40 F, mR_41 F, mR_42 F, mR_43 F, mR_44 F, mR_45 F, mR_46 F, mR_47 F, mK_63 F, mK_64 F, mK_65 F, mK_66 F, mK_67 F, mK_68 F, mK_69 F, mK_70 F, mK_71 F, mK_72 F, mK_73 F, mK_74 F, mK_75 F, mK_76 F, mK_77 F, mK_78 F, mK_79 F, mK_80 F, mK_81 F, mK_82 F, mK_83 F, mK_84 F, mK_85 F, mK_86 F, mK_87 F, mK_88 F, mK_89 F, mK_90 F, mK_91 F, mK_92 F, mK_93 F, mK_94 F, mK_95 F, mK_96 F, mK_97 F, h_v4]
    have h3 := l3_rng (e := e) (n := n) hl x
    have hm : (n : Int) * x ≤ 10 * 10 := Int.mul_le_mul (by omega) (by omega) (by omega) (by decide)
    exact X9_layer_1 F hn h64 he hlt h3 (by omega) h_v5 rfl (fun v5 h5 => fin _ _ _ rfl rfl h5)
  · rintro env st ⟨v4, v5, h_v4, h_v5, rfl, rfl⟩
    exact hkk v4 v5 h_v4 h_v5
set_option maxHeartbeats 4000000 in
theorem X9_layer_3 (F : isMod kd R) {e : Nat → Int} {n : Nat} (hn : n ≤ 10) (h64 : I 64 0 = (n : Int)) (he : I 86 = e) {p : Int} {v3 v4 v5 : AV} (h_v3 : nl v3 = true) (h_v4 : nl v4 = true) (h_v5 : nl v5 = true) {S0 : Nat → Nat → Int} (e_S : S0 = setRow I 95 10 (l4 e n (0))) {Kn Kb : XE → XS → Prop} {Kr : AV → XS → Prop} 
    (hkk : ∀ v3 v4 v5 : AV, nl v3 = true → nl v4 = true → nl v5 = true → Kn [vR (some 63), vI p, vI 10, v3, v4, v5] (kd, setRow I 95 10 (l4 e n (10)), R)) : lp_X9_layer_3 Kn Kb Kr [vR (some 63), vI p, vI 0, v3, v4, v5] (kd, S0, R) := by
  unfold lp_X9_layer_3
  refine forUp (lo := 0) (n := 10) (fun t env st => ∃ v3 v4 v5 : AV, nl v3 = true ∧ nl v4 = true ∧ nl v5 = true ∧ env = [vR (some 63), vI p, vI (t : Int), v3, v4, v5] ∧ st = (kd, setRow I 95 10 (l4 e n (t)), R)) (by omega) (by omega) ⟨v3, v4, v5, h_v3, h_v4, h_v5, rfl, by first | (rw [e_S]; done) | (rw [e_S]; rfl)⟩ ?_ ?_ ?_
  · rintro t env st hle ⟨v3, v4, v5, h_v3, h_v4, h_v5, rfl, rfl⟩
    first | exact ⟨rfl, fun K h => h⟩ | exact ⟨rfl, fun K h => ⟨_, rfl, h⟩⟩ | (refine ⟨rfl, fun K h => ?_⟩; simp (disch := omega) [-Int.not_le, -Int.not_lt, ↓e_ci_p, ↓e_lv_p, ↓l_lv_p, ↓r_lv_p, ↓r_null_p, ↓e_fld_p, ↓r_fld_p, ↓e_ald_p, ↓z_ald_p, ↓r_ald_p, ↓e_len_p, ↓e_op_p, ↓e_dv_p, ↓l_op_p, ↓l_dv_p, ↓l_sh_p, ↓e_lcmp_p, ↓e_l2i_p, ↓e_min_p, ↓c_b_p, ↓c_not_p, ↓c_and_p, ↓c_or_p, ↓c_null_p, ↓c_eq_p, ↓c_ne_p, ↓c_lt_p, ↓c_ge_p, ↓c_gt_p, ↓c_le_p, ↓e_cond_p, ↓x_tern_p, ↓a_nil_p, ↓a_I_p, ↓a_L_p, ↓a_R_p, ↓e_callV_p, ↓r_callV_p, ↓e_callS_p, ↓s_skip_p, ↓s_seq_p, ↓s_st_p, ↓s_stL_p, ↓s_stR_p, ↓s_inc_p, ↓s_put_p, ↓s_putZ_p, ↓s_putR_p, ↓s_putop_p, ↓s_ast_p, ↓s_zast_p, ↓s_rast_p, ↓s_astop_p, ↓s_callV_p, ↓s_popV_p, ↓s_if_p, ↓s_ite_p, ↓s_itr_p, ↓s_brk_p, ↓s_retI_p, ↓s_retR_p, ↓s_ret_p, ↓s_sw_p, isI_s, isI_z, isL_s, isL_z, isR_s, isR_z, gI_s, gI_z, gL_z, gR_s, gR_z, gA_s, isA_s, bdo_s, arOK_s, isVI_I, isVR_R, vInt_I, vInt_L, vRef_R, lenOf_s, lnOK_s, rHd_c, isHd_c, noL_z, noL_1, noL_s, nl_I, nl_R, nl_U, stI, stR, bd_t, oA, oS, oM, oD, oR, tn_add, tn_mul, tn_nat, eqb_t, eqb_f, ltb_t, ltb_f, leb_t, leb_f, nob_s, nob_n, nat_eq, nat_lt, nat_le, mR_0 F, mR_1 F, mR_2 F, mR_3 F, mR_4 F, mR_5 F, mR_6 F, mR_7 F, mR_8 F, mR_9 F, mR_10 F, mR_11 F, mR_12 F, mR_13 F, mR_15 F, mR_17 F, mR_25 F, mR_26 F, mR_27 F, mR_28 F, mR_29 F, mR_30 F, mR_35 F, mR_36 F, mR_37 F, mR_38 F, mR_40 F, mR_41 F, mR_42 F, mR_43 F, mR_44 F, mR_45 F, mR_46 F, mR_47 F, mK_63 F, mK_64 F, mK_65 F, mK_66 F, mK_67 F, mK_68 F, mK_69 F, mK_70 F, mK_71 F, mK_72 F, mK_73 F, mK_74 F, mK_75 F, mK_76 F, mK_77 F, mK_78 F, mK_79 F, mK_80 F, mK_81 F, mK_82 F, mK_83 F, mK_84 F, mK_85 F, mK_86 F, mK_87 F, mK_88 F, mK_89 F, mK_90 F, mK_91 F, mK_92 F, mK_93 F, mK_94 F, mK_95 F, mK_96 F, mK_97 F]; first | exact h | simpa using h)
  · rintro t env st hlo hlt ⟨v3, v4, v5, h_v3, h_v4, h_v5, rfl, rfl⟩ Kx hx
    have fin : ∀ (S' : Nat → Nat → Int) (v3' v4' v5' : AV) , S' = setRow I 95 10 (l4 e n (t + 1)) → nl v3' = true → nl v4' = true → nl v5' = true → Kx [vR (some 63), vI p, vI (t : Int), v3', v4', v5'] (kd, S', R) := by
      intro S' v3' v4' v5' q_S q_v3 q_v4 q_v5
      subst q_S
      exact hx _ _ rfl (by simp [noL_z, noL_1, noL_s, nl_I, nl_R, nl_U, q_v3, q_v4, q_v5, h_v3, h_v4, h_v5]) ⟨v3', v4', v5', q_v3, q_v4, q_v5, rfl, rfl⟩
    simp (disch := omega) [-Int.not_le, -Int.not_lt, ↓e_ci_p, ↓e_lv_p, ↓l_lv_p, ↓r_lv_p, ↓r_null_p, ↓e_fld_p, ↓r_fld_p, ↓e_ald_p, ↓z_ald_p, ↓r_ald_p, ↓e_len_p, ↓e_op_p, ↓e_dv_p, ↓l_op_p, ↓l_dv_p, ↓l_sh_p, ↓e_lcmp_p, ↓e_l2i_p, ↓e_min_p, ↓c_b_p, ↓c_not_p, ↓c_and_p, ↓c_or_p, ↓c_null_p, ↓c_eq_p, ↓c_ne_p, ↓c_lt_p, ↓c_ge_p, ↓c_gt_p, ↓c_le_p, ↓e_cond_p, ↓x_tern_p, ↓a_nil_p, ↓a_I_p, ↓a_L_p, ↓a_R_p, ↓e_callV_p, ↓r_callV_p, ↓e_callS_p, ↓s_skip_p, ↓s_seq_p, ↓s_st_p, ↓s_stL_p, ↓s_stR_p, ↓s_inc_p, ↓s_put_p, ↓s_putZ_p, ↓s_putR_p, ↓s_putop_p, ↓s_ast_p, ↓s_zast_p, ↓s_rast_p, ↓s_astop_p, ↓s_callV_p, ↓s_popV_p, ↓s_if_p, ↓s_ite_p, ↓s_itr_p, ↓s_brk_p, ↓s_retI_p, ↓s_retR_p, ↓s_ret_p, ↓s_sw_p, isI_s, isI_z, isL_s, isL_z, isR_s, isR_z, gI_s, gI_z, gL_z, gR_s, gR_z, gA_s, isA_s, bdo_s, arOK_s, isVI_I, isVR_R, vInt_I, vInt_L, vRef_R, lenOf_s, lnOK_s, rHd_c, isHd_c, noL_z, noL_1, noL_s, nl_I, nl_R, nl_U, stI, stR, bd_t, oA, oS, oM, oD, oR, tn_add, tn_mul, tn_nat, eqb_t, eqb_f, ltb_t, ltb_f, leb_t, leb_f, nob_s, nob_n, nat_eq, nat_lt, nat_le, mR_0 F, mR_1 F, mR_2 F, mR_3 F, mR_4 F, mR_5 F, mR_6 F, mR_7 F, mR_8 F, mR_9 F, mR_10 F, mR_11 F, mR_12 F, mR_13 F, mR_15 F, mR_17 F, mR_25 F, mR_26 F, mR_27 F, mR_28 F, mR_29 F, mR_30 F, mR_35 F, mR_36 F, mR_37 F, mR_38 F, mR_40 F, mR_41 F, mR_42 F, mR_43 F, mR_44 F, mR_45 F, mR_46 F, mR_47 F, mK_63 F, mK_64 F, mK_65 F, mK_66 F, mK_67 F, mK_68 F, mK_69 F, mK_70 F, mK_71 F, mK_72 F, mK_73 F, mK_74 F, mK_75 F, mK_76 F, mK_77 F, mK_78 F, mK_79 F, mK_80 F, mK_81 F, mK_82 F, mK_83 F, mK_84 F, mK_85 F, mK_86 F, mK_87 F, mK_88 F, mK_89 F, mK_90 F, mK_91 F, mK_92 F, mK_93 F, mK_94 F, mK_95 F, mK_96 F, mK_97 F, h_v3]
    have h4 := l4_rng (e := e) hn t
    exact X9_layer_2 F hn h64 he h4 (by omega) h_v4 h_v5 rfl (fun v4 v5 h4 h5 => fin _ _ _ _ rfl rfl h4 h5)
  · rintro env st ⟨v3, v4, v5, h_v3, h_v4, h_v5, rfl, rfl⟩
    exact hkk v3 v4 v5 h_v3 h_v4 h_v5
theorem X9_layer_ok (F : isMod kd R) (hr : RI I) {n : Nat} (h64 : I 64 0 = (n : Int)) {p : Int} (h1 : ¬ (0 ≤ p ∧ p < (n : Int)) → K (vI (-1)) (kd, I, R)) (h2 : (0 ≤ p ∧ p < (n : Int)) → hasG (Cn I (I 63 18)) n = true → K (vI (-3)) (kd, LK I n, R)) (h3 : (0 ≤ p ∧ p < (n : Int)) → hasG (Cn I (I 63 18)) n = false → ∀ J, sameR I J → K (vI (l4 (Cn I (I 63 18)) n 10 p.toNat)) (kd, J, R)) : B_X9_layer [vR (some 63), vI p] (kd, I, R) K := by
  have hp := X9_part_in hr.1
  have hp1 := hr.1.1.1
  simp [B_X9_layer, bodyOf, envOf, exA, catV, rkOK]
  by_cases c1 : 0 ≤ p ∧ p < (n : Int)
  · simp (disch := omega) [t_X9_layer, -Int.not_le, -Int.not_lt, ↓e_ci_p, ↓e_lv_p, ↓l_lv_p, ↓r_lv_p, ↓r_null_p, ↓e_fld_p, ↓r_fld_p, ↓e_ald_p, ↓z_ald_p, ↓r_ald_p, ↓e_len_p, ↓e_op_p, ↓e_dv_p, ↓l_op_p, ↓l_dv_p, ↓l_sh_p, ↓e_lcmp_p, ↓e_l2i_p, ↓e_min_p, ↓c_b_p, ↓c_not_p, ↓c_and_p, ↓c_or_p, ↓c_null_p, ↓c_eq_p, ↓c_ne_p, ↓c_lt_p, ↓c_ge_p, ↓c_gt_p, ↓c_le_p, ↓e_cond_p, ↓x_tern_p, ↓a_nil_p, ↓a_I_p, ↓a_L_p, ↓a_R_p, ↓e_callV_p, ↓r_callV_p, ↓e_callS_p, ↓s_skip_p, ↓s_seq_p, ↓s_st_p, ↓s_stL_p, ↓s_stR_p, ↓s_inc_p, ↓s_put_p, ↓s_putZ_p, ↓s_putR_p, ↓s_putop_p, ↓s_ast_p, ↓s_zast_p, ↓s_rast_p, ↓s_astop_p, ↓s_callV_p, ↓s_popV_p, ↓s_if_p, ↓s_ite_p, ↓s_itr_p, ↓s_brk_p, ↓s_retI_p, ↓s_retR_p, ↓s_ret_p, ↓s_sw_p, isI_s, isI_z, isL_s, isL_z, isR_s, isR_z, gI_s, gI_z, gL_z, gR_s, gR_z, gA_s, isA_s, bdo_s, arOK_s, isVI_I, isVR_R, vInt_I, vInt_L, vRef_R, lenOf_s, lnOK_s, rHd_c, isHd_c, noL_z, noL_1, noL_s, nl_I, nl_R, nl_U, stI, stR, bd_t, oA, oS, oM, oD, oR, tn_add, tn_mul, tn_nat, eqb_t, eqb_f, ltb_t, ltb_f, leb_t, leb_f, nob_s, nob_n, nat_eq, nat_lt, nat_le, mR_0 F, mR_1 F, mR_2 F, mR_3 F, mR_4 F, mR_5 F, mR_6 F, mR_7 F, mR_8 F, mR_9 F, mR_10 F, mR_11 F, mR_12 F, mR_13 F, mR_15 F, mR_17 F, mR_25 F, mR_26 F, mR_27 F, mR_28 F, mR_29 F, mR_30 F, mR_35 F, mR_36 F, mR_37 F, mR_38 F, mR_40 F, mR_41 F, mR_42 F, mR_43 F, mR_44 F, mR_45 F, mR_46 F, mR_47 F, mK_63 F, mK_64 F, mK_65 F, mK_66 F, mK_67 F, mK_68 F, mK_69 F, mK_70 F, mK_71 F, mK_72 F, mK_73 F, mK_74 F, mK_75 F, mK_76 F, mK_77 F, mK_78 F, mK_79 F, mK_80 F, mK_81 F, mK_82 F, mK_83 F, mK_84 F, mK_85 F, mK_86 F, mK_87 F, mK_88 F, mK_89 F, mK_90 F, mK_91 F, mK_92 F, mK_93 F, mK_94 F, mK_95 F, mK_96 F, mK_97 F, X9_isPart_eq F hp.1 hp.2, h64, c1]
    refine X9_looks_ok F hr h64 (by omega) ?_
    simp (disch := omega) [-Int.not_le, -Int.not_lt, ↓e_ci_p, ↓e_lv_p, ↓l_lv_p, ↓r_lv_p, ↓r_null_p, ↓e_fld_p, ↓r_fld_p, ↓e_ald_p, ↓z_ald_p, ↓r_ald_p, ↓e_len_p, ↓e_op_p, ↓e_dv_p, ↓l_op_p, ↓l_dv_p, ↓l_sh_p, ↓e_lcmp_p, ↓e_l2i_p, ↓e_min_p, ↓c_b_p, ↓c_not_p, ↓c_and_p, ↓c_or_p, ↓c_null_p, ↓c_eq_p, ↓c_ne_p, ↓c_lt_p, ↓c_ge_p, ↓c_gt_p, ↓c_le_p, ↓e_cond_p, ↓x_tern_p, ↓a_nil_p, ↓a_I_p, ↓a_L_p, ↓a_R_p, ↓e_callV_p, ↓r_callV_p, ↓e_callS_p, ↓s_skip_p, ↓s_seq_p, ↓s_st_p, ↓s_stL_p, ↓s_stR_p, ↓s_inc_p, ↓s_put_p, ↓s_putZ_p, ↓s_putR_p, ↓s_putop_p, ↓s_ast_p, ↓s_zast_p, ↓s_rast_p, ↓s_astop_p, ↓s_callV_p, ↓s_popV_p, ↓s_if_p, ↓s_ite_p, ↓s_itr_p, ↓s_brk_p, ↓s_retI_p, ↓s_retR_p, ↓s_ret_p, ↓s_sw_p, isI_s, isI_z, isL_s, isL_z, isR_s, isR_z, gI_s, gI_z, gL_z, gR_s, gR_z, gA_s, isA_s, bdo_s, arOK_s, isVI_I, isVR_R, vInt_I, vInt_L, vRef_R, lenOf_s, lnOK_s, rHd_c, isHd_c, noL_z, noL_1, noL_s, nl_I, nl_R, nl_U, stI, stR, bd_t, oA, oS, oM, oD, oR, tn_add, tn_mul, tn_nat, eqb_t, eqb_f, ltb_t, ltb_f, leb_t, leb_f, nob_s, nob_n, nat_eq, nat_lt, nat_le, mR_0 F, mR_1 F, mR_2 F, mR_3 F, mR_4 F, mR_5 F, mR_6 F, mR_7 F, mR_8 F, mR_9 F, mR_10 F, mR_11 F, mR_12 F, mR_13 F, mR_15 F, mR_17 F, mR_25 F, mR_26 F, mR_27 F, mR_28 F, mR_29 F, mR_30 F, mR_35 F, mR_36 F, mR_37 F, mR_38 F, mR_40 F, mR_41 F, mR_42 F, mR_43 F, mR_44 F, mR_45 F, mR_46 F, mR_47 F, mK_63 F, mK_64 F, mK_65 F, mK_66 F, mK_67 F, mK_68 F, mK_69 F, mK_70 F, mK_71 F, mK_72 F, mK_73 F, mK_74 F, mK_75 F, mK_76 F, mK_77 F, mK_78 F, mK_79 F, mK_80 F, mK_81 F, mK_82 F, mK_83 F, mK_84 F, mK_85 F, mK_86 F, mK_87 F, mK_88 F, mK_89 F, mK_90 F, mK_91 F, mK_92 F, mK_93 F, mK_94 F, mK_95 F, mK_96 F, mK_97 F]
    have hf := LK_far (I := I) h64 (show n ≤ 10 by omega)
    rw [TI_86 hr] at hf
    refine X9_hasGroup_ok F hf ?_
    cases hg : hasG (Cn I (I 63 18)) n
    · simp (disch := omega) [-Int.not_le, -Int.not_lt, ↓e_ci_p, ↓e_lv_p, ↓l_lv_p, ↓r_lv_p, ↓r_null_p, ↓e_fld_p, ↓r_fld_p, ↓e_ald_p, ↓z_ald_p, ↓r_ald_p, ↓e_len_p, ↓e_op_p, ↓e_dv_p, ↓l_op_p, ↓l_dv_p, ↓l_sh_p, ↓e_lcmp_p, ↓e_l2i_p, ↓e_min_p, ↓c_b_p, ↓c_not_p, ↓c_and_p, ↓c_or_p, ↓c_null_p, ↓c_eq_p, ↓c_ne_p, ↓c_lt_p, ↓c_ge_p, ↓c_gt_p, ↓c_le_p, ↓e_cond_p, ↓x_tern_p, ↓a_nil_p, ↓a_I_p, ↓a_L_p, ↓a_R_p, ↓e_callV_p, ↓r_callV_p, ↓e_callS_p, ↓s_skip_p, ↓s_seq_p, ↓s_st_p, ↓s_stL_p, ↓s_stR_p, ↓s_inc_p, ↓s_put_p, ↓s_putZ_p, ↓s_putR_p, ↓s_putop_p, ↓s_ast_p, ↓s_zast_p, ↓s_rast_p, ↓s_astop_p, ↓s_callV_p, ↓s_popV_p, ↓s_if_p, ↓s_ite_p, ↓s_itr_p, ↓s_brk_p, ↓s_retI_p, ↓s_retR_p, ↓s_ret_p, ↓s_sw_p, isI_s, isI_z, isL_s, isL_z, isR_s, isR_z, gI_s, gI_z, gL_z, gR_s, gR_z, gA_s, isA_s, bdo_s, arOK_s, isVI_I, isVR_R, vInt_I, vInt_L, vRef_R, lenOf_s, lnOK_s, rHd_c, isHd_c, noL_z, noL_1, noL_s, nl_I, nl_R, nl_U, stI, stR, bd_t, oA, oS, oM, oD, oR, tn_add, tn_mul, tn_nat, eqb_t, eqb_f, ltb_t, ltb_f, leb_t, leb_f, nob_s, nob_n, nat_eq, nat_lt, nat_le, mR_0 F, mR_1 F, mR_2 F, mR_3 F, mR_4 F, mR_5 F, mR_6 F, mR_7 F, mR_8 F, mR_9 F, mR_10 F, mR_11 F, mR_12 F, mR_13 F, mR_15 F, mR_17 F, mR_25 F, mR_26 F, mR_27 F, mR_28 F, mR_29 F, mR_30 F, mR_35 F, mR_36 F, mR_37 F, mR_38 F, mR_40 F, mR_41 F, mR_42 F, mR_43 F, mR_44 F, mR_45 F, mR_46 F, mR_47 F, mK_63 F, mK_64 F, mK_65 F, mK_66 F, mK_67 F, mK_68 F, mK_69 F, mK_70 F, mK_71 F, mK_72 F, mK_73 F, mK_74 F, mK_75 F, mK_76 F, mK_77 F, mK_78 F, mK_79 F, mK_80 F, mK_81 F, mK_82 F, mK_83 F, mK_84 F, mK_85 F, mK_86 F, mK_87 F, mK_88 F, mK_89 F, mK_90 F, mK_91 F, mK_92 F, mK_93 F, mK_94 F, mK_95 F, mK_96 F, mK_97 F, b2i]
      refine X9_layer_0 (I := LK I n) F setRow_0.symm ?_
      simp (disch := omega) [-Int.not_le, -Int.not_lt, ↓e_ci_p, ↓e_lv_p, ↓l_lv_p, ↓r_lv_p, ↓r_null_p, ↓e_fld_p, ↓r_fld_p, ↓e_ald_p, ↓z_ald_p, ↓r_ald_p, ↓e_len_p, ↓e_op_p, ↓e_dv_p, ↓l_op_p, ↓l_dv_p, ↓l_sh_p, ↓e_lcmp_p, ↓e_l2i_p, ↓e_min_p, ↓c_b_p, ↓c_not_p, ↓c_and_p, ↓c_or_p, ↓c_null_p, ↓c_eq_p, ↓c_ne_p, ↓c_lt_p, ↓c_ge_p, ↓c_gt_p, ↓c_le_p, ↓e_cond_p, ↓x_tern_p, ↓a_nil_p, ↓a_I_p, ↓a_L_p, ↓a_R_p, ↓e_callV_p, ↓r_callV_p, ↓e_callS_p, ↓s_skip_p, ↓s_seq_p, ↓s_st_p, ↓s_stL_p, ↓s_stR_p, ↓s_inc_p, ↓s_put_p, ↓s_putZ_p, ↓s_putR_p, ↓s_putop_p, ↓s_ast_p, ↓s_zast_p, ↓s_rast_p, ↓s_astop_p, ↓s_callV_p, ↓s_popV_p, ↓s_if_p, ↓s_ite_p, ↓s_itr_p, ↓s_brk_p, ↓s_retI_p, ↓s_retR_p, ↓s_ret_p, ↓s_sw_p, isI_s, isI_z, isL_s, isL_z, isR_s, isR_z, gI_s, gI_z, gL_z, gR_s, gR_z, gA_s, isA_s, bdo_s, arOK_s, isVI_I, isVR_R, vInt_I, vInt_L, vRef_R, lenOf_s, lnOK_s, rHd_c, isHd_c, noL_z, noL_1, noL_s, nl_I, nl_R, nl_U, stI, stR, bd_t, oA, oS, oM, oD, oR, tn_add, tn_mul, tn_nat, eqb_t, eqb_f, ltb_t, ltb_f, leb_t, leb_f, nob_s, nob_n, nat_eq, nat_lt, nat_le, mR_0 F, mR_1 F, mR_2 F, mR_3 F, mR_4 F, mR_5 F, mR_6 F, mR_7 F, mR_8 F, mR_9 F, mR_10 F, mR_11 F, mR_12 F, mR_13 F, mR_15 F, mR_17 F, mR_25 F, mR_26 F, mR_27 F, mR_28 F, mR_29 F, mR_30 F, mR_35 F, mR_36 F, mR_37 F, mR_38 F, mR_40 F, mR_41 F, mR_42 F, mR_43 F, mR_44 F, mR_45 F, mR_46 F, mR_47 F, mK_63 F, mK_64 F, mK_65 F, mK_66 F, mK_67 F, mK_68 F, mK_69 F, mK_70 F, mK_71 F, mK_72 F, mK_73 F, mK_74 F, mK_75 F, mK_76 F, mK_77 F, mK_78 F, mK_79 F, mK_80 F, mK_81 F, mK_82 F, mK_83 F, mK_84 F, mK_85 F, mK_86 F, mK_87 F, mK_88 F, mK_89 F, mK_90 F, mK_91 F, mK_92 F, mK_93 F, mK_94 F, mK_95 F, mK_96 F, mK_97 F]
      have e1 : setRow (LK I n) 95 10 (fun _ => 0) = setRow (LK I n) 95 10 (l4 (Cn I (I 63 18)) n 0) := rfl
      rw [e1]
      refine X9_layer_3 (I := LK I n) F (e := Cn I (I 63 18)) (n := n) (by omega) hf.1 (by rw [LK_t (by decide), TI_86 hr]) rfl rfl rfl rfl (fun v3 v4 v5 _ _ _ => ?_)
      have a1 : setRow (LK I n) 95 10 (l4 (Cn I (I 63 18)) n 10) 95 p.toNat = l4 (Cn I (I 63 18)) n 10 p.toNat := setRow_at (by omega)
      simp (disch := omega) [-Int.not_le, -Int.not_lt, ↓e_ci_p, ↓e_lv_p, ↓l_lv_p, ↓r_lv_p, ↓r_null_p, ↓e_fld_p, ↓r_fld_p, ↓e_ald_p, ↓z_ald_p, ↓r_ald_p, ↓e_len_p, ↓e_op_p, ↓e_dv_p, ↓l_op_p, ↓l_dv_p, ↓l_sh_p, ↓e_lcmp_p, ↓e_l2i_p, ↓e_min_p, ↓c_b_p, ↓c_not_p, ↓c_and_p, ↓c_or_p, ↓c_null_p, ↓c_eq_p, ↓c_ne_p, ↓c_lt_p, ↓c_ge_p, ↓c_gt_p, ↓c_le_p, ↓e_cond_p, ↓x_tern_p, ↓a_nil_p, ↓a_I_p, ↓a_L_p, ↓a_R_p, ↓e_callV_p, ↓r_callV_p, ↓e_callS_p, ↓s_skip_p, ↓s_seq_p, ↓s_st_p, ↓s_stL_p, ↓s_stR_p, ↓s_inc_p, ↓s_put_p, ↓s_putZ_p, ↓s_putR_p, ↓s_putop_p, ↓s_ast_p, ↓s_zast_p, ↓s_rast_p, ↓s_astop_p, ↓s_callV_p, ↓s_popV_p, ↓s_if_p, ↓s_ite_p, ↓s_itr_p, ↓s_brk_p, ↓s_retI_p, ↓s_retR_p, ↓s_ret_p, ↓s_sw_p, isI_s, isI_z, isL_s, isL_z, isR_s, isR_z, gI_s, gI_z, gL_z, gR_s, gR_z, gA_s, isA_s, bdo_s, arOK_s, isVI_I, isVR_R, vInt_I, vInt_L, vRef_R, lenOf_s, lnOK_s, rHd_c, isHd_c, noL_z, noL_1, noL_s, nl_I, nl_R, nl_U, stI, stR, bd_t, oA, oS, oM, oD, oR, tn_add, tn_mul, tn_nat, eqb_t, eqb_f, ltb_t, ltb_f, leb_t, leb_f, nob_s, nob_n, nat_eq, nat_lt, nat_le, mR_0 F, mR_1 F, mR_2 F, mR_3 F, mR_4 F, mR_5 F, mR_6 F, mR_7 F, mR_8 F, mR_9 F, mR_10 F, mR_11 F, mR_12 F, mR_13 F, mR_15 F, mR_17 F, mR_25 F, mR_26 F, mR_27 F, mR_28 F, mR_29 F, mR_30 F, mR_35 F, mR_36 F, mR_37 F, mR_38 F, mR_40 F, mR_41 F, mR_42 F, mR_43 F, mR_44 F, mR_45 F, mR_46 F, mR_47 F, mK_63 F, mK_64 F, mK_65 F, mK_66 F, mK_67 F, mK_68 F, mK_69 F, mK_70 F, mK_71 F, mK_72 F, mK_73 F, mK_74 F, mK_75 F, mK_76 F, mK_77 F, mK_78 F, mK_79 F, mK_80 F, mK_81 F, mK_82 F, mK_83 F, mK_84 F, mK_85 F, mK_86 F, mK_87 F, mK_88 F, mK_89 F, mK_90 F, mK_91 F, mK_92 F, mK_93 F, mK_94 F, mK_95 F, mK_96 F, mK_97 F, a1]
      refine h3 c1 hg _ (sameR_scr (sameR_LK hr n) (fun x hx _ => setRow_row ?_) (fun k _ => by rw [setRow_row (by decide)]))
      rintro rfl
      exact hx (by unfold scr; omega)
    · simp (disch := omega) [-Int.not_le, -Int.not_lt, ↓e_ci_p, ↓e_lv_p, ↓l_lv_p, ↓r_lv_p, ↓r_null_p, ↓e_fld_p, ↓r_fld_p, ↓e_ald_p, ↓z_ald_p, ↓r_ald_p, ↓e_len_p, ↓e_op_p, ↓e_dv_p, ↓l_op_p, ↓l_dv_p, ↓l_sh_p, ↓e_lcmp_p, ↓e_l2i_p, ↓e_min_p, ↓c_b_p, ↓c_not_p, ↓c_and_p, ↓c_or_p, ↓c_null_p, ↓c_eq_p, ↓c_ne_p, ↓c_lt_p, ↓c_ge_p, ↓c_gt_p, ↓c_le_p, ↓e_cond_p, ↓x_tern_p, ↓a_nil_p, ↓a_I_p, ↓a_L_p, ↓a_R_p, ↓e_callV_p, ↓r_callV_p, ↓e_callS_p, ↓s_skip_p, ↓s_seq_p, ↓s_st_p, ↓s_stL_p, ↓s_stR_p, ↓s_inc_p, ↓s_put_p, ↓s_putZ_p, ↓s_putR_p, ↓s_putop_p, ↓s_ast_p, ↓s_zast_p, ↓s_rast_p, ↓s_astop_p, ↓s_callV_p, ↓s_popV_p, ↓s_if_p, ↓s_ite_p, ↓s_itr_p, ↓s_brk_p, ↓s_retI_p, ↓s_retR_p, ↓s_ret_p, ↓s_sw_p, isI_s, isI_z, isL_s, isL_z, isR_s, isR_z, gI_s, gI_z, gL_z, gR_s, gR_z, gA_s, isA_s, bdo_s, arOK_s, isVI_I, isVR_R, vInt_I, vInt_L, vRef_R, lenOf_s, lnOK_s, rHd_c, isHd_c, noL_z, noL_1, noL_s, nl_I, nl_R, nl_U, stI, stR, bd_t, oA, oS, oM, oD, oR, tn_add, tn_mul, tn_nat, eqb_t, eqb_f, ltb_t, ltb_f, leb_t, leb_f, nob_s, nob_n, nat_eq, nat_lt, nat_le, mR_0 F, mR_1 F, mR_2 F, mR_3 F, mR_4 F, mR_5 F, mR_6 F, mR_7 F, mR_8 F, mR_9 F, mR_10 F, mR_11 F, mR_12 F, mR_13 F, mR_15 F, mR_17 F, mR_25 F, mR_26 F, mR_27 F, mR_28 F, mR_29 F, mR_30 F, mR_35 F, mR_36 F, mR_37 F, mR_38 F, mR_40 F, mR_41 F, mR_42 F, mR_43 F, mR_44 F, mR_45 F, mR_46 F, mR_47 F, mK_63 F, mK_64 F, mK_65 F, mK_66 F, mK_67 F, mK_68 F, mK_69 F, mK_70 F, mK_71 F, mK_72 F, mK_73 F, mK_74 F, mK_75 F, mK_76 F, mK_77 F, mK_78 F, mK_79 F, mK_80 F, mK_81 F, mK_82 F, mK_83 F, mK_84 F, mK_85 F, mK_86 F, mK_87 F, mK_88 F, mK_89 F, mK_90 F, mK_91 F, mK_92 F, mK_93 F, mK_94 F, mK_95 F, mK_96 F, mK_97 F, b2i]
      exact h2 c1 hg
  · simp (disch := omega) [t_X9_layer, -Int.not_le, -Int.not_lt, ↓e_ci_p, ↓e_lv_p, ↓l_lv_p, ↓r_lv_p, ↓r_null_p, ↓e_fld_p, ↓r_fld_p, ↓e_ald_p, ↓z_ald_p, ↓r_ald_p, ↓e_len_p, ↓e_op_p, ↓e_dv_p, ↓l_op_p, ↓l_dv_p, ↓l_sh_p, ↓e_lcmp_p, ↓e_l2i_p, ↓e_min_p, ↓c_b_p, ↓c_not_p, ↓c_and_p, ↓c_or_p, ↓c_null_p, ↓c_eq_p, ↓c_ne_p, ↓c_lt_p, ↓c_ge_p, ↓c_gt_p, ↓c_le_p, ↓e_cond_p, ↓x_tern_p, ↓a_nil_p, ↓a_I_p, ↓a_L_p, ↓a_R_p, ↓e_callV_p, ↓r_callV_p, ↓e_callS_p, ↓s_skip_p, ↓s_seq_p, ↓s_st_p, ↓s_stL_p, ↓s_stR_p, ↓s_inc_p, ↓s_put_p, ↓s_putZ_p, ↓s_putR_p, ↓s_putop_p, ↓s_ast_p, ↓s_zast_p, ↓s_rast_p, ↓s_astop_p, ↓s_callV_p, ↓s_popV_p, ↓s_if_p, ↓s_ite_p, ↓s_itr_p, ↓s_brk_p, ↓s_retI_p, ↓s_retR_p, ↓s_ret_p, ↓s_sw_p, isI_s, isI_z, isL_s, isL_z, isR_s, isR_z, gI_s, gI_z, gL_z, gR_s, gR_z, gA_s, isA_s, bdo_s, arOK_s, isVI_I, isVR_R, vInt_I, vInt_L, vRef_R, lenOf_s, lnOK_s, rHd_c, isHd_c, noL_z, noL_1, noL_s, nl_I, nl_R, nl_U, stI, stR, bd_t, oA, oS, oM, oD, oR, tn_add, tn_mul, tn_nat, eqb_t, eqb_f, ltb_t, ltb_f, leb_t, leb_f, nob_s, nob_n, nat_eq, nat_lt, nat_le, mR_0 F, mR_1 F, mR_2 F, mR_3 F, mR_4 F, mR_5 F, mR_6 F, mR_7 F, mR_8 F, mR_9 F, mR_10 F, mR_11 F, mR_12 F, mR_13 F, mR_15 F, mR_17 F, mR_25 F, mR_26 F, mR_27 F, mR_28 F, mR_29 F, mR_30 F, mR_35 F, mR_36 F, mR_37 F, mR_38 F, mR_40 F, mR_41 F, mR_42 F, mR_43 F, mR_44 F, mR_45 F, mR_46 F, mR_47 F, mK_63 F, mK_64 F, mK_65 F, mK_66 F, mK_67 F, mK_68 F, mK_69 F, mK_70 F, mK_71 F, mK_72 F, mK_73 F, mK_74 F, mK_75 F, mK_76 F, mK_77 F, mK_78 F, mK_79 F, mK_80 F, mK_81 F, mK_82 F, mK_83 F, mK_84 F, mK_85 F, mK_86 F, mK_87 F, mK_88 F, mK_89 F, mK_90 F, mK_91 F, mK_92 F, mK_93 F, mK_94 F, mK_95 F, mK_96 F, mK_97 F, X9_isPart_eq F hp.1 hp.2, h64, c1]
    exact h1 c1
end LR
