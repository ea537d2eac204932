/-! the constructors, walked cell by cell -/
def ILs : List (Nat × Nat × Int) → Nat → Nat → Int
  | [] => fun _ _ => 0
  | q :: l => upI (ILs l) q.1 q.2.1 q.2.2
def RLs : List (Nat × Nat × Nat) → Nat → Nat → Option Nat
  | [] => fun _ _ => none
  | q :: l => upR (RLs l) q.1 q.2.1 (some q.2.2)
theorem ILs_z {l : List (Nat × Nat × Int)} {x k : Nat} (h : ∀ q ∈ l, q.1 = x → q.2.2 = 0) : ILs l x k = 0 := by
  induction l with
  | nil => rfl
  | cons q l ih =>
    show upI (ILs l) q.1 q.2.1 q.2.2 x k = 0
    unfold upI
    split
    · rename_i hh; exact h q List.mem_cons_self hh.1.symm
    · exact ih (fun z hz => h z (List.mem_cons_of_mem _ hz))
theorem RLs_n {l : List (Nat × Nat × Nat)} {x k : Nat} (h : ∀ q ∈ l, q.1 ≠ x) : RLs l x k = none := by
  induction l with
  | nil => rfl
  | cons q l ih =>
    show upR (RLs l) q.1 q.2.1 (some q.2.2) x k = none
    unfold upR
    split
    · rename_i hh; exact absurd hh.1.symm (h q List.mem_cons_self)
    · exact ih (fun z hz => h z (List.mem_cons_of_mem _ hz))
theorem kd0_len : kd0.length = 98 := by decide
theorem stN_tk {L : Nat} {li : List (Nat × Nat × Int)} {lr : List (Nat × Nat × Nat)} {q : Nat × Nat} (hL : L < 98) (hq : kd0[L]? = some q) (hi : ∀ z ∈ li, z.1 ≠ L) (hr : ∀ z ∈ lr, z.1 ≠ L) : stN (kd0.take L, ILs li, RLs lr) q = (kd0.take (L + 1), ILs li, RLs lr) := by
  have hlen : (kd0.take L).length = L := by rw [List.length_take, kd0_len]; omega
  unfold stN
  simp only [hlen]
  refine Prod.ext ?_ (Prod.ext ?_ ?_)
  · show kd0.take L ++ [q] = kd0.take (L + 1)
    rw [List.take_add_one, hq]; rfl
  · funext b j
    show (if b = L then 0 else ILs li b j) = ILs li b j
    split
    · rename_i hb; rw [hb, ILs_z (fun z hz h => absurd h (hi z hz))]
    · rfl
  · funext b j
    show (if b = L then none else RLs lr b j) = RLs lr b j
    split
    · rename_i hb; rw [hb, RLs_n hr]
    · rfl
def evR (r : ER) (env : XE) (st : XS) (o : Option Nat) (st' : XS) : Prop := ∀ K : Option Nat → XS → Prop, K o st' → r env st K
section KW
variable {env : XE} {Kn Kb : XE → XS → Prop} {Kr : AV → XS → Prop} {a c k N L : Nat} {T : SM} {li li' : List (Nat × Nat × Int)} {lr : List (Nat × Nat × Nat)} {r : ER} {st : XS}
theorem tk_len {L : Nat} (hL : L < 98) : (kd0.take L).length = L := by rw [List.length_take, kd0_len]; omega
theorem ev_newi (hL : L < 98) (hq : kd0[L]? = some (0, N)) (hi : ∀ z ∈ li, z.1 ≠ L) (hr : ∀ z ∈ lr, z.1 ≠ L) : evR (r_newi N) env (kd0.take L, ILs li, RLs lr) (some L) (kd0.take (L + 1), ILs li, RLs lr) := fun K h => by
  show K (some (kd0.take L).length) (stN (kd0.take L, ILs li, RLs lr) (0, N))
  rw [stN_tk hL hq hi hr, tk_len hL]; exact h
theorem ev_newz (hL : L < 98) (hq : kd0[L]? = some (1, N)) (hi : ∀ z ∈ li, z.1 ≠ L) (hr : ∀ z ∈ lr, z.1 ≠ L) : evR (r_newz N) env (kd0.take L, ILs li, RLs lr) (some L) (kd0.take (L + 1), ILs li, RLs lr) := fun K h => by
  show K (some (kd0.take L).length) (stN (kd0.take L, ILs li, RLs lr) (1, N))
  rw [stN_tk hL hq hi hr, tk_len hL]; exact h
theorem ev_newp (hL : L < 98) (hq : kd0[L]? = some (2, N)) (hi : ∀ z ∈ li, z.1 ≠ L) (hr : ∀ z ∈ lr, z.1 ≠ L) : evR (r_newp N) env (kd0.take L, ILs li, RLs lr) (some L) (kd0.take (L + 1), ILs li, RLs lr) := fun K h => by
  show K (some (kd0.take L).length) (stN (kd0.take L, ILs li, RLs lr) (2, N))
  rw [stN_tk hL hq hi hr, tk_len hL]; exact h
theorem ev_ini {i n b : Nat} {v : Int} (h : evR r env st (some b) (kd0.take L, ILs li, RLs lr)) (hk : (kd0.take L)[b]? = some (0, n)) (hi : i < n) : evR (r_ini r i v) env st (some b) (kd0.take L, ILs ((b, i, v) :: li), RLs lr) := fun K hK => h _ ⟨b, n, rfl, hk, hi, hK⟩
theorem K_putR {b : Nat} (hr : evR r (vR (some a) :: env) st (some b) (kd0.take L, ILs li, RLs lr)) (h : (kd0.take L)[a]? = some (c + 3, 0)) (hk : T Kn Kb Kr (vR (some a) :: env) (kd0.take L, ILs li, RLs ((a, k, b) :: lr))) : s_seq (s_putR (r_lv 0) c k r) T Kn Kb Kr (vR (some a) :: env) st := by
  rw [s_seq_p, s_putR_p]
  exact ⟨some a, rfl, hr _ ⟨⟨a, rfl, h⟩, hk⟩⟩
theorem K_put {v : Int} (h : (kd0.take L)[a]? = some (c + 3, 0)) (hk : T Kn Kb Kr (vR (some a) :: env) (kd0.take L, ILs ((a, k, v) :: li), RLs lr)) : s_seq (s_put (r_lv 0) c k (e_ci v)) T Kn Kb Kr (vR (some a) :: env) (kd0.take L, ILs li, RLs lr) := new_v h hk
theorem K_putZ {v : Int} (h : (kd0.take L)[a]? = some (c + 3, 0)) (hv : v = 0 ∨ v = 1) (hk : T Kn Kb Kr (vR (some a) :: env) (kd0.take L, ILs ((a, k, v) :: li), RLs lr)) : s_seq (s_putZ (r_lv 0) c k (e_ci v)) T Kn Kb Kr (vR (some a) :: env) (kd0.take L, ILs li, RLs lr) := new_b h hv hk
def kCt (c k a b : Nat) (T : SM) (Kn Kb : XE → XS → Prop) (Kr : AV → XS → Prop) (env : XE) (v : AV) (st : XS) : Prop := v = vU ∧ isA st.1 (some a) (c + 3) ∧ T Kn Kb Kr (vR (some a) :: env) (stR st a k (some b))
theorem K_new {c2 : Nat} {B : XB} (hL : L < 98) (hq : kd0[L]? = some (c2 + 3, 0)) (hi : ∀ z ∈ li, z.1 ≠ L) (hr : ∀ z ∈ lr, z.1 ≠ L) (hB : B [vR (some L)] (kd0.take (L + 1), ILs li, RLs lr) (kCt c k a L T Kn Kb Kr env)) : s_seq (s_putR (r_lv 0) c k (r_new c2 B a_nil)) T Kn Kb Kr (vR (some a) :: env) (kd0.take L, ILs li, RLs lr) := by
  rw [s_seq_p, s_putR_p]
  refine ⟨some a, rfl, ?_⟩
  show B [vR (some (kd0.take L).length)] (stN (kd0.take L, ILs li, RLs lr) (c2 + 3, 0)) (fun v st2 => v = vU ∧ isA st2.1 (some a) (c + 3) ∧ T Kn Kb Kr (vR (some a) :: env) (stR st2 a k (some (kd0.take L).length)))
  rw [stN_tk hL hq hi hr, tk_len hL]
  exact hB
theorem K_cont {b : Nat} (h : (kd0.take L)[a]? = some (c + 3, 0)) (hk : T Kn Kb Kr (vR (some a) :: env) (kd0.take L, ILs li, RLs ((a, k, b) :: lr))) : kCt c k a b T Kn Kb Kr env vU (kd0.take L, ILs li, RLs lr) := ⟨rfl, ⟨a, rfl, h⟩, hk⟩
def kBd (K : AV → XS → Prop) (v : AV) (st : XS) : Prop := v = vU ∧ K v st
theorem K_body1 {t : SM} {K : AV → XS → Prop} (h : t kno kno (kBd K) [vR (some a)] st) : bodyOf 1 none t [vR (some a)] st K := ⟨Nat.le_refl 1, h⟩
theorem K_body2 {t : SM} {K : AV → XS → Prop} (h : t kno kno (kBd K) [vR (some a), vU] st) : bodyOf 2 none t [vR (some a)] st K := ⟨by show 1 ≤ 2; omega, h⟩
theorem K_ret {K : AV → XS → Prop} (h : K vU st) : s_ret Kn Kb (kBd K) env st := ⟨rfl, h⟩
def PRl (li : List (Nat × Nat × Int)) : Nat → List (Nat × Nat × Int)
  | 0 => li
  | i + 1 => (62, i, 1) :: PRl li i
theorem K_loop (h0 : (kd0.take 63)[0]? = some (11, 0)) (h9 : RLs lr 0 9 = some 62) (h62 : (kd0.take 63)[62]? = some (0, 4)) (hk : T Kn Kb Kr [vR (some 0), vI 4] (kd0.take 63, ILs ((62, 3, 1) :: (62, 2, 1) :: (62, 1, 1) :: (62, 0, 1) :: li), RLs lr)) : s_seq (s_seq (s_st 1 (e_ci 0)) lp_X8_init_0) T Kn Kb Kr [vR (some 0), vU] (kd0.take 63, ILs li, RLs lr) := by
  have hl : lp_X8_init_0 (fun env1 st1 => T Kn Kb Kr env1 st1) Kb Kr [vR (some 0), vI 0] (kd0.take 63, ILs li, RLs lr) := by
    unfold lp_X8_init_0
    refine forUp (lo := 0) (n := 4) (fun i env st => env = [vR (some 0), vI (i : Int)] ∧ st = (kd0.take 63, ILs (PRl li i), RLs lr)) (by omega) (by omega) ⟨rfl, rfl⟩ ?_ ?_ ?_
    · rintro i env st hi ⟨rfl, rfl⟩
      exact ⟨rfl, fun K h => h⟩
    · rintro i env st _ hi ⟨rfl, rfl⟩ Kx hx
      generalize hk2 : kd0.take 63 = kq at *
      simp (disch := omega) [-Int.not_le, -Int.not_lt, ↓e_ci_p, ↓r_null_p, ↓a_nil_p, ↓s_skip_p, ↓s_inc_p, ↓s_brk_p, ↓s_ret_p, ↓lvI_s, ↓lvI_z, ↓lvL_s, ↓lvL_z, ↓lvR_s, ↓lvR_z, ↓e_lv_q, ↓l_lv_q, ↓r_lv_q, ↓kFld_q, ↓e_fld_q, ↓kFlR_q, ↓r_fld_q, ↓kAl1_q, ↓kAl2_q, ↓e_ald_q, ↓z_ald_q, ↓kAr1_q, ↓kAr2_q, ↓r_ald_q, ↓kLen_q, ↓e_len_q, ↓kO1_q, ↓kO2_q, ↓kD1_q, ↓kD2_q, ↓e_op_q, ↓e_dv_q, ↓l_op_q, ↓l_dv_q, ↓l_sh_q, ↓e_lcmp_q, ↓e_min_q, ↓kL2i_q, ↓e_l2i_q, ↓kB1_q, ↓kB2_q, ↓c_eq_q, ↓c_ne_q, ↓c_lt_q, ↓c_ge_q, ↓c_gt_q, ↓c_le_q, ↓kCb_q, ↓kCb_0, ↓kCb_1, ↓c_b_q, ↓kNot_q, ↓c_not_q, ↓kAnd_q, ↓c_and_q, ↓kOr_q, ↓c_or_q, ↓kNul_q, ↓c_null_q, ↓kCond_q, ↓e_cond_q, ↓kTern_q, ↓x_tern_q, ↓kA2_q, ↓kAI_q, ↓kAL_q, ↓kAR_q, ↓a_I_q, ↓a_L_q, ↓a_R_q, ↓kCall_q, ↓kCalS_q, ↓kRI_q, ↓kRR_q, ↓kRU_q, ↓kRP_q, ↓e_callV_q, ↓r_callV_q, ↓e_callS_q, ↓s_callV_q, ↓s_popV_q, ↓s_seq_q, ↓kSt_q, ↓s_st_q, ↓kStL_q, ↓s_stL_q, ↓kStR_q, ↓s_stR_q, ↓kPut1_q, ↓kPut2_q, ↓s_put_q, ↓kPz1_q, ↓kPz2_q, ↓s_putZ_q, ↓kPr1_q, ↓kPr2_q, ↓s_putR_q, ↓kPo1_q, ↓kPo2_q, ↓s_putop_q, ↓kAs1_q, ↓kAs2_q, ↓kAs3_q, ↓s_ast_q, ↓kZs1_q, ↓kZs2_q, ↓kZs3_q, ↓s_zast_q, ↓kRs1_q, ↓kRs2_q, ↓kRs3_q, ↓s_rast_q, ↓kAo1_q, ↓kAo2_q, ↓kAo3_q, ↓s_astop_q, ↓kIf_q, ↓s_if_q, ↓kIte_q, ↓s_ite_q, ↓kItr_q, ↓s_itr_q, ↓kRet_q, ↓s_retI_q, ↓kReR_q, ↓s_retR_q, ↓kSw_q, ↓s_sw_q, lvI_s, lvI_z, lvL_s, lvL_z, lvR_s, lvR_z, kFld_q, kFlR_q, kAl1_q, kAl2_q, kAr1_q, kAr2_q, kLen_q, kO1_q, kO2_q, kD1_q, kD2_q, kL2i_q, kB1_q, kB2_q, kCb_q, kCb_0, kCb_1, kNot_q, kAnd_q, kOr_q, kNul_q, kCond_q, kTern_q, kA2_q, kAI_q, kAL_q, kAR_q, kCall_q, kCalS_q, kRI_q, kRR_q, kRU_q, kRP_q, kSt_q, kStL_q, kStR_q, kPut1_q, kPut2_q, kPz1_q, kPz2_q, kPr1_q, kPr2_q, kPo1_q, kPo2_q, kAs1_q, kAs2_q, kAs3_q, kZs1_q, kZs2_q, kZs3_q, kRs1_q, kRs2_q, kRs3_q, kAo1_q, kAo2_q, kAo3_q, kIf_q, kIte_q, kItr_q, kRet_q, kReR_q, kSw_q, neb_q, gtb_q, geb_q, lnB_s, isI_s, isI_z, gI_s, gI_z, gR_s, gR_z, gA_s, isA_s, bdo_s, rHd_c, isHd_c, noL_z, noL_1, noL_s, nl_I, nl_R, nl_U, stI, stR, bd_t, oA, oS, oM, oD, oR, tn_add, tn_mul, tn_nat, eqb_t, eqb_f, ltb_t, ltb_f, leb_t, leb_f, nob_s, nob_n, nat_eq, nat_lt, nat_le, h0, h9, h62]
      exact hx _ _ rfl (by simp [noL_z, noL_1, noL_s, nl_I, nl_R]) ⟨rfl, rfl⟩
    · rintro env st ⟨rfl, rfl⟩
      exact hk
  exact ⟨by show 1 < 2; omega, rfl, hl⟩
end KW
def li8 : List (Nat × Nat × Int) := [(62, 3, 1), (62, 2, 1), (62, 1, 1), (62, 0, 1), (0, 13, 0), (0, 12, (-1)), (0, 11, 0), (0, 10, 0), (56, 6, 0), (56, 0, 0), (47, 0, (-1)), (41, 6, 0), (41, 0, 0), (31, 6, 0), (31, 0, 0), (25, 3, 0), (25, 2, 0), (25, 1, 0), (21, 3, 0), (21, 2, 0), (21, 1, 0), (19, 2, 0), (19, 1, 0), (10, 0, 0), (1, 0, 0)]
def lr8 : List (Nat × Nat × Nat) := [(0, 9, 62), (0, 8, 54), (54, 1, 56), (56, 5, 61), (56, 4, 60), (56, 3, 59), (56, 2, 58), (56, 1, 57), (54, 0, 55), (0, 7, 47), (47, 6, 53), (47, 5, 52), (47, 4, 51), (47, 3, 50), (47, 2, 49), (47, 1, 48), (0, 6, 37), (37, 3, 41), (41, 5, 46), (41, 4, 45), (41, 3, 44), (41, 2, 43), (41, 1, 42), (37, 2, 40), (37, 1, 39), (37, 0, 38), (0, 5, 27), (27, 3, 31), (31, 5, 36), (31, 4, 35), (31, 3, 34), (31, 2, 33), (31, 1, 32), (27, 2, 30), (27, 1, 29), (27, 0, 28), (0, 4, 25), (25, 0, 26), (0, 3, 21), (21, 5, 24), (21, 4, 23), (21, 0, 22), (0, 2, 19), (19, 0, 20), (0, 1, 10), (10, 8, 18), (10, 7, 17), (10, 6, 16), (10, 5, 15), (10, 4, 14), (10, 3, 13), (10, 2, 12), (10, 1, 11), (0, 0, 1), (1, 8, 9), (1, 7, 8), (1, 6, 7), (1, 5, 6), (1, 4, 5), (1, 3, 4), (1, 2, 3), (1, 1, 2)]
def li9 : List (Nat × Nat × Int) := [(82, 27, 115), (82, 26, 119), (82, 25, 101), (82, 24, 110), (82, 23, 0), (82, 22, 100), (82, 21, 100), (82, 20, 111), (82, 19, 108), (82, 18, 108), (82, 17, 97), (82, 16, 99), (82, 15, 0), (82, 14, 116), (82, 13, 101), (82, 12, 103), (82, 11, 0), (82, 10, 116), (82, 9, 117), (82, 8, 112), (82, 7, 0), (82, 6, 108), (82, 5, 117), (82, 4, 109), (82, 3, 0), (82, 2, 100), (82, 1, 100), (82, 0, 97), (63, 20, (-1)), (79, 3, 1), (79, 2, 1), (79, 1, 1), (79, 0, 1), (62, 3, 1), (62, 2, 1), (62, 1, 1), (62, 0, 1), (0, 13, 0), (0, 12, (-1)), (0, 11, 0), (0, 10, 0), (56, 6, 0), (56, 0, 0), (47, 0, (-1)), (41, 6, 0), (41, 0, 0), (31, 6, 0), (31, 0, 0), (25, 3, 0), (25, 2, 0), (25, 1, 0), (21, 3, 0), (21, 2, 0), (21, 1, 0), (19, 2, 0), (19, 1, 0), (10, 0, 0), (1, 0, 0)]
def lr9 : List (Nat × Nat × Nat) := [(63, 47, 97), (63, 46, 96), (63, 45, 95), (63, 44, 94), (63, 43, 93), (63, 42, 92), (63, 41, 91), (63, 40, 90), (63, 38, 89), (63, 37, 88), (63, 36, 87), (63, 35, 86), (63, 30, 85), (63, 29, 84), (63, 28, 83), (63, 27, 82), (63, 26, 81), (63, 25, 80), (63, 17, 79), (63, 15, 78), (63, 13, 77), (63, 12, 76), (63, 11, 75), (63, 10, 74), (63, 9, 73), (63, 8, 72), (63, 7, 71), (63, 6, 70), (63, 5, 69), (63, 4, 68), (63, 3, 67), (63, 2, 66), (63, 1, 65), (63, 0, 64), (0, 9, 62), (0, 8, 54), (54, 1, 56), (56, 5, 61), (56, 4, 60), (56, 3, 59), (56, 2, 58), (56, 1, 57), (54, 0, 55), (0, 7, 47), (47, 6, 53), (47, 5, 52), (47, 4, 51), (47, 3, 50), (47, 2, 49), (47, 1, 48), (0, 6, 37), (37, 3, 41), (41, 5, 46), (41, 4, 45), (41, 3, 44), (41, 2, 43), (41, 1, 42), (37, 2, 40), (37, 1, 39), (37, 0, 38), (0, 5, 27), (27, 3, 31), (31, 5, 36), (31, 4, 35), (31, 3, 34), (31, 2, 33), (31, 1, 32), (27, 2, 30), (27, 1, 29), (27, 0, 28), (0, 4, 25), (25, 0, 26), (0, 3, 21), (21, 5, 24), (21, 4, 23), (21, 0, 22), (0, 2, 19), (19, 0, 20), (0, 1, 10), (10, 8, 18), (10, 7, 17), (10, 6, 16), (10, 5, 15), (10, 4, 14), (10, 3, 13), (10, 2, 12), (10, 1, 11), (0, 0, 1), (1, 8, 9), (1, 7, 8), (1, 6, 7), (1, 5, 6), (1, 4, 5), (1, 3, 4), (1, 2, 3), (1, 1, 2)]
set_option maxRecDepth 4000 in
set_option maxHeartbeats 4000000 in
theorem X8_init_ok {K : AV → XS → Prop} (hk : K vU (kd0.take 63, ILs li8, RLs lr8)) : B_X8_init [vR (some 0)] (kd0.take 1, ILs [], RLs []) K := by
  try unfold B_X8_init
  refine K_body2 ?_
  try unfold t_X8_init
  refine new_obj ?_
  refine K_new (by decide) (by decide) (by decide) (by decide) ?_
  try unfold B_X3_init
  refine K_body1 ?_
  try unfold t_X3_init
  refine new_obj ?_
  refine K_put (by decide) ?_
  refine K_putR (ev_newi (by decide) (by decide) (by decide) (by decide)) (by decide) ?_
  refine K_putR (ev_newi (by decide) (by decide) (by decide) (by decide)) (by decide) ?_
  refine K_putR (ev_newi (by decide) (by decide) (by decide) (by decide)) (by decide) ?_
  refine K_putR (ev_newi (by decide) (by decide) (by decide) (by decide)) (by decide) ?_
  refine K_putR (ev_newi (by decide) (by decide) (by decide) (by decide)) (by decide) ?_
  refine K_putR (ev_newi (by decide) (by decide) (by decide) (by decide)) (by decide) ?_
  refine K_putR (ev_newi (by decide) (by decide) (by decide) (by decide)) (by decide) ?_
  refine K_putR (ev_newi (by decide) (by decide) (by decide) (by decide)) (by decide) ?_
  refine K_ret ?_
  refine K_cont (by decide) ?_
  refine K_new (by decide) (by decide) (by decide) (by decide) ?_
  try unfold B_X3_init
  refine K_body1 ?_
  try unfold t_X3_init
  refine new_obj ?_
  refine K_put (by decide) ?_
  refine K_putR (ev_newi (by decide) (by decide) (by decide) (by decide)) (by decide) ?_
  refine K_putR (ev_newi (by decide) (by decide) (by decide) (by decide)) (by decide) ?_
  refine K_putR (ev_newi (by decide) (by decide) (by decide) (by decide)) (by decide) ?_
  refine K_putR (ev_newi (by decide) (by decide) (by decide) (by decide)) (by decide) ?_
  refine K_putR (ev_newi (by decide) (by decide) (by decide) (by decide)) (by decide) ?_
  refine K_putR (ev_newi (by decide) (by decide) (by decide) (by decide)) (by decide) ?_
  refine K_putR (ev_newi (by decide) (by decide) (by decide) (by decide)) (by decide) ?_
  refine K_putR (ev_newi (by decide) (by decide) (by decide) (by decide)) (by decide) ?_
  refine K_ret ?_
  refine K_cont (by decide) ?_
  refine K_new (by decide) (by decide) (by decide) (by decide) ?_
  try unfold B_X2_init
  refine K_body1 ?_
  try unfold t_X2_init
  refine new_obj ?_
  refine K_putR (ev_newp (by decide) (by decide) (by decide) (by decide)) (by decide) ?_
  refine K_put (by decide) ?_
  refine K_put (by decide) ?_
  refine K_ret ?_
  refine K_cont (by decide) ?_
  refine K_new (by decide) (by decide) (by decide) (by decide) ?_
  try unfold B_X5_init
  refine K_body1 ?_
  try unfold t_X5_init
  refine new_obj ?_
  refine K_putR (ev_newi (by decide) (by decide) (by decide) (by decide)) (by decide) ?_
  refine K_put (by decide) ?_
  refine K_put (by decide) ?_
  refine K_put (by decide) ?_
  refine K_putR (ev_newi (by decide) (by decide) (by decide) (by decide)) (by decide) ?_
  refine K_putR (ev_newi (by decide) (by decide) (by decide) (by decide)) (by decide) ?_
  refine K_ret ?_
  refine K_cont (by decide) ?_
  refine K_new (by decide) (by decide) (by decide) (by decide) ?_
  try unfold B_X4_init
  refine K_body1 ?_
  try unfold t_X4_init
  refine new_obj ?_
  refine K_putR (ev_newi (by decide) (by decide) (by decide) (by decide)) (by decide) ?_
  refine K_put (by decide) ?_
  refine K_put (by decide) ?_
  refine K_putZ (by decide) (by decide) ?_
  refine K_ret ?_
  refine K_cont (by decide) ?_
  refine K_new (by decide) (by decide) (by decide) (by decide) ?_
  try unfold B_X6_init
  refine K_body1 ?_
  try unfold t_X6_init
  refine new_obj ?_
  refine K_putR (ev_newi (by decide) (by decide) (by decide) (by decide)) (by decide) ?_
  refine K_putR (ev_newi (by decide) (by decide) (by decide) (by decide)) (by decide) ?_
  refine K_putR (ev_newi (by decide) (by decide) (by decide) (by decide)) (by decide) ?_
  refine K_new (by decide) (by decide) (by decide) (by decide) ?_
  try unfold B_X7_init
  refine K_body1 ?_
  try unfold t_X7_init
  refine new_obj ?_
  refine K_put (by decide) ?_
  refine K_putR (ev_newi (by decide) (by decide) (by decide) (by decide)) (by decide) ?_
  refine K_putR (ev_newi (by decide) (by decide) (by decide) (by decide)) (by decide) ?_
  refine K_putR (ev_newi (by decide) (by decide) (by decide) (by decide)) (by decide) ?_
  refine K_putR (ev_newi (by decide) (by decide) (by decide) (by decide)) (by decide) ?_
  refine K_putR (ev_newi (by decide) (by decide) (by decide) (by decide)) (by decide) ?_
  refine K_put (by decide) ?_
  refine K_ret ?_
  refine K_cont (by decide) ?_
  refine K_ret ?_
  refine K_cont (by decide) ?_
  refine K_new (by decide) (by decide) (by decide) (by decide) ?_
  try unfold B_X6_init
  refine K_body1 ?_
  try unfold t_X6_init
  refine new_obj ?_
  refine K_putR (ev_newi (by decide) (by decide) (by decide) (by decide)) (by decide) ?_
  refine K_putR (ev_newi (by decide) (by decide) (by decide) (by decide)) (by decide) ?_
  refine K_putR (ev_newi (by decide) (by decide) (by decide) (by decide)) (by decide) ?_
  refine K_new (by decide) (by decide) (by decide) (by decide) ?_
  try unfold B_X7_init
  refine K_body1 ?_
  try unfold t_X7_init
  refine new_obj ?_
  refine K_put (by decide) ?_
  refine K_putR (ev_newi (by decide) (by decide) (by decide) (by decide)) (by decide) ?_
  refine K_putR (ev_newi (by decide) (by decide) (by decide) (by decide)) (by decide) ?_
  refine K_putR (ev_newi (by decide) (by decide) (by decide) (by decide)) (by decide) ?_
  refine K_putR (ev_newi (by decide) (by decide) (by decide) (by decide)) (by decide) ?_
  refine K_putR (ev_newi (by decide) (by decide) (by decide) (by decide)) (by decide) ?_
  refine K_put (by decide) ?_
  refine K_ret ?_
  refine K_cont (by decide) ?_
  refine K_ret ?_
  refine K_cont (by decide) ?_
  refine K_new (by decide) (by decide) (by decide) (by decide) ?_
  try unfold B_X1_init
  refine K_body1 ?_
  try unfold t_X1_init
  refine new_obj ?_
  refine K_put (by decide) ?_
  refine K_putR (ev_newi (by decide) (by decide) (by decide) (by decide)) (by decide) ?_
  refine K_putR (ev_newi (by decide) (by decide) (by decide) (by decide)) (by decide) ?_
  refine K_putR (ev_newi (by decide) (by decide) (by decide) (by decide)) (by decide) ?_
  refine K_putR (ev_newi (by decide) (by decide) (by decide) (by decide)) (by decide) ?_
  refine K_putR (ev_newi (by decide) (by decide) (by decide) (by decide)) (by decide) ?_
  refine K_putR (ev_newi (by decide) (by decide) (by decide) (by decide)) (by decide) ?_
  refine K_ret ?_
  refine K_cont (by decide) ?_
  refine K_new (by decide) (by decide) (by decide) (by decide) ?_
  try unfold B_X0_init
  refine K_body1 ?_
  try unfold t_X0_init
  refine new_obj ?_
  refine K_putR (ev_newi (by decide) (by decide) (by decide) (by decide)) (by decide) ?_
  refine K_new (by decide) (by decide) (by decide) (by decide) ?_
  try unfold B_X7_init
  refine K_body1 ?_
  try unfold t_X7_init
  refine new_obj ?_
  refine K_put (by decide) ?_
  refine K_putR (ev_newi (by decide) (by decide) (by decide) (by decide)) (by decide) ?_
  refine K_putR (ev_newi (by decide) (by decide) (by decide) (by decide)) (by decide) ?_
  refine K_putR (ev_newi (by decide) (by decide) (by decide) (by decide)) (by decide) ?_
  refine K_putR (ev_newi (by decide) (by decide) (by decide) (by decide)) (by decide) ?_
  refine K_putR (ev_newi (by decide) (by decide) (by decide) (by decide)) (by decide) ?_
  refine K_put (by decide) ?_
  refine K_ret ?_
  refine K_cont (by decide) ?_
  refine K_ret ?_
  refine K_cont (by decide) ?_
  refine K_putR (ev_newi (by decide) (by decide) (by decide) (by decide)) (by decide) ?_
  refine K_put (by decide) ?_
  refine K_putZ (by decide) (by decide) ?_
  refine K_put (by decide) ?_
  refine K_put (by decide) ?_
  refine K_loop (by decide) (by decide) (by decide) ?_
  refine K_ret ?_
  exact hk
set_option maxRecDepth 4000 in
set_option maxHeartbeats 4000000 in
theorem X9_init_ok {K : AV → XS → Prop} (hk : K vU (kd0.take 98, ILs li9, RLs lr9)) : B_X9_init [vR (some 63)] (kd0.take 64, ILs li8, RLs lr8) K := by
  try unfold B_X9_init
  refine K_body1 ?_
  try unfold t_X9_init
  refine new_obj ?_
  refine K_putR (ev_newi (by decide) (by decide) (by decide) (by decide)) (by decide) ?_
  refine K_putR (ev_newi (by decide) (by decide) (by decide) (by decide)) (by decide) ?_
  refine K_putR (ev_newi (by decide) (by decide) (by decide) (by decide)) (by decide) ?_
  refine K_putR (ev_newi (by decide) (by decide) (by decide) (by decide)) (by decide) ?_
  refine K_putR (ev_newi (by decide) (by decide) (by decide) (by decide)) (by decide) ?_
  refine K_putR (ev_newi (by decide) (by decide) (by decide) (by decide)) (by decide) ?_
  refine K_putR (ev_newi (by decide) (by decide) (by decide) (by decide)) (by decide) ?_
  refine K_putR (ev_newi (by decide) (by decide) (by decide) (by decide)) (by decide) ?_
  refine K_putR (ev_newi (by decide) (by decide) (by decide) (by decide)) (by decide) ?_
  refine K_putR (ev_newi (by decide) (by decide) (by decide) (by decide)) (by decide) ?_
  refine K_putR (ev_newi (by decide) (by decide) (by decide) (by decide)) (by decide) ?_
  refine K_putR (ev_newi (by decide) (by decide) (by decide) (by decide)) (by decide) ?_
  refine K_putR (ev_newi (by decide) (by decide) (by decide) (by decide)) (by decide) ?_
  refine K_putR (ev_newz (by decide) (by decide) (by decide) (by decide)) (by decide) ?_
  refine K_putR (ev_newi (by decide) (by decide) (by decide) (by decide)) (by decide) ?_
  refine K_putR (ev_ini (n := 4) (ev_ini (n := 4) (ev_ini (n := 4) (ev_ini (n := 4) (ev_newi (by decide) (by decide) (by decide) (by decide)) (by decide) (by decide)) (by decide) (by decide)) (by decide) (by decide)) (by decide) (by decide)) (by decide) ?_
  refine K_put (by decide) ?_
  refine K_putR (ev_newi (by decide) (by decide) (by decide) (by decide)) (by decide) ?_
  refine K_putR (ev_newi (by decide) (by decide) (by decide) (by decide)) (by decide) ?_
  refine K_putR (ev_ini (n := 28) (ev_ini (n := 28) (ev_ini (n := 28) (ev_ini (n := 28) (ev_ini (n := 28) (ev_ini (n := 28) (ev_ini (n := 28) (ev_ini (n := 28) (ev_ini (n := 28) (ev_ini (n := 28) (ev_ini (n := 28) (ev_ini (n := 28) (ev_ini (n := 28) (ev_ini (n := 28) (ev_ini (n := 28) (ev_ini (n := 28) (ev_ini (n := 28) (ev_ini (n := 28) (ev_ini (n := 28) (ev_ini (n := 28) (ev_ini (n := 28) (ev_ini (n := 28) (ev_ini (n := 28) (ev_ini (n := 28) (ev_ini (n := 28) (ev_ini (n := 28) (ev_ini (n := 28) (ev_ini (n := 28) (ev_newi (by decide) (by decide) (by decide) (by decide)) (by decide) (by decide)) (by decide) (by decide)) (by decide) (by decide)) (by decide) (by decide)) (by decide) (by decide)) (by decide) (by decide)) (by decide) (by decide)) (by decide) (by decide)) (by decide) (by decide)) (by decide) (by decide)) (by decide) (by decide)) (by decide) (by decide)) (by decide) (by decide)) (by decide) (by decide)) (by decide) (by decide)) (by decide) (by decide)) (by decide) (by decide)) (by decide) (by decide)) (by decide) (by decide)) (by decide) (by decide)) (by decide) (by decide)) (by decide) (by decide)) (by decide) (by decide)) (by decide) (by decide)) (by decide) (by decide)) (by decide) (by decide)) (by decide) (by decide)) (by decide) (by decide)) (by decide) ?_
  refine K_putR (ev_newi (by decide) (by decide) (by decide) (by decide)) (by decide) ?_
  refine K_putR (ev_newi (by decide) (by decide) (by decide) (by decide)) (by decide) ?_
  refine K_putR (ev_newi (by decide) (by decide) (by decide) (by decide)) (by decide) ?_
  refine K_putR (ev_newi (by decide) (by decide) (by decide) (by decide)) (by decide) ?_
  refine K_putR (ev_newi (by decide) (by decide) (by decide) (by decide)) (by decide) ?_
  refine K_putR (ev_newi (by decide) (by decide) (by decide) (by decide)) (by decide) ?_
  refine K_putR (ev_newi (by decide) (by decide) (by decide) (by decide)) (by decide) ?_
  refine K_putR (ev_newi (by decide) (by decide) (by decide) (by decide)) (by decide) ?_
  refine K_putR (ev_newi (by decide) (by decide) (by decide) (by decide)) (by decide) ?_
  refine K_putR (ev_newi (by decide) (by decide) (by decide) (by decide)) (by decide) ?_
  refine K_putR (ev_newi (by decide) (by decide) (by decide) (by decide)) (by decide) ?_
  refine K_putR (ev_newi (by decide) (by decide) (by decide) (by decide)) (by decide) ?_
  refine K_putR (ev_newi (by decide) (by decide) (by decide) (by decide)) (by decide) ?_
  refine K_putR (ev_newz (by decide) (by decide) (by decide) (by decide)) (by decide) ?_
  refine K_putR (ev_newz (by decide) (by decide) (by decide) (by decide)) (by decide) ?_
  refine K_ret ?_
  exact hk
