/-! deps: 30.tool -/
/-! walking a plain statement from its head on, without names bound on the way -/
def bd (i : Int) (n : Nat) : Prop := 0 ≤ i ∧ i < (n : Int)
theorem bd_t {i : Int} {n : Nat} (h1 : 0 ≤ i) (h2 : i < (n : Int)) : bd i n = True := eq_true ⟨h1, h2⟩
def isI (env : XE) (i : Nat) : Prop := ∃ x, env[i]? = some (vI x)
def isL (env : XE) (i : Nat) : Prop := ∃ x, env[i]? = some (vL x)
def isR (env : XE) (i : Nat) : Prop := ∃ x, env[i]? = some (vR x)
def vInt (v : AV) : Int := match v with
  | .inl x => x
  | .inr (.inl x) => x
  | _ => 0
def vRef (v : AV) : Option Nat := match v with
  | .inr (.inr (.inl x)) => x
  | _ => none
def gI (env : XE) (i : Nat) : Int := vInt (env[i]?.getD vU)
def gR (env : XE) (i : Nat) : Option Nat := vRef (env[i]?.getD vU)
def gA (r : Option Nat) : Nat := r.getD 0
def isA (kd : List (Nat × Nat)) (r : Option Nat) (t : Nat) : Prop := ∃ a, r = some a ∧ kd[a]? = some (t, 0)
def bdo (o : Option (Nat × Nat)) (t : Nat) (i : Int) : Prop := ∃ n, o = some (t, n) ∧ 0 ≤ i ∧ i < (n : Int)
def arOK (kd : List (Nat × Nat)) (r : Option Nat) (t : Nat) (i : Int) : Prop := ∃ a, r = some a ∧ bdo kd[a]? t i
def isVI (v : AV) : Prop := ∃ x, v = vI x
def isVR (v : AV) : Prop := ∃ x, v = vR x
theorem isI_s (v : AV) (env : XE) (i : Nat) : isI (v :: env) (i + 1) = isI env i := rfl
theorem isI_z (x : Int) (env : XE) : isI (vI x :: env) 0 = True := eq_true ⟨x, rfl⟩
theorem isL_s (v : AV) (env : XE) (i : Nat) : isL (v :: env) (i + 1) = isL env i := rfl
theorem isL_z (x : Int) (env : XE) : isL (vL x :: env) 0 = True := eq_true ⟨x, rfl⟩
theorem isR_s (v : AV) (env : XE) (i : Nat) : isR (v :: env) (i + 1) = isR env i := rfl
theorem isR_z (x : Option Nat) (env : XE) : isR (vR x :: env) 0 = True := eq_true ⟨x, rfl⟩
theorem gI_s (v : AV) (env : XE) (i : Nat) : gI (v :: env) (i + 1) = gI env i := rfl
theorem gI_z (x : Int) (env : XE) : gI (vI x :: env) 0 = x := rfl
theorem gL_z (x : Int) (env : XE) : gI (vL x :: env) 0 = x := rfl
theorem gR_s (v : AV) (env : XE) (i : Nat) : gR (v :: env) (i + 1) = gR env i := rfl
theorem gR_z (x : Option Nat) (env : XE) : gR (vR x :: env) 0 = x := rfl
theorem gA_s (a : Nat) : gA (some a) = a := rfl
theorem isA_s (kd : List (Nat × Nat)) (a t : Nat) : isA kd (some a) t = (kd[a]? = some (t, 0)) := by simp [isA]
theorem bdo_s (t n t' : Nat) (i : Int) : bdo (some (t, n)) t' i = (t = t' ∧ bd i n) := by
  simp only [bdo, bd, Option.some.injEq, Prod.mk.injEq]
  exact propext ⟨fun ⟨_, ⟨h1, rfl⟩, h2⟩ => ⟨h1, h2⟩, fun ⟨h1, h2⟩ => ⟨_, ⟨h1, rfl⟩, h2⟩⟩
theorem arOK_s (kd : List (Nat × Nat)) (a t : Nat) (i : Int) : arOK kd (some a) t i = bdo kd[a]? t i := by simp [arOK]
theorem isVI_I (x : Int) : isVI (vI x) = True := eq_true ⟨x, rfl⟩
theorem isVR_R (x : Option Nat) : isVR (vR x) = True := eq_true ⟨x, rfl⟩
theorem vInt_I (x : Int) : vInt (vI x) = x := rfl
theorem vInt_L (x : Int) : vInt (vL x) = x := rfl
theorem vRef_R (x : Option Nat) : vRef (vR x) = x := rfl
/-- how two ints stand, as truths -/
def eqb (x y : Int) : Bool := decide (x = y)
def ltb (x y : Int) : Bool := decide (x < y)
def leb (x y : Int) : Bool := decide (x ≤ y)
def nob (x : Option Nat) : Bool := decide (x = none)
theorem eqb_t (x y : Int) : (eqb x y = true) = (x = y) := by simp [eqb]
theorem eqb_f (x y : Int) : (eqb x y = false) = ¬ (x = y) := by simp [eqb]
theorem ltb_t (x y : Int) : (ltb x y = true) = (x < y) := by simp [ltb]
theorem ltb_f (x y : Int) : (ltb x y = false) = ¬ (x < y) := by simp [ltb]
theorem leb_t (x y : Int) : (leb x y = true) = (x ≤ y) := by simp [leb]
theorem leb_f (x y : Int) : (leb x y = false) = ¬ (x ≤ y) := by simp [leb]
theorem nob_s (x : Nat) : nob (some x) = false := rfl
theorem nob_n : nob none = true := rfl
section PL
variable {env : XE} {st : XS} {Kn Kb : XE → XS → Prop} {Kr : AV → XS → Prop}
theorem e_ci_p {n : Int} {K : Int → XS → Prop} : e_ci n env st K = K n st := rfl
theorem e_lv_p {i : Nat} {K : Int → XS → Prop} : e_lv i env st K = (isI env i ∧ K (gI env i) st) := by
  refine propext ⟨fun ⟨x, h1, h2⟩ => ⟨⟨x, h1⟩, ?_⟩, fun ⟨⟨x, h1⟩, h2⟩ => ⟨x, h1, ?_⟩⟩
  · rw [gI, h1]; exact h2
  · rw [gI, h1] at h2; exact h2
theorem l_lv_p {i : Nat} {K : Int → XS → Prop} : l_lv i env st K = (isL env i ∧ K (gI env i) st) := by
  refine propext ⟨fun ⟨x, h1, h2⟩ => ⟨⟨x, h1⟩, ?_⟩, fun ⟨⟨x, h1⟩, h2⟩ => ⟨x, h1, ?_⟩⟩
  · rw [gI, h1]; exact h2
  · rw [gI, h1] at h2; exact h2
theorem r_lv_p {i : Nat} {K : Option Nat → XS → Prop} : r_lv i env st K = (isR env i ∧ K (gR env i) st) := by
  refine propext ⟨fun ⟨x, h1, h2⟩ => ⟨⟨x, h1⟩, ?_⟩, fun ⟨⟨x, h1⟩, h2⟩ => ⟨x, h1, ?_⟩⟩
  · rw [gR, h1]; exact h2
  · rw [gR, h1] at h2; exact h2
theorem r_null_p {K : Option Nat → XS → Prop} : r_null env st K = K none st := rfl
theorem e_fld_p {o : ER} {c k : Nat} {K : Int → XS → Prop} : e_fld o c k env st K = o env st (fun r st1 => isA st1.1 r (c + 3) ∧ K (st1.2.1 (gA r) k) st1) := by
  unfold e_fld
  congr 1; funext r st1
  exact propext ⟨fun ⟨a, h1, h2, h3⟩ => ⟨⟨a, h1, h2⟩, by rw [h1]; exact h3⟩, fun ⟨⟨a, h1, h2⟩, h3⟩ => ⟨a, h1, h2, by rw [h1] at h3; exact h3⟩⟩
theorem r_fld_p {o : ER} {c k : Nat} {K : Option Nat → XS → Prop} : r_fld o c k env st K = o env st (fun r st1 => isA st1.1 r (c + 3) ∧ K (st1.2.2 (gA r) k) st1) := by
  unfold r_fld
  congr 1; funext r st1
  exact propext ⟨fun ⟨a, h1, h2, h3⟩ => ⟨⟨a, h1, h2⟩, by rw [h1]; exact h3⟩, fun ⟨⟨a, h1, h2⟩, h3⟩ => ⟨a, h1, h2, by rw [h1] at h3; exact h3⟩⟩
theorem ar_p {kd : List (Nat × Nat)} {r : Option Nat} {t : Nat} {i : Int} {Q : Nat → Prop} : (∃ a n, r = some a ∧ kd[a]? = some (t, n) ∧ 0 ≤ i ∧ i < (n : Int) ∧ Q a) = (arOK kd r t i ∧ Q (gA r)) :=
  propext ⟨fun ⟨a, n, h1, h2, h3, h4, h5⟩ => ⟨⟨a, h1, n, h2, h3, h4⟩, by rw [h1]; exact h5⟩, fun ⟨⟨a, h1, n, h2, h3, h4⟩, h5⟩ => ⟨a, n, h1, h2, h3, h4, by rw [h1] at h5; exact h5⟩⟩
theorem e_ald_p {o : ER} {x : EI} {K : Int → XS → Prop} : e_ald o x env st K = o env st (fun r st1 => x env st1 (fun i st2 => arOK st2.1 r 0 i ∧ K (st2.2.1 (gA r) i.toNat) st2)) := by
  unfold e_ald
  congr 1; funext r st1; congr 1; funext i st2
  exact ar_p (Q := fun a => K (st2.2.1 a i.toNat) st2)
theorem z_ald_p {o : ER} {x : EI} {K : Int → XS → Prop} : z_ald o x env st K = o env st (fun r st1 => x env st1 (fun i st2 => arOK st2.1 r 1 i ∧ K (st2.2.1 (gA r) i.toNat) st2)) := by
  unfold z_ald
  congr 1; funext r st1; congr 1; funext i st2
  exact ar_p (Q := fun a => K (st2.2.1 a i.toNat) st2)
theorem r_ald_p {o : ER} {x : EI} {K : Option Nat → XS → Prop} : r_ald o x env st K = o env st (fun r st1 => x env st1 (fun i st2 => arOK st2.1 r 2 i ∧ K (st2.2.2 (gA r) i.toNat) st2)) := by
  unfold r_ald
  congr 1; funext r st1; congr 1; funext i st2
  exact ar_p (Q := fun a => K (st2.2.2 a i.toNat) st2)
/-- the length of an int array -/
def lenOf (kd : List (Nat × Nat)) (r : Option Nat) : Nat := (kd[gA r]?.getD (0, 0)).2
def lnOK (kd : List (Nat × Nat)) (r : Option Nat) : Prop := ∃ a n, r = some a ∧ kd[a]? = some (0, n) ∧ n < 2147483648
theorem e_len_p {o : ER} {K : Int → XS → Prop} : e_len o env st K = o env st (fun r st1 => lnOK st1.1 r ∧ K ((lenOf st1.1 r : Nat) : Int) st1) := by
  unfold e_len
  congr 1; funext r st1
  exact propext ⟨fun ⟨a, n, h1, h2, h3, h4⟩ => ⟨⟨a, n, h1, h2, h3⟩, by subst h1; simp only [lenOf, gA, Option.getD_some, h2]; exact h4⟩, fun ⟨⟨a, n, h1, h2, h3⟩, h4⟩ => ⟨a, n, h1, h2, h3, by subst h1; simp only [lenOf, gA, Option.getD_some, h2] at h4; exact h4⟩⟩
theorem lenOf_s (kd : List (Nat × Nat)) (a : Nat) : lenOf kd (some a) = (kd[a]?.getD (0, 0)).2 := rfl
theorem lnOK_s (kd : List (Nat × Nat)) (a : Nat) : lnOK kd (some a) = ∃ n, kd[a]? = some (0, n) ∧ n < 2147483648 := by simp [lnOK]
theorem e_op_p {f : Int32 → Int32 → Int32} {a b : EI} {K : Int → XS → Prop} : e_op f a b env st K = a env st (fun x st1 => b env st1 (fun y st2 => K (o2 f x y) st2)) := rfl
theorem e_dv_p {f : Int32 → Int32 → Int32} {a b : EI} {K : Int → XS → Prop} : e_dv f a b env st K = a env st (fun x st1 => b env st1 (fun y st2 => y ≠ 0 ∧ K (o2 f x y) st2)) := rfl
theorem l_op_p {f : Int64 → Int64 → Int64} {a b : EI} {K : Int → XS → Prop} : l_op f a b env st K = a env st (fun x st1 => b env st1 (fun y st2 => K (w2 f x y) st2)) := rfl
theorem l_dv_p {f : Int64 → Int64 → Int64} {a b : EI} {K : Int → XS → Prop} : l_dv f a b env st K = a env st (fun x st1 => b env st1 (fun y st2 => y ≠ 0 ∧ K (w2 f x y) st2)) := rfl
theorem l_sh_p {f : Int64 → Int32 → Int64} {a b : EI} {K : Int → XS → Prop} : l_sh f a b env st K = a env st (fun x st1 => b env st1 (fun y st2 => K (w3 f x y) st2)) := rfl
theorem e_lcmp_p {a b : EI} {K : Int → XS → Prop} : e_lcmp a b env st K = a env st (fun x st1 => b env st1 (fun y st2 => K (lcmp x y) st2)) := rfl
theorem e_l2i_p {a : EI} {K : Int → XS → Prop} : e_l2i a env st K = a env st (fun x st1 => K (l2i x) st1) := rfl
theorem e_min_p {a b : EI} {K : Int → XS → Prop} : e_min a b env st K = a env st (fun x st1 => b env st1 (fun y st2 => K (mn x y) st2)) := rfl
theorem c_b_p {a : EI} {K : Bool → XS → Prop} : c_b a env st K = a env st (fun x st1 => K (!eqb x 0) st1) := by
  simp only [c_b, eqb, decide_not, ne_eq]
theorem c_not_p {c : EC} {K : Bool → XS → Prop} : c_not c env st K = c env st (fun b st1 => K (!b) st1) := rfl
theorem c_and_p {a b : EC} {K : Bool → XS → Prop} : c_and a b env st K = a env st (fun p st1 => if p = true then b env st1 K else K false st1) := rfl
theorem c_or_p {a b : EC} {K : Bool → XS → Prop} : c_or a b env st K = a env st (fun p st1 => if p = true then K true st1 else b env st1 K) := rfl
theorem c_null_p {r : ER} {K : Bool → XS → Prop} : c_null r env st K = r env st (fun x st1 => K (nob x) st1) := rfl
theorem c_eq_p {a b : EI} {K : Bool → XS → Prop} : c_eq a b env st K = a env st (fun x st1 => b env st1 (fun y st2 => K (eqb x y) st2)) := rfl
theorem c_ne_p {a b : EI} {K : Bool → XS → Prop} : c_ne a b env st K = a env st (fun x st1 => b env st1 (fun y st2 => K (!eqb x y) st2)) := by
  simp only [c_ne, eqb, decide_not, ne_eq]
theorem c_lt_p {a b : EI} {K : Bool → XS → Prop} : c_lt a b env st K = a env st (fun x st1 => b env st1 (fun y st2 => K (ltb x y) st2)) := rfl
theorem c_ge_p {a b : EI} {K : Bool → XS → Prop} : c_ge a b env st K = a env st (fun x st1 => b env st1 (fun y st2 => K (leb y x) st2)) := rfl
theorem c_gt_p {a b : EI} {K : Bool → XS → Prop} : c_gt a b env st K = a env st (fun x st1 => b env st1 (fun y st2 => K (ltb y x) st2)) := rfl
theorem c_le_p {a b : EI} {K : Bool → XS → Prop} : c_le a b env st K = a env st (fun x st1 => b env st1 (fun y st2 => K (leb x y) st2)) := rfl
theorem e_cond_p {c : EC} {K : Int → XS → Prop} : e_cond c env st K = c env st (fun b st1 => K (if b = true then 1 else 0) st1) := rfl
theorem x_tern_p {α : Type} {c : EC} {a b : XE → XS → (α → XS → Prop) → Prop} {K : α → XS → Prop} : x_tern c a b env st K = c env st (fun q st1 => if q = true then a env st1 K else b env st1 K) := rfl
theorem a_nil_p {K : List AV → XS → Prop} : a_nil env st K = K [] st := rfl
theorem a_I_p {x : EI} {r : EA} {K : List AV → XS → Prop} : a_I x r env st K = x env st (fun v st1 => r env st1 (fun l st2 => K (vI v :: l) st2)) := rfl
theorem a_L_p {x : EI} {r : EA} {K : List AV → XS → Prop} : a_L x r env st K = x env st (fun v st1 => r env st1 (fun l st2 => K (vL v :: l) st2)) := rfl
theorem a_R_p {x : ER} {r : EA} {K : List AV → XS → Prop} : a_R x r env st K = x env st (fun v st1 => r env st1 (fun l st2 => K (vR v :: l) st2)) := rfl
def rHd (l : List AV) : Option Nat := match l with
  | v :: _ => vRef v
  | [] => none
theorem rHd_c (r : Option Nat) (l : List AV) : rHd (vR r :: l) = r := rfl
def isHd (l : List AV) : Prop := ∃ r l', l = vR r :: l'
theorem isHd_c (r : Option Nat) (l : List AV) : isHd (vR r :: l) = True := eq_true ⟨r, l, rfl⟩
theorem g_callV_p {c : Nat} {B : XB} {a : EA} {K : AV → XS → Prop} : g_callV c B a K env st = a env st (fun l st1 => isHd l ∧ isA st1.1 (rHd l) (c + 3) ∧ B l st1 K) := by
  unfold g_callV
  congr 1; funext l st1
  exact propext ⟨fun ⟨o, l', h1, h2, h3⟩ => ⟨⟨_, _, h1⟩, ⟨o, by rw [h1]; rfl, h2⟩, h3⟩, fun ⟨⟨r, l', h1⟩, ⟨o, h2, h3⟩, h4⟩ => ⟨o, l', by subst h1; rw [← h2]; rfl, h3, h4⟩⟩
theorem vI_p {K : Int → XS → Prop} : (fun (v : AV) (st2 : XS) => ∃ x, v = vI x ∧ K x st2) = fun v st2 => isVI v ∧ K (vInt v) st2 := by
  funext v st2
  exact propext ⟨fun ⟨x, h1, h2⟩ => ⟨⟨x, h1⟩, by rw [h1]; exact h2⟩, fun ⟨⟨x, h1⟩, h2⟩ => ⟨x, h1, by rw [h1] at h2; exact h2⟩⟩
theorem vR_p {K : Option Nat → XS → Prop} : (fun (v : AV) (st2 : XS) => ∃ x, v = vR x ∧ K x st2) = fun v st2 => isVR v ∧ K (vRef v) st2 := by
  funext v st2
  exact propext ⟨fun ⟨x, h1, h2⟩ => ⟨⟨x, h1⟩, by rw [h1]; exact h2⟩, fun ⟨⟨x, h1⟩, h2⟩ => ⟨x, h1, by rw [h1] at h2; exact h2⟩⟩
theorem e_callV_p {c : Nat} {B : XB} {a : EA} {K : Int → XS → Prop} : e_callV c B a env st K = a env st (fun l st1 => isHd l ∧ isA st1.1 (rHd l) (c + 3) ∧ B l st1 (fun v st2 => isVI v ∧ K (vInt v) st2)) := by
  rw [e_callV, vI_p, g_callV_p]
theorem r_callV_p {c : Nat} {B : XB} {a : EA} {K : Option Nat → XS → Prop} : r_callV c B a env st K = a env st (fun l st1 => isHd l ∧ isA st1.1 (rHd l) (c + 3) ∧ B l st1 (fun v st2 => isVR v ∧ K (vRef v) st2)) := by
  rw [r_callV, vR_p, g_callV_p]
theorem e_callS_p {B : XB} {a : EA} {K : Int → XS → Prop} : e_callS B a env st K = a env st (fun l st1 => B l st1 (fun v st2 => isVI v ∧ K (vInt v) st2)) := by
  unfold e_callS
  congr 1; funext l st1
  rw [vI_p]
theorem s_skip_p : s_skip Kn Kb Kr env st = Kn env st := rfl
theorem s_seq_p {a b : SM} : s_seq a b Kn Kb Kr env st = a (fun env1 st1 => b Kn Kb Kr env1 st1) Kb Kr env st := rfl
theorem s_st_p {i : Nat} {x : EI} : s_st i x Kn Kb Kr env st = x env st (fun v st1 => i < env.length ∧ noL env i = true ∧ Kn (env.set i (vI v)) st1) := rfl
theorem s_stL_p {i : Nat} {x : EI} : s_stL i x Kn Kb Kr env st = x env st (fun v st1 => i + 1 < env.length ∧ noL env i = true ∧ Kn ((env.set i (vL v)).set (i + 1) vU) st1) := rfl
theorem s_stR_p {i : Nat} {x : ER} : s_stR i x Kn Kb Kr env st = x env st (fun v st1 => i < env.length ∧ noL env i = true ∧ Kn (env.set i (vR v)) st1) := rfl
theorem s_inc_p {i : Nat} {n : Int} : s_inc i n Kn Kb Kr env st = (isI env i ∧ noL env i = true ∧ Kn (env.set i (vI (o2 f_iadd (gI env i) n))) st) := by
  refine propext ⟨fun ⟨x, h1, h2, h3⟩ => ⟨⟨x, h1⟩, h2, ?_⟩, fun ⟨⟨x, h1⟩, h2, h3⟩ => ⟨x, h1, h2, ?_⟩⟩
  · rw [gI, h1]; exact h3
  · rw [gI, h1] at h3; exact h3
theorem isA_p {kd : List (Nat × Nat)} {r : Option Nat} {t : Nat} {Q : Nat → Prop} : (∃ a, r = some a ∧ kd[a]? = some (t, 0) ∧ Q a) = (isA kd r t ∧ Q (gA r)) :=
  propext ⟨fun ⟨a, h1, h2, h3⟩ => ⟨⟨a, h1, h2⟩, by rw [h1]; exact h3⟩, fun ⟨⟨a, h1, h2⟩, h3⟩ => ⟨a, h1, h2, by rw [h1] at h3; exact h3⟩⟩
theorem s_put_p {o : ER} {c k : Nat} {x : EI} : s_put o c k x Kn Kb Kr env st = o env st (fun r st1 => x env st1 (fun v st2 => isA st2.1 r (c + 3) ∧ Kn env (stI st2 (gA r) k v))) := by
  unfold s_put
  congr 1; funext r st1; congr 1; funext v st2
  exact isA_p (Q := fun a => Kn env (stI st2 a k v))
theorem s_putZ_p {o : ER} {c k : Nat} {x : EI} : s_putZ o c k x Kn Kb Kr env st = o env st (fun r st1 => x env st1 (fun v st2 => isA st2.1 r (c + 3) ∧ (v = 0 ∨ v = 1) ∧ Kn env (stI st2 (gA r) k v))) := by
  unfold s_putZ
  congr 1; funext r st1; congr 1; funext v st2
  exact isA_p (Q := fun a => (v = 0 ∨ v = 1) ∧ Kn env (stI st2 a k v))
theorem s_putR_p {o : ER} {c k : Nat} {x : ER} : s_putR o c k x Kn Kb Kr env st = o env st (fun r st1 => x env st1 (fun v st2 => isA st2.1 r (c + 3) ∧ Kn env (stR st2 (gA r) k v))) := by
  unfold s_putR
  congr 1; funext r st1; congr 1; funext v st2
  exact isA_p (Q := fun a => Kn env (stR st2 a k v))
theorem s_putop_p {f : Int32 → Int32 → Int32} {o : ER} {c k : Nat} {x : EI} : s_putop f o c k x Kn Kb Kr env st = o env st (fun r st1 => isA st1.1 r (c + 3) ∧ x env st1 (fun v st2 => isA st2.1 r (c + 3) ∧ Kn env (stI st2 (gA r) k (o2 f (st1.2.1 (gA r) k) v)))) := by
  unfold s_putop
  congr 1; funext r st1
  rw [isA_p (Q := fun a => x env st1 (fun v st2 => st2.1[a]? = some (c + 3, 0) ∧ Kn env (stI st2 a k (o2 f (st1.2.1 a k) v))))]
  refine propext (and_congr_right fun ⟨a, h1, h2⟩ => ?_)
  subst h1
  simp only [isA_s, gA_s]
theorem s_ast_p {o : ER} {i x : EI} : s_ast o i x Kn Kb Kr env st = o env st (fun r st1 => i env st1 (fun j st2 => x env st2 (fun v st3 => arOK st3.1 r 0 j ∧ Kn env (stI st3 (gA r) j.toNat v)))) := by
  unfold s_ast
  congr 1; funext r st1; congr 1; funext j st2; congr 1; funext v st3
  exact ar_p (Q := fun a => Kn env (stI st3 a j.toNat v))
theorem s_zast_p {o : ER} {i x : EI} : s_zast o i x Kn Kb Kr env st = o env st (fun r st1 => i env st1 (fun j st2 => x env st2 (fun v st3 => arOK st3.1 r 1 j ∧ (v = 0 ∨ v = 1) ∧ Kn env (stI st3 (gA r) j.toNat v)))) := by
  unfold s_zast
  congr 1; funext r st1; congr 1; funext j st2; congr 1; funext v st3
  exact ar_p (Q := fun a => (v = 0 ∨ v = 1) ∧ Kn env (stI st3 a j.toNat v))
theorem s_rast_p {o : ER} {i : EI} {x : ER} : s_rast o i x Kn Kb Kr env st = o env st (fun r st1 => i env st1 (fun j st2 => x env st2 (fun v st3 => arOK st3.1 r 2 j ∧ (∀ b, v = some b → st3.1[b]? = some (6, 0)) ∧ Kn env (stR st3 (gA r) j.toNat v)))) := by
  unfold s_rast
  congr 1; funext r st1; congr 1; funext j st2; congr 1; funext v st3
  exact ar_p (Q := fun a => (∀ b, v = some b → st3.1[b]? = some (6, 0)) ∧ Kn env (stR st3 a j.toNat v))
theorem arOK_l {kd kd' : List (Nat × Nat)} {a t n : Nat} {i : Int} (h : arOK kd (some a) t i) (h2 : kd[a]? = some (t, n)) : (kd'[a]? = some (t, n)) = (kd'[a]? = kd[a]?) := by rw [h2]
theorem s_astop_p {f : Int32 → Int32 → Int32} {o : ER} {i x : EI} : s_astop f o i x Kn Kb Kr env st = o env st (fun r st1 => i env st1 (fun j st2 => arOK st2.1 r 0 j ∧ x env st2 (fun v st3 => st3.1[gA r]? = st2.1[gA r]? ∧ Kn env (stI st3 (gA r) j.toNat (o2 f (st2.2.1 (gA r) j.toNat) v))))) := by
  unfold s_astop
  congr 1; funext r st1; congr 1; funext j st2
  refine propext ⟨fun ⟨a, n, h1, h2, h3, h4, h5⟩ => ⟨⟨a, h1, n, h2, h3, h4⟩, ?_⟩, fun ⟨⟨a, h1, n, h2, h3, h4⟩, h5⟩ => ⟨a, n, h1, h2, h3, h4, ?_⟩⟩
  · subst h1; simp only [gA_s, h2]; exact h5
  · subst h1; simp only [gA_s, h2] at h5; exact h5
theorem s_callV_p {c : Nat} {B : XB} {a : EA} : s_callV c B a Kn Kb Kr env st = a env st (fun l st1 => isHd l ∧ isA st1.1 (rHd l) (c + 3) ∧ B l st1 (fun v st2 => v = vU ∧ Kn env st2)) := by
  rw [s_callV, g_callV_p]
theorem s_popV_p {c : Nat} {B : XB} {a : EA} : s_popV c B a Kn Kb Kr env st = a env st (fun l st1 => isHd l ∧ isA st1.1 (rHd l) (c + 3) ∧ B l st1 (fun v st2 => isVI v ∧ Kn env st2)) := by
  rw [s_popV, g_callV_p]; rfl
theorem s_if_p {c : EC} {a : SM} : s_if c a Kn Kb Kr env st = c env st (fun b st1 => if b = true then a Kn Kb Kr env st1 else Kn env st1) := rfl
theorem s_ite_p {c : EC} {a b : SM} : s_ite c a b Kn Kb Kr env st = c env st (fun q st1 => if q = true then a Kn Kb Kr env st1 else b Kn Kb Kr env st1) := rfl
theorem s_itr_p {c : EC} {a b : SM} : s_itr c a b Kn Kb Kr env st = c env st (fun q st1 => if q = true then a (fun _ _ => False) Kb Kr env st1 else b Kn Kb Kr env st1) := rfl
theorem s_brk_p : s_brk Kn Kb Kr env st = Kb env st := rfl
theorem s_retI_p {x : EI} : s_retI x Kn Kb Kr env st = x env st (fun v st1 => Kr (vI v) st1) := rfl
theorem s_retR_p {x : ER} : s_retR x Kn Kb Kr env st = x env st (fun v st1 => Kr (vR v) st1) := rfl
theorem s_ret_p : s_ret Kn Kb Kr env st = Kr vU st := rfl
theorem s_sw_p {x : EI} {w : Int → SM} : s_sw x w Kn Kb Kr env st = x env st (fun v st1 => w v (fun _ _ => False) Kn Kr env st1) := rfl
end PL
/-- no long -/
def nl (v : AV) : Bool := match v with
  | .inr (.inl _) => false
  | _ => true
theorem nl_I (x : Int) : nl (vI x) = true := rfl
theorem nl_R (x : Option Nat) : nl (vR x) = true := rfl
theorem nl_U : nl vU = true := rfl
theorem noL_z (env : XE) : noL env 0 = true := rfl
theorem noL_1 (v : AV) (env : XE) : noL (v :: env) 1 = nl v := by
  simp only [noL]
  rcases v with x | x | r | u <;> rfl
theorem noL_s (v : AV) (env : XE) (i : Nat) : noL (v :: env) (i + 2) = noL env (i + 1) := rfl
theorem tn_add {a b : Int} (h1 : 0 ≤ a) (h2 : 0 ≤ b) : (a + b).toNat = a.toNat + b.toNat := by omega
theorem tn_mul {a b : Int} (h1 : 0 ≤ a) (h2 : 0 ≤ b) : (a * b).toNat = a.toNat * b.toNat := Int.toNat_mul h1 h2
theorem tn_nat (a : Nat) : ((a : Int)).toNat = a := rfl
theorem nat_eq (a b : Nat) : ((a : Int) = (b : Int)) = (a = b) := propext (by omega)
theorem nat_lt (a b : Nat) : ((a : Int) < (b : Int)) = (a < b) := propext (by omega)
theorem nat_le (a b : Nat) : ((a : Int) ≤ (b : Int)) = (a ≤ b) := propext (by omega)
/-- a loop with its own measure -/
theorem whl {c : EC} {a : SM} {Kn Kb : XE → XS → Prop} {Kr : AV → XS → Prop} {env : XE} {st : XS} (P : Nat → XE → XS → Prop) {k0 : Nat} (h0 : P k0 env st)
    (h : ∀ k env st, P k env st → ∀ Kx : XE → XS → Prop, (∀ j env2 st2, j < k → P j env2 st2 → Kx env2 st2) → c env st (fun b st1 => if b = true then a Kx Kn Kr env st1 else Kn env st1)) : s_while c a Kn Kb Kr env st :=
  ⟨P, k0, h0, fun k env st hP => h k env st hP _ (fun j env2 st2 hj hP2 => ⟨j, hj, hP2⟩)⟩
