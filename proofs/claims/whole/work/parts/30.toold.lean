/-! deps: 30.tool 30.toolb -/
/-! walking a plain statement with named continuations: nothing behind the head is looked into -/
section KD
variable {env : XE} {st : XS} {Kn Kb : XE → XS → Prop} {Kr : AV → XS → Prop} {kd : List (Nat × Nat)} {I : Nat → Nat → Int} {R : Nat → Nat → Option Nat}
def lvI (env : XE) (i : Nat) (K : Int → XS → Prop) (st : XS) : Prop := isI env i ∧ K (gI env i) st
theorem lvI_s {v : AV} {i : Nat} {K : Int → XS → Prop} : lvI (v :: env) (i + 1) K st = lvI env i K st := rfl
theorem lvI_z {x : Int} {K : Int → XS → Prop} : lvI (vI x :: env) 0 K st = K x st := by
  refine propext ⟨fun h => h.2, fun h => ⟨⟨x, rfl⟩, h⟩⟩
def lvL (env : XE) (i : Nat) (K : Int → XS → Prop) (st : XS) : Prop := isL env i ∧ K (gI env i) st
theorem lvL_s {v : AV} {i : Nat} {K : Int → XS → Prop} : lvL (v :: env) (i + 1) K st = lvL env i K st := rfl
theorem lvL_z {x : Int} {K : Int → XS → Prop} : lvL (vL x :: env) 0 K st = K x st := by
  refine propext ⟨fun h => h.2, fun h => ⟨⟨x, rfl⟩, h⟩⟩
def lvR (env : XE) (i : Nat) (K : Option Nat → XS → Prop) (st : XS) : Prop := isR env i ∧ K (gR env i) st
theorem lvR_s {v : AV} {i : Nat} {K : Option Nat → XS → Prop} : lvR (v :: env) (i + 1) K st = lvR env i K st := rfl
theorem lvR_z {x : Option Nat} {K : Option Nat → XS → Prop} : lvR (vR x :: env) 0 K st = K x st := by
  refine propext ⟨fun h => h.2, fun h => ⟨⟨x, rfl⟩, h⟩⟩
theorem e_lv_q {i : Nat} {K : Int → XS → Prop} : e_lv i env st K = lvI env i K st := e_lv_p
theorem l_lv_q {i : Nat} {K : Int → XS → Prop} : l_lv i env st K = lvL env i K st := l_lv_p
theorem r_lv_q {i : Nat} {K : Option Nat → XS → Prop} : r_lv i env st K = lvR env i K st := r_lv_p
def kFld (c k : Nat) (K : Int → XS → Prop) (r : Option Nat) (st : XS) : Prop := isA st.1 r (c + 3) ∧ K (st.2.1 (gA r) k) st
theorem kFld_q {c k a : Nat} {K : Int → XS → Prop} : kFld c k K (some a) (kd, I, R) = (kd[a]? = some (c + 3, 0) ∧ K (I a k) (kd, I, R)) := by simp only [kFld, isA_s, gA_s]
theorem e_fld_q {o : ER} {c k : Nat} {K : Int → XS → Prop} : e_fld o c k env st K = o env st (kFld c k K) := e_fld_p
def kFlR (c k : Nat) (K : Option Nat → XS → Prop) (r : Option Nat) (st : XS) : Prop := isA st.1 r (c + 3) ∧ K (st.2.2 (gA r) k) st
theorem kFlR_q {c k a : Nat} {K : Option Nat → XS → Prop} : kFlR c k K (some a) (kd, I, R) = (kd[a]? = some (c + 3, 0) ∧ K (R a k) (kd, I, R)) := by simp only [kFlR, isA_s, gA_s]
theorem r_fld_q {o : ER} {c k : Nat} {K : Option Nat → XS → Prop} : r_fld o c k env st K = o env st (kFlR c k K) := r_fld_p
def kAl2 (t : Nat) (r : Option Nat) (K : Int → XS → Prop) (i : Int) (st : XS) : Prop := arOK st.1 r t i ∧ K (st.2.1 (gA r) i.toNat) st
def kAl1 (t : Nat) (x : EI) (env : XE) (K : Int → XS → Prop) (r : Option Nat) (st : XS) : Prop := x env st (kAl2 t r K)
theorem kAl1_q {t : Nat} {x : EI} {K : Int → XS → Prop} {a : Nat} : kAl1 t x env K (some a) st = x env st (kAl2 t (some a) K) := rfl
theorem kAl2_q {t a : Nat} {K : Int → XS → Prop} {i : Int} : kAl2 t (some a) K i (kd, I, R) = (bdo kd[a]? t i ∧ K (I a i.toNat) (kd, I, R)) := by simp only [kAl2, arOK_s, gA_s]
theorem e_ald_q {o : ER} {x : EI} {K : Int → XS → Prop} : e_ald o x env st K = o env st (kAl1 0 x env K) := e_ald_p
theorem z_ald_q {o : ER} {x : EI} {K : Int → XS → Prop} : z_ald o x env st K = o env st (kAl1 1 x env K) := z_ald_p
def kAr2 (r : Option Nat) (K : Option Nat → XS → Prop) (i : Int) (st : XS) : Prop := arOK st.1 r 2 i ∧ K (st.2.2 (gA r) i.toNat) st
def kAr1 (x : EI) (env : XE) (K : Option Nat → XS → Prop) (r : Option Nat) (st : XS) : Prop := x env st (kAr2 r K)
theorem kAr1_q {x : EI} {K : Option Nat → XS → Prop} {a : Nat} : kAr1 x env K (some a) st = x env st (kAr2 (some a) K) := rfl
theorem kAr2_q {a : Nat} {K : Option Nat → XS → Prop} {i : Int} : kAr2 (some a) K i (kd, I, R) = (bdo kd[a]? 2 i ∧ K (R a i.toNat) (kd, I, R)) := by simp only [kAr2, arOK_s, gA_s]
theorem r_ald_q {o : ER} {x : EI} {K : Option Nat → XS → Prop} : r_ald o x env st K = o env st (kAr1 x env K) := r_ald_p
def kLen (K : Int → XS → Prop) (r : Option Nat) (st : XS) : Prop := lnOK st.1 r ∧ K ((lenOf st.1 r : Nat) : Int) st
def lnB (o : Option (Nat × Nat)) : Prop := ∃ n, o = some (0, n) ∧ n < 2147483648
theorem lnB_s {n : Nat} : lnB (some (0, n)) = (n < 2147483648) := by simp [lnB]
theorem kLen_q {K : Int → XS → Prop} {a : Nat} : kLen K (some a) (kd, I, R) = (lnB kd[a]? ∧ K (((kd[a]?.getD (0, 0)).2 : Nat) : Int) (kd, I, R)) := by simp only [kLen, lnOK_s, lenOf_s, lnB]
theorem e_len_q {o : ER} {K : Int → XS → Prop} : e_len o env st K = o env st (kLen K) := e_len_p
def kO2 (g : Int → Int → Int) (x : Int) (K : Int → XS → Prop) (y : Int) (st : XS) : Prop := K (g x y) st
def kO1 (g : Int → Int → Int) (b : EI) (env : XE) (K : Int → XS → Prop) (x : Int) (st : XS) : Prop := b env st (kO2 g x K)
theorem kO1_q {g : Int → Int → Int} {b : EI} {K : Int → XS → Prop} {x : Int} : kO1 g b env K x st = b env st (kO2 g x K) := rfl
theorem kO2_q {g : Int → Int → Int} {K : Int → XS → Prop} {x y : Int} : kO2 g x K y st = K (g x y) st := rfl
def kD2 (g : Int → Int → Int) (x : Int) (K : Int → XS → Prop) (y : Int) (st : XS) : Prop := y ≠ 0 ∧ K (g x y) st
def kD1 (g : Int → Int → Int) (b : EI) (env : XE) (K : Int → XS → Prop) (x : Int) (st : XS) : Prop := b env st (kD2 g x K)
theorem kD1_q {g : Int → Int → Int} {b : EI} {K : Int → XS → Prop} {x : Int} : kD1 g b env K x st = b env st (kD2 g x K) := rfl
theorem kD2_q {g : Int → Int → Int} {K : Int → XS → Prop} {x y : Int} : kD2 g x K y st = (y ≠ 0 ∧ K (g x y) st) := rfl
theorem e_op_q {f : Int32 → Int32 → Int32} {a b : EI} {K : Int → XS → Prop} : e_op f a b env st K = a env st (kO1 (o2 f) b env K) := rfl
theorem e_dv_q {f : Int32 → Int32 → Int32} {a b : EI} {K : Int → XS → Prop} : e_dv f a b env st K = a env st (kD1 (o2 f) b env K) := rfl
theorem l_op_q {f : Int64 → Int64 → Int64} {a b : EI} {K : Int → XS → Prop} : l_op f a b env st K = a env st (kO1 (w2 f) b env K) := rfl
theorem l_dv_q {f : Int64 → Int64 → Int64} {a b : EI} {K : Int → XS → Prop} : l_dv f a b env st K = a env st (kD1 (w2 f) b env K) := rfl
theorem l_sh_q {f : Int64 → Int32 → Int64} {a b : EI} {K : Int → XS → Prop} : l_sh f a b env st K = a env st (kO1 (w3 f) b env K) := rfl
theorem e_lcmp_q {a b : EI} {K : Int → XS → Prop} : e_lcmp a b env st K = a env st (kO1 lcmp b env K) := rfl
theorem e_min_q {a b : EI} {K : Int → XS → Prop} : e_min a b env st K = a env st (kO1 mn b env K) := rfl
def kL2i (K : Int → XS → Prop) (x : Int) (st : XS) : Prop := K (l2i x) st
theorem kL2i_q {K : Int → XS → Prop} {x : Int} : kL2i K x st = K (l2i x) st := rfl
theorem e_l2i_q {a : EI} {K : Int → XS → Prop} : e_l2i a env st K = a env st (kL2i K) := rfl
def neb (x y : Int) : Bool := !eqb x y
def gtb (x y : Int) : Bool := ltb y x
def geb (x y : Int) : Bool := leb y x
theorem neb_q {x y : Int} : neb x y = !eqb x y := rfl
theorem gtb_q {x y : Int} : gtb x y = ltb y x := rfl
theorem geb_q {x y : Int} : geb x y = leb y x := rfl
def kB2 (g : Int → Int → Bool) (x : Int) (K : Bool → XS → Prop) (y : Int) (st : XS) : Prop := K (g x y) st
def kB1 (g : Int → Int → Bool) (b : EI) (env : XE) (K : Bool → XS → Prop) (x : Int) (st : XS) : Prop := b env st (kB2 g x K)
theorem kB1_q {g : Int → Int → Bool} {b : EI} {K : Bool → XS → Prop} {x : Int} : kB1 g b env K x st = b env st (kB2 g x K) := rfl
theorem kB2_q {g : Int → Int → Bool} {K : Bool → XS → Prop} {x y : Int} : kB2 g x K y st = K (g x y) st := rfl
theorem c_eq_q {a b : EI} {K : Bool → XS → Prop} : c_eq a b env st K = a env st (kB1 eqb b env K) := rfl
theorem c_ne_q {a b : EI} {K : Bool → XS → Prop} : c_ne a b env st K = a env st (kB1 neb b env K) := c_ne_p
theorem c_lt_q {a b : EI} {K : Bool → XS → Prop} : c_lt a b env st K = a env st (kB1 ltb b env K) := rfl
theorem c_ge_q {a b : EI} {K : Bool → XS → Prop} : c_ge a b env st K = a env st (kB1 geb b env K) := rfl
theorem c_gt_q {a b : EI} {K : Bool → XS → Prop} : c_gt a b env st K = a env st (kB1 gtb b env K) := rfl
theorem c_le_q {a b : EI} {K : Bool → XS → Prop} : c_le a b env st K = a env st (kB1 leb b env K) := rfl
def kCb (K : Bool → XS → Prop) (x : Int) (st : XS) : Prop := K (!eqb x 0) st
theorem kCb_q {K : Bool → XS → Prop} {x : Int} : kCb K x st = K (!eqb x 0) st := rfl
theorem kCb_0 {K : Bool → XS → Prop} : kCb K 0 st = K false st := rfl
theorem kCb_1 {K : Bool → XS → Prop} : kCb K 1 st = K true st := rfl
theorem c_b_q {a : EI} {K : Bool → XS → Prop} : c_b a env st K = a env st (kCb K) := c_b_p
def kNot (K : Bool → XS → Prop) (b : Bool) (st : XS) : Prop := K (!b) st
theorem kNot_q {K : Bool → XS → Prop} {b : Bool} : kNot K b st = K (!b) st := rfl
theorem c_not_q {c : EC} {K : Bool → XS → Prop} : c_not c env st K = c env st (kNot K) := rfl
def kAnd (b : EC) (env : XE) (K : Bool → XS → Prop) (p : Bool) (st : XS) : Prop := if p = true then b env st K else K false st
theorem kAnd_q {b : EC} {K : Bool → XS → Prop} {p : Bool} : kAnd b env K p st = if p = true then b env st K else K false st := rfl
theorem c_and_q {a b : EC} {K : Bool → XS → Prop} : c_and a b env st K = a env st (kAnd b env K) := rfl
def kOr (b : EC) (env : XE) (K : Bool → XS → Prop) (p : Bool) (st : XS) : Prop := if p = true then K true st else b env st K
theorem kOr_q {b : EC} {K : Bool → XS → Prop} {p : Bool} : kOr b env K p st = if p = true then K true st else b env st K := rfl
theorem c_or_q {a b : EC} {K : Bool → XS → Prop} : c_or a b env st K = a env st (kOr b env K) := rfl
def kNul (K : Bool → XS → Prop) (r : Option Nat) (st : XS) : Prop := K (nob r) st
theorem kNul_q {K : Bool → XS → Prop} {r : Option Nat} : kNul K r st = K (nob r) st := rfl
theorem c_null_q {r : ER} {K : Bool → XS → Prop} : c_null r env st K = r env st (kNul K) := rfl
def kCond (K : Int → XS → Prop) (b : Bool) (st : XS) : Prop := K (if b = true then 1 else 0) st
theorem kCond_q {K : Int → XS → Prop} {b : Bool} : kCond K b st = K (if b = true then 1 else 0) st := rfl
theorem e_cond_q {c : EC} {K : Int → XS → Prop} : e_cond c env st K = c env st (kCond K) := rfl
def kTern {α : Type} (a b : XE → XS → (α → XS → Prop) → Prop) (env : XE) (K : α → XS → Prop) (q : Bool) (st : XS) : Prop := if q = true then a env st K else b env st K
theorem kTern_q {α : Type} {a b : XE → XS → (α → XS → Prop) → Prop} {K : α → XS → Prop} {q : Bool} : kTern a b env K q st = if q = true then a env st K else b env st K := rfl
theorem x_tern_q {α : Type} {c : EC} {a b : XE → XS → (α → XS → Prop) → Prop} {K : α → XS → Prop} : x_tern c a b env st K = c env st (kTern a b env K) := rfl
def kA2 (v : AV) (K : List AV → XS → Prop) (l : List AV) (st : XS) : Prop := K (v :: l) st
theorem kA2_q {v : AV} {K : List AV → XS → Prop} {l : List AV} : kA2 v K l st = K (v :: l) st := rfl
def kAI (r : EA) (env : XE) (K : List AV → XS → Prop) (x : Int) (st : XS) : Prop := r env st (kA2 (vI x) K)
theorem kAI_q {r : EA} {K : List AV → XS → Prop} {x : Int} : kAI r env K x st = r env st (kA2 (vI x) K) := rfl
def kAL (r : EA) (env : XE) (K : List AV → XS → Prop) (x : Int) (st : XS) : Prop := r env st (kA2 (vL x) K)
theorem kAL_q {r : EA} {K : List AV → XS → Prop} {x : Int} : kAL r env K x st = r env st (kA2 (vL x) K) := rfl
def kAR (r : EA) (env : XE) (K : List AV → XS → Prop) (x : Option Nat) (st : XS) : Prop := r env st (kA2 (vR x) K)
theorem kAR_q {r : EA} {K : List AV → XS → Prop} {x : Option Nat} : kAR r env K x st = r env st (kA2 (vR x) K) := rfl
theorem a_I_q {x : EI} {r : EA} {K : List AV → XS → Prop} : a_I x r env st K = x env st (kAI r env K) := rfl
theorem a_L_q {x : EI} {r : EA} {K : List AV → XS → Prop} : a_L x r env st K = x env st (kAL r env K) := rfl
theorem a_R_q {x : ER} {r : EA} {K : List AV → XS → Prop} : a_R x r env st K = x env st (kAR r env K) := rfl
def kCall (c : Nat) (B : XB) (K : AV → XS → Prop) (l : List AV) (st : XS) : Prop := isHd l ∧ isA st.1 (rHd l) (c + 3) ∧ B l st K
theorem kCall_q {c a : Nat} {B : XB} {K : AV → XS → Prop} {l : List AV} : kCall c B K (vR (some a) :: l) (kd, I, R) = (kd[a]? = some (c + 3, 0) ∧ B (vR (some a) :: l) (kd, I, R) K) := by
  simp only [kCall, isHd_c, rHd_c, isA_s, true_and]
def kCalS (B : XB) (K : AV → XS → Prop) (l : List AV) (st : XS) : Prop := B l st K
theorem kCalS_q {B : XB} {K : AV → XS → Prop} {l : List AV} : kCalS B K l st = B l st K := rfl
def kRI (K : Int → XS → Prop) (v : AV) (st : XS) : Prop := isVI v ∧ K (vInt v) st
theorem kRI_q {K : Int → XS → Prop} {x : Int} : kRI K (vI x) st = K x st := by simp only [kRI, isVI_I, vInt_I, true_and]
def kRR (K : Option Nat → XS → Prop) (v : AV) (st : XS) : Prop := isVR v ∧ K (vRef v) st
theorem kRR_q {K : Option Nat → XS → Prop} {x : Option Nat} : kRR K (vR x) st = K x st := by simp only [kRR, isVR_R, vRef_R, true_and]
def kRU (Kn : XE → XS → Prop) (env : XE) (v : AV) (st : XS) : Prop := v = vU ∧ Kn env st
theorem kRU_q : kRU Kn env vU st = Kn env st := by simp only [kRU, true_and]
def kRP (Kn : XE → XS → Prop) (env : XE) (v : AV) (st : XS) : Prop := isVI v ∧ Kn env st
theorem kRP_q {x : Int} : kRP Kn env (vI x) st = Kn env st := by simp only [kRP, isVI_I, true_and]
theorem e_callV_q {c : Nat} {B : XB} {a : EA} {K : Int → XS → Prop} : e_callV c B a env st K = a env st (kCall c B (kRI K)) := e_callV_p
theorem r_callV_q {c : Nat} {B : XB} {a : EA} {K : Option Nat → XS → Prop} : r_callV c B a env st K = a env st (kCall c B (kRR K)) := r_callV_p
theorem e_callS_q {B : XB} {a : EA} {K : Int → XS → Prop} : e_callS B a env st K = a env st (kCalS B (kRI K)) := e_callS_p
theorem s_callV_q {c : Nat} {B : XB} {a : EA} : s_callV c B a Kn Kb Kr env st = a env st (kCall c B (kRU Kn env)) := s_callV_p
theorem s_popV_q {c : Nat} {B : XB} {a : EA} : s_popV c B a Kn Kb Kr env st = a env st (kCall c B (kRP Kn env)) := s_popV_p
theorem s_seq_q {a b : SM} : s_seq a b Kn Kb Kr env st = a (b Kn Kb Kr) Kb Kr env st := rfl
def kSt (i : Nat) (env : XE) (Kn : XE → XS → Prop) (v : Int) (st : XS) : Prop := i < env.length ∧ noL env i = true ∧ Kn (env.set i (vI v)) st
theorem kSt_q {i : Nat} {v : Int} : kSt i env Kn v st = (i < env.length ∧ noL env i = true ∧ Kn (env.set i (vI v)) st) := rfl
theorem s_st_q {i : Nat} {x : EI} : s_st i x Kn Kb Kr env st = x env st (kSt i env Kn) := rfl
def kStL (i : Nat) (env : XE) (Kn : XE → XS → Prop) (v : Int) (st : XS) : Prop := i + 1 < env.length ∧ noL env i = true ∧ Kn ((env.set i (vL v)).set (i + 1) vU) st
theorem kStL_q {i : Nat} {v : Int} : kStL i env Kn v st = (i + 1 < env.length ∧ noL env i = true ∧ Kn ((env.set i (vL v)).set (i + 1) vU) st) := rfl
theorem s_stL_q {i : Nat} {x : EI} : s_stL i x Kn Kb Kr env st = x env st (kStL i env Kn) := rfl
def kStR (i : Nat) (env : XE) (Kn : XE → XS → Prop) (v : Option Nat) (st : XS) : Prop := i < env.length ∧ noL env i = true ∧ Kn (env.set i (vR v)) st
theorem kStR_q {i : Nat} {v : Option Nat} : kStR i env Kn v st = (i < env.length ∧ noL env i = true ∧ Kn (env.set i (vR v)) st) := rfl
theorem s_stR_q {i : Nat} {x : ER} : s_stR i x Kn Kb Kr env st = x env st (kStR i env Kn) := rfl
def kPut2 (c k : Nat) (r : Option Nat) (env : XE) (Kn : XE → XS → Prop) (v : Int) (st : XS) : Prop := isA st.1 r (c + 3) ∧ Kn env (stI st (gA r) k v)
def kPut1 (c k : Nat) (x : EI) (env : XE) (Kn : XE → XS → Prop) (r : Option Nat) (st : XS) : Prop := x env st (kPut2 c k r env Kn)
theorem kPut1_q {c k a : Nat} {x : EI} : kPut1 c k x env Kn (some a) st = x env st (kPut2 c k (some a) env Kn) := rfl
theorem kPut2_q {c k a : Nat} {v : Int} : kPut2 c k (some a) env Kn v (kd, I, R) = (kd[a]? = some (c + 3, 0) ∧ Kn env (kd, upI I a k v, R)) := by simp only [kPut2, isA_s, gA_s, stI]
theorem s_put_q {o : ER} {c k : Nat} {x : EI} : s_put o c k x Kn Kb Kr env st = o env st (kPut1 c k x env Kn) := s_put_p
def kPz2 (c k : Nat) (r : Option Nat) (env : XE) (Kn : XE → XS → Prop) (v : Int) (st : XS) : Prop := isA st.1 r (c + 3) ∧ (v = 0 ∨ v = 1) ∧ Kn env (stI st (gA r) k v)
def kPz1 (c k : Nat) (x : EI) (env : XE) (Kn : XE → XS → Prop) (r : Option Nat) (st : XS) : Prop := x env st (kPz2 c k r env Kn)
theorem kPz1_q {c k a : Nat} {x : EI} : kPz1 c k x env Kn (some a) st = x env st (kPz2 c k (some a) env Kn) := rfl
theorem kPz2_q {c k a : Nat} {v : Int} : kPz2 c k (some a) env Kn v (kd, I, R) = (kd[a]? = some (c + 3, 0) ∧ (v = 0 ∨ v = 1) ∧ Kn env (kd, upI I a k v, R)) := by simp only [kPz2, isA_s, gA_s, stI]
theorem s_putZ_q {o : ER} {c k : Nat} {x : EI} : s_putZ o c k x Kn Kb Kr env st = o env st (kPz1 c k x env Kn) := s_putZ_p
def kPr2 (c k : Nat) (r : Option Nat) (env : XE) (Kn : XE → XS → Prop) (v : Option Nat) (st : XS) : Prop := isA st.1 r (c + 3) ∧ Kn env (stR st (gA r) k v)
def kPr1 (c k : Nat) (x : ER) (env : XE) (Kn : XE → XS → Prop) (r : Option Nat) (st : XS) : Prop := x env st (kPr2 c k r env Kn)
theorem kPr1_q {c k a : Nat} {x : ER} : kPr1 c k x env Kn (some a) st = x env st (kPr2 c k (some a) env Kn) := rfl
theorem kPr2_q {c k a : Nat} {v : Option Nat} : kPr2 c k (some a) env Kn v st = (isA st.1 (some a) (c + 3) ∧ Kn env (stR st a k v)) := rfl
theorem s_putR_q {o : ER} {c k : Nat} {x : ER} : s_putR o c k x Kn Kb Kr env st = o env st (kPr1 c k x env Kn) := s_putR_p
def kPo2 (f : Int32 → Int32 → Int32) (c k : Nat) (r : Option Nat) (w : Int) (env : XE) (Kn : XE → XS → Prop) (v : Int) (st : XS) : Prop := isA st.1 r (c + 3) ∧ Kn env (stI st (gA r) k (o2 f w v))
def kPo1 (f : Int32 → Int32 → Int32) (c k : Nat) (x : EI) (env : XE) (Kn : XE → XS → Prop) (r : Option Nat) (st : XS) : Prop := isA st.1 r (c + 3) ∧ x env st (kPo2 f c k r (st.2.1 (gA r) k) env Kn)
theorem kPo1_q {f : Int32 → Int32 → Int32} {c k a : Nat} {x : EI} : kPo1 f c k x env Kn (some a) (kd, I, R) = (kd[a]? = some (c + 3, 0) ∧ x env (kd, I, R) (kPo2 f c k (some a) (I a k) env Kn)) := by simp only [kPo1, isA_s, gA_s]
theorem kPo2_q {f : Int32 → Int32 → Int32} {c k a : Nat} {w v : Int} : kPo2 f c k (some a) w env Kn v (kd, I, R) = (kd[a]? = some (c + 3, 0) ∧ Kn env (kd, upI I a k (o2 f w v), R)) := by simp only [kPo2, isA_s, gA_s, stI]
theorem s_putop_q {f : Int32 → Int32 → Int32} {o : ER} {c k : Nat} {x : EI} : s_putop f o c k x Kn Kb Kr env st = o env st (kPo1 f c k x env Kn) := s_putop_p
def kAs3 (r : Option Nat) (j : Int) (env : XE) (Kn : XE → XS → Prop) (v : Int) (st : XS) : Prop := arOK st.1 r 0 j ∧ Kn env (stI st (gA r) j.toNat v)
def kAs2 (x : EI) (r : Option Nat) (env : XE) (Kn : XE → XS → Prop) (j : Int) (st : XS) : Prop := x env st (kAs3 r j env Kn)
def kAs1 (i x : EI) (env : XE) (Kn : XE → XS → Prop) (r : Option Nat) (st : XS) : Prop := i env st (kAs2 x r env Kn)
theorem kAs1_q {i x : EI} {a : Nat} : kAs1 i x env Kn (some a) st = i env st (kAs2 x (some a) env Kn) := rfl
theorem kAs2_q {x : EI} {r : Option Nat} {j : Int} : kAs2 x r env Kn j st = x env st (kAs3 r j env Kn) := rfl
theorem kAs3_q {a : Nat} {j v : Int} : kAs3 (some a) j env Kn v (kd, I, R) = (bdo kd[a]? 0 j ∧ Kn env (kd, upI I a j.toNat v, R)) := by simp only [kAs3, arOK_s, gA_s, stI]
theorem s_ast_q {o : ER} {i x : EI} : s_ast o i x Kn Kb Kr env st = o env st (kAs1 i x env Kn) := s_ast_p
def kZs3 (r : Option Nat) (j : Int) (env : XE) (Kn : XE → XS → Prop) (v : Int) (st : XS) : Prop := arOK st.1 r 1 j ∧ (v = 0 ∨ v = 1) ∧ Kn env (stI st (gA r) j.toNat v)
def kZs2 (x : EI) (r : Option Nat) (env : XE) (Kn : XE → XS → Prop) (j : Int) (st : XS) : Prop := x env st (kZs3 r j env Kn)
def kZs1 (i x : EI) (env : XE) (Kn : XE → XS → Prop) (r : Option Nat) (st : XS) : Prop := i env st (kZs2 x r env Kn)
theorem kZs1_q {i x : EI} {a : Nat} : kZs1 i x env Kn (some a) st = i env st (kZs2 x (some a) env Kn) := rfl
theorem kZs2_q {x : EI} {r : Option Nat} {j : Int} : kZs2 x r env Kn j st = x env st (kZs3 r j env Kn) := rfl
theorem kZs3_q {a : Nat} {j v : Int} : kZs3 (some a) j env Kn v (kd, I, R) = (bdo kd[a]? 1 j ∧ (v = 0 ∨ v = 1) ∧ Kn env (kd, upI I a j.toNat v, R)) := by simp only [kZs3, arOK_s, gA_s, stI]
theorem s_zast_q {o : ER} {i x : EI} : s_zast o i x Kn Kb Kr env st = o env st (kZs1 i x env Kn) := s_zast_p
def kRs3 (r : Option Nat) (j : Int) (env : XE) (Kn : XE → XS → Prop) (v : Option Nat) (st : XS) : Prop := arOK st.1 r 2 j ∧ (∀ b, v = some b → st.1[b]? = some (6, 0)) ∧ Kn env (stR st (gA r) j.toNat v)
def kRs2 (x : ER) (r : Option Nat) (env : XE) (Kn : XE → XS → Prop) (j : Int) (st : XS) : Prop := x env st (kRs3 r j env Kn)
def kRs1 (i : EI) (x : ER) (env : XE) (Kn : XE → XS → Prop) (r : Option Nat) (st : XS) : Prop := i env st (kRs2 x r env Kn)
theorem kRs1_q {i : EI} {x : ER} {a : Nat} : kRs1 i x env Kn (some a) st = i env st (kRs2 x (some a) env Kn) := rfl
theorem kRs2_q {x : ER} {r : Option Nat} {j : Int} : kRs2 x r env Kn j st = x env st (kRs3 r j env Kn) := rfl
theorem kRs3_q {a b : Nat} {j : Int} : kRs3 (some a) j env Kn (some b) (kd, I, R) = (bdo kd[a]? 2 j ∧ kd[b]? = some (6, 0) ∧ Kn env (stR (kd, I, R) a j.toNat (some b))) := by simp [kRs3, arOK_s, gA_s]
theorem s_rast_q {o : ER} {i : EI} {x : ER} : s_rast o i x Kn Kb Kr env st = o env st (kRs1 i x env Kn) := s_rast_p
def kAo3 (f : Int32 → Int32 → Int32) (r : Option Nat) (j : Int) (o : Option (Nat × Nat)) (w : Int) (env : XE) (Kn : XE → XS → Prop) (v : Int) (st : XS) : Prop := st.1[gA r]? = o ∧ Kn env (stI st (gA r) j.toNat (o2 f w v))
def kAo2 (f : Int32 → Int32 → Int32) (x : EI) (r : Option Nat) (env : XE) (Kn : XE → XS → Prop) (j : Int) (st : XS) : Prop := arOK st.1 r 0 j ∧ x env st (kAo3 f r j st.1[gA r]? (st.2.1 (gA r) j.toNat) env Kn)
def kAo1 (f : Int32 → Int32 → Int32) (i x : EI) (env : XE) (Kn : XE → XS → Prop) (r : Option Nat) (st : XS) : Prop := i env st (kAo2 f x r env Kn)
theorem kAo1_q {f : Int32 → Int32 → Int32} {i x : EI} {a : Nat} : kAo1 f i x env Kn (some a) st = i env st (kAo2 f x (some a) env Kn) := rfl
theorem kAo2_q {f : Int32 → Int32 → Int32} {x : EI} {a : Nat} {j : Int} : kAo2 f x (some a) env Kn j (kd, I, R) = (bdo kd[a]? 0 j ∧ x env (kd, I, R) (kAo3 f (some a) j kd[a]? (I a j.toNat) env Kn)) := by simp only [kAo2, arOK_s, gA_s]
theorem kAo3_q {f : Int32 → Int32 → Int32} {a : Nat} {j w v : Int} {o : Option (Nat × Nat)} : kAo3 f (some a) j o w env Kn v (kd, I, R) = (kd[a]? = o ∧ Kn env (kd, upI I a j.toNat (o2 f w v), R)) := by simp only [kAo3, gA_s, stI]
theorem s_astop_q {f : Int32 → Int32 → Int32} {o : ER} {i x : EI} : s_astop f o i x Kn Kb Kr env st = o env st (kAo1 f i x env Kn) := s_astop_p
def kIf (a : SM) (Kn Kb : XE → XS → Prop) (Kr : AV → XS → Prop) (env : XE) (b : Bool) (st : XS) : Prop := if b = true then a Kn Kb Kr env st else Kn env st
theorem kIf_q {a : SM} {b : Bool} : kIf a Kn Kb Kr env b st = if b = true then a Kn Kb Kr env st else Kn env st := rfl
theorem s_if_q {c : EC} {a : SM} : s_if c a Kn Kb Kr env st = c env st (kIf a Kn Kb Kr env) := rfl
def kIte (a b : SM) (Kn Kb : XE → XS → Prop) (Kr : AV → XS → Prop) (env : XE) (q : Bool) (st : XS) : Prop := if q = true then a Kn Kb Kr env st else b Kn Kb Kr env st
theorem kIte_q {a b : SM} {q : Bool} : kIte a b Kn Kb Kr env q st = if q = true then a Kn Kb Kr env st else b Kn Kb Kr env st := rfl
theorem s_ite_q {c : EC} {a b : SM} : s_ite c a b Kn Kb Kr env st = c env st (kIte a b Kn Kb Kr env) := rfl
def kno : XE → XS → Prop := fun _ _ => False
def kItr (a b : SM) (Kn Kb : XE → XS → Prop) (Kr : AV → XS → Prop) (env : XE) (q : Bool) (st : XS) : Prop := if q = true then a kno Kb Kr env st else b Kn Kb Kr env st
theorem kItr_q {a b : SM} {q : Bool} : kItr a b Kn Kb Kr env q st = if q = true then a kno Kb Kr env st else b Kn Kb Kr env st := rfl
theorem s_itr_q {c : EC} {a b : SM} : s_itr c a b Kn Kb Kr env st = c env st (kItr a b Kn Kb Kr env) := rfl
def kRet (Kr : AV → XS → Prop) (v : Int) (st : XS) : Prop := Kr (vI v) st
theorem kRet_q {v : Int} : kRet Kr v st = Kr (vI v) st := rfl
theorem s_retI_q {x : EI} : s_retI x Kn Kb Kr env st = x env st (kRet Kr) := rfl
def kReR (Kr : AV → XS → Prop) (v : Option Nat) (st : XS) : Prop := Kr (vR v) st
theorem kReR_q {v : Option Nat} : kReR Kr v st = Kr (vR v) st := rfl
theorem s_retR_q {x : ER} : s_retR x Kn Kb Kr env st = x env st (kReR Kr) := rfl
def kSw (w : Int → SM) (Kn : XE → XS → Prop) (Kr : AV → XS → Prop) (env : XE) (v : Int) (st : XS) : Prop := w v kno Kn Kr env st
theorem kSw_q {w : Int → SM} {v : Int} : kSw w Kn Kr env v st = w v kno Kn Kr env st := rfl
theorem s_sw_q {x : EI} {w : Int → SM} : s_sw x w Kn Kb Kr env st = x env st (kSw w Kn Kr env) := rfl
end KD
