/-! THE PIECES: expressions, conditions, statements as the compiler lays them; what they do; and that the machine does it -/
abbrev EI : Type := XE → XS → (Int → XS → Prop) → Prop
abbrev ER : Type := XE → XS → (Option Nat → XS → Prop) → Prop
abbrev EC : Type := XE → XS → (Bool → XS → Prop) → Prop
abbrev EA : Type := XE → XS → (List AV → XS → Prop) → Prop
def FV {α : Type} (mk : α → AV) (M : MI) (pc pc' d kc ks : Nat) (x : XE → XS → (α → XS → Prop) → Prop) : Prop := ∀ X : CX, OK X M → ∀ (K : α → XS → Prop) (env : XE) (stk : List AV) (st : XS) (bc bs : Nat), catS stk ≤ d → x env st K → (∀ v st', K v st' → V X pc' env (mk v :: stk) st' bc bs) → V X pc env stk st (bc + kc) (bs + ks)
def FC (M : MI) (pc pc' tgt : Nat) (sense : Bool) (d kc ks : Nat) (x : EC) : Prop := ∀ X : CX, OK X M → ∀ (K : Bool → XS → Prop) (env : XE) (stk : List AV) (st : XS) (bc bs : Nat), catS stk ≤ d → x env st K → (∀ v st', K v st' → V X (if v = sense then tgt else pc') env stk st' bc bs) → V X pc env stk st (bc + kc) (bs + ks)
def FA (M : MI) (pc pc' d kc ks n : Nat) (x : EA) : Prop := ∀ X : CX, OK X M → ∀ (K : List AV → XS → Prop) (env : XE) (stk : List AV) (st : XS) (bc bs : Nat), catS stk ≤ d → x env st K → (∀ v st', K v st' → v.length = n → V X pc' env (v.reverse ++ stk) st' bc bs) → V X pc env stk st (bc + kc) (bs + ks)
theorem catS_I (x : Int) (stk : List AV) : catS (vI x :: stk) = catS stk + 1 := by simp [catS, catV]; omega
theorem catS_L (x : Int) (stk : List AV) : catS (vL x :: stk) = catS stk + 2 := by simp [catS, catV]; omega
theorem catS_R (x : Option Nat) (stk : List AV) : catS (vR x :: stk) = catS stk + 1 := by simp [catS, catV]; omega
section FRA
variable {d n kc ks k1 k2 k3 s1 s2 s3 pc p1 p2 p3 p4 p5 : Nat}
-- values
def e_ci (n : Int) : EI := fun _ st K => K n st
theorem F_iconst (M : MI) {n : Int} (hn : inR n) (D : decode M.1 pc = .ok (.iconst n, 1)) : FV vI M pc (pc + 1) d 0 0 (e_ci n) := fun _ ok _ _ _ _ _ _ _ h k => V_iconst D hn ok (k _ _ h)
theorem F_bipush (M : MI) {n : Int} (hn : inR n) (he : (Int8.ofInt n).toInt32 = Int32.ofInt n) (D : decode M.1 pc = .ok (.bipush n, 2)) : FV vI M pc (pc + 2) d 0 0 (e_ci n) := fun _ ok _ _ _ _ _ _ _ h k => V_bipush D hn he ok (k _ _ h)
theorem F_sipush (M : MI) {n : Int} (hn : inR n) (he : (Int16.ofInt n).toInt32 = Int32.ofInt n) (D : decode M.1 pc = .ok (.sipush n, 3)) : FV vI M pc (pc + 3) d 0 0 (e_ci n) := fun _ ok _ _ _ _ _ _ _ h k => V_sipush D hn he ok (k _ _ h)
theorem F_ldc (M : MI) {n : Int} {i : Nat} {v : Int32} (hw : Cond.constant M.2.2.1 i v ∈ wAll) (hn : inR n) (he : v = Int32.ofInt n) (D : decode M.1 pc = .ok (.ldc i, 2)) : FV vI M pc (pc + 2) d 0 0 (e_ci n) := fun _ ok _ _ _ _ _ _ _ h k => V_ldc D hw hn he ok (k _ _ h)
theorem F_ldc2 (M : MI) {n : Int} {i : Nat} {v : Int64} (hw : Cond.constantLong M.2.2.1 i v ∈ wAll) (hn : inRL n) (he : v = Int64.ofInt n) (D : decode M.1 pc = .ok (.ldc2_w i, 3)) : FV vL M pc (pc + 3) d 0 0 (e_ci n) := fun _ ok _ _ _ _ _ _ _ h k => V_ldc2 D hw hn he ok (k _ _ h)
theorem F_lconst0 (M : MI)  (D : decode M.1 pc = .ok (.lconst 0, 1)) : FV vL M pc (pc + 1) d 0 0 (e_ci 0) := fun _ ok _ _ _ _ _ _ _ h k => V_lconst0 D ok (k _ _ h)
def e_lv (i : Nat) : EI := fun env st K => ∃ x, env[i]? = some (vI x) ∧ K x st
def l_lv (i : Nat) : EI := fun env st K => ∃ x, env[i]? = some (vL x) ∧ K x st
def r_lv (i : Nat) : ER := fun env st K => ∃ x, env[i]? = some (vR x) ∧ K x st
theorem F_iload_n (M : MI) {f : Fin 4} (i : Nat) (hf : (f : Nat) = i) (D : decode M.1 pc = .ok (.iload_n f, 1)) : FV vI M pc (pc + 1) d 0 0 (e_lv i) := fun _ ok _ _ _ _ _ _ _ h k => by
  obtain ⟨x, he, h⟩ := h
  exact V_iload_n D hf he ok (k _ _ h)
theorem F_iload (M : MI) {i : Nat} (D : decode M.1 pc = .ok (.iload i, 2)) : FV vI M pc (pc + 2) d 0 0 (e_lv i) := fun _ ok _ _ _ _ _ _ _ h k => by
  obtain ⟨x, he, h⟩ := h
  exact V_iload D he ok (k _ _ h)
theorem F_lload_n (M : MI) {f : Fin 4} (i : Nat) (hf : (f : Nat) = i) (D : decode M.1 pc = .ok (.lload_n f, 1)) : FV vL M pc (pc + 1) d 0 0 (l_lv i) := fun _ ok _ _ _ _ _ _ _ h k => by
  obtain ⟨x, he, h⟩ := h
  exact V_lload_n D hf he ok (k _ _ h)
theorem F_lload (M : MI) {i : Nat} (D : decode M.1 pc = .ok (.lload i, 2)) : FV vL M pc (pc + 2) d 0 0 (l_lv i) := fun _ ok _ _ _ _ _ _ _ h k => by
  obtain ⟨x, he, h⟩ := h
  exact V_lload D he ok (k _ _ h)
theorem F_aload_n (M : MI) {f : Fin 4} (i : Nat) (hf : (f : Nat) = i) (D : decode M.1 pc = .ok (.aload_n f, 1)) : FV vR M pc (pc + 1) d 0 0 (r_lv i) := fun _ ok _ _ _ _ _ _ _ h k => by
  obtain ⟨x, he, h⟩ := h
  exact V_aload_n D hf he ok (k _ _ h)
theorem F_aload (M : MI) {i : Nat} (D : decode M.1 pc = .ok (.aload i, 2)) : FV vR M pc (pc + 2) d 0 0 (r_lv i) := fun _ ok _ _ _ _ _ _ _ h k => by
  obtain ⟨x, he, h⟩ := h
  exact V_aload D he ok (k _ _ h)
def r_null : ER := fun _ st K => K none st
def e_fld (o : ER) (c k : Nat) : EI := fun env st K => o env st (fun r st1 => ∃ a, r = some a ∧ st1.1[a]? = some (c + 3, 0) ∧ K (st1.2.1 a k) st1)
def r_fld (o : ER) (c k : Nat) : ER := fun env st K => o env st (fun r st1 => ∃ a, r = some a ∧ st1.1[a]? = some (c + 3, 0) ∧ K (st1.2.2 a k) st1)
theorem F_efld {M : MI} {o : ER} {i c k : Nat} (ho : FV vR M pc p1 d k1 s1 o) (D : decode M.1 p1 = .ok (.getfield i, 3)) (hl : lkF M.2.2.1 i c k) (hf : fR c k = false) : FV vI M pc (p1 + 3) d k1 s1 (e_fld o c k) := fun X ok K env stk st bc bs hs h kk => by
  refine ho X ok _ env stk st bc bs hs h (fun r st1 h1 => ?_)
  obtain ⟨a, rfl, ha, h1⟩ := h1
  exact V_getI D hl hf ha ok (kk _ _ h1)
theorem F_rfld {M : MI} {o : ER} {i c k : Nat} (ho : FV vR M pc p1 d k1 s1 o) (D : decode M.1 p1 = .ok (.getfield i, 3)) (hl : lkF M.2.2.1 i c k) (hf : fR c k = true) : FV vR M pc (p1 + 3) d k1 s1 (r_fld o c k) := fun X ok K env stk st bc bs hs h kk => by
  refine ho X ok _ env stk st bc bs hs h (fun r st1 h1 => ?_)
  obtain ⟨a, rfl, ha, h1⟩ := h1
  exact V_getR D hl hf ha ok (kk _ _ h1)
def e_ald (o : ER) (x : EI) : EI := fun env st K => o env st (fun r st1 => x env st1 (fun i st2 => ∃ a n, r = some a ∧ st2.1[a]? = some (0, n) ∧ 0 ≤ i ∧ i < (n : Int) ∧ K (st2.2.1 a i.toNat) st2))
theorem F_e_ald {M : MI} {o : ER} {x : EI} (ho : FV vR M pc p1 d k1 s1 o) (hx : FV vI M p1 p2 (d + 1) k2 s2 x) (D : decode M.1 p2 = .ok (.iaload, 1)) : FV vI M pc (p2 + 1) d (k1 + k2) (s1 + s2) (e_ald o x) := fun X ok K env stk st bc bs hs h kk => by
  refine V_mono (by omega) (by omega) (ho X ok _ env stk st (bc + k2) (bs + s2) hs h (fun r st1 h1 => ?_))
  refine hx X ok _ env _ st1 bc bs (by rw [catS_R]; omega) h1 (fun i st2 h2 => ?_)
  obtain ⟨a, n, rfl, ha, h0, hn, h2⟩ := h2
  exact V_iald D ha h0 hn ok (kk _ _ h2)
def z_ald (o : ER) (x : EI) : EI := fun env st K => o env st (fun r st1 => x env st1 (fun i st2 => ∃ a n, r = some a ∧ st2.1[a]? = some (1, n) ∧ 0 ≤ i ∧ i < (n : Int) ∧ K (st2.2.1 a i.toNat) st2))
theorem F_z_ald {M : MI} {o : ER} {x : EI} (ho : FV vR M pc p1 d k1 s1 o) (hx : FV vI M p1 p2 (d + 1) k2 s2 x) (D : decode M.1 p2 = .ok (.baload, 1)) : FV vI M pc (p2 + 1) d (k1 + k2) (s1 + s2) (z_ald o x) := fun X ok K env stk st bc bs hs h kk => by
  refine V_mono (by omega) (by omega) (ho X ok _ env stk st (bc + k2) (bs + s2) hs h (fun r st1 h1 => ?_))
  refine hx X ok _ env _ st1 bc bs (by rw [catS_R]; omega) h1 (fun i st2 h2 => ?_)
  obtain ⟨a, n, rfl, ha, h0, hn, h2⟩ := h2
  exact V_zald D ha h0 hn ok (kk _ _ h2)
def r_ald (o : ER) (x : EI) : ER := fun env st K => o env st (fun r st1 => x env st1 (fun i st2 => ∃ a n, r = some a ∧ st2.1[a]? = some (2, n) ∧ 0 ≤ i ∧ i < (n : Int) ∧ K (st2.2.2 a i.toNat) st2))
theorem F_r_ald {M : MI} {o : ER} {x : EI} (ho : FV vR M pc p1 d k1 s1 o) (hx : FV vI M p1 p2 (d + 1) k2 s2 x) (D : decode M.1 p2 = .ok (.aaload, 1)) : FV vR M pc (p2 + 1) d (k1 + k2) (s1 + s2) (r_ald o x) := fun X ok K env stk st bc bs hs h kk => by
  refine V_mono (by omega) (by omega) (ho X ok _ env stk st (bc + k2) (bs + s2) hs h (fun r st1 h1 => ?_))
  refine hx X ok _ env _ st1 bc bs (by rw [catS_R]; omega) h1 (fun i st2 h2 => ?_)
  obtain ⟨a, n, rfl, ha, h0, hn, h2⟩ := h2
  exact V_aald D ha h0 hn ok (kk _ _ h2)
def e_len (o : ER) : EI := fun env st K => o env st (fun r st1 => ∃ a n, r = some a ∧ st1.1[a]? = some (0, n) ∧ n < 2147483648 ∧ K (n : Int) st1)
theorem F_len {M : MI} {o : ER} (ho : FV vR M pc p1 d k1 s1 o) (D : decode M.1 p1 = .ok (.arraylength, 1)) : FV vI M pc (p1 + 1) d k1 s1 (e_len o) := fun X ok K env stk st bc bs hs h kk => by
  refine ho X ok _ env stk st bc bs hs h (fun r st1 h1 => ?_)
  obtain ⟨a, n, rfl, ha, hn, h1⟩ := h1
  exact V_alen (by decide) hn D ha ok (kk _ _ h1)
def e_op (f : Int32 → Int32 → Int32) (a b : EI) : EI := fun env st K => a env st (fun x st1 => b env st1 (fun y st2 => K (o2 f x y) st2))
def e_dv (f : Int32 → Int32 → Int32) (a b : EI) : EI := fun env st K => a env st (fun x st1 => b env st1 (fun y st2 => y ≠ 0 ∧ K (o2 f x y) st2))
def l_op (f : Int64 → Int64 → Int64) (a b : EI) : EI := fun env st K => a env st (fun x st1 => b env st1 (fun y st2 => K (w2 f x y) st2))
def l_dv (f : Int64 → Int64 → Int64) (a b : EI) : EI := fun env st K => a env st (fun x st1 => b env st1 (fun y st2 => y ≠ 0 ∧ K (w2 f x y) st2))
def l_sh (f : Int64 → Int32 → Int64) (a b : EI) : EI := fun env st K => a env st (fun x st1 => b env st1 (fun y st2 => K (w3 f x y) st2))
def e_lcmp (a b : EI) : EI := fun env st K => a env st (fun x st1 => b env st1 (fun y st2 => K (lcmp x y) st2))
def e_l2i (a : EI) : EI := fun env st K => a env st (fun x st1 => K (l2i x) st1)
def e_min (a b : EI) : EI := fun env st K => a env st (fun x st1 => b env st1 (fun y st2 => K (mn x y) st2))
theorem F_iadd {M : MI} {a b : EI} (ha : FV vI M pc p1 d k1 s1 a) (hb : FV vI M p1 p2 (d + 1) k2 s2 b) (D : decode M.1 p2 = .ok (.iadd, 1)) : FV vI M pc (p2 + 1) d (k1 + k2) (s1 + s2) (e_op f_iadd a b) := fun X ok K env stk st bc bs hs h kk => by
  refine V_mono (by omega) (by omega) (ha X ok _ env stk st (bc + k2) (bs + s2) hs h (fun x st1 h1 => ?_))
  refine hb X ok _ env _ st1 bc bs (by rw [catS_I]; omega) h1 (fun y st2 h2 => ?_)
  exact V_iadd D ok (kk _ _ h2)
theorem F_isub {M : MI} {a b : EI} (ha : FV vI M pc p1 d k1 s1 a) (hb : FV vI M p1 p2 (d + 1) k2 s2 b) (D : decode M.1 p2 = .ok (.isub, 1)) : FV vI M pc (p2 + 1) d (k1 + k2) (s1 + s2) (e_op f_isub a b) := fun X ok K env stk st bc bs hs h kk => by
  refine V_mono (by omega) (by omega) (ha X ok _ env stk st (bc + k2) (bs + s2) hs h (fun x st1 h1 => ?_))
  refine hb X ok _ env _ st1 bc bs (by rw [catS_I]; omega) h1 (fun y st2 h2 => ?_)
  exact V_isub D ok (kk _ _ h2)
theorem F_imul {M : MI} {a b : EI} (ha : FV vI M pc p1 d k1 s1 a) (hb : FV vI M p1 p2 (d + 1) k2 s2 b) (D : decode M.1 p2 = .ok (.imul, 1)) : FV vI M pc (p2 + 1) d (k1 + k2) (s1 + s2) (e_op f_imul a b) := fun X ok K env stk st bc bs hs h kk => by
  refine V_mono (by omega) (by omega) (ha X ok _ env stk st (bc + k2) (bs + s2) hs h (fun x st1 h1 => ?_))
  refine hb X ok _ env _ st1 bc bs (by rw [catS_I]; omega) h1 (fun y st2 h2 => ?_)
  exact V_imul D ok (kk _ _ h2)
theorem F_iand {M : MI} {a b : EI} (ha : FV vI M pc p1 d k1 s1 a) (hb : FV vI M p1 p2 (d + 1) k2 s2 b) (D : decode M.1 p2 = .ok (.iand, 1)) : FV vI M pc (p2 + 1) d (k1 + k2) (s1 + s2) (e_op f_iand a b) := fun X ok K env stk st bc bs hs h kk => by
  refine V_mono (by omega) (by omega) (ha X ok _ env stk st (bc + k2) (bs + s2) hs h (fun x st1 h1 => ?_))
  refine hb X ok _ env _ st1 bc bs (by rw [catS_I]; omega) h1 (fun y st2 h2 => ?_)
  exact V_iand D ok (kk _ _ h2)
theorem F_ior {M : MI} {a b : EI} (ha : FV vI M pc p1 d k1 s1 a) (hb : FV vI M p1 p2 (d + 1) k2 s2 b) (D : decode M.1 p2 = .ok (.ior, 1)) : FV vI M pc (p2 + 1) d (k1 + k2) (s1 + s2) (e_op f_ior a b) := fun X ok K env stk st bc bs hs h kk => by
  refine V_mono (by omega) (by omega) (ha X ok _ env stk st (bc + k2) (bs + s2) hs h (fun x st1 h1 => ?_))
  refine hb X ok _ env _ st1 bc bs (by rw [catS_I]; omega) h1 (fun y st2 h2 => ?_)
  exact V_ior D ok (kk _ _ h2)
theorem F_ishl {M : MI} {a b : EI} (ha : FV vI M pc p1 d k1 s1 a) (hb : FV vI M p1 p2 (d + 1) k2 s2 b) (D : decode M.1 p2 = .ok (.ishl, 1)) : FV vI M pc (p2 + 1) d (k1 + k2) (s1 + s2) (e_op f_ishl a b) := fun X ok K env stk st bc bs hs h kk => by
  refine V_mono (by omega) (by omega) (ha X ok _ env stk st (bc + k2) (bs + s2) hs h (fun x st1 h1 => ?_))
  refine hb X ok _ env _ st1 bc bs (by rw [catS_I]; omega) h1 (fun y st2 h2 => ?_)
  exact V_ishl D ok (kk _ _ h2)
theorem F_ishr {M : MI} {a b : EI} (ha : FV vI M pc p1 d k1 s1 a) (hb : FV vI M p1 p2 (d + 1) k2 s2 b) (D : decode M.1 p2 = .ok (.ishr, 1)) : FV vI M pc (p2 + 1) d (k1 + k2) (s1 + s2) (e_op f_ishr a b) := fun X ok K env stk st bc bs hs h kk => by
  refine V_mono (by omega) (by omega) (ha X ok _ env stk st (bc + k2) (bs + s2) hs h (fun x st1 h1 => ?_))
  refine hb X ok _ env _ st1 bc bs (by rw [catS_I]; omega) h1 (fun y st2 h2 => ?_)
  exact V_ishr D ok (kk _ _ h2)
theorem F_idiv {M : MI} {a b : EI} (ha : FV vI M pc p1 d k1 s1 a) (hb : FV vI M p1 p2 (d + 1) k2 s2 b) (D : decode M.1 p2 = .ok (.idiv, 1)) : FV vI M pc (p2 + 1) d (k1 + k2) (s1 + s2) (e_dv f_idiv a b) := fun X ok K env stk st bc bs hs h kk => by
  refine V_mono (by omega) (by omega) (ha X ok _ env stk st (bc + k2) (bs + s2) hs h (fun x st1 h1 => ?_))
  refine hb X ok _ env _ st1 bc bs (by rw [catS_I]; omega) h1 (fun y st2 h2 => ?_)
  exact V_idiv D h2.1 ok (kk _ _ h2.2)
theorem F_irem {M : MI} {a b : EI} (ha : FV vI M pc p1 d k1 s1 a) (hb : FV vI M p1 p2 (d + 1) k2 s2 b) (D : decode M.1 p2 = .ok (.irem, 1)) : FV vI M pc (p2 + 1) d (k1 + k2) (s1 + s2) (e_dv f_irem a b) := fun X ok K env stk st bc bs hs h kk => by
  refine V_mono (by omega) (by omega) (ha X ok _ env stk st (bc + k2) (bs + s2) hs h (fun x st1 h1 => ?_))
  refine hb X ok _ env _ st1 bc bs (by rw [catS_I]; omega) h1 (fun y st2 h2 => ?_)
  exact V_irem D h2.1 ok (kk _ _ h2.2)
theorem F_land {M : MI} {a b : EI} (ha : FV vL M pc p1 d k1 s1 a) (hb : FV vL M p1 p2 (d + 2) k2 s2 b) (D : decode M.1 p2 = .ok (.land, 1)) : FV vL M pc (p2 + 1) d (k1 + k2) (s1 + s2) (l_op f_land a b) := fun X ok K env stk st bc bs hs h kk => by
  refine V_mono (by omega) (by omega) (ha X ok _ env stk st (bc + k2) (bs + s2) hs h (fun x st1 h1 => ?_))
  refine hb X ok _ env _ st1 bc bs (by rw [catS_L]; omega) h1 (fun y st2 h2 => ?_)
  exact V_land D ok (kk _ _ h2)
theorem F_lor {M : MI} {a b : EI} (ha : FV vL M pc p1 d k1 s1 a) (hb : FV vL M p1 p2 (d + 2) k2 s2 b) (D : decode M.1 p2 = .ok (.lor, 1)) : FV vL M pc (p2 + 1) d (k1 + k2) (s1 + s2) (l_op f_lor a b) := fun X ok K env stk st bc bs hs h kk => by
  refine V_mono (by omega) (by omega) (ha X ok _ env stk st (bc + k2) (bs + s2) hs h (fun x st1 h1 => ?_))
  refine hb X ok _ env _ st1 bc bs (by rw [catS_L]; omega) h1 (fun y st2 h2 => ?_)
  exact V_lor D ok (kk _ _ h2)
theorem F_ldiv {M : MI} {a b : EI} (ha : FV vL M pc p1 d k1 s1 a) (hb : FV vL M p1 p2 (d + 2) k2 s2 b) (D : decode M.1 p2 = .ok (.ldiv, 1)) : FV vL M pc (p2 + 1) d (k1 + k2) (s1 + s2) (l_dv f_ldiv a b) := fun X ok K env stk st bc bs hs h kk => by
  refine V_mono (by omega) (by omega) (ha X ok _ env stk st (bc + k2) (bs + s2) hs h (fun x st1 h1 => ?_))
  refine hb X ok _ env _ st1 bc bs (by rw [catS_L]; omega) h1 (fun y st2 h2 => ?_)
  exact V_ldiv D h2.1 ok (kk _ _ h2.2)
theorem F_lrem {M : MI} {a b : EI} (ha : FV vL M pc p1 d k1 s1 a) (hb : FV vL M p1 p2 (d + 2) k2 s2 b) (D : decode M.1 p2 = .ok (.lrem, 1)) : FV vL M pc (p2 + 1) d (k1 + k2) (s1 + s2) (l_dv f_lrem a b) := fun X ok K env stk st bc bs hs h kk => by
  refine V_mono (by omega) (by omega) (ha X ok _ env stk st (bc + k2) (bs + s2) hs h (fun x st1 h1 => ?_))
  refine hb X ok _ env _ st1 bc bs (by rw [catS_L]; omega) h1 (fun y st2 h2 => ?_)
  exact V_lrem D h2.1 ok (kk _ _ h2.2)
theorem F_lshl {M : MI} {a b : EI} (ha : FV vL M pc p1 d k1 s1 a) (hb : FV vI M p1 p2 (d + 2) k2 s2 b) (D : decode M.1 p2 = .ok (.lshl, 1)) : FV vL M pc (p2 + 1) d (k1 + k2) (s1 + s2) (l_sh f_lshl a b) := fun X ok K env stk st bc bs hs h kk => by
  refine V_mono (by omega) (by omega) (ha X ok _ env stk st (bc + k2) (bs + s2) hs h (fun x st1 h1 => ?_))
  refine hb X ok _ env _ st1 bc bs (by rw [catS_L]; omega) h1 (fun y st2 h2 => ?_)
  exact V_lshl D ok (kk _ _ h2)
theorem F_lshr {M : MI} {a b : EI} (ha : FV vL M pc p1 d k1 s1 a) (hb : FV vI M p1 p2 (d + 2) k2 s2 b) (D : decode M.1 p2 = .ok (.lshr, 1)) : FV vL M pc (p2 + 1) d (k1 + k2) (s1 + s2) (l_sh f_lshr a b) := fun X ok K env stk st bc bs hs h kk => by
  refine V_mono (by omega) (by omega) (ha X ok _ env stk st (bc + k2) (bs + s2) hs h (fun x st1 h1 => ?_))
  refine hb X ok _ env _ st1 bc bs (by rw [catS_L]; omega) h1 (fun y st2 h2 => ?_)
  exact V_lshr D ok (kk _ _ h2)
theorem F_lcmp {M : MI} {a b : EI} (ha : FV vL M pc p1 d k1 s1 a) (hb : FV vL M p1 p2 (d + 2) k2 s2 b) (D : decode M.1 p2 = .ok (.lcmp, 1)) : FV vI M pc (p2 + 1) d (k1 + k2) (s1 + s2) (e_lcmp a b) := fun X ok K env stk st bc bs hs h kk => by
  refine V_mono (by omega) (by omega) (ha X ok _ env stk st (bc + k2) (bs + s2) hs h (fun x st1 h1 => ?_))
  refine hb X ok _ env _ st1 bc bs (by rw [catS_L]; omega) h1 (fun y st2 h2 => ?_)
  exact V_lcmp D ok (kk _ _ h2)
theorem F_l2i {M : MI} {a : EI} (ha : FV vL M pc p1 d k1 s1 a) (D : decode M.1 p1 = .ok (.l2i, 1)) : FV vI M pc (p1 + 1) d k1 s1 (e_l2i a) := fun X ok K env stk st bc bs hs h kk => ha X ok _ env stk st bc bs hs h (fun _ _ h1 => V_l2i D ok (kk _ _ h1))
theorem F_i2l {M : MI} {a : EI} (ha : FV vI M pc p1 d k1 s1 a) (D : decode M.1 p1 = .ok (.i2l, 1)) : FV vL M pc (p1 + 1) d k1 s1 a := fun X ok K env stk st bc bs hs h kk => ha X ok _ env stk st bc bs hs h (fun _ _ h1 => V_i2l D ok (kk _ _ h1))
theorem F_min {M : MI} {a b : EI} {ix : Nat} (ha : FV vI M pc p1 d k1 s1 a) (hb : FV vI M p1 p2 (d + 1) k2 s2 b) (D : decode M.1 p2 = .ok (.invokestatic ix, 3)) (h1 : Cond.methodLink M.2.2.1 ix Lib.Math.min.name ∈ wAll) (h2 : Cond.static Lib.Math.min.name ∈ wAll) (h3 : Cond.initialized "java/lang/Math" ∈ wAll) (h4 : Cond.code Lib.Math.min.name Lib.Math.min.code 2 (some .int) ∈ wAll) (hfr1 : 1 ≤ M.2.2.2.2.1) (hlo1 : d + 13 ≤ M.2.2.2.2.2.1) : FV vI M pc (p2 + 3) d (k1 + k2) (s1 + s2) (e_min a b) := fun X ok K env stk st bc bs hs h kk => by
  refine V_mono (by omega) (by omega) (ha X ok _ env stk st (bc + k2) (bs + s2) hs h (fun x st1 g1 => ?_))
  refine hb X ok _ env _ st1 bc bs (by rw [catS_I]; omega) g1 (fun y st2 g2 => ?_)
  exact V_min D h1 h2 h3 h4 hfr1 (by omega) ok (kk _ _ g2)
-- conditions
def c_b (a : EI) : EC := fun env st K => a env st (fun x st1 => K (decide (x ≠ 0)) st1)
def c_not (c : EC) : EC := fun env st K => c env st (fun b st1 => K (!b) st1)
def c_and (a b : EC) : EC := fun env st K => a env st (fun p st1 => if p = true then b env st1 K else K false st1)
def c_or (a b : EC) : EC := fun env st K => a env st (fun p st1 => if p = true then K true st1 else b env st1 K)
def c_null (r : ER) : EC := fun env st K => r env st (fun x st1 => K (decide (x = none)) st1)
def c_eq (a b : EI) : EC := fun env st K => a env st (fun x st1 => b env st1 (fun y st2 => K (decide (x = y)) st2))
def c_ne (a b : EI) : EC := fun env st K => a env st (fun x st1 => b env st1 (fun y st2 => K (decide (x ≠ y)) st2))
def c_lt (a b : EI) : EC := fun env st K => a env st (fun x st1 => b env st1 (fun y st2 => K (decide (x < y)) st2))
def c_ge (a b : EI) : EC := fun env st K => a env st (fun x st1 => b env st1 (fun y st2 => K (decide (y ≤ x)) st2))
def c_gt (a b : EI) : EC := fun env st K => a env st (fun x st1 => b env st1 (fun y st2 => K (decide (y < x)) st2))
def c_le (a b : EI) : EC := fun env st K => a env st (fun x st1 => b env st1 (fun y st2 => K (decide (x ≤ y)) st2))
theorem C_eq_t {M : MI} {a b : EI} {off : Int} {tgt : Nat} (ha : FV vI M pc p1 d k1 s1 a) (hb : FV vI M p1 p2 (d + 1) k2 s2 b) (D : decode M.1 p2 = .ok (.if_icmp .eq off, 3)) (ht : (p2 : Int) + off = (tgt : Int)) : FC M pc (p2 + 3) tgt true d (k1 + k2) (s1 + s2) (c_eq a b) := fun X ok K env stk st bc bs hs h kk => by
  refine V_mono (by omega) (by omega) (ha X ok _ env stk st (bc + k2) (bs + s2) hs h (fun x st1 h1 => ?_))
  refine hb X ok _ env _ st1 bc bs (by rw [catS_I]; omega) h1 (fun y st2 h2 => ?_)
  have kk := kk _ _ h2
  exact V_icmp_eq D ht ok (fun q => by rw [if_pos (by simp; omega)] at kk; exact kk) (fun q => by rw [if_neg (by simp; omega)] at kk; exact kk)
theorem C_eq0_t {M : MI} {a : EI} {off : Int} {tgt : Nat} (ha : FV vI M pc p1 d k1 s1 a) (D : decode M.1 p1 = .ok (.ifCond .eq off, 3)) (ht : (p1 : Int) + off = (tgt : Int)) : FC M pc (p1 + 3) tgt true d k1 s1 (c_eq a (e_ci 0)) := fun X ok K env stk st bc bs hs h kk => by
  refine ha X ok _ env stk st bc bs hs h (fun x st1 h1 => ?_)
  have kk := kk _ _ h1
  exact V_if_eq D ht ok (fun q => by rw [if_pos (by simp; omega)] at kk; exact kk) (fun q => by rw [if_neg (by simp; omega)] at kk; exact kk)
theorem C_eq_f {M : MI} {a b : EI} {off : Int} {tgt : Nat} (ha : FV vI M pc p1 d k1 s1 a) (hb : FV vI M p1 p2 (d + 1) k2 s2 b) (D : decode M.1 p2 = .ok (.if_icmp .ne off, 3)) (ht : (p2 : Int) + off = (tgt : Int)) : FC M pc (p2 + 3) tgt false d (k1 + k2) (s1 + s2) (c_eq a b) := fun X ok K env stk st bc bs hs h kk => by
  refine V_mono (by omega) (by omega) (ha X ok _ env stk st (bc + k2) (bs + s2) hs h (fun x st1 h1 => ?_))
  refine hb X ok _ env _ st1 bc bs (by rw [catS_I]; omega) h1 (fun y st2 h2 => ?_)
  have kk := kk _ _ h2
  exact V_icmp_ne D ht ok (fun q => by rw [if_pos (by simp; omega)] at kk; exact kk) (fun q => by rw [if_neg (by simp; omega)] at kk; exact kk)
theorem C_eq0_f {M : MI} {a : EI} {off : Int} {tgt : Nat} (ha : FV vI M pc p1 d k1 s1 a) (D : decode M.1 p1 = .ok (.ifCond .ne off, 3)) (ht : (p1 : Int) + off = (tgt : Int)) : FC M pc (p1 + 3) tgt false d k1 s1 (c_eq a (e_ci 0)) := fun X ok K env stk st bc bs hs h kk => by
  refine ha X ok _ env stk st bc bs hs h (fun x st1 h1 => ?_)
  have kk := kk _ _ h1
  exact V_if_ne D ht ok (fun q => by rw [if_pos (by simp; omega)] at kk; exact kk) (fun q => by rw [if_neg (by simp; omega)] at kk; exact kk)
theorem C_ne_t {M : MI} {a b : EI} {off : Int} {tgt : Nat} (ha : FV vI M pc p1 d k1 s1 a) (hb : FV vI M p1 p2 (d + 1) k2 s2 b) (D : decode M.1 p2 = .ok (.if_icmp .ne off, 3)) (ht : (p2 : Int) + off = (tgt : Int)) : FC M pc (p2 + 3) tgt true d (k1 + k2) (s1 + s2) (c_ne a b) := fun X ok K env stk st bc bs hs h kk => by
  refine V_mono (by omega) (by omega) (ha X ok _ env stk st (bc + k2) (bs + s2) hs h (fun x st1 h1 => ?_))
  refine hb X ok _ env _ st1 bc bs (by rw [catS_I]; omega) h1 (fun y st2 h2 => ?_)
  have kk := kk _ _ h2
  exact V_icmp_ne D ht ok (fun q => by rw [if_pos (by simp; omega)] at kk; exact kk) (fun q => by rw [if_neg (by simp; omega)] at kk; exact kk)
theorem C_ne0_t {M : MI} {a : EI} {off : Int} {tgt : Nat} (ha : FV vI M pc p1 d k1 s1 a) (D : decode M.1 p1 = .ok (.ifCond .ne off, 3)) (ht : (p1 : Int) + off = (tgt : Int)) : FC M pc (p1 + 3) tgt true d k1 s1 (c_ne a (e_ci 0)) := fun X ok K env stk st bc bs hs h kk => by
  refine ha X ok _ env stk st bc bs hs h (fun x st1 h1 => ?_)
  have kk := kk _ _ h1
  exact V_if_ne D ht ok (fun q => by rw [if_pos (by simp; omega)] at kk; exact kk) (fun q => by rw [if_neg (by simp; omega)] at kk; exact kk)
theorem C_ne_f {M : MI} {a b : EI} {off : Int} {tgt : Nat} (ha : FV vI M pc p1 d k1 s1 a) (hb : FV vI M p1 p2 (d + 1) k2 s2 b) (D : decode M.1 p2 = .ok (.if_icmp .eq off, 3)) (ht : (p2 : Int) + off = (tgt : Int)) : FC M pc (p2 + 3) tgt false d (k1 + k2) (s1 + s2) (c_ne a b) := fun X ok K env stk st bc bs hs h kk => by
  refine V_mono (by omega) (by omega) (ha X ok _ env stk st (bc + k2) (bs + s2) hs h (fun x st1 h1 => ?_))
  refine hb X ok _ env _ st1 bc bs (by rw [catS_I]; omega) h1 (fun y st2 h2 => ?_)
  have kk := kk _ _ h2
  exact V_icmp_eq D ht ok (fun q => by rw [if_pos (by simp; omega)] at kk; exact kk) (fun q => by rw [if_neg (by simp; omega)] at kk; exact kk)
theorem C_ne0_f {M : MI} {a : EI} {off : Int} {tgt : Nat} (ha : FV vI M pc p1 d k1 s1 a) (D : decode M.1 p1 = .ok (.ifCond .eq off, 3)) (ht : (p1 : Int) + off = (tgt : Int)) : FC M pc (p1 + 3) tgt false d k1 s1 (c_ne a (e_ci 0)) := fun X ok K env stk st bc bs hs h kk => by
  refine ha X ok _ env stk st bc bs hs h (fun x st1 h1 => ?_)
  have kk := kk _ _ h1
  exact V_if_eq D ht ok (fun q => by rw [if_pos (by simp; omega)] at kk; exact kk) (fun q => by rw [if_neg (by simp; omega)] at kk; exact kk)
theorem C_lt_t {M : MI} {a b : EI} {off : Int} {tgt : Nat} (ha : FV vI M pc p1 d k1 s1 a) (hb : FV vI M p1 p2 (d + 1) k2 s2 b) (D : decode M.1 p2 = .ok (.if_icmp .lt off, 3)) (ht : (p2 : Int) + off = (tgt : Int)) : FC M pc (p2 + 3) tgt true d (k1 + k2) (s1 + s2) (c_lt a b) := fun X ok K env stk st bc bs hs h kk => by
  refine V_mono (by omega) (by omega) (ha X ok _ env stk st (bc + k2) (bs + s2) hs h (fun x st1 h1 => ?_))
  refine hb X ok _ env _ st1 bc bs (by rw [catS_I]; omega) h1 (fun y st2 h2 => ?_)
  have kk := kk _ _ h2
  exact V_icmp_lt D ht ok (fun q => by rw [if_pos (by simp; omega)] at kk; exact kk) (fun q => by rw [if_neg (by simp; omega)] at kk; exact kk)
theorem C_lt0_t {M : MI} {a : EI} {off : Int} {tgt : Nat} (ha : FV vI M pc p1 d k1 s1 a) (D : decode M.1 p1 = .ok (.ifCond .lt off, 3)) (ht : (p1 : Int) + off = (tgt : Int)) : FC M pc (p1 + 3) tgt true d k1 s1 (c_lt a (e_ci 0)) := fun X ok K env stk st bc bs hs h kk => by
  refine ha X ok _ env stk st bc bs hs h (fun x st1 h1 => ?_)
  have kk := kk _ _ h1
  exact V_if_lt D ht ok (fun q => by rw [if_pos (by simp; omega)] at kk; exact kk) (fun q => by rw [if_neg (by simp; omega)] at kk; exact kk)
theorem C_lt_f {M : MI} {a b : EI} {off : Int} {tgt : Nat} (ha : FV vI M pc p1 d k1 s1 a) (hb : FV vI M p1 p2 (d + 1) k2 s2 b) (D : decode M.1 p2 = .ok (.if_icmp .ge off, 3)) (ht : (p2 : Int) + off = (tgt : Int)) : FC M pc (p2 + 3) tgt false d (k1 + k2) (s1 + s2) (c_lt a b) := fun X ok K env stk st bc bs hs h kk => by
  refine V_mono (by omega) (by omega) (ha X ok _ env stk st (bc + k2) (bs + s2) hs h (fun x st1 h1 => ?_))
  refine hb X ok _ env _ st1 bc bs (by rw [catS_I]; omega) h1 (fun y st2 h2 => ?_)
  have kk := kk _ _ h2
  exact V_icmp_ge D ht ok (fun q => by rw [if_pos (by simp; omega)] at kk; exact kk) (fun q => by rw [if_neg (by simp; omega)] at kk; exact kk)
theorem C_lt0_f {M : MI} {a : EI} {off : Int} {tgt : Nat} (ha : FV vI M pc p1 d k1 s1 a) (D : decode M.1 p1 = .ok (.ifCond .ge off, 3)) (ht : (p1 : Int) + off = (tgt : Int)) : FC M pc (p1 + 3) tgt false d k1 s1 (c_lt a (e_ci 0)) := fun X ok K env stk st bc bs hs h kk => by
  refine ha X ok _ env stk st bc bs hs h (fun x st1 h1 => ?_)
  have kk := kk _ _ h1
  exact V_if_ge D ht ok (fun q => by rw [if_pos (by simp; omega)] at kk; exact kk) (fun q => by rw [if_neg (by simp; omega)] at kk; exact kk)
theorem C_ge_t {M : MI} {a b : EI} {off : Int} {tgt : Nat} (ha : FV vI M pc p1 d k1 s1 a) (hb : FV vI M p1 p2 (d + 1) k2 s2 b) (D : decode M.1 p2 = .ok (.if_icmp .ge off, 3)) (ht : (p2 : Int) + off = (tgt : Int)) : FC M pc (p2 + 3) tgt true d (k1 + k2) (s1 + s2) (c_ge a b) := fun X ok K env stk st bc bs hs h kk => by
  refine V_mono (by omega) (by omega) (ha X ok _ env stk st (bc + k2) (bs + s2) hs h (fun x st1 h1 => ?_))
  refine hb X ok _ env _ st1 bc bs (by rw [catS_I]; omega) h1 (fun y st2 h2 => ?_)
  have kk := kk _ _ h2
  exact V_icmp_ge D ht ok (fun q => by rw [if_pos (by simp; omega)] at kk; exact kk) (fun q => by rw [if_neg (by simp; omega)] at kk; exact kk)
theorem C_ge0_t {M : MI} {a : EI} {off : Int} {tgt : Nat} (ha : FV vI M pc p1 d k1 s1 a) (D : decode M.1 p1 = .ok (.ifCond .ge off, 3)) (ht : (p1 : Int) + off = (tgt : Int)) : FC M pc (p1 + 3) tgt true d k1 s1 (c_ge a (e_ci 0)) := fun X ok K env stk st bc bs hs h kk => by
  refine ha X ok _ env stk st bc bs hs h (fun x st1 h1 => ?_)
  have kk := kk _ _ h1
  exact V_if_ge D ht ok (fun q => by rw [if_pos (by simp; omega)] at kk; exact kk) (fun q => by rw [if_neg (by simp; omega)] at kk; exact kk)
theorem C_ge_f {M : MI} {a b : EI} {off : Int} {tgt : Nat} (ha : FV vI M pc p1 d k1 s1 a) (hb : FV vI M p1 p2 (d + 1) k2 s2 b) (D : decode M.1 p2 = .ok (.if_icmp .lt off, 3)) (ht : (p2 : Int) + off = (tgt : Int)) : FC M pc (p2 + 3) tgt false d (k1 + k2) (s1 + s2) (c_ge a b) := fun X ok K env stk st bc bs hs h kk => by
  refine V_mono (by omega) (by omega) (ha X ok _ env stk st (bc + k2) (bs + s2) hs h (fun x st1 h1 => ?_))
  refine hb X ok _ env _ st1 bc bs (by rw [catS_I]; omega) h1 (fun y st2 h2 => ?_)
  have kk := kk _ _ h2
  exact V_icmp_lt D ht ok (fun q => by rw [if_pos (by simp; omega)] at kk; exact kk) (fun q => by rw [if_neg (by simp; omega)] at kk; exact kk)
theorem C_ge0_f {M : MI} {a : EI} {off : Int} {tgt : Nat} (ha : FV vI M pc p1 d k1 s1 a) (D : decode M.1 p1 = .ok (.ifCond .lt off, 3)) (ht : (p1 : Int) + off = (tgt : Int)) : FC M pc (p1 + 3) tgt false d k1 s1 (c_ge a (e_ci 0)) := fun X ok K env stk st bc bs hs h kk => by
  refine ha X ok _ env stk st bc bs hs h (fun x st1 h1 => ?_)
  have kk := kk _ _ h1
  exact V_if_lt D ht ok (fun q => by rw [if_pos (by simp; omega)] at kk; exact kk) (fun q => by rw [if_neg (by simp; omega)] at kk; exact kk)
theorem C_gt_t {M : MI} {a b : EI} {off : Int} {tgt : Nat} (ha : FV vI M pc p1 d k1 s1 a) (hb : FV vI M p1 p2 (d + 1) k2 s2 b) (D : decode M.1 p2 = .ok (.if_icmp .gt off, 3)) (ht : (p2 : Int) + off = (tgt : Int)) : FC M pc (p2 + 3) tgt true d (k1 + k2) (s1 + s2) (c_gt a b) := fun X ok K env stk st bc bs hs h kk => by
  refine V_mono (by omega) (by omega) (ha X ok _ env stk st (bc + k2) (bs + s2) hs h (fun x st1 h1 => ?_))
  refine hb X ok _ env _ st1 bc bs (by rw [catS_I]; omega) h1 (fun y st2 h2 => ?_)
  have kk := kk _ _ h2
  exact V_icmp_gt D ht ok (fun q => by rw [if_pos (by simp; omega)] at kk; exact kk) (fun q => by rw [if_neg (by simp; omega)] at kk; exact kk)
theorem C_gt0_t {M : MI} {a : EI} {off : Int} {tgt : Nat} (ha : FV vI M pc p1 d k1 s1 a) (D : decode M.1 p1 = .ok (.ifCond .gt off, 3)) (ht : (p1 : Int) + off = (tgt : Int)) : FC M pc (p1 + 3) tgt true d k1 s1 (c_gt a (e_ci 0)) := fun X ok K env stk st bc bs hs h kk => by
  refine ha X ok _ env stk st bc bs hs h (fun x st1 h1 => ?_)
  have kk := kk _ _ h1
  exact V_if_gt D ht ok (fun q => by rw [if_pos (by simp; omega)] at kk; exact kk) (fun q => by rw [if_neg (by simp; omega)] at kk; exact kk)
theorem C_gt_f {M : MI} {a b : EI} {off : Int} {tgt : Nat} (ha : FV vI M pc p1 d k1 s1 a) (hb : FV vI M p1 p2 (d + 1) k2 s2 b) (D : decode M.1 p2 = .ok (.if_icmp .le off, 3)) (ht : (p2 : Int) + off = (tgt : Int)) : FC M pc (p2 + 3) tgt false d (k1 + k2) (s1 + s2) (c_gt a b) := fun X ok K env stk st bc bs hs h kk => by
  refine V_mono (by omega) (by omega) (ha X ok _ env stk st (bc + k2) (bs + s2) hs h (fun x st1 h1 => ?_))
  refine hb X ok _ env _ st1 bc bs (by rw [catS_I]; omega) h1 (fun y st2 h2 => ?_)
  have kk := kk _ _ h2
  exact V_icmp_le D ht ok (fun q => by rw [if_pos (by simp; omega)] at kk; exact kk) (fun q => by rw [if_neg (by simp; omega)] at kk; exact kk)
theorem C_gt0_f {M : MI} {a : EI} {off : Int} {tgt : Nat} (ha : FV vI M pc p1 d k1 s1 a) (D : decode M.1 p1 = .ok (.ifCond .le off, 3)) (ht : (p1 : Int) + off = (tgt : Int)) : FC M pc (p1 + 3) tgt false d k1 s1 (c_gt a (e_ci 0)) := fun X ok K env stk st bc bs hs h kk => by
  refine ha X ok _ env stk st bc bs hs h (fun x st1 h1 => ?_)
  have kk := kk _ _ h1
  exact V_if_le D ht ok (fun q => by rw [if_pos (by simp; omega)] at kk; exact kk) (fun q => by rw [if_neg (by simp; omega)] at kk; exact kk)
theorem C_le_t {M : MI} {a b : EI} {off : Int} {tgt : Nat} (ha : FV vI M pc p1 d k1 s1 a) (hb : FV vI M p1 p2 (d + 1) k2 s2 b) (D : decode M.1 p2 = .ok (.if_icmp .le off, 3)) (ht : (p2 : Int) + off = (tgt : Int)) : FC M pc (p2 + 3) tgt true d (k1 + k2) (s1 + s2) (c_le a b) := fun X ok K env stk st bc bs hs h kk => by
  refine V_mono (by omega) (by omega) (ha X ok _ env stk st (bc + k2) (bs + s2) hs h (fun x st1 h1 => ?_))
  refine hb X ok _ env _ st1 bc bs (by rw [catS_I]; omega) h1 (fun y st2 h2 => ?_)
  have kk := kk _ _ h2
  exact V_icmp_le D ht ok (fun q => by rw [if_pos (by simp; omega)] at kk; exact kk) (fun q => by rw [if_neg (by simp; omega)] at kk; exact kk)
theorem C_le0_t {M : MI} {a : EI} {off : Int} {tgt : Nat} (ha : FV vI M pc p1 d k1 s1 a) (D : decode M.1 p1 = .ok (.ifCond .le off, 3)) (ht : (p1 : Int) + off = (tgt : Int)) : FC M pc (p1 + 3) tgt true d k1 s1 (c_le a (e_ci 0)) := fun X ok K env stk st bc bs hs h kk => by
  refine ha X ok _ env stk st bc bs hs h (fun x st1 h1 => ?_)
  have kk := kk _ _ h1
  exact V_if_le D ht ok (fun q => by rw [if_pos (by simp; omega)] at kk; exact kk) (fun q => by rw [if_neg (by simp; omega)] at kk; exact kk)
theorem C_le_f {M : MI} {a b : EI} {off : Int} {tgt : Nat} (ha : FV vI M pc p1 d k1 s1 a) (hb : FV vI M p1 p2 (d + 1) k2 s2 b) (D : decode M.1 p2 = .ok (.if_icmp .gt off, 3)) (ht : (p2 : Int) + off = (tgt : Int)) : FC M pc (p2 + 3) tgt false d (k1 + k2) (s1 + s2) (c_le a b) := fun X ok K env stk st bc bs hs h kk => by
  refine V_mono (by omega) (by omega) (ha X ok _ env stk st (bc + k2) (bs + s2) hs h (fun x st1 h1 => ?_))
  refine hb X ok _ env _ st1 bc bs (by rw [catS_I]; omega) h1 (fun y st2 h2 => ?_)
  have kk := kk _ _ h2
  exact V_icmp_gt D ht ok (fun q => by rw [if_pos (by simp; omega)] at kk; exact kk) (fun q => by rw [if_neg (by simp; omega)] at kk; exact kk)
theorem C_le0_f {M : MI} {a : EI} {off : Int} {tgt : Nat} (ha : FV vI M pc p1 d k1 s1 a) (D : decode M.1 p1 = .ok (.ifCond .gt off, 3)) (ht : (p1 : Int) + off = (tgt : Int)) : FC M pc (p1 + 3) tgt false d k1 s1 (c_le a (e_ci 0)) := fun X ok K env stk st bc bs hs h kk => by
  refine ha X ok _ env stk st bc bs hs h (fun x st1 h1 => ?_)
  have kk := kk _ _ h1
  exact V_if_gt D ht ok (fun q => by rw [if_pos (by simp; omega)] at kk; exact kk) (fun q => by rw [if_neg (by simp; omega)] at kk; exact kk)
theorem C_b_t {M : MI} {a : EI} {off : Int} {tgt : Nat} (ha : FV vI M pc p1 d k1 s1 a) (D : decode M.1 p1 = .ok (.ifCond .ne off, 3)) (ht : (p1 : Int) + off = (tgt : Int)) : FC M pc (p1 + 3) tgt true d k1 s1 (c_b a) := fun X ok K env stk st bc bs hs h kk => by
  refine ha X ok _ env stk st bc bs hs h (fun x st1 h1 => ?_)
  have kk := kk _ _ h1
  exact V_if_ne D ht ok (fun q => by rw [if_pos (by simp; omega)] at kk; exact kk) (fun q => by rw [if_neg (by simp; omega)] at kk; exact kk)
theorem C_b_f {M : MI} {a : EI} {off : Int} {tgt : Nat} (ha : FV vI M pc p1 d k1 s1 a) (D : decode M.1 p1 = .ok (.ifCond .eq off, 3)) (ht : (p1 : Int) + off = (tgt : Int)) : FC M pc (p1 + 3) tgt false d k1 s1 (c_b a) := fun X ok K env stk st bc bs hs h kk => by
  refine ha X ok _ env stk st bc bs hs h (fun x st1 h1 => ?_)
  have kk := kk _ _ h1
  exact V_if_eq D ht ok (fun q => by rw [if_pos (by simp; omega)] at kk; exact kk) (fun q => by rw [if_neg (by simp; omega)] at kk; exact kk)
theorem C_null_f {M : MI} {r : ER} {off : Int} {tgt : Nat} (ha : FV vR M pc p1 d k1 s1 r) (D : decode M.1 p1 = .ok (.ifnonnull off, 3)) (ht : (p1 : Int) + off = (tgt : Int)) : FC M pc (p1 + 3) tgt false d k1 s1 (c_null r) := fun X ok K env stk st bc bs hs h kk => by
  refine ha X ok _ env stk st bc bs hs h (fun x st1 h1 => ?_)
  have kk := kk _ _ h1
  exact V_ifnonnull D ht ok (fun q => by rw [if_pos (by simp [q])] at kk; exact kk) (fun q => by rw [if_neg (by simp [q])] at kk; exact kk)
theorem C_not {M : MI} {c : EC} {tgt : Nat} {sense : Bool} (hc : FC M pc p1 tgt sense d k1 s1 c) : FC M pc p1 tgt (!sense) d k1 s1 (c_not c) := fun X ok K env stk st bc bs hs h kk => by
  refine hc X ok _ env stk st bc bs hs h (fun b st1 h1 => ?_)
  have kk := kk _ _ h1
  cases b <;> cases sense <;> exact kk
theorem C_and_f {M : MI} {a b : EC} {tgt : Nat} (ha : FC M pc p1 tgt false d k1 s1 a) (hb : FC M p1 p2 tgt false d k2 s2 b) : FC M pc p2 tgt false d (k1 + k2) (s1 + s2) (c_and a b) := fun X ok K env stk st bc bs hs h kk => by
  refine V_mono (by omega) (by omega) (ha X ok _ env stk st (bc + k2) (bs + s2) hs h (fun p st1 h1 => ?_))
  cases p with
  | true => exact hb X ok _ env stk st1 bc bs hs h1 kk
  | false => exact V_mono (by omega) (by omega) (kk _ _ h1)
theorem C_and_t {M : MI} {a b : EC} {tgt : Nat} (ha : FC M pc p1 p2 false d k1 s1 a) (hb : FC M p1 p2 tgt true d k2 s2 b) : FC M pc p2 tgt true d (k1 + k2) (s1 + s2) (c_and a b) := fun X ok K env stk st bc bs hs h kk => by
  refine V_mono (by omega) (by omega) (ha X ok _ env stk st (bc + k2) (bs + s2) hs h (fun p st1 h1 => ?_))
  cases p with
  | true => exact hb X ok _ env stk st1 bc bs hs h1 kk
  | false => exact V_mono (by omega) (by omega) (kk _ _ h1)
theorem C_or_t {M : MI} {a b : EC} {tgt : Nat} (ha : FC M pc p1 tgt true d k1 s1 a) (hb : FC M p1 p2 tgt true d k2 s2 b) : FC M pc p2 tgt true d (k1 + k2) (s1 + s2) (c_or a b) := fun X ok K env stk st bc bs hs h kk => by
  refine V_mono (by omega) (by omega) (ha X ok _ env stk st (bc + k2) (bs + s2) hs h (fun p st1 h1 => ?_))
  cases p with
  | false => exact hb X ok _ env stk st1 bc bs hs h1 kk
  | true => exact V_mono (by omega) (by omega) (kk _ _ h1)
theorem C_or_f {M : MI} {a b : EC} {tgt : Nat} (ha : FC M pc p1 p2 true d k1 s1 a) (hb : FC M p1 p2 tgt false d k2 s2 b) : FC M pc p2 tgt false d (k1 + k2) (s1 + s2) (c_or a b) := fun X ok K env stk st bc bs hs h kk => by
  refine V_mono (by omega) (by omega) (ha X ok _ env stk st (bc + k2) (bs + s2) hs h (fun p st1 h1 => ?_))
  cases p with
  | false => exact hb X ok _ env stk st1 bc bs hs h1 kk
  | true => exact V_mono (by omega) (by omega) (kk _ _ h1)
-- a condition as a value; a choice
def e_cond (c : EC) : EI := fun env st K => c env st (fun b st1 => K (if b = true then 1 else 0) st1)
theorem F_cond {M : MI} {c : EC} {off : Int} (hc : FC M pc p1 p2 false d k1 s1 c) (D1 : decode M.1 p1 = .ok (.iconst 1, 1)) (D2 : decode M.1 (p1 + 1) = .ok (.goto off, 3)) (ht : ((p1 + 1 : Nat) : Int) + off = ((p2 + 1 : Nat) : Int)) (D3 : decode M.1 p2 = .ok (.iconst 0, 1)) : FV vI M pc (p2 + 1) d k1 s1 (e_cond c) := fun X ok K env stk st bc bs hs h kk => by
  refine hc X ok _ env stk st bc bs hs h (fun b st1 h1 => ?_)
  have kk := kk _ _ h1
  cases b with
  | true => exact V_iconst D1 ⟨by decide, by decide⟩ ok (V_goto D2 ht ok kk)
  | false => exact V_iconst D3 ⟨by decide, by decide⟩ ok kk
def x_tern {α : Type} (c : EC) (a b : XE → XS → (α → XS → Prop) → Prop) : XE → XS → (α → XS → Prop) → Prop := fun env st K => c env st (fun q st1 => if q = true then a env st1 K else b env st1 K)
theorem F_tern {α : Type} {mk : α → AV} {M : MI} {c : EC} {a b : XE → XS → (α → XS → Prop) → Prop} {off : Int} (hc : FC M pc p1 (p2 + 3) false d k1 s1 c) (ha : FV mk M p1 p2 d k2 s2 a) (D : decode M.1 p2 = .ok (.goto off, 3)) (ht : (p2 : Int) + off = (p3 : Int)) (hb : FV mk M (p2 + 3) p3 d k3 s3 b) : FV mk M pc p3 d (k1 + (k2 + k3)) (s1 + (s2 + s3)) (x_tern c a b) := fun X ok K env stk st bc bs hs h kk => by
  refine V_mono (by omega) (by omega) (hc X ok _ env stk st (bc + (k2 + k3)) (bs + (s2 + s3)) hs h (fun q st1 h1 => ?_))
  cases q with
  | true => exact V_mono (by omega) (by omega) (ha X ok _ env stk st1 bc bs hs h1 (fun v st2 h2 => V_goto D ht ok (kk _ _ h2)))
  | false => exact V_mono (by omega) (by omega) (hb X ok _ env stk st1 bc bs hs h1 kk)
-- arguments
def a_nil : EA := fun _ st K => K [] st
def a_I (x : EI) (r : EA) : EA := fun env st K => x env st (fun v st1 => r env st1 (fun l st2 => K (vI v :: l) st2))
def a_L (x : EI) (r : EA) : EA := fun env st K => x env st (fun v st1 => r env st1 (fun l st2 => K (vL v :: l) st2))
def a_R (x : ER) (r : EA) : EA := fun env st K => x env st (fun v st1 => r env st1 (fun l st2 => K (vR v :: l) st2))
theorem A_nil (M : MI) : FA M pc pc d 0 0 0 a_nil := fun _ _ _ _ _ _ _ _ _ h k => k _ _ h rfl
theorem A_I {M : MI} {x : EI} {r : EA} (hx : FV vI M pc p1 d k1 s1 x) (hr : FA M p1 p2 (d + 1) k2 s2 n r) : FA M pc p2 d (k1 + k2) (s1 + s2) (n + 1) (a_I x r) := fun X ok K env stk st bc bs hs h kk => by
  refine V_mono (by omega) (by omega) (hx X ok _ env stk st (bc + k2) (bs + s2) hs h (fun v st1 h1 => ?_))
  refine hr X ok _ env _ st1 bc bs (by rw [catS_I]; omega) h1 (fun l st2 h2 hl => ?_)
  have := kk _ _ h2 (by simp [hl])
  simpa using this
theorem A_L {M : MI} {x : EI} {r : EA} (hx : FV vL M pc p1 d k1 s1 x) (hr : FA M p1 p2 (d + 2) k2 s2 n r) : FA M pc p2 d (k1 + k2) (s1 + s2) (n + 1) (a_L x r) := fun X ok K env stk st bc bs hs h kk => by
  refine V_mono (by omega) (by omega) (hx X ok _ env stk st (bc + k2) (bs + s2) hs h (fun v st1 h1 => ?_))
  refine hr X ok _ env _ st1 bc bs (by rw [catS_L]; omega) h1 (fun l st2 h2 hl => ?_)
  have := kk _ _ h2 (by simp [hl])
  simpa using this
theorem A_R {M : MI} {x : ER} {r : EA} (hx : FV vR M pc p1 d k1 s1 x) (hr : FA M p1 p2 (d + 1) k2 s2 n r) : FA M pc p2 d (k1 + k2) (s1 + s2) (n + 1) (a_R x r) := fun X ok K env stk st bc bs hs h kk => by
  refine V_mono (by omega) (by omega) (hx X ok _ env stk st (bc + k2) (bs + s2) hs h (fun v st1 h1 => ?_))
  refine hr X ok _ env _ st1 bc bs (by rw [catS_R]; omega) h1 (fun l st2 h2 hl => ?_)
  have := kk _ _ h2 (by simp [hl])
  simpa using this
-- calls
def g_callV (c : Nat) (B : XB) (a : EA) (K : AV → XS → Prop) (env : XE) (st : XS) : Prop := a env st (fun l st1 => ∃ o l', l = vR (some o) :: l' ∧ st1.1[o]? = some (c + 3, 0) ∧ B l st1 K)
def e_callV (c : Nat) (B : XB) (a : EA) : EI := fun env st K => g_callV c B a (fun v st2 => ∃ x, v = vI x ∧ K x st2) env st
def r_callV (c : Nat) (B : XB) (a : EA) : ER := fun env st K => g_callV c B a (fun v st2 => ∃ x, v = vR x ∧ K x st2) env st
def e_callS (B : XB) (a : EA) : EI := fun env st K => a env st (fun l st1 => B l st1 (fun v st2 => ∃ x, v = vI x ∧ K x st2))
theorem G_callV {M : MI} {a : EA} {i c : Nat} {nest : Bool} {Y : NI} {B : XB} (ha : FA M pc p1 d k1 s1 (n + 1) a) (D : decode M.1 p1 = .ok (.invokevirtual i, 3)) (hC : lkC Y n) (hV : lkV M.2.2.1 i c Y nest) (hR : rmC M Y) (hB : Snd Y B) (hd : d ≤ 8) {X : CX} (ok : OK X M) {K : AV → XS → Prop} {env : XE} {stk : List AV} {st : XS} {bc bs : Nat} (hs : catS stk ≤ d) (h : g_callV c B a K env st) (kk : ∀ v st', K v st' → V X (p1 + 3) env ((if v = vU then [] else [v]) ++ stk) st' bc bs) : V X pc env stk st (bc + (k1 + Y.2.2.2.2.2.2.1)) (bs + (s1 + Y.2.2.2.2.2.2.2)) := by
  refine V_mono (by omega) (by omega) (ha X ok _ env stk st (bc + Y.2.2.2.2.2.2.1) (bs + Y.2.2.2.2.2.2.2) hs h (fun l st1 h1 hl => ?_))
  obtain ⟨o, l', rfl, ho, h1⟩ := h1
  have e : (vR (some o) :: l').reverse ++ stk = l'.reverse ++ vR (some o) :: stk := by simp
  rw [e]
  exact V_callV D hC hV hR hB (by simpa using hl) (by omega) ho h1 ok kk
theorem F_callV {M : MI} {a : EA} {i c : Nat} {nest : Bool} {Y : NI} {B : XB} (ha : FA M pc p1 d k1 s1 (n + 1) a) (D : decode M.1 p1 = .ok (.invokevirtual i, 3)) (hC : lkC Y n) (hV : lkV M.2.2.1 i c Y nest) (hR : rmC M Y) (hB : Snd Y B) (hd : d ≤ 8) : FV vI M pc (p1 + 3) d (k1 + Y.2.2.2.2.2.2.1) (s1 + Y.2.2.2.2.2.2.2) (e_callV c B a) := fun X ok K env stk st bc bs hs h kk =>
  G_callV ha D hC hV hR hB hd ok hs h (fun v st2 h2 => by obtain ⟨x, rfl, h2⟩ := h2; rw [if_neg (vI_U x)]; exact kk _ _ h2)
theorem F_rcallV {M : MI} {a : EA} {i c : Nat} {nest : Bool} {Y : NI} {B : XB} (ha : FA M pc p1 d k1 s1 (n + 1) a) (D : decode M.1 p1 = .ok (.invokevirtual i, 3)) (hC : lkC Y n) (hV : lkV M.2.2.1 i c Y nest) (hR : rmC M Y) (hB : Snd Y B) (hd : d ≤ 8) : FV vR M pc (p1 + 3) d (k1 + Y.2.2.2.2.2.2.1) (s1 + Y.2.2.2.2.2.2.2) (r_callV c B a) := fun X ok K env stk st bc bs hs h kk =>
  G_callV ha D hC hV hR hB hd ok hs h (fun v st2 h2 => by obtain ⟨x, rfl, h2⟩ := h2; rw [if_neg (vR_U x)]; exact kk _ _ h2)
theorem F_callS {M : MI} {a : EA} {i : Nat} {nest : Bool} {Y : NI} {B : XB} (ha : FA M pc p1 d k1 s1 n a) (D : decode M.1 p1 = .ok (.invokestatic i, 3)) (hC : lkC Y n) (hV : lkS M.2.2.1 i Y nest) (hR : rmC M Y) (hB : Snd Y B) (hd : d ≤ 8) : FV vI M pc (p1 + 3) d (k1 + Y.2.2.2.2.2.2.1) (s1 + Y.2.2.2.2.2.2.2) (e_callS B a) := fun X ok K env stk st bc bs hs h kk => by
  refine V_mono (by omega) (by omega) (ha X ok _ env stk st (bc + Y.2.2.2.2.2.2.1) (bs + Y.2.2.2.2.2.2.2) hs h (fun l st1 h1 hl => ?_))
  exact V_callS D hC hV hR hB hl (by omega) h1 ok (fun v st2 h2 => by obtain ⟨x, rfl, h2⟩ := h2; rw [if_neg (vI_U x)]; exact kk _ _ h2)
-- new cells
def r_new (c : Nat) (B : XB) (a : EA) : ER := fun env st K => a env (stN st (c + 3, 0)) (fun l st1 => B (vR (some st.1.length) :: l) st1 (fun v st2 => v = vU ∧ K (some st.1.length) st2))
theorem F_new {M : MI} {a : EA} {i j c : Nat} {nest : Bool} {Y : NI} {B : XB} (D1 : decode M.1 pc = .ok (.new i, 3)) (hN : lkN M.2.2.1 i c) (D2 : decode M.1 (pc + 3) = .ok (.dup, 1)) (ha : FA M (pc + 3 + 1) p1 (d + 2) k1 s1 n a) (D : decode M.1 p1 = .ok (.invokespecial j, 3)) (hC : lkC Y n) (hV : lkI M.2.2.1 j Y nest) (hR : rmC M Y) (hB : Snd Y B) (hd : d ≤ 7) : FV vR M pc (p1 + 3) d (k1 + Y.2.2.2.2.2.2.1 + 1) (s1 + Y.2.2.2.2.2.2.2 + fN c) (r_new c B a) := fun X ok K env stk st bc bs hs h kk => by
  refine V_mono (by omega) (by omega) (V_new (bc := bc + (k1 + Y.2.2.2.2.2.2.1)) (bs := bs + (s1 + Y.2.2.2.2.2.2.2)) D1 hN ok (V_dup D2 rfl ok ?_))
  refine V_mono (by omega) (by omega) (ha X ok _ env _ _ (bc + Y.2.2.2.2.2.2.1) (bs + Y.2.2.2.2.2.2.2) (by rw [catS_R, catS_R]; omega) h (fun l st1 h1 hl => ?_))
  exact V_callI D hC hV hR hB hl (by rw [catS_R]; omega) h1 ok (fun v st2 h2 => by obtain ⟨rfl, h2⟩ := h2; rw [if_pos rfl]; exact kk _ _ h2)
def r_newi (N : Nat) : ER := fun _ st K => K (some st.1.length) (stN st (0, N))
def r_newz (N : Nat) : ER := fun _ st K => K (some st.1.length) (stN st (1, N))
def r_newp (N : Nat) : ER := fun _ st K => K (some st.1.length) (stN st (2, N))
theorem F_newi {M : MI} {N : Nat} (hx : FV vI M pc p1 d k1 s1 (e_ci (N : Int))) (D : decode M.1 p1 = .ok (.newarray .int, 2)) (hw : Cond.arrayClass .int ∈ wAll) (hN : N ≤ 100000) : FV vR M pc (p1 + 2) d (k1 + 1) (s1 + N) (r_newi N) := fun X ok K env stk st bc bs hs h kk => by
  refine V_mono (by omega) (by omega) (hx X ok (fun v st' => v = (N : Int) ∧ st' = st) env stk st (bc + 1) (bs + N) hs ⟨rfl, rfl⟩ (fun v st1 h1 => ?_))
  obtain ⟨rfl, rfl⟩ := h1
  exact V_newi D hw rfl hN ok (kk _ _ h)
theorem F_newz {M : MI} {N : Nat} (hx : FV vI M pc p1 d k1 s1 (e_ci (N : Int))) (D : decode M.1 p1 = .ok (.newarray .boolean, 2)) (hw : Cond.arrayClass .boolean ∈ wAll) (hN : N ≤ 100000) : FV vR M pc (p1 + 2) d (k1 + 1) (s1 + N) (r_newz N) := fun X ok K env stk st bc bs hs h kk => by
  refine V_mono (by omega) (by omega) (hx X ok (fun v st' => v = (N : Int) ∧ st' = st) env stk st (bc + 1) (bs + N) hs ⟨rfl, rfl⟩ (fun v st1 h1 => ?_))
  obtain ⟨rfl, rfl⟩ := h1
  exact V_newz D hw rfl hN ok (kk _ _ h)
theorem F_newp {M : MI} {N i : Nat} (hx : FV vI M pc p1 d k1 s1 (e_ci (N : Int))) (D : decode M.1 p1 = .ok (.anewarray i, 3)) (hw : Cond.classLink M.2.2.1 i "RingUntie$Program" ∈ wAll) (hN : N ≤ 100000) : FV vR M pc (p1 + 3) d (k1 + 1) (s1 + N) (r_newp N) := fun X ok K env stk st bc bs hs h kk => by
  refine V_mono (by omega) (by omega) (hx X ok (fun v st' => v = (N : Int) ∧ st' = st) env stk st (bc + 1) (bs + N) hs ⟨rfl, rfl⟩ (fun v st1 h1 => ?_))
  obtain ⟨rfl, rfl⟩ := h1
  exact V_newp D hw rfl hN ok (kk _ _ h)
/-- a place of a row that is being made -/
def r_ini (r : ER) (i : Nat) (v : Int) : ER := fun env st K => r env st (fun x st1 => ∃ a n, x = some a ∧ st1.1[a]? = some (0, n) ∧ i < n ∧ K (some a) (stI st1 a i v))
theorem F_ini {M : MI} {r : ER} {i : Nat} {v : Int} (hr : FV vR M pc p1 d k1 s1 r) (D1 : decode M.1 p1 = .ok (.dup, 1)) (hi : FV vI M (p1 + 1) p2 (d + 2) k2 s2 (e_ci (i : Int))) (hv : FV vI M p2 p3 (d + 3) k3 s3 (e_ci v)) (D : decode M.1 p3 = .ok (.iastore, 1)) : FV vR M pc (p3 + 1) d (k1 + (k2 + k3)) (s1 + (s2 + s3)) (r_ini r i v) := fun X ok K env stk st bc bs hs h kk => by
  refine V_mono (by omega) (by omega) (hr X ok _ env stk st (bc + (k2 + k3)) (bs + (s2 + s3)) hs h (fun x st1 h1 => ?_))
  obtain ⟨a, n, rfl, ha, hin, h1⟩ := h1
  refine V_dup D1 rfl ok ?_
  refine V_mono (by omega) (by omega) (hi X ok (fun z st' => z = (i : Int) ∧ st' = st1) env _ st1 (bc + k3) (bs + s3) (by rw [catS_R, catS_R]; omega) ⟨rfl, rfl⟩ (fun z st2 h2 => ?_))
  obtain ⟨rfl, rfl⟩ := h2
  refine hv X ok (fun z st' => z = v ∧ st' = st2) env _ st2 bc bs (by rw [catS_I, catS_R, catS_R]; omega) ⟨rfl, rfl⟩ (fun z st3 h3 => ?_)
  obtain ⟨rfl, rfl⟩ := h3
  exact V_iast D ha (by omega) (by omega) ok (kk _ _ h1)
end FRA
