/-! statements -/
section FST
variable {d n kc ks k1 k2 k3 s1 s2 s3 pc p1 p2 p3 p4 p5 qc q4 qa bt : Nat}
theorem FS_mono {M : MI} {t : SM} {pc' k k' s s' : Nat} (h : FS M pc pc' qc bt k s t) (h1 : k ≤ k') (h2 : s ≤ s') : FS M pc pc' qc bt k' s' t := fun X ok Kn Kb Kr env st bc bs ht kn kb kr => V_mono (by omega) (by omega) (h X ok Kn Kb Kr env st bc bs ht kn kb kr)
def s_skip : SM := fun Kn _ _ env st => Kn env st
theorem S_skip (M : MI) : FS M pc pc qc bt 0 0 s_skip := fun _ _ _ _ _ _ _ _ _ h kn _ _ => (kn _ _ h).1
def s_seq (a b : SM) : SM := fun Kn Kb Kr env st => a (fun env1 st1 => b Kn Kb Kr env1 st1) Kb Kr env st
theorem S_seq {M : MI} {a b : SM} (ha : FS M pc p1 p1 bt k1 s1 a) (hb : FS M p1 p2 qc bt k2 s2 b) : FS M pc p2 qc bt (k1 + k2) (s1 + s2) (s_seq a b) := fun X ok Kn Kb Kr env st bc bs h kn kb kr => by
  refine V_mono (by omega) (by omega) (ha X ok _ _ _ env st (bc + k2) (bs + s2) h (fun env1 st1 h1 => ?_) (fun env1 st1 h1 => V_mono (by omega) (by omega) (kb _ _ h1)) kr)
  have := hb X ok _ _ _ env1 st1 bc bs h1 kn kb kr
  exact ⟨this, this⟩
def s_st (i : Nat) (x : EI) : SM := fun Kn _ _ env st => x env st (fun v st1 => i < env.length ∧ noL env i = true ∧ Kn (env.set i (vI v)) st1)
def s_stL (i : Nat) (x : EI) : SM := fun Kn _ _ env st => x env st (fun v st1 => i + 1 < env.length ∧ noL env i = true ∧ Kn ((env.set i (vL v)).set (i + 1) vU) st1)
def s_stR (i : Nat) (x : ER) : SM := fun Kn _ _ env st => x env st (fun v st1 => i < env.length ∧ noL env i = true ∧ Kn (env.set i (vR v)) st1)
theorem S_istore {M : MI} {i : Nat} {x : EI} (hx : FV vI M pc p1 0 k1 s1 x) (D : decode M.1 p1 = .ok (.istore i, 2)) : FS M pc (p1 + 2) qc bt k1 s1 (s_st i x) := fun X ok Kn Kb Kr env st bc bs h kn kb kr => hx X ok _ env [] st bc bs (Nat.le_refl 0) h (fun _ _ h1 => V_istore D h1.1 h1.2.1 ok (kn _ _ h1.2.2).1)
theorem S_istore_n {M : MI} {f : Fin 4} {x : EI} (hx : FV vI M pc p1 0 k1 s1 x) (i : Nat) (hf : (f : Nat) = i) (D : decode M.1 p1 = .ok (.istore_n f, 1)) : FS M pc (p1 + 1) qc bt k1 s1 (s_st i x) := fun X ok Kn Kb Kr env st bc bs h kn kb kr => hx X ok _ env [] st bc bs (Nat.le_refl 0) h (fun _ _ h1 => V_istore_n D hf h1.1 h1.2.1 ok (kn _ _ h1.2.2).1)
theorem S_lstore {M : MI} {i : Nat} {x : EI} (hx : FV vL M pc p1 0 k1 s1 x) (D : decode M.1 p1 = .ok (.lstore i, 2)) : FS M pc (p1 + 2) qc bt k1 s1 (s_stL i x) := fun X ok Kn Kb Kr env st bc bs h kn kb kr => hx X ok _ env [] st bc bs (Nat.le_refl 0) h (fun _ _ h1 => V_lstore D h1.1 h1.2.1 ok (kn _ _ h1.2.2).1)
theorem S_lstore_n {M : MI} {f : Fin 4} {x : EI} (hx : FV vL M pc p1 0 k1 s1 x) (i : Nat) (hf : (f : Nat) = i) (D : decode M.1 p1 = .ok (.lstore_n f, 1)) : FS M pc (p1 + 1) qc bt k1 s1 (s_stL i x) := fun X ok Kn Kb Kr env st bc bs h kn kb kr => hx X ok _ env [] st bc bs (Nat.le_refl 0) h (fun _ _ h1 => V_lstore_n D hf h1.1 h1.2.1 ok (kn _ _ h1.2.2).1)
theorem S_astore {M : MI} {i : Nat} {x : ER} (hx : FV vR M pc p1 0 k1 s1 x) (D : decode M.1 p1 = .ok (.astore i, 2)) : FS M pc (p1 + 2) qc bt k1 s1 (s_stR i x) := fun X ok Kn Kb Kr env st bc bs h kn kb kr => hx X ok _ env [] st bc bs (Nat.le_refl 0) h (fun _ _ h1 => V_astore D h1.1 h1.2.1 ok (kn _ _ h1.2.2).1)
theorem S_astore_n {M : MI} {f : Fin 4} {x : ER} (hx : FV vR M pc p1 0 k1 s1 x) (i : Nat) (hf : (f : Nat) = i) (D : decode M.1 p1 = .ok (.astore_n f, 1)) : FS M pc (p1 + 1) qc bt k1 s1 (s_stR i x) := fun X ok Kn Kb Kr env st bc bs h kn kb kr => hx X ok _ env [] st bc bs (Nat.le_refl 0) h (fun _ _ h1 => V_astore_n D hf h1.1 h1.2.1 ok (kn _ _ h1.2.2).1)
def s_inc (i : Nat) (n : Int) : SM := fun Kn _ _ env st => ∃ x, env[i]? = some (vI x) ∧ noL env i = true ∧ Kn (env.set i (vI (o2 f_iadd x n))) st
theorem S_inc (M : MI) {i : Nat} {n : Int} (D : decode M.1 pc = .ok (.iinc i n, 3)) : FS M pc (pc + 3) qc bt 0 0 (s_inc i n) := fun X ok Kn Kb Kr env st bc bs h kn kb kr => by
  obtain ⟨x, he, hn, h⟩ := h
  exact V_iinc D he hn ok (kn _ _ h).1
-- fields
def s_put (o : ER) (c k : Nat) (x : EI) : SM := fun Kn _ _ env st => o env st (fun r st1 => x env st1 (fun v st2 => ∃ a, r = some a ∧ st2.1[a]? = some (c + 3, 0) ∧ Kn env (stI st2 a k v)))
def s_putZ (o : ER) (c k : Nat) (x : EI) : SM := fun Kn _ _ env st => o env st (fun r st1 => x env st1 (fun v st2 => ∃ a, r = some a ∧ st2.1[a]? = some (c + 3, 0) ∧ (v = 0 ∨ v = 1) ∧ Kn env (stI st2 a k v)))
def s_putR (o : ER) (c k : Nat) (x : ER) : SM := fun Kn _ _ env st => o env st (fun r st1 => x env st1 (fun v st2 => ∃ a, r = some a ∧ st2.1[a]? = some (c + 3, 0) ∧ Kn env (stR st2 a k v)))
theorem S_put {M : MI} {o : ER} {x : EI} {i c k : Nat} {fin : Bool} (ho : FV vR M pc p1 0 k1 s1 o) (hx : FV vI M p1 p2 1 k2 s2 x) (D : decode M.1 p2 = .ok (.putfield i, 3)) (hl : lkF M.2.2.1 i c k) (hp : lkP M.2.2.1 c k .int fin) (hM : fin = true → M.2.2.2.1 = "<init>") (hf : fR c k = false) : FS M pc (p2 + 3) qc bt (k1 + k2) (s1 + s2) (s_put o c k x) := fun X ok Kn Kb Kr env st bc bs h kn kb kr => by
  refine V_mono (by omega) (by omega) (ho X ok _ env [] st (bc + k2) (bs + s2) (Nat.le_refl 0) h (fun r st1 h1 => ?_))
  refine hx X ok _ env _ st1 bc bs (by rw [catS_R]; exact Nat.le_refl 1) h1 (fun v st2 h2 => ?_)
  obtain ⟨a, rfl, ha, h2⟩ := h2
  exact V_putI D hl hp hM hf ha ok (kn _ _ h2).1
theorem S_putZ {M : MI} {o : ER} {x : EI} {i c k : Nat} {fin : Bool} (ho : FV vR M pc p1 0 k1 s1 o) (hx : FV vI M p1 p2 1 k2 s2 x) (D : decode M.1 p2 = .ok (.putfield i, 3)) (hl : lkF M.2.2.1 i c k) (hp : lkP M.2.2.1 c k .boolean fin) (hM : fin = true → M.2.2.2.1 = "<init>") (hf : fR c k = false) : FS M pc (p2 + 3) qc bt (k1 + k2) (s1 + s2) (s_putZ o c k x) := fun X ok Kn Kb Kr env st bc bs h kn kb kr => by
  refine V_mono (by omega) (by omega) (ho X ok _ env [] st (bc + k2) (bs + s2) (Nat.le_refl 0) h (fun r st1 h1 => ?_))
  refine hx X ok _ env _ st1 bc bs (by rw [catS_R]; exact Nat.le_refl 1) h1 (fun v st2 h2 => ?_)
  obtain ⟨a, rfl, ha, h01, h2⟩ := h2
  exact V_putZ D hl hp hM hf h01 ha ok (kn _ _ h2).1
theorem S_putR {M : MI} {o x : ER} {i c k : Nat} {fin : Bool} {ty : FieldType} (ho : FV vR M pc p1 0 k1 s1 o) (hx : FV vR M p1 p2 1 k2 s2 x) (D : decode M.1 p2 = .ok (.putfield i, 3)) (hl : lkF M.2.2.1 i c k) (hp : lkP M.2.2.1 c k ty fin) (hM : fin = true → M.2.2.2.1 = "<init>") (hf : fR c k = true) (hty : isRefTy ty = true) : FS M pc (p2 + 3) qc bt (k1 + k2) (s1 + s2) (s_putR o c k x) := fun X ok Kn Kb Kr env st bc bs h kn kb kr => by
  refine V_mono (by omega) (by omega) (ho X ok _ env [] st (bc + k2) (bs + s2) (Nat.le_refl 0) h (fun r st1 h1 => ?_))
  refine hx X ok _ env _ st1 bc bs (by rw [catS_R]; exact Nat.le_refl 1) h1 (fun v st2 h2 => ?_)
  obtain ⟨a, rfl, ha, h2⟩ := h2
  exact V_putR D hl hp hM hf hty ha ok (kn _ _ h2).1
/-- f op= x -/
def s_putop (f : Int32 → Int32 → Int32) (o : ER) (c k : Nat) (x : EI) : SM := fun Kn _ _ env st => o env st (fun r st1 => ∃ a, r = some a ∧ st1.1[a]? = some (c + 3, 0) ∧ x env st1 (fun v st2 => st2.1[a]? = some (c + 3, 0) ∧ Kn env (stI st2 a k (o2 f (st1.2.1 a k) v))))
-- rows
def s_ast (o : ER) (i x : EI) : SM := fun Kn _ _ env st => o env st (fun r st1 => i env st1 (fun j st2 => x env st2 (fun v st3 => ∃ a n, r = some a ∧ st3.1[a]? = some (0, n) ∧ 0 ≤ j ∧ j < (n : Int) ∧ Kn env (stI st3 a j.toNat v))))
def s_zast (o : ER) (i x : EI) : SM := fun Kn _ _ env st => o env st (fun r st1 => i env st1 (fun j st2 => x env st2 (fun v st3 => ∃ a n, r = some a ∧ st3.1[a]? = some (1, n) ∧ 0 ≤ j ∧ j < (n : Int) ∧ (v = 0 ∨ v = 1) ∧ Kn env (stI st3 a j.toNat v))))
def s_rast (o : ER) (i : EI) (x : ER) : SM := fun Kn _ _ env st => o env st (fun r st1 => i env st1 (fun j st2 => x env st2 (fun v st3 => ∃ a n, r = some a ∧ st3.1[a]? = some (2, n) ∧ 0 ≤ j ∧ j < (n : Int) ∧ (∀ b, v = some b → st3.1[b]? = some (6, 0)) ∧ Kn env (stR st3 a j.toNat v))))
theorem S_ast {M : MI} {o : ER} {i x : EI} (ho : FV vR M pc p1 0 k1 s1 o) (hi : FV vI M p1 p2 1 k2 s2 i) (hx : FV vI M p2 p3 2 k3 s3 x) (D : decode M.1 p3 = .ok (.iastore, 1)) : FS M pc (p3 + 1) qc bt (k1 + (k2 + k3)) (s1 + (s2 + s3)) (s_ast o i x) := fun X ok Kn Kb Kr env st bc bs h kn kb kr => by
  refine V_mono (by omega) (by omega) (ho X ok _ env [] st (bc + (k2 + k3)) (bs + (s2 + s3)) (Nat.le_refl 0) h (fun r st1 h1 => ?_))
  refine V_mono (by omega) (by omega) (hi X ok _ env _ st1 (bc + k3) (bs + s3) (by rw [catS_R]; exact Nat.le_refl 1) h1 (fun j st2 h2 => ?_))
  refine hx X ok _ env _ st2 bc bs (by rw [catS_I, catS_R]; exact Nat.le_refl 2) h2 (fun v st3 h3 => ?_)
  obtain ⟨a, n, rfl, ha, h0, hn, h3⟩ := h3
  exact V_iast D ha h0 hn ok (kn _ _ h3).1
theorem S_zast {M : MI} {o : ER} {i x : EI} (ho : FV vR M pc p1 0 k1 s1 o) (hi : FV vI M p1 p2 1 k2 s2 i) (hx : FV vI M p2 p3 2 k3 s3 x) (D : decode M.1 p3 = .ok (.bastore, 1)) : FS M pc (p3 + 1) qc bt (k1 + (k2 + k3)) (s1 + (s2 + s3)) (s_zast o i x) := fun X ok Kn Kb Kr env st bc bs h kn kb kr => by
  refine V_mono (by omega) (by omega) (ho X ok _ env [] st (bc + (k2 + k3)) (bs + (s2 + s3)) (Nat.le_refl 0) h (fun r st1 h1 => ?_))
  refine V_mono (by omega) (by omega) (hi X ok _ env _ st1 (bc + k3) (bs + s3) (by rw [catS_R]; exact Nat.le_refl 1) h1 (fun j st2 h2 => ?_))
  refine hx X ok _ env _ st2 bc bs (by rw [catS_I, catS_R]; exact Nat.le_refl 2) h2 (fun v st3 h3 => ?_)
  obtain ⟨a, n, rfl, ha, h0, hn, h01, h3⟩ := h3
  exact V_zast D ha h0 hn h01 ok (kn _ _ h3).1
theorem S_rast {M : MI} {o x : ER} {i : EI} (ho : FV vR M pc p1 0 k1 s1 o) (hi : FV vI M p1 p2 1 k2 s2 i) (hx : FV vR M p2 p3 2 k3 s3 x) (D : decode M.1 p3 = .ok (.aastore, 1)) : FS M pc (p3 + 1) qc bt (k1 + (k2 + k3)) (s1 + (s2 + s3)) (s_rast o i x) := fun X ok Kn Kb Kr env st bc bs h kn kb kr => by
  refine V_mono (by omega) (by omega) (ho X ok _ env [] st (bc + (k2 + k3)) (bs + (s2 + s3)) (Nat.le_refl 0) h (fun r st1 h1 => ?_))
  refine V_mono (by omega) (by omega) (hi X ok _ env _ st1 (bc + k3) (bs + s3) (by rw [catS_R]; exact Nat.le_refl 1) h1 (fun j st2 h2 => ?_))
  refine hx X ok _ env _ st2 bc bs (by rw [catS_I, catS_R]; exact Nat.le_refl 2) h2 (fun v st3 h3 => ?_)
  obtain ⟨a, n, rfl, ha, h0, hn, h01, h3⟩ := h3
  exact V_aast D ha h0 hn h01 ok (kn _ _ h3).1
def s_astop (f : Int32 → Int32 → Int32) (o : ER) (i x : EI) : SM := fun Kn _ _ env st => o env st (fun r st1 => i env st1 (fun j st2 => ∃ a n, r = some a ∧ st2.1[a]? = some (0, n) ∧ 0 ≤ j ∧ j < (n : Int) ∧ x env st2 (fun v st3 => st3.1[a]? = some (0, n) ∧ Kn env (stI st3 a j.toNat (o2 f (st2.2.1 a j.toNat) v)))))
/-- the rows of the ops that a compound assignment uses -/
def isOp (f : Int32 → Int32 → Int32) (op : Instr) : Prop := ∀ {X : CX} {M : MI} {pc : Nat} {env : XE} {stk : List AV} {st : XS} {bc bs : Nat} {x y : Int}, decode M.1 pc = .ok (op, 1) → OK X M → V X (pc + 1) env (vI (o2 f x y) :: stk) st bc bs → V X pc env (vI y :: vI x :: stk) st bc bs
theorem op_iadd : isOp f_iadd .iadd := fun D ok k => V_iadd D ok k
theorem op_isub : isOp f_isub .isub := fun D ok k => V_isub D ok k
theorem op_ior : isOp f_ior .ior := fun D ok k => V_ior D ok k
theorem S_putop {M : MI} {f : Int32 → Int32 → Int32} {op : Instr} {o : ER} {x : EI} {i c k : Nat} (hop : isOp f op) (ho : FV vR M pc p1 0 k1 s1 o) (D1 : decode M.1 p1 = .ok (.dup, 1)) (D2 : decode M.1 (p1 + 1) = .ok (.getfield i, 3)) (hx : FV vI M (p1 + 1 + 3) p2 2 k2 s2 x) (D3 : decode M.1 p2 = .ok (op, 1)) (D4 : decode M.1 (p2 + 1) = .ok (.putfield i, 3)) (hl : lkF M.2.2.1 i c k) (hp : lkP M.2.2.1 c k .int false) (hf : fR c k = false) : FS M pc (p2 + 1 + 3) qc bt (k1 + k2) (s1 + s2) (s_putop f o c k x) := fun X ok Kn Kb Kr env st bc bs h kn kb kr => by
  refine V_mono (by omega) (by omega) (ho X ok _ env [] st (bc + k2) (bs + s2) (Nat.le_refl 0) h (fun r st1 h1 => ?_))
  obtain ⟨a, rfl, ha, h1⟩ := h1
  refine V_dup D1 rfl ok (V_getI D2 hl hf ha ok ?_)
  refine hx X ok _ env _ st1 bc bs (by rw [catS_I, catS_R]; exact Nat.le_refl 2) h1 (fun v st2 h2 => ?_)
  exact hop D3 ok (V_putI D4 hl hp (fun h => by cases h) hf h2.1 ok (kn _ _ h2.2).1)
theorem S_astop {M : MI} {f : Int32 → Int32 → Int32} {op : Instr} {o : ER} {i x : EI} (hop : isOp f op) (ho : FV vR M pc p1 0 k1 s1 o) (hi : FV vI M p1 p2 1 k2 s2 i) (D1 : decode M.1 p2 = .ok (.dup2, 1)) (D2 : decode M.1 (p2 + 1) = .ok (.iaload, 1)) (hx : FV vI M (p2 + 1 + 1) p3 3 k3 s3 x) (D3 : decode M.1 p3 = .ok (op, 1)) (D4 : decode M.1 (p3 + 1) = .ok (.iastore, 1)) : FS M pc (p3 + 1 + 1) qc bt (k1 + (k2 + k3)) (s1 + (s2 + s3)) (s_astop f o i x) := fun X ok Kn Kb Kr env st bc bs h kn kb kr => by
  refine V_mono (by omega) (by omega) (ho X ok _ env [] st (bc + (k2 + k3)) (bs + (s2 + s3)) (Nat.le_refl 0) h (fun r st1 h1 => ?_))
  refine V_mono (by omega) (by omega) (hi X ok _ env _ st1 (bc + k3) (bs + s3) (by rw [catS_R]; exact Nat.le_refl 1) h1 (fun j st2 h2 => ?_))
  obtain ⟨a, n, rfl, ha, h0, hn, h2⟩ := h2
  refine V_dup2 D1 rfl rfl ok (V_iald D2 ha h0 hn ok ?_)
  refine hx X ok _ env _ st2 bc bs (by rw [catS_I, catS_I, catS_R]; exact Nat.le_refl 3) h2 (fun v st3 h3 => ?_)
  exact hop D3 ok (V_iast D4 h3.1 h0 hn ok (kn _ _ h3.2).1)
def s_copy (o : ER) (i : EI) (o2 : ER) (i2 x : EI) : SM := fun Kn _ _ env st => o env st (fun r0 st1 => i env st1 (fun sp st2 => o2 env st2 (fun r1 st3 => i2 env st3 (fun dp st4 => x env st4 (fun n st5 => ∃ a0 a n0 n1, r0 = some a0 ∧ r1 = some a ∧ st5.1[a0]? = some (0, n0) ∧ st5.1[a]? = some (0, n1) ∧ 0 ≤ sp ∧ 0 ≤ dp ∧ 0 ≤ n ∧ sp + n ≤ (n0 : Int) ∧ dp + n ≤ (n1 : Int) ∧ Kn env (stC st5 a0 a sp.toNat dp.toNat n.toNat))))))
theorem S_copy {M : MI} {o o2 : ER} {i i2 x : EI} {ix k4 k5 s4 s5 : Nat} (h1 : FV vR M pc p1 0 k1 s1 o) (h2 : FV vI M p1 p2 1 k2 s2 i) (h3 : FV vR M p2 p3 2 k3 s3 o2) (h4 : FV vI M p3 p4 3 k4 s4 i2) (h5 : FV vI M p4 p5 4 k5 s5 x) (D : decode M.1 p5 = .ok (.invokestatic ix, 3)) (hlk : Cond.methodLink M.2.2.1 ix arraycopyName ∈ wAll) (hnat : Cond.native arraycopyName ∈ wAll) (hstat : Cond.static arraycopyName ∈ wAll) (hini : Cond.initialized "java/lang/System" ∈ wAll) (hfr1 : 1 ≤ M.2.2.2.2.1) (hlo1 : nativeFrameWords "java/lang/System" "arraycopy" 5 + 11 ≤ M.2.2.2.2.2.1) : FS M pc (p5 + 3) qc bt (k1 + (k2 + (k3 + (k4 + k5)))) (s1 + (s2 + (s3 + (s4 + s5)))) (s_copy o i o2 i2 x) := fun X ok Kn Kb Kr env st bc bs h kn kb kr => by
  refine V_mono (by omega) (by omega) (h1 X ok _ env [] st (bc + (k2 + (k3 + (k4 + k5)))) (bs + (s2 + (s3 + (s4 + s5)))) (Nat.le_refl 0) h (fun r0 st1 g1 => ?_))
  refine V_mono (by omega) (by omega) (h2 X ok _ env _ st1 (bc + (k3 + (k4 + k5))) (bs + (s3 + (s4 + s5))) (by rw [catS_R]; exact Nat.le_refl 1) g1 (fun sp st2 g2 => ?_))
  refine V_mono (by omega) (by omega) (h3 X ok _ env _ st2 (bc + (k4 + k5)) (bs + (s4 + s5)) (by rw [catS_I, catS_R]; exact Nat.le_refl 2) g2 (fun r1 st3 g3 => ?_))
  refine V_mono (by omega) (by omega) (h4 X ok _ env _ st3 (bc + k5) (bs + s5) (by rw [catS_R, catS_I, catS_R]; exact Nat.le_refl 3) g3 (fun dp st4 g4 => ?_))
  refine h5 X ok _ env _ st4 bc bs (by rw [catS_I, catS_R, catS_I, catS_R]; exact Nat.le_refl 4) g4 (fun nn st5 g5 => ?_)
  obtain ⟨a0, a, n0, n1, rfl, rfl, ha0, ha, e1, e2, e3, e4, e5, g5⟩ := g5
  exact V_copy D hlk hnat hstat hini hfr1 (by simpa [catS] using hlo1) ha0 ha e1 e2 e3 e4 e5 ok (kn _ _ g5).1
-- calls
def s_callV (c : Nat) (B : XB) (a : EA) : SM := fun Kn _ _ env st => g_callV c B a (fun v st2 => v = vU ∧ Kn env st2) env st
theorem S_callV {M : MI} {a : EA} {i c : Nat} {nest : Bool} {Y : NI} {B : XB} (ha : FA M pc p1 0 k1 s1 (n + 1) a) (D : decode M.1 p1 = .ok (.invokevirtual i, 3)) (hC : lkC Y n) (hV : lkV M.2.2.1 i c Y nest) (hR : rmC M Y) (hB : Snd Y B) : FS M pc (p1 + 3) qc bt (k1 + Y.2.2.2.2.2.2.1) (s1 + Y.2.2.2.2.2.2.2) (s_callV c B a) := fun X ok Kn Kb Kr env st bc bs h kn kb kr =>
  G_callV ha D hC hV hR hB (Nat.zero_le 8) ok (stk := []) (Nat.le_refl 0) h (fun v st2 h2 => by obtain ⟨rfl, h2⟩ := h2; rw [if_pos rfl]; exact (kn _ _ h2).1)
def s_popV (c : Nat) (B : XB) (a : EA) : SM := fun Kn _ _ env st => g_callV c B a (fun v st2 => (∃ x, v = vI x) ∧ Kn env st2) env st
theorem S_popV {M : MI} {a : EA} {i c : Nat} {nest : Bool} {Y : NI} {B : XB} (ha : FA M pc p1 0 k1 s1 (n + 1) a) (D : decode M.1 p1 = .ok (.invokevirtual i, 3)) (hC : lkC Y n) (hV : lkV M.2.2.1 i c Y nest) (hR : rmC M Y) (hB : Snd Y B) (D2 : decode M.1 (p1 + 3) = .ok (.pop, 1)) : FS M pc (p1 + 3 + 1) qc bt (k1 + Y.2.2.2.2.2.2.1) (s1 + Y.2.2.2.2.2.2.2) (s_popV c B a) := fun X ok Kn Kb Kr env st bc bs h kn kb kr =>
  G_callV ha D hC hV hR hB (Nat.zero_le 8) ok (stk := []) (Nat.le_refl 0) h (fun v st2 h2 => by obtain ⟨⟨x, rfl⟩, h2⟩ := h2; rw [if_neg (vI_U x)]; exact V_pop D2 rfl ok (kn _ _ h2).1)
/-- the object's own constructor -/
def s_obj (o : ER) : SM := fun Kn _ _ env st => o env st (fun r st1 => (∃ a, r = some a) ∧ Kn env st1)
theorem S_obj {M : MI} {o : ER} {ix : Nat} (ho : FV vR M pc p1 0 k1 s1 o) (D : decode M.1 p1 = .ok (.invokespecial ix, 3)) (h1 : Cond.methodLink M.2.2.1 ix Lib.objectInit ∈ wAll) (h2 : Cond.instanceMethod Lib.objectInit ∈ wAll) (h3 : Cond.code Lib.objectInit ⟨#[0xb1]⟩ 1 none ∈ wAll) (hfr1 : 1 ≤ M.2.2.2.2.1) (hlo1 : 12 ≤ M.2.2.2.2.2.1) : FS M pc (p1 + 3) qc bt k1 s1 (s_obj o) := fun X ok Kn Kb Kr env st bc bs h kn kb kr => by
  refine ho X ok _ env [] st bc bs (Nat.le_refl 0) h (fun r st1 g1 => ?_)
  obtain ⟨⟨a, rfl⟩, g1⟩ := g1
  exact V_objInit D h1 h2 h3 hfr1 (by simpa [catS] using hlo1) ok (kn _ _ g1).1
-- control
def s_if (c : EC) (a : SM) : SM := fun Kn Kb Kr env st => c env st (fun b st1 => if b = true then a Kn Kb Kr env st1 else Kn env st1)
theorem S_if {M : MI} {c : EC} {a : SM} (hc : FC M pc p1 qc false 0 k1 s1 c) (ha : FS M p1 p2 qc bt k2 s2 a) : FS M pc p2 qc bt (k1 + k2) (s1 + s2) (s_if c a) := fun X ok Kn Kb Kr env st bc bs h kn kb kr => by
  refine V_mono (by omega) (by omega) (hc X ok _ env [] st (bc + k2) (bs + s2) (Nat.le_refl 0) h (fun b st1 h1 => ?_))
  cases b with
  | true => exact ha X ok _ _ _ env st1 bc bs h1 kn kb kr
  | false => exact V_mono (by omega) (by omega) (kn _ _ h1).2
def s_ite (c : EC) (a b : SM) : SM := fun Kn Kb Kr env st => c env st (fun q st1 => if q = true then a Kn Kb Kr env st1 else b Kn Kb Kr env st1)
theorem S_ite {M : MI} {c : EC} {a b : SM} {off : Int} (hc : FC M pc p1 (p2 + 3) false 0 k1 s1 c) (ha : FS M p1 p2 qc bt k2 s2 a) (D : decode M.1 p2 = .ok (.goto off, 3)) (ht : (p2 : Int) + off = (qc : Int)) (hb : FS M (p2 + 3) p3 qc bt k3 s3 b) : FS M pc p3 qc bt (k1 + (k2 + k3)) (s1 + (s2 + s3)) (s_ite c a b) := fun X ok Kn Kb Kr env st bc bs h kn kb kr => by
  refine V_mono (by omega) (by omega) (hc X ok _ env [] st (bc + (k2 + k3)) (bs + (s2 + s3)) (Nat.le_refl 0) h (fun q st1 h1 => ?_))
  cases q with
  | true => exact V_mono (by omega) (by omega) (ha X ok _ _ _ env st1 bc bs h1 (fun env st h => ⟨V_goto D ht ok (kn _ _ h).2, (kn _ _ h).2⟩) kb kr)
  | false => exact V_mono (by omega) (by omega) (hb X ok _ _ _ env st1 bc bs h1 kn kb kr)
/-- the first way ends elsewhere -/
def s_itr (c : EC) (a b : SM) : SM := fun Kn Kb Kr env st => c env st (fun q st1 => if q = true then a (fun _ _ => False) Kb Kr env st1 else b Kn Kb Kr env st1)
theorem S_itr {M : MI} {c : EC} {a b : SM} (hc : FC M pc p1 p2 false 0 k1 s1 c) (ha : FS M p1 p4 q4 bt k2 s2 a) (hb : FS M p2 p3 qc bt k3 s3 b) : FS M pc p3 qc bt (k1 + (k2 + k3)) (s1 + (s2 + s3)) (s_itr c a b) := fun X ok Kn Kb Kr env st bc bs h kn kb kr => by
  refine V_mono (by omega) (by omega) (hc X ok _ env [] st (bc + (k2 + k3)) (bs + (s2 + s3)) (Nat.le_refl 0) h (fun q st1 h1 => ?_))
  cases q with
  | true => exact V_mono (by omega) (by omega) (ha X ok _ _ _ env st1 bc bs h1 (fun _ _ h => h.elim) kb kr)
  | false => exact V_mono (by omega) (by omega) (hb X ok _ _ _ env st1 bc bs h1 kn kb kr)
/-- a loop, by a picture of its head and a number that falls -/
def s_while (c : EC) (a : SM) : SM := fun Kn _ Kr env st => ∃ (I : Nat → XE → XS → Prop) (k : Nat), I k env st ∧ ∀ k env st, I k env st → c env st (fun b st1 => if b = true then a (fun env2 st2 => ∃ j, j < k ∧ I j env2 st2) Kn Kr env st1 else Kn env st1)
theorem S_while {M : MI} {c : EC} {a : SM} {off : Int} (hc : FC M pc p1 qc false 0 0 0 c) (ha : FS M p1 p2 qa qc 0 0 a) (D : decode M.1 p2 = .ok (.goto off, 3)) (ht : (p2 : Int) + off = (pc : Int)) (hqa : qa = p2 ∨ qa = pc) : FS M pc (p2 + 3) qc bt 0 0 (s_while c a) := fun X ok Kn Kb Kr env st bc bs h kn kb kr => by
  obtain ⟨I, k, h0, hI⟩ := h
  have key : ∀ (k : Nat) (env : XE) (st : XS), I k env st → V X pc env [] st bc bs := by
    intro k
    induction k using Nat.strongRecOn with
    | ind k ih =>
      intro env st hk
      refine hc X ok _ env [] st bc bs (Nat.le_refl 0) (hI k env st hk) (fun b st1 h1 => ?_)
      cases b with
      | true => exact ha X ok _ _ _ env st1 bc bs h1 (fun env2 st2 h2 => by
          obtain ⟨j, hj, h2⟩ := h2
          have hv := ih j hj env2 st2 h2
          have hg : V X p2 env2 [] st2 bc bs := V_goto D ht ok hv
          refine ⟨hg, ?_⟩
          rcases hqa with rfl | rfl
          · exact hg
          · exact hv) (fun _ _ h => (kn _ _ h).2) kr
      | false => exact (kn _ _ h1).2
  exact key k env st h0
def s_brk : SM := fun _ Kb _ env st => Kb env st
theorem S_brk (M : MI) {off : Int} (D : decode M.1 pc = .ok (.goto off, 3)) (ht : (pc : Int) + off = (bt : Int)) : FS M pc (pc + 3) qc bt 0 0 s_brk := fun X ok Kn Kb Kr env st bc bs h kn kb kr => V_goto D ht ok (kb _ _ h)
theorem S_brk0 (M : MI) : FS M bt bt qc bt 0 0 s_brk := fun X ok Kn Kb Kr env st bc bs h kn kb kr => kb _ _ h
def s_retI (x : EI) : SM := fun _ _ Kr env st => x env st (fun v st1 => Kr (vI v) st1)
def s_retR (x : ER) : SM := fun _ _ Kr env st => x env st (fun v st1 => Kr (vR v) st1)
def s_ret : SM := fun _ _ Kr _ st => Kr vU st
theorem S_retI {M : MI} {x : EI} (hx : FV vI M pc p1 0 k1 s1 x) (D : decode M.1 p1 = .ok (.ireturn, 1)) : FS M pc (p1 + 1) qc bt k1 s1 (s_retI x) := fun X ok Kn Kb Kr env st bc bs h kn kb kr => hx X ok _ env [] st bc bs (Nat.le_refl 0) h (fun v st1 h1 => by
  have := kr _ _ h1 p1 env bc bs D
  rw [if_neg (vI_U v)] at this
  exact this)
theorem S_retR {M : MI} {x : ER} (hx : FV vR M pc p1 0 k1 s1 x) (D : decode M.1 p1 = .ok (.areturn, 1)) : FS M pc (p1 + 1) qc bt k1 s1 (s_retR x) := fun X ok Kn Kb Kr env st bc bs h kn kb kr => hx X ok _ env [] st bc bs (Nat.le_refl 0) h (fun v st1 h1 => by
  have := kr _ _ h1 p1 env bc bs D
  rw [if_neg (vR_U v)] at this
  exact this)
theorem S_ret (M : MI) (D : decode M.1 pc = .ok (.return_, 1)) : FS M pc (pc + 1) qc bt 0 0 s_ret := fun X ok Kn Kb Kr env st bc bs h kn kb kr => by
  have := kr _ _ h pc env bc bs D
  rw [if_pos rfl] at this
  exact this
/-- a switch: a way for each number; no way falls into the next; a break leaves the switch -/
def s_sw (x : EI) (w : Int → SM) : SM := fun Kn _ Kr env st => x env st (fun v st1 => w v (fun _ _ => False) Kn Kr env st1)
theorem S_table {M : MI} {x : EI} {w : Int → SM} {dflt lo hi : Int} {offs : Array Int} {len : Nat} (hx : FV vI M pc p1 0 k1 s1 x) (D : decode M.1 p1 = .ok (.tableswitch dflt lo hi offs, len)) (hlen : (offs.size : Int) = hi - lo + 1) (hw : ∀ v : Int, ∃ tgt p9 q9 : Nat, tsT p1 dflt lo hi offs v = (tgt : Int) ∧ FS M tgt p9 q9 qc k2 s2 (w v)) : FS M pc p2 qc bt (k1 + k2) (s1 + s2) (s_sw x w) := fun X ok Kn Kb Kr env st bc bs h kn kb kr => by
  refine V_mono (by omega) (by omega) (hx X ok _ env [] st (bc + k2) (bs + s2) (Nat.le_refl 0) h (fun v st1 h1 => ?_))
  obtain ⟨tgt, p9, q9, ht, hF⟩ := hw v
  exact V_table D hlen ht ok (hF X ok _ _ _ env st1 bc bs h1 (fun _ _ h => h.elim) (fun _ _ h => (kn _ _ h).2) kr)
theorem S_lookup {M : MI} {x : EI} {w : Int → SM} {dflt : Int} {ps : Array (Int × Int)} {len : Nat} (hx : FV vI M pc p1 0 k1 s1 x) (D : decode M.1 p1 = .ok (.lookupswitch dflt ps, len)) (hp : (ps.toList.zip (ps.toList.drop 1)).all (fun (a, next) => a.1 < next.1) = true) (hw : ∀ v : Int, ∃ tgt p9 q9 : Nat, (p1 : Int) + Op.lookupswitch.offset ps.toList dflt v = (tgt : Int) ∧ FS M tgt p9 q9 qc k2 s2 (w v)) : FS M pc p2 qc bt (k1 + k2) (s1 + s2) (s_sw x w) := fun X ok Kn Kb Kr env st bc bs h kn kb kr => by
  refine V_mono (by omega) (by omega) (hx X ok _ env [] st (bc + k2) (bs + s2) (Nat.le_refl 0) h (fun v st1 h1 => ?_))
  obtain ⟨tgt, p9, q9, ht, hF⟩ := hw v
  exact V_lookup D hp ht ok (hF X ok _ _ _ env st1 bc bs h1 (fun _ _ h => h.elim) (fun _ _ h => (kn _ _ h).2) kr)
end FST
