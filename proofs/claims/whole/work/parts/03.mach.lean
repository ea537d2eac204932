/-! THE PLAIN MACHINE: values, states, and the judgement V: the kit's W over a plain state -/
/-- int, long, reference (none: null), nothing known -/
abbrev AV : Type := Int ⊕ (Int ⊕ (Option Nat ⊕ Option Nat))
abbrev vI (x : Int) : AV := Sum.inl x
abbrev vL (x : Int) : AV := Sum.inr (Sum.inl x)
abbrev vR (r : Option Nat) : AV := Sum.inr (Sum.inr (Sum.inl r))
abbrev vU : AV := Sum.inr (Sum.inr (Sum.inr none))
/-- a reference below the floor -/
abbrev vX (b : Nat) : AV := Sum.inr (Sum.inr (Sum.inr (some b)))
abbrev XE : Type := List AV
/-- the kinds of the cells (0 int row, 1 boolean row, 2 row of programs, 3 + c an object of kind c; its length), the ints, the references -/
abbrev XS : Type := List (Nat × Nat) × ((Nat → Nat → Int) × (Nat → Nat → Option Nat))
def inR (x : Int) : Prop := -2147483648 ≤ x ∧ x < 2147483648
def inRL (x : Int) : Prop := -9223372036854775808 ≤ x ∧ x < 9223372036854775808
def okV (n : Nat) (v : AV) : Prop := match v with
  | .inl x => inR x
  | .inr (.inl x) => inRL x
  | .inr (.inr (.inl (some b))) => b < n
  | _ => True
def rfA (ads : List Nat) (r : Option Nat) : Option Nat := r.map (fun a => ads.getD a 0)
def cv (ads : List Nat) (v : AV) : Value := match v with
  | .inl x => .int (Int32.ofInt x)
  | .inr (.inl x) => .long (Int64.ofInt x)
  | .inr (.inr (.inl r)) => va_rf (rfA ads r)
  | .inr (.inr (.inr none)) => .null
  | .inr (.inr (.inr (some b))) => .ref b
def catV (v : AV) : Nat := match v with
  | .inr (.inl _) => 2
  | _ => 1
def catS (l : List AV) : Nat := (l.map catV).sum
theorem cv_cat (ads : List Nat) (v : AV) : (cv ads v).category = catV v := by
  rcases v with x | x | r | u
  · rfl
  · rfl
  · cases r <;> rfl
  · cases u <;> rfl
theorem cv_catS (ads : List Nat) (l : List AV) : ((l.map (cv ads)).map fun v => v.category).sum = catS l := by
  simp [catS, List.map_map, Function.comp_def, cv_cat]
/-- which field of which kind is a reference -/
def fNs : List (List Bool) := [[true, true], [false, true, true, true, true, true, true], [true, false, false], [false, true, true, true, true, true, true, true, true], [true, false, false, false], [true, false, false, false, true, true], [true, true, true, true], [false, true, true, true, true, true, false], [true, true, true, true, true, true, true, true, true, true, false, false, false, false], [true, true, true, true, true, true, true, true, true, true, true, true, true, true, false, true, false, true, false, false, false, false, false, false, false, true, true, true, true, true, true, false, false, false, false, true, true, true, true, false, true, true, true, true, true, true, true, true, false]]
def fN (c : Nat) : Nat := (fNs.getD c []).length
def fR (c k : Nat) : Bool := (fNs.getD c []).getD k false
def fval (ads : List Nat) (st : XS) (a c k : Nat) : Value := if fR c k = true then va_rf (rfA ads (st.2.2 a k)) else .int (Int32.ofInt (st.2.1 a k))
def xcell (ads : List Nat) (cI cZ cP : ClassId) (st : XS) (a : Nat) (k : Nat × Nat) : va_E := match k.1 with
  | 0 => .inl (cI, k.2, .inl (fun j => Int32.ofInt (st.2.1 a j)))
  | 1 => .inl (cZ, k.2, .inl (fun j => Int32.ofInt (st.2.1 a j)))
  | 2 => .inl (cP, k.2, .inr (.inr (.inr (.inr (fun j => rfA ads (st.2.2 a j))))))
  | c + 3 => .inr (c, (List.range (fN c)).map (fval ads st a c))
def xw (ads : List Nat) (cI cZ cP : ClassId) (st : XS) : va_W := st.1.mapIdx (fun a k => (ads.getD a 0, xcell ads cI cZ cP st a k))
def okS (st : XS) : Prop := (∀ a k, inR (st.2.1 a k)) ∧ ∀ a k b, st.2.2 a k = some b → b < st.1.length
theorem xw_get {ads : List Nat} {cI cZ cP : ClassId} {st : XS} {a : Nat} {k : Nat × Nat} (h : st.1[a]? = some k) : (xw ads cI cZ cP st)[a]? = some (ads.getD a 0, xcell ads cI cZ cP st a k) := by
  simp [xw, List.getElem?_mapIdx, h]
theorem xw_len (ads : List Nat) (cI cZ cP : ClassId) (st : XS) : (xw ads cI cZ cP st).length = st.1.length := by simp [xw]
/-- the context: machine, room, state, method; its end; its locals; the plain world's floor, tables, first addresses -/
abbrev CX : Type := Program × Launch × Env × Room × State × MethodId × Array Value × List Frame × Method × Code × (State → Prop) × Nat × Nat × va_G × ClassId × ClassId × ClassId × List Nat
def xH (base : Nat) (D : va_G) (cI cZ cP : ClassId) (ads0 : List Nat) (H0 : Heap) (ads : List Nat) (st : XS) (H : Heap) (locs : List Loc) : Prop :=
  ads0 <+: ads ∧ ads.length = st.1.length ∧ va_P D vwCl (xw ads cI cZ cP st) H ∧ va_D (fun q => base ≤ q) (xw ads cI cZ cP st) ∧ va_S (fun q => base ≤ q) H0 H locs ∧ okS st
def xL (ls : Array Slot) (nL : Nat) (ads : List Nat) (env : XE) : Prop := ls.size = nL ∧ env.length = nL ∧ lv_wf ls ∧ ∀ (i : Nat) (v : AV), env[i]? = some v → v ≠ vU → ls[i]? = some (.val (cv ads v))
def okL (n : Nat) (l : List AV) : Prop := ∀ v ∈ l, okV n v
def V (X : CX) (pc : Nat) (env : XE) (stk : List AV) (st : XS) (bc bs : Nat) : Prop := match X with
  | (p, l, e, R, s, m, args, below, meth, c, Q, nL, base, D, cI, cZ, cP, ads0) =>
    ∀ (ads : List Nat) (H : Heap) (locs : List Loc) (ls : Array Slot) (cells slots : Nat), cells + bc ≤ R.cells → slots + bs ≤ R.slots → xH base D cI cZ cP ads0 s.heap ads st H locs → xL ls nL ads env → okL st.1.length env → okL st.1.length stk →
      W p l e R s m args below meth c H locs cells slots Q (F0 m pc ls (stk.map (cv ads)))
theorem V_mono {X : CX} {pc : Nat} {env : XE} {stk : List AV} {st : XS} {bc bs bc' bs' : Nat} (h1 : bc ≤ bc') (h2 : bs ≤ bs') (h : V X pc env stk st bc bs) : V X pc env stk st bc' bs' := by
  obtain ⟨p, l, e, R, s, m, args, below, meth, c, Q, nL, base, D, cI, cZ, cP, ads0⟩ := X
  intro ads H locs ls cells slots hc hs
  exact h ads H locs ls cells slots (by omega) (by omega)
/-- the words that every method has: those of the tables that are good at any later time -/
def wAll : List Cond := lw_tbl.filter goodWord
abbrev xTys (cI cZ cP : ClassId) : List (ClassId × FieldType) := [(cI, .int), (cZ, .boolean), (cP, .object "RingUntie$Program")]
/-- a method's fixed numbers: code, locals, its own kind's name, its name, the frames and the locals of its room -/
abbrev MI : Type := ByteArray × Nat × String × String × Nat × Nat × (Nat → State → Prop)
def wordsB : List Int32 := [97, 100, 100, 32, 109, 117, 108, 32, 112, 117, 116, 32, 103, 101, 116, 32, 99, 97, 108, 108, 32, 111, 100, 100, 32, 110, 101, 119, 115, 32]
def isNest : Cond → Bool
  | .methodLinkNest .. => true
  | .fieldLinkNest .. => true
  | _ => false
/-- the words on nest mates -/
def wNest : List Cond := lw_tbl.filter isNest
theorem wNest_is {w : Cond} (h : w ∈ wNest) : isNest w = true := (List.mem_filter.mp h).2
theorem nest_warm {w : Cond} (hn : isNest w = true) {s U : State} (hW : s.WarmedH U.vm) (h : va_Nw w s) : va_Nw w U := by
  cases w with
  | methodLinkNest a i x h0 => exact va_Nw.warmM hW h
  | fieldLinkNest a i b n d h0 => exact va_Nw.warmF hW h
  | _ => simp [isNest] at hn
theorem nest_same {w : Cond} (hn : isNest w = true) {u U : State} (hv : u.vm = U.vm) (h : va_Nw w u) : va_Nw w U := by
  cases w with
  | methodLinkNest a i x h0 => exact va_Nw.same rfl hv h
  | fieldLinkNest a i b n d h0 => exact va_Nw.same rfl hv h
  | _ => simp [isNest] at hn
/-- the statics and the text that lie below the floor -/
def SF (base : Nat) (U : State) : Prop := ∃ (tL tW : Nat) (adK adV : Nat → Nat), va_Z RX8 "LIMITS" "[I" (.ref tL) (fun q => base ≤ q) U U.heap ∧ va_T .int tL 3 (fun j => .int (([20, 10, 8] : List Int32).getD j 0)) (fun q => base ≤ q) U U.heap ∧
  va_Z RX8 "WORD_STARTS" "[I" (.ref tW) (fun q => base ≤ q) U U.heap ∧ va_T .int tW 7 (fun j => .int (([0, 4, 8, 12, 16, 21, 25] : List Int32).getD j 0)) (fun q => base ≤ q) U U.heap ∧
  vk_S 1 [30] [wordsB] adK adV (fun q => base ≤ q) U U.heap ∧ vk_R "RingUntie$Tape" 51 "add mul put get call odd news " (adK 0) U ∧ va_Z "java/lang/String" "COMPACT_STRINGS" "Z" (.int 1) (fun q => base ≤ q) U U.heap ∧ (∀ w ∈ wNest, va_Nw w U) ∧ va_AO "RingUntie$Program" U ∧ va_Zq "jdk/internal/util/Preconditions" "SIOOBE_FORMATTER" "Ljava/util/function/BiFunction;" (fun q => base ≤ q) U U.heap
theorem SF.keep {base : Nat} {s U : State} (hW : s.WarmedH U.vm) (hH : ∀ q : Nat, q < s.heap.size → ¬ base ≤ q → U.heap[q]? = s.heap[q]?) (h : SF base s) : SF base U := by
  obtain ⟨tL, tW, adK, adV, h1, h2, h3, h4, h5, h6, h7, h8, h9, h10⟩ := h
  have ha := hW.alike
  exact ⟨tL, tW, adK, adV, va_Z.moved ha (h1.kept hH), va_T.moved ha (h2.kept hH), va_Z.moved ha (h3.kept hH), va_T.moved ha (h4.kept hH), vk_S.moved ha (h5.kept hH), h6.warm hW, va_Z.moved ha (h7.kept hH), fun w hw => nest_warm (wNest_is hw) hW (h8 w hw), va_AO.moved ha h9, va_Zq.moved ha (h10.kept hH)⟩
theorem SF.same {base : Nat} {u U : State} (hv : U.vm = u.vm) (hh : U.heap = u.heap) (h : SF base u) : SF base U := by
  obtain ⟨tL, tW, adK, adV, h1, h2, h3, h4, h5, h6, h7, h8, h9, h10⟩ := h
  have ha : u.vm.Alike U.vm := by rw [hv]; exact Vm.Alike.refl u.vm
  rw [SF, hh]
  exact ⟨tL, tW, adK, adV, va_Z.moved ha h1, va_T.moved ha h2, va_Z.moved ha h3, va_T.moved ha h4, vk_S.moved ha h5, h6.same hv, va_Z.moved ha h7, fun w hw => nest_same (wNest_is hw) hv.symm (h8 w hw), va_AO.moved ha h9, va_Zq.moved ha h10⟩
def OK (X : CX) (M : MI) : Prop := match X with
  | (p, _, _, R, s, m, args, _, meth, c, _, nL, base, D, cI, cZ, cP, _) =>
    p.tables.exec = Jvm.exec ∧ c.code = M.1 ∧ c.maxLocals = M.2.1 ∧ nL = M.2.1 ∧ s.vm.findClass M.2.2.1 = some m.cls ∧ (∀ w ∈ wAll, w.before args s = true) ∧ va_K D vwCl (xTys cI cZ cP) s ∧ base ≤ s.heap.size ∧ M.2.2.2.2.1 ≤ R.frames ∧ M.2.2.2.2.2.1 ≤ R.locals ∧ meth.name = M.2.2.2.1 ∧ SF base s ∧ M.2.2.2.2.2.2 base s
section VOP
variable {X : CX} {M : MI} {pc : Nat} {env : XE} {stk : List AV} {st : XS} {bc bs : Nat}
theorem okL_cons {n : Nat} {v : AV} {l : List AV} : okL n (v :: l) ↔ okV n v ∧ okL n l := by simp [okL]
theorem inR_i32 (x : Int32) : inR x.toInt := ⟨Int32.le_toInt x, Int32.toInt_lt x⟩
theorem inRL_i64 (x : Int64) : inRL x.toInt := ⟨Int64.le_toInt x, Int64.toInt_lt x⟩
theorem i32_t {x : Int} (h : inR x) : (Int32.ofInt x).toInt = x := Int32.toInt_ofInt_of_le h.1 h.2
theorem i64_t {x : Int} (h : inRL x) : (Int64.ofInt x).toInt = x := Int64.toInt_ofInt_of_le h.1 h.2
theorem i32_lt {x y : Int} (hx : inR x) (hy : inR y) : Int32.ofInt x < Int32.ofInt y ↔ x < y := by rw [Int32.lt_iff_toInt_lt, i32_t hx, i32_t hy]
theorem i32_le {x y : Int} (hx : inR x) (hy : inR y) : Int32.ofInt x ≤ Int32.ofInt y ↔ x ≤ y := by rw [Int32.le_iff_toInt_le, i32_t hx, i32_t hy]
theorem i32_eq {x y : Int} (hx : inR x) (hy : inR y) : Int32.ofInt x = Int32.ofInt y ↔ x = y := ⟨fun h => by rw [← i32_t hx, h, i32_t hy], fun h => by rw [h]⟩
theorem i64_lt {x y : Int} (hx : inRL x) (hy : inRL y) : Int64.ofInt x < Int64.ofInt y ↔ x < y := by rw [Int64.lt_iff_toInt_lt, i64_t hx, i64_t hy]
theorem i64_eq {x y : Int} (hx : inRL x) (hy : inRL y) : Int64.ofInt x = Int64.ofInt y ↔ x = y := ⟨fun h => by rw [← i64_t hx, h, i64_t hy], fun h => by rw [h]⟩
theorem i32_o (x : Int32) : Int32.ofInt x.toInt = x := Int32.ofInt_toInt x
theorem i64_o (x : Int64) : Int64.ofInt x.toInt = x := Int64.ofInt_toInt x
theorem inR_0 : inR 0 := ⟨by decide, by decide⟩
theorem i32_0 : Int32.ofInt 0 = 0 := rfl
/-- a step that leaves locals and world -/
theorem V_step {pc' : Nat} {stk' : List AV} (hok : ∀ n, okL n stk → okL n stk')
    (hW : ∀ (p : Program) (l : Launch) (e : Env) (R : Room) (s : State) (m : MethodId) (args : Array Value) (below : List Frame) (meth : Method) (c : Code) (Q : State → Prop) (ads : List Nat) (H : Heap) (locs : List Loc) (ls : Array Slot) (cells slots : Nat) (n : Nat),
      p.tables.exec = Jvm.exec → c.code = M.1 → s.vm.findClass M.2.2.1 = some m.cls → (∀ w ∈ wAll, w.before args s = true) → okL n stk → W p l e R s m args below meth c H locs cells slots Q (F0 m pc' ls (stk'.map (cv ads))) → W p l e R s m args below meth c H locs cells slots Q (F0 m pc ls (stk.map (cv ads))))
    (ok : OK X M) (k : V X pc' env stk' st bc bs) : V X pc env stk st bc bs := by
  obtain ⟨p, l, e, R, s, m, args, below, meth, c, Q, nL, base, D, cI, cZ, cP, ads0⟩ := X
  obtain ⟨hx, hb, hml, hnL, hown, hts, -⟩ := ok
  intro ads H locs ls cells slots hc hs hH hl he hk
  exact hW p l e R s m args below meth c Q ads H locs ls cells slots st.1.length hx hb hown hts hk (k ads H locs ls cells slots hc hs hH hl he (hok _ hk))
theorem V_iconst {n : Int} (hd : decode M.1 pc = .ok (.iconst n, 1)) (hn : inR n) (ok : OK X M) (k : V X (pc + 1) env (vI n :: stk) st bc bs) : V X pc env stk st bc bs :=
  V_step (stk' := vI n :: stk) (fun _ h => okL_cons.mpr ⟨hn, h⟩) (fun _ _ _ _ _ _ _ _ _ _ _ _ _ _ _ _ _ _ hx hb ho ht _ k => lv_iconst hx hb hd rfl k) ok k
theorem V_bipush {n : Int} (hd : decode M.1 pc = .ok (.bipush n, 2)) (hn : inR n) (he : (Int8.ofInt n).toInt32 = Int32.ofInt n) (ok : OK X M) (k : V X (pc + 2) env (vI n :: stk) st bc bs) : V X pc env stk st bc bs :=
  V_step (stk' := vI n :: stk) (fun _ h => okL_cons.mpr ⟨hn, h⟩) (fun _ _ _ _ _ _ _ _ _ _ _ _ _ _ _ _ _ _ hx hb ho ht _ k => lv_bipush hx hb hd he k) ok k
theorem V_sipush {n : Int} (hd : decode M.1 pc = .ok (.sipush n, 3)) (hn : inR n) (he : (Int16.ofInt n).toInt32 = Int32.ofInt n) (ok : OK X M) (k : V X (pc + 3) env (vI n :: stk) st bc bs) : V X pc env stk st bc bs :=
  V_step (stk' := vI n :: stk) (fun _ h => okL_cons.mpr ⟨hn, h⟩) (fun _ _ _ _ _ _ _ _ _ _ _ _ _ _ _ _ _ _ hx hb ho ht _ k => lv_sipush hx hb hd he k) ok k
theorem V_ldc {n : Int} {i : Nat} {v : Int32} (hd : decode M.1 pc = .ok (.ldc i, 2)) (hw : Cond.constant M.2.2.1 i v ∈ wAll) (hn : inR n) (he : v = Int32.ofInt n) (ok : OK X M) (k : V X (pc + 2) env (vI n :: stk) st bc bs) : V X pc env stk st bc bs :=
  V_step (stk' := vI n :: stk) (fun _ h => okL_cons.mpr ⟨hn, h⟩) (fun _ _ _ _ _ _ _ _ _ _ _ _ _ _ _ _ _ _ hx hb ho ht _ k => lv_ldc hx hb ho (ht _ hw) hd (by rw [he]; exact k)) ok k
theorem V_ldc2 {n : Int} {i : Nat} {v : Int64} (hd : decode M.1 pc = .ok (.ldc2_w i, 3)) (hw : Cond.constantLong M.2.2.1 i v ∈ wAll) (hn : inRL n) (he : v = Int64.ofInt n) (ok : OK X M) (k : V X (pc + 3) env (vL n :: stk) st bc bs) : V X pc env stk st bc bs :=
  V_step (stk' := vL n :: stk) (fun _ h => okL_cons.mpr ⟨hn, h⟩) (fun _ _ _ _ _ _ _ _ _ _ _ _ _ _ _ _ _ _ hx hb ho ht _ k => lv_ldc2 hx hb ho (ht _ hw) hd (by rw [he]; exact k)) ok k
theorem V_lconst0  (hd : decode M.1 pc = .ok (.lconst 0, 1))  (ok : OK X M) (k : V X (pc + 1) env (vL 0 :: stk) st bc bs) : V X pc env stk st bc bs :=
  V_step (stk' := vL 0 :: stk) (fun _ h => okL_cons.mpr ⟨⟨by decide, by decide⟩, h⟩) (fun _ _ _ _ _ _ _ _ _ _ _ _ _ _ _ _ _ _ hx hb ho ht _ k => lv_lconst hx hb hd (v := Int64.ofInt 0) rfl k) ok k
/-- the ops on ints, as the machine has them -/
def o2 (f : Int32 → Int32 → Int32) (x y : Int) : Int := (f (Int32.ofInt x) (Int32.ofInt y)).toInt
theorem o2_o (f : Int32 → Int32 → Int32) (x y : Int) : Int32.ofInt (o2 f x y) = f (Int32.ofInt x) (Int32.ofInt y) := i32_o _
def w2 (f : Int64 → Int64 → Int64) (x y : Int) : Int := (f (Int64.ofInt x) (Int64.ofInt y)).toInt
theorem w2_o (f : Int64 → Int64 → Int64) (x y : Int) : Int64.ofInt (w2 f x y) = f (Int64.ofInt x) (Int64.ofInt y) := i64_o _
def w3 (f : Int64 → Int32 → Int64) (x y : Int) : Int := (f (Int64.ofInt x) (Int32.ofInt y)).toInt
theorem w3_o (f : Int64 → Int32 → Int64) (x y : Int) : Int64.ofInt (w3 f x y) = f (Int64.ofInt x) (Int32.ofInt y) := i64_o _
abbrev f_iadd : Int32 → Int32 → Int32 := fun x y => x + y
theorem V_iadd {x y : Int} (hd : decode M.1 pc = .ok (.iadd, 1)) (ok : OK X M) (k : V X (pc + 1) env (vI (o2 f_iadd x y) :: stk) st bc bs) : V X pc env (vI y :: vI x :: stk) st bc bs :=
  V_step (stk' := vI (o2 f_iadd x y) :: stk) (fun _ h => okL_cons.mpr ⟨inR_i32 _, (okL_cons.mp (okL_cons.mp h).2).2⟩) (fun _ _ _ _ _ _ _ _ _ _ _ _ _ _ _ _ _ _ hx hb ho ht _ k => lv_iadd hx hb hd (by simpa only [List.map_cons, cv, o2_o] using k)) ok k
abbrev f_isub : Int32 → Int32 → Int32 := fun x y => x - y
theorem V_isub {x y : Int} (hd : decode M.1 pc = .ok (.isub, 1)) (ok : OK X M) (k : V X (pc + 1) env (vI (o2 f_isub x y) :: stk) st bc bs) : V X pc env (vI y :: vI x :: stk) st bc bs :=
  V_step (stk' := vI (o2 f_isub x y) :: stk) (fun _ h => okL_cons.mpr ⟨inR_i32 _, (okL_cons.mp (okL_cons.mp h).2).2⟩) (fun _ _ _ _ _ _ _ _ _ _ _ _ _ _ _ _ _ _ hx hb ho ht _ k => lv_isub hx hb hd (by simpa only [List.map_cons, cv, o2_o] using k)) ok k
abbrev f_imul : Int32 → Int32 → Int32 := fun x y => x * y
theorem V_imul {x y : Int} (hd : decode M.1 pc = .ok (.imul, 1)) (ok : OK X M) (k : V X (pc + 1) env (vI (o2 f_imul x y) :: stk) st bc bs) : V X pc env (vI y :: vI x :: stk) st bc bs :=
  V_step (stk' := vI (o2 f_imul x y) :: stk) (fun _ h => okL_cons.mpr ⟨inR_i32 _, (okL_cons.mp (okL_cons.mp h).2).2⟩) (fun _ _ _ _ _ _ _ _ _ _ _ _ _ _ _ _ _ _ hx hb ho ht _ k => lv_imul hx hb hd (by simpa only [List.map_cons, cv, o2_o] using k)) ok k
abbrev f_iand : Int32 → Int32 → Int32 := fun x y => x &&& y
theorem V_iand {x y : Int} (hd : decode M.1 pc = .ok (.iand, 1)) (ok : OK X M) (k : V X (pc + 1) env (vI (o2 f_iand x y) :: stk) st bc bs) : V X pc env (vI y :: vI x :: stk) st bc bs :=
  V_step (stk' := vI (o2 f_iand x y) :: stk) (fun _ h => okL_cons.mpr ⟨inR_i32 _, (okL_cons.mp (okL_cons.mp h).2).2⟩) (fun _ _ _ _ _ _ _ _ _ _ _ _ _ _ _ _ _ _ hx hb ho ht _ k => lv_iand hx hb hd (by simpa only [List.map_cons, cv, o2_o] using k)) ok k
abbrev f_ior : Int32 → Int32 → Int32 := fun x y => x ||| y
theorem V_ior {x y : Int} (hd : decode M.1 pc = .ok (.ior, 1)) (ok : OK X M) (k : V X (pc + 1) env (vI (o2 f_ior x y) :: stk) st bc bs) : V X pc env (vI y :: vI x :: stk) st bc bs :=
  V_step (stk' := vI (o2 f_ior x y) :: stk) (fun _ h => okL_cons.mpr ⟨inR_i32 _, (okL_cons.mp (okL_cons.mp h).2).2⟩) (fun _ _ _ _ _ _ _ _ _ _ _ _ _ _ _ _ _ _ hx hb ho ht _ k => lv_ior hx hb hd (by simpa only [List.map_cons, cv, o2_o] using k)) ok k
abbrev f_ishl : Int32 → Int32 → Int32 := fun x y => x <<< (y &&& 31)
theorem V_ishl {x y : Int} (hd : decode M.1 pc = .ok (.ishl, 1)) (ok : OK X M) (k : V X (pc + 1) env (vI (o2 f_ishl x y) :: stk) st bc bs) : V X pc env (vI y :: vI x :: stk) st bc bs :=
  V_step (stk' := vI (o2 f_ishl x y) :: stk) (fun _ h => okL_cons.mpr ⟨inR_i32 _, (okL_cons.mp (okL_cons.mp h).2).2⟩) (fun _ _ _ _ _ _ _ _ _ _ _ _ _ _ _ _ _ _ hx hb ho ht _ k => lv_ishl hx hb hd (by simpa only [List.map_cons, cv, o2_o] using k)) ok k
abbrev f_ishr : Int32 → Int32 → Int32 := fun x y => x >>> (y &&& 31)
theorem V_ishr {x y : Int} (hd : decode M.1 pc = .ok (.ishr, 1)) (ok : OK X M) (k : V X (pc + 1) env (vI (o2 f_ishr x y) :: stk) st bc bs) : V X pc env (vI y :: vI x :: stk) st bc bs :=
  V_step (stk' := vI (o2 f_ishr x y) :: stk) (fun _ h => okL_cons.mpr ⟨inR_i32 _, (okL_cons.mp (okL_cons.mp h).2).2⟩) (fun _ _ _ _ _ _ _ _ _ _ _ _ _ _ _ _ _ _ hx hb ho ht _ k => lv_ishr hx hb hd (by simpa only [List.map_cons, cv, o2_o] using k)) ok k
abbrev f_idiv : Int32 → Int32 → Int32 := fun x y => x / y
theorem V_idiv {x y : Int} (hd : decode M.1 pc = .ok (.idiv, 1)) (hy : y ≠ 0) (ok : OK X M) (k : V X (pc + 1) env (vI (o2 f_idiv x y) :: stk) st bc bs) : V X pc env (vI y :: vI x :: stk) st bc bs :=
  V_step (stk' := vI (o2 f_idiv x y) :: stk) (fun _ h => okL_cons.mpr ⟨inR_i32 _, (okL_cons.mp (okL_cons.mp h).2).2⟩) (fun _ _ _ _ _ _ _ _ _ _ _ _ _ _ _ _ _ _ hx hb ho ht hk k => lv_idiv hx hb hd (fun h => hy ((i32_eq (okL_cons.mp hk).1 inR_0).mp h)) (by simpa only [List.map_cons, cv, o2_o] using k)) ok k
abbrev f_irem : Int32 → Int32 → Int32 := fun x y => x - x / y * y
theorem V_irem {x y : Int} (hd : decode M.1 pc = .ok (.irem, 1)) (hy : y ≠ 0) (ok : OK X M) (k : V X (pc + 1) env (vI (o2 f_irem x y) :: stk) st bc bs) : V X pc env (vI y :: vI x :: stk) st bc bs :=
  V_step (stk' := vI (o2 f_irem x y) :: stk) (fun _ h => okL_cons.mpr ⟨inR_i32 _, (okL_cons.mp (okL_cons.mp h).2).2⟩) (fun _ _ _ _ _ _ _ _ _ _ _ _ _ _ _ _ _ _ hx hb ho ht hk k => lv_irem hx hb hd (fun h => hy ((i32_eq (okL_cons.mp hk).1 inR_0).mp h)) (by simpa only [List.map_cons, cv, o2_o] using k)) ok k
abbrev f_land : Int64 → Int64 → Int64 := fun x y => x &&& y
theorem V_land {x y : Int} (hd : decode M.1 pc = .ok (.land, 1)) (ok : OK X M) (k : V X (pc + 1) env (vL (w2 f_land x y) :: stk) st bc bs) : V X pc env (vL y :: vL x :: stk) st bc bs :=
  V_step (stk' := vL (w2 f_land x y) :: stk) (fun _ h => okL_cons.mpr ⟨inRL_i64 _, (okL_cons.mp (okL_cons.mp h).2).2⟩) (fun _ _ _ _ _ _ _ _ _ _ _ _ _ _ _ _ _ _ hx hb ho ht _ k => lv_land hx hb hd (by simpa only [List.map_cons, cv, w2_o] using k)) ok k
abbrev f_lor : Int64 → Int64 → Int64 := fun x y => x ||| y
theorem V_lor {x y : Int} (hd : decode M.1 pc = .ok (.lor, 1)) (ok : OK X M) (k : V X (pc + 1) env (vL (w2 f_lor x y) :: stk) st bc bs) : V X pc env (vL y :: vL x :: stk) st bc bs :=
  V_step (stk' := vL (w2 f_lor x y) :: stk) (fun _ h => okL_cons.mpr ⟨inRL_i64 _, (okL_cons.mp (okL_cons.mp h).2).2⟩) (fun _ _ _ _ _ _ _ _ _ _ _ _ _ _ _ _ _ _ hx hb ho ht _ k => lv_lor hx hb hd (by simpa only [List.map_cons, cv, w2_o] using k)) ok k
abbrev f_ldiv : Int64 → Int64 → Int64 := fun x y => x / y
theorem V_ldiv {x y : Int} (hd : decode M.1 pc = .ok (.ldiv, 1)) (hy : y ≠ 0) (ok : OK X M) (k : V X (pc + 1) env (vL (w2 f_ldiv x y) :: stk) st bc bs) : V X pc env (vL y :: vL x :: stk) st bc bs :=
  V_step (stk' := vL (w2 f_ldiv x y) :: stk) (fun _ h => okL_cons.mpr ⟨inRL_i64 _, (okL_cons.mp (okL_cons.mp h).2).2⟩) (fun _ _ _ _ _ _ _ _ _ _ _ _ _ _ _ _ _ _ hx hb ho ht hk k => lv_ldiv hx hb hd (fun h => hy ((i64_eq (y := 0) (okL_cons.mp hk).1 ⟨by decide, by decide⟩).mp h)) (by simpa only [List.map_cons, cv, w2_o] using k)) ok k
abbrev f_lrem : Int64 → Int64 → Int64 := fun x y => x - x / y * y
theorem V_lrem {x y : Int} (hd : decode M.1 pc = .ok (.lrem, 1)) (hy : y ≠ 0) (ok : OK X M) (k : V X (pc + 1) env (vL (w2 f_lrem x y) :: stk) st bc bs) : V X pc env (vL y :: vL x :: stk) st bc bs :=
  V_step (stk' := vL (w2 f_lrem x y) :: stk) (fun _ h => okL_cons.mpr ⟨inRL_i64 _, (okL_cons.mp (okL_cons.mp h).2).2⟩) (fun _ _ _ _ _ _ _ _ _ _ _ _ _ _ _ _ _ _ hx hb ho ht hk k => lv_lrem hx hb hd (fun h => hy ((i64_eq (y := 0) (okL_cons.mp hk).1 ⟨by decide, by decide⟩).mp h)) (by simpa only [List.map_cons, cv, w2_o] using k)) ok k
abbrev f_lshl : Int64 → Int32 → Int64 := fun x y => x <<< (y.toInt64 &&& 63)
theorem V_lshl {x y : Int} (hd : decode M.1 pc = .ok (.lshl, 1)) (ok : OK X M) (k : V X (pc + 1) env (vL (w3 f_lshl x y) :: stk) st bc bs) : V X pc env (vI y :: vL x :: stk) st bc bs :=
  V_step (stk' := vL (w3 f_lshl x y) :: stk) (fun _ h => okL_cons.mpr ⟨inRL_i64 _, (okL_cons.mp (okL_cons.mp h).2).2⟩) (fun _ _ _ _ _ _ _ _ _ _ _ _ _ _ _ _ _ _ hx hb ho ht _ k => lv_lshl hx hb hd rfl (by simpa only [List.map_cons, cv, w3_o] using k)) ok k
abbrev f_lshr : Int64 → Int32 → Int64 := fun x y => x >>> (y.toInt64 &&& 63)
theorem V_lshr {x y : Int} (hd : decode M.1 pc = .ok (.lshr, 1)) (ok : OK X M) (k : V X (pc + 1) env (vL (w3 f_lshr x y) :: stk) st bc bs) : V X pc env (vI y :: vL x :: stk) st bc bs :=
  V_step (stk' := vL (w3 f_lshr x y) :: stk) (fun _ h => okL_cons.mpr ⟨inRL_i64 _, (okL_cons.mp (okL_cons.mp h).2).2⟩) (fun _ _ _ _ _ _ _ _ _ _ _ _ _ _ _ _ _ _ hx hb ho ht _ k => lv_lshr hx hb hd rfl (by simpa only [List.map_cons, cv, w3_o] using k)) ok k
theorem V_i2l {x : Int} (hd : decode M.1 pc = .ok (.i2l, 1)) (ok : OK X M) (k : V X (pc + 1) env (vL x :: stk) st bc bs) : V X pc env (vI x :: stk) st bc bs := by
  have hw : ∀ {n}, okL n (vI x :: stk) → inR x := fun h => (okL_cons.mp h).1
  refine V_step (stk' := vL x :: stk) (fun _ h => okL_cons.mpr ⟨⟨by have := (hw h).1; omega, by have := (hw h).2; omega⟩, (okL_cons.mp h).2⟩) (fun _ _ _ _ _ _ _ _ _ _ _ _ _ _ _ _ _ _ hx hb ho ht hk k => lv_i2l hx hb hd ?_ k) ok k
  apply Int64.toInt_inj.mp
  rw [Int32.toInt_toInt64, i32_t (hw hk), i64_t ⟨by have := (hw hk).1; omega, by have := (hw hk).2; omega⟩]
def l2i (x : Int) : Int := (Int64.ofInt x).toInt32.toInt
theorem V_l2i {x : Int} (hd : decode M.1 pc = .ok (.l2i, 1)) (ok : OK X M) (k : V X (pc + 1) env (vI (l2i x) :: stk) st bc bs) : V X pc env (vL x :: stk) st bc bs :=
  V_step (stk' := vI (l2i x) :: stk) (fun _ h => okL_cons.mpr ⟨inR_i32 _, (okL_cons.mp h).2⟩) (fun _ _ _ _ _ _ _ _ _ _ _ _ _ _ _ _ _ _ hx hb ho ht _ k => lv_l2i hx hb hd (i32_o _).symm k) ok k
def lcmp (x y : Int) : Int := if x < y then -1 else if x = y then 0 else 1
theorem inR_lcmp (x y : Int) : inR (lcmp x y) := by
  unfold lcmp
  split
  · exact ⟨by decide, by decide⟩
  · split <;> exact ⟨by decide, by decide⟩
theorem V_lcmp {x y : Int} (hd : decode M.1 pc = .ok (.lcmp, 1)) (ok : OK X M) (k : V X (pc + 1) env (vI (lcmp x y) :: stk) st bc bs) : V X pc env (vL y :: vL x :: stk) st bc bs := by
  refine V_step (stk' := vI (lcmp x y) :: stk) (fun _ h => okL_cons.mpr ⟨inR_lcmp x y, (okL_cons.mp (okL_cons.mp h).2).2⟩) (fun _ _ _ _ _ _ _ _ _ _ _ _ _ _ _ _ _ _ hx hb ho ht hk k => W.lcmp hx hb hd ?_) ok k
  have hy : inRL y := (okL_cons.mp hk).1
  have hx : inRL x := (okL_cons.mp (okL_cons.mp hk).2).1
  have e : lg_cmp (Int64.ofInt x) (Int64.ofInt y) = Int32.ofInt (lcmp x y) := by
    unfold lg_cmp lcmp
    simp only [i64_lt hx hy, i64_lt hy hx, i64_eq hx hy, i64_eq hy hx]
    repeat' split
    all_goals first | rfl | omega
  rw [e]
  exact k
theorem V_dup {v : AV} (hd : decode M.1 pc = .ok (.dup, 1)) (hv : catV v = 1) (ok : OK X M) (k : V X (pc + 1) env (v :: v :: stk) st bc bs) : V X pc env (v :: stk) st bc bs :=
  V_step (stk' := v :: v :: stk) (fun _ h => okL_cons.mpr ⟨(okL_cons.mp h).1, h⟩) (fun _ _ _ _ _ _ _ _ _ _ _ _ _ _ _ _ _ _ hx hb ho ht _ k => lv_dup hx hb hd (by rw [cv_cat]; exact hv) k) ok k
theorem V_dup2 {v w : AV} (hd : decode M.1 pc = .ok (.dup2, 1)) (hv : catV v = 1) (hw : catV w = 1) (ok : OK X M) (k : V X (pc + 1) env (v :: w :: v :: w :: stk) st bc bs) : V X pc env (v :: w :: stk) st bc bs :=
  V_step (stk' := v :: w :: v :: w :: stk) (fun _ h => okL_cons.mpr ⟨(okL_cons.mp h).1, okL_cons.mpr ⟨(okL_cons.mp (okL_cons.mp h).2).1, h⟩⟩) (fun _ _ _ _ _ _ _ _ _ _ _ _ _ _ _ _ _ _ hx hb ho ht _ k => lv_dup2_11 hx hb hd (by rw [cv_cat]; exact hv) (by rw [cv_cat]; exact hw) k) ok k
theorem V_pop {v : AV} (hd : decode M.1 pc = .ok (.pop, 1)) (hv : catV v = 1) (ok : OK X M) (k : V X (pc + 1) env stk st bc bs) : V X pc env (v :: stk) st bc bs :=
  V_step (stk' := stk) (fun _ h => (okL_cons.mp h).2) (fun _ _ _ _ _ _ _ _ _ _ _ _ _ _ _ _ _ _ hx hb ho ht _ k => lv_pop hx hb hd (by rw [cv_cat]; exact hv) k) ok k
theorem V_goto {off : Int} {tgt : Nat} (hd : decode M.1 pc = .ok (.goto off, 3)) (ht : (pc : Int) + off = (tgt : Int)) (ok : OK X M) (k : V X tgt env stk st bc bs) : V X pc env stk st bc bs :=
  V_step (stk' := stk) (fun _ h => h) (fun _ _ _ _ _ _ _ _ _ _ _ _ _ _ _ _ _ _ hx hb ho _ _ k => lv_goto hx hb hd ht k) ok k
/-- a branch: both ways -/
theorem V_br {pc1 pc2 : Nat} {P : Prop} (hok : ∀ n l, okL n l → okL n l) {stk0 : List AV} (hsub : ∀ n, okL n stk0 → okL n stk)
    (hW : ∀ (p : Program) (l : Launch) (e : Env) (R : Room) (s : State) (m : MethodId) (args : Array Value) (below : List Frame) (meth : Method) (c : Code) (Q : State → Prop) (ads : List Nat) (H : Heap) (locs : List Loc) (ls : Array Slot) (cells slots : Nat) (n : Nat),
      p.tables.exec = Jvm.exec → c.code = M.1 → okL n stk0 → (P → W p l e R s m args below meth c H locs cells slots Q (F0 m pc1 ls (stk.map (cv ads)))) → (¬ P → W p l e R s m args below meth c H locs cells slots Q (F0 m pc2 ls (stk.map (cv ads)))) → W p l e R s m args below meth c H locs cells slots Q (F0 m pc ls (stk0.map (cv ads))))
    (ok : OK X M) (k1 : P → V X pc1 env stk st bc bs) (k2 : ¬ P → V X pc2 env stk st bc bs) : V X pc env stk0 st bc bs := by
  obtain ⟨p, l, e, R, s, m, args, below, meth, c, Q, nL, base, D, cI, cZ, cP, ads0⟩ := X
  obtain ⟨hx, hb, hml, hnL, hown, hts, -⟩ := ok
  intro ads H locs ls cells slots hc hs hH hl he hk
  exact hW p l e R s m args below meth c Q ads H locs ls cells slots st.1.length hx hb hk (fun h => k1 h ads H locs ls cells slots hc hs hH hl he (hsub _ hk)) (fun h => k2 h ads H locs ls cells slots hc hs hH hl he (hsub _ hk))
theorem V_icmp_eq {x y : Int} {off : Int} {tgt : Nat} (hd : decode M.1 pc = .ok (.if_icmp .eq off, 3)) (ht : (pc : Int) + off = (tgt : Int)) (ok : OK X M) (k1 : x = y → V X tgt env stk st bc bs) (k2 : ¬ (x = y) → V X (pc + 3) env stk st bc bs) : V X pc env (vI y :: vI x :: stk) st bc bs :=
  V_br (fun _ _ h => h) (fun _ h => (okL_cons.mp (okL_cons.mp h).2).2) (fun _ _ _ _ _ _ _ _ _ _ _ _ _ _ _ _ _ _ hx hb hk k1 k2 => lv_icmp_eq hx hb hd ht (fun h => k1 ((i32_eq (okL_cons.mp (okL_cons.mp hk).2).1 (okL_cons.mp hk).1).mp h)) (fun h => k2 (fun q => h ((i32_eq (okL_cons.mp (okL_cons.mp hk).2).1 (okL_cons.mp hk).1).mpr q)))) ok k1 k2
theorem V_if_eq {x : Int} {off : Int} {tgt : Nat} (hd : decode M.1 pc = .ok (.ifCond .eq off, 3)) (ht : (pc : Int) + off = (tgt : Int)) (ok : OK X M) (k1 : x = 0 → V X tgt env stk st bc bs) (k2 : ¬ (x = 0) → V X (pc + 3) env stk st bc bs) : V X pc env (vI x :: stk) st bc bs :=
  V_br (fun _ _ h => h) (fun _ h => (okL_cons.mp h).2) (fun _ _ _ _ _ _ _ _ _ _ _ _ _ _ _ _ _ _ hx hb hk k1 k2 => lv_if_eq hx hb hd ht (fun h => k1 ((i32_eq (okL_cons.mp hk).1 inR_0).mp h)) (fun h => k2 (fun q => h ((i32_eq (okL_cons.mp hk).1 inR_0).mpr q)))) ok k1 k2
theorem V_icmp_ne {x y : Int} {off : Int} {tgt : Nat} (hd : decode M.1 pc = .ok (.if_icmp .ne off, 3)) (ht : (pc : Int) + off = (tgt : Int)) (ok : OK X M) (k1 : x ≠ y → V X tgt env stk st bc bs) (k2 : ¬ (x ≠ y) → V X (pc + 3) env stk st bc bs) : V X pc env (vI y :: vI x :: stk) st bc bs :=
  V_br (fun _ _ h => h) (fun _ h => (okL_cons.mp (okL_cons.mp h).2).2) (fun _ _ _ _ _ _ _ _ _ _ _ _ _ _ _ _ _ _ hx hb hk k1 k2 => lv_icmp_ne hx hb hd ht (fun h => k1 ((not_congr (i32_eq (okL_cons.mp (okL_cons.mp hk).2).1 (okL_cons.mp hk).1)).mp h)) (fun h => k2 (fun q => q ((i32_eq (okL_cons.mp (okL_cons.mp hk).2).1 (okL_cons.mp hk).1).mp h)))) ok k1 k2
theorem V_if_ne {x : Int} {off : Int} {tgt : Nat} (hd : decode M.1 pc = .ok (.ifCond .ne off, 3)) (ht : (pc : Int) + off = (tgt : Int)) (ok : OK X M) (k1 : x ≠ 0 → V X tgt env stk st bc bs) (k2 : ¬ (x ≠ 0) → V X (pc + 3) env stk st bc bs) : V X pc env (vI x :: stk) st bc bs :=
  V_br (fun _ _ h => h) (fun _ h => (okL_cons.mp h).2) (fun _ _ _ _ _ _ _ _ _ _ _ _ _ _ _ _ _ _ hx hb hk k1 k2 => lv_if_ne hx hb hd ht (fun h => k1 ((not_congr (i32_eq (okL_cons.mp hk).1 inR_0)).mp h)) (fun h => k2 (fun q => q ((i32_eq (okL_cons.mp hk).1 inR_0).mp h)))) ok k1 k2
theorem V_icmp_lt {x y : Int} {off : Int} {tgt : Nat} (hd : decode M.1 pc = .ok (.if_icmp .lt off, 3)) (ht : (pc : Int) + off = (tgt : Int)) (ok : OK X M) (k1 : x < y → V X tgt env stk st bc bs) (k2 : ¬ (x < y) → V X (pc + 3) env stk st bc bs) : V X pc env (vI y :: vI x :: stk) st bc bs :=
  V_br (fun _ _ h => h) (fun _ h => (okL_cons.mp (okL_cons.mp h).2).2) (fun _ _ _ _ _ _ _ _ _ _ _ _ _ _ _ _ _ _ hx hb hk k1 k2 => lv_icmp_lt hx hb hd ht (fun h => k1 ((i32_lt (okL_cons.mp (okL_cons.mp hk).2).1 (okL_cons.mp hk).1).mp h)) (fun h => k2 (fun q => h ((i32_lt (okL_cons.mp (okL_cons.mp hk).2).1 (okL_cons.mp hk).1).mpr q)))) ok k1 k2
theorem V_if_lt {x : Int} {off : Int} {tgt : Nat} (hd : decode M.1 pc = .ok (.ifCond .lt off, 3)) (ht : (pc : Int) + off = (tgt : Int)) (ok : OK X M) (k1 : x < 0 → V X tgt env stk st bc bs) (k2 : ¬ (x < 0) → V X (pc + 3) env stk st bc bs) : V X pc env (vI x :: stk) st bc bs :=
  V_br (fun _ _ h => h) (fun _ h => (okL_cons.mp h).2) (fun _ _ _ _ _ _ _ _ _ _ _ _ _ _ _ _ _ _ hx hb hk k1 k2 => lv_if_lt hx hb hd ht (fun h => k1 ((i32_lt (okL_cons.mp hk).1 inR_0).mp h)) (fun h => k2 (fun q => h ((i32_lt (okL_cons.mp hk).1 inR_0).mpr q)))) ok k1 k2
theorem V_icmp_ge {x y : Int} {off : Int} {tgt : Nat} (hd : decode M.1 pc = .ok (.if_icmp .ge off, 3)) (ht : (pc : Int) + off = (tgt : Int)) (ok : OK X M) (k1 : y ≤ x → V X tgt env stk st bc bs) (k2 : ¬ (y ≤ x) → V X (pc + 3) env stk st bc bs) : V X pc env (vI y :: vI x :: stk) st bc bs :=
  V_br (fun _ _ h => h) (fun _ h => (okL_cons.mp (okL_cons.mp h).2).2) (fun _ _ _ _ _ _ _ _ _ _ _ _ _ _ _ _ _ _ hx hb hk k1 k2 => lv_icmp_ge hx hb hd ht (fun h => k1 ((i32_le (okL_cons.mp hk).1 (okL_cons.mp (okL_cons.mp hk).2).1).mp h)) (fun h => k2 (fun q => h ((i32_le (okL_cons.mp hk).1 (okL_cons.mp (okL_cons.mp hk).2).1).mpr q)))) ok k1 k2
theorem V_if_ge {x : Int} {off : Int} {tgt : Nat} (hd : decode M.1 pc = .ok (.ifCond .ge off, 3)) (ht : (pc : Int) + off = (tgt : Int)) (ok : OK X M) (k1 : 0 ≤ x → V X tgt env stk st bc bs) (k2 : ¬ (0 ≤ x) → V X (pc + 3) env stk st bc bs) : V X pc env (vI x :: stk) st bc bs :=
  V_br (fun _ _ h => h) (fun _ h => (okL_cons.mp h).2) (fun _ _ _ _ _ _ _ _ _ _ _ _ _ _ _ _ _ _ hx hb hk k1 k2 => lv_if_ge hx hb hd ht (fun h => k1 ((i32_le inR_0 (okL_cons.mp hk).1).mp h)) (fun h => k2 (fun q => h ((i32_le inR_0 (okL_cons.mp hk).1).mpr q)))) ok k1 k2
theorem V_icmp_gt {x y : Int} {off : Int} {tgt : Nat} (hd : decode M.1 pc = .ok (.if_icmp .gt off, 3)) (ht : (pc : Int) + off = (tgt : Int)) (ok : OK X M) (k1 : y < x → V X tgt env stk st bc bs) (k2 : ¬ (y < x) → V X (pc + 3) env stk st bc bs) : V X pc env (vI y :: vI x :: stk) st bc bs :=
  V_br (fun _ _ h => h) (fun _ h => (okL_cons.mp (okL_cons.mp h).2).2) (fun _ _ _ _ _ _ _ _ _ _ _ _ _ _ _ _ _ _ hx hb hk k1 k2 => lv_icmp_gt hx hb hd ht (fun h => k1 ((i32_lt (okL_cons.mp hk).1 (okL_cons.mp (okL_cons.mp hk).2).1).mp h)) (fun h => k2 (fun q => h ((i32_lt (okL_cons.mp hk).1 (okL_cons.mp (okL_cons.mp hk).2).1).mpr q)))) ok k1 k2
theorem V_if_gt {x : Int} {off : Int} {tgt : Nat} (hd : decode M.1 pc = .ok (.ifCond .gt off, 3)) (ht : (pc : Int) + off = (tgt : Int)) (ok : OK X M) (k1 : 0 < x → V X tgt env stk st bc bs) (k2 : ¬ (0 < x) → V X (pc + 3) env stk st bc bs) : V X pc env (vI x :: stk) st bc bs :=
  V_br (fun _ _ h => h) (fun _ h => (okL_cons.mp h).2) (fun _ _ _ _ _ _ _ _ _ _ _ _ _ _ _ _ _ _ hx hb hk k1 k2 => lv_if_gt hx hb hd ht (fun h => k1 ((i32_lt inR_0 (okL_cons.mp hk).1).mp h)) (fun h => k2 (fun q => h ((i32_lt inR_0 (okL_cons.mp hk).1).mpr q)))) ok k1 k2
theorem V_icmp_le {x y : Int} {off : Int} {tgt : Nat} (hd : decode M.1 pc = .ok (.if_icmp .le off, 3)) (ht : (pc : Int) + off = (tgt : Int)) (ok : OK X M) (k1 : x ≤ y → V X tgt env stk st bc bs) (k2 : ¬ (x ≤ y) → V X (pc + 3) env stk st bc bs) : V X pc env (vI y :: vI x :: stk) st bc bs :=
  V_br (fun _ _ h => h) (fun _ h => (okL_cons.mp (okL_cons.mp h).2).2) (fun _ _ _ _ _ _ _ _ _ _ _ _ _ _ _ _ _ _ hx hb hk k1 k2 => lv_icmp_le hx hb hd ht (fun h => k1 ((i32_le (okL_cons.mp (okL_cons.mp hk).2).1 (okL_cons.mp hk).1).mp h)) (fun h => k2 (fun q => h ((i32_le (okL_cons.mp (okL_cons.mp hk).2).1 (okL_cons.mp hk).1).mpr q)))) ok k1 k2
theorem V_if_le {x : Int} {off : Int} {tgt : Nat} (hd : decode M.1 pc = .ok (.ifCond .le off, 3)) (ht : (pc : Int) + off = (tgt : Int)) (ok : OK X M) (k1 : x ≤ 0 → V X tgt env stk st bc bs) (k2 : ¬ (x ≤ 0) → V X (pc + 3) env stk st bc bs) : V X pc env (vI x :: stk) st bc bs :=
  V_br (fun _ _ h => h) (fun _ h => (okL_cons.mp h).2) (fun _ _ _ _ _ _ _ _ _ _ _ _ _ _ _ _ _ _ hx hb hk k1 k2 => lv_if_le hx hb hd ht (fun h => k1 ((i32_le (okL_cons.mp hk).1 inR_0).mp h)) (fun h => k2 (fun q => h ((i32_le (okL_cons.mp hk).1 inR_0).mpr q)))) ok k1 k2
end VOP
theorem SF.nest {base : Nat} {s : State} (h : SF base s) {w : Cond} (hw : w ∈ wNest) : va_Nw w s := by
  obtain ⟨tL, tW, adK, adV, h1, h2, h3, h4, h5, h6, h7, h8, h9, h10⟩ := h
  exact h8 w hw
theorem SF.over {base : Nat} {s : State} (h : SF base s) : va_AO "RingUntie$Program" s := by
  obtain ⟨tL, tW, adK, adV, h1, h2, h3, h4, h5, h6, h7, h8, h9, h10⟩ := h
  exact h9
