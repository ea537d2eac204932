/-! rows, new cells, statics of the plain world -/
section VRO
variable {X : CX} {M : MI} {pc : Nat} {env : XE} {stk : List AV} {st : XS} {bc bs : Nat}
theorem ixN {i : Int} (h : inR i) : (Int32.ofInt i).toNatClampNeg = i.toNat := by
  show (Int32.ofInt i).toInt.toNat = _
  rw [i32_t h]
theorem ixIn {i : Int} {n : Nat} (h : inR i) (h0 : 0 ≤ i) (h1 : i < n) : vp_in (Int32.ofInt i) n := by
  intro q
  rcases q with q | q
  · have := (i32_lt h inR_0).mp q; omega
  · rw [ixN h] at q; omega
theorem V_iald {a n : Nat} {i : Int} (hd : decode M.1 pc = .ok (.iaload, 1)) (ha : st.1[a]? = some (0, n)) (h0 : 0 ≤ i) (h1 : i < n) (ok : OK X M) (kk : V X (pc + 1) env (vI (st.2.1 a i.toNat) :: stk) st bc bs) : V X pc env (vI i :: vR (some a) :: stk) st bc bs := by
  obtain ⟨p, l, e, R, s, m, args, below, meth, c0, Q, nL, base, D, cI, cZ, cP, ads0⟩ := X
  obtain ⟨hx, hb, hml, hnL, hown, hts, hK, -⟩ := ok
  intro ads H locs ls cells slots hcl hsl hH hl hen hk
  have hi : inR i := (okL_cons.mp hk).1
  refine va_iald hx hb hK hH.2.2.1 a 0 (xw_get ha) rfl (ixIn hi h0 h1) hd ?_
  rw [ixN hi]
  exact kk ads H locs ls cells slots hcl hsl hH hl hen (okL_cons.mpr ⟨hH.2.2.2.2.2.1 a _, (okL_cons.mp (okL_cons.mp hk).2).2⟩)
theorem V_zald {a n : Nat} {i : Int} (hd : decode M.1 pc = .ok (.baload, 1)) (ha : st.1[a]? = some (1, n)) (h0 : 0 ≤ i) (h1 : i < n) (ok : OK X M) (kk : V X (pc + 1) env (vI (st.2.1 a i.toNat) :: stk) st bc bs) : V X pc env (vI i :: vR (some a) :: stk) st bc bs := by
  obtain ⟨p, l, e, R, s, m, args, below, meth, c0, Q, nL, base, D, cI, cZ, cP, ads0⟩ := X
  obtain ⟨hx, hb, hml, hnL, hown, hts, hK, -⟩ := ok
  intro ads H locs ls cells slots hcl hsl hH hl hen hk
  have hi : inR i := (okL_cons.mp hk).1
  refine va_zald hx hb hK hH.2.2.1 a 1 (xw_get ha) rfl (ixIn hi h0 h1) hd ?_
  rw [ixN hi]
  exact kk ads H locs ls cells slots hcl hsl hH hl hen (okL_cons.mpr ⟨hH.2.2.2.2.2.1 a _, (okL_cons.mp (okL_cons.mp hk).2).2⟩)
theorem V_aald {a n : Nat} {i : Int} (hd : decode M.1 pc = .ok (.aaload, 1)) (ha : st.1[a]? = some (2, n)) (h0 : 0 ≤ i) (h1 : i < n) (ok : OK X M) (kk : V X (pc + 1) env (vR (st.2.2 a i.toNat) :: stk) st bc bs) : V X pc env (vI i :: vR (some a) :: stk) st bc bs := by
  obtain ⟨p, l, e, R, s, m, args, below, meth, c0, Q, nL, base, D, cI, cZ, cP, ads0⟩ := X
  obtain ⟨hx, hb, hml, hnL, hown, hts, hK, -⟩ := ok
  intro ads H locs ls cells slots hcl hsl hH hl hen hk
  have hi : inR i := (okL_cons.mp hk).1
  have hok : okV st.1.length (vR (st.2.2 a i.toNat)) := by
    cases hr : st.2.2 a i.toNat with
    | none => trivial
    | some b => exact hH.2.2.2.2.2.2 a _ b hr
  refine va_aldq hx hb hK hH.2.2.1 a 2 (xw_get ha) rfl (ixIn hi h0 h1) hd ?_
  rw [ixN hi]
  exact kk ads H locs ls cells slots hcl hsl hH hl hen (okL_cons.mpr ⟨hok, (okL_cons.mp (okL_cons.mp hk).2).2⟩)
theorem V_alen {a c n : Nat} (hc : c < 3) (hn : n < 2147483648) (hd : decode M.1 pc = .ok (.arraylength, 1)) (ha : st.1[a]? = some (c, n)) (ok : OK X M) (kk : V X (pc + 1) env (vI (n : Int) :: stk) st bc bs) : V X pc env (vR (some a) :: stk) st bc bs := by
  obtain ⟨p, l, e, R, s, m, args, below, meth, c0, Q, nL, base, D, cI, cZ, cP, ads0⟩ := X
  obtain ⟨hx, hb, hml, hnL, hown, hts, hK, -⟩ := ok
  intro ads H locs ls cells slots hcl hsl hH hl hen hk
  have kk := kk ads H locs ls cells slots hcl hsl hH hl hen (okL_cons.mpr ⟨⟨by omega, by omega⟩, (okL_cons.mp hk).2⟩)
  have e1 : Int32.ofNat n = Int32.ofInt (n : Int) := rfl
  match c, hc with
  | 0, _ => exact va_alen hx hb hK hH.2.2.1 a 0 (xw_get ha) rfl e1 hd kk
  | 1, _ => exact va_alen hx hb hK hH.2.2.1 a 1 (xw_get ha) rfl e1 hd kk
  | 2, _ => exact va_alen hx hb hK hH.2.2.1 a 2 (xw_get ha) rfl e1 hd kk
/-- a store into a row -/
theorem V_rowset {a pc' : Nat} {kd : Nat × Nat} {stk0 : List AV} {st' : XS} (ha : st.1[a]? = some kd) (h1 : st'.1 = st.1) (ho : ∀ (ads : List Nat) (cI cZ cP : ClassId) b kd, b ≠ a → xcell ads cI cZ cP st' b kd = xcell ads cI cZ cP st b kd) (hok : okS st → okL st.1.length stk0 → okS st') (hsub : ∀ n, okL n stk0 → okL n stk)
    (hW : ∀ (p : Program) (l : Launch) (e : Env) (R : Room) (s : State) (m : MethodId) (args : Array Value) (below : List Frame) (meth : Method) (c : Code) (Q : State → Prop) (ads : List Nat) (H : Heap) (locs : List Loc) (ls : Array Slot) (cells slots : Nat) (A : Nat → Prop) (D : va_G) (cI cZ cP : ClassId) (H0 : Heap),
      p.tables.exec = Jvm.exec → c.code = M.1 → va_K D vwCl (xTys cI cZ cP) s → va_P D vwCl (xw ads cI cZ cP st) H → va_D A (xw ads cI cZ cP st) → va_S A H0 H locs → okL st.1.length stk0 → c.maxLocals = ls.size → s.vm.findClass M.2.2.1 = some m.cls → (∀ w ∈ wAll, w.before args s = true) → M.2.2.2.2.1 ≤ R.frames → M.2.2.2.2.2.1 ≤ R.locals →
      (∀ (H1 : Heap) (locs1 : List Loc), va_P D vwCl ((xw ads cI cZ cP st).set a (ads.getD a 0, xcell ads cI cZ cP st' a kd)) H1 → va_D A ((xw ads cI cZ cP st).set a (ads.getD a 0, xcell ads cI cZ cP st' a kd)) → va_S A H0 H1 locs1 → W p l e R s m args below meth c H1 locs1 cells slots Q (F0 m pc' ls (stk.map (cv ads)))) → W p l e R s m args below meth c H locs cells slots Q (F0 m pc ls (stk0.map (cv ads))))
    (ok : OK X M) (kk : V X pc' env stk st' bc bs) : V X pc env stk0 st bc bs := by
  obtain ⟨p, l, e, R, s, m, args, below, meth, c0, Q, nL, base, D, cI, cZ, cP, ads0⟩ := X
  obtain ⟨hx, hb, hml, hnL, hown, hts, hK, hbase, hfr, hlo, hmn, hSF, hEx⟩ := ok
  intro ads H locs ls cells slots hcl hsl hH hl hen hk
  obtain ⟨hp1, hlen, hP, hD, hS, hokS⟩ := hH
  have e1 : (xw ads cI cZ cP st).set a (ads.getD a 0, xcell ads cI cZ cP st' a kd) = xw ads cI cZ cP st' := xw_set ha h1 rfl (fun b kd hb => ho ads cI cZ cP b kd hb)
  refine hW p l e R s m args below meth c0 Q ads H locs ls cells slots _ D cI cZ cP s.heap hx hb hK hP hD hS hk (by rw [hml, hl.1, hnL]) hown hts hfr hlo (fun H1 locs1 g1 g2 g3 => ?_)
  rw [e1] at g1 g2
  exact kk ads H1 locs1 ls cells slots hcl hsl ⟨hp1, by rw [h1]; exact hlen, g1, g2, g3, hok hokS hk⟩ hl (by rw [h1]; exact hen) (by rw [h1]; exact hsub _ hk)
theorem V_iast {a n : Nat} {i x : Int} (hd : decode M.1 pc = .ok (.iastore, 1)) (ha : st.1[a]? = some (0, n)) (h0 : 0 ≤ i) (h1 : i < n) (ok : OK X M) (kk : V X (pc + 1) env stk (stI st a i.toNat x) bc bs) : V X pc env (vI x :: vI i :: vR (some a) :: stk) st bc bs := by
  refine V_rowset (st' := stI st a i.toNat x) ha rfl (fun _ _ _ _ _ _ h => xcell_I h) (fun h hk => okS_I h (okL_cons.mp hk).1) (fun _ hk => (okL_cons.mp (okL_cons.mp (okL_cons.mp hk).2).2).2) (fun p l e R s m args below meth c Q ads H locs ls cells slots A D cI cZ cP H0 hx hb hK hP hD hS hk hml hown hts hfr hlo k => ?_) ok kk
  have hi : inR i := (okL_cons.mp (okL_cons.mp hk).2).1
  have e : xcell ads cI cZ cP (stI st a i.toNat x) a (0, n) = .inl (cI, n, .inl (upd (fun j => Int32.ofInt (st.2.1 a j)) (Int32.ofInt i).toNatClampNeg (Int32.ofInt x))) := by
    rw [ixN hi]
    show Sum.inl _ = _
    congr 4
    funext j
    by_cases hj : j = i.toNat <;> simp [upI, upd, hj]
  rw [e] at k
  exact va_iast hx hb hK hP hD hS a 0 (xw_get ha) rfl (ixIn hi h0 h1) hd k
theorem V_zast {a n : Nat} {i x : Int} (hd : decode M.1 pc = .ok (.bastore, 1)) (ha : st.1[a]? = some (1, n)) (h0 : 0 ≤ i) (h1 : i < n) (hx01 : x = 0 ∨ x = 1) (ok : OK X M) (kk : V X (pc + 1) env stk (stI st a i.toNat x) bc bs) : V X pc env (vI x :: vI i :: vR (some a) :: stk) st bc bs := by
  refine V_rowset (st' := stI st a i.toNat x) ha rfl (fun _ _ _ _ _ _ h => xcell_I h) (fun h hk => okS_I h (okL_cons.mp hk).1) (fun _ hk => (okL_cons.mp (okL_cons.mp (okL_cons.mp hk).2).2).2) (fun p l e R s m args below meth c Q ads H locs ls cells slots A D cI cZ cP H0 hx hb hK hP hD hS hk hml hown hts hfr hlo k => ?_) ok kk
  have hi : inR i := (okL_cons.mp (okL_cons.mp hk).2).1
  have e : xcell ads cI cZ cP (stI st a i.toNat x) a (1, n) = .inl (cZ, n, .inl (upd (fun j => Int32.ofInt (st.2.1 a j)) (Int32.ofInt i).toNatClampNeg (vp_nar .boolean (Int32.ofInt x)))) := by
    rw [ixN hi, show vp_nar .boolean (Int32.ofInt x) = Int32.ofInt x by rcases hx01 with rfl | rfl <;> rfl]
    show Sum.inl _ = _
    congr 4
    funext j
    by_cases hj : j = i.toNat <;> simp [upI, upd, hj]
  rw [e] at k
  exact va_zast hx hb hK hP hD hS a 1 (xw_get ha) rfl (ixIn hi h0 h1) hd k
/-- a program, or null, into a row of programs -/
theorem V_aast {a n : Nat} {i : Int} {x : Option Nat} (hd : decode M.1 pc = .ok (.aastore, 1)) (ha : st.1[a]? = some (2, n)) (h0 : 0 ≤ i) (h1 : i < n) (hxk : ∀ b, x = some b → st.1[b]? = some (6, 0)) (ok : OK X M) (kk : V X (pc + 1) env stk (stR st a i.toNat x) bc bs) : V X pc env (vR x :: vI i :: vR (some a) :: stk) st bc bs := by
  refine V_rowset (st' := stR st a i.toNat x) ha rfl (fun _ _ _ _ _ _ h => xcell_R h) (fun h hk => okS_R h (fun b hb => by subst hb; exact (okL_cons.mp hk).1)) (fun _ hk => (okL_cons.mp (okL_cons.mp (okL_cons.mp hk).2).2).2) (fun p l e R s m args below meth c Q ads H locs ls cells slots A D cI cZ cP H0 hx hb hK hP hD hS hk hml hown hts hfr hlo k => ?_) ok kk
  have hi : inR i := (okL_cons.mp (okL_cons.mp hk).2).1
  have e : xcell ads cI cZ cP (stR st a i.toNat x) a (2, n) = .inl (cP, n, .inr (.inr (.inr (.inr (va_up (fun j => rfA ads (st.2.2 a j)) (Int32.ofInt i).toNatClampNeg (rfA ads x)))))) := by
    rw [ixN hi]
    show Sum.inl _ = _
    congr 7
    funext j
    by_cases hj : j = i.toNat <;> simp [upR, va_up, hj]
  rw [e] at k
  cases x with
  | none => exact va_astqN hx hb hK hP hD hS a 2 (xw_get ha) rfl (ixIn hi h0 h1) hd k
  | some b => exact va_astq (r := (RX3, TX3, 9)) hx hb hK hP hD hS a 2 b 3 (xw_get ha) rfl (xw_get (hxk b rfl)) rfl (ixIn hi h0 h1) hd k
/-- what a copy leaves -/
def stC (st : XS) (a0 a : Nat) (sp dp n : Nat) : XS := (st.1, fun b j => if b = a ∧ dp ≤ j ∧ j < dp + n then st.2.1 a0 (sp + (j - dp)) else st.2.1 b j, st.2.2)
theorem V_copy {a0 a n0 n1 ix : Nat} {sp dp n : Int} (hd : decode M.1 pc = .ok (.invokestatic ix, 3)) (hlk : Cond.methodLink M.2.2.1 ix arraycopyName ∈ wAll) (hnat : Cond.native arraycopyName ∈ wAll) (hstat : Cond.static arraycopyName ∈ wAll) (hini : Cond.initialized "java/lang/System" ∈ wAll) (hfr1 : 1 ≤ M.2.2.2.2.1) (hlo1 : catS stk + (nativeFrameWords "java/lang/System" "arraycopy" 5 + 11) ≤ M.2.2.2.2.2.1)
    (ha0 : st.1[a0]? = some (0, n0)) (ha : st.1[a]? = some (0, n1)) (h1 : 0 ≤ sp) (h2 : 0 ≤ dp) (h3 : 0 ≤ n) (h4 : sp + n ≤ n0) (h5 : dp + n ≤ n1) (ok : OK X M) (kk : V X (pc + 3) env stk (stC st a0 a sp.toNat dp.toNat n.toNat) bc bs) : V X pc env (vI n :: vI dp :: vR (some a) :: vI sp :: vR (some a0) :: stk) st bc bs := by
  have hoc : ∀ (ads : List Nat) (cI cZ cP : ClassId) (b : Nat) (kd : Nat × Nat), b ≠ a → xcell ads cI cZ cP (stC st a0 a sp.toNat dp.toNat n.toNat) b kd = xcell ads cI cZ cP st b kd := by
    intro ads cI cZ cP b kd hb
    have e : ∀ j, (stC st a0 a sp.toNat dp.toNat n.toNat).2.1 b j = st.2.1 b j := fun j => by simp [stC, hb]
    obtain ⟨kd1, kd2⟩ := kd
    match kd1 with
    | 0 => simp only [xcell, e]
    | 1 => simp only [xcell, e]
    | 2 => rfl
    | c + 3 =>
      have : fval ads (stC st a0 a sp.toNat dp.toNat n.toNat) b c = fval ads st b c := by funext j; simp only [fval, e]; rfl
      simp only [xcell, this]
  refine V_rowset (st' := stC st a0 a sp.toNat dp.toNat n.toNat) ha rfl hoc (fun h hk => ⟨fun b j => ?_, h.2⟩) (fun _ hk => (okL_cons.mp (okL_cons.mp (okL_cons.mp (okL_cons.mp (okL_cons.mp hk).2).2).2).2).2) (fun p l e R s m args below meth c Q ads H locs ls cells slots A D cI cZ cP H0 hx hb hK hP hD hS hk hml hown hts hfr hlo k => ?_) ok kk
  · show inR (if _ then _ else _)
    split
    · exact h.1 _ _
    · exact h.1 _ _
  have hn : inR n := (okL_cons.mp hk).1
  have hdp : inR dp := (okL_cons.mp (okL_cons.mp hk).2).1
  have hsp : inR sp := (okL_cons.mp (okL_cons.mp (okL_cons.mp (okL_cons.mp hk).2).2).2).1
  have ng : ∀ {z : Int}, inR z → 0 ≤ z → ¬ Int32.ofInt z < 0 := fun hz h0 q => by have := (i32_lt hz inR_0).mp q; omega
  have e : xcell ads cI cZ cP (stC st a0 a sp.toNat dp.toNat n.toNat) a (0, n1) = .inl (cI, n1, .inl (va_cpy (fun j => Int32.ofInt (st.2.1 a0 j)) (fun j => Int32.ofInt (st.2.1 a j)) (Int32.ofInt sp).toNatClampNeg (Int32.ofInt dp).toNatClampNeg (Int32.ofInt n).toNatClampNeg)) := by
    rw [ixN hn, ixN hdp, ixN hsp]
    show Sum.inl _ = _
    congr 4
    funext j
    simp only [stC, va_cpy, true_and]
    split <;> rfl
  rw [e] at k
  exact va_copyi hx hb hml hown (hts _ hlk) (hts _ hnat) (hts _ hstat) (hts _ hini) hK hP hD hS a0 a 0 0 (xw_get ha0) (xw_get ha) rfl rfl rfl (ng hsp h1) (ng hdp h2) (ng hn h3) (by rw [ixN hsp, ixN hn]; omega) (by rw [ixN hdp, ixN hn]; omega) (fun _ _ => rfl) (by omega) (by rw [cv_catS]; omega) hd k
end VRO
