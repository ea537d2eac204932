/-! new cells -/
def stN (st : XS) (kd : Nat × Nat) : XS := (st.1 ++ [kd], fun b j => if b = st.1.length then 0 else st.2.1 b j, fun b j => if b = st.1.length then none else st.2.2 b j)
section VNE
variable {X : CX} {M : MI} {pc : Nat} {env : XE} {stk : List AV} {st : XS} {bc bs : Nat}
theorem getD_pre {ads ads' : List Nat} (h : ads <+: ads') {b : Nat} (hb : b < ads.length) : ads'.getD b 0 = ads.getD b 0 := by
  obtain ⟨r, rfl⟩ := h
  rw [List.getD_eq_getElem?_getD, List.getD_eq_getElem?_getD, List.getElem?_append_left hb]
theorem rfA_pre {ads ads' : List Nat} (h : ads <+: ads') {r : Option Nat} (hr : ∀ b, r = some b → b < ads.length) : rfA ads' r = rfA ads r := by
  cases r with
  | none => rfl
  | some b => simp only [rfA, Option.map_some, getD_pre h (hr b rfl)]
theorem cv_pre {ads ads' : List Nat} (h : ads <+: ads') {v : AV} (hv : okV ads.length v) : cv ads' v = cv ads v := by
  rcases v with x | x | r | u
  · rfl
  · rfl
  · simp only [cv]
    rw [rfA_pre h (fun b hb => by subst hb; exact hv)]
  · cases u <;> rfl
theorem map_pre {ads ads' : List Nat} (h : ads <+: ads') {l : List AV} (hl : okL ads.length l) : l.map (cv ads') = l.map (cv ads) := List.map_congr_left (fun v hv => cv_pre h (hl v hv))
theorem xL_pre {ads ads' : List Nat} (h : ads <+: ads') {ls : Array Slot} {nL : Nat} {env : XE} (he : okL ads.length env) (hl : xL ls nL ads env) : xL ls nL ads' env :=
  ⟨hl.1, hl.2.1, hl.2.2.1, fun i v hi hu => by rw [cv_pre h (okL_at he hi)]; exact hl.2.2.2 i v hi hu⟩
theorem okV_le {n n' : Nat} (h : n ≤ n') {v : AV} (hv : okV n v) : okV n' v := by
  rcases v with x | x | r | u
  · exact hv
  · exact hv
  · cases r with
    | none => trivial
    | some b => exact Nat.lt_of_lt_of_le hv h
  · trivial
theorem okL_le {n n' : Nat} (h : n ≤ n') {l : List AV} (hl : okL n l) : okL n' l := fun v hv => okV_le h (hl v hv)
theorem xcell_pre {ads ads' : List Nat} {cI cZ cP : ClassId} {st st' : XS} {b : Nat} {kd : Nat × Nat} (h : ads <+: ads') (hI : ∀ j, st'.2.1 b j = st.2.1 b j) (hR : ∀ j, st'.2.2 b j = st.2.2 b j) (hok : ∀ j c, st.2.2 b j = some c → c < ads.length) : xcell ads' cI cZ cP st' b kd = xcell ads cI cZ cP st b kd := by
  have e : ∀ j, rfA ads' (st'.2.2 b j) = rfA ads (st.2.2 b j) := fun j => by rw [hR]; exact rfA_pre h (hok j)
  obtain ⟨kd1, kd2⟩ := kd
  match kd1 with
  | 0 => simp only [xcell, hI]
  | 1 => simp only [xcell, hI]
  | 2 => simp only [xcell, e]
  | c + 3 =>
    have : fval ads' st' b c = fval ads st b c := by funext j; simp only [fval, hI, e]
    simp only [xcell, this]
theorem xw_new {ads : List Nat} {cI cZ cP : ClassId} {st : XS} {kd : Nat × Nat} {q : Nat} (hlen : ads.length = st.1.length) (hok : okS st) : xw (ads ++ [q]) cI cZ cP (stN st kd) = xw ads cI cZ cP st ++ [(q, xcell (ads ++ [q]) cI cZ cP (stN st kd) st.1.length kd)] := by
  apply List.ext_getElem?
  intro i
  by_cases hi : i < st.1.length
  · rw [List.getElem?_append_left (by rw [xw_len]; exact hi)]
    obtain ⟨k, hk⟩ : ∃ k, st.1[i]? = some k := ⟨_, List.getElem?_eq_getElem hi⟩
    rw [xw_get hk, xw_get (k := k) (by show (st.1 ++ [kd])[i]? = some k; rw [List.getElem?_append_left hi]; exact hk)]
    have hne : ¬ i = st.1.length := by omega
    rw [getD_pre (List.prefix_append ads [q]) (by omega), xcell_pre (st := st) (List.prefix_append ads [q]) (fun j => by simp [stN, hne]) (fun j => by simp [stN, hne]) (fun j c hc => by rw [hlen]; exact hok.2 i j c hc)]
  · rw [List.getElem?_append_right (by rw [xw_len]; omega), xw_len]
    by_cases hi2 : i = st.1.length
    · subst hi2
      rw [xw_get (k := kd) (by show (st.1 ++ [kd])[st.1.length]? = some kd; simp)]
      simp [← hlen]
    · rw [List.getElem?_eq_none (by rw [xw_len]; simp [stN]; omega), List.getElem?_eq_none (by simp; omega)]
theorem okS_N {st : XS} {kd : Nat × Nat} (h : okS st) : okS (stN st kd) := by
  refine ⟨fun a k => ?_, fun a k b hb => ?_⟩
  · show inR (if _ then _ else _)
    split
    · exact inR_0
    · exact h.1 a k
  · have hb : (if a = st.1.length then none else st.2.2 a k) = some b := hb
    split at hb
    · cases hb
    · have := h.2 a k b hb
      show b < (st.1 ++ [kd]).length
      simp; omega
/-- behind a new cell -/
theorem V_newcell {p : Program} {l : Launch} {e : Env} {R : Room} {s : State} {m : MethodId} {args : Array Value} {below : List Frame} {meth : Method} {c : Code} {Q : State → Prop} {nL base : Nat} {D : va_G} {cI cZ cP : ClassId} {ads0 ads : List Nat} {H H1 : Heap} {locs : List Loc} {ls : Array Slot} {cells slots q pc' : Nat} {kd : Nat × Nat} {ec : va_E} {nc ns : Nat}
    (kk : V (p, l, e, R, s, m, args, below, meth, c, Q, nL, base, D, cI, cZ, cP, ads0) pc' env (vR (some st.1.length) :: stk) (stN st kd) bc bs)
    (hcl : cells + (bc + nc) ≤ R.cells) (hsl : slots + (bs + ns) ≤ R.slots) (hH : xH base D cI cZ cP ads0 s.heap ads st H locs) (hl : xL ls nL ads env) (hen : okL st.1.length env) (hk : okL st.1.length stk)
    (he : ec = xcell (ads ++ [q]) cI cZ cP (stN st kd) st.1.length kd) (hP : va_P D vwCl (xw ads cI cZ cP st ++ [(q, ec)]) H1) (hD : va_D (fun q => base ≤ q) (xw ads cI cZ cP st ++ [(q, ec)])) (hS : va_S (fun q => base ≤ q) s.heap H1 locs) :
    W p l e R s m args below meth c H1 locs (cells + nc) (slots + ns) Q (F0 m pc' ls (.ref q :: stk.map (cv ads))) := by
  obtain ⟨hp1, hlen, -, -, -, hokS⟩ := hH
  have hpre : ads <+: ads ++ [q] := List.prefix_append ads [q]
  rw [he] at hP hD
  rw [← xw_new hlen hokS] at hP hD
  have h := kk (ads ++ [q]) H1 locs ls (cells + nc) (slots + ns) (by omega) (by omega) ⟨hp1.trans hpre, by simp [stN, hlen], hP, hD, hS, okS_N hokS⟩ (xL_pre hpre (by rw [hlen]; exact hen) hl) (okL_le (by simp [stN]) hen) (okL_cons.mpr ⟨by show st.1.length < (st.1 ++ [kd]).length; simp, okL_le (by simp [stN]) hk⟩)
  have e2 : (vR (some st.1.length) :: stk).map (cv (ads ++ [q])) = .ref q :: stk.map (cv ads) := by
    rw [List.map_cons, map_pre hpre (by rw [hlen]; exact hk)]
    simp [cv, rfA, ← hlen, va_rf]
  rw [e2] at h
  exact h
/-- what a new object of kind c needs: the link of its name by index i, its table, its blank fields -/
def lkN (own : String) (i c : Nat) : Prop := ∃ (C : String) (T : u_T) (N : Nat), vwCl[c]? = some (C, T, N) ∧ fN c = N ∧ (∀ w ∈ u_ws C T N, w ∈ wAll) ∧ Cond.classLink own i C ∈ wAll ∧ Cond.instantiable C N ∈ wAll ∧ Cond.initialized C ∈ wAll ∧ ∃ ty : Nat → FieldType, (∀ k, k < N → parseFieldDescriptor (T k).2.2.1 = some (ty k)) ∧ ∀ k, k < N → defaultValue (ty k) = if fR c k = true then .null else .int 0
theorem V_new {i c : Nat} (hd : decode M.1 pc = .ok (.new i, 3)) (hl : lkN M.2.2.1 i c) (ok : OK X M) (kk : V X (pc + 3) env (vR (some st.1.length) :: stk) (stN st (c + 3, 0)) bc bs) : V X pc env stk st (bc + 1) (bs + fN c) := by
  obtain ⟨p, l, e, R, s, m, args, below, meth, c0, Q, nL, base, D, cI, cZ, cP, ads0⟩ := X
  obtain ⟨hx, hb, hml, hnL, hown, hts, hK, hbase, -⟩ := ok
  obtain ⟨C, T, N, hc, hfN, hin, hcl2, hinst, hini, ty, hty, hdef⟩ := hl
  intro ads H locs ls cells slots hcl hsl hH hl hen hk
  refine va_new hx hb hts hin ty hty hown (hts _ hcl2) (hts _ hinst) (hts _ hini) hK hH.2.2.1 hH.2.2.2.1 hH.2.2.2.2.1 (fun q hq => Nat.le_trans hbase hq) hc (fs := (List.range (fN c)).map (fval [] (stN st (c + 3, 0)) st.1.length c)) (fun j hj => ?_) (by omega) (by omega) hd (fun q H1 hP hD hS => ?_)
  · rw [hdef j hj, vp_V, List.getD_eq_getElem?_getD, fval_get (by omega)]
    simp [fval, stN, rfA, va_rf, i32_0]
  · rw [← hfN]
    refine V_newcell kk (by omega) (by omega) hH hl hen hk ?_ hP hD hS
    show Sum.inr _ = Sum.inr _
    congr 2
    apply List.map_congr_left
    intro j _
    simp [fval, stN, rfA]
theorem V_newi {n : Int} {N : Nat} (hd : decode M.1 pc = .ok (.newarray .int, 2)) (hw : Cond.arrayClass .int ∈ wAll) (hn : n = (N : Int)) (hN : N ≤ 100000) (ok : OK X M) (kk : V X (pc + 2) env (vR (some st.1.length) :: stk) (stN st (0, N)) bc bs) : V X pc env (vI n :: stk) st (bc + 1) (bs + N) := by
  obtain ⟨p, l, e, R, s, m, args, below, meth, c0, Q, nL, base, D, cI, cZ, cP, ads0⟩ := X
  obtain ⟨hx, hb, hml, hnL, hown, hts, hK, hbase, -⟩ := ok
  intro ads H locs ls cells slots hcl hsl hH hl hen hk
  have hi : inR n := (okL_cons.mp hk).1
  refine va_newa (atype := .int) (ty := .int) (N' := N) (a0 := (N, .inl (fun _ => 0))) hx hb (hts _ hw) rfl hK hH.2.2.1 hH.2.2.2.1 hH.2.2.2.2.1 (fun q hq => Nat.le_trans hbase hq) (fun _ => rfl) (fun q => by have := (i32_lt hi inR_0).mp q; omega) (by rw [ixN hi]; omega) (by show N * 4 ≤ _; omega) (by omega) (by omega) hd (fun q cA H1 hK1 hP hD hS => ?_)
  have e1 : cA = cI := by
    have h1 : s.vm.findClass ("[" ++ FieldType.int.toString) = some cA := (hK1.2 3 (cA, .int) rfl).2
    have h2 : s.vm.findClass ("[" ++ FieldType.int.toString) = some cI := (hK.2 0 (cI, .int) rfl).2
    exact Option.some.inj (h1.symm.trans h2)
  subst e1
  refine V_newcell kk (by omega) (by omega) hH hl hen (okL_cons.mp hk).2 ?_ hP hD hS
  show Sum.inl _ = Sum.inl _
  congr 4
  funext j
  simp [stN, i32_0]
theorem V_newz {n : Int} {N : Nat} (hd : decode M.1 pc = .ok (.newarray .boolean, 2)) (hw : Cond.arrayClass .boolean ∈ wAll) (hn : n = (N : Int)) (hN : N ≤ 100000) (ok : OK X M) (kk : V X (pc + 2) env (vR (some st.1.length) :: stk) (stN st (1, N)) bc bs) : V X pc env (vI n :: stk) st (bc + 1) (bs + N) := by
  obtain ⟨p, l, e, R, s, m, args, below, meth, c0, Q, nL, base, D, cI, cZ, cP, ads0⟩ := X
  obtain ⟨hx, hb, hml, hnL, hown, hts, hK, hbase, -⟩ := ok
  intro ads H locs ls cells slots hcl hsl hH hl hen hk
  have hi : inR n := (okL_cons.mp hk).1
  refine va_newa (atype := .boolean) (ty := .boolean) (N' := N) (a0 := (N, .inl (fun _ => 0))) hx hb (hts _ hw) rfl hK hH.2.2.1 hH.2.2.2.1 hH.2.2.2.2.1 (fun q hq => Nat.le_trans hbase hq) (fun _ => rfl) (fun q => by have := (i32_lt hi inR_0).mp q; omega) (by rw [ixN hi]; omega) (by show N * 1 ≤ _; omega) (by omega) (by omega) hd (fun q cA H1 hK1 hP hD hS => ?_)
  have e1 : cA = cZ := by
    have h1 : s.vm.findClass ("[" ++ FieldType.boolean.toString) = some cA := (hK1.2 3 (cA, .boolean) rfl).2
    have h2 : s.vm.findClass ("[" ++ FieldType.boolean.toString) = some cZ := (hK.2 1 (cZ, .boolean) rfl).2
    exact Option.some.inj (h1.symm.trans h2)
  subst e1
  refine V_newcell kk (by omega) (by omega) hH hl hen (okL_cons.mp hk).2 ?_ hP hD hS
  show Sum.inl _ = Sum.inl _
  congr 4
  funext j
  simp [stN, i32_0]
theorem V_newp {n : Int} {N i : Nat} (hd : decode M.1 pc = .ok (.anewarray i, 3)) (hlk : Cond.classLink M.2.2.1 i "RingUntie$Program" ∈ wAll) (hn : n = (N : Int)) (hN : N ≤ 100000) (ok : OK X M) (kk : V X (pc + 3) env (vR (some st.1.length) :: stk) (stN st (2, N)) bc bs) : V X pc env (vI n :: stk) st (bc + 1) (bs + N) := by
  obtain ⟨p, l, e, R, s, m, args, below, meth, c0, Q, nL, base, D, cI, cZ, cP, ads0⟩ := X
  obtain ⟨hx, hb, hml, hnL, hown, hts, hK, hbase, hfr, hlo, hmn, hSF, hEx⟩ := ok
  intro ads H locs ls cells slots hcl hsl hH hl hen hk
  have hi : inR n := (okL_cons.mp hk).1
  refine va_newq (N' := N) (C := "RingUntie$Program") hx hb hown (hts _ hlk) hSF.over hK hH.2.2.1 hH.2.2.2.1 hH.2.2.2.2.1 (fun q hq => Nat.le_trans hbase hq) (fun q => by have := (i32_lt hi inR_0).mp q; omega) (by rw [ixN hi]; omega) (by omega) (by omega) (by omega) hd (fun q cA H1 hK1 hP hD hS => ?_)
  have e1 : cA = cP := by
    obtain ⟨-, -, -, -, -, h1⟩ := (hK1.2 3 (cA, .object "RingUntie$Program") rfl).2
    obtain ⟨-, -, -, -, -, h2⟩ := (hK.2 2 (cP, .object "RingUntie$Program") rfl).2
    exact Option.some.inj (h1.symm.trans h2)
  subst e1
  refine V_newcell kk (by omega) (by omega) hH hl hen (okL_cons.mp hk).2 ?_ hP hD hS
  show Sum.inl _ = Sum.inl _
  congr 7
  funext j
  simp [stN, rfA]
end VNE
