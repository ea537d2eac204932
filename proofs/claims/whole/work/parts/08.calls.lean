/-! calls, ends, statics -/
/-- what a body does with its arguments and its world, by its ends -/
abbrev XB : Type := List AV → XS → (AV → XS → Prop) → Prop
def rv (ads : List Nat) (v : AV) : Option Value := if v = vU then none else some (cv ads v)
def xPc (base : Nat) (D : va_G) (cI cZ cP : ClassId) (ads : List Nat) (st : XS) (U : State) : Prop :=
  ads.length = st.1.length ∧ va_P D vwCl (xw ads cI cZ cP st) U.heap ∧ va_D (fun q => base ≤ q) (xw ads cI cZ cP st) ∧ okS st ∧ va_K D vwCl (xTys cI cZ cP) U ∧ base ≤ U.heap.size ∧ SF base U
def xQc (base : Nat) (D : va_G) (cI cZ cP : ClassId) (ads : List Nat) (K : AV → XS → Prop) : Array Value → State → Outcome → State → Prop := fun _ s0 oc t =>
  (∃ (v : AV) (st' : XS) (ads' : List Nat), oc = .returned (rv ads' v) ∧ K v st' ∧ okV st'.1.length v ∧ ads <+: ads' ∧ ads'.length = st'.1.length ∧ va_P D vwCl (xw ads' cI cZ cP st') t.heap ∧ va_D (fun q => base ≤ q) (xw ads' cI cZ cP st') ∧ okS st') ∧ va_F (fun q => base ≤ q) s0 t
/-- a body's numbers: its name, code, locals, answer, and its room: frames, locals' words, cells, slots -/
abbrev NI : Type := MethodName × ByteArray × Nat × Option FieldType × Nat × Nat × Nat × Nat
def wsOf (Y : NI) : List Cond := .code Y.1 Y.2.1 Y.2.2.1 Y.2.2.2.1 :: wAll
def rmOf (Y : NI) : Room := { frames := Y.2.2.2.2.1, cells := Y.2.2.2.2.2.2.1, slots := Y.2.2.2.2.2.2.2, locals := Y.2.2.2.2.2.1 }
/-- the machine's method does what the body says -/
def Snd (Y : NI) (B : XB) : Prop := ∀ (l : Launch) (base : Nat) (D : va_G) (cI cZ cP : ClassId) (ads : List Nat) (st : XS) (as : List AV) (K : AV → XS → Prop), B as st K → okL st.1.length as →
  Met l Y.1 (wsOf Y) (rmOf Y) (va_Pc (as.map (cv ads)) (xPc base D cI cZ cP ads st)) (xQc base D cI cZ cP ads K) Y.2.2.2.2.2.2.1 Y.2.2.2.2.2.2.2 (fun q => base ≤ q)
theorem xPc_blind {av : List Value} {base : Nat} {D : va_G} {cI cZ cP : ClassId} {ads : List Nat} {st : XS} : FrameBlind (va_Pc av (xPc base D cI cZ cP ads st)) := by
  intro a U g mk h
  obtain ⟨h0, h1, h2, h3, h4, h5, h6, h7⟩ := h
  exact ⟨h0, h1, h2, h3, h4, va_K.moved (u := U) (U := U.calling g mk a) (Vm.Alike.refl U.vm) h5, h6, SF.same (u := U) rfl rfl h7⟩
theorem xPc_of {base : Nat} {D : va_G} {cI cZ cP : ClassId} {ads0 ads : List Nat} {st : XS} {s U : State} {H : Heap} {locs : List Loc} (hU : U.heap = H) (hW : s.WarmedH U.vm) (hK : va_K D vwCl (xTys cI cZ cP) s) (hbase : base ≤ s.heap.size) (hSF : SF base s) (hH : xH base D cI cZ cP ads0 s.heap ads st H locs) : xPc base D cI cZ cP ads st U := by
  obtain ⟨hp1, hlen, hP, hD, hS, hokS⟩ := hH
  exact ⟨hlen, by rw [hU]; exact hP, hD, hokS, va_K.moved hW.alike hK, by rw [hU]; exact Nat.le_trans hbase hS.1, hSF.keep hW (fun q h1 h2 => by rw [hU]; exact hS.2.1 q h1 h2)⟩
section VCA
variable {X : CX} {M : MI} {pc : Nat} {env : XE} {stk : List AV} {st : XS} {bc bs : Nat}
/-- behind a call -/
theorem V_ret {p : Program} {l : Launch} {e : Env} {R : Room} {s : State} {m : MethodId} {args : Array Value} {below : List Frame} {meth : Method} {c : Code} {Q : State → Prop} {nL base : Nat} {D : va_G} {cI cZ cP : ClassId} {ads0 ads : List Nat} {H : Heap} {locs : List Loc} {ls : Array Slot} {cells slots mc ms : Nat} {av : Array Value} {st0 : List Value} {K : AV → XS → Prop}
    (kk : ∀ v st', K v st' → V (p, l, e, R, s, m, args, below, meth, c, Q, nL, base, D, cI, cZ, cP, ads0) (pc + 3) env ((if v = vU then [] else [v]) ++ stk) st' bc bs)
    (hcl : cells + (bc + mc) ≤ R.cells) (hsl : slots + (bs + ms) ≤ R.slots) (hbase : base ≤ s.heap.size) (hH : xH base D cI cZ cP ads0 s.heap ads st H locs) (hl : xL ls nL ads env) (hen : okL st.1.length env) (hk : okL st.1.length stk)
    (hr : va_Run p l e R s m args below meth c H locs cells slots mc ms (F0 m pc ls st0) (stk.map (cv ads)) (xQc base D cI cZ cP ads K av) (fun q => base ≤ q)) : W p l e R s m args below meth c H locs cells slots Q (F0 m pc ls st0) := by
  intro T hT XX
  obtain ⟨v, st₀, t, T', L, h0, X', hL, e1, e2, ⟨⟨w, st', ads', hv, hKw, hw, hpre, hlen', hP', hD', hok'⟩, hz, hkeep⟩, stp⟩ := hr T hT XX
  cases hv
  rw [h0] at hz hkeep
  obtain ⟨hp1, hlen, hP, hD, hS, hokS⟩ := hH
  have hle : st.1.length ≤ st'.1.length := by rw [← hlen, ← hlen']; exact hpre.length_le
  have hS' : va_S (fun q => base ≤ q) s.heap T'.heap (locs ++ L) := ⟨Nat.le_trans hS.1 (by rw [e1]; exact hz), fun q h1 h2 => by rw [e1, hkeep q (Nat.lt_of_lt_of_le h1 hS.1) h2]; exact hS.2.1 q h1 h2, fun q hq => by
    rcases List.mem_append.mp hq with h | h
    · exact hS.2.2 q h
    · exact hL q h⟩
  have hokw : okL st'.1.length ((if w = vU then [] else [w]) ++ stk) := by
    intro z hz
    rcases List.mem_append.mp hz with h | h
    · split at h
      · cases h
      · rw [List.mem_singleton.mp h]; exact hw
    · exact okV_le hle (hk z h)
  obtain ⟨t2, a1, b1⟩ := kk w st' hKw ads' T'.heap (locs ++ L) ls (cells + mc) (slots + ms) (by omega) (by omega) ⟨hp1.trans hpre, hlen', by rw [e1]; exact hP', hD', hS', hok'⟩ (xL_pre hpre (by rw [hlen]; exact hen) hl) (okL_le hle hen) hokw T' rfl X'
  refine ⟨t2, stp t2 ?_, b1⟩
  have es : ((if w = vU then [] else [w]) ++ stk).map (cv ads') = (rv ads' w).toList ++ stk.map (cv ads) := by
    rw [List.map_append, map_pre (l := stk) hpre (by rw [hlen]; exact hk)]
    congr 1
    unfold rv
    split <;> rfl
  rw [es] at a1
  exact a1
theorem good_wAll {w : Cond} (h : w ∈ wAll) : (w.onTables && w.keeps) = true ∨ ∃ ty, w = .arrayClass ty := good_of_word (List.mem_filter.mp h).2
theorem goodIn_ws {Y : NI} (hc : Cond.code Y.1 Y.2.1 Y.2.2.1 Y.2.2.2.1 ∈ wAll) : GoodIn wAll (wsOf Y) := by
  intro w hw
  rcases List.mem_cons.mp hw with h | h
  · rw [h]; exact ⟨hc, good_wAll hc⟩
  · exact ⟨h, good_wAll h⟩
/-- what every call needs: the callee's words, its room in the caller's -/
def lkC (Y : NI) (n : Nat) : Prop := Cond.code Y.1 Y.2.1 Y.2.2.1 Y.2.2.2.1 ∈ wAll ∧ Cond.initialized Y.1.cls ∈ wAll ∧ (Y.1.cls ≠ "java/lang/invoke/MethodHandle" ∧ Y.1.cls ≠ "java/lang/invoke/VarHandle" ∧ (parseMethodDescriptor Y.1.desc).map (fun d => d.parameters.length) = some n)
def rmC (M : MI) (Y : NI) : Prop := Y.2.2.2.2.1 + 1 ≤ M.2.2.2.2.1 ∧ 8 + (Y.2.2.1 + 11) + Y.2.2.2.2.2.1 ≤ M.2.2.2.2.2.1
/-- a call of a method of an object of kind c: public or of the same kind (nest = none), or of a nest mate -/
def lkV (own : String) (i c : Nat) (Y : NI) (nest : Bool) : Prop := ∃ C T N, vwCl[c]? = some (C, T, N) ∧ (if nest = true then Cond.methodLinkNest own i Y.1 "RingUntie" ∈ wNest else Cond.methodLink own i Y.1 ∈ wAll) ∧ Cond.instanceMethod Y.1 ∈ wAll ∧ Cond.selects C Y.1 Y.1 ∈ wAll
theorem catS_map {ads : List Nat} {l : List AV} {m : MethodId} {pc : Nat} {ls : Array Slot} {rest : List Value} (h : catS l ≤ 8) : 2 * (F0 m pc ls rest).monitorRoom + ((l.map (cv ads)).map fun v => v.category).sum ≤ 8 := lv_room (by rw [cv_catS]; exact h)
theorem V_callV {i a c n : Nat} {nest : Bool} {Y : NI} {B : XB} {as : List AV} {K : AV → XS → Prop} (hd : decode M.1 pc = .ok (.invokevirtual i, 3)) (hC : lkC Y n) (hV : lkV M.2.2.1 i c Y nest) (hR : rmC M Y) (hB : Snd Y B) (hn : as.length = n) (hstk : catS stk ≤ 8) (ha : st.1[a]? = some (c + 3, 0)) (hS : B (vR (some a) :: as) st K)
    (ok : OK X M) (kk : ∀ v st', K v st' → V X (pc + 3) env ((if v = vU then [] else [v]) ++ stk) st' bc bs) : V X pc env (as.reverse ++ vR (some a) :: stk) st (bc + Y.2.2.2.2.2.2.1) (bs + Y.2.2.2.2.2.2.2) := by
  obtain ⟨p, l, e, R, s, m, args, below, meth, c0, Q, nL, base, D, cI, cZ, cP, ads0⟩ := X
  obtain ⟨hx, hb, hml, hnL, hown, hts, hK, hbase, hfr, hlo, hmn, hSF, hEx⟩ := ok
  obtain ⟨hcode, hini, hdd⟩ := hC
  obtain ⟨C, T, N, hc, hlk, hinst, hsel⟩ := hV
  intro ads H locs ls cells slots hcl hsl hH hl hen hk
  have hk1 : okL st.1.length (vR (some a) :: stk) := fun v hv => hk v (List.mem_append_right _ hv)
  have hkA : okL st.1.length (vR (some a) :: as) := fun v hv => by
    rcases List.mem_cons.mp hv with h | h
    · rw [h]; exact (okL_cons.mp hk1).1
    · exact hk v (List.mem_append_left _ (List.mem_reverse.mpr h))
  have hM := hB l base D cI cZ cP ads st (vR (some a) :: as) K hS hkA
  have hPre : PreV s H C (ads.getD a 0) (va_Pc ((vR (some a) :: as).map (cv ads)) (xPc base D cI cZ cP ads st)) (as.map (cv ads)) := ⟨xPc_blind, va_recv hK hH.2.2.1 hc (xw_get ha), fun U hU hW => ⟨rfl, xPc_of hU hW hK hbase hSF hH⟩⟩
  have hst : (as.reverse ++ vR (some a) :: stk).map (cv ads) = (as.map (cv ads)).reverse ++ .ref (ads.getD a 0) :: stk.map (cv ads) := by simp [List.map_reverse, cv, rfA, va_rf]
  rw [hst]
  refine V_ret kk hcl hsl hbase hH hl hen (okL_cons.mp hk1).2 ?_ (mc := Y.2.2.2.2.2.2.1) (ms := Y.2.2.2.2.2.2.2) (av := (Value.ref (ads.getD a 0) :: as.map (cv ads)).toArray)
  cases nest with
  | false => exact va_runV (C := C) (bytes := Y.2.1) (maxL := Y.2.2.1) (ret := Y.2.2.2.1) (n := n) (nL := nL) (Ts := wAll) ⟨hx, hb, by rw [hml, hnL], hown, hts⟩ hM ⟨callB_of n hts (goodIn_ws hcode) rfl rfl rfl (hts _ hini) (hts _ hlk) hdd ⟨by have := hR.1; show Y.2.2.2.2.1 + 1 ≤ R.frames; omega, by have := hR.2; show 8 + (Y.2.2.1 + 11) + Y.2.2.2.2.2.1 ≤ R.locals; omega⟩, hts _ hinst, hts _ hsel⟩ hPre rfl (by simpa using hn) hl.1 rfl (catS_map hstk) hd ⟨by omega, by omega⟩
  | true => exact va_runVN (C := C) (bytes := Y.2.1) (maxL := Y.2.2.1) (ret := Y.2.2.2.1) (n := n) (nL := nL) (Ts := wAll) (host := "RingUntie") ⟨hx, hb, by rw [hml, hnL], hown, hts⟩ hM ⟨va_cnB n hts (goodIn_ws hcode) rfl rfl rfl (hSF.nest hlk) (hts _ hini) hdd ⟨by have := hR.1; show Y.2.2.2.2.1 + 1 ≤ R.frames; omega, by have := hR.2; show 8 + (Y.2.2.1 + 11) + Y.2.2.2.2.2.1 ≤ R.locals; omega⟩, hts _ hinst, hts _ hsel⟩ hPre rfl (by simpa using hn) hl.1 rfl (catS_map hstk) hd ⟨by omega, by omega⟩
/-- a call of a static method -/
def lkS (own : String) (i : Nat) (Y : NI) (nest : Bool) : Prop := (if nest = true then Cond.methodLinkNest own i Y.1 "RingUntie" ∈ wNest else Cond.methodLink own i Y.1 ∈ wAll) ∧ Cond.static Y.1 ∈ wAll
theorem V_callS {i n : Nat} {nest : Bool} {Y : NI} {B : XB} {as : List AV} {K : AV → XS → Prop} (hd : decode M.1 pc = .ok (.invokestatic i, 3)) (hC : lkC Y n) (hV : lkS M.2.2.1 i Y nest) (hR : rmC M Y) (hB : Snd Y B) (hn : as.length = n) (hstk : catS stk ≤ 8) (hS : B as st K)
    (ok : OK X M) (kk : ∀ v st', K v st' → V X (pc + 3) env ((if v = vU then [] else [v]) ++ stk) st' bc bs) : V X pc env (as.reverse ++ stk) st (bc + Y.2.2.2.2.2.2.1) (bs + Y.2.2.2.2.2.2.2) := by
  obtain ⟨p, l, e, R, s, m, args, below, meth, c0, Q, nL, base, D, cI, cZ, cP, ads0⟩ := X
  obtain ⟨hx, hb, hml, hnL, hown, hts, hK, hbase, hfr, hlo, hmn, hSF, hEx⟩ := ok
  obtain ⟨hcode, hini, hdd⟩ := hC
  obtain ⟨hlk, hstat⟩ := hV
  intro ads H locs ls cells slots hcl hsl hH hl hen hk
  have hk1 : okL st.1.length stk := fun v hv => hk v (List.mem_append_right _ hv)
  have hkA : okL st.1.length as := fun v hv => hk v (List.mem_append_left _ (List.mem_reverse.mpr hv))
  have hM := hB l base D cI cZ cP ads st as K hS hkA
  have hPre : PreS s H (va_Pc (as.map (cv ads)) (xPc base D cI cZ cP ads st)) (as.map (cv ads)) := ⟨xPc_blind, fun U hU hW => ⟨rfl, xPc_of hU hW hK hbase hSF hH⟩⟩
  have hst : (as.reverse ++ stk).map (cv ads) = (as.map (cv ads)).reverse ++ stk.map (cv ads) := by simp [List.map_reverse]
  rw [hst]
  refine V_ret kk hcl hsl hbase hH hl hen hk1 ?_ (mc := Y.2.2.2.2.2.2.1) (ms := Y.2.2.2.2.2.2.2) (av := (as.map (cv ads)).toArray)
  cases nest with
  | false => exact va_runS (bytes := Y.2.1) (maxL := Y.2.2.1) (ret := Y.2.2.2.1) (n := n) (nL := nL) (Ts := wAll) ⟨hx, hb, by rw [hml, hnL], hown, hts⟩ hM ⟨callB_of n hts (goodIn_ws hcode) rfl rfl rfl (hts _ hini) (hts _ hlk) hdd ⟨by have := hR.1; show Y.2.2.2.2.1 + 1 ≤ R.frames; omega, by have := hR.2; show 8 + (Y.2.2.1 + 11) + Y.2.2.2.2.2.1 ≤ R.locals; omega⟩, hts _ hstat⟩ hPre rfl (by simpa using hn) hl.1 rfl (catS_map hstk) hd ⟨by omega, by omega⟩
  | true => exact va_runSN (bytes := Y.2.1) (maxL := Y.2.2.1) (ret := Y.2.2.2.1) (n := n) (nL := nL) (Ts := wAll) (host := "RingUntie") ⟨hx, hb, by rw [hml, hnL], hown, hts⟩ hM ⟨va_cnB n hts (goodIn_ws hcode) rfl rfl rfl (hSF.nest hlk) (hts _ hini) hdd ⟨by have := hR.1; show Y.2.2.2.2.1 + 1 ≤ R.frames; omega, by have := hR.2; show 8 + (Y.2.2.1 + 11) + Y.2.2.2.2.2.1 ≤ R.locals; omega⟩, hts _ hstat, trivial⟩ hPre rfl (by simpa using hn) hl.1 rfl (catS_map hstk) hd ⟨by omega, by omega⟩
/-- a constructor -/
def lkI (own : String) (i : Nat) (Y : NI) (nest : Bool) : Prop := (if nest = true then Cond.methodLinkNest own i Y.1 "RingUntie" ∈ wNest else Cond.methodLink own i Y.1 ∈ wAll) ∧ Cond.instanceMethod Y.1 ∈ wAll ∧ Y.1.name = "<init>" ∧ Y.2.2.2.1 = none
theorem V_callI {i a n : Nat} {nest : Bool} {Y : NI} {B : XB} {as : List AV} {K : AV → XS → Prop} (hd : decode M.1 pc = .ok (.invokespecial i, 3)) (hC : lkC Y n) (hV : lkI M.2.2.1 i Y nest) (hR : rmC M Y) (hB : Snd Y B) (hn : as.length = n) (hstk : catS stk ≤ 8) (hS : B (vR (some a) :: as) st K)
    (ok : OK X M) (kk : ∀ v st', K v st' → V X (pc + 3) env ((if v = vU then [] else [v]) ++ stk) st' bc bs) : V X pc env (as.reverse ++ vR (some a) :: stk) st (bc + Y.2.2.2.2.2.2.1) (bs + Y.2.2.2.2.2.2.2) := by
  obtain ⟨p, l, e, R, s, m, args, below, meth, c0, Q, nL, base, D, cI, cZ, cP, ads0⟩ := X
  obtain ⟨hx, hb, hml, hnL, hown, hts, hK, hbase, hfr, hlo, hmn, hSF, hEx⟩ := ok
  obtain ⟨y, bytes, mL, ret, fr, lo, mc, ms⟩ := Y
  obtain ⟨hlk, hinst, hy, hret⟩ := hV
  have hret : ret = none := hret
  subst hret
  obtain ⟨hcode, hini, hdd⟩ := hC
  intro ads H locs ls cells slots hcl hsl hH hl hen hk
  have hk1 : okL st.1.length (vR (some a) :: stk) := fun v hv => hk v (List.mem_append_right _ hv)
  have hkA : okL st.1.length (vR (some a) :: as) := fun v hv => by
    rcases List.mem_cons.mp hv with h | h
    · rw [h]; exact (okL_cons.mp hk1).1
    · exact hk v (List.mem_append_left _ (List.mem_reverse.mpr h))
  have hM := hB l base D cI cZ cP ads st (vR (some a) :: as) K hS hkA
  have hPre : PreS s H (va_Pc ((vR (some a) :: as).map (cv ads)) (xPc base D cI cZ cP ads st)) (.ref (ads.getD a 0) :: as.map (cv ads)) := ⟨xPc_blind, fun U hU hW => ⟨rfl, xPc_of hU hW hK hbase hSF hH⟩⟩
  have hst : (as.reverse ++ vR (some a) :: stk).map (cv ads) = (as.map (cv ads)).reverse ++ .ref (ads.getD a 0) :: stk.map (cv ads) := by simp [List.map_reverse, cv, rfA, va_rf]
  rw [hst]
  refine V_ret kk hcl hsl hbase hH hl hen (okL_cons.mp hk1).2 ?_ (mc := mc) (ms := ms) (av := (Value.ref (ads.getD a 0) :: as.map (cv ads)).toArray)
  cases nest with
  | false => exact va_runI (bytes := bytes) (maxL := mL) (n := n) (nL := nL) (Ts := wAll) ⟨hx, hb, by rw [hml, hnL], hown, hts⟩ hM ⟨callB_of n hts (goodIn_ws hcode) rfl rfl rfl (hts _ hini) (hts _ hlk) hdd ⟨by have := hR.1; show fr + 1 ≤ R.frames; simp only at this; omega, by have := hR.2; show 8 + (mL + 11) + lo ≤ R.locals; simp only at this; omega⟩, hy, hts _ hinst⟩ hPre rfl (by simpa using hn) hl.1 rfl (catS_map hstk) hd ⟨by simp only at hcl; omega, by simp only at hsl; omega⟩
  | true => exact va_runIN (bytes := bytes) (maxL := mL) (n := n) (nL := nL) (Ts := wAll) (host := "RingUntie") ⟨hx, hb, by rw [hml, hnL], hown, hts⟩ hM ⟨va_cnB n hts (goodIn_ws hcode) rfl rfl rfl (hSF.nest hlk) (hts _ hini) hdd ⟨by have := hR.1; show fr + 1 ≤ R.frames; simp only at this; omega, by have := hR.2; show 8 + (mL + 11) + lo ≤ R.locals; simp only at this; omega⟩, hy, hts _ hinst⟩ hPre rfl (by simpa using hn) hl.1 rfl (catS_map hstk) hd ⟨by simp only at hcl; omega, by simp only at hsl; omega⟩
end VCA
