/-! fields and rows of the plain world -/
def upI (f : Nat → Nat → Int) (a k : Nat) (x : Int) : Nat → Nat → Int := fun b j => if b = a ∧ j = k then x else f b j
def upR (f : Nat → Nat → Option Nat) (a k : Nat) (x : Option Nat) : Nat → Nat → Option Nat := fun b j => if b = a ∧ j = k then x else f b j
abbrev stI (st : XS) (a k : Nat) (x : Int) : XS := (st.1, upI st.2.1 a k x, st.2.2)
abbrev stR (st : XS) (a k : Nat) (x : Option Nat) : XS := (st.1, st.2.1, upR st.2.2 a k x)
section VCE
variable {X : CX} {M : MI} {pc : Nat} {env : XE} {stk : List AV} {st : XS} {bc bs : Nat}
theorem xw_set {ads : List Nat} {cI cZ cP : ClassId} {st st' : XS} {a : Nat} {e : va_E} {kd : Nat × Nat} (h : st.1[a]? = some kd) (h1 : st'.1 = st.1) (hc : xcell ads cI cZ cP st' a kd = e) (ho : ∀ b k, b ≠ a → xcell ads cI cZ cP st' b k = xcell ads cI cZ cP st b k) :
    (xw ads cI cZ cP st).set a (ads.getD a 0, e) = xw ads cI cZ cP st' := by
  apply List.ext_getElem?
  intro i
  rw [List.getElem?_set, xw_len]
  have hlt : a < st.1.length := (List.getElem?_eq_some_iff.mp h).1
  by_cases hi : a = i
  · subst hi
    rw [if_pos rfl, if_pos hlt, xw_get (st := st') (k := kd) (by rw [h1]; exact h), hc]
  · rw [if_neg hi]
    simp only [xw, List.getElem?_mapIdx, h1]
    cases st.1[i]? with
    | none => rfl
    | some k => simp only [Option.map_some, ho i k (fun q => hi q.symm)]
theorem xcell_I {ads : List Nat} {cI cZ cP : ClassId} {st : XS} {a k : Nat} {x : Int} {b : Nat} {kd : Nat × Nat} (hb : b ≠ a) : xcell ads cI cZ cP (stI st a k x) b kd = xcell ads cI cZ cP st b kd := by
  have e : ∀ j, upI st.2.1 a k x b j = st.2.1 b j := fun j => by simp [upI, hb]
  obtain ⟨kd1, kd2⟩ := kd
  match kd1 with
  | 0 => simp only [xcell, e]
  | 1 => simp only [xcell, e]
  | 2 => rfl
  | c + 3 =>
    have : fval ads (stI st a k x) b c = fval ads st b c := by funext j; simp only [fval, e]
    simp only [xcell, this]
theorem xcell_R {ads : List Nat} {cI cZ cP : ClassId} {st : XS} {a k : Nat} {x : Option Nat} {b : Nat} {kd : Nat × Nat} (hb : b ≠ a) : xcell ads cI cZ cP (stR st a k x) b kd = xcell ads cI cZ cP st b kd := by
  have e : ∀ j, upR st.2.2 a k x b j = st.2.2 b j := fun j => by simp [upR, hb]
  obtain ⟨kd1, kd2⟩ := kd
  match kd1 with
  | 0 => rfl
  | 1 => rfl
  | 2 => simp only [xcell, e]
  | c + 3 =>
    have : fval ads (stR st a k x) b c = fval ads st b c := by funext j; simp only [fval, e]
    simp only [xcell, this]
theorem okS_I {st : XS} {a k : Nat} {x : Int} (h : okS st) (hx : inR x) : okS (stI st a k x) := by
  refine ⟨fun b j => ?_, h.2⟩
  show inR (upI st.2.1 a k x b j)
  unfold upI
  split
  · exact hx
  · exact h.1 b j
theorem okS_R {st : XS} {a k : Nat} {x : Option Nat} (h : okS st) (hx : ∀ b, x = some b → b < st.1.length) : okS (stR st a k x) := by
  refine ⟨h.1, fun b j c hc => ?_⟩
  have hc : upR st.2.2 a k x b j = some c := hc
  unfold upR at hc
  split at hc
  · exact hx c hc
  · exact h.2 b j c hc
/-- a field's links: its kind c with its table, its place k, read by index i of the own kind's pool -/
def lkF (own : String) (i c k : Nat) : Prop := ∃ (C : String) (T : u_T) (N : Nat), vwCl[c]? = some (C, T, N) ∧ k < N ∧ fN c = N ∧ (∀ w ∈ u_ws C T N, w ∈ wAll) ∧ Cond.fieldLink own i (T k).1 (T k).2.1 (T k).2.2.1 ∈ wAll
theorem fval_get {ads : List Nat} {st : XS} {a c k : Nat} (hk : k < fN c) : ((List.range (fN c)).map (fval ads st a c))[k]? = some (fval ads st a c k) := by
  rw [List.getElem?_map, List.getElem?_range hk]; rfl
theorem V_getI {i a c k : Nat} (hd : decode M.1 pc = .ok (.getfield i, 3)) (hl : lkF M.2.2.1 i c k) (hf : fR c k = false) (ha : st.1[a]? = some (c + 3, 0)) (ok : OK X M) (kk : V X (pc + 3) env (vI (st.2.1 a k) :: stk) st bc bs) : V X pc env (vR (some a) :: stk) st bc bs := by
  obtain ⟨p, l, e, R, s, m, args, below, meth, c0, Q, nL, base, D, cI, cZ, cP, ads0⟩ := X
  obtain ⟨hx, hb, hml, hnL, hown, hts, hK, -⟩ := ok
  obtain ⟨C, T, N, hc, hkN, hfN, hin, hlk⟩ := hl
  intro ads H locs ls cells slots hcl hsl hH hl hen hk
  have hv : fval ads st a c k = .int (Int32.ofInt (st.2.1 a k)) := by simp [fval, hf]
  exact va_get hx hb hts hin hown hK hH.2.2.1 a (xw_get ha) hc k hkN (hts _ hlk) (fun _ h => h) (v := .int (Int32.ofInt (st.2.1 a k))) (by rw [← hv]; exact fval_get (by omega)) hd (kk ads H locs ls cells slots hcl hsl hH hl hen (okL_cons.mpr ⟨hH.2.2.2.2.2.1 a k, (okL_cons.mp hk).2⟩))
theorem V_getR {i a c k : Nat} (hd : decode M.1 pc = .ok (.getfield i, 3)) (hl : lkF M.2.2.1 i c k) (hf : fR c k = true) (ha : st.1[a]? = some (c + 3, 0)) (ok : OK X M) (kk : V X (pc + 3) env (vR (st.2.2 a k) :: stk) st bc bs) : V X pc env (vR (some a) :: stk) st bc bs := by
  obtain ⟨p, l, e, R, s, m, args, below, meth, c0, Q, nL, base, D, cI, cZ, cP, ads0⟩ := X
  obtain ⟨hx, hb, hml, hnL, hown, hts, hK, -⟩ := ok
  obtain ⟨C, T, N, hc, hkN, hfN, hin, hlk⟩ := hl
  intro ads H locs ls cells slots hcl hsl hH hl hen hk
  have hv : fval ads st a c k = va_rf (rfA ads (st.2.2 a k)) := by simp [fval, hf]
  have hok : okV st.1.length (vR (st.2.2 a k)) := by
    cases hr : st.2.2 a k with
    | none => trivial
    | some b => exact hH.2.2.2.2.2.2 a k b hr
  exact va_get hx hb hts hin hown hK hH.2.2.1 a (xw_get ha) hc k hkN (hts _ hlk) (fun _ h => h) (v := va_rf (rfA ads (st.2.2 a k))) (by rw [← hv]; exact fval_get (by omega)) hd (kk ads H locs ls cells slots hcl hsl hH hl hen (okL_cons.mpr ⟨hok, (okL_cons.mp hk).2⟩))
/-- what a put needs more: the types of the kind's fields, its names, the field's type; whether it is final -/
def lkP (own : String) (c k : Nat) (ty : FieldType) (fin : Bool) : Prop := ∀ (C : String) (T : u_T) (N : Nat), vwCl[c]? = some (C, T, N) → (∃ ty0 : Nat → FieldType, ∀ k, k < N → parseFieldDescriptor (T k).2.2.1 = some (ty0 k)) ∧ (∀ a, a < N → ∀ b, b < N → a ≠ b → (T a).2.1 ≠ (T b).2.1) ∧ parseFieldDescriptor (T k).2.2.1 = some ty ∧ (T k).2.2.2 = fin ∧ (fin = true → (T k).1 = own)
theorem fval_setI {ads : List Nat} {st : XS} {a c k : Nat} {x : Int} (hf : fR c k = false) : ((List.range (fN c)).map (fval ads st a c)).set k (.int (Int32.ofInt x)) = (List.range (fN c)).map (fval ads (stI st a k x) a c) := by
  apply List.ext_getElem?
  intro j
  rw [List.getElem?_set]
  by_cases hj : k = j
  · subst hj
    by_cases hk : k < fN c
    · rw [if_pos rfl, if_pos (by simpa using hk), fval_get hk]
      simp [fval, hf, upI]
    · rw [if_pos rfl, if_neg (by simpa using hk)]
      rw [List.getElem?_eq_none (by simpa using hk)]
  · rw [if_neg hj]
    by_cases hk : j < fN c
    · rw [fval_get hk, fval_get hk]
      have : ¬ j = k := fun q => hj q.symm
      simp [fval, upI, this]
    · rw [List.getElem?_eq_none (by simpa using hk), List.getElem?_eq_none (by simpa using hk)]
theorem fval_setR {ads : List Nat} {st : XS} {a c k : Nat} {x : Option Nat} (hf : fR c k = true) : ((List.range (fN c)).map (fval ads st a c)).set k (va_rf (rfA ads x)) = (List.range (fN c)).map (fval ads (stR st a k x) a c) := by
  apply List.ext_getElem?
  intro j
  rw [List.getElem?_set]
  by_cases hj : k = j
  · subst hj
    by_cases hk : k < fN c
    · rw [if_pos rfl, if_pos (by simpa using hk), fval_get hk]
      simp [fval, hf, upR]
    · rw [if_pos rfl, if_neg (by simpa using hk)]
      rw [List.getElem?_eq_none (by simpa using hk)]
  · rw [if_neg hj]
    by_cases hk : j < fN c
    · rw [fval_get hk, fval_get hk]
      have : ¬ j = k := fun q => hj q.symm
      simp [fval, upR, this]
    · rw [List.getElem?_eq_none (by simpa using hk), List.getElem?_eq_none (by simpa using hk)]
/-- a put of any value -/
theorem V_put {i a c k : Nat} {v : AV} {ty : FieldType} {fin : Bool} {st' : XS} (hd : decode M.1 pc = .ok (.putfield i, 3)) (hl : lkF M.2.2.1 i c k) (hp : lkP M.2.2.1 c k ty fin) (hM : fin = true → M.2.2.2.1 = "<init>") (hn : ∀ ads, narrow ty (cv ads v) = cv ads v) (hfit : ∀ ads, fits ty (cv ads v) = true) (ha : st.1[a]? = some (c + 3, 0))
    (h1 : st'.1 = st.1) (hcell : ∀ ads : List Nat, ((List.range (fN c)).map (fval ads st a c)).set k (cv ads v) = (List.range (fN c)).map (fval ads st' a c)) (ho : ∀ (ads : List Nat) (cI cZ cP : ClassId) b kd, b ≠ a → xcell ads cI cZ cP st' b kd = xcell ads cI cZ cP st b kd) (hok : okS st → okV st.1.length v → okS st')
    (ok : OK X M) (kk : V X (pc + 3) env stk st' bc bs) : V X pc env (v :: vR (some a) :: stk) st bc bs := by
  obtain ⟨p, l, e, R, s, m, args, below, meth, c0, Q, nL, base, D, cI, cZ, cP, ads0⟩ := X
  obtain ⟨hx, hb, hml, hnL, hown, hts, hK, hbase, hfr, hlo, hmn, hSF, hEx⟩ := ok
  obtain ⟨C, T, N, hc, hkN, hfN, hin, hlk⟩ := hl
  obtain ⟨⟨ty0, hty⟩, hnm, hpd, hfin, hown2⟩ := hp C T N hc
  intro ads H locs ls cells slots hcl hsl hH hl hen hk
  obtain ⟨hp1, hlen, hP, hD, hS, hokS⟩ := hH
  have e1 : (xw ads cI cZ cP st).set a (ads.getD a 0, .inr (c, ((List.range (fN c)).map (fval ads st a c)).set k (cv ads v))) = xw ads cI cZ cP st' := xw_set ha h1 (by rw [hcell]; rfl) (fun b kd hb => ho ads cI cZ cP b kd hb)
  have fin2 : ∀ (H1 : Heap) (locs1 : List Loc), va_P D vwCl ((xw ads cI cZ cP st).set a (ads.getD a 0, .inr (c, ((List.range (fN c)).map (fval ads st a c)).set k (cv ads v)))) H1 → va_D (fun q => base ≤ q) ((xw ads cI cZ cP st).set a (ads.getD a 0, .inr (c, ((List.range (fN c)).map (fval ads st a c)).set k (cv ads v)))) → va_S (fun q => base ≤ q) s.heap H1 locs1 → W p l e R s m args below meth c0 H1 locs1 cells slots Q (F0 m (pc + 3) ls (stk.map (cv ads))) := by
    intro H1 locs1 g1 g2 g3
    rw [e1] at g1 g2
    exact kk ads H1 locs1 ls cells slots hcl hsl ⟨hp1, by rw [h1]; exact hlen, g1, g2, g3, hok hokS (okL_cons.mp hk).1⟩ hl (by rw [h1]; exact hen) (by rw [h1]; exact (okL_cons.mp (okL_cons.mp hk).2).2)
  cases fin with
  | false => exact va_put hx hb hts hin ty0 hty hnm hown hK hP hD hS a (xw_get ha) hc k hkN (hts _ hlk) (fun _ h => h) hfin hpd (hn ads) (hfit ads) (by simp; omega) hd fin2
  | true => exact va_putF hx hb hts hin ty0 hty hnm hown hK hP hD hS a (xw_get ha) hc k hkN (hts _ hlk) (fun _ h => h) hfin (by rw [hmn]; exact hM rfl) (hown2 rfl) hpd (hn ads) (hfit ads) (by simp; omega) hd fin2
theorem V_putI {i a c k : Nat} {x : Int} {fin : Bool} (hd : decode M.1 pc = .ok (.putfield i, 3)) (hl : lkF M.2.2.1 i c k) (hp : lkP M.2.2.1 c k .int fin) (hM : fin = true → M.2.2.2.1 = "<init>") (hf : fR c k = false) (ha : st.1[a]? = some (c + 3, 0)) (ok : OK X M) (kk : V X (pc + 3) env stk (stI st a k x) bc bs) : V X pc env (vI x :: vR (some a) :: stk) st bc bs :=
  V_put (st' := stI st a k x) hd hl hp hM (fun _ => rfl) (fun _ => rfl) ha rfl (fun _ => fval_setI hf) (fun _ _ _ _ _ _ h => xcell_I h) (fun h hv => okS_I h hv) ok kk
theorem V_putZ {i a c k : Nat} {x : Int} {fin : Bool} (hd : decode M.1 pc = .ok (.putfield i, 3)) (hl : lkF M.2.2.1 i c k) (hp : lkP M.2.2.1 c k .boolean fin) (hM : fin = true → M.2.2.2.1 = "<init>") (hf : fR c k = false) (hx : x = 0 ∨ x = 1) (ha : st.1[a]? = some (c + 3, 0)) (ok : OK X M) (kk : V X (pc + 3) env stk (stI st a k x) bc bs) : V X pc env (vI x :: vR (some a) :: stk) st bc bs :=
  V_put (st' := stI st a k x) hd hl hp hM (fun _ => by rcases hx with rfl | rfl <;> rfl) (fun _ => by rcases hx with rfl | rfl <;> rfl) ha rfl (fun _ => fval_setI hf) (fun _ _ _ _ _ _ h => xcell_I h) (fun h hv => okS_I h hv) ok kk
/-- a field type that holds references -/
def isRefTy : FieldType → Bool
  | .object _ => true
  | .array _ => true
  | _ => false
theorem V_putR {i a c k : Nat} {x : Option Nat} {ty : FieldType} {fin : Bool} (hd : decode M.1 pc = .ok (.putfield i, 3)) (hl : lkF M.2.2.1 i c k) (hp : lkP M.2.2.1 c k ty fin) (hM : fin = true → M.2.2.2.1 = "<init>") (hf : fR c k = true) (hty : isRefTy ty = true) (ha : st.1[a]? = some (c + 3, 0)) (ok : OK X M) (kk : V X (pc + 3) env stk (stR st a k x) bc bs) : V X pc env (vR x :: vR (some a) :: stk) st bc bs :=
  V_put (st' := stR st a k x) hd hl hp hM (fun _ => by cases ty <;> simp [isRefTy] at hty <;> cases x <;> rfl) (fun _ => by cases ty <;> simp [isRefTy] at hty <;> cases x <;> rfl) ha rfl (fun _ => fval_setR hf) (fun _ _ _ _ _ _ h => xcell_R h) (fun h hv => okS_R h (fun b hb => by subst hb; exact hv)) ok kk
end VCE
