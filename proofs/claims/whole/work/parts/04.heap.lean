/-! locals, fields, rows -/
section VHP
variable {X : CX} {M : MI} {pc : Nat} {env : XE} {stk : List AV} {st : XS} {bc bs : Nat}
theorem okL_at {n : Nat} {l : List AV} {i : Nat} {v : AV} (h : okL n l) (hi : l[i]? = some v) : okV n v := h v (List.mem_of_getElem? hi)
theorem okL_set {n : Nat} {l : List AV} {i : Nat} {v : AV} (h : okL n l) (hv : okV n v) : okL n (l.set i v) := by
  intro w hw
  rcases List.mem_or_eq_of_mem_set hw with h1 | h1
  · exact h w h1
  · rw [h1]; exact hv
/-- a step that reads a local -/
theorem V_load {len i : Nat} {v : AV} (he : env[i]? = some v) (hu : v ≠ vU)
    (hW : ∀ (p : Program) (l : Launch) (e : Env) (R : Room) (s : State) (m : MethodId) (args : Array Value) (below : List Frame) (meth : Method) (c : Code) (Q : State → Prop) (ads : List Nat) (H : Heap) (locs : List Loc) (ls : Array Slot) (cells slots : Nat),
      p.tables.exec = Jvm.exec → c.code = M.1 → ls[i]? = some (.val (cv ads v)) → W p l e R s m args below meth c H locs cells slots Q (F0 m (pc + len) ls ((v :: stk).map (cv ads))) → W p l e R s m args below meth c H locs cells slots Q (F0 m pc ls (stk.map (cv ads))))
    (ok : OK X M) (k : V X (pc + len) env (v :: stk) st bc bs) : V X pc env stk st bc bs := by
  obtain ⟨p, l, e, R, s, m, args, below, meth, c, Q, nL, base, D, cI, cZ, cP, ads0⟩ := X
  obtain ⟨hx, hb, hml, hnL, hown, hts, -⟩ := ok
  intro ads H locs ls cells slots hc hs hH hl hen hk
  exact hW p l e R s m args below meth c Q ads H locs ls cells slots hx hb (hl.2.2.2 i v he hu) (k ads H locs ls cells slots hc hs hH hl hen (okL_cons.mpr ⟨okL_at hen he, hk⟩))
theorem vI_U (x : Int) : vI x ≠ vU := fun h => by cases h
theorem vL_U (x : Int) : vL x ≠ vU := fun h => by cases h
theorem vR_U (x : Option Nat) : vR x ≠ vU := fun h => by cases h
theorem V_iload {i : Nat} {x : Int} (hd : decode M.1 pc = .ok (.iload i, 2)) (he : env[i]? = some (vI x)) (ok : OK X M) (k : V X (pc + 2) env (vI x :: stk) st bc bs) : V X pc env stk st bc bs :=
  V_load he (vI_U x) (fun _ _ _ _ _ _ _ _ _ _ _ _ _ _ _ _ _ hx hb hl k => lv_iload hx hb hd hl k) ok k
theorem V_iload_n {f : Fin 4} {i : Nat} {x : Int} (hd : decode M.1 pc = .ok (.iload_n f, 1)) (hi : (f : Nat) = i) (he : env[i]? = some (vI x)) (ok : OK X M) (k : V X (pc + 1) env (vI x :: stk) st bc bs) : V X pc env stk st bc bs :=
  V_load he (vI_U x) (fun _ _ _ _ _ _ _ _ _ _ _ _ _ _ _ _ _ hx hb hl k => lv_iload_n hx hb hd hi hl k) ok k
theorem V_lload {i : Nat} {x : Int} (hd : decode M.1 pc = .ok (.lload i, 2)) (he : env[i]? = some (vL x)) (ok : OK X M) (k : V X (pc + 2) env (vL x :: stk) st bc bs) : V X pc env stk st bc bs :=
  V_load he (vL_U x) (fun _ _ _ _ _ _ _ _ _ _ _ _ _ _ _ _ _ hx hb hl k => lv_lload hx hb hd hl k) ok k
theorem V_lload_n {f : Fin 4} {i : Nat} {x : Int} (hd : decode M.1 pc = .ok (.lload_n f, 1)) (hi : (f : Nat) = i) (he : env[i]? = some (vL x)) (ok : OK X M) (k : V X (pc + 1) env (vL x :: stk) st bc bs) : V X pc env stk st bc bs :=
  V_load he (vL_U x) (fun _ _ _ _ _ _ _ _ _ _ _ _ _ _ _ _ _ hx hb hl k => lv_lload_n hx hb hd hi hl k) ok k
theorem V_aload {i : Nat} {x : Option Nat} (hd : decode M.1 pc = .ok (.aload i, 2)) (he : env[i]? = some (vR x)) (ok : OK X M) (k : V X (pc + 2) env (vR x :: stk) st bc bs) : V X pc env stk st bc bs := by
  cases x with
  | none => exact V_load he (vR_U _) (fun _ _ _ _ _ _ _ _ _ _ _ _ _ _ _ _ _ hx hb hl k => lv_aloadN hx hb hd hl k) ok k
  | some a => exact V_load he (vR_U _) (fun _ _ _ _ _ _ _ _ _ _ _ _ _ _ _ _ _ hx hb hl k => lv_aload hx hb hd hl k) ok k
theorem V_aload_n {f : Fin 4} {i : Nat} {x : Option Nat} (hd : decode M.1 pc = .ok (.aload_n f, 1)) (hi : (f : Nat) = i) (he : env[i]? = some (vR x)) (ok : OK X M) (k : V X (pc + 1) env (vR x :: stk) st bc bs) : V X pc env stk st bc bs := by
  cases x with
  | none => exact V_load he (vR_U _) (fun _ _ _ _ _ _ _ _ _ _ _ _ _ _ _ _ _ hx hb hl k => lv_aload_nN hx hb hd hi hl k) ok k
  | some a => exact V_load he (vR_U _) (fun _ _ _ _ _ _ _ _ _ _ _ _ _ _ _ _ _ hx hb hl k => lv_aload_n hx hb hd hi hl k) ok k
/-- the listed locals -/
def toL (ads : List Nat) (env : XE) : List (Nat × Value) := (env.zipIdx.filter (fun q => decide (q.1 ≠ vU))).map (fun q => (q.2, cv ads q.1))
theorem toL_in {ads : List Nat} {env : XE} {j : Nat} {v : Value} : (j, v) ∈ toL ads env ↔ ∃ w, env[j]? = some w ∧ w ≠ vU ∧ v = cv ads w := by
  simp only [toL, List.mem_map, List.mem_filter, Prod.exists, List.mem_zipIdx_iff_getElem?, decide_eq_true_eq, Prod.mk.injEq]
  constructor
  · rintro ⟨w, i, ⟨h1, h2⟩, rfl, rfl⟩
    exact ⟨w, h1, h2, rfl⟩
  · rintro ⟨w, h1, h2, rfl⟩
    exact ⟨w, j, ⟨h1, h2⟩, rfl, rfl⟩
theorem xL_has {ls : Array Slot} {nL : Nat} {ads : List Nat} {env : XE} (h : xL ls nL ads env) : lv_has ls nL (toL ads env) := by
  refine ⟨h.1, h.2.2.1, fun q hq => ?_⟩
  obtain ⟨j, v⟩ := q
  obtain ⟨w, h1, h2, rfl⟩ := toL_in.mp hq
  exact h.2.2.2 j w h1 h2
/-- no long stands just ahead of place i -/
def noL (env : XE) (i : Nat) : Bool := match i with
  | 0 => true
  | j + 1 => match env[j]? with
    | some (.inr (.inl _)) => false
    | _ => true
theorem noL_cat {env : XE} {i j : Nat} {w : AV} (h : noL env i = true) (hj : j + 1 = i) (hw : env[j]? = some w) : catV w = 1 := by
  subst hj
  simp only [noL, hw] at h
  rcases w with x | x | r | u
  · rfl
  · simp at h
  · rfl
  · rfl
theorem xL_set {ls ls' : Array Slot} {nL i : Nat} {ads : List Nat} {env : XE} {v : AV} (h : xL ls nL ads env) (hn : noL env i = true) (hv : catV v = 1) (h' : lv_has ls' nL ((i, cv ads v) :: (toL ads env).filter (fun q => !(q.1 == i) && !(q.1 + 1 == i && q.2.category == 2)))) : xL ls' nL ads (env.set i v) := by
  refine ⟨h'.1, by rw [List.length_set]; exact h.2.1, h'.2.1, fun j w hj hw => ?_⟩
  rw [List.getElem?_set] at hj
  by_cases hij : i = j
  · subst hij
    rw [if_pos rfl] at hj
    split at hj
    · cases hj
      exact h'.2.2 _ List.mem_cons_self
    · cases hj
  · rw [if_neg hij] at hj
    refine h'.2.2 (j, cv ads w) (List.mem_cons_of_mem _ (List.mem_filter.mpr ⟨toL_in.mpr ⟨w, hj, hw, rfl⟩, ?_⟩))
    have h1 : (j == i) = false := by simp; omega
    have h2 : (j + 1 == i && (cv ads w).category == 2) = false := by
      by_cases hji : j + 1 = i
      · rw [cv_cat, noL_cat hn hji hj]; simp
      · simp [hji]
    simp [h1, h2]
theorem V_store {len i : Nat} {v : AV} (hi : i < env.length) (hn : noL env i = true) (hv : catV v = 1)
    (hW : ∀ (p : Program) (l : Launch) (e : Env) (R : Room) (s : State) (m : MethodId) (args : Array Value) (below : List Frame) (meth : Method) (c : Code) (Q : State → Prop) (ads : List Nat) (H : Heap) (locs : List Loc) (ls : Array Slot) (cells slots nL : Nat) (lv : List (Nat × Value)),
      p.tables.exec = Jvm.exec → c.code = M.1 → lv_has ls nL lv → i < nL → (∀ ls' : Array Slot, lv_has ls' nL ((i, cv ads v) :: lv.filter (fun q => !(q.1 == i) && !(q.1 + 1 == i && q.2.category == 2))) → W p l e R s m args below meth c H locs cells slots Q (F0 m (pc + len) ls' (stk.map (cv ads)))) → W p l e R s m args below meth c H locs cells slots Q (F0 m pc ls ((v :: stk).map (cv ads))))
    (ok : OK X M) (k : V X (pc + len) (env.set i v) stk st bc bs) : V X pc env (v :: stk) st bc bs := by
  obtain ⟨p, l, e, R, s, m, args, below, meth, c, Q, nL, base, D, cI, cZ, cP, ads0⟩ := X
  obtain ⟨hx, hb, hml, hnL, hown, hts, -⟩ := ok
  intro ads H locs ls cells slots hc hs hH hl hen hk
  exact hW p l e R s m args below meth c Q ads H locs ls cells slots nL _ hx hb (xL_has hl) (by rw [← hl.2.1]; exact hi) (fun ls' h' => k ads H locs ls' cells slots hc hs hH (xL_set hl hn hv h') (okL_set hen (okL_cons.mp hk).1) (okL_cons.mp hk).2)
theorem V_istore {i : Nat} {x : Int} (hd : decode M.1 pc = .ok (.istore i, 2)) (hi : i < env.length) (hn : noL env i = true) (ok : OK X M) (k : V X (pc + 2) (env.set i (vI x)) stk st bc bs) : V X pc env (vI x :: stk) st bc bs :=
  V_store hi hn rfl (fun _ _ _ _ _ _ _ _ _ _ _ _ _ _ _ _ _ _ _ hx hb hl hn k => lv_istore hx hb hd hl hn rfl k) ok k
theorem V_istore_n {f : Fin 4} {i : Nat} {x : Int} (hd : decode M.1 pc = .ok (.istore_n f, 1)) (hf : (f : Nat) = i) (hi : i < env.length) (hn : noL env i = true) (ok : OK X M) (k : V X (pc + 1) (env.set i (vI x)) stk st bc bs) : V X pc env (vI x :: stk) st bc bs :=
  V_store hi hn rfl (fun _ _ _ _ _ _ _ _ _ _ _ _ _ _ _ _ _ _ _ hx hb hl hn k => lv_istore_n hx hb hd hf hl hn rfl k) ok k
theorem V_astore {i : Nat} {x : Option Nat} (hd : decode M.1 pc = .ok (.astore i, 2)) (hi : i < env.length) (hn : noL env i = true) (ok : OK X M) (k : V X (pc + 2) (env.set i (vR x)) stk st bc bs) : V X pc env (vR x :: stk) st bc bs := by
  cases x with
  | none => exact V_store hi hn rfl (fun _ _ _ _ _ _ _ _ _ _ _ _ _ _ _ _ _ _ _ hx hb hl hn k => lv_astoreN hx hb hd hl hn rfl k) ok k
  | some a => exact V_store hi hn rfl (fun _ _ _ _ _ _ _ _ _ _ _ _ _ _ _ _ _ _ _ hx hb hl hn k => lv_astore hx hb hd hl hn rfl k) ok k
theorem V_astore_n {f : Fin 4} {i : Nat} {x : Option Nat} (hd : decode M.1 pc = .ok (.astore_n f, 1)) (hf : (f : Nat) = i) (hi : i < env.length) (hn : noL env i = true) (ok : OK X M) (k : V X (pc + 1) (env.set i (vR x)) stk st bc bs) : V X pc env (vR x :: stk) st bc bs := by
  cases x with
  | none => exact V_store hi hn rfl (fun _ _ _ _ _ _ _ _ _ _ _ _ _ _ _ _ _ _ _ hx hb hl hn k => lv_astore_nN hx hb hd hf hl hn rfl k) ok k
  | some a => exact V_store hi hn rfl (fun _ _ _ _ _ _ _ _ _ _ _ _ _ _ _ _ _ _ _ hx hb hl hn k => lv_astore_n hx hb hd hf hl hn rfl k) ok k
theorem xL_setL {ls ls' : Array Slot} {nL i : Nat} {ads : List Nat} {env : XE} {x : Int} (h : xL ls nL ads env) (hn : noL env i = true) (h' : lv_has ls' nL ((i, cv ads (vL x)) :: (toL ads env).filter (fun q => !(q.1 == i) && (!(q.1 == i + 1) && !(q.1 + 1 == i && q.2.category == 2))))) : xL ls' nL ads ((env.set i (vL x)).set (i + 1) vU) := by
  refine ⟨h'.1, by rw [List.length_set, List.length_set]; exact h.2.1, h'.2.1, fun j w hj hw => ?_⟩
  rw [List.getElem?_set] at hj
  by_cases hij : i + 1 = j
  · rw [if_pos hij] at hj
    split at hj
    · cases hj; exact absurd rfl hw
    · cases hj
  · rw [if_neg hij, List.getElem?_set] at hj
    by_cases hij2 : i = j
    · subst hij2
      rw [if_pos rfl] at hj
      split at hj
      · cases hj
        exact h'.2.2 _ List.mem_cons_self
      · cases hj
    · rw [if_neg hij2] at hj
      refine h'.2.2 (j, cv ads w) (List.mem_cons_of_mem _ (List.mem_filter.mpr ⟨toL_in.mpr ⟨w, hj, hw, rfl⟩, ?_⟩))
      have h1 : (j == i) = false := by simp; omega
      have h3 : (j == i + 1) = false := by simp; omega
      have h2 : (j + 1 == i && (cv ads w).category == 2) = false := by
        by_cases hji : j + 1 = i
        · rw [cv_cat, noL_cat hn hji hj]; simp
        · simp [hji]
      simp [h1, h2, h3]
theorem V_storeL {len i : Nat} {x : Int} (hi : i + 1 < env.length) (hn : noL env i = true)
    (hW : ∀ (p : Program) (l : Launch) (e : Env) (R : Room) (s : State) (m : MethodId) (args : Array Value) (below : List Frame) (meth : Method) (c : Code) (Q : State → Prop) (ads : List Nat) (H : Heap) (locs : List Loc) (ls : Array Slot) (cells slots nL : Nat) (lv : List (Nat × Value)),
      p.tables.exec = Jvm.exec → c.code = M.1 → lv_has ls nL lv → i + 1 < nL → (∀ ls' : Array Slot, lv_has ls' nL ((i, cv ads (vL x)) :: lv.filter (fun q => !(q.1 == i) && (!(q.1 == i + 1) && !(q.1 + 1 == i && q.2.category == 2)))) → W p l e R s m args below meth c H locs cells slots Q (F0 m (pc + len) ls' (stk.map (cv ads)))) → W p l e R s m args below meth c H locs cells slots Q (F0 m pc ls ((vL x :: stk).map (cv ads))))
    (ok : OK X M) (k : V X (pc + len) ((env.set i (vL x)).set (i + 1) vU) stk st bc bs) : V X pc env (vL x :: stk) st bc bs := by
  obtain ⟨p, l, e, R, s, m, args, below, meth, c, Q, nL, base, D, cI, cZ, cP, ads0⟩ := X
  obtain ⟨hx, hb, hml, hnL, hown, hts, -⟩ := ok
  intro ads H locs ls cells slots hc hs hH hl hen hk
  exact hW p l e R s m args below meth c Q ads H locs ls cells slots nL _ hx hb (xL_has hl) (by rw [← hl.2.1]; exact hi) (fun ls' h' => k ads H locs ls' cells slots hc hs hH (xL_setL hl hn h') (okL_set (okL_set hen (okL_cons.mp hk).1) trivial) (okL_cons.mp hk).2)
theorem V_lstore {i : Nat} {x : Int} (hd : decode M.1 pc = .ok (.lstore i, 2)) (hi : i + 1 < env.length) (hn : noL env i = true) (ok : OK X M) (k : V X (pc + 2) ((env.set i (vL x)).set (i + 1) vU) stk st bc bs) : V X pc env (vL x :: stk) st bc bs :=
  V_storeL hi hn (fun _ _ _ _ _ _ _ _ _ _ _ _ _ _ _ _ _ _ _ hx hb hl hn k => lv_lstore hx hb hd hl hn rfl k) ok k
theorem V_lstore_n {f : Fin 4} {i : Nat} {x : Int} (hd : decode M.1 pc = .ok (.lstore_n f, 1)) (hf : (f : Nat) = i) (hi : i + 1 < env.length) (hn : noL env i = true) (ok : OK X M) (k : V X (pc + 1) ((env.set i (vL x)).set (i + 1) vU) stk st bc bs) : V X pc env (vL x :: stk) st bc bs :=
  V_storeL hi hn (fun _ _ _ _ _ _ _ _ _ _ _ _ _ _ _ _ _ _ _ hx hb hl hn k => lv_lstore_n hx hb hd hf hl hn rfl k) ok k
theorem V_iinc {i : Nat} {x n : Int} (hd : decode M.1 pc = .ok (.iinc i n, 3)) (he : env[i]? = some (vI x)) (hn : noL env i = true) (ok : OK X M) (k : V X (pc + 3) (env.set i (vI (o2 f_iadd x n))) stk st bc bs) : V X pc env stk st bc bs := by
  obtain ⟨p, l, e, R, s, m, args, below, meth, c, Q, nL, base, D, cI, cZ, cP, ads0⟩ := X
  obtain ⟨hx, hb, hml, hnL, hown, hts, -⟩ := ok
  intro ads H locs ls cells slots hc hs hH hl hen hk
  have hi : i < env.length := (List.getElem?_eq_some_iff.mp he).1
  obtain ⟨kk, hkk⟩ := List.getElem?_of_mem (toL_in.mpr ⟨vI x, he, vI_U x, rfl⟩ : (i, cv ads (vI x)) ∈ toL ads env)
  exact lv_iinc (x := Int32.ofInt x) hx hb hd (xL_has hl) hkk rfl (by rw [← hl.2.1]; exact hi) rfl (fun ls' h' => k ads H locs ls' cells slots hc hs hH (xL_set hl hn rfl (by simpa only [cv, o2_o] using h')) (okL_set hen (inR_i32 _)) hk)
end VHP
