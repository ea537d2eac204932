/-! branches on null, switches, min, the object's constructor; a method's end, and its whole -/
section VEN
variable {X : CX} {M : MI} {pc : Nat} {env : XE} {stk : List AV} {st : XS} {bc bs : Nat}
theorem V_ifnonnull {r : Option Nat} {off : Int} {tgt : Nat} (hd : decode M.1 pc = .ok (.ifnonnull off, 3)) (ht : (pc : Int) + off = (tgt : Int)) (ok : OK X M) (k1 : r ≠ none → V X tgt env stk st bc bs) (k2 : r = none → V X (pc + 3) env stk st bc bs) : V X pc env (vR r :: stk) st bc bs := by
  cases r with
  | none => exact V_step (stk' := stk) (fun _ h => (okL_cons.mp h).2) (fun _ _ _ _ _ _ _ _ _ _ _ _ _ _ _ _ _ _ hx hb _ _ _ k => lv_ifnonnullN hx hb hd k) ok (k2 rfl)
  | some a => exact V_step (stk' := stk) (fun _ h => (okL_cons.mp h).2) (fun _ _ _ _ _ _ _ _ _ _ _ _ _ _ _ _ _ _ hx hb _ _ _ k => lv_ifnonnull hx hb hd ht k) ok (k1 (fun h => by cases h))
/-- where a table switch goes -/
def tsT (pc : Nat) (dflt lo hi : Int) (offs : Array Int) (x : Int) : Int := if x < lo ∨ hi < x then pc + dflt else pc + offs.getD (x - lo).toNat 0
theorem V_table {x dflt lo hi : Int} {offs : Array Int} {len tgt : Nat} (hd : decode M.1 pc = .ok (.tableswitch dflt lo hi offs, len)) (hlen : (offs.size : Int) = hi - lo + 1) (ht : tsT pc dflt lo hi offs x = (tgt : Int)) (ok : OK X M) (k : V X tgt env stk st bc bs) : V X pc env (vI x :: stk) st bc bs := by
  refine V_step (stk' := stk) (fun _ h => (okL_cons.mp h).2) (fun _ _ _ _ _ _ _ _ _ _ _ _ _ _ _ _ _ _ hx hb _ _ hk k => ?_) ok k
  have hr : inR x := (okL_cons.mp hk).1
  have ht : (Int32.ofInt x).toInt = x := i32_t hr
  by_cases h : x < lo ∨ hi < x
  · exact lv_tableOut hx hb hd (by rw [ht]; exact h) (by unfold tsT at *; simp_all) k
  · have hlt : (x - lo).toNat < offs.size := by omega
    refine lv_tableIn hx hb hd (by rw [ht]; omega) (by rw [ht]; omega) (off := offs.getD (x - lo).toNat 0) (by rw [ht]; simp [hlt]) ?_ k
    have e : tsT pc dflt lo hi offs x = _ := if_neg h
    omega
theorem V_lookup {x dflt : Int} {ps : Array (Int × Int)} {len tgt : Nat} (hd : decode M.1 pc = .ok (.lookupswitch dflt ps, len)) (hp : (ps.toList.zip (ps.toList.drop 1)).all (fun (a, next) => a.1 < next.1) = true) (ht : (pc : Int) + Op.lookupswitch.offset ps.toList dflt x = (tgt : Int)) (ok : OK X M) (k : V X tgt env stk st bc bs) : V X pc env (vI x :: stk) st bc bs :=
  V_step (stk' := stk) (fun _ h => (okL_cons.mp h).2) (fun _ _ _ _ _ _ _ _ _ _ _ _ _ _ _ _ _ _ hx hb _ _ hk k => lv_lookup hx hb hd hp (by rw [i32_t (okL_cons.mp hk).1]) ht k) ok k
def mn (x y : Int) : Int := if y < x then y else x
theorem V_min {x y : Int} {ix : Nat} (hd : decode M.1 pc = .ok (.invokestatic ix, 3)) (h1 : Cond.methodLink M.2.2.1 ix Lib.Math.min.name ∈ wAll) (h2 : Cond.static Lib.Math.min.name ∈ wAll) (h3 : Cond.initialized "java/lang/Math" ∈ wAll) (h4 : Cond.code Lib.Math.min.name Lib.Math.min.code 2 (some .int) ∈ wAll) (hfr1 : 1 ≤ M.2.2.2.2.1) (hlo1 : catS stk + 13 ≤ M.2.2.2.2.2.1) (ok : OK X M) (kk : V X (pc + 3) env (vI (mn x y) :: stk) st bc bs) : V X pc env (vI y :: vI x :: stk) st bc bs := by
  obtain ⟨p, l, e, R, s, m, args, below, meth, c0, Q, nL, base, D, cI, cZ, cP, ads0⟩ := X
  obtain ⟨hx, hb, hml, hnL, hown, hts, hK, hbase, hfr, hlo, hmn, hSF, hEx⟩ := ok
  intro ads H locs ls cells slots hcl hsl hH hl hen hk
  have hy : inR y := (okL_cons.mp hk).1
  have hxx : inR x := (okL_cons.mp (okL_cons.mp hk).2).1
  have hm : inR (mn x y) := by unfold mn; split <;> assumption
  have kk := kk ads H locs ls cells slots hcl hsl hH hl hen (okL_cons.mpr ⟨hm, (okL_cons.mp (okL_cons.mp hk).2).2⟩)
  refine va_mmin hx hb (by rw [hml, hl.1, hnL]) hown (hts _ h1) (hts _ h2) (hts _ h3) (hts _ h4) (by omega) (by rw [cv_catS]; omega) (by omega) (by omega) hd ?_
  have e : (if Int32.ofInt y < Int32.ofInt x then Int32.ofInt y else Int32.ofInt x) = Int32.ofInt (mn x y) := by
    unfold mn
    simp only [i32_lt hy hxx]
    split <;> rfl
  rw [e]
  exact kk
theorem V_objInit {a ix : Nat} (hd : decode M.1 pc = .ok (.invokespecial ix, 3)) (h1 : Cond.methodLink M.2.2.1 ix Lib.objectInit ∈ wAll) (h2 : Cond.instanceMethod Lib.objectInit ∈ wAll) (h3 : Cond.code Lib.objectInit ⟨#[0xb1]⟩ 1 none ∈ wAll) (hfr1 : 1 ≤ M.2.2.2.2.1) (hlo1 : catS stk + 12 ≤ M.2.2.2.2.2.1) (ok : OK X M) (kk : V X (pc + 3) env stk st bc bs) : V X pc env (vR (some a) :: stk) st bc bs := by
  obtain ⟨p, l, e, R, s, m, args, below, meth, c0, Q, nL, base, D, cI, cZ, cP, ads0⟩ := X
  obtain ⟨hx, hb, hml, hnL, hown, hts, hK, hbase, hfr, hlo, hmn, hSF, hEx⟩ := ok
  intro ads H locs ls cells slots hcl hsl hH hl hen hk
  have kk := kk ads H locs ls cells slots hcl hsl hH hl hen (okL_cons.mp hk).2
  exact W.objInit hx hb hown (hts _ h1) (hts _ h2) (hts _ h3) (g := F0 m pc ls ((vR (some a) :: stk).map (cv ads))) rfl (by show ls.size = _; rw [hml, hl.1, hnL]) (rest := stk.map (cv ads)) rfl hd (by omega) (by show 2 * 0 + _ + 12 ≤ _; rw [cv_catS]; omega) kk
def retop (v : AV) : Instr := match v with
  | .inl _ => .ireturn
  | .inr (.inl _) => .lreturn
  | .inr (.inr (.inl _)) => .areturn
  | _ => .return_
/-- at an end with this answer the machine comes home -/
def RT (X : CX) (cc : ByteArray) (v : AV) (st : XS) : Prop := ∀ (pc : Nat) (env : XE) (bc bs : Nat), decode cc pc = .ok (retop v, 1) → V X pc env (if v = vU then [] else [v]) st bc bs
/-- statements: what they do, by their ends: behind them, a break, a return -/
abbrev SM : Type := (XE → XS → Prop) → (XE → XS → Prop) → (AV → XS → Prop) → XE → XS → Prop
/-- from pc to pc', or by a jump to qc in its stead; a break goes to bt -/
def FS (M : MI) (pc pc' qc bt kc ks : Nat) (t : SM) : Prop := ∀ X : CX, OK X M → ∀ (Kn Kb : XE → XS → Prop) (Kr : AV → XS → Prop) (env : XE) (st : XS) (bc bs : Nat), t Kn Kb Kr env st →
  (∀ env st, Kn env st → V X pc' env [] st bc bs ∧ V X qc env [] st bc bs) → (∀ env st, Kb env st → V X bt env [] st bc bs) → (∀ v st, Kr v st → RT X M.1 v st) → V X pc env [] st (bc + kc) (bs + ks)
def exA (as : List AV) : List AV := as.flatMap (fun v => if catV v = 2 then [v, vU] else [v])
def envOf (nL : Nat) (as : List AV) : XE := exA as ++ List.replicate (nL - (exA as).length) vU
def rkOK (ret : Option FieldType) (v : AV) : Prop := match ret with
  | none => v = vU
  | some .int => ∃ x, v = vI x
  | some .boolean => v = vI 0 ∨ v = vI 1
  | some (.object _) => ∃ r, v = vR r
  | _ => False
/-- the body of a method with nL locals and this answer -/
def bodyOf (nL : Nat) (ret : Option FieldType) (t : SM) : XB := fun as st K => (exA as).length ≤ nL ∧ t (fun _ _ => False) (fun _ _ => False) (fun v st' => rkOK ret v ∧ K v st') (envOf nL as) st
theorem lg_exA (ads : List Nat) (as : List AV) : (lg_sl (as.map (cv ads))).length = (exA as).length := by
  induction as with
  | nil => rfl
  | cons v as ih =>
    simp only [lg_sl, exA, List.map_cons, List.flatMap_cons, List.length_append, cv_cat] at ih ⊢
    rw [ih]
    congr 1
    split <;> rfl
theorem args_at (ads : List Nat) (as : List AV) : ∀ (i j : Nat) (v : AV), (exA as)[j]? = some v → v ≠ vU → (i + j, cv ads v) ∈ lv_args i (as.map (cv ads)) := by
  induction as with
  | nil => intro i j v h; simp [exA] at h
  | cons w as ih =>
    intro i j v h hv
    simp only [List.map_cons, lv_args, cv_cat]
    have e : exA (w :: as) = (if catV w = 2 then [w, vU] else [w]) ++ exA as := rfl
    rw [e] at h
    by_cases hc : catV w = 2
    · rw [if_pos hc] at h ⊢
      match j with
      | 0 => simp at h; subst h; exact List.mem_cons_self
      | 1 => simp at h; exact absurd h.symm hv
      | j + 2 =>
        have := ih (i + 2) j v (by simpa using h) hv
        rw [show i + (j + 2) = i + 2 + j by omega]
        exact List.mem_cons_of_mem _ this
    · rw [if_neg hc] at h ⊢
      match j with
      | 0 => simp at h; subst h; exact List.mem_cons_self
      | j + 1 =>
        have := ih (i + 1) j v (by simpa using h) hv
        rw [show i + (j + 1) = i + 1 + j by omega]
        exact List.mem_cons_of_mem _ this
theorem okL_envOf {n nL : Nat} {as : List AV} (h : okL n as) : okL n (envOf nL as) := by
  intro v hv
  rcases List.mem_append.mp hv with h1 | h1
  · obtain ⟨w, hw, h2⟩ := List.mem_flatMap.mp h1
    split at h2
    · rcases List.mem_cons.mp h2 with h3 | h3
      · rw [h3]; exact h w hw
      · rw [List.mem_singleton.mp h3]; trivial
    · rw [List.mem_singleton.mp h2]; exact h w hw
  · rw [(List.mem_replicate.mp h1).2]; trivial
set_option maxHeartbeats 1000000 in
theorem snd_of {y : MethodName} {cc : ByteArray} {nL : Nat} {ret : Option FieldType} {fr lo mc ms pe qe bt : Nat} {t : SM} (hy : plainName y.cls = true) (hF : FS (cc, nL, y.cls, y.name, fr, lo, fun _ _ => True) 0 pe qe bt mc ms t) : Snd (y, cc, nL, ret, fr, lo, mc, ms) (bodyOf nL ret t) := by
  intro l base D cI cZ cP ads st as K hB hok
  obtain ⟨hfit, hB⟩ := hB
  refine Met.ofW (cc := cc) (maxL := nL) (ret := ret) hy rfl ?_
  intro p e s m args below meth c s₁ B hml hv
  obtain ⟨rfl, hlen, hP, hD, hokS, hK, hbase, hSF⟩ := hv
  have hts := atoms_spec (ws := wsOf (y, cc, nL, ret, fr, lo, mc, ms)) B.pre
  have hlocks := B.notSynchronized
  have hr := B.returns
  have okX : OK (p, l, e, rmOf (y, cc, nL, ret, fr, lo, mc, ms), s, m, (as.map (cv ads)).toArray, below, meth, c, MQ below (xQc base D cI cZ cP ads K) (as.map (cv ads)).toArray s mc ms (fun q => base ≤ q), nL, base, D, cI, cZ, cP, ads) (cc, nL, y.cls, y.name, fr, lo, fun _ _ => True) :=
    ⟨B.exec, B.bytes, hml, rfl, findClass_of_methodNamed B.named, fun w hw => hts w (List.mem_cons_of_mem _ hw), hK, hbase, Nat.le_refl _, Nat.le_refl _, (name_of_methodNamed B.named B.method).1, hSF, trivial⟩
  have hV := hF _ okX (fun _ _ => False) (fun _ _ => False) (fun v st' => rkOK ret v ∧ K v st') (envOf nL as) st 0 0 hB (fun _ _ h => h.elim) (fun _ _ h => h.elim) ?_
  · have hl : xL ((lg_sl (as.map (cv ads)) ++ List.replicate (nL - (lg_sl (as.map (cv ads))).length) Slot.unset).toArray) nL ads (envOf nL as) := by
      obtain ⟨h1, h2, h3⟩ := lv_entry (as.map (cv ads)) (n := nL) (by rw [lg_exA]; exact hfit)
      refine ⟨h1, by simp [envOf]; omega, h2, fun i v hi hu => ?_⟩
      have hi2 : (exA as)[i]? = some v := by
        by_cases hlt : i < (exA as).length
        · rw [envOf, List.getElem?_append_left hlt] at hi
          exact hi
        · rw [envOf, List.getElem?_append_right (by omega)] at hi
          have := List.mem_of_getElem? hi
          exact absurd (List.mem_replicate.mp this).2 hu
      have := args_at ads as 0 i v hi2 hu
      rw [Nat.zero_add] at this
      exact h3 _ this
    rw [lg_entry_eq]
    exact hV ads s.heap [] _ 0 0 (by show 0 + (0 + mc) ≤ mc; omega) (by show 0 + (0 + ms) ≤ ms; omega) ⟨List.prefix_rfl, hlen, hP, hD, va_S.rf, hokS⟩ hl (okL_envOf hok) (fun v hv => by cases hv)
  · intro v st' hKv pc env bc bs hd ads' H locs ls cells slots hcl hsl hH hl hen hk
    obtain ⟨hrk, hKv⟩ := hKv
    obtain ⟨hpre, hlen', hP', hD', hS', hok'⟩ := hH
    have hcm : cells ≤ mc := by have : cells + bc ≤ mc := hcl; omega
    have hsm : slots ≤ ms := by have : slots + bs ≤ ms := hsl; omega
    have hq : okV st'.1.length v → ∀ t : State, t.heap = H → s.WarmedH t.vm → xQc base D cI cZ cP ads K (as.map (cv ads)).toArray s (.returned (rv ads' v)) t := fun hv t ht _ => ⟨⟨v, st', ads', rfl, hKv, hv, hpre, hlen', by rw [ht]; exact hP', hD', hok'⟩, hS'.F ht⟩
    refine W.widen hcm hsm ?_
    match ret, hr, hrk with
    | none, hr, hrk =>
      have hrk : v = vU := hrk
      subst hrk
      exact W.vret B.exec B.bytes hr (hq trivial) hS'.2.2 hd hlocks
    | some .int, hr, hrk =>
      obtain ⟨x, rfl⟩ := hrk
      exact W.iret B.exec B.bytes hr (hq (hk _ List.mem_cons_self)) hS'.2.2 hd hlocks
    | some .boolean, hr, hrk =>
      rcases hrk with rfl | rfl
      · exact W.zret B.exec B.bytes hr rfl (hq (hk _ List.mem_cons_self)) hS'.2.2 hd hlocks
      · exact W.zret B.exec B.bytes hr rfl (hq (hk _ List.mem_cons_self)) hS'.2.2 hd hlocks
    | some (.object nm), hr, hrk =>
      obtain ⟨r, rfl⟩ := hrk
      exact W.aret B.exec B.bytes hr (Or.inl ⟨nm, rfl⟩) (by cases r with
        | none => exact Or.inl rfl
        | some a => exact Or.inr ⟨_, rfl⟩) (hq (hk _ List.mem_cons_self)) hS'.2.2 hd hlocks
end VEN
