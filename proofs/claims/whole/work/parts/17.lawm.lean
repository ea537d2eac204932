/-! the law's own pieces: its script, its loop that makes cells -/
def lawEx (b L : Nat) (xs : Nat → Int32) : Nat → State → Prop := fun base s => base = s.heap.size ∧ va_X b L xs s s.heap ∧ b < s.heap.size
abbrev M_law (nm : String) (b L : Nat) (xs : Nat → Int32) : MI := (cL_law, 4, RL, nm, 200, 20000, lawEx b L xs)
def e_scr (b L : Nat) (xs : Nat → Int32) (x : EI) : EI := fun env st K => env[0]? = some (vX b) ∧ x env st (fun i st1 => 0 ≤ i ∧ i < (L : Int) ∧ K ((xs i.toNat).toInt) st1)
def e_sln (b L : Nat) : EI := fun env st K => env[0]? = some (vX b) ∧ L < 2147483648 ∧ K (L : Int) st
section FLW
variable {nm : String} {b L : Nat} {xs : Nat → Int32} {d pc p1 p2 k1 k2 s1 s2 qc qa bt : Nat}
theorem vX_U (b : Nat) : vX b ≠ vU := fun h => by cases h
theorem catS_X (b : Nat) (stk : List AV) : catS (vX b :: stk) = catS stk + 1 := by simp [catS, catV]; omega
theorem V_xload {M : MI} {X : CX} {pc i b : Nat} {f : Fin 4} {env : XE} {stk : List AV} {st : XS} {bc bs : Nat} (hd : decode M.1 pc = .ok (.aload_n f, 1)) (hi : (f : Nat) = i) (he : env[i]? = some (vX b)) (ok : OK X M) (k : V X (pc + 1) env (vX b :: stk) st bc bs) : V X pc env stk st bc bs :=
  V_load he (vX_U b) (fun _ _ _ _ _ _ _ _ _ _ _ _ _ _ _ _ _ hx hb hl k => lv_aload_n hx hb hd hi hl k) ok k
theorem F_scr {x : EI} (D1 : decode (M_law nm b L xs).1 pc = .ok (.aload_n 0, 1)) (hx : FV vI (M_law nm b L xs) (pc + 1) p1 (d + 1) k1 s1 x) (D2 : decode (M_law nm b L xs).1 p1 = .ok (.iaload, 1)) : FV vI (M_law nm b L xs) pc (p1 + 1) d k1 s1 (e_scr b L xs x) := fun X ok K env stk st bc bs hs h kk => by
  obtain ⟨he, h⟩ := h
  refine V_xload D1 rfl he ok (hx X ok _ env _ st bc bs (by rw [catS_X]; omega) h (fun i st1 h1 => ?_))
  obtain ⟨h0, hL, h1⟩ := h1
  have kk := kk _ _ h1
  obtain ⟨p, l, e, R, s, m, args, below, meth, c0, Q, nL, base, D, cI, cZ, cP, ads0⟩ := X
  obtain ⟨hx, hb, hml, hnL, hown, hts, hK, hbase, hfr, hlo, hmn, hSF, hEx⟩ := ok
  obtain ⟨hbe, hX, hbl⟩ := hEx
  intro ads H locs ls cells slots hcl hsl hH hl hen hk
  have hi : inR i := (okL_cons.mp hk).1
  refine va_sld hx hb hX hbl (by show ¬ base ≤ b; omega) hH.2.2.2.2.1 (ixIn hi h0 hL) D2 ?_
  rw [ixN hi]
  have kk := kk ads H locs ls cells slots hcl hsl hH hl hen (okL_cons.mpr ⟨inR_i32 _, (okL_cons.mp (okL_cons.mp hk).2).2⟩)
  simpa only [List.map_cons, cv, i32_o] using kk
theorem F_sln (D1 : decode (M_law nm b L xs).1 pc = .ok (.aload_n 0, 1)) (D2 : decode (M_law nm b L xs).1 (pc + 1) = .ok (.arraylength, 1)) : FV vI (M_law nm b L xs) pc (pc + 1 + 1) d 0 0 (e_sln b L) := fun X ok K env stk st bc bs hs h kk => by
  obtain ⟨he, hL, h⟩ := h
  refine V_xload D1 rfl he ok ?_
  have kk := kk _ _ h
  obtain ⟨p, l, e, R, s, m, args, below, meth, c0, Q, nL, base, D, cI, cZ, cP, ads0⟩ := X
  obtain ⟨hx, hb, hml, hnL, hown, hts, hK, hbase, hfr, hlo, hmn, hSF, hEx⟩ := ok
  obtain ⟨hbe, hX, hbl⟩ := hEx
  intro ads H locs ls cells slots hcl hsl hH hl hen hk
  refine va_slen hx hb hX hbl (by show ¬ base ≤ b; omega) hH.2.2.2.2.1 D2 ?_
  exact kk ads H locs ls cells slots hcl hsl hH hl hen (okL_cons.mpr ⟨⟨by omega, by omega⟩, (okL_cons.mp hk).2⟩)
/-- a loop of at most N rounds -/
def s_whileN (N : Nat) (c : EC) (a : SM) : SM := fun Kn _ Kr env st => ∃ (I : Nat → XE → XS → Prop) (k : Nat), k ≤ N ∧ I k env st ∧ ∀ k env st, I k env st → c env st (fun b st1 => if b = true then k ≠ 0 ∧ a (fun env2 st2 => ∃ j, j < k ∧ I j env2 st2) Kn Kr env st1 else Kn env st1)
theorem S_whileN {M : MI} {c : EC} {a : SM} {off : Int} (N kc ks : Nat) (hc : FC M pc p1 qc false 0 0 0 c) (ha : FS M p1 p2 qa qc kc ks a) (D : decode M.1 p2 = .ok (.goto off, 3)) (ht : (p2 : Int) + off = (pc : Int)) (hqa : qa = p2 ∨ qa = pc) : FS M pc (p2 + 3) qc bt (N * kc) (N * ks) (s_whileN N c a) := fun X ok Kn Kb Kr env st bc bs h kn kb kr => by
  obtain ⟨I, k, hkN, h0, hI⟩ := h
  have key : ∀ (k : Nat) (env : XE) (st : XS), I k env st → V X pc env [] st (bc + k * kc) (bs + k * ks) := by
    intro k
    induction k using Nat.strongRecOn with
    | ind k ih =>
      intro env st hk
      refine hc X ok _ env [] st (bc + k * kc) (bs + k * ks) (Nat.le_refl 0) (hI k env st hk) (fun b st1 h1 => ?_)
      have hex : ∀ env st, Kn env st → V X qc env [] st (bc + k * kc) (bs + k * ks) := fun env st h => V_mono (by omega) (by omega) (kn env st h).2
      cases b with
      | false => exact hex _ _ h1
      | true =>
        cases k with
        | zero => exact absurd rfl h1.1
        | succ k =>
          refine V_mono (bc := bc + k * kc + kc) (bs := bs + k * ks + ks) (by rw [Nat.succ_mul]; omega) (by rw [Nat.succ_mul]; omega) (ha X ok _ _ _ env st1 (bc + k * kc) (bs + k * ks) h1.2 (fun env2 st2 h2 => ?_) (fun env st h => V_mono (by omega) (by omega) (kn env st h).2) kr)
          obtain ⟨j, hj, h2⟩ := h2
          have hjk : j ≤ k := by omega
          have hv : V X pc env2 [] st2 (bc + k * kc) (bs + k * ks) := V_mono (by have := Nat.mul_le_mul_right kc hjk; omega) (by have := Nat.mul_le_mul_right ks hjk; omega) (ih j hj env2 st2 h2)
          have hg : V X p2 env2 [] st2 (bc + k * kc) (bs + k * ks) := V_goto D ht ok hv
          refine ⟨hg, ?_⟩
          rcases hqa with rfl | rfl
          · exact hg
          · exact hv
  refine V_mono ?_ ?_ (key k env st h0)
  · have := Nat.mul_le_mul_right kc hkN; omega
  · have := Nat.mul_le_mul_right ks hkN; omega
end FLW
