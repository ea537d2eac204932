/-! copies of arrays -/
section KC
variable {env : XE} {st : XS} {Kn Kb : XE → XS → Prop} {Kr : AV → XS → Prop} {kd : List (Nat × Nat)} {I : Nat → Nat → Int} {R : Nat → Nat → Option Nat}
def cpB (o0 o1 : Option (Nat × Nat)) (sp dp n : Int) : Prop := ∃ n0 n1 : Nat, o0 = some (0, n0) ∧ o1 = some (0, n1) ∧ 0 ≤ sp ∧ 0 ≤ dp ∧ 0 ≤ n ∧ sp + n ≤ (n0 : Int) ∧ dp + n ≤ (n1 : Int)
theorem cpB_s {n0 n1 : Nat} {sp dp n : Int} : cpB (some (0, n0)) (some (0, n1)) sp dp n = (0 ≤ sp ∧ 0 ≤ dp ∧ 0 ≤ n ∧ sp + n ≤ (n0 : Int) ∧ dp + n ≤ (n1 : Int)) := by
  apply propext
  constructor
  · rintro ⟨a, b, h1, h2, h⟩
    simp at h1 h2
    subst h1 h2
    exact h
  · intro h; exact ⟨n0, n1, rfl, rfl, h⟩
def kCp5 (r0 : Option Nat) (sp : Int) (r1 : Option Nat) (dp : Int) (env : XE) (Kn : XE → XS → Prop) (n : Int) (st : XS) : Prop := ∃ a0 a n0 n1, r0 = some a0 ∧ r1 = some a ∧ st.1[a0]? = some (0, n0) ∧ st.1[a]? = some (0, n1) ∧ 0 ≤ sp ∧ 0 ≤ dp ∧ 0 ≤ n ∧ sp + n ≤ (n0 : Int) ∧ dp + n ≤ (n1 : Int) ∧ Kn env (stC st a0 a sp.toNat dp.toNat n.toNat)
def kCp4 (r0 : Option Nat) (sp : Int) (r1 : Option Nat) (x : EI) (env : XE) (Kn : XE → XS → Prop) (dp : Int) (st : XS) : Prop := x env st (kCp5 r0 sp r1 dp env Kn)
def kCp3 (r0 : Option Nat) (sp : Int) (i2 x : EI) (env : XE) (Kn : XE → XS → Prop) (r1 : Option Nat) (st : XS) : Prop := i2 env st (kCp4 r0 sp r1 x env Kn)
def kCp2 (r0 : Option Nat) (o2 : ER) (i2 x : EI) (env : XE) (Kn : XE → XS → Prop) (sp : Int) (st : XS) : Prop := o2 env st (kCp3 r0 sp i2 x env Kn)
def kCp1 (i : EI) (o2 : ER) (i2 x : EI) (env : XE) (Kn : XE → XS → Prop) (r0 : Option Nat) (st : XS) : Prop := i env st (kCp2 r0 o2 i2 x env Kn)
theorem s_copy_q {o : ER} {i : EI} {o2 : ER} {i2 x : EI} : s_copy o i o2 i2 x Kn Kb Kr env st = o env st (kCp1 i o2 i2 x env Kn) := rfl
theorem kCp1_q {i : EI} {o2 : ER} {i2 x : EI} {a : Nat} : kCp1 i o2 i2 x env Kn (some a) st = i env st (kCp2 (some a) o2 i2 x env Kn) := rfl
theorem kCp2_q {r0 : Option Nat} {o2 : ER} {i2 x : EI} {sp : Int} : kCp2 r0 o2 i2 x env Kn sp st = o2 env st (kCp3 r0 sp i2 x env Kn) := rfl
theorem kCp3_q {r0 : Option Nat} {sp : Int} {i2 x : EI} {a : Nat} : kCp3 r0 sp i2 x env Kn (some a) st = i2 env st (kCp4 r0 sp (some a) x env Kn) := rfl
theorem kCp4_q {r0 r1 : Option Nat} {sp dp : Int} {x : EI} : kCp4 r0 sp r1 x env Kn dp st = x env st (kCp5 r0 sp r1 dp env Kn) := rfl
theorem stC_0 {a0 a N : Nat} : stC (kd, I, R) a0 a 0 0 N = (kd, setRow I a N (I a0), R) := by
  unfold stC setRow
  refine congrArg (fun z => (kd, z, R)) ?_
  funext b j
  by_cases h : b = a ∧ j < N
  · rw [if_pos ⟨h.1, by omega, by omega⟩, if_pos h]
    show I a0 (0 + (j - 0)) = I a0 j
    congr 1; omega
  · rw [if_neg (fun hh => h ⟨hh.1, by omega⟩), if_neg h]
theorem kCp5_q {a0 a N : Nat} : kCp5 (some a0) 0 (some a) 0 env Kn (N : Int) (kd, I, R) = (cpB kd[a0]? kd[a]? 0 0 (N : Int) ∧ Kn env (kd, setRow I a N (I a0), R)) := by
  apply propext
  constructor
  · rintro ⟨b0, b, n0, n1, h1, h2, h3, h4, h5, h6, h7, h8, h9, h10⟩
    simp at h1 h2
    subst h1 h2
    refine ⟨⟨n0, n1, h3, h4, h5, h6, h7, h8, h9⟩, ?_⟩
    rw [← stC_0]; exact h10
  · rintro ⟨⟨n0, n1, h3, h4, h5, h6, h7, h8, h9⟩, h10⟩
    refine ⟨a0, a, n0, n1, rfl, rfl, h3, h4, h5, h6, h7, h8, h9, ?_⟩
    rw [← stC_0] at h10; exact h10
end KC
