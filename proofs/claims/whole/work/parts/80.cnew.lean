/-! new cells -/
def mk (st : XS) (a k t n : Nat) : XS := stR (stN st (t, n)) a k (some st.1.length)
section NW
variable {env : XE} {st : XS} {Kn Kb : XE → XS → Prop} {Kr : AV → XS → Prop} {a c k N : Nat} {T : SM}
theorem new_obj (h : T Kn Kb Kr (vR (some a) :: env) st) : s_seq (s_obj (r_lv 0)) T Kn Kb Kr (vR (some a) :: env) st :=
  ⟨some a, rfl, ⟨a, rfl⟩, h⟩
theorem new_i (h : (stN st (0, N)).1[a]? = some (c + 3, 0)) (hk : T Kn Kb Kr (vR (some a) :: env) (mk st a k 0 N)) : s_seq (s_putR (r_lv 0) c k (r_newi N)) T Kn Kb Kr (vR (some a) :: env) st := by
  rw [s_seq_p, s_putR_p]
  exact ⟨some a, rfl, ⟨a, rfl, h⟩, hk⟩
theorem new_z (h : (stN st (1, N)).1[a]? = some (c + 3, 0)) (hk : T Kn Kb Kr (vR (some a) :: env) (mk st a k 1 N)) : s_seq (s_putR (r_lv 0) c k (r_newz N)) T Kn Kb Kr (vR (some a) :: env) st := by
  rw [s_seq_p, s_putR_p]
  exact ⟨some a, rfl, ⟨a, rfl, h⟩, hk⟩
theorem new_p (h : (stN st (2, N)).1[a]? = some (c + 3, 0)) (hk : T Kn Kb Kr (vR (some a) :: env) (mk st a k 2 N)) : s_seq (s_putR (r_lv 0) c k (r_newp N)) T Kn Kb Kr (vR (some a) :: env) st := by
  rw [s_seq_p, s_putR_p]
  exact ⟨some a, rfl, ⟨a, rfl, h⟩, hk⟩
theorem new_v {v : Int} (h : st.1[a]? = some (c + 3, 0)) (hk : T Kn Kb Kr (vR (some a) :: env) (stI st a k v)) : s_seq (s_put (r_lv 0) c k (e_ci v)) T Kn Kb Kr (vR (some a) :: env) st := by
  rw [s_seq_p, s_put_p]
  exact ⟨some a, rfl, ⟨a, rfl, h⟩, hk⟩
theorem new_b {v : Int} (h : st.1[a]? = some (c + 3, 0)) (hv : v = 0 ∨ v = 1) (hk : T Kn Kb Kr (vR (some a) :: env) (stI st a k v)) : s_seq (s_putZ (r_lv 0) c k (e_ci v)) T Kn Kb Kr (vR (some a) :: env) st := by
  rw [s_seq_p, s_putZ_p]
  exact ⟨some a, rfl, ⟨a, rfl, h⟩, hv, hk⟩
theorem new_o {c2 : Nat} {B : XB} {F : XS → XS} (hB : ∀ (K : AV → XS → Prop), K vU (F st) → B [vR (some st.1.length)] (stN st (c2 + 3, 0)) K) (h : (F st).1[a]? = some (c + 3, 0)) (hk : T Kn Kb Kr (vR (some a) :: env) (stR (F st) a k (some st.1.length))) : s_seq (s_putR (r_lv 0) c k (r_new c2 B a_nil)) T Kn Kb Kr (vR (some a) :: env) st := by
  rw [s_seq_p, s_putR_p]
  exact ⟨some a, rfl, hB _ ⟨rfl, ⟨a, rfl, h⟩, hk⟩⟩
theorem new_ret (hk : Kr vU st) : s_ret Kn Kb Kr env st := hk
end NW
/-- a new program -/
def prS (st : XS) : XS := mk (mk (mk (mk (mk (mk (mk (mk (stI (stN st (6, 0)) st.1.length 0 0) st.1.length 1 0 3) st.1.length 2 0 60) st.1.length 3 0 20) st.1.length 4 0 200) st.1.length 5 0 20) st.1.length 6 0 8) st.1.length 7 0 48) st.1.length 8 0 100
theorem stN_len {st : XS} {q : Nat × Nat} : (stN st q).1.length = st.1.length + 1 := by simp [stN]
theorem stN_old {st : XS} {q : Nat × Nat} {a : Nat} {p : Nat × Nat} (h : st.1[a]? = some p) : (stN st q).1[a]? = some p := by
  obtain ⟨h1, _⟩ := List.getElem?_eq_some_iff.1 h
  simp only [stN]
  rw [List.getElem?_append_left h1]
  exact h
theorem stN_new {st : XS} {q : Nat × Nat} : (stN st q).1[st.1.length]? = some q := by simp [stN]
theorem mk_old {st : XS} {a k t n b : Nat} {p : Nat × Nat} (h : st.1[b]? = some p) : (mk st a k t n).1[b]? = some p := stN_old (q := (t, n)) h
theorem X3_init_ok {st : XS} {K : AV → XS → Prop} (hk : K vU (prS st)) : B_X3_init [vR (some st.1.length)] (stN st (6, 0)) K := by
  have e0 : (stN st (6, 0)).1[st.1.length]? = some (6, 0) := stN_new
  refine ⟨Nat.le_refl 1, ?_⟩
  show t_X3_init _ _ _ [vR (some st.1.length)] _
  unfold t_X3_init
  refine new_obj (new_v e0 ?_)
  have e1 : (stI (stN st (6, 0)) st.1.length 0 0).1[st.1.length]? = some (6, 0) := e0
  refine new_i (stN_old e1) ?_
  have e2 := mk_old (a := st.1.length) (k := 1) (t := 0) (n := 3) e1
  refine new_i (stN_old e2) ?_
  have e3 := mk_old (a := st.1.length) (k := 2) (t := 0) (n := 60) e2
  refine new_i (stN_old e3) ?_
  have e4 := mk_old (a := st.1.length) (k := 3) (t := 0) (n := 20) e3
  refine new_i (stN_old e4) ?_
  have e5 := mk_old (a := st.1.length) (k := 4) (t := 0) (n := 200) e4
  refine new_i (stN_old e5) ?_
  have e6 := mk_old (a := st.1.length) (k := 5) (t := 0) (n := 20) e5
  refine new_i (stN_old e6) ?_
  have e7 := mk_old (a := st.1.length) (k := 6) (t := 0) (n := 8) e6
  refine new_i (stN_old e7) ?_
  have e8 := mk_old (a := st.1.length) (k := 7) (t := 0) (n := 48) e7
  refine new_i (stN_old e8) ?_
  exact ⟨rfl, hk⟩
section NP
variable {kd : List (Nat × Nat)} {R : Nat → Nat → Option Nat} {I : Nat → Nat → Int}
def prK : List (Nat × Nat) := [(6, 0), (0, 3), (0, 60), (0, 20), (0, 200), (0, 20), (0, 8), (0, 48), (0, 100)]
theorem prS_k : (prS (kd, I, R)).1 = kd ++ prK := by
  simp [prS, mk, stN, stI, stR, prK]
theorem prS_I {b j : Nat} : (prS (kd, I, R)).2.1 b j = if kd.length ≤ b ∧ b ≤ kd.length + 8 then 0 else I b j := by
  simp only [prS, mk, stN, stI, stR, upI, List.length_append, List.length_cons, List.length_nil]
  by_cases h : kd.length ≤ b ∧ b ≤ kd.length + 8
  · rw [if_pos h]
    rcases (show b = kd.length ∨ b = kd.length + 1 ∨ b = kd.length + 2 ∨ b = kd.length + 3 ∨ b = kd.length + 4 ∨ b = kd.length + 5 ∨ b = kd.length + 6 ∨ b = kd.length + 7 ∨ b = kd.length + 8 by omega) with rfl | rfl | rfl | rfl | rfl | rfl | rfl | rfl | rfl <;> simp
  · rw [if_neg h]
    repeat rw [if_neg (by omega)]
theorem prS_R {b j : Nat} (h : b ≠ kd.length) (h2 : b < kd.length ∨ kd.length + 8 < b) : (prS (kd, I, R)).2.2 b j = R b j := by
  simp only [prS, mk, stN, stI, stR, upR, List.length_append, List.length_cons, List.length_nil]
  repeat rw [if_neg (by omega)]
theorem prS_P {j : Nat} (h : 1 ≤ j ∧ j ≤ 8) : (prS (kd, I, R)).2.2 kd.length j = some (kd.length + j) := by
  simp only [prS, mk, stN, stI, stR, upR, List.length_append, List.length_cons, List.length_nil]
  rcases (show j = 1 ∨ j = 2 ∨ j = 3 ∨ j = 4 ∨ j = 5 ∨ j = 6 ∨ j = 7 ∨ j = 8 by omega) with rfl | rfl | rfl | rfl | rfl | rfl | rfl | rfl <;> first | (simp; done) | (simp; omega)
theorem prK_at {i : Nat} : (kd ++ prK)[kd.length + i]? = prK[i]? := by
  rw [List.getElem?_append_right (by omega)]
  congr 1; omega
theorem prS_prog : isProg (prS (kd, I, R)).1 (prS (kd, I, R)).2.2 kd.length := by
  have h0 := prK_at (kd := kd) (i := 0)
  simp only [Nat.add_zero] at h0
  rw [prS_k]
  refine ⟨by rw [h0]; rfl, by rw [prK_at]; rfl, by rw [prK_at]; rfl, by rw [prK_at]; rfl, by rw [prK_at]; rfl, by rw [prK_at]; rfl, by rw [prK_at]; rfl, by rw [prK_at]; rfl, by rw [prK_at]; rfl, prS_P (by omega), prS_P (by omega), prS_P (by omega), prS_P (by omega), prS_P (by omega), prS_P (by omega), prS_P (by omega), prS_P (by omega)⟩
end NP
