/-! the choice: the least row of all sets -/
theorem forDn {i n : Nat} {body : SM} {Kn Kb : XE → XS → Prop} {Kr : AV → XS → Prop} {env : XE} {st : XS} (P : Nat → XE → XS → Prop) (hn : n < 2147483647) (h0 : P n env st)
    (hi0 : ∀ k env st, k ≤ n → P k env st → env[i]? = some (vI ((k : Int) - 1)))
    (hb : ∀ k env st, k < n → P (k + 1) env st → ∀ Kx : XE → XS → Prop, (∀ env' st', env'[i]? = some (vI (k : Int)) → noL env' i = true → P k (env'.set i (vI ((k : Int) - 1))) st' → Kx env' st') → body Kx Kn Kr env st)
    (hk : ∀ env st, P 0 env st → Kn env st) : s_while (c_ge (e_lv i) (e_ci 0)) (s_seq body (s_inc i (-1))) Kn Kb Kr env st := by
  refine ⟨fun k env st => k ≤ n ∧ P k env st, n, ⟨Nat.le_refl _, h0⟩, ?_⟩
  rintro k env st ⟨hkn, hP⟩
  refine ⟨_, hi0 k env st hkn hP, ?_⟩
  dsimp only [e_ci]
  rcases k with _ | k
  · rw [if_neg (by simp)]
    exact hk env st hP
  · rw [if_pos (by simp only [decide_eq_true_eq]; omega)]
    refine hb k env st (by omega) hP _ (fun env' st' h1 h2 h3 => ?_)
    have ea : o2 f_iadd (k : Int) (-1) = (k : Int) - 1 := by rw [oA (by omega) (by omega)]; omega
    exact ⟨_, h1, h2, k, by omega, by omega, by rw [ea]; exact h3⟩
def cst (c : Nat → Int) (n x s : Nat) : Int := sumN (fun q => if s.testBit q = true then c (10 * x + q) else 0) n
def cb (n s : Nat) : Int := sumN (fun q => b2i (s.testBit q)) n
section DP
variable {c : Nat → Int} {n : Nat}
theorem or_tb (s x q : Nat) : (s ||| 2 ^ x).testBit q = (s.testBit q || decide (x = q)) := by rw [tb_or, tb_pow]
theorem cb_add {s x : Nat} (hs : s.testBit x = false) : ∀ {m : Nat}, cb m (s ||| 2 ^ x) = cb m s + (if x < m then 1 else 0) := by
  intro m
  induction m with
  | zero => simp [cb, sumN]
  | succ m ih =>
    have e1 : cb (m + 1) (s ||| 2 ^ x) = cb m (s ||| 2 ^ x) + b2i ((s ||| 2 ^ x).testBit m) := rfl
    have e2 : cb (m + 1) s = cb m s + b2i (s.testBit m) := rfl
    rw [e1, e2, ih, or_tb]
    by_cases h : x = m
    · subst h; simp [hs, b2i]
    · have : (x < m + 1) = (x < m) := propext (by omega)
      simp only [h, decide_false, Bool.or_false, this]
      omega
theorem cb_rng (s m : Nat) : 0 ≤ cb m s ∧ cb m s ≤ m := sb_le s.testBit m
theorem cb_miss {s : Nat} : ∀ {m : Nat}, cb m s < m → ∃ x, x < m ∧ s.testBit x = false := by
  intro m
  induction m with
  | zero => intro h; simp [cb, sumN] at h
  | succ m ih =>
    intro h
    have e2 : cb (m + 1) s = cb m s + b2i (s.testBit m) := rfl
    cases hb : s.testBit m with
    | false => exact ⟨m, by omega, hb⟩
    | true =>
      rw [e2, hb] at h
      simp only [b2i, if_true] at h
      obtain ⟨x, h1, h2⟩ := ih (by omega)
      exact ⟨x, by omega, h2⟩
theorem cb_full {s x : Nat} (h : cb n s = n) (hx : x < n) : s.testBit x = true := by
  cases hb : s.testBit x with
  | true => rfl
  | false =>
    have h1 := cb_add hb (m := n)
    have h2 := cb_rng (s ||| 2 ^ x) n
    rw [if_pos hx] at h1
    omega
theorem or_lt {s x : Nat} (hs : s < 2 ^ n) (hx : x < n) : s ||| 2 ^ x < 2 ^ n := Nat.or_lt_two_pow hs (Nat.pow_lt_pow_right (by decide) hx)
theorem or_gt {s x : Nat} (h : s.testBit x = false) : s < s ||| 2 ^ x := by
  have h1 : s ≤ s ||| 2 ^ x := Nat.left_le_or
  have h2 : s ≠ s ||| 2 ^ x := fun q => by
    have := or_tb s x x
    rw [← q, h] at this
    simp at this
  omega
theorem all_tb {q : Nat} : (2 ^ n - 1).testBit q = decide (q < n) := Nat.testBit_two_pow_sub_one n q
theorem ne_all {s : Nat} (hs : s < 2 ^ n) (h : s ≠ 2 ^ n - 1) : ∃ x, x < n ∧ s.testBit x = false := by
  by_cases hc : cb n s < n
  · exact cb_miss hc
  · have h2 := cb_rng s n
    exact absurd (tb_eq fun q => by
      rw [all_tb]
      by_cases hq : q < n
      · rw [cb_full (by omega) hq]; simp [hq]
      · rw [Nat.testBit_lt_two_pow (Nat.lt_of_lt_of_le hs (Nat.pow_le_pow_right (by decide) (by omega)))]; simp [hq]) h
def mv (c : Nat → Int) (n : Nat) (f : Nat → Int) (s : Nat) : Nat → Int
  | 0 => if s = 2 ^ n - 1 then 0 else -1
  | x + 1 => if s.testBit x = true then mv c n f s x else if mv c n f s x = -1 ∨ cst c n x s + f (s ||| 2 ^ x) < mv c n f s x then cst c n x s + f (s ||| 2 ^ x) else mv c n f s x
/-- the row of the least ones -/
def isLs (c : Nat → Int) (n : Nat) (f : Nat → Int) : Prop := ∀ s, s < 2 ^ n → f s = mv c n f s n
theorem mv_congr {f g : Nat → Int} {s : Nat} (hs : s < 2 ^ n) (h : ∀ t, s < t → t < 2 ^ n → f t = g t) : ∀ {m : Nat}, m ≤ n → mv c n f s m = mv c n g s m := by
  intro m
  induction m with
  | zero => intro _; rfl
  | succ m ih =>
    intro hm
    have i := ih (by omega)
    simp only [mv]
    rw [i]
    cases hb : s.testBit m with
    | true => rfl
    | false => rw [h _ (or_gt hb) (or_lt hs (by omega))]
theorem Ls_uniq {f g : Nat → Int} (hf : isLs c n f) (hg : isLs c n g) : ∀ k s, s < 2 ^ n → 2 ^ n - s ≤ k → f s = g s := by
  intro k
  induction k with
  | zero => intro s h1 h2; omega
  | succ k ih =>
    intro s h1 h2
    rw [hf s h1, hg s h1]
    exact mv_congr h1 (fun t h3 h4 => ih t h4 (by omega)) (Nat.le_refl n)
/-- costs are small -/
def smc (c : Nat → Int) (n : Nat) : Prop := (∀ j, 0 ≤ c j) ∧ ∀ x, x < n → sumN (fun q => c (10 * x + q)) n ≤ 24552
theorem cst_rng (hc : smc c n) {x : Nat} (hx : x < n) (s : Nat) : 0 ≤ cst c n x s ∧ cst c n x s ≤ 24552 := by
  have h1 := hc.2 x hx
  have h2 : cst c n x s ≤ sumN (fun q => c (10 * x + q)) n := sumN_mono (fun k _ => by have := hc.1 (10 * x + k); split <;> omega)
  have h3 : sumN (fun _ => 0) n ≤ cst c n x s := sumN_mono (fun k _ => by have := hc.1 (10 * x + k); split <;> omega)
  have h4 : ∀ m, sumN (fun _ => (0 : Int)) m = 0 := by
    intro m
    induction m with
    | zero => rfl
    | succ m ih => simp [sumN, ih]
  rw [h4] at h3
  omega
theorem mv_rng (hc : smc c n) {f : Nat → Int} {s : Nat} {M : Int} (hM : 0 ≤ M) (hf : ∀ x, x < n → s.testBit x = false → 0 ≤ f (s ||| 2 ^ x) ∧ f (s ||| 2 ^ x) ≤ M) : ∀ {m : Nat}, m ≤ n → -1 ≤ mv c n f s m ∧ mv c n f s m ≤ 24552 + M ∧ (∀ x, x < m → s.testBit x = false → mv c n f s m ≠ -1 ∧ mv c n f s m ≤ cst c n x s + f (s ||| 2 ^ x)) ∧ (mv c n f s m = -1 ∨ (s = 2 ^ n - 1 ∧ mv c n f s m = 0) ∨ ∃ x, x < m ∧ s.testBit x = false ∧ mv c n f s m = cst c n x s + f (s ||| 2 ^ x)) := by
  intro m
  induction m with
  | zero =>
    intro _
    simp only [mv]
    refine ⟨by split <;> omega, by split <;> omega, fun x hx => by omega, ?_⟩
    split
    · rename_i h; exact Or.inr (Or.inl ⟨h, rfl⟩)
    · exact Or.inl rfl
  | succ m ih =>
    intro hm
    obtain ⟨a1, a2, a3, a4⟩ := ih (by omega)
    simp only [mv]
    cases hb : s.testBit m with
    | true =>
      simp only [if_true]
      refine ⟨a1, a2, fun x hx hx2 => ?_, ?_⟩
      · refine a3 x ?_ hx2
        have : x ≠ m := fun q => by rw [q, hb] at hx2; exact absurd hx2 (by simp)
        omega
      · rcases a4 with a4 | a4 | ⟨x, h1, h2, h3⟩
        · exact Or.inl a4
        · exact Or.inr (Or.inl a4)
        · exact Or.inr (Or.inr ⟨x, by omega, h2, h3⟩)
    | false =>
      have hcm := cst_rng hc (show m < n by omega) s
      have hfm := hf m (by omega) hb
      simp only [Bool.false_eq_true, if_false]
      split
      · rename_i h
        refine ⟨by omega, by omega, fun x hx hx2 => ?_, Or.inr (Or.inr ⟨m, by omega, hb, rfl⟩)⟩
        by_cases hxm : x = m
        · subst hxm; omega
        · have := a3 x (by omega) hx2
          omega
      · rename_i h
        refine ⟨by omega, by omega, fun x hx hx2 => ?_, ?_⟩
        · by_cases hxm : x = m
          · subst hxm; omega
          · exact a3 x (by omega) hx2
        · rcases a4 with a4 | a4 | ⟨x, h1, h2, h3⟩
          · exact Or.inl a4
          · exact Or.inr (Or.inl a4)
          · exact Or.inr (Or.inr ⟨x, by omega, h2, h3⟩)
theorem Ls_rng (hc : smc c n) {f : Nat → Int} {a : Nat} (hf : ∀ s, a ≤ s → s < 2 ^ n → f s = mv c n f s n) : ∀ k s, a ≤ s → s < 2 ^ n → 2 ^ n - s ≤ k → 0 ≤ f s ∧ f s ≤ 24552 * (n - cb n s) := by
  intro k
  induction k with
  | zero => intro s _ h1 h2; omega
  | succ k ih =>
    intro s ha h1 h2
    have hcb := cb_rng s n
    have hM : ∀ x, x < n → s.testBit x = false → 0 ≤ f (s ||| 2 ^ x) ∧ f (s ||| 2 ^ x) ≤ 24552 * (n - cb n s - 1) := by
      intro x hx hb
      have h3 := or_gt hb
      have h4 := or_lt h1 hx
      have h5 := ih (s ||| 2 ^ x) (by omega) h4 (by omega)
      rw [cb_add hb, if_pos hx] at h5
      refine ⟨h5.1, ?_⟩
      have : (n : Int) - (cb n s + 1) = n - cb n s - 1 := by omega
      rw [this] at h5
      exact h5.2
    rw [hf s ha h1]
    by_cases hall : s = 2 ^ n - 1
    · have hbt : ∀ x, x < n → s.testBit x = true := fun x hx => by rw [hall, all_tb]; simp [hx]
      have e0 : ∀ m, m ≤ n → mv c n f s m = 0 := by
        intro m
        induction m with
        | zero => intro _; simp [mv, hall]
        | succ m ihm => intro hm; simp only [mv]; rw [hbt m (by omega), if_pos rfl]; exact ihm (by omega)
      rw [e0 n (Nat.le_refl n)]
      have : 0 ≤ 24552 * ((n : Int) - cb n s) := by omega
      omega
    · obtain ⟨y, hy1, hy2⟩ := ne_all h1 hall
      have hcb2 : cb n s < n := by
        have h3 := cb_add hy2 (m := n)
        have h4 := cb_rng (s ||| 2 ^ y) n
        rw [if_pos hy1] at h3
        omega
      obtain ⟨a1, a2, a3, a4⟩ := mv_rng hc (M := 24552 * (n - cb n s - 1)) (by omega) hM (Nat.le_refl n)
      have := a3 y hy1 hy2
      omega
theorem Ls_big (hc : smc c n) (hn : n ≤ 10) {f : Nat → Int} (hf : isLs c n f) {s : Nat} (hs : s < 2 ^ n) : 0 ≤ f s ∧ f s ≤ 245520 := by
  have := Ls_rng hc (a := 0) (fun s _ h => hf s h) (2 ^ n - s) s (by omega) hs (Nat.le_refl _)
  have h2 := cb_rng s n
  omega
/-- the first part that is best behind a set -/
def okx (c : Nat → Int) (n : Nat) (f : Nat → Int) (s x : Nat) : Bool := !s.testBit x && decide (cst c n x s + f (s ||| 2 ^ x) = f s)
def pk (c : Nat → Int) (n : Nat) (f : Nat → Int) (s : Nat) : Nat := fstN (okx c n f s) n
theorem pk_ok (hc : smc c n) (hn : n ≤ 10) {f : Nat → Int} (hf : isLs c n f) {s : Nat} (hs : s < 2 ^ n) (hcb : cb n s < n) : pk c n f s < n ∧ okx c n f s (pk c n f s) = true := by
  obtain ⟨y, hy1, hy2⟩ := cb_miss hcb
  obtain ⟨a1, a2, a3, a4⟩ := mv_rng hc (f := f) (s := s) (M := 245520) (by decide) (fun x hx hb => Ls_big hc hn hf (or_lt hs hx)) (Nat.le_refl n)
  have h1 := a3 y hy1 hy2
  have : ∃ x, x < n ∧ okx c n f s x = true := by
    rcases a4 with a4 | a4 | ⟨x, h2, h3, h4⟩
    · exact absurd a4 h1.1
    · exfalso
      rw [a4.1, all_tb] at hy2
      simp [hy1] at hy2
    · refine ⟨x, h2, ?_⟩
      simp only [okx, h3, Bool.not_false, Bool.true_and, decide_eq_true_eq]
      rw [hf s hs]; exact h4.symm
  obtain ⟨x, hx1, hx2⟩ := this
  have h3 : pk c n f s < n := by
    have hl := fstN_le (okx c n f s) n
    rcases Nat.lt_or_ge (fstN (okx c n f s) n) n with h | h
    · exact h
    · have := fstN_no (f := okx c n f s) (m := n) (k := x) (by omega)
      rw [hx2] at this
      exact absurd this (by simp)
  exact ⟨h3, fstN_lt h3⟩
/-- the set behind k places -/
def sk (c : Nat → Int) (n : Nat) (f : Nat → Int) : Nat → Nat
  | 0 => 0
  | k + 1 => sk c n f k ||| 2 ^ pk c n f (sk c n f k)
theorem sk_ok (hc : smc c n) (hn : n ≤ 10) {f : Nat → Int} (hf : isLs c n f) : ∀ {k : Nat}, k ≤ n → sk c n f k < 2 ^ n ∧ cb n (sk c n f k) = k := by
  intro k
  induction k with
  | zero =>
    intro _
    refine ⟨Nat.two_pow_pos n, ?_⟩
    show cb n 0 = 0
    have : ∀ m, cb m 0 = 0 := by
      intro m
      induction m with
      | zero => rfl
      | succ m ih => have e2 : cb (m + 1) 0 = cb m 0 + b2i ((0 : Nat).testBit m) := rfl
                     rw [e2, ih, Nat.zero_testBit]; rfl
    exact this n
  | succ k ih =>
    intro hk
    obtain ⟨h1, h2⟩ := ih (by omega)
    obtain ⟨h3, h4⟩ := pk_ok hc hn hf h1 (by omega)
    have h5 : (sk c n f k).testBit (pk c n f (sk c n f k)) = false := by
      simp only [okx, Bool.and_eq_true, Bool.not_eq_true'] at h4
      exact h4.1
    refine ⟨or_lt h1 h3, ?_⟩
    show cb n (sk c n f k ||| 2 ^ pk c n f (sk c n f k)) = _
    rw [cb_add h5, if_pos h3, h2]
    omega
/-- where a part stands -/
def pos (c : Nat → Int) (n : Nat) (f : Nat → Int) : Nat → Nat → Nat
  | 0 => fun _ => 0
  | k + 1 => fun x => if x = pk c n f (sk c n f k) then k else pos c n f k x
theorem Ls_agree {f g : Nat → Int} (hf : isLs c n f) (hg : isLs c n g) {s : Nat} (hs : s < 2 ^ n) : f s = g s := Ls_uniq hf hg (2 ^ n - s) s hs (Nat.le_refl _)
theorem okx_agree {f g : Nat → Int} (hf : isLs c n f) (hg : isLs c n g) {s x : Nat} (hs : s < 2 ^ n) (hx : x < n) : okx c n f s x = okx c n g s x := by
  simp only [okx, Ls_agree hf hg hs, Ls_agree hf hg (or_lt hs hx)]
theorem fstN_congr {f g : Nat → Bool} {m : Nat} (h : ∀ k, k < m → f k = g k) : fstN f m = fstN g m := by
  induction m with
  | zero => rfl
  | succ m ih => simp only [fstN, ih (fun k hk => h k (by omega)), h m (by omega)]
theorem pk_agree {f g : Nat → Int} (hf : isLs c n f) (hg : isLs c n g) {s : Nat} (hs : s < 2 ^ n) : pk c n f s = pk c n g s := fstN_congr fun x hx => okx_agree hf hg hs hx
theorem sk_agree (hc : smc c n) (hn : n ≤ 10) {f g : Nat → Int} (hf : isLs c n f) (hg : isLs c n g) : ∀ {k : Nat}, k ≤ n → sk c n f k = sk c n g k := by
  intro k
  induction k with
  | zero => intro _; rfl
  | succ k ih =>
    intro hk
    have i := ih (by omega)
    simp only [sk]
    rw [← i, pk_agree hf hg (sk_ok hc hn hf (by omega)).1]
theorem pos_agree (hc : smc c n) (hn : n ≤ 10) {f g : Nat → Int} (hf : isLs c n f) (hg : isLs c n g) : ∀ {k : Nat}, k ≤ n → pos c n f k = pos c n g k := by
  intro k
  induction k with
  | zero => intro _; rfl
  | succ k ih =>
    intro hk
    funext x
    simp only [pos]
    rw [← ih (by omega), ← sk_agree hc hn hf hg (show k ≤ n by omega), ← pk_agree hf hg (sk_ok hc hn hf (by omega)).1]
end DP
