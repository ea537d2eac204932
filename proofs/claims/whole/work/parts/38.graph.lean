/-! deps: 30.tool 30.toolb 30.toolc 31.lay 32.mcopy 33.leafm 34.mhist 35.mties 36.mties2 37.mways -/
/-! ways: their lengths are told by steps -/
section GR
variable {e : Nat → Int}
theorem DD_le (k : Nat) : ∀ p q, DD e (k + 1) p q ≤ DD e k p q := by
  intro p q
  show mi _ _ ≤ _
  unfold mi
  split <;> omega
theorem DD_mono {k m : Nat} (h : k ≤ m) (p q : Nat) : DD e m p q ≤ DD e k p q := by
  induction m with
  | zero => have : k = 0 := by omega
            subst this; exact Int.le_refl _
  | succ m ih =>
    by_cases hk : k = m + 1
    · subst hk; exact Int.le_refl _
    · have := ih (by omega)
      have := DD_le (e := e) m p q
      omega
theorem DD_tri (K : Nat) : ∀ k, k < K → ∀ p q, DD e K p q ≤ DD e K p k + DD e K k q := by
  induction K with
  | zero => intro k h; omega
  | succ K ih =>
    intro k hk p q
    by_cases hkK : k = K
    · subst hkK
      rw [DD_col, DD_row]
      show mi _ _ ≤ _
      unfold mi
      split <;> omega
    · have h1 := ih k (by omega) p q
      have h2 := ih k (by omega) p K
      have h3 := ih k (by omega) K q
      have n1 := (DD_rng e K p K).1
      have n2 := (DD_rng e K K q).1
      have n3 := (DD_rng e K K k).1
      have n4 := (DD_rng e K k K).1
      show mi _ _ ≤ mi _ _ + mi _ _
      unfold mi
      repeat' split
      all_goals omega
theorem DD_edge {n p x : Nat} (hx : p ≠ x) (h : 0 < e (10 * p + x)) : DD e n p x ≤ 1 := by
  have := DD_mono (e := e) (Nat.zero_le n) p x
  have h0 : DD e 0 p x = 1 := by simp [DD, D0, hx, h]
  omega
/-- a first step -/
theorem DD_first {n : Nat} : ∀ k, k ≤ n → ∀ p q, q < n → p ≠ q → DD e k p q < 1000000 → ∃ x, x < n ∧ p ≠ x ∧ 0 < e (10 * p + x) ∧ DD e n x q ≤ DD e k p q - 1 := by
  intro k
  induction k with
  | zero =>
    intro _ p q hq hpq h
    have h0 : DD e 0 p q = if 0 < e (10 * p + q) then 1 else 1000000 := by simp [DD, D0, hpq]
    by_cases he : 0 < e (10 * p + q)
    · rw [h0, if_pos he]
      exact ⟨q, hq, hpq, he, by rw [DD_self]; decide⟩
    · rw [h0, if_neg he] at h; omega
  | succ k ih =>
    intro hk p q hq hpq h
    by_cases hc : DD e (k + 1) p q = DD e k p q
    · rw [hc] at h ⊢
      exact ih (by omega) p q hq hpq h
    · have hs : DD e (k + 1) p q = DD e k p k + DD e k k q := by
        have : DD e (k + 1) p q = mi (DD e k p q) (DD e k p k + DD e k k q) := rfl
        rw [this] at hc ⊢
        unfold mi at hc ⊢
        split <;> rename_i hh
        · rfl
        · rw [if_neg hh] at hc; exact absurd rfl hc
      have n1 := DD_rng e k p k
      have n2 := DD_rng e k k q
      by_cases hpk : p = k
      · subst hpk
        rw [DD_self] at hs
        have := DD_row e p q
        omega
      · obtain ⟨x, h1, h2, h3, h4⟩ := ih (by omega) p k (by omega) hpk (by omega)
        refine ⟨x, h1, h2, h3, ?_⟩
        have t := DD_tri (e := e) n k (by omega) x q
        have m := DD_mono (e := e) (show k ≤ n by omega) k q
        omega
/-- the way's length -/
def dst (e : Nat → Int) (n p q : Nat) : Int := DD e n p q
theorem dst_self (n p : Nat) : dst e n p p = 0 := DD_self e n p
theorem dst_nn (n p q : Nat) : 0 ≤ dst e n p q ∧ dst e n p q ≤ 1000000 := ⟨(DD_rng e n p q).1, (DD_rng e n p q).2.1⟩
theorem dst_tri {n k : Nat} (hk : k < n) (p q : Nat) : dst e n p q ≤ dst e n p k + dst e n k q := DD_tri n k hk p q
theorem dst_step {n p x q : Nat} (hx : x < n) (hpx : p ≠ x) (h : 0 < e (10 * p + x)) : dst e n p q ≤ 1 + dst e n x q := by
  have := DD_tri (e := e) n x hx p q
  have := DD_edge (n := n) hpx h
  unfold dst; omega
theorem dst_first {n p q : Nat} (hq : q < n) (hpq : p ≠ q) (h : dst e n p q < 1000000) : ∃ x, x < n ∧ p ≠ x ∧ 0 < e (10 * p + x) ∧ dst e n x q = dst e n p q - 1 := by
  obtain ⟨x, h1, h2, h3, h4⟩ := DD_first n (Nat.le_refl n) p q hq hpq h
  refine ⟨x, h1, h2, h3, ?_⟩
  have := dst_step (q := q) h1 h2 h3
  unfold dst at *; omega
theorem dst_pos {n p q : Nat} (hq : q < n) (hpq : p ≠ q) : 1 ≤ dst e n p q := by
  have h0 := dst_nn (e := e) n p q
  by_cases h : dst e n p q < 1000000
  · obtain ⟨x, h1, h2, h3, h4⟩ := dst_first hq hpq h
    have := (dst_nn (e := e) n x q).1
    omega
  · omega
/-- n places hold no more than n unlike ones -/
theorem pigeon : ∀ (n : Nat) (f : Nat → Nat) (m : Nat), (∀ i, i < m → f i < n) → (∀ i j, i < m → j < m → f i = f j → i = j) → m ≤ n := by
  intro n
  induction n with
  | zero => intro f m h _; rcases m with _ | m; exact Nat.le_refl _; exact absurd (h 0 (by omega)) (by omega)
  | succ n ih =>
    intro f m h hi
    rcases m with _ | m
    · omega
    · have := ih (fun i => if f i = n then f m else f i) m (fun i hi' => ?_) (fun i j h1 h2 h3 => ?_)
      · omega
      · have h1 := h i (by omega)
        have h2 := h m (by omega)
        split
        · rename_i hn
          have : f m ≠ n := fun q => by have := hi i m (by omega) (by omega) (by rw [hn, q]); omega
          omega
        · omega
      · split at h3 <;> split at h3
        · rename_i a b; exact hi i j (by omega) (by omega) (by rw [a, b])
        · have := hi m j (by omega) (by omega) h3; omega
        · have := hi i m (by omega) (by omega) h3; omega
        · exact hi i j (by omega) (by omega) h3
theorem dst_chain {n p q : Nat} (hp : p < n) (hq : q < n) : ∀ m : Nat, dst e n p q = (m : Int) → m < 1000000 → ∀ j, j ≤ m → ∃ x, x < n ∧ dst e n x q = (j : Int) := by
  intro m
  induction m generalizing p with
  | zero => intro h _ j hj; exact ⟨p, hp, by rw [h]; have : j = 0 := by omega
                                             rw [this]⟩
  | succ m ih =>
    intro h hm j hj
    by_cases hjm : j = m + 1
    · exact ⟨p, hp, by rw [h, hjm]⟩
    · have hpq : p ≠ q := fun h0 => by subst h0; rw [dst_self] at h; omega
      obtain ⟨x, h1, h2, h3, h4⟩ := dst_first (e := e) hq hpq (by omega)
      exact ih h1 (by omega) (by omega) j (by omega)
theorem dst_lt {n p q : Nat} (hp : p < n) (hq : q < n) (h : dst e n p q < 1000000) : dst e n p q < n := by
  have h0 := (dst_nn (e := e) n p q).1
  obtain ⟨m, hm⟩ : ∃ m : Nat, dst e n p q = (m : Int) := ⟨(dst e n p q).toNat, by omega⟩
  have hc := dst_chain hp hq m hm (by omega)
  have : ∃ f : Nat → Nat, ∀ j, j ≤ m → f j < n ∧ dst e n (f j) q = (j : Int) := by
    refine ⟨fun j => if h : j ≤ m then Classical.choose (hc j h) else 0, fun j hj => ?_⟩
    have := Classical.choose_spec (hc j hj)
    simpa [hj] using this
  obtain ⟨f, hf⟩ := this
  have := pigeon n f (m + 1) (fun i hi => (hf i (by omega)).1) (fun i j hi hj he => by
    have a := (hf i (by omega)).2
    have b := (hf j (by omega)).2
    rw [he] at a
    omega)
  omega
/-- a way of one step or more, as bits are laid -/
def RR (e : Nat → Int) : Nat → Nat → Nat → Bool
  | 0 => fun p q => decide (0 < e (10 * p + q))
  | k + 1 => fun p q => RR e k p q || (RR e k p k && RR e k k q)
theorem RR_mono {k m p q : Nat} (h : k ≤ m) (hr : RR e k p q = true) : RR e m p q = true := by
  induction m with
  | zero => have : k = 0 := by omega
            subst this; exact hr
  | succ m ih =>
    by_cases hk : k = m + 1
    · subst hk; exact hr
    · show (RR e m p q || _) = true
      rw [ih (by omega)]; rfl
theorem RR_iff {k p q : Nat} (hk10 : k ≤ 10) (hpq : p ≠ q) : RR e k p q = true ↔ DD e k p q < 1000000 := by
  induction k generalizing p q with
  | zero => simp [RR, DD, D0, hpq]; split <;> simp_all
  | succ k ih' =>
    have ih : ∀ {p q : Nat}, p ≠ q → (RR e k p q = true ↔ DD e k p q < 1000000) := fun {p q} => ih' (p := p) (q := q) (by omega)
    have hp2 : (2 : Int) ^ k ≤ 1024 := by
      have : ∀ k, k < 11 → (2 : Int) ^ k ≤ 1024 := by decide
      exact this k (by omega)
    have n1 := DD_rng e k p q
    have n2 := DD_rng e k p k
    have n3 := DD_rng e k k q
    have hmi : DD e (k + 1) p q = mi (DD e k p q) (DD e k p k + DD e k k q) := rfl
    have hR : RR e (k + 1) p q = (RR e k p q || (RR e k p k && RR e k k q)) := rfl
    by_cases hp : p = k
    · subst hp
      rw [DD_row, ← ih hpq, hR]
      cases RR e p p q <;> simp
    · by_cases hq : q = k
      · subst hq
        rw [DD_col, ← ih hpq, hR]
        cases RR e q p q <;> simp
      · have i1 := ih hpq
        have i2 := ih hp
        have i3 := ih (Ne.symm hq)
        rw [hR, hmi]
        simp only [Bool.or_eq_true, Bool.and_eq_true, i1, i2, i3]
        unfold mi
        split
        · constructor
          · rintro (h | h) <;> omega
          · intro h; right; omega
        · constructor
          · rintro (h | ⟨h1, h2⟩)
            · exact h
            · omega
          · intro h; exact Or.inl h
theorem RR_tri (K : Nat) : ∀ k, k < K → ∀ p q, RR e K p k = true → RR e K k q = true → RR e K p q = true := by
  induction K with
  | zero => intro k h; omega
  | succ K ih =>
    intro k hk p q h1 h2
    have e1 : RR e (K + 1) p k = (RR e K p k || (RR e K p K && RR e K K k)) := rfl
    have e2 : RR e (K + 1) k q = (RR e K k q || (RR e K k K && RR e K K q)) := rfl
    have e3 : RR e (K + 1) p q = (RR e K p q || (RR e K p K && RR e K K q)) := rfl
    rw [e1] at h1
    rw [e2] at h2
    rw [e3]
    by_cases hkK : k = K
    · subst hkK
      simp only [Bool.or_eq_true, Bool.and_eq_true] at *
      rcases h1 with h1 | ⟨h1, _⟩ <;> rcases h2 with h2 | ⟨_, h2⟩ <;> exact Or.inr ⟨h1, h2⟩
    · have t1 := ih k (by omega) p q
      have t2 := ih k (by omega) p K
      have t3 := ih k (by omega) K q
      simp only [Bool.or_eq_true, Bool.and_eq_true] at *
      rcases h1 with h1 | ⟨h1, h1'⟩ <;> rcases h2 with h2 | ⟨h2, h2'⟩
      · exact Or.inl (t1 h1 h2)
      · exact Or.inr ⟨t2 h1 h2, h2'⟩
      · exact Or.inr ⟨h1, t3 h1' h2⟩
      · exact Or.inr ⟨h1, h2'⟩
theorem RR_diag (he : ∀ p, ¬ 0 < e (10 * p + p)) {n : Nat} (hn : n ≤ 10) : ∀ k, k ≤ n → ∀ p, RR e k p p = true → ∃ x, x < n ∧ x ≠ p ∧ dst e n p x < 1000000 ∧ dst e n x p < 1000000 := by
  intro k
  induction k with
  | zero => intro _ p h; simp [RR] at h; exact absurd h (he p)
  | succ k ih =>
    intro hk p h
    have e1 : RR e (k + 1) p p = (RR e k p p || (RR e k p k && RR e k k p)) := rfl
    rw [e1] at h
    by_cases h0 : RR e k p p = true
    · exact ih (by omega) p h0
    · simp only [Bool.or_eq_true, Bool.and_eq_true] at h
      have h' : RR e k p k = true ∧ RR e k k p = true := by rcases h with h | h; exact absurd h h0; exact h
      have hpk : p ≠ k := fun q => by subst q; exact h0 h'.1
      refine ⟨k, by omega, Ne.symm hpk, ?_, ?_⟩
      · have := (RR_iff (by omega) hpk).mp h'.1
        have := DD_mono (e := e) (show k ≤ n by omega) p k
        unfold dst; omega
      · have := (RR_iff (by omega) (Ne.symm hpk)).mp h'.2
        have := DD_mono (e := e) (show k ≤ n by omega) k p
        unfold dst; omega
/-- there is a way of one step or more -/
def rch (e : Nat → Int) (n p q : Nat) : Bool := RR e n p q
theorem rch_iff {n p q : Nat} (hn : n ≤ 10) (hpq : p ≠ q) : rch e n p q = true ↔ dst e n p q < 1000000 := RR_iff hn hpq
theorem rch_self (he : ∀ p, ¬ 0 < e (10 * p + p)) {n p : Nat} (hn : n ≤ 10) : rch e n p p = true ↔ ∃ x, x < n ∧ x ≠ p ∧ dst e n p x < 1000000 ∧ dst e n x p < 1000000 := by
  refine ⟨RR_diag he hn n (Nat.le_refl n) p, fun ⟨x, h1, h2, h3, h4⟩ => ?_⟩
  exact RR_tri n x h1 p p ((RR_iff hn (Ne.symm h2)).mpr h3) ((RR_iff hn h2).mpr h4)
theorem rch_edge {n p q : Nat} (h : 0 < e (10 * p + q)) : rch e n p q = true := RR_mono (Nat.zero_le n) (by simp [RR, h])
theorem rch_tri {n x p q : Nat} (hx : x < n) (h1 : rch e n p x = true) (h2 : rch e n x q = true) : rch e n p q = true := RR_tri n x hx p q h1 h2
theorem enc_ne {d : Int} (h : 0 ≤ d) : (enc d ≠ -1) ↔ d < 1000000 := by
  unfold enc
  split <;> omega
theorem enc_dst {n p q : Nat} : (enc (dst e n p q) = -1) ↔ ¬ dst e n p q < 1000000 := by
  have := (dst_nn (e := e) n p q).1
  unfold enc
  split <;> omega
end GR
