/-! deps: 30.tool 30.toolb 30.toolc 31.lay 32.mcopy 33.leafm 34.mhist 35.mties 36.mties2 37.mways 38.graph 39.mlook 40.spec -/
/-! the tape and what is read of it -/
def tpk (T : Nat → Int) (sz a : Nat) : Int := if a < sz then T a else -1
def LTs : List Int := [97, 100, 100, 32, 0, 109, 117, 108, 32, 0, 112, 117, 116, 32, 0, 103, 101, 116, 32, 0, 99, 97, 108, 108, 32, 111, 100, 100, 32, 0, 110, 101, 119, 115, 32]
def LT (w j : Nat) : Int := LTs.getD (5 * w + j) 0
def wlen (w : Nat) : Nat := if w = 4 ∨ w = 6 then 4 else 3
def fw (c : Int) : Nat := fstN (fun w => decide (c = LT w 0)) 7
def mtc (T : Nat → Int) (sz a w : Nat) : Nat := fstN (fun j => decide (tpk T sz (a + j) ≠ LT w j)) (wlen w + 1)
def isDig (c : Int) : Bool := decide (48 ≤ c) && decide (c ≤ 57)
def dgN (T : Nat → Int) (sz a : Nat) : Nat := fstN (fun j => !isDig (tpk T sz (a + j))) 3
def dgV (T : Nat → Int) (sz a : Nat) : Nat → Int
  | 0 => 0
  | j + 1 => 10 * dgV T sz a j + tpk T sz (a + j) - 48
def raW (T : Nat → Int) (sz a : Nat) : Nat := fw (tpk T sz a)
def raM (T : Nat → Int) (sz a : Nat) : Nat := mtc T sz a (raW T sz a)
def raB (T : Nat → Int) (sz a : Nat) : Bool := decide (raW T sz a < 7) && decide (raM T sz a = wlen (raW T sz a) + 1)
def ra1 (T : Nat → Int) (sz a : Nat) : Nat := a + raM T sz a
def raD (T : Nat → Int) (sz a : Nat) : Nat := dgN T sz (ra1 T sz a)
def raV (T : Nat → Int) (sz a : Nat) : Int := dgV T sz (ra1 T sz a) (raD T sz a)
def raOk (T : Nat → Int) (sz a : Nat) : Bool := raB T sz a && decide (0 < raD T sz a)
def raAt (T : Nat → Int) (sz a : Nat) : Nat := if raW T sz a = 7 then a else if raB T sz a = true then ra1 T sz a + raD T sz a else ra1 T sz a
def rAt (T : Nat → Int) (sz : Nat) : Nat → Nat
  | 0 => 0
  | i + 1 => raAt T sz (rAt T sz i) + 1
def rMore (T : Nat → Int) (sz i : Nat) : Bool := raOk T sz (rAt T sz i) && (decide (i + 1 < 10) && decide (tpk T sz (raAt T sz (rAt T sz i)) = 59))
def rLast (T : Nat → Int) (sz : Nat) : Nat := fstN (fun i => !rMore T sz i) 9
def rdP (T : Nat → Int) (sz : Nat) : Nat := if sz = 0 then 0 else raAt T sz (rAt T sz (rLast T sz))
def rdOK (T : Nat → Int) (sz : Nat) : Bool := decide (sz = 0) || (raOk T sz (rAt T sz (rLast T sz)) && decide (rdP T sz = sz))
def rdN (T : Nat → Int) (sz : Nat) : Nat := if sz = 0 then 0 else rLast T sz + 1
section TP
variable {T : Nat → Int} {sz : Nat}
theorem LT_pos : ∀ w : Fin 7, ∀ j : Fin 5, (j : Nat) ≤ wlen w → 0 < LT w j := by decide
theorem tpk_lt {a : Nat} {c : Int} (h : tpk T sz a = c) (hc : 0 < c) : a < sz := by
  unfold tpk at h
  by_cases h1 : a < sz
  · exact h1
  · rw [if_neg h1] at h; omega
theorem fw_le (c : Int) : fw c ≤ 7 := fstN_le _ _
theorem fw_lt {c : Int} (h : fw c < 7) : c = LT (fw c) 0 := by
  have := fstN_lt (f := fun w => decide (c = LT w 0)) (m := 7) h
  exact of_decide_eq_true this
theorem mtc_le (a w : Nat) : mtc T sz a w ≤ wlen w + 1 := fstN_le _ _
theorem mtc_eq {a w j : Nat} (h : j < mtc T sz a w) : tpk T sz (a + j) = LT w j := by
  have := fstN_no (f := fun j => decide (tpk T sz (a + j) ≠ LT w j)) (m := wlen w + 1) h
  simpa using this
theorem mtc_ne {a w : Nat} (h : mtc T sz a w < wlen w + 1) : tpk T sz (a + mtc T sz a w) ≠ LT w (mtc T sz a w) := by
  have := fstN_lt (f := fun j => decide (tpk T sz (a + j) ≠ LT w j)) (m := wlen w + 1) h
  exact of_decide_eq_true this
theorem mtc_is {a w m : Nat} (hm : m ≤ wlen w + 1) (h1 : ∀ j, j < m → tpk T sz (a + j) = LT w j) (h2 : m < wlen w + 1 → tpk T sz (a + m) ≠ LT w m) : mtc T sz a w = m :=
  fstN_eq hm (fun k hk => by simpa using h1 k hk) (fun h => by simpa using h2 h)
theorem dgN_is {a m : Nat} (hm : m ≤ 3) (h1 : ∀ j, j < m → isDig (tpk T sz (a + j)) = true) (h2 : m < 3 → isDig (tpk T sz (a + m)) = false) : dgN T sz a = m :=
  fstN_eq hm (fun k hk => by simp [h1 k hk]) (fun h => by simp [h2 h])
theorem dg_lt {a j : Nat} (h : isDig (tpk T sz (a + j)) = true) : a + j < sz := by
  simp [isDig] at h
  exact tpk_lt (T := T) (c := tpk T sz (a + j)) rfl (by omega)
theorem dgN_dig {a j : Nat} (h : j < dgN T sz a) : isDig (tpk T sz (a + j)) = true := by
  have := fstN_no (f := fun j => !isDig (tpk T sz (a + j))) (m := 3) h
  simpa using this
theorem dgV_rng {a : Nat} : ∀ n, n ≤ 3 → (∀ j, j < n → isDig (tpk T sz (a + j)) = true) → 0 ≤ dgV T sz a n ∧ (n ≤ 0 → dgV T sz a n ≤ 0) ∧ (n ≤ 1 → dgV T sz a n ≤ 9) ∧ (n ≤ 2 → dgV T sz a n ≤ 99) ∧ dgV T sz a n ≤ 999 := by
  intro n
  induction n with
  | zero => intro _ _; simp [dgV]
  | succ n ih =>
    intro h1 h2
    have h3 := ih (by omega) (fun j hj => h2 j (by omega))
    have h4 := h2 n (by omega)
    simp [isDig] at h4
    rw [dgV]
    omega
theorem raAt_le {a : Nat} (ha : a ≤ sz) : raAt T sz a ≤ sz := by
  unfold raAt
  by_cases h7 : raW T sz a = 7
  · rw [if_pos h7]; exact ha
  · rw [if_neg h7]
    have hw : raW T sz a < 7 := by have := fw_le (tpk T sz a); unfold raW at *; omega
    have h1 : ra1 T sz a ≤ sz := by
      unfold ra1
      by_cases h0 : raM T sz a = 0
      · omega
      · obtain ⟨m, hm⟩ : ∃ m, raM T sz a = m + 1 := ⟨raM T sz a - 1, by omega⟩
        have hle := mtc_le (T := T) (sz := sz) a (raW T sz a)
        have e1 := mtc_eq (T := T) (sz := sz) (a := a) (w := raW T sz a) (j := m) (by show m < raM T sz a; omega)
        have hw4 : wlen (raW T sz a) ≤ 4 := by unfold wlen; split <;> omega
        have hm5 : m ≤ wlen (raW T sz a) := by unfold raM at hm; omega
        have e2 := LT_pos ⟨raW T sz a, hw⟩ ⟨m, by omega⟩ hm5
        have := tpk_lt e1 e2
        omega
    by_cases hb : raB T sz a = true
    · rw [if_pos hb]
      by_cases h0 : raD T sz a = 0
      · omega
      · obtain ⟨m, hm⟩ : ∃ m, raD T sz a = m + 1 := ⟨raD T sz a - 1, by omega⟩
        have := dg_lt (dgN_dig (T := T) (sz := sz) (a := ra1 T sz a) (j := m) (by show m < raD T sz a; omega))
        omega
    · rw [if_neg hb]; exact h1
theorem rAt_le : ∀ i, (∀ j, j < i → rMore T sz j = true) → rAt T sz i ≤ sz := by
  intro i
  induction i with
  | zero => intro _; exact Nat.zero_le _
  | succ i ih =>
    intro h
    have h1 := ih (fun j hj => h j (by omega))
    have h2 := h i (by omega)
    simp [rMore] at h2
    have := tpk_lt h2.2.2 (by decide)
    rw [rAt]; omega
theorem rLast_le : rLast T sz ≤ 9 := fstN_le _ _
theorem rLast_no {j : Nat} (h : j < rLast T sz) : rMore T sz j = true := by
  have := fstN_no (f := fun i => !rMore T sz i) (m := 9) h
  simpa using this
theorem rMore_9 : rMore T sz 9 = false := by simp [rMore]
theorem rLast_is {i : Nat} (hi : i ≤ 9) (h1 : ∀ j, j < i → rMore T sz j = true) (h2 : rMore T sz i = false) : rLast T sz = i :=
  fstN_eq hi (fun k hk => by simp [h1 k hk]) (fun _ => by simp [h2])
theorem rdP_le : rdP T sz ≤ sz := by
  unfold rdP; split
  · omega
  · exact raAt_le (rAt_le _ fun j hj => rLast_no hj)
end TP
