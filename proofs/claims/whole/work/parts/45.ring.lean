/-! least rings -/
section RG
variable {e : Nat → Int} {n : Nat}
/-- the next one on the way home -/
def nxp (e : Nat → Int) (n p a x : Nat) : Bool := decide (x ≠ a) && (decide (0 < e (10 * a + x)) && decide (dst e n x p = dst e n a p - 1))
def nxt (e : Nat → Int) (n p a : Nat) : Nat := fstN (nxp e n p a) n
theorem nxt_ok {p a : Nat} (hp : p < n) (hap : a ≠ p) (h : dst e n a p < 1000000) : nxt e n p a < n ∧ nxp e n p a (nxt e n p a) = true := by
  obtain ⟨x, h1, h2, h3, h4⟩ := dst_first hp hap h
  have hx : nxp e n p a x = true := by simp [nxp, Ne.symm h2, h3, h4]
  have h3 : nxt e n p a < n := by
    have hl := fstN_le (nxp e n p a) n
    rcases Nat.lt_or_ge (fstN (nxp e n p a) n) n with h | h
    · exact h
    · have := fstN_no (f := nxp e n p a) (m := n) (k := x) (by omega)
      rw [hx] at this
      exact absurd this (by simp)
  exact ⟨h3, fstN_lt h3⟩
theorem nxt_dst {p a : Nat} (hp : p < n) (hap : a ≠ p) (h : dst e n a p < 1000000) : dst e n (nxt e n p a) p = dst e n a p - 1 := by
  have := (nxt_ok hp hap h).2
  simp [nxp] at this
  exact this.2.2
theorem nxt_edge {p a : Nat} (hp : p < n) (hap : a ≠ p) (h : dst e n a p < 1000000) : 0 < e (10 * a + nxt e n p a) := by
  have := (nxt_ok hp hap h).2
  simp [nxp] at this
  exact this.2.1
/-- the ring of the tie p, q -/
def rg (e : Nat → Int) (n p q : Nat) : Nat → Nat
  | 0 => p
  | 1 => q
  | i + 2 => nxt e n p (rg e n p q (i + 1))
/-- its length -/
def rgL (e : Nat → Int) (n p q : Nat) : Nat := (dst e n q p).toNat + 1
theorem rg_ok {p q : Nat} (hp : p < n) (hq : q < n) (hpq : p ≠ q) (h : dst e n q p < 1000000) : ∀ i : Nat, i + 1 < rgL e n p q → rg e n p q (i + 1) < n ∧ dst e n (rg e n p q (i + 1)) p = dst e n q p - i := by
  have h0 := dst_pos (e := e) hp (Ne.symm hpq)
  intro i
  induction i with
  | zero => intro _; exact ⟨hq, by simp [rg]⟩
  | succ i ih =>
    intro hi
    unfold rgL at hi ih
    obtain ⟨h1, h2⟩ := ih (by omega)
    have hap : rg e n p q (i + 1) ≠ p := fun hh => by rw [hh, dst_self] at h2; omega
    have hlt : dst e n (rg e n p q (i + 1)) p < 1000000 := by omega
    refine ⟨(nxt_ok hp hap hlt).1, ?_⟩
    have := nxt_dst hp hap hlt
    show dst e n (nxt e n p (rg e n p q (i + 1))) p = _
    rw [this, h2]; omega
theorem rgL_le {p q : Nat} (hp : p < n) (hq : q < n) (hpq : p ≠ q) (h : dst e n q p < 1000000) : 2 ≤ rgL e n p q ∧ rgL e n p q ≤ n := by
  have h0 := dst_pos (e := e) hp (Ne.symm hpq)
  have h1 := dst_lt hq hp h
  unfold rgL; omega
theorem rg_lt {p q : Nat} (hp : p < n) (hq : q < n) (hpq : p ≠ q) (h : dst e n q p < 1000000) (i : Nat) (hi : i < rgL e n p q) : rg e n p q i < n := by
  rcases i with _ | i
  · exact hp
  · exact (rg_ok hp hq hpq h i hi).1
/-- the code of the i-th tie of a ring of m -/
def rc (r : Nat → Nat) (m i : Nat) : Nat := 10 * r i + r (if i + 1 < m then i + 1 else 0)
theorem rg_tie {p q : Nat} (hp : p < n) (hq : q < n) (hpq : p ≠ q) (he : 0 < e (10 * p + q)) (h : dst e n q p < 1000000) (i : Nat) (hi : i < rgL e n p q) : 0 < e (rc (rg e n p q) (rgL e n p q) i) := by
  have h2 := rgL_le hp hq hpq h
  have h0 := dst_pos (e := e) hp (Ne.symm hpq)
  unfold rc
  rcases i with _ | i
  · rw [if_pos (by omega)]; exact he
  · have hi2 := rg_ok hp hq hpq h i hi
    have hL : (rgL e n p q : Int) = dst e n q p + 1 := by unfold rgL; omega
    have hap : rg e n p q (i + 1) ≠ p := fun hh => by rw [hh, dst_self] at hi2; omega
    by_cases hl : i + 1 + 1 < rgL e n p q
    · rw [if_pos hl]
      exact nxt_edge hp hap (by omega)
    · rw [if_neg hl]
      have h1 : dst e n (rg e n p q (i + 1)) p = 1 := by omega
      obtain ⟨x, x1, x2, x3, x4⟩ := dst_first (e := e) hp hap (by omega)
      have : x = p := by
        rcases Nat.eq_or_lt_of_le (Nat.le_of_lt_succ (Nat.lt_succ_of_lt x1)) with hx | hx
        · omega
        · by_cases hxp : x = p
          · exact hxp
          · have := dst_pos (e := e) hp hxp; omega
      rw [this] at x3
      exact x3
/-- no part stands twice in a ring -/
theorem rg_inj {p q : Nat} (hp : p < n) (hq : q < n) (hpq : p ≠ q) (h : dst e n q p < 1000000) (i j : Nat) (hi : i < rgL e n p q) (hj : j < rgL e n p q) (hij : rg e n p q i = rg e n p q j) : i = j := by
  have h0 := dst_pos (e := e) hp (Ne.symm hpq)
  have hL : (rgL e n p q : Int) = dst e n q p + 1 := by unfold rgL; omega
  rcases i with _ | i <;> rcases j with _ | j
  · rfl
  · have := (rg_ok hp hq hpq h j hj).2
    rw [← hij] at this
    rw [show rg e n p q 0 = p from rfl, dst_self] at this
    omega
  · have := (rg_ok hp hq hpq h i hi).2
    rw [hij] at this
    rw [show rg e n p q 0 = p from rfl, dst_self] at this
    omega
  · have a := (rg_ok hp hq hpq h i hi).2
    have b := (rg_ok hp hq hpq h j hj).2
    rw [hij] at a
    omega
/-- a tie of one group, told by its code -/
def cand (e : Nat → Int) (n k : Nat) : Bool := decide (k / 10 < n) && (decide (k % 10 < n) && (decide (k / 10 ≠ k % 10) && (decide (0 < e k) && one e n (k / 10) (k % 10))))
def klen (e : Nat → Int) (n k : Nat) : Nat := rgL e n (k / 10) (k % 10)
/-- the first shortest of the codes below k -/
def bs (e : Nat → Int) (n : Nat) : Nat → Nat × Nat
  | 0 => (0, 0)
  | k + 1 => if cand e n k = true ∧ ((bs e n k).1 = 0 ∨ klen e n k < (bs e n k).1) then (klen e n k, k) else bs e n k
theorem cand_ok {k : Nat} (h : cand e n k = true) : k / 10 < n ∧ k % 10 < n ∧ k / 10 ≠ k % 10 ∧ 0 < e k ∧ dst e n (k % 10) (k / 10) < 1000000 := by
  simp [cand, one] at h
  exact ⟨h.1, h.2.1, h.2.2.1, h.2.2.2.1, h.2.2.2.2.2⟩
theorem bs_ok (k : Nat) : (bs e n k = (0, 0) ∧ ∀ j, j < k → cand e n j = false) ∨ ((bs e n k).2 < k ∧ cand e n (bs e n k).2 = true ∧ (bs e n k).1 = klen e n (bs e n k).2) := by
  induction k with
  | zero => exact Or.inl ⟨rfl, fun j h => by omega⟩
  | succ k ih =>
    simp only [bs]
    by_cases hc : cand e n k = true ∧ ((bs e n k).1 = 0 ∨ klen e n k < (bs e n k).1)
    · rw [if_pos hc]
      exact Or.inr ⟨Nat.lt_succ_self k, hc.1, rfl⟩
    · rw [if_neg hc]
      rcases ih with ⟨h1, h2⟩ | ⟨h1, h2, h3⟩
      · refine Or.inl ⟨h1, fun j hj => ?_⟩
        by_cases hjk : j = k
        · subst hjk
          cases hcj : cand e n j with
          | false => rfl
          | true => exact absurd ⟨hcj, Or.inl (by rw [h1])⟩ hc
        · exact h2 j (by omega)
      · exact Or.inr ⟨by omega, h2, h3⟩
theorem klen_le {k : Nat} (h : cand e n k = true) : 2 ≤ klen e n k ∧ klen e n k ≤ n := by
  obtain ⟨a, b, c, d, f⟩ := cand_ok h
  exact rgL_le a b c f
end RG
/-- what is taken off -/
def mnF (l : Nat → Int) (cd : Nat → Nat) : Nat → Int
  | 0 => 1000000
  | k + 1 => mn (mnF l cd k) (l (cd k))
def sbF (v : Int) (cd : Nat → Nat) (l : Nat → Int) : Nat → Nat → Int
  | 0 => l
  | k + 1 => updL (sbF v cd l k) (cd k) (sbF v cd l k (cd k) - v)
theorem mnF_le {l : Nat → Int} {cd : Nat → Nat} : ∀ {k j : Nat}, j < k → mnF l cd k ≤ l (cd j) := by
  intro k
  induction k with
  | zero => intro j h; omega
  | succ k ih =>
    intro j hj
    simp only [mnF, mn]
    by_cases h : j = k
    · subst h; split <;> omega
    · have := ih (show j < k by omega); split <;> omega
theorem mnF_at {l : Nat → Int} {cd : Nat → Nat} {B : Int} (hB : B < 1000000) : ∀ {k : Nat}, 0 < k → (∀ j, j < k → l (cd j) ≤ B) → ∃ j, j < k ∧ mnF l cd k = l (cd j) := by
  intro k
  induction k with
  | zero => intro h; omega
  | succ k ih =>
    intro _ h
    simp only [mnF, mn]
    by_cases hk : 0 < k
    · obtain ⟨j, h1, h2⟩ := ih hk (fun j hj => h j (by omega))
      split
      · exact ⟨k, by omega, rfl⟩
      · exact ⟨j, by omega, h2⟩
    · have : k = 0 := by omega
      subst this
      have h0 := h 0 (by omega)
      rw [if_pos (by simp only [mnF]; omega)]
      exact ⟨0, by omega, rfl⟩
theorem sbF_ne {v : Int} {cd : Nat → Nat} {l : Nat → Int} {x : Nat} : ∀ {k : Nat}, (∀ j, j < k → cd j ≠ x) → sbF v cd l k x = l x := by
  intro k
  induction k with
  | zero => intro _; rfl
  | succ k ih =>
    intro h
    simp only [sbF, updL]
    rw [if_neg (fun hh => h k (by omega) hh.symm), ih (fun j hj => h j (by omega))]
theorem sbF_at {v : Int} {cd : Nat → Nat} {l : Nat → Int} : ∀ {k j : Nat}, (∀ i j, i < k → j < k → cd i = cd j → i = j) → j < k → sbF v cd l k (cd j) = l (cd j) - v := by
  intro k
  induction k with
  | zero => intro j _ h; omega
  | succ k ih =>
    intro j hi hj
    simp only [sbF, updL]
    by_cases hjk : j = k
    · subst hjk
      rw [if_pos rfl, sbF_ne (fun i hi' hh => by have := hi i j (by omega) (by omega) hh; omega)]
    · rw [if_neg (fun hh => hjk (hi j k (by omega) (by omega) hh)), ih (fun a b h1 h2 h3 => hi a b (by omega) (by omega) h3) (by omega)]
/-- the codes of the ring of the tie k -/
def kcd (e : Nat → Int) (n k : Nat) : Nat → Nat := rc (rg e n (k / 10) (k % 10)) (klen e n k)
/-- what is left when the ring of the tie k is paid for -/
def paid (e : Nat → Int) (n k : Nat) : Nat → Int := sbF (mnF e (kcd e n k) (klen e n k)) (kcd e n k) e (klen e n k)
section PD
variable {e : Nat → Int} {n : Nat}
theorem kcd_lt (hn : n ≤ 10) {k : Nat} (h : cand e n k = true) {j : Nat} (hj : j < klen e n k) : kcd e n k j < 100 := by
  obtain ⟨a, b, c, d, f⟩ := cand_ok h
  have h1 := rg_lt a b c f j hj
  have h2 := klen_le h
  have h3 := rg_lt a b c f (if j + 1 < klen e n k then j + 1 else 0) (by show _ < klen e n k; split <;> omega)
  unfold kcd rc
  omega
theorem kcd_inj (hn : n ≤ 10) {k : Nat} (h : cand e n k = true) (i j : Nat) (hi : i < klen e n k) (hj : j < klen e n k) (hij : kcd e n k i = kcd e n k j) : i = j := by
  obtain ⟨a, b, c, d, f⟩ := cand_ok h
  have h1 := rg_lt a b c f i hi
  have h1' := rg_lt a b c f j hj
  have h2 := klen_le h
  have h3 := rg_lt a b c f (if i + 1 < klen e n k then i + 1 else 0) (by show _ < klen e n k; split <;> omega)
  have h4 := rg_lt a b c f (if j + 1 < klen e n k then j + 1 else 0) (by show _ < klen e n k; split <;> omega)
  unfold kcd rc at hij
  exact rg_inj a b c f i j hi hj (by omega)
theorem kcd_pos {k : Nat} (h : cand e n k = true) {j : Nat} (hj : j < klen e n k) : 0 < e (kcd e n k j) := by
  obtain ⟨a, b, c, d, f⟩ := cand_ok h
  have e1 : 10 * (k / 10) + k % 10 = k := by omega
  exact rg_tie a b c (by rw [e1]; exact d) f j hj
def okl (e : Nat → Int) : Prop := ∀ j, 0 ≤ e j ∧ e j ≤ 24552
theorem mn_pos (hl : okl e) {k : Nat} (h : cand e n k = true) : 0 < mnF e (kcd e n k) (klen e n k) ∧ mnF e (kcd e n k) (klen e n k) ≤ 24552 ∧ ∃ j, j < klen e n k ∧ mnF e (kcd e n k) (klen e n k) = e (kcd e n k j) := by
  have h2 := klen_le h
  obtain ⟨j, h3, h4⟩ := mnF_at (l := e) (cd := kcd e n k) (B := 24552) (by decide) (show 0 < klen e n k by omega) (fun j _ => (hl _).2)
  have h5 := kcd_pos h h3
  have h6 := hl (kcd e n k j)
  exact ⟨by omega, by omega, j, h3, h4⟩
theorem paid_ok (hn : n ≤ 10) (hl : okl e) {k : Nat} (h : cand e n k = true) : okl (paid e n k) ∧ sumN (fun j => b2i (decide (0 < paid e n k j))) 100 < sumN (fun j => b2i (decide (0 < e j))) 100 := by
  obtain ⟨m1, m2, j, m3, m4⟩ := mn_pos hl h
  have key : ∀ x, (∃ i, i < klen e n k ∧ kcd e n k i = x ∧ paid e n k x = e x - mnF e (kcd e n k) (klen e n k) ∧ mnF e (kcd e n k) (klen e n k) ≤ e x) ∨ paid e n k x = e x := by
    intro x
    by_cases hx : ∃ i, i < klen e n k ∧ kcd e n k i = x
    · obtain ⟨i, h1, rfl⟩ := hx
      exact Or.inl ⟨i, h1, rfl, sbF_at (kcd_inj hn h) h1, mnF_le h1⟩
    · exact Or.inr (sbF_ne (fun i hi hh => hx ⟨i, hi, hh⟩))
  refine ⟨fun x => ?_, ?_⟩
  · have := hl x
    rcases key x with ⟨i, _, _, h3, h4⟩ | h3 <;> omega
  · refine sumN_lt (j := kcd e n k j) (kcd_lt hn h m3) (fun x _ => ?_) ?_
    · have := hl x
      have b1 := b2i_rng (decide (0 < e x))
      rcases key x with ⟨i, _, _, h3, h4⟩ | h3
      · by_cases hz : 0 < paid e n k x
        · have : 0 < e x := by omega
          simp [hz, this]
        · simp [hz, b2i]; split <;> omega
      · rw [h3]; exact Int.le_refl _
    · have h5 : paid e n k (kcd e n k j) = e (kcd e n k j) - mnF e (kcd e n k) (klen e n k) := sbF_at (kcd_inj hn h) m3
      have h6 := kcd_pos h m3
      have h7 : ¬ 0 < paid e n k (kcd e n k j) := by omega
      simp [h6, h7, b2i]
/-- the bound, ring by ring -/
def bnd (n : Nat) : Nat → (Nat → Int) → Int
  | 0, _ => 0
  | t + 1, e => if (bs e n 100).1 = 0 then 0 else mnF e (kcd e n (bs e n 100).2) (klen e n (bs e n 100).2) + bnd n t (paid e n (bs e n 100).2)
def cntP (e : Nat → Int) : Int := sumN (fun j => b2i (decide (0 < e j))) 100
theorem bs_cand (k : Nat) (h : (bs e n k).1 ≠ 0) : cand e n (bs e n k).2 = true ∧ (bs e n k).1 = klen e n (bs e n k).2 ∧ (bs e n k).2 < k := by
  rcases bs_ok (e := e) (n := n) k with ⟨h1, _⟩ | ⟨h1, h2, h3⟩
  · rw [h1] at h; exact absurd rfl h
  · exact ⟨h2, h3, h1⟩
theorem bs_zero (hn : n ≤ 10) (hl : okl e) (h : cntP e ≤ 0) : (bs e n 100).1 = 0 := by
  by_cases h0 : (bs e n 100).1 = 0
  · exact h0
  · obtain ⟨h1, h2, h3⟩ := bs_cand 100 h0
    have h4 := paid_ok hn hl h1
    have h5 := (sb_le (fun j => decide (0 < paid e n (bs e n 100).2 j)) 100).1
    unfold cntP at h
    omega
end PD
