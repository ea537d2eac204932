/-! deps: 30.tool 30.toolb 30.toolc 31.lay 32.mcopy 33.leafm 34.mhist 35.mties 36.mties2 37.mways 38.graph 39.mlook 40.spec 42.layer -/
/-! a run -/
abbrev RSt : Type := Int × Nat × Bool × (Nat → Int)
def bigS (s : RSt) : RSt := (s.1, s.2.1, true, s.2.2.2)
def thF (W : Nat → RSt → RSt) (G : Nat → Nat → Int) (n : Nat) : Nat → Nat → RSt → RSt
  | 0, _, s => s
  | d + 1, k, s => if s.2.2.1 = true then s else thF W G n d (k + 1) (W (G 75 (6 * n + k)).toNat s)
def pf (W : Nat → RSt → RSt) (G : Nat → Nat → Int) (o m : Int) (s : RSt) : RSt :=
  if o = 0 then ((s.1 + m) % 9973, s.2) else if o = 1 then ((s.1 * m) % 9973, s.2) else if o = 2 then (s.1, s.2.1, s.2.2.1, updL s.2.2.2 m.toNat s.1) else if o = 3 then ((s.1 + s.2.2.2 m.toNat) % 9973, s.2) else if o = 4 then W m.toNat s else if o = 5 then (if s.1 % 2 = 1 then W m.toNat s else s) else thF W G m.toNat (G 74 m.toNat).toNat 0 s
def stA (W : Nat → RSt → RSt) (G : Nat → Nat → Int) (r k : Nat) (s : RSt) : RSt := if s.2.1 = 400 then bigS s else pf W G (G 70 (10 * r + k)) (G 71 (10 * r + k)) (s.1, s.2.1 + 1, s.2.2)
def fwA (W : Nat → RSt → RSt) (G : Nat → Nat → Int) (r : Nat) : Nat → Nat → RSt → RSt
  | 0, _, s => s
  | d + 1, k, s => if s.2.2.1 = true then s else fwA W G r d (k + 1) (stA W G r k s)
def wk (G : Nat → Nat → Int) : Nat → Nat → RSt → RSt
  | 0, _, s => bigS s
  | d + 1, r, s => fwA (wk G d) G r (G 69 r).toNat 0 s
section RS
variable {W : Nat → RSt → RSt} {G : Nat → Nat → Int}
theorem thF_big {n d k : Nat} {s : RSt} (h : s.2.2.1 = true) : thF W G n d k s = s := by
  cases d with
  | zero => rfl
  | succ d => rw [thF, if_pos h]
theorem fwA_big {r d k : Nat} {s : RSt} (h : s.2.2.1 = true) : fwA W G r d k s = s := by
  cases d with
  | zero => rfl
  | succ d => rw [fwA, if_pos h]
/-- numbers stay small -/
def okR (s : RSt) : Prop := (0 ≤ s.1 ∧ s.1 < 9973) ∧ s.2.1 ≤ 400 ∧ ∀ n, 0 ≤ s.2.2.2 n ∧ s.2.2.2 n < 9973
/-- a frame: a routine (at 0 or above) or news (below), and the place in it -/
abbrev FRM : Type := Int × Nat
def lev : List FRM → Nat
  | [] => 0
  | f :: l => (if 0 ≤ f.1 then 1 else 0) + lev l
def frun (G : Nat → Nat → Int) (f : FRM) (v : Nat) (s : RSt) : RSt := if 0 ≤ f.1 then fwA (wk G (30 - v)) G f.1.toNat ((G 69 f.1.toNat).toNat - f.2) f.2 s else thF (wk G (30 - v)) G (-1 - f.1).toNat ((G 74 (-1 - f.1).toNat).toNat - f.2) f.2 s
def mean (G : Nat → Nat → Int) : List FRM → RSt → RSt
  | [], s => s
  | f :: l, s => mean G l (frun G f (lev (f :: l)) s)
theorem mean_big : ∀ {l : List FRM} {s : RSt}, s.2.2.1 = true → (mean G l s).2.2.1 = true := by
  intro l
  induction l with
  | nil => intro s h; exact h
  | cons f l ih =>
    intro s h
    rw [mean]
    refine ih ?_
    unfold frun
    split
    · rw [fwA_big h]; exact h
    · rw [thF_big h]; exact h
/-- frames that may lie so -/
def okF (G : Nat → Nat → Int) (f : FRM) : Prop := (0 ≤ f.1 → f.1 < G 65 0 ∧ (f.2 : Int) ≤ G 69 f.1.toNat) ∧ (¬ 0 ≤ f.1 → -1 - f.1 < G 67 0 ∧ (f.2 : Int) ≤ G 74 (-1 - f.1).toNat)
def okK (G : Nat → Nat → Int) : List FRM → Prop
  | [] => True
  | f :: l => okF G f ∧ (¬ 0 ≤ f.1 → ∃ g l', l = g :: l' ∧ 0 ≤ g.1) ∧ okK G l
theorem okK_len : ∀ {l : List FRM}, okK G l → l.length ≤ 2 * lev l ∧ ∀ f l', l = f :: l' → 0 ≤ f.1 → l.length + 1 ≤ 2 * lev l := by
  intro l
  induction l with
  | nil => intro _; exact ⟨Nat.zero_le _, fun f l' h => by simp at h⟩
  | cons f l ih =>
    rintro ⟨h1, h2, h3⟩
    obtain ⟨i1, i2⟩ := ih h3
    by_cases hf : 0 ≤ f.1
    · have e : lev (f :: l) = 1 + lev l := by simp [lev, hf]
      rw [e]
      simp only [List.length_cons]
      exact ⟨by omega, fun _ _ _ _ => by omega⟩
    · have e : lev (f :: l) = lev l := by simp [lev, hf]
      obtain ⟨g, l', rfl, hg⟩ := h2 hf
      have := i2 g l' rfl hg
      rw [e]
      simp only [List.length_cons] at this ⊢
      refine ⟨by omega, fun f' l'' h hf' => ?_⟩
      simp at h
      rw [h.1] at hf
      exact absurd hf' hf
/-- how far it may still go -/
def wgt (G : Nat → Nat → Int) (f : FRM) : Nat := if 0 ≤ f.1 then 1 else 1 + 2 * ((G 74 (-1 - f.1).toNat).toNat - f.2)
def wgts (G : Nat → Nat → Int) : List FRM → Nat
  | [] => 0
  | f :: l => wgt G f + wgts G l
end RS
