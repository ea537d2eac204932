/-! changes of a program, as changes of its rows -/
def WG (G : Nat → Nat → Int) : Prop := WF G ∧ (∀ r : Nat, r < 20 → G 65 0 ≤ r → G 69 r = 0 ∧ G 77 r = 0) ∧ (∀ n : Nat, n < 8 → G 67 0 ≤ n → G 74 n = 0) ∧ (∀ r : Nat, (r : Int) < G 65 0 → G 77 r = 1 → G 77 (G 71 (10 * r)).toNat = 0) ∧ ∀ r : Nat, r < 20 → G 77 r = 0 ∨ G 77 r = 1
theorem upI_at {I : Nat → Nat → Int} {x k : Nat} {v : Int} : upI I x k v x = updL (I x) k v := by
  funext j; simp [upI, updL]
theorem updL_at {f : Nat → Int} {k : Nat} {v : Int} : updL f k v k = v := by simp [updL]
theorem updL_ne {f : Nat → Int} {k j : Nat} {v : Int} (h : j ≠ k) : updL f k v j = f j := by simp [updL, h]
theorem WG_agr {I J : Nat → Nat → Int} (hw : WG I) (h : agr I J) : WG J := by
  obtain ⟨h1, h2, h3, h4, h5⟩ := hw
  have hp := h1.1
  have b69 : ∀ r, r < 20 → J 69 r = I 69 r := fun r hr => h 69 r hr
  have b77 : ∀ r, r < 20 → J 77 r = I 77 r := fun r hr => h 77 r hr
  have b74 : ∀ r, r < 8 → J 74 r = I 74 r := fun r hr => h 74 r hr
  refine ⟨WF_agr h1 h, fun r hr hr2 => ?_, fun n hn hn2 => ?_, fun r hr hf => ?_, fun r hr => by rw [b77 r hr]; exact h5 r hr⟩
  · rw [b69 r hr, b77 r hr]; exact h2 r hr (by rw [← h 65 0 (by decide)]; exact hr2)
  · rw [b74 n hn]; exact h3 n hn (by rw [← h 67 0 (by decide)]; exact hn2)
  · rw [h 65 0 (by decide)] at hr
    have hr20 : r < 20 := by omega
    rw [b77 r hr20] at hf
    have w1 := (h1.2.1 r hr).2.2 hf
    have w2 := h1.2.2.1 r 0 hr (by rw [w1.1]; decide)
    simp only [Nat.add_zero] at w2
    have := w2.2.2.2.1 (Or.inl w1.2)
    rw [h 71 (10 * r) (show 10 * r < 200 by omega), b77 _ (by omega)]
    exact h4 r hr hf
def gPart (I : Nat → Nat → Int) : Nat → Nat → Int := upI I 64 0 (I 64 0 + 1)
theorem WG_part {I : Nat → Nat → Int} (h : WG I) (hc : I 64 0 < 10) : WG (gPart I) := by
  obtain ⟨⟨⟨hp, hr, hf, hn⟩, w1, w2, w3, w4, w5, w6, w7⟩, h2, h3, h4, h5⟩ := h
  have e : ∀ x, x ≠ 64 → gPart I x = I x := fun x hx => upI_row hx
  have e0 : gPart I 64 0 = I 64 0 + 1 := by simp [gPart, upI]
  unfold WG WF
  simp only [e 65 (by decide), e 66 (by decide), e 67 (by decide), e 68 (by decide), e 69 (by decide), e 70 (by decide), e 71 (by decide), e 72 (by decide), e 73 (by decide), e 74 (by decide), e 75 (by decide), e 76 (by decide), e 77 (by decide), e0]
  refine ⟨⟨⟨by omega, hr, hf, hn⟩, fun r hr => ?_, w2, fun f hf => ?_, fun n hn => ?_, w5, w6, fun p q hp hq hpq => w7 p q hp hq (by omega)⟩, h2, h3, h4, h5⟩
  · have := w1 r hr; omega
  · have := w3 f hf; omega
  · have := w4 n hn; omega
def gAdd0 (I : Nat → Nat → Int) (part : Int) : Nat → Nat → Int := upI (upI (upI (upI I 68 (I 65 0).toNat part) 69 (I 65 0).toNat 0) 77 (I 65 0).toNat 0) 65 0 (I 65 0 + 1)
theorem WG_add0 {I : Nat → Nat → Int} {part : Int} (h : WG I) (hc : I 65 0 < 20) (hp : 0 ≤ part ∧ part < I 64 0) : WG (gAdd0 I part) := by
  obtain ⟨⟨⟨hp0, hr0, hf0, hn0⟩, w1, w2, w3, w4, w5, w6, w7⟩, h2, h3, h4, h5⟩ := h
  obtain ⟨m, hm⟩ : ∃ m : Nat, I 65 0 = m := ⟨(I 65 0).toNat, by omega⟩
  have e : ∀ x, x ≠ 65 → x ≠ 68 → x ≠ 69 → x ≠ 77 → gAdd0 I part x = I x := fun x a b c d => by unfold gAdd0; rw [upI_row a, upI_row d, upI_row c, upI_row b]
  have e65 : gAdd0 I part 65 0 = (m : Int) + 1 := by simp [gAdd0, upI, hm]
  have e68 : gAdd0 I part 68 = updL (I 68) m part := by unfold gAdd0; rw [upI_row (by decide), upI_row (by decide), upI_row (by decide), upI_at, hm]; rfl
  have e69 : gAdd0 I part 69 = updL (I 69) m 0 := by unfold gAdd0; rw [upI_row (by decide), upI_row (by decide), upI_at, upI_row (by decide), hm]; rfl
  have e77 : gAdd0 I part 77 = updL (I 77) m 0 := by unfold gAdd0; rw [upI_row (by decide), upI_at, upI_row (by decide), upI_row (by decide), hm]; rfl
  unfold WG WF
  simp only [e 64 (by decide) (by decide) (by decide) (by decide), e 66 (by decide) (by decide) (by decide) (by decide), e 67 (by decide) (by decide) (by decide) (by decide), e 70 (by decide) (by decide) (by decide) (by decide), e 71 (by decide) (by decide) (by decide) (by decide), e 72 (by decide) (by decide) (by decide) (by decide), e 73 (by decide) (by decide) (by decide) (by decide), e 74 (by decide) (by decide) (by decide) (by decide), e 75 (by decide) (by decide) (by decide) (by decide), e 76 (by decide) (by decide) (by decide) (by decide), e65, e68, e69, e77]
  rw [hm] at w1 w2 w5 h2 h4
  refine ⟨⟨⟨hp0, by omega, hf0, hn0⟩, fun r hr => ?_, fun r i hr hi => ?_, w3, w4, fun n i hn hi => ?_, w6, w7⟩, fun r hr hr2 => ?_, h3, fun r hr hf => ?_, fun r hr => ?_⟩
  · by_cases hrm : r = m
    · subst hrm; simp only [updL_at]; exact ⟨hp, by omega, fun h => by omega⟩
    · rw [updL_ne hrm, updL_ne hrm, updL_ne hrm]; exact w1 r (by omega)
  · by_cases hrm : r = m
    · subst hrm; rw [updL_at] at hi; omega
    · rw [updL_ne hrm] at hi
      obtain ⟨a, b, c, d, f⟩ := w2 r i (by omega) hi
      exact ⟨a, b, c, fun h => by have := d h; omega, f⟩
  · have := w5 n i hn hi; omega
  · rw [updL_ne (by omega), updL_ne (by omega)]; exact h2 r hr (by omega)
  · by_cases hrm : r = m
    · subst hrm; rw [updL_at] at hf; omega
    · rw [updL_ne hrm] at hf
      have hrr : (r : Int) < m := by omega
      have w1' := (w1 r hrr).2.2 hf
      have w2' := w2 r 0 hrr (by rw [w1'.1]; decide)
      simp only [Nat.add_zero] at w2'
      have := w2'.2.2.2.1 (Or.inl w1'.2)
      rw [updL_ne (by omega)]; exact h4 r hrr hf
  · by_cases hrm : r = m
    · subst hrm; rw [updL_at]; exact Or.inl rfl
    · rw [updL_ne hrm]; exact h5 r hr
def gAdd1 (I : Nat → Nat → Int) (part : Int) : Nat → Nat → Int := upI (upI I 72 (I 66 0).toNat part) 66 0 (I 66 0 + 1)
theorem WG_add1 {I : Nat → Nat → Int} {part : Int} (h : WG I) (hc : I 66 0 < 10) (hp : 0 ≤ part ∧ part < I 64 0) : WG (gAdd1 I part) := by
  obtain ⟨⟨⟨hp0, hr0, hf0, hn0⟩, w1, w2, w3, w4, w5, w6, w7⟩, h2, h3, h4, h5⟩ := h
  obtain ⟨m, hm⟩ : ∃ m : Nat, I 66 0 = m := ⟨(I 66 0).toNat, by omega⟩
  have e : ∀ x, x ≠ 66 → x ≠ 72 → gAdd1 I part x = I x := fun x a b => by unfold gAdd1; rw [upI_row a, upI_row b]
  have e66 : gAdd1 I part 66 0 = (m : Int) + 1 := by simp [gAdd1, upI, hm]
  have e72 : gAdd1 I part 72 = updL (I 72) m part := by unfold gAdd1; rw [upI_row (by decide), upI_at, hm]; rfl
  unfold WG WF
  simp only [e 64 (by decide) (by decide), e 65 (by decide) (by decide), e 67 (by decide) (by decide), e 68 (by decide) (by decide), e 69 (by decide) (by decide), e 70 (by decide) (by decide), e 71 (by decide) (by decide), e 73 (by decide) (by decide), e 74 (by decide) (by decide), e 75 (by decide) (by decide), e 76 (by decide) (by decide), e 77 (by decide) (by decide), e66, e72]
  rw [hm] at w2 w3
  refine ⟨⟨⟨hp0, hr0, by omega, hn0⟩, w1, fun r i hr hi => ?_, fun f hf => ?_, w4, w5, w6, w7⟩, h2, h3, h4, h5⟩
  · obtain ⟨a, b, c, d, f⟩ := w2 r i hr hi
    exact ⟨a, b, fun h => by have := c h; omega, d, f⟩
  · by_cases hfm : f = m
    · subst hfm; rw [updL_at]; exact hp
    · rw [updL_ne hfm]; exact w3 f (by omega)
def gAdd2 (I : Nat → Nat → Int) (part : Int) : Nat → Nat → Int := upI (upI (upI I 73 (I 67 0).toNat part) 74 (I 67 0).toNat 0) 67 0 (I 67 0 + 1)
theorem WG_add2 {I : Nat → Nat → Int} {part : Int} (h : WG I) (hc : I 67 0 < 8) (hp : 0 ≤ part ∧ part < I 64 0) : WG (gAdd2 I part) := by
  obtain ⟨⟨⟨hp0, hr0, hf0, hn0⟩, w1, w2, w3, w4, w5, w6, w7⟩, h2, h3, h4, h5⟩ := h
  obtain ⟨m, hm⟩ : ∃ m : Nat, I 67 0 = m := ⟨(I 67 0).toNat, by omega⟩
  have e : ∀ x, x ≠ 67 → x ≠ 73 → x ≠ 74 → gAdd2 I part x = I x := fun x a b c => by unfold gAdd2; rw [upI_row a, upI_row c, upI_row b]
  have e67 : gAdd2 I part 67 0 = (m : Int) + 1 := by simp [gAdd2, upI, hm]
  have e73 : gAdd2 I part 73 = updL (I 73) m part := by unfold gAdd2; rw [upI_row (by decide), upI_row (by decide), upI_at, hm]; rfl
  have e74 : gAdd2 I part 74 = updL (I 74) m 0 := by unfold gAdd2; rw [upI_row (by decide), upI_at, upI_row (by decide), hm]; rfl
  unfold WG WF
  simp only [e 64 (by decide) (by decide) (by decide), e 65 (by decide) (by decide) (by decide), e 66 (by decide) (by decide) (by decide), e 68 (by decide) (by decide) (by decide), e 69 (by decide) (by decide) (by decide), e 70 (by decide) (by decide) (by decide), e 71 (by decide) (by decide) (by decide), e 72 (by decide) (by decide) (by decide), e 75 (by decide) (by decide) (by decide), e 76 (by decide) (by decide) (by decide), e 77 (by decide) (by decide) (by decide), e67, e73, e74]
  rw [hm] at w2 w4 w5 h3
  refine ⟨⟨⟨hp0, hr0, hf0, by omega⟩, w1, fun r i hr hi => ?_, w3, fun n hn => ?_, fun n i hn hi => ?_, w6, w7⟩, h2, fun n hn hn2 => ?_, h4, h5⟩
  · obtain ⟨a, b, c, d, f⟩ := w2 r i hr hi
    exact ⟨a, b, c, d, fun h => by have := f h; omega⟩
  · by_cases hnm : n = m
    · subst hnm; rw [updL_at, updL_at]; exact ⟨hp, by omega⟩
    · rw [updL_ne hnm, updL_ne hnm]; exact w4 n (by omega)
  · by_cases hnm : n = m
    · subst hnm; rw [updL_at] at hi; omega
    · rw [updL_ne hnm] at hi; exact w5 n i (by omega) hi
  · rw [updL_ne (by omega)]; exact h3 n hn (by omega)
def gAdd (I : Nat → Nat → Int) (what part : Int) : Nat → Nat → Int := if what = 0 then gAdd0 I part else if what = 1 then gAdd1 I part else gAdd2 I part
def limOf (what : Int) : Int := if what = 0 then 20 else if what = 1 then 10 else 8
theorem WG_add {I : Nat → Nat → Int} {what part : Int} (h : WG I) (hc : cntOf I what < limOf what) (hp : 0 ≤ part ∧ part < I 64 0) : WG (gAdd I what part) := by
  unfold gAdd
  unfold cntOf limOf at hc
  by_cases h0 : what = 0
  · rw [if_pos h0] at hc ⊢; rw [if_pos h0] at hc; exact WG_add0 h hc hp
  · rw [if_neg h0] at hc ⊢; rw [if_neg h0] at hc
    by_cases h1 : what = 1
    · rw [if_pos h1] at hc ⊢; rw [if_pos h1] at hc; exact WG_add1 h hc hp
    · rw [if_neg h1] at hc ⊢; rw [if_neg h1] at hc; exact WG_add2 h hc hp
def gHear (I : Nat → Nat → Int) (n : Nat) (r : Int) : Nat → Nat → Int := upI (upI I 75 (6 * n + (I 74 n).toNat) r) 74 n (I 74 n + 1)
theorem WG_hear {I : Nat → Nat → Int} {n : Nat} {r : Int} (h : WG I) (hn : (n : Int) < I 67 0) (hc : I 74 n < 6) (hr : 0 ≤ r ∧ r < I 65 0) : WG (gHear I n r) := by
  obtain ⟨⟨⟨hp0, hr0, hf0, hn0⟩, w1, w2, w3, w4, w5, w6, w7⟩, h2, h3, h4, h5⟩ := h
  have w4n := (w4 n hn).2
  have e : ∀ x, x ≠ 74 → x ≠ 75 → gHear I n r x = I x := fun x a b => by unfold gHear; rw [upI_row a, upI_row b]
  have e74 : gHear I n r 74 = updL (I 74) n (I 74 n + 1) := by unfold gHear; rw [upI_at, upI_row (by decide)]
  have e75 : gHear I n r 75 = updL (I 75) (6 * n + (I 74 n).toNat) r := by unfold gHear; rw [upI_row (by decide), upI_at]
  unfold WG WF
  simp only [e 64 (by decide) (by decide), e 65 (by decide) (by decide), e 66 (by decide) (by decide), e 67 (by decide) (by decide), e 68 (by decide) (by decide), e 69 (by decide) (by decide), e 70 (by decide) (by decide), e 71 (by decide) (by decide), e 72 (by decide) (by decide), e 73 (by decide) (by decide), e 76 (by decide) (by decide), e 77 (by decide) (by decide), e74, e75]
  refine ⟨⟨⟨hp0, hr0, hf0, hn0⟩, w1, w2, w3, fun m hm => ?_, fun m i hm hi => ?_, w6, w7⟩, h2, fun m hm hm2 => ?_, h4, h5⟩
  · by_cases hmn : m = n
    · subst hmn; rw [updL_at]; exact ⟨(w4 m hm).1, by omega⟩
    · rw [updL_ne hmn]; exact w4 m hm
  · have w4m := (w4 m hm).2
    by_cases hmn : m = n
    · subst hmn; rw [updL_at] at hi
      by_cases hi2 : i = (I 74 m).toNat
      · subst hi2; rw [updL_at]; exact hr
      · rw [updL_ne (by omega)]; exact w5 m i hm (by omega)
    · rw [updL_ne hmn] at hi
      rw [updL_ne (by omega)]; exact w5 m i hm hi
  · rw [updL_ne (by omega)]; exact h3 m hm hm2
def rowOf (what : Int) : Nat := if what = 0 then 68 else if what = 1 then 72 else 73
def gMove (I : Nat → Nat → Int) (what : Int) (i : Nat) (part : Int) : Nat → Nat → Int := upI I (rowOf what) i part
theorem WG_move {I : Nat → Nat → Int} {what : Int} {i : Nat} {part : Int} (h : WG I) (hp : 0 ≤ part ∧ part < I 64 0) : WG (gMove I what i part) := by
  obtain ⟨⟨⟨hp0, hr0, hf0, hn0⟩, w1, w2, w3, w4, w5, w6, w7⟩, h2, h3, h4, h5⟩ := h
  have hx : rowOf what = 68 ∨ rowOf what = 72 ∨ rowOf what = 73 := by
    unfold rowOf; repeat' split
    all_goals simp
  have e : ∀ x, x ≠ 68 → x ≠ 72 → x ≠ 73 → gMove I what i part x = I x := fun x a b c => by unfold gMove; rw [upI_row (by omega)]
  have hv : ∀ x k, 0 ≤ I x k ∧ I x k < I 64 0 → 0 ≤ gMove I what i part x k ∧ gMove I what i part x k < I 64 0 := by
    intro x k hxk
    unfold gMove upI
    split
    · exact hp
    · exact hxk
  unfold WG WF
  simp only [e 64 (by decide) (by decide) (by decide), e 65 (by decide) (by decide) (by decide), e 66 (by decide) (by decide) (by decide), e 67 (by decide) (by decide) (by decide), e 69 (by decide) (by decide) (by decide), e 70 (by decide) (by decide) (by decide), e 71 (by decide) (by decide) (by decide), e 74 (by decide) (by decide) (by decide), e 75 (by decide) (by decide) (by decide), e 76 (by decide) (by decide) (by decide), e 77 (by decide) (by decide) (by decide)]
  refine ⟨⟨⟨hp0, hr0, hf0, hn0⟩, fun r hr => ⟨hv 68 r (w1 r hr).1, (w1 r hr).2⟩, w2, fun f hf => hv 72 f (w3 f hf), fun n hn => ⟨hv 73 n (w4 n hn).1, (w4 n hn).2⟩, w5, w6, w7⟩, h2, h3, h4, h5⟩
def gSplit (I : Nat → Nat → Int) (set : Nat) : Nat → Nat → Int := upI (setRow I 68 (I 65 0).toNat (fun r => if set.testBit r = true then I 64 0 else I 68 r)) 64 0 (I 64 0 + 1)
theorem WG_split {I : Nat → Nat → Int} {set : Nat} (h : WG I) (hc : I 64 0 < 10) : WG (gSplit I set) := by
  obtain ⟨⟨⟨hp0, hr0, hf0, hn0⟩, w1, w2, w3, w4, w5, w6, w7⟩, h2, h3, h4, h5⟩ := h
  have e : ∀ x, x ≠ 64 → x ≠ 68 → gSplit I set x = I x := fun x a b => by unfold gSplit; rw [upI_row a, setRow_row b]
  have e64 : gSplit I set 64 0 = I 64 0 + 1 := by simp [gSplit, upI]
  have e68 : ∀ r : Nat, (r : Int) < I 65 0 → gSplit I set 68 r = if set.testBit r = true then I 64 0 else I 68 r := fun r hr => by unfold gSplit; rw [upI_row (by decide), setRow_at (by omega)]
  unfold WG WF
  simp only [e 65 (by decide) (by decide), e 66 (by decide) (by decide), e 67 (by decide) (by decide), e 69 (by decide) (by decide), e 70 (by decide) (by decide), e 71 (by decide) (by decide), e 72 (by decide) (by decide), e 73 (by decide) (by decide), e 74 (by decide) (by decide), e 75 (by decide) (by decide), e 76 (by decide) (by decide), e 77 (by decide) (by decide), e64]
  refine ⟨⟨⟨by omega, hr0, hf0, hn0⟩, fun r hr => ⟨?_, (w1 r hr).2⟩, w2, fun f hf => ?_, fun n hn => ?_, w5, w6, fun p q hp hq hpq => w7 p q hp hq (by omega)⟩, h2, h3, h4, h5⟩
  · rw [e68 r hr]
    have := (w1 r hr).1
    split <;> omega
  · have := w3 f hf; omega
  · have := w4 n hn; omega
def bhd (v p q : Int) : Int := if q < (if v = q then p else v) then (if v = q then p else v) - 1 else (if v = q then p else v)
def allM (I : Nat → Nat → Int) (q k : Nat) : Int := if (if q ≤ k / 10 then k / 10 + 1 else k / 10) < 10 ∧ (if q ≤ k % 10 then k % 10 + 1 else k % 10) < 10 then I 76 (10 * (if q ≤ k / 10 then k / 10 + 1 else k / 10) + (if q ≤ k % 10 then k % 10 + 1 else k % 10)) else 0
def gMelt (I : Nat → Nat → Int) (p q : Nat) : Nat → Nat → Int := upI (setRow (setRow (setRow (setRow I 68 (I 65 0).toNat (fun r => bhd (I 68 r) p q)) 72 (I 66 0).toNat (fun r => bhd (I 72 r) p q)) 73 (I 67 0).toNat (fun r => bhd (I 73 r) p q)) 76 100 (allM I q)) 64 0 (I 64 0 - 1)
theorem bhd_rng {v n : Int} {p q : Nat} (hv : 0 ≤ v ∧ v < n) (hp : (p : Int) < n) (hq : (q : Int) < n) (hpq : p ≠ q) : 0 ≤ bhd v p q ∧ bhd v p q < n - 1 := by
  unfold bhd; repeat' split
  all_goals omega
theorem WG_melt {I : Nat → Nat → Int} {p q : Nat} (h : WG I) (hp : (p : Int) < I 64 0) (hq : (q : Int) < I 64 0) (hpq : p ≠ q) : WG (gMelt I p q) := by
  obtain ⟨⟨⟨hp0, hr0, hf0, hn0⟩, w1, w2, w3, w4, w5, w6, w7⟩, h2, h3, h4, h5⟩ := h
  have e : ∀ x, x ≠ 64 → x ≠ 68 → x ≠ 72 → x ≠ 73 → x ≠ 76 → gMelt I p q x = I x := fun x a b c d f => by unfold gMelt; rw [upI_row a, setRow_row f, setRow_row d, setRow_row c, setRow_row b]
  have e64 : gMelt I p q 64 0 = I 64 0 - 1 := by simp [gMelt, upI]
  have e68 : ∀ r : Nat, (r : Int) < I 65 0 → gMelt I p q 68 r = bhd (I 68 r) p q := fun r hr => by unfold gMelt; rw [upI_row (by decide), setRow_row (by decide), setRow_row (by decide), setRow_row (by decide), setRow_at (by omega)]
  have e72 : ∀ r : Nat, (r : Int) < I 66 0 → gMelt I p q 72 r = bhd (I 72 r) p q := fun r hr => by unfold gMelt; rw [upI_row (by decide), setRow_row (by decide), setRow_row (by decide), setRow_at (by omega)]
  have e73 : ∀ r : Nat, (r : Int) < I 67 0 → gMelt I p q 73 r = bhd (I 73 r) p q := fun r hr => by unfold gMelt; rw [upI_row (by decide), setRow_row (by decide), setRow_at (by omega)]
  have e76 : ∀ k, k < 100 → gMelt I p q 76 k = allM I q k := fun k hk => by unfold gMelt; rw [upI_row (by decide), setRow_at hk]
  unfold WG WF
  simp only [e 65 (by decide) (by decide) (by decide) (by decide) (by decide), e 66 (by decide) (by decide) (by decide) (by decide) (by decide), e 67 (by decide) (by decide) (by decide) (by decide) (by decide), e 69 (by decide) (by decide) (by decide) (by decide) (by decide), e 70 (by decide) (by decide) (by decide) (by decide) (by decide), e 71 (by decide) (by decide) (by decide) (by decide) (by decide), e 74 (by decide) (by decide) (by decide) (by decide) (by decide), e 75 (by decide) (by decide) (by decide) (by decide) (by decide), e 77 (by decide) (by decide) (by decide) (by decide) (by decide), e64]
  refine ⟨⟨⟨by omega, hr0, hf0, hn0⟩, fun r hr => ⟨?_, (w1 r hr).2⟩, w2, fun f hf => ?_, fun n hn => ⟨?_, (w4 n hn).2⟩, w5, fun k hk => ?_, fun a b ha hb hab => ?_⟩, h2, h3, h4, h5⟩
  · rw [e68 r hr]; exact bhd_rng (w1 r hr).1 hp hq hpq
  · rw [e72 f hf]; exact bhd_rng (w3 f hf) hp hq hpq
  · rw [e73 n hn]; exact bhd_rng (w4 n hn).1 hp hq hpq
  · rw [e76 k hk]; unfold allM
    generalize (if q ≤ k / 10 then k / 10 + 1 else k / 10) = x
    generalize (if q ≤ k % 10 then k % 10 + 1 else k % 10) = y
    split
    · rename_i hh
      exact w6 _ (by omega)
    · omega
  · rw [e76 _ (by omega)]
    have d1 : (10 * a + b) / 10 = a := by omega
    have d2 : (10 * a + b) % 10 = b := by omega
    unfold allM
    rw [d1, d2]
    generalize hx : (if q ≤ a then a + 1 else a) = x
    generalize hy : (if q ≤ b then b + 1 else b) = y
    split
    · rename_i hh
      refine w7 x y hh.1 hh.2 ?_
      split at hx <;> split at hy <;> omega
    · rfl
def gAct (I : Nat → Nat → Int) (k : Nat) (o m : Int) : Nat → Nat → Int := upI (upI I 70 k o) 71 k m
theorem WG_act {I : Nat → Nat → Int} {r i : Nat} {o m : Int} (h : WG I) (hr : (r : Int) < I 65 0) (hi : (i : Int) < I 69 r) (hf : I 77 r = 0) (ho : 0 ≤ o ∧ o ≤ 6) (hm : 0 ≤ m ∧ m ≤ 999) (q1 : o = 2 ∨ o = 3 → m < I 66 0) (q2 : o = 4 ∨ o = 5 → m < I 65 0) (q3 : o = 6 → m < I 67 0) : WG (gAct I (10 * r + i) o m) := by
  obtain ⟨⟨⟨hp0, hr0, hf0, hn0⟩, w1, w2, w3, w4, w5, w6, w7⟩, h2, h3, h4, h5⟩ := h
  have b := (w1 r hr).2.1
  have e : ∀ x, x ≠ 70 → x ≠ 71 → gAct I (10 * r + i) o m x = I x := fun x a b => by unfold gAct; rw [upI_row b, upI_row a]
  have e70 : gAct I (10 * r + i) o m 70 = updL (I 70) (10 * r + i) o := by unfold gAct; rw [upI_row (by decide), upI_at]
  have e71 : gAct I (10 * r + i) o m 71 = updL (I 71) (10 * r + i) m := by unfold gAct; rw [upI_at, upI_row (by decide)]
  unfold WG WF
  simp only [e 64 (by decide) (by decide), e 65 (by decide) (by decide), e 66 (by decide) (by decide), e 67 (by decide) (by decide), e 68 (by decide) (by decide), e 69 (by decide) (by decide), e 72 (by decide) (by decide), e 73 (by decide) (by decide), e 74 (by decide) (by decide), e 75 (by decide) (by decide), e 76 (by decide) (by decide), e 77 (by decide) (by decide), e70, e71]
  refine ⟨⟨⟨hp0, hr0, hf0, hn0⟩, fun s hs => ⟨(w1 s hs).1, (w1 s hs).2.1, fun hfs => ?_⟩, fun s j hs hj => ?_, w3, w4, w5, w6, w7⟩, h2, h3, fun s hs hfs => ?_, h5⟩
  · have hsr : s ≠ r := fun h => by rw [h, hf] at hfs; omega
    rw [updL_ne (by omega)]; exact (w1 s hs).2.2 hfs
  · have bs := (w1 s hs).2.1
    by_cases hk : 10 * s + j = 10 * r + i
    · rw [hk, updL_at, updL_at]; exact ⟨ho, hm, q1, q2, q3⟩
    · rw [updL_ne hk, updL_ne hk]; exact w2 s j hs hj
  · have hsr : s ≠ r := fun h => by rw [h, hf] at hfs; omega
    rw [updL_ne (by omega)]; exact h4 s hs hfs
def gMk (I : Nat → Nat → Int) (r : Nat) (told : Int) : Nat → Nat → Int := upI (upI (upI (upI I 77 r 1) 69 r 1) 70 (10 * r) 4) 71 (10 * r) told
theorem WG_mk {I : Nat → Nat → Int} {r : Nat} {told : Int} (h : WG I) (hr : (r : Int) < I 65 0) (ht : 0 ≤ told ∧ told < I 65 0) (hft : I 77 told.toNat = 0) (htr : told ≠ r) (hno : ∀ s : Nat, (s : Int) < I 65 0 → I 77 s = 1 → I 71 (10 * s) ≠ r) : WG (gMk I r told) := by
  obtain ⟨⟨⟨hp0, hr0, hf0, hn0⟩, w1, w2, w3, w4, w5, w6, w7⟩, h2, h3, h4, h5⟩ := h
  have e : ∀ x, x ≠ 69 → x ≠ 70 → x ≠ 71 → x ≠ 77 → gMk I r told x = I x := fun x a b c d => by unfold gMk; rw [upI_row c, upI_row b, upI_row a, upI_row d]
  have e69 : gMk I r told 69 = updL (I 69) r 1 := by unfold gMk; rw [upI_row (by decide), upI_row (by decide), upI_at, upI_row (by decide)]
  have e70 : gMk I r told 70 = updL (I 70) (10 * r) 4 := by unfold gMk; rw [upI_row (by decide), upI_at, upI_row (by decide), upI_row (by decide)]
  have e71 : gMk I r told 71 = updL (I 71) (10 * r) told := by unfold gMk; rw [upI_at, upI_row (by decide), upI_row (by decide), upI_row (by decide)]
  have e77 : gMk I r told 77 = updL (I 77) r 1 := by unfold gMk; rw [upI_row (by decide), upI_row (by decide), upI_row (by decide), upI_at]
  unfold WG WF
  simp only [e 64 (by decide) (by decide) (by decide) (by decide), e 65 (by decide) (by decide) (by decide) (by decide), e 66 (by decide) (by decide) (by decide) (by decide), e 67 (by decide) (by decide) (by decide) (by decide), e 68 (by decide) (by decide) (by decide) (by decide), e 72 (by decide) (by decide) (by decide) (by decide), e 73 (by decide) (by decide) (by decide) (by decide), e 74 (by decide) (by decide) (by decide) (by decide), e 75 (by decide) (by decide) (by decide) (by decide), e 76 (by decide) (by decide) (by decide) (by decide), e69, e70, e71, e77]
  refine ⟨⟨⟨hp0, hr0, hf0, hn0⟩, fun s hs => ⟨(w1 s hs).1, ?_⟩, fun s j hs hj => ?_, w3, w4, w5, w6, w7⟩, fun s hs hs2 => ?_, h3, fun s hs hfs => ?_, fun s hs => ?_⟩
  · by_cases hsr : s = r
    · subst hsr; rw [updL_at, updL_at, updL_at]; exact ⟨by omega, fun _ => ⟨rfl, rfl⟩⟩
    · rw [updL_ne hsr, updL_ne hsr, updL_ne (by omega)]; exact (w1 s hs).2
  · by_cases hsr : s = r
    · subst hsr; rw [updL_at] at hj
      have : j = 0 := by omega
      subst this
      simp only [Nat.add_zero, updL_at]
      exact ⟨by omega, by omega, fun h => by omega, fun _ => ht.2, fun h => by omega⟩
    · rw [updL_ne hsr] at hj
      have bs := (w1 s hs).2.1
      rw [updL_ne (by omega), updL_ne (by omega)]; exact w2 s j hs hj
  · rw [updL_ne (by omega), updL_ne (by omega)]; exact h2 s hs hs2
  · by_cases hsr : s = r
    · subst hsr; rw [updL_at, updL_ne (by omega)]; exact hft
    · rw [updL_ne hsr] at hfs
      have hh := hno s hs hfs
      have w1' := (w1 s hs).2.2 hfs
      have w2' := w2 s 0 hs (by rw [w1'.1]; decide)
      simp only [Nat.add_zero] at w2'
      rw [updL_ne (show 10 * s ≠ 10 * r by omega), updL_ne (by omega)]; exact h4 s hs hfs
  · by_cases hsr : s = r
    · subst hsr; rw [updL_at]; exact Or.inr rfl
    · rw [updL_ne hsr]; exact h5 s hs
theorem upI_id {I : Nat → Nat → Int} {x k : Nat} {v : Int} (h : I x k = v) : upI I x k v = I := by
  funext y j; unfold upI; split
  · rename_i hh; rw [hh.1, hh.2, h]
  · rfl
def gTurn (I : Nat → Nat → Int) (k : Nat) : Nat → Nat → Int := gAct (gHear (gAdd2 I (I 68 (I 71 k).toNat)) (I 67 0).toNat (I 71 k)) k 6 (I 67 0)
theorem WG_turn {I : Nat → Nat → Int} {r i : Nat} (h : WG I) (hr : (r : Int) < I 65 0) (hi : (i : Int) < I 69 r) (hf : I 77 r = 0) (ho : I 70 (10 * r + i) = 4) (hc : I 67 0 < 8) : WG (gTurn I (10 * r + i)) := by
  have hw := h.1
  have w2 := hw.2.2.1 r i hr hi
  have ht := w2.2.2.2.1 (Or.inl ho)
  have w1 := (hw.2.1 _ (show (((I 71 (10 * r + i)).toNat : Nat) : Int) < I 65 0 by omega)).1
  have hn0 := hw.1.2.2.2
  obtain ⟨m, hm⟩ : ∃ m : Nat, I 67 0 = m := ⟨(I 67 0).toNat, by omega⟩
  have hA := WG_add2 (part := I 68 (I 71 (10 * r + i)).toNat) h hc w1
  have e65 : gAdd2 I (I 68 (I 71 (10 * r + i)).toNat) 65 = I 65 := by unfold gAdd2; rw [upI_row (by decide), upI_row (by decide), upI_row (by decide)]
  have e67 : gAdd2 I (I 68 (I 71 (10 * r + i)).toNat) 67 0 = (m : Int) + 1 := by simp [gAdd2, upI, hm]
  have e74 : gAdd2 I (I 68 (I 71 (10 * r + i)).toNat) 74 m = 0 := by simp [gAdd2, upI, hm]
  have e69 : gAdd2 I (I 68 (I 71 (10 * r + i)).toNat) 69 = I 69 := by unfold gAdd2; rw [upI_row (by decide), upI_row (by decide), upI_row (by decide)]
  have e77 : gAdd2 I (I 68 (I 71 (10 * r + i)).toNat) 77 = I 77 := by unfold gAdd2; rw [upI_row (by decide), upI_row (by decide), upI_row (by decide)]
  have hH := WG_hear (n := m) (r := I 71 (10 * r + i)) hA (by rw [e67]; omega) (by rw [e74]; decide) (by rw [e65]; omega)
  have g : ∀ x, x ≠ 74 → x ≠ 75 → gHear (gAdd2 I (I 68 (I 71 (10 * r + i)).toNat)) m (I 71 (10 * r + i)) x = gAdd2 I (I 68 (I 71 (10 * r + i)).toNat) x := fun x a b => by unfold gHear; rw [upI_row a, upI_row b]
  unfold gTurn
  have hmt : (I 67 0).toNat = m := by omega
  rw [hmt]
  refine WG_act hH (by rw [g 65 (by decide) (by decide), e65]; exact hr) (by rw [g 69 (by decide) (by decide), e69]; exact hi) (by rw [g 77 (by decide) (by decide), e77]; exact hf) (by omega) (by omega) (fun h => by omega) (fun h => by omega) (fun _ => ?_)
  rw [g 67 (by decide) (by decide), e67, hm]; omega
def gFace (I : Nat → Nat → Int) (k : Nat) : Nat → Nat → Int := upI (gMk (gAdd0 (gPart I) (I 64 0)) (I 65 0).toNat (I 71 k)) 71 k (I 65 0)
theorem WG_face {I : Nat → Nat → Int} {r i : Nat} (h : WG I) (hr : (r : Int) < I 65 0) (hi : (i : Int) < I 69 r) (hf : I 77 r = 0) (ho : I 70 (10 * r + i) = 4 ∨ I 70 (10 * r + i) = 5) (hft : I 77 (I 71 (10 * r + i)).toNat = 0) (hc : I 64 0 < 10) (hc2 : I 65 0 < 20) : WG (gFace I (10 * r + i)) := by
  have hw := h.1
  have w2 := hw.2.2.1 r i hr hi
  have ht := w2.2.2.2.1 ho
  have hn0 := hw.1.2.1
  have bi := (hw.2.1 r hr).2.1
  obtain ⟨m, hm⟩ : ∃ m : Nat, I 65 0 = m := ⟨(I 65 0).toNat, by omega⟩
  have hmt : (I 65 0).toNat = m := by omega
  have hP := WG_part h hc
  have p0 : ∀ x, x ≠ 64 → gPart I x = I x := fun x hx => upI_row hx
  have p64 : gPart I 64 0 = I 64 0 + 1 := by simp [gPart, upI]
  have hA := WG_add0 (part := I 64 0) hP (by rw [p0 65 (by decide)]; exact hc2) (by rw [p64]; have := hw.1.1; omega)
  have a0 : ∀ x, x ≠ 64 → x ≠ 65 → x ≠ 68 → x ≠ 69 → x ≠ 77 → gAdd0 (gPart I) (I 64 0) x = I x := fun x a b c d f => by unfold gAdd0; rw [upI_row b, upI_row f, upI_row d, upI_row c, p0 x a]
  have a65 : gAdd0 (gPart I) (I 64 0) 65 0 = (m : Int) + 1 := by simp [gAdd0, upI, p0 65, hm]
  have a69 : gAdd0 (gPart I) (I 64 0) 69 = updL (I 69) m 0 := by unfold gAdd0; rw [upI_row (by decide), upI_row (by decide), upI_at, upI_row (by decide), p0 65 (by decide), p0 69 (by decide), hmt]
  have a77 : gAdd0 (gPart I) (I 64 0) 77 = updL (I 77) m 0 := by unfold gAdd0; rw [upI_row (by decide), upI_at, upI_row (by decide), upI_row (by decide), p0 65 (by decide), p0 77 (by decide), hmt]
  have a71 := a0 71 (by decide) (by decide) (by decide) (by decide) (by decide)
  have a70 := a0 70 (by decide) (by decide) (by decide) (by decide) (by decide)
  have hM := WG_mk (r := m) (told := I 71 (10 * r + i)) hA (by rw [a65]; omega) (by rw [a65]; omega) (by rw [a77, updL_ne (by omega)]; exact hft) (by omega) (fun s hs hfs => by
    rw [a65] at hs
    rw [a77] at hfs
    rw [a71]
    by_cases hsm : s = m
    · rw [hsm, updL_at] at hfs; omega
    · rw [updL_ne hsm] at hfs
      have hs' : (s : Int) < I 65 0 := by omega
      have w1' := (hw.2.1 s hs').2.2 hfs
      have w2' := hw.2.2.1 s 0 hs' (by rw [w1'.1]; decide)
      simp only [Nat.add_zero] at w2'
      have := w2'.2.2.2.1 (Or.inl w1'.2)
      omega)
  have g : ∀ x, x ≠ 69 → x ≠ 70 → x ≠ 71 → x ≠ 77 → gMk (gAdd0 (gPart I) (I 64 0)) m (I 71 (10 * r + i)) x = gAdd0 (gPart I) (I 64 0) x := fun x a b c d => by unfold gMk; rw [upI_row c, upI_row b, upI_row a, upI_row d]
  have g69 : gMk (gAdd0 (gPart I) (I 64 0)) m (I 71 (10 * r + i)) 69 r = I 69 r := by
    unfold gMk; rw [upI_row (by decide), upI_row (by decide), upI_at, updL_ne (by omega), upI_row (by decide), a69, updL_ne (by omega)]
  have g77 : gMk (gAdd0 (gPart I) (I 64 0)) m (I 71 (10 * r + i)) 77 r = 0 := by
    unfold gMk; rw [upI_row (by decide), upI_row (by decide), upI_row (by decide), upI_at, updL_ne (by omega), a77, updL_ne (by omega)]; exact hf
  have g70 : gMk (gAdd0 (gPart I) (I 64 0)) m (I 71 (10 * r + i)) 70 (10 * r + i) = I 70 (10 * r + i) := by
    unfold gMk; rw [upI_row (by decide), upI_at, updL_ne (by omega), upI_row (by decide), upI_row (by decide), a70]
  have hT := WG_act (r := r) (i := i) (o := I 70 (10 * r + i)) (m := (m : Int)) hM (by rw [g 65 (by decide) (by decide) (by decide) (by decide), a65]; omega) (by rw [g69]; exact hi) g77 (by omega) (by omega) (fun h => by omega) (fun _ => by rw [g 65 (by decide) (by decide) (by decide) (by decide), a65]; omega) (fun h => by omega)
  unfold gAct at hT
  rw [upI_id g70] at hT
  unfold gFace
  rw [hmt, hm]
  exact hT
def pullc (I : Nat → Nat → Int) (rt k : Nat) : Bool := decide (((k / 10 : Nat) : Int) < I 65 0) && (decide (((k % 10 : Nat) : Int) < I 69 (k / 10)) && ((decide (I 70 k = 4) || decide (I 70 k = 5)) && decide (I 71 k = (rt : Int))))
def pullF (I : Nat → Nat → Int) (rt k : Nat) : Int := if pullc I rt k = true then I 71 (10 * rt) else I 71 k
def gPull (I : Nat → Nat → Int) (rt : Nat) : Nat → Nat → Int := upI (upI (setRow I 71 200 (pullF I rt)) 69 rt 0) 77 rt 0
theorem pullF_face {I : Nat → Nat → Int} (h : WG I) {rt s : Nat} (hf : I 77 rt = 1) (hs : (s : Int) < I 65 0) (hfs : I 77 s = 1) : pullc I rt (10 * s) = false := by
  have hh := h.2.2.2.1 s hs hfs
  cases hc : pullc I rt (10 * s) with
  | false => rfl
  | true =>
    simp [pullc] at hc
    rw [hc.2.2.2, Int.toNat_natCast, hf] at hh
    omega
theorem WG_pull {I : Nat → Nat → Int} {rt : Nat} (h : WG I) (hr : (rt : Int) < I 65 0) (hf : I 77 rt = 1) : WG (gPull I rt) := by
  have hpf := fun s => pullF_face (s := s) h hf
  obtain ⟨⟨⟨hp0, hr0, hf0, hn0⟩, w1, w2, w3, w4, w5, w6, w7⟩, h2, h3, h4, h5⟩ := h
  have hT1 := (w1 rt hr).2.2 hf
  have hT := w2 rt 0 hr (by rw [hT1.1]; decide)
  simp only [Nat.add_zero] at hT
  have hTl := hT.2.2.2.1 (Or.inl hT1.2)
  have e : ∀ x, x ≠ 69 → x ≠ 71 → x ≠ 77 → gPull I rt x = I x := fun x a b c => by unfold gPull; rw [upI_row c, upI_row a, setRow_row b]
  have e69 : gPull I rt 69 = updL (I 69) rt 0 := by unfold gPull; rw [upI_row (by decide), upI_at, setRow_row (by decide)]
  have e71 : ∀ k, k < 200 → gPull I rt 71 k = pullF I rt k := fun k hk => by unfold gPull; rw [upI_row (by decide), upI_row (by decide), setRow_at hk]
  have e77 : gPull I rt 77 = updL (I 77) rt 0 := by unfold gPull; rw [upI_at, upI_row (by decide), setRow_row (by decide)]
  unfold WG WF
  simp only [e 64 (by decide) (by decide) (by decide), e 65 (by decide) (by decide) (by decide), e 66 (by decide) (by decide) (by decide), e 67 (by decide) (by decide) (by decide), e 68 (by decide) (by decide) (by decide), e 70 (by decide) (by decide) (by decide), e 72 (by decide) (by decide) (by decide), e 73 (by decide) (by decide) (by decide), e 74 (by decide) (by decide) (by decide), e 75 (by decide) (by decide) (by decide), e 76 (by decide) (by decide) (by decide), e69, e77]
  refine ⟨⟨⟨hp0, hr0, hf0, hn0⟩, fun s hs => ⟨(w1 s hs).1, ?_⟩, fun s j hs hj => ?_, w3, w4, w5, w6, w7⟩, fun s hs hs2 => ?_, h3, fun s hs hfs => ?_, fun s hs => ?_⟩
  · by_cases hsr : s = rt
    · subst hsr; rw [updL_at, updL_at]; exact ⟨by omega, fun h => by omega⟩
    · rw [updL_ne hsr, updL_ne hsr]; exact (w1 s hs).2
  · by_cases hsr : s = rt
    · subst hsr; rw [updL_at] at hj; omega
    · rw [updL_ne hsr] at hj
      have bs := (w1 s hs).2.1
      obtain ⟨a, b, c, d, f⟩ := w2 s j hs hj
      rw [e71 _ (by omega)]
      unfold pullF
      by_cases hc : pullc I rt (10 * s + j) = true
      · rw [if_pos hc]
        simp [pullc] at hc
        exact ⟨a, hT.2.1, fun h => by omega, fun _ => hTl, fun h => by omega⟩
      · rw [if_neg hc]; exact ⟨a, b, c, d, f⟩
  · by_cases hsr : s = rt
    · subst hsr; rw [updL_at, updL_at]; exact ⟨rfl, rfl⟩
    · rw [updL_ne hsr, updL_ne hsr]; exact h2 s hs hs2
  · by_cases hsr : s = rt
    · subst hsr; rw [updL_at] at hfs; omega
    · rw [updL_ne hsr] at hfs
      rw [e71 _ (by omega), pullF, hpf s hs hfs, if_neg (by simp)]
      have := h4 s hs hfs
      by_cases ht : (I 71 (10 * s)).toNat = rt
      · rw [ht, updL_at]
      · rw [updL_ne ht]; exact this
  · by_cases hsr : s = rt
    · subst hsr; rw [updL_at]; exact Or.inl rfl
    · rw [updL_ne hsr]; exact h5 s hs
def bdS (I : Nat → Nat → Int) (rt m : Nat) (W : Nat → Nat) (V : Nat → Int) : Nat → Nat → Int := fun y j => if (y = 70 ∨ y = 71) ∧ 10 * rt ≤ j ∧ j < 10 * rt + m then (if y = 70 then ((W (j - 10 * rt) : Nat) : Int) else V (j - 10 * rt)) else I y j
theorem bdS_row {I : Nat → Nat → Int} {rt m x : Nat} {W : Nat → Nat} {V : Nat → Int} (h1 : x ≠ 70) (h2 : x ≠ 71) : bdS I rt m W V x = I x := by
  funext j; rw [bdS, if_neg (by omega)]
theorem bdS_0 {I : Nat → Nat → Int} {rt : Nat} {W : Nat → Nat} {V : Nat → Int} : bdS I rt 0 W V = I := by
  funext x j; rw [bdS, if_neg (by omega)]
theorem bdS_S {I : Nat → Nat → Int} {rt m : Nat} {W : Nat → Nat} {V : Nat → Int} : upI (upI (bdS I rt m W V) 70 (10 * rt + m) ((W m : Nat) : Int)) 71 (10 * rt + m) (V m) = bdS I rt (m + 1) W V := by
  funext x j
  simp only [upI, bdS]
  by_cases h1 : j = 10 * rt + m
  · subst h1
    have e : 10 * rt + m - 10 * rt = m := by omega
    have h2 : ¬ 10 * rt + m < 10 * rt + m := by omega
    have h3 : 10 * rt + m < 10 * rt + (m + 1) := by omega
    have h4 : 10 * rt ≤ 10 * rt + m := by omega
    by_cases h70 : x = 70
    · subst h70; simp [e]
    · by_cases h71 : x = 71
      · subst h71; simp [e]
      · simp [h70, h71]
  · have e : (10 * rt ≤ j ∧ j < 10 * rt + m) = (10 * rt ≤ j ∧ j < 10 * rt + (m + 1)) := by apply propext; omega
    simp only [h1, and_false, if_false, e]
def gBody (I : Nat → Nat → Int) (rt n : Nat) (W : Nat → Nat) (V : Nat → Int) : Nat → Nat → Int := bdS (upI I 69 rt n) rt n W V
theorem WG_body {I : Nat → Nat → Int} {rt n : Nat} {W : Nat → Nat} {V : Nat → Int} (h : WG I) (hr : (rt : Int) < I 65 0) (hf : I 77 rt = 0) (hn : n ≤ 10) (hW : ∀ k, k < n → W k ≤ 6 ∧ (0 ≤ V k ∧ V k ≤ 999) ∧ V k < tLim I (W k)) : WG (gBody I rt n W V) := by
  obtain ⟨⟨⟨hp0, hr0, hf0, hn0⟩, w1, w2, w3, w4, w5, w6, w7⟩, h2, h3, h4, h5⟩ := h
  have e : ∀ x, x ≠ 69 → x ≠ 70 → x ≠ 71 → gBody I rt n W V x = I x := fun x a b c => by unfold gBody; rw [bdS_row b c, upI_row a]
  have e69 : gBody I rt n W V 69 = updL (I 69) rt n := by unfold gBody; rw [bdS_row (by decide) (by decide), upI_at]
  have eb : ∀ s j, s ≠ rt → j < 10 → gBody I rt n W V 70 (10 * s + j) = I 70 (10 * s + j) ∧ gBody I rt n W V 71 (10 * s + j) = I 71 (10 * s + j) := by
    intro s j hs hj
    unfold gBody bdS
    rw [if_neg (by omega), if_neg (by omega), upI_row (by decide), upI_row (by decide)]
    exact ⟨rfl, rfl⟩
  have ea : ∀ j, j < n → gBody I rt n W V 70 (10 * rt + j) = ((W j : Nat) : Int) ∧ gBody I rt n W V 71 (10 * rt + j) = V j := by
    intro j hj
    unfold gBody bdS
    have e1 : 10 * rt + j - 10 * rt = j := by omega
    have h1 : 10 * rt ≤ 10 * rt + j ∧ 10 * rt + j < 10 * rt + n := by omega
    rw [e1]
    simp [h1]
  unfold WG WF
  simp only [e 64 (by decide) (by decide) (by decide), e 65 (by decide) (by decide) (by decide), e 66 (by decide) (by decide) (by decide), e 67 (by decide) (by decide) (by decide), e 68 (by decide) (by decide) (by decide), e 72 (by decide) (by decide) (by decide), e 73 (by decide) (by decide) (by decide), e 74 (by decide) (by decide) (by decide), e 75 (by decide) (by decide) (by decide), e 76 (by decide) (by decide) (by decide), e 77 (by decide) (by decide) (by decide), e69]
  refine ⟨⟨⟨hp0, hr0, hf0, hn0⟩, fun s hs => ⟨(w1 s hs).1, ?_⟩, fun s j hs hj => ?_, w3, w4, w5, w6, w7⟩, fun s hs hs2 => ?_, h3, fun s hs hfs => ?_, h5⟩
  · by_cases hsr : s = rt
    · subst hsr; rw [updL_at]; exact ⟨by omega, fun h => by omega⟩
    · have := (eb s 0 hsr (by omega)).1
      simp only [Nat.add_zero] at this
      rw [updL_ne hsr, this]; exact (w1 s hs).2
  · by_cases hsr : s = rt
    · subst hsr; rw [updL_at] at hj
      obtain ⟨a, b⟩ := ea j (by omega)
      obtain ⟨c1, c2, c3⟩ := hW j (by omega)
      rw [a, b]
      unfold tLim at c3
      refine ⟨by omega, c2, fun h => ?_, fun h => ?_, fun h => ?_⟩
      · rw [if_pos (by omega)] at c3; exact c3
      · rw [if_neg (by omega), if_pos (by omega)] at c3; exact c3
      · rw [if_neg (by omega), if_neg (by omega), if_pos (by omega)] at c3; exact c3
    · rw [updL_ne hsr] at hj
      have bs := (w1 s hs).2.1
      obtain ⟨a, b⟩ := eb s j hsr (by omega)
      rw [a, b]; exact w2 s j hs hj
  · rw [updL_ne (by omega)]; exact h2 s hs hs2
  · have hsr : s ≠ rt := fun h => by rw [h, hf] at hfs; omega
    have := (eb s 0 hsr (by omega)).2
    simp only [Nat.add_zero] at this
    rw [this]; exact h4 s hs hfs
