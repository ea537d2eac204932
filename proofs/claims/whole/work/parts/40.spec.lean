/-! what the ties count and cost -/
def tcN : List NTE → Nat → Int
  | [], _ => 0
  | n :: l, j => (if n.1 ≠ n.2.1 ∧ 10 * n.1 + n.2.1 = j then 1 else 0) + tcN l j
def tpN (pr : Nat → Int) : List NTE → Nat → Int
  | [], _ => 0
  | n :: l, j => (if n.1 ≠ n.2.1 ∧ 10 * n.1 + n.2.1 = j then pr n.2.2 else 0) + tpN pr l j
theorem nM_86 (J : Nat → Nat → Int) (n : NTE) (j : Nat) : nM J n 86 j = J 86 j + (if J 76 j ≤ J 63 18 then (if n.1 ≠ n.2.1 ∧ 10 * n.1 + n.2.1 = j then 1 else 0) else 0) := by
  unfold nM
  by_cases h1 : n.1 ≠ n.2.1 ∧ J 76 (10 * n.1 + n.2.1) ≤ J 63 18
  · rw [if_pos h1]
    by_cases h2 : 10 * n.1 + n.2.1 = j
    · rw [h2] at h1 ⊢
      simp [upI, h1, h2]
    · have : ¬ j = 10 * n.1 + n.2.1 := fun h => h2 h.symm
      simp [upI, this, h2]
  · rw [if_neg h1]
    by_cases h2 : 10 * n.1 + n.2.1 = j
    · rw [h2] at h1
      by_cases h3 : J 76 j ≤ J 63 18
      · have : ¬ n.1 ≠ n.2.1 := fun h => h1 ⟨h, h3⟩
        simp at this
        simp [this]
      · simp [h3]
    · simp [h2]
theorem nM_87 (J : Nat → Nat → Int) (n : NTE) (j : Nat) : nM J n 87 j = J 87 j + (if J 76 j ≤ J 63 18 then (if n.1 ≠ n.2.1 ∧ 10 * n.1 + n.2.1 = j then J 79 n.2.2 else 0) else 0) := by
  unfold nM
  by_cases h1 : n.1 ≠ n.2.1 ∧ J 76 (10 * n.1 + n.2.1) ≤ J 63 18
  · rw [if_pos h1]
    by_cases h2 : 10 * n.1 + n.2.1 = j
    · rw [h2] at h1 ⊢
      simp [upI, h1, h2]
    · have : ¬ j = 10 * n.1 + n.2.1 := fun h => h2 h.symm
      simp [upI, this, h2]
  · rw [if_neg h1]
    by_cases h2 : 10 * n.1 + n.2.1 = j
    · rw [h2] at h1
      by_cases h3 : J 76 j ≤ J 63 18
      · have : ¬ n.1 ≠ n.2.1 := fun h => h1 ⟨h, h3⟩
        simp at this
        simp [this]
      · simp [h3]
    · simp [h2]
theorem nL_86 {l : List NTE} {j : Nat} : ∀ {J : Nat → Nat → Int}, nL J l 86 j = J 86 j + (if J 76 j ≤ J 63 18 then tcN l j else 0) := by
  induction l with
  | nil => intro J; simp [nL, tcN]
  | cons n l ih =>
    intro J
    show nL (nM J n) l 86 j = _
    rw [ih, nM_86, nM_row (by decide) (by decide), nM_row (by decide) (by decide), tcN]
    split <;> omega
theorem nL_87 {l : List NTE} {j : Nat} : ∀ {J : Nat → Nat → Int}, nL J l 87 j = J 87 j + (if J 76 j ≤ J 63 18 then tpN (J 79) l j else 0) := by
  induction l with
  | nil => intro J; simp [nL, tpN]
  | cons n l ih =>
    intro J
    show nL (nM J n) l 87 j = _
    rw [ih, nM_87, nM_row (by decide) (by decide), nM_row (by decide) (by decide), nM_row (by decide) (by decide), tpN]
    split <;> omega
/-- all notes speak of parts -/
def inP (l : List NTE) : Prop := ∀ n ∈ l, n.1 < 10 ∧ n.2.1 < 10
theorem tcN_big {l : List NTE} (h : inP l) {j : Nat} (hj : 100 ≤ j) (pr : Nat → Int) : tcN l j = 0 ∧ tpN pr l j = 0 := by
  induction l with
  | nil => exact ⟨rfl, rfl⟩
  | cons n l ih =>
    have h1 := h n List.mem_cons_self
    have h2 := ih (fun z hz => h z (List.mem_cons_of_mem _ hz))
    have h3 : ¬ (n.1 ≠ n.2.1 ∧ 10 * n.1 + n.2.1 = j) := by omega
    simp [tcN, tpN, h3, h2]
theorem inP_notes {G : Nat → Nat → Int} (hw : WF G) (hz : ∀ r, r < 20 → G 77 r = 0 ∨ G 77 r = 1) : inP (notes G) := by
  obtain ⟨⟨hp0, hr0, hf0, hn0⟩, hR, hA, hFi, hN, hH, -⟩ := hw
  intro n hn
  rcases List.mem_append.mp hn with hn | hn
  · obtain ⟨r, hr, hn⟩ := List.mem_flatMap.mp hn
    obtain ⟨i, hi, hn⟩ := List.mem_flatMap.mp hn
    rw [List.mem_range] at hr hi
    have h1 := hR r (by omega)
    have h2 := hA r i (by omega) (by omega)
    have z := hz r (by omega)
    have hR2 : G 71 (10 * r + i) < G 65 0 → 0 ≤ G 68 (G 71 (10 * r + i)).toNat ∧ G 68 (G 71 (10 * r + i)).toNat < G 64 0 := fun h => (hR _ (by omega)).1
    have hF2 : G 71 (10 * r + i) < G 66 0 → 0 ≤ G 72 (G 71 (10 * r + i)).toNat ∧ G 72 (G 71 (10 * r + i)).toNat < G 64 0 := fun h => (hFi _ (by omega))
    have hN2 : G 71 (10 * r + i) < G 67 0 → 0 ≤ G 73 (G 71 (10 * r + i)).toNat ∧ G 73 (G 71 (10 * r + i)).toNat < G 64 0 := fun h => (hN _ (by omega)).1
    unfold noteA at hn
    split at hn
    · rename_i h77
      have h3 := h1.2.2 h77
      have hi0 : i = 0 := by omega
      have h4 : G 71 (10 * r + i) < G 65 0 := h2.2.2.2.1 (by rw [hi0]; exact Or.inl h3.2)
      have h5 := hR2 h4
      rw [List.mem_singleton.mp hn]
      exact ⟨by dsimp only; omega, by dsimp only; omega⟩
    · split at hn
      · rename_i h45
        have h5 := hR2 (h2.2.2.2.1 h45)
        rw [List.mem_singleton.mp hn]
        exact ⟨by dsimp only; omega, by dsimp only; omega⟩
      · split at hn
        · rename_i h23
          have h5 := hF2 (h2.2.2.1 h23)
          rw [List.mem_singleton.mp hn]
          exact ⟨by dsimp only; omega, by dsimp only; omega⟩
        · split at hn
          · rename_i h6
            have h5 := hN2 (h2.2.2.2.2 h6)
            rw [List.mem_singleton.mp hn]
            exact ⟨by dsimp only; omega, by dsimp only; omega⟩
          · exact absurd hn (by simp)
  · obtain ⟨r, hr, hn⟩ := List.mem_flatMap.mp hn
    obtain ⟨i, hi, rfl⟩ := List.mem_map.mp hn
    rw [List.mem_range] at hr hi
    have h1 := hN r (by omega)
    have h2 := hH r i (by omega) (by omega)
    have h3 := hR (G 75 (6 * r + i)).toNat (by omega)
    exact ⟨by dsimp only; omega, by dsimp only; omega⟩
/-- counts and costs of the ties of G on a day -/
def Cn (G : Nat → Nat → Int) (td : Int) (j : Nat) : Int := if j < 100 ∧ G 76 j ≤ td then tcN (notes G) j else 0
def Cc (G : Nat → Nat → Int) (pr : Nat → Int) (td : Int) (j : Nat) : Int := if j < 100 ∧ G 76 j ≤ td then tpN pr (notes G) j else 0
theorem TI_86 {I : Nat → Nat → Int} (hr : RI I) : TI I 86 = Cn I (I 63 18) := by
  funext j
  have hc : clr I 100 76 j = I 76 j ∧ clr I 100 63 18 = I 63 18 := by simp [clr]
  rw [TI, nL_86, hc.1, hc.2, Cn]
  by_cases hj : j < 100
  · simp [clr, hj]
  · have hb := hr.2.2.2.1 j (by omega)
    have ht := tcN_big (inP_notes hr.1 (fun r _ => hr.2.1 r)) (show 100 ≤ j by omega) (fun _ => 0)
    simp [clr, hj, hb.1, ht.1]
theorem TI_87 {I : Nat → Nat → Int} (hr : RI I) : TI I 87 = Cc I (I 79) (I 63 18) := by
  funext j
  have hc : clr I 100 76 j = I 76 j ∧ clr I 100 63 18 = I 63 18 ∧ clr I 100 79 = I 79 := by refine ⟨by simp [clr], by simp [clr], ?_⟩; funext k; simp [clr]
  rw [TI, nL_87, hc.1, hc.2.1, hc.2.2, Cc]
  by_cases hj : j < 100
  · simp [clr, hj]
  · have hb := hr.2.2.2.1 j (by omega)
    have ht := tcN_big (inP_notes hr.1 (fun r _ => hr.2.1 r)) (show 100 ≤ j by omega) (I 79)
    simp [clr, hj, hb.2, ht.2]
theorem tcN_nn (l : List NTE) (j : Nat) : 0 ≤ tcN l j := by
  induction l with
  | nil => exact Int.le_refl _
  | cons n l ih => unfold tcN; split <;> omega
theorem tcN_diag (l : List NTE) (p : Nat) (hl : inP l) (pr : Nat → Int) : tcN l (11 * p) = 0 ∧ tpN pr l (11 * p) = 0 := by
  induction l with
  | nil => exact ⟨rfl, rfl⟩
  | cons n l ih =>
    have h1 := hl n List.mem_cons_self
    have h2 := ih (fun z hz => hl z (List.mem_cons_of_mem _ hz))
    have h3 : ¬ (n.1 ≠ n.2.1 ∧ 10 * n.1 + n.2.1 = 11 * p) := by omega
    simp [tcN, tpN, h3, h2]
theorem Cn_diag {G : Nat → Nat → Int} {td : Int} (hw : WF G) (hz : ∀ r, r < 20 → G 77 r = 0 ∨ G 77 r = 1) (p : Nat) : Cn G td (10 * p + p) = 0 := by
  have := (tcN_diag (notes G) p (inP_notes hw hz) (fun _ => 0)).1
  rw [show 10 * p + p = 11 * p by omega]
  unfold Cn
  split
  · exact this
  · rfl
/-- two memories hold the same program in their first slot -/
def agr (I J : Nat → Nat → Int) : Prop := ∀ x k, k < wd x → J x k = I x k
theorem noteA_agr {I J : Nat → Nat → Int} (hw : WF I) (hz : ∀ r, r < 20 → I 77 r = 0 ∨ I 77 r = 1) (h : agr I J) {r i : Nat} (hr : (r : Int) < I 65 0) (hi : (i : Int) < I 69 r) : noteA J r (10 * r + i) = noteA I r (10 * r + i) := by
  obtain ⟨⟨hp0, hr0, hf0, hn0⟩, hR, hA, hFi, hN, hH, -⟩ := hw
  have h1 := hR r (by omega)
  have h2 := hA r i (by omega) (by omega)
  have z := hz r (by omega)
  have w68 : wd 68 = 20 := rfl
  have w77 : wd 77 = 20 := rfl
  have w70 : wd 70 = 200 := rfl
  have w71 : wd 71 = 200 := rfl
  have w72 : wd 72 = 10 := rfl
  have w73 : wd 73 = 8 := rfl
  have a77 := h 77 r (by omega)
  have a70 := h 70 (10 * r + i) (by omega)
  have a71 := h 71 (10 * r + i) (by omega)
  have a68 := h 68 r (by omega)
  unfold noteA
  rw [a77, a70, a71, a68]
  split
  · rename_i h77
    have h3 := h1.2.2 h77
    have hi0 : i = 0 := by omega
    have h4 : I 71 (10 * r + i) < I 65 0 := h2.2.2.2.1 (by rw [hi0]; exact Or.inl h3.2)
    rw [h 68 (I 71 (10 * r + i)).toNat (by omega)]
  · split
    · rename_i h45
      have := h2.2.2.2.1 h45
      rw [h 68 (I 71 (10 * r + i)).toNat (by omega)]
    · split
      · rename_i h23
        have := h2.2.2.1 h23
        rw [h 72 (I 71 (10 * r + i)).toNat (by omega)]
      · split
        · rename_i h6
          have := h2.2.2.2.2 h6
          rw [h 73 (I 71 (10 * r + i)).toNat (by omega)]
        · rfl
theorem fm_congr {α : Type} {n : Nat} {f g : Nat → List α} (h : ∀ k, k < n → f k = g k) : (List.range n).flatMap f = (List.range n).flatMap g := by
  induction n with
  | zero => rfl
  | succ n ih => rw [List.range_succ, List.flatMap_append, List.flatMap_append, ih (fun k hk => h k (by omega))]; simp [h n (by omega)]
theorem notes_agr {I J : Nat → Nat → Int} (hw : WF I) (hz : ∀ r, r < 20 → I 77 r = 0 ∨ I 77 r = 1) (h : agr I J) : notes J = notes I := by
  have hw0 := hw
  obtain ⟨⟨hp0, hr0, hf0, hn0⟩, hR, hA, hFi, hN, hH, -⟩ := hw
  have e65 := h 65 0 (by decide)
  have e67 := h 67 0 (by decide)
  have w69 : wd 69 = 20 := rfl
  have w74 : wd 74 = 8 := rfl
  have w75 : wd 75 = 48 := rfl
  have w68 : wd 68 = 20 := rfl
  have w73 : wd 73 = 8 := rfl
  unfold notes notesRs notesN
  rw [e65, e67]
  congr 1
  · refine fm_congr fun r hr => ?_
    have e69 := h 69 r (by omega)
    unfold notesR
    rw [e69]
    have := hR r (by omega)
    exact fm_congr fun i hi => noteA_agr hw0 hz h (by omega) (by omega)
  · refine fm_congr fun n hn => ?_
    have hNn := hN n (by omega)
    have e74 := h 74 n (by omega)
    unfold notesH
    rw [e74]
    refine List.map_congr_left fun i hi => ?_
    rw [List.mem_range] at hi
    have hHi := hH n i (by omega) (by omega)
    rw [h 75 (6 * n + i) (by omega), h 73 n (by omega), h 68 (I 75 (6 * n + i)).toNat (by omega)]
theorem Cn_agr {I J : Nat → Nat → Int} (hw : WF I) (hz : ∀ r, r < 20 → I 77 r = 0 ∨ I 77 r = 1) (h : agr I J) (td : Int) : Cn J td = Cn I td := by
  funext j
  unfold Cn
  rw [notes_agr hw hz h]
  by_cases hj : j < 100
  · rw [h 76 j (show j < wd 76 from hj)]
  · simp [hj]
theorem Cc_agr {I J : Nat → Nat → Int} (hw : WF I) (hz : ∀ r, r < 20 → I 77 r = 0 ∨ I 77 r = 1) (h : agr I J) (pr : Nat → Int) (td : Int) : Cc J pr td = Cc I pr td := by
  funext j
  unfold Cc
  rw [notes_agr hw hz h]
  by_cases hj : j < 100
  · rw [h 76 j (show j < wd 76 from hj)]
  · simp [hj]
/-- a memory of the reference like another but for what it only works on -/
def sameR (I I' : Nat → Nat → Int) : Prop := (∀ x, x < 80 → x ≠ 63 → I' x = I x) ∧ (∀ x, 98 ≤ x → I' x = I x) ∧ I' 82 = I 82 ∧ (∀ k, k = 14 ∨ k = 16 ∨ k = 18 ∨ k = 19 ∨ k = 20 ∨ k = 21 → I' 63 k = I 63 k) ∧ ∀ k, 100 ≤ k → (I' 86 k = 0 ∧ I' 87 k = 0) ∧ I' 93 k = 0
theorem sameR_refl {I : Nat → Nat → Int} (hr : RI I) : sameR I I := ⟨fun _ _ _ => rfl, fun _ _ => rfl, rfl, fun _ _ => rfl, fun k hk => ⟨hr.2.2.2.1 k hk, hr.2.2.2.2 k hk⟩⟩
theorem sameR_TI {I : Nat → Nat → Int} (hr : RI I) : sameR I (TI I) := by
  refine ⟨fun x h1 _ => TI_row (by omega) (by omega), fun x h1 => TI_row (by omega) (by omega), TI_row (by decide) (by decide), fun k _ => by rw [TI_row (by decide) (by decide)], fun k hk => ?_⟩
  rw [TI_86 hr, TI_87 hr, Cn, Cc, if_neg (by omega), if_neg (by omega), TI_row (by decide) (by decide)]
  exact ⟨⟨rfl, rfl⟩, hr.2.2.2.2 k hk⟩
theorem sameR_LK {I : Nat → Nat → Int} (hr : RI I) (n : Nat) : sameR I (LK I n) := by
  have h := sameR_TI hr
  refine ⟨fun x h1 h2 => ?_, fun x h1 => ?_, ?_, fun k hk => ?_, fun k hk => ?_⟩
  · rw [LK_t (by omega)]; exact h.1 x h1 h2
  · rw [LK_t (by omega)]; exact h.2.1 x h1
  · rw [LK_t (by decide)]; exact h.2.2.1
  · rw [LK_t (by decide)]; exact h.2.2.2.1 k hk
  · rw [LK_t (by decide), LK_t (by decide), LK_t (by decide)]; exact h.2.2.2.2 k hk
theorem sameR_trans {I I' I'' : Nat → Nat → Int} (h : sameR I I') (h' : sameR I' I'') : sameR I I'' :=
  ⟨fun x h1 h2 => (h'.1 x h1 h2).trans (h.1 x h1 h2), fun x h1 => (h'.2.1 x h1).trans (h.2.1 x h1), h'.2.2.1.trans h.2.2.1, fun k hk => (h'.2.2.2.1 k hk).trans (h.2.2.2.1 k hk), h'.2.2.2.2⟩
/-- rows that the reference only works on -/
def scr (x : Nat) : Prop := x = 80 ∨ x = 81 ∨ (83 ≤ x ∧ x < 98 ∧ x ≠ 86 ∧ x ≠ 87 ∧ x ≠ 93)
theorem sameR_scr {I I' : Nat → Nat → Int} (h : sameR I I') {J : Nat → Nat → Int} (hJ : ∀ x, ¬ scr x → x ≠ 63 → J x = I' x) (hJ2 : ∀ k, k = 14 ∨ k = 16 ∨ k = 18 ∨ k = 19 ∨ k = 20 ∨ k = 21 → J 63 k = I' 63 k) : sameR I J := by
  refine ⟨fun x h1 h2 => ?_, fun x h1 => ?_, ?_, fun k hk => ?_, fun k hk => ?_⟩
  · rw [hJ x (by unfold scr; omega) h2]; exact h.1 x h1 h2
  · rw [hJ x (by unfold scr; omega) (by omega)]; exact h.2.1 x h1
  · rw [hJ 82 (by unfold scr; omega) (by omega)]; exact h.2.2.1
  · rw [hJ2 k hk]; exact h.2.2.2.1 k hk
  · rw [hJ 86 (by unfold scr; omega) (by omega), hJ 87 (by unfold scr; omega) (by omega), hJ 93 (by unfold scr; omega) (by omega)]; exact h.2.2.2.2 k hk
