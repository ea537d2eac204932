/-! the law -/
theorem i9 {x k : Nat} (h : ∀ q ∈ li9, q.1 = x → q.2.2 = 0) : ILs li9 x k = 0 := ILs_z h
theorem r9 {x k : Nat} (h : ∀ q ∈ lr9, q.1 ≠ x) : RLs lr9 x k = none := RLs_n h
set_option maxRecDepth 4000 in
theorem REL0 : REL kd0 (ILs li9) (RLs lr9) := by
  have z : ∀ x, (∀ q ∈ li9, q.1 = x → q.2.2 = 0) → ∀ k, ILs li9 x k = 0 := fun x h k => i9 h
  have z64 := z 64 (by decide)
  have z65 := z 65 (by decide)
  have z66 := z 66 (by decide)
  have z67 := z 67 (by decide)
  have z69 := z 69 (by decide)
  have z74 := z 74 (by decide)
  have z76 := z 76 (by decide)
  have z77 := z 77 (by decide)
  have z1 := z 1 (by decide)
  have z2 := z 2 (by decide)
  have z4 := z 4 (by decide)
  have z7 := z 7 (by decide)
  have z9 := z 9 (by decide)
  have z19 := z 19 (by decide)
  have z21 := z 21 (by decide)
  have z50 := z 50 (by decide)
  have z51 := z 51 (by decide)
  have z86 := z 86 (by decide)
  have z87 := z 87 (by decide)
  have z93 := z 93 (by decide)
  have r20 : ∀ j, RLs lr9 20 j = none := fun j => r9 (by decide)
  have p79 : ∀ s : Fin 4, ILs li9 79 s = 1 ∧ ILs li9 62 s = 1 := by decide
  have hw : WG (ILs li9) := by
    refine ⟨⟨⟨by rw [z64]; decide, by rw [z65]; decide, by rw [z66]; decide, by rw [z67]; decide⟩, fun r hr => ?_, fun r i hr => ?_, fun r hr => ?_, fun r hr => ?_, fun n i hn => ?_, fun k hk => by rw [z76]; decide, fun p q _ _ _ => z76 _⟩, fun r _ _ => ⟨z69 r, z77 r⟩, fun n _ _ => z74 n, fun r hr => ?_, fun r _ => Or.inl (z77 r)⟩
    · rw [z65] at hr; omega
    · rw [z65] at hr; omega
    · rw [z66] at hr; omega
    · rw [z67] at hr; omega
    · rw [z67] at hn; omega
    · rw [z65] at hr; omega
  refine ⟨1, 10, 0, 0, fun _ => ILs li9, ⟨⟨fun a _ _ => rfl, by decide⟩, ⟨fun a _ => rfl, by decide⟩, ⟨⟨hw.1, fun j => Or.inl (z77 j), fun s hs => by rw [(p79 ⟨s, hs⟩).1]; decide, fun k _ => ⟨z86 k, z87 k⟩, fun k _ => z93 k⟩, hw, by decide, by decide, Or.inl (by decide)⟩, ⟨fun p _ => ⟨z50 _, z51 _⟩, Or.inl (by decide)⟩, fun w k hw hk => ?_⟩, ⟨⟨⟨by decide, by decide⟩, ⟨by unfold isProg; decide, by unfold isProg; decide, Or.inl rfl, Or.inr (Or.inl rfl), by unfold sep; omega⟩, fun j b _ hb => ?_, fun i j b c _ _ _ hb => ?_⟩, ⟨⟨z19 1, by omega, z19 2, by omega⟩, fun j hj => by omega⟩, ?_⟩, fun s h1 h2 => by omega, ⟨by decide, by decide, by decide, by decide, fun s hs => by rw [(p79 ⟨s, hs⟩).1, (p79 ⟨s, hs⟩).2]⟩, ⟨0, by decide, by omega, z21 1, fun j hj => by omega⟩⟩
  · have e : ∀ (w : Fin 7) (k : Fin 4), ILs li9 82 (4 * w + k) = if (k : Nat) < wlen w then LT w k else 0 := by decide
    exact e ⟨w, hw⟩ ⟨k, hk⟩
  · rw [r20] at hb; cases hb
  · rw [r20] at hb; cases hb
  · refine ⟨⟨by rw [z1, z64], by rw [z2, z65], by rw [z2, z66], by rw [z2, z67]⟩, fun r hr => ?_, fun r hr => ?_, fun r hr => ?_, fun r _ => by rw [z4, z69], fun r i hr => ?_, fun r hr => ?_, fun n _ => by rw [z7, z74], fun n i hn => ?_, fun k _ => by rw [z9, z76]⟩
    · rw [z65] at hr; omega
    · rw [z66] at hr; omega
    · rw [z67] at hr; omega
    · rw [z65] at hr; omega
    · rw [z65] at hr; omega
    · rw [z67] at hn; omega
def evI (x : EI) (env : XE) (v : Int) : Prop := ∀ (st : XS) (K : Int → XS → Prop), K v st → x env st K
def evA (A : EA) (env : XE) (l : List AV) : Prop := ∀ (st : XS) (K : List AV → XS → Prop), K l st → A env st K
section LW
variable {env : XE} {b L i : Nat} {xs : Nat → Int32} {A : EA} {l : List AV} {x y : EI} {v w : Int} {Kn Kb : XE → XS → Prop} {Kr : AV → XS → Prop} {st : XS}
theorem evA_nil : evA a_nil env [] := fun _ _ h => h
theorem evA_I (hx : evI x env v) (hr : evA A env l) : evA (a_I x A) env (vI v :: l) := fun st K h => hx st _ (hr st _ h)
theorem evA_L (hx : evI x env v) (hr : evA A env l) : evA (a_L x A) env (vL v :: l) := fun st K h => hx st _ (hr st _ h)
theorem evA_R1 (he : env[1]? = some (vR (some 0))) (hr : evA A env l) : evA (a_R (r_lv 1) A) env (vR (some 0) :: l) := fun st K h => ⟨some 0, he, hr st _ h⟩
theorem evA_R2 (he : env[2]? = some (vR (some 63))) (hr : evA A env l) : evA (a_R (r_lv 2) A) env (vR (some 63) :: l) := fun st K h => ⟨some 63, he, hr st _ h⟩
theorem ev_scr (hb : env[0]? = some (vX b)) (hi : env[3]? = some (vI (i : Int))) {j : Nat} (hj : i + j < L ∧ L ≤ 2560) : evI (e_scr b L xs (e_op f_iadd (e_lv 3) (e_ci (j : Int)))) env ((xs (i + j)).toInt) := fun st K h => by
  refine ⟨hb, (i : Int), hi, ?_⟩
  show 0 ≤ o2 f_iadd (i : Int) (j : Int) ∧ o2 f_iadd (i : Int) (j : Int) < (L : Int) ∧ K ((xs (o2 f_iadd (i : Int) (j : Int)).toNat).toInt) st
  have e : o2 f_iadd (i : Int) (j : Int) = ((i + j : Nat) : Int) := by rw [oA (by omega) (by omega)]; omega
  rw [e]
  exact ⟨by omega, by omega, h⟩
theorem ev_lng (hx : evI x env v) (hy : evI y env w) : evI (l_op f_lor (l_sh f_lshl x (e_ci 32)) (l_op f_land y (e_ci 4294967295))) env (w2 f_lor (w3 f_lshl v 32) (w2 f_land w 4294967295)) := fun st K h => hx st _ (hy st _ h)
theorem w2_lt (f : Int64 → Int64 → Int64) (x y : Int) : w2 f x y < 9223372036854775808 := by
  have := Int64.toInt_lt (f (Int64.ofInt x) (Int64.ofInt y))
  exact this
theorem i32_rng (x : Int32) : -2147483648 ≤ x.toInt ∧ x.toInt < 2147483648 := ⟨Int32.le_toInt x, Int32.toInt_lt x⟩
theorem lw_call {B8 B9 : XB} {A1 A2 : EA} (hA1 : evA A1 env (vR (some 0) :: l)) (hA2 : evA A2 env (vR (some 63) :: l)) (h : RELs st) (hS : ∀ kd I R, REL kd I R → STPs B8 B9 l (kd, I, R)) (hk : ∀ st2, RELs st2 → Kb env st2) : s_itr (c_ne (e_callV 8 B8 A1) (e_callV 9 B9 A2)) (s_retI (e_ci 0)) s_brk Kn Kb Kr env st := by
  obtain ⟨kd, I, R⟩ := st
  have h1 := hS kd I R h
  obtain ⟨na, aa, f, kp, H, ⟨F, C, _⟩, _⟩ := h
  rw [s_itr_p, c_ne_p, e_callV_p]
  refine hA1 _ _ ⟨⟨_, _, rfl⟩, ⟨0, rfl, cK_0 C⟩, h1 _ (fun x st1 a b => ⟨⟨x, rfl⟩, ?_⟩)⟩
  rw [e_callV_p]
  refine hA2 _ _ ⟨⟨_, _, rfl⟩, ⟨63, rfl, a⟩, b _ (fun st2 h2 => ⟨⟨x, rfl⟩, ?_⟩)⟩
  show if (!eqb x x) = true then _ else s_brk Kn Kb Kr env st2
  rw [if_neg (by simp [eqb])]
  exact hk st2 h2
theorem lw_sw (hL : i + 5 ≤ L ∧ L ≤ 2560) (h : RELs st) (hk : ∀ st2, RELs st2 → Kb [vX b, vR (some 0), vR (some 63), vI (i : Int)] st2) (v : Int) : w_L_law_0 b L xs v Kn Kb Kr [vX b, vR (some 0), vR (some 63), vI (i : Int)] st := by
  have hb : ([vX b, vR (some 0), vR (some 63), vI (i : Int)] : XE)[0]? = some (vX b) := rfl
  have hi : ([vX b, vR (some 0), vR (some 63), vI (i : Int)] : XE)[3]? = some (vI (i : Int)) := rfl
  rcases (show (¬ (0 ≤ v ∧ v ≤ 31)) ∨ (0 ≤ v ∧ v ≤ 31) by omega) with c | c
  · rw [wLd c]
    exact hk st h
  rcases (show v = 0 ∨ v = 1 ∨ v = 2 ∨ v = 3 ∨ v = 4 ∨ v = 5 ∨ v = 6 ∨ v = 7 ∨ v = 8 ∨ v = 9 ∨ v = 10 ∨ v = 11 ∨ v = 12 ∨ v = 13 ∨ v = 14 ∨ v = 15 ∨ v = 16 ∨ v = 17 ∨ v = 18 ∨ v = 19 ∨ v = 20 ∨ v = 21 ∨ v = 22 ∨ v = 23 ∨ v = 24 ∨ v = 25 ∨ v = 26 ∨ v = 27 ∨ v = 28 ∨ v = 29 ∨ v = 30 ∨ v = 31 by omega) with rfl | rfl | rfl | rfl | rfl | rfl | rfl | rfl | rfl | rfl | rfl | rfl | rfl | rfl | rfl | rfl | rfl | rfl | rfl | rfl | rfl | rfl | rfl | rfl | rfl | rfl | rfl | rfl | rfl | rfl | rfl | rfl
  · rw [wL0]
    exact lw_call (evA_R1 rfl evA_nil) (evA_R2 rfl evA_nil) h (fun kd I R hR => st_part hR) hk
  · rw [wL1]
    exact lw_call (evA_R1 rfl (evA_I (ev_scr hb hi (j := 1) (by omega)) (evA_I (ev_scr hb hi (j := 2) (by omega)) evA_nil))) (evA_R2 rfl (evA_I (ev_scr hb hi (j := 1) (by omega)) (evA_I (ev_scr hb hi (j := 2) (by omega)) evA_nil))) h (fun kd I R hR => st_add hR) hk
  · rw [wL2]
    exact lw_call (evA_R1 rfl (evA_I (ev_scr hb hi (j := 1) (by omega)) (evA_I (ev_scr hb hi (j := 2) (by omega)) evA_nil))) (evA_R2 rfl (evA_I (ev_scr hb hi (j := 1) (by omega)) (evA_I (ev_scr hb hi (j := 2) (by omega)) evA_nil))) h (fun kd I R hR => st_where hR) hk
  · rw [wL3]
    exact lw_call (evA_R1 rfl (evA_L (ev_lng (ev_scr hb hi (j := 1) (by omega)) (ev_scr hb hi (j := 2) (by omega))) (evA_I (ev_scr hb hi (j := 3) (by omega)) evA_nil))) (evA_R2 rfl (evA_L (ev_lng (ev_scr hb hi (j := 1) (by omega)) (ev_scr hb hi (j := 2) (by omega))) (evA_I (ev_scr hb hi (j := 3) (by omega)) evA_nil))) h (fun kd I R hR => st_feed hR) hk
  · rw [wL4]
    exact lw_call (evA_R1 rfl (evA_I (ev_scr hb hi (j := 1) (by omega)) evA_nil)) (evA_R2 rfl (evA_I (ev_scr hb hi (j := 1) (by omega)) evA_nil)) h (fun kd I R hR => st_body hR) hk
  · rw [wL5]
    exact lw_call (evA_R1 rfl (evA_I (ev_scr hb hi (j := 1) (by omega)) (evA_I (ev_scr hb hi (j := 2) (by omega)) (evA_I (ev_scr hb hi (j := 3) (by omega)) evA_nil)))) (evA_R2 rfl (evA_I (ev_scr hb hi (j := 1) (by omega)) (evA_I (ev_scr hb hi (j := 2) (by omega)) (evA_I (ev_scr hb hi (j := 3) (by omega)) evA_nil)))) h (fun kd I R hR => st_act hR) hk
  · rw [wL6]
    exact lw_call (evA_R1 rfl (evA_I (ev_scr hb hi (j := 1) (by omega)) (evA_I (ev_scr hb hi (j := 2) (by omega)) evA_nil))) (evA_R2 rfl (evA_I (ev_scr hb hi (j := 1) (by omega)) (evA_I (ev_scr hb hi (j := 2) (by omega)) evA_nil))) h (fun kd I R hR => st_hear hR) hk
  · rw [wL7]
    exact lw_call (evA_R1 rfl (evA_I (ev_scr hb hi (j := 1) (by omega)) (evA_I (ev_scr hb hi (j := 2) (by omega)) evA_nil))) (evA_R2 rfl (evA_I (ev_scr hb hi (j := 1) (by omega)) (evA_I (ev_scr hb hi (j := 2) (by omega)) evA_nil))) h (fun kd I R hR => st_run hR) hk
  · rw [wL8]
    exact lw_call (evA_R1 rfl evA_nil) (evA_R2 rfl evA_nil) h (fun kd I R hR => st_done hR) hk
  · rw [wL9]
    exact lw_call (evA_R1 rfl (evA_I (ev_scr hb hi (j := 1) (by omega)) (evA_I (ev_scr hb hi (j := 2) (by omega)) evA_nil))) (evA_R2 rfl (evA_I (ev_scr hb hi (j := 1) (by omega)) (evA_I (ev_scr hb hi (j := 2) (by omega)) evA_nil))) h (fun kd I R hR => st_price hR) hk
  · rw [wL10]
    exact lw_call (evA_R1 rfl (evA_I (ev_scr hb hi (j := 1) (by omega)) (evA_I (ev_scr hb hi (j := 2) (by omega)) (evA_I (ev_scr hb hi (j := 3) (by omega)) evA_nil)))) (evA_R2 rfl (evA_I (ev_scr hb hi (j := 1) (by omega)) (evA_I (ev_scr hb hi (j := 2) (by omega)) (evA_I (ev_scr hb hi (j := 3) (by omega)) evA_nil)))) h (fun kd I R hR => st_tie hR) hk
  · rw [wL11]
    exact lw_call (evA_R1 rfl (evA_I (ev_scr hb hi (j := 1) (by omega)) (evA_I (ev_scr hb hi (j := 2) (by omega)) (evA_I (ev_scr hb hi (j := 3) (by omega)) evA_nil)))) (evA_R2 rfl (evA_I (ev_scr hb hi (j := 1) (by omega)) (evA_I (ev_scr hb hi (j := 2) (by omega)) (evA_I (ev_scr hb hi (j := 3) (by omega)) evA_nil)))) h (fun kd I R hR => st_allow hR) hk
  · rw [wL12]
    exact lw_call (evA_R1 rfl (evA_I (ev_scr hb hi (j := 1) (by omega)) evA_nil)) (evA_R2 rfl (evA_I (ev_scr hb hi (j := 1) (by omega)) evA_nil)) h (fun kd I R hR => st_day hR) hk
  · rw [wL13]
    exact lw_call (evA_R1 rfl (evA_I (ev_scr hb hi (j := 1) (by omega)) evA_nil)) (evA_R2 rfl (evA_I (ev_scr hb hi (j := 1) (by omega)) evA_nil)) h (fun kd I R hR => st_group hR) hk
  · rw [wL14]
    exact lw_call (evA_R1 rfl evA_nil) (evA_R2 rfl evA_nil) h (fun kd I R hR => st_groups hR) hk
  · rw [wL15]
    exact lw_call (evA_R1 rfl (evA_I (ev_scr hb hi (j := 1) (by omega)) (evA_I (ev_scr hb hi (j := 2) (by omega)) (evA_I (ev_scr hb hi (j := 3) (by omega)) (evA_I (ev_scr hb hi (j := 4) (by omega)) evA_nil))))) (evA_R2 rfl (evA_I (ev_scr hb hi (j := 1) (by omega)) (evA_I (ev_scr hb hi (j := 2) (by omega)) (evA_I (ev_scr hb hi (j := 3) (by omega)) (evA_I (ev_scr hb hi (j := 4) (by omega)) evA_nil))))) h (fun kd I R hR => st_ring hR) hk
  · rw [wL16]
    exact lw_call (evA_R1 rfl evA_nil) (evA_R2 rfl evA_nil) h (fun kd I R hR => st_choice hR) hk
  · rw [wL17]
    exact lw_call (evA_R1 rfl (evA_I (ev_scr hb hi (j := 1) (by omega)) (evA_I (ev_scr hb hi (j := 2) (by omega)) evA_nil))) (evA_R2 rfl (evA_I (ev_scr hb hi (j := 1) (by omega)) (evA_I (ev_scr hb hi (j := 2) (by omega)) evA_nil))) h (fun kd I R hR => st_chosen hR) hk
  · rw [wL18]
    exact lw_call (evA_R1 rfl evA_nil) (evA_R2 rfl evA_nil) h (fun kd I R hR => st_bound hR) hk
  · rw [wL19]
    exact lw_call (evA_R1 rfl (evA_I (ev_scr hb hi (j := 1) (by omega)) evA_nil)) (evA_R2 rfl (evA_I (ev_scr hb hi (j := 1) (by omega)) evA_nil)) h (fun kd I R hR => st_layer hR) hk
  · rw [wL20]
    exact lw_call (evA_R1 rfl evA_nil) (evA_R2 rfl evA_nil) h (fun kd I R hR => st_worth hR) hk
  · rw [wL21]
    exact lw_call (evA_R1 rfl (evA_L (ev_lng (ev_scr hb hi (j := 1) (by omega)) (ev_scr hb hi (j := 2) (by omega))) evA_nil)) (evA_R2 rfl (evA_L (ev_lng (ev_scr hb hi (j := 1) (by omega)) (ev_scr hb hi (j := 2) (by omega))) evA_nil)) h (fun kd I R hR => st_breaks hR (w2_lt _ _ _)) hk
  · rw [wL22]
    exact lw_call (evA_R1 rfl (evA_I (ev_scr hb hi (j := 1) (by omega)) evA_nil)) (evA_R2 rfl (evA_I (ev_scr hb hi (j := 1) (by omega)) evA_nil)) h (fun kd I R hR => st_guard hR) hk
  · rw [wL23]
    exact lw_call (evA_R1 rfl evA_nil) (evA_R2 rfl evA_nil) h (fun kd I R hR => st_guarded hR) hk
  · rw [wL24]
    exact lw_call (evA_R1 rfl (evA_I (ev_scr hb hi (j := 1) (by omega)) (evA_I (ev_scr hb hi (j := 2) (by omega)) (evA_I (ev_scr hb hi (j := 3) (by omega)) evA_nil)))) (evA_R2 rfl (evA_I (ev_scr hb hi (j := 1) (by omega)) (evA_I (ev_scr hb hi (j := 2) (by omega)) (evA_I (ev_scr hb hi (j := 3) (by omega)) evA_nil)))) h (fun kd I R hR => st_move hR) hk
  · rw [wL25]
    exact lw_call (evA_R1 rfl (evA_I (ev_scr hb hi (j := 1) (by omega)) (evA_I (ev_scr hb hi (j := 2) (by omega)) evA_nil))) (evA_R2 rfl (evA_I (ev_scr hb hi (j := 1) (by omega)) (evA_I (ev_scr hb hi (j := 2) (by omega)) evA_nil))) h (fun kd I R hR => st_split hR (i32_rng _)) hk
  · rw [wL26]
    exact lw_call (evA_R1 rfl (evA_I (ev_scr hb hi (j := 1) (by omega)) (evA_I (ev_scr hb hi (j := 2) (by omega)) evA_nil))) (evA_R2 rfl (evA_I (ev_scr hb hi (j := 1) (by omega)) (evA_I (ev_scr hb hi (j := 2) (by omega)) evA_nil))) h (fun kd I R hR => st_melt hR) hk
  · rw [wL27]
    exact lw_call (evA_R1 rfl (evA_I (ev_scr hb hi (j := 1) (by omega)) (evA_I (ev_scr hb hi (j := 2) (by omega)) evA_nil))) (evA_R2 rfl (evA_I (ev_scr hb hi (j := 1) (by omega)) (evA_I (ev_scr hb hi (j := 2) (by omega)) evA_nil))) h (fun kd I R hR => st_turn hR) hk
  · rw [wL28]
    exact lw_call (evA_R1 rfl (evA_I (ev_scr hb hi (j := 1) (by omega)) (evA_I (ev_scr hb hi (j := 2) (by omega)) evA_nil))) (evA_R2 rfl (evA_I (ev_scr hb hi (j := 1) (by omega)) (evA_I (ev_scr hb hi (j := 2) (by omega)) evA_nil))) h (fun kd I R hR => st_face hR) hk
  · rw [wL29]
    exact lw_call (evA_R1 rfl (evA_I (ev_scr hb hi (j := 1) (by omega)) evA_nil)) (evA_R2 rfl (evA_I (ev_scr hb hi (j := 1) (by omega)) evA_nil)) h (fun kd I R hR => st_pull hR) hk
  · rw [wL30]
    exact lw_call (evA_R1 rfl evA_nil) (evA_R2 rfl evA_nil) h (fun kd I R hR => st_back hR) hk
  · rw [wL31]
    exact lw_call (evA_R1 rfl (evA_I (ev_scr hb hi (j := 1) (by omega)) evA_nil)) (evA_R2 rfl (evA_I (ev_scr hb hi (j := 1) (by omega)) evA_nil)) h (fun kd I R hR => st_count hR) hk

theorem lw_loop (hL : L ≤ 2560) (h : RELs st) (hk : ∀ env st, Kn env st) : lp_law b L xs Kn Kb Kr [vX b, vR (some 0), vR (some 63), vI 0] st := by
  unfold lp_law
  refine ⟨fun k env st => ∃ m : Nat, m + k = 512 ∧ env = [vX b, vR (some 0), vR (some 63), vI ((5 * m : Nat) : Int)] ∧ RELs st, 512, Nat.le_refl _, ⟨0, by omega, rfl, h⟩, ?_⟩
  rintro k env st ⟨m, hm, rfl, h⟩
  have e1 : o2 f_isub (L : Int) 5 = (L : Int) - 5 := oS (by omega) (by omega)
  rw [c_le_p]
  refine ⟨((5 * m : Nat) : Int), rfl, ?_⟩
  dsimp only
  rw [e_op_p]
  refine ⟨rfl, by omega, ?_⟩
  show if leb ((5 * m : Nat) : Int) (o2 f_isub (L : Int) 5) = true then _ else Kn _ st
  rw [e1]
  by_cases c : ((5 * m : Nat) : Int) ≤ (L : Int) - 5
  · rw [if_pos (by simp only [leb, decide_eq_true_eq]; exact c)]
    refine ⟨by omega, ?_⟩
    rw [s_seq_p, s_sw_p, e_op_p]
    refine ⟨rfl, ((5 * m : Nat) : Int), rfl, by omega, by omega, ?_⟩
    refine lw_sw (i := 5 * m) (by omega) h (fun st2 h2 => ?_) _
    refine ⟨((5 * m : Nat) : Int), rfl, rfl, k - 1, by omega, m + 1, by omega, ?_, h2⟩
    have e2 : o2 f_iadd ((5 * m : Nat) : Int) 5 = ((5 * (m + 1) : Nat) : Int) := by rw [oA (by omega) (by omega)]; omega
    rw [e2]
    rfl
  · rw [if_neg (by simp only [leb, decide_eq_true_eq]; exact c)]
    exact hk _ _
end LW
theorem new_top {i c2 : Nat} {B : XB} {T : SM} {Kn Kb : XE → XS → Prop} {Kr : AV → XS → Prop} {env : XE} {L : Nat} {li : List (Nat × Nat × Int)} {lr : List (Nat × Nat × Nat)} (hL : L < 98) (hq : kd0[L]? = some (c2 + 3, 0)) (hi : ∀ z ∈ li, z.1 ≠ L) (hr : ∀ z ∈ lr, z.1 ≠ L) (hB : B [vR (some L)] (kd0.take (L + 1), ILs li, RLs lr) (fun v st2 => v = vU ∧ i < env.length ∧ noL env i = true ∧ T Kn Kb Kr (env.set i (vR (some L))) st2)) : s_seq (s_stR i (r_new c2 B a_nil)) T Kn Kb Kr env (kd0.take L, ILs li, RLs lr) := by
  rw [s_seq_p, s_stR_p]
  show B [vR (some (kd0.take L).length)] (stN (kd0.take L, ILs li, RLs lr) (c2 + 3, 0)) (fun v st2 => v = vU ∧ i < env.length ∧ noL env i = true ∧ T Kn Kb Kr (env.set i (vR (some (kd0.take L).length))) st2)
  rw [stN_tk hL hq hi hr, tk_len hL]
  exact hB
theorem plain_law : PlainLaw := by
  intro b L xs hL
  unfold t_law
  show s_seq (s_stR 1 (r_new 8 B_X8_init a_nil)) _ _ _ _ [vX b, vU, vU, vU] (kd0.take 0, ILs [], RLs [])
  refine new_top (by decide) (by decide) (by decide) (by decide) (X8_init_ok ⟨rfl, by show 1 < 4; omega, rfl, ?_⟩)
  refine new_top (L := 63) (by decide) (by decide) (by decide) (by decide) (X9_init_ok ⟨rfl, by show 2 < 4; omega, rfl, ?_⟩)
  rw [s_seq_p, s_seq_p]
  refine ⟨by show 3 < 4; omega, rfl, ?_⟩
  refine lw_loop hL ?_ (fun env st => rfl)
  exact REL0
