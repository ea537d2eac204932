/-! changes on both sides -/
/-- the reference's memory as a change begins -/
def BASE (I J M : Nat → Nat → Int) (tz : Nat) : Prop := (∀ x, x < 63 ∨ 98 ≤ x → M x = J x) ∧ (∀ x, 64 ≤ x → x ≤ 77 → M x = I x) ∧ M 79 = I 79 ∧ M 82 = I 82 ∧ (∀ k, k = 14 ∨ k = 18 ∨ k = 19 ∨ k = 20 ∨ k = 21 → M 63 k = I 63 k) ∧ M 63 16 = (tz : Int) ∧ ∀ j, j < tz → M 78 j = I 78 j
section CG
variable {kd : List (Nat × Nat)} {R : Nat → Nat → Option Nat} {I J J2 M G G' : Nat → Nat → Int} {K : AV → XS → Prop} {na aa f kp : Nat} {H : Nat → Nat → Nat → Int}
theorem SG_0 (h : agr G M) : SG M 0 G := fun x k hk => by rw [← h x k hk]; simp
theorem agr_0 (h : SG M 0 G) : agr G M := fun x k hk => by have := h x k hk; simpa using this
theorem SG_agr {s : Nat} {G2 : Nat → Nat → Int} (h : SG J s G) (h2 : agr G2 G) : SG J s G2 := fun x k hk => by rw [h x k hk, h2 x k hk]
theorem agr_sym (h : agr G M) : agr M G := fun x k hk => (h x k hk).symm
theorem RH_fr (h : RH I kp) (hJ : ∀ x, 63 ≤ x → x < 98 → J x = I x) : RH J kp := by
  obtain ⟨a, b, c, d, e⟩ := h
  exact ⟨RI_fr a (fun x h1 h2 => hJ x (by omega) h2), WG_agr b (agr_fr (fun x h1 h2 => hJ x (by omega) (by omega))), by rw [hJ 63 (by omega) (by omega)]; exact c, d, by rw [hJ 63 (by omega) (by omega)]; exact e⟩
/-- scalars of the class beside those of the reference's base -/
def SCM (J I : Nat → Nat → Int) (tz : Nat) : Prop := (J 0 10 = I 63 18 ∧ J 0 11 = I 63 19 ∧ J 0 13 = I 63 21 ∧ ∀ s, s < 4 → J 62 s = I 79 s) ∧ J 21 1 = (tz : Int) ∧ tz ≤ 120 ∧ ∀ j, j < tz → J 22 j = I 78 j
/-- kept on both sides -/
theorem keep_rel {kd' : List (Nat × Nat)} {R' : Nat → Nat → Option Nat} {J' G'' : Nat → Nat → Int} {tz : Nat} (F : isMod kd R) (C : isCls kd R) (hw : WG I) (hw' : WG G') (hr : RI I) (h19 : I 63 19 = 0 ∨ I 63 19 = 1) (hwd : isWds (I 82)) (h12 : J 0 12 = I 63 20) (hsl : ∀ s, 1 ≤ s → s ≤ kp → SG I s (H s)) (hkl : kp ≤ 20) (hO : ORD J) (hsc : SCM J I tz) (hN : RC J na G') (hng : pgA na) (hnl : na + 8 < kd.length) (hl : 98 ≤ kd.length) (hK : KPS kd R J kd' J' R' na kp H I) (hB : BASE I J' M tz) (hag : agr G' G'') (hKP : KPT M J2 G'' kp) : REL kd' J2 R' := by
  obtain ⟨x1, ⟨aa', x2⟩, ⟨f', x3⟩, x4⟩ := hK
  obtain ⟨b1, b2, b3, b4, b5, b6, b7⟩ := hB
  obtain ⟨k1, k2, k3, k4, k5, k6, k7, k8⟩ := hKP
  obtain ⟨⟨d1, d2, d4, d5⟩, d6, d7, d8⟩ := hsc
  have hx8 : ∀ x, ¬ tsR x → x ≠ 19 → x < 98 → J' x = J x := fun x h1 h2 h3 => x4 x h1 h2 (by omega)
  have cl : ∀ x, x < 63 ∨ 98 ≤ x → J2 x = J' x := fun x hx => by rw [k1 x (by omega), b1 x hx]
  have hc0 : ∀ x, x < 63 → ¬ tsR x → x ≠ 19 → J2 x = J x := fun x h1 h2 h3 => by rw [cl x (by omega), hx8 x h2 h3 (by omega)]
  have hMI : agr I M := agr_fr (fun x h1 h2 => b2 x h1 h2)
  have hng' := hng
  unfold pgA at hng'
  refine REL_mk (J := J') (G := G') (kp := nKept kp) (xt_mod C F x1) (xt_cls C x1) cl x2 x3 (RC_fr hN (fun i hi => x4 _ (by unfold tsR; omega) (by omega) (by omega))) hw' (ORD_fr hO (fun x a b => hx8 x (by unfold tsR; omega) (by omega) (by omega))) ?_ (fun s h1 h2 => ?_) k5 ?_ k4 k3 ?_ ?_ ?_ ?_
  · exact fun x k hk => by rw [agr_0 k6 x k hk, hag x k hk]
  · unfold nH
    by_cases c : s < nKept kp
    · rw [if_pos c]
      refine k7 s _ h1 c (SG_fr (hsl _ ?_ ?_) (fun x h1 h2 => b2 x h1 h2))
      · split <;> omega
      · unfold nKept at c; split <;> rename_i h
        · rw [if_pos h] at c; omega
        · rw [if_neg h] at c; omega
    · rw [if_neg c]
      have : s = nKept kp := by omega
      subst this
      exact SG_agr k8 hMI
  · unfold Pr; rw [k1 79 (by omega), b3]; exact hr.2.2.1
  · rw [k2 19 (by omega) (by omega), b5 19 (by omega)]; exact h19
  · rw [k1 82 (by omega), b4]; exact hwd
  · refine ⟨?_, ?_, ?_, ?_, fun s hs => ?_⟩
    · rw [hc0 0 (by omega) (by unfold tsR; omega) (by omega), k2 18 (by omega) (by omega), b5 18 (by omega)]; exact d1
    · rw [hc0 0 (by omega) (by unfold tsR; omega) (by omega), k2 19 (by omega) (by omega), b5 19 (by omega)]; exact d2
    · rw [hc0 0 (by omega) (by unfold tsR; omega) (by omega), k2 20 (by omega) (by omega), b5 20 (by omega)]; exact h12
    · rw [hc0 0 (by omega) (by unfold tsR; omega) (by omega), k2 21 (by omega) (by omega), b5 21 (by omega)]; exact d4
    · rw [hc0 62 (by omega) (by unfold tsR; omega) (by omega), k1 79 (by omega), b3]; exact d5 s hs
  · refine ⟨tz, by rw [k2 16 (by omega) (by omega)]; exact b6, d7, by rw [hc0 21 (by omega) (by unfold tsR; omega) (by omega)]; exact d6, fun j hj => ?_⟩
    rw [hc0 22 (by omega) (by unfold tsR; omega) (by omega), k1 78 (by omega), b7 j hj]; exact d8 j hj
/-- refused on both sides -/
theorem ref_rel {R' : Nat → Nat → Option Nat} {J' : Nat → Nat → Int} {tz : Nat} (F : isMod kd R) (C : isCls kd R) (hw : WG I) (hr : RI I) (h14 : I 63 14 = (kp : Int)) (h19 : I 63 19 = 0 ∨ I 63 19 = 1) (hwd : isWds (I 82)) (hsl : ∀ s, 1 ≤ s → s ≤ kp → SG I s (H s)) (hO : ORD J) (hsc : SCM J I tz) (hP : PGS kd R na aa) (hS : PST J R f kp H) (hA : RC J aa I) (hK : RFS kd R J J' R' na aa) (hB : BASE I J' M tz) (hKP : REF M J2) (h20 : J' 0 12 = J2 63 20) : REL kd J2 R' := by
  obtain ⟨x1, x2, x3, x4, x5⟩ := hK
  obtain ⟨b1, b2, b3, b4, b5, b6, b7⟩ := hB
  obtain ⟨k1, k2, k3, k4, k5⟩ := hKP
  obtain ⟨⟨d1, d2, d4, d5⟩, d6, d7, d8⟩ := hsc
  have cl : ∀ x, x < 63 ∨ 98 ≤ x → J2 x = J' x := fun x hx => by rw [k1 x (by omega), b1 x hx]
  have hc0 : ∀ x, x < 63 → ¬ tsR x → x ≠ 0 → J2 x = J x := fun x h1 h2 h3 => by rw [cl x (by omega), x3 x h2 h3]
  have hMI : agr I M := agr_fr (fun x h1 h2 => b2 x h1 h2)
  have hkl := hS.1.2.2.2
  have hag := hP.2.1.2.2.2.1
  unfold pgA at hag
  have hS' : PST J' R' f kp H := by
    obtain ⟨s0, s5⟩ := PST_fr hP hS x3
    refine ⟨s0, fun j hj => ?_⟩
    obtain ⟨b, q1, q2, q3⟩ := s5 j hj
    exact ⟨b, by rw [x5]; exact q1, q2, q3⟩
  refine REL_mk (J := J') (G := I) (kp := kp) (xt_mod C F x1) (xt_cls C x1) cl x2 hS' (RC_fr hA (fun i hi => x3 _ (by unfold tsR; omega) (by omega))) hw (ORD_fr hO (fun x a b => x3 x (by unfold tsR; omega) (by omega))) (agr_0 (k5 0 (by omega) I (SG_0 hMI))) (fun s h1 h2 => k5 s (by omega) _ (SG_fr (hsl s h1 h2) (fun x h1 h2 => b2 x h1 h2))) k4 ?_ k3 ?_ ?_ ?_ ?_ ?_
  · unfold Pr; rw [k1 79 (by omega), b3]; exact hr.2.2.1
  · rw [k2 14 (by omega) (by omega), b5 14 (by omega)]; exact h14
  · rw [k2 19 (by omega) (by omega), b5 19 (by omega)]; exact h19
  · rw [k1 82 (by omega), b4]; exact hwd
  · refine ⟨?_, ?_, ?_, ?_, fun s hs => ?_⟩
    · rw [cl 0 (by omega), x4 10 (by omega), k2 18 (by omega) (by omega), b5 18 (by omega)]; exact d1
    · rw [cl 0 (by omega), x4 11 (by omega), k2 19 (by omega) (by omega), b5 19 (by omega)]; exact d2
    · rw [cl 0 (by omega)]; exact h20
    · rw [cl 0 (by omega), x4 13 (by omega), k2 21 (by omega) (by omega), b5 21 (by omega)]; exact d4
    · rw [hc0 62 (by omega) (by unfold tsR; omega) (by omega), k1 79 (by omega), b3]; exact d5 s hs
  · refine ⟨tz, by rw [k2 16 (by omega) (by omega)]; exact b6, d7, by rw [hc0 21 (by omega) (by unfold tsR; omega) (by omega)]; exact d6, fun j hj => ?_⟩
    rw [hc0 22 (by omega) (by unfold tsR; omega) (by omega), k1 78 (by omega), b7 j hj]; exact d8 j hj
/-- a change that is settled -/
theorem settle_step {B9 : XB} {l : List AV} {tz : Nat} {ans gone : Int} (F : isMod kd R) (C : isCls kd R) (hH : RH I kp) (hwd : isWds (I 82)) (hP : PGS kd R na aa) (hsl : ∀ s, 1 ≤ s → s ≤ kp → SG I s (H s)) (hO : ORD J) (hS : PST J R f kp H) (hA : RC J aa I) (hN : RC J na G') (hw' : WG G') (hx : ∀ x, 63 ≤ x → x < 98 → J x = I x) (h12 : J 0 12 = I 63 20) (hsc : SCM J I tz)
    (hB9 : ∀ (kd' : List (Nat × Nat)) (J' : Nat → Nat → Int) (R' : Nat → Nat → Option Nat) (K : AV → XS → Prop), isMod kd' R' → (∀ x, 63 ≤ x → x < 98 → J' x = I x) → RH J' kp → (∀ M G'', BASE I J' M tz → agr G' G'' → MR kd' R' K M G'' gone kp ans) → B9 (vR (some 63) :: l) (kd', J', R') K) (hK8 : ∀ x (st1 : XS), st1.1[63]? = some (12, 0) → (∀ K9 : AV → XS → Prop, (∀ st2, RELs st2 → K9 (vI x) st2) → B9 (vR (some 63) :: l) st1 K9) → K (vI x) st1) : B_X8_settle [vR (some 0), vI ans, vI gone] (kd, J, R) K := by
  obtain ⟨hr, hw, h14, hkl, h19⟩ := id hH
  have hp0 := hw.1.1
  have hp1 := hw'.1.1
  have hl := cls_len C
  have hnl := isProg_lt hP.2.1.1
  have hng := hP.2.1.2.2.1
  obtain ⟨⟨d1, d2, d4, d5⟩, d6, d7, d8⟩ := id hsc
  have fbe : ∀ M G'' : Nat → Nat → Int, (∀ x, 64 ≤ x → x ≤ 77 → M x = I x) → (∀ k, k = 14 ∨ k = 18 ∨ k = 19 ∨ k = 20 ∨ k = 21 → M 63 k = I 63 k) → agr G' G'' → (FB M G'' gone ↔ (J 0 11 = 1 ∧ forb (Cn I (I 63 18)) (I 64 0).toNat (Cn G' (I 63 18)) (G' 64 0).toNat gone = true)) ∧ GT M G'' gone = aFst (frs (Cn I (I 63 18)) (I 64 0).toNat (Cn G' (I 63 18)) (G' 64 0).toNat gone) := by
    intro M G'' b2 b5 hag
    have hMI : agr I M := agr_fr (fun x h1 h2 => b2 x h1 h2)
    have e1 : ∀ td, Cn M td = Cn I td := fun td => Cn_agr hw.1 hw.2.2.2.2 hMI td
    have e2 : ∀ td, Cn G'' td = Cn G' td := fun td => Cn_agr hw'.1 hw'.2.2.2.2 hag td
    have e3 : G'' 64 0 = G' 64 0 := hag 64 0 (by decide)
    unfold FB GT
    rw [e1, e2, e3, b5 18 (by omega), b5 19 (by omega), b2 64 (by omega) (by omega), d2]
    exact ⟨Iff.rfl, rfl⟩
  refine X8_settle_ok (G := I) (G' := G') (pr := I 79) (td := I 63 18) (n := (I 64 0).toNat) (n' := (G' 64 0).toNat) C hP hS hN hw' hA hw hr.2.2.1 d5 d1 (by rw [d2]; exact h19) (by omega) (by omega) (fun g fb J' R' hK h12' => ?_) (fun hno kd' J' R' hK => ?_)
  · have F' := xt_mod C F hK.1
    have hx' : ∀ x, 63 ≤ x → x < 98 → J' x = I x := fun x h1 h2 => by rw [hK.2.2.1 x (by unfold tsR; omega) (by omega)]; exact hx x h1 h2
    refine hK8 (-5) (kd, J', R') (mK_63 F') (fun K9 h9 => hB9 kd J' R' K9 F' hx' (RH_fr hH hx') (fun M G'' hB hag => ?_))
    obtain ⟨q1, q2⟩ := fbe M G'' hB.2.1 hB.2.2.2.2.1 hag
    refine ⟨fun _ J2 hR2 h20 => h9 _ ?_, fun hno => absurd (q1.2 ⟨g, fb⟩) hno⟩
    show REL kd J2 R'
    exact ref_rel (f := f) F C hw hr h14 h19 hwd hsl hO hsc hP hS hA hK hB hR2 (by rw [h20, q2]; exact h12')
  · have F' := xt_mod C F hK.1
    have hx' : ∀ x, 63 ≤ x → x < 98 → J' x = I x := fun x h1 h2 => by rw [hK.2.2.2 x (by unfold tsR; omega) (by omega) (by omega)]; exact hx x h1 h2
    refine hK8 ans (kd', J', R') (mK_63 F') (fun K9 h9 => hB9 kd' J' R' K9 F' hx' (RH_fr hH hx') (fun M G'' hB hag => ?_))
    obtain ⟨q1, q2⟩ := fbe M G'' hB.2.1 hB.2.2.2.2.1 hag
    refine ⟨fun hfb => absurd (q1.1 hfb) hno, fun _ J2 hK2 => h9 _ ?_⟩
    show REL kd' J2 R'
    exact keep_rel F C hw hw' hr h19 hwd h12 hsl hkl hO hsc hN hng hnl hl hK hB hag hK2
/-- the base where nothing but the class's rows stands otherwise -/
theorem BASE_self {sz : Nat} (hx : ∀ x, 63 ≤ x → x < 98 → J x = I x) (h16 : I 63 16 = (sz : Int)) : BASE I J J sz :=
  ⟨fun _ _ => rfl, fun x h1 h2 => hx x (by omega) (by omega), hx 79 (by omega) (by omega), hx 82 (by omega) (by omega), fun k _ => by rw [hx 63 (by omega) (by omega)], by rw [hx 63 (by omega) (by omega)]; exact h16, fun j _ => by rw [hx 78 (by omega) (by omega)]⟩
/-- behind the copy that ahead takes, and a change of now -/
def CHd (I J : Nat → Nat → Int) (na aa : Nat) : Prop := ∀ x, ¬ (na ≤ x ∧ x ≤ na + 8) → ¬ (aa ≤ x ∧ x ≤ aa + 8) → J x = I x
theorem cp_now (hP : PGS kd R na aa) (hC : RC I na I) : RC (cpP I aa na) na I := RC_fr hC (fun i hi => cpP_fr _ (by have := hP.2.1.2.2.2.2; unfold sep at this; omega))
theorem cp_ahead (hC : RC I na I) (hw : WG I) : RC (cpP I aa na) aa I := cpP_RC hC hw.1
theorem cp_chd (h : frA na (cpP I aa na) J) : CHd I J na aa := fun x h1 h2 => by rw [h x h1]; exact cpP_fr x h2
theorem cp_ahead2 (hP : PGS kd R na aa) (hC : RC I na I) (hw : WG I) (h : frA na (cpP I aa na) J) : RC J aa I := RC_fr (cp_ahead hC hw) (fun i hi => h _ (by have := hP.2.1.2.2.2.2; unfold sep at this; omega))
theorem cp_sep (hP : PGS kd R na aa) : ∀ i j, i ≤ 8 → j ≤ 8 → na + i ≠ aa + j := fun i j _ _ => by have := hP.2.1.2.2.2.2; unfold sep at this; omega
theorem chd_PST (hP : PGS kd R na aa) (hS : PST I R f kp H) (h : CHd I J na aa) : PST J R f kp H := by
  obtain ⟨⟨s1, s2, s3, s4⟩, s5⟩ := hS
  have h1 := hP.2.1.2.2.1
  have h2 := hP.2.1.2.2.2.1
  unfold pgA at h1 h2
  have e := h 19 (by omega) (by omega)
  refine ⟨⟨by rw [e]; exact s1, s2, by rw [e]; exact s3, s4⟩, fun j hj => ?_⟩
  obtain ⟨b, b1, b2, b3⟩ := s5 j hj
  have hb := hP.2.2.1 _ b (by omega) b1
  have q1 := hb.2.2.1
  have q2 := hb.2.2.2
  unfold sep at q1 q2
  exact ⟨b, b1, RC_fr b2 (fun i hi => h _ (by omega) (by omega)), b3⟩
/-- a change as most of them are: copied, made, settled -/
theorem change_step {B9 : XB} {l : List AV} {ans gone : Int} (h : REL kd I R) (hP : PGS kd R na aa) (hS : PST I R f kp H) (hC : RC I na I) (hsl : ∀ s, 1 ≤ s → s ≤ kp → SG I s (H s)) (hH : RH I kp) (hJ : frA na (cpP I aa na) J) (hN : RC J na G') (hw' : WG G')
    (hB9 : ∀ (kd' : List (Nat × Nat)) (J' : Nat → Nat → Int) (R' : Nat → Nat → Option Nat) (K : AV → XS → Prop), isMod kd' R' → (∀ x, 63 ≤ x → x < 98 → J' x = I x) → RH J' kp → (∀ G'', agr G' G'' → MR kd' R' K J' G'' gone kp ans) → B9 (vR (some 63) :: l) (kd', J', R') K) (hK8 : ∀ x (st1 : XS), st1.1[63]? = some (12, 0) → (∀ K9 : AV → XS → Prop, (∀ st2, RELs st2 → K9 (vI x) st2) → B9 (vR (some 63) :: l) st1 K9) → K (vI x) st1) : B_X8_settle [vR (some 0), vI ans, vI gone] (kd, J, R) K := by
  obtain ⟨_, _, _, _, _, ⟨F, C, _, hO, hwd⟩, _, _, hsc, htp⟩ := h
  obtain ⟨sz, t1, t2, t3, t4⟩ := htp
  obtain ⟨d1, d2, d3, d4, d5⟩ := hsc
  have hw := hH.2.1
  have hx := cp_chd hJ
  have g1 := hP.2.1.2.2.1
  have g2 := hP.2.1.2.2.2.1
  unfold pgA at g1 g2
  have e : ∀ x, x = 0 ∨ (19 ≤ x ∧ x < 98) → J x = I x := fun x h => hx x (by omega) (by omega)
  refine settle_step (tz := sz) (f := f) F C hH hwd hP hsl (ORD_fr hO (fun x a b => e x (by omega))) (chd_PST hP hS hx) (cp_ahead2 hP hC hw hJ) hN hw' (fun x h1 h2 => e x (by omega)) (by rw [e 0 (by omega)]; exact d3) ⟨⟨by rw [e 0 (by omega)]; exact d1, by rw [e 0 (by omega)]; exact d2, by rw [e 0 (by omega)]; exact d4, fun s hs => by rw [e 62 (by omega)]; exact d5 s hs⟩, by rw [e 21 (by omega)]; exact t3, t2, fun j hj => by rw [e 22 (by omega)]; exact t4 j hj⟩ (fun kd' J' R' K F' hx' hH' hM => hB9 kd' J' R' K F' hx' hH' (fun G'' hag => hM J' G'' (BASE_self hx' t1) hag)) hK8
/-- a change that nothing guards -/
theorem keep_step {B9 : XB} {l : List AV} {ans : Int} (h : REL kd I R) (hP : PGS kd R na aa) (hS : PST I R f kp H) (hC : RC I na I) (hsl : ∀ s, 1 ≤ s → s ≤ kp → SG I s (H s)) (hH : RH I kp) (hJ : frA na (cpP I aa na) J) (hN : RC J na G') (hw' : WG G')
    (hB9 : ∀ (kd' : List (Nat × Nat)) (J' : Nat → Nat → Int) (R' : Nat → Nat → Option Nat) (K : AV → XS → Prop), isMod kd' R' → (∀ x, 63 ≤ x → x < 98 → J' x = I x) → RH J' kp → (∀ G'', agr G' G'' → ∀ J2, KPT J' J2 G'' kp → K (vI ans) (kd', J2, R')) → B9 (vR (some 63) :: l) (kd', J', R') K) (hK8 : ∀ (st1 : XS), st1.1[63]? = some (12, 0) → (∀ K9 : AV → XS → Prop, (∀ st2, RELs st2 → K9 (vI ans) st2) → B9 (vR (some 63) :: l) st1 K9) → K vU st1) : B_X8_keepChange [vR (some 0)] (kd, J, R) K := by
  obtain ⟨_, _, _, _, _, ⟨F, C, _, hO, hwd⟩, _, _, hsc, htp⟩ := h
  obtain ⟨sz, t1, t2, t3, t4⟩ := htp
  obtain ⟨d1, d2, d3, d4, d5⟩ := hsc
  obtain ⟨hr, hw, h14, hkl, h19⟩ := id hH
  have hx := cp_chd hJ
  have g1 := hP.2.1.2.2.1
  have g2 := hP.2.1.2.2.2.1
  have hl := cls_len C
  have hnl := isProg_lt hP.2.1.1
  unfold pgA at g1 g2
  have e : ∀ x, x = 0 ∨ (19 ≤ x ∧ x < 98) → J x = I x := fun x h => hx x (by omega) (by omega)
  refine X8_keep_ok C hP (chd_PST hP hS hx) (cp_ahead2 hP hC hw hJ) hw (fun kd' J' R' aa' f' x1 x2 x3 x4 => ?_)
  have hK : KPS kd R J kd' J' R' na kp H I := ⟨x1, ⟨aa', x2⟩, ⟨f', x4⟩, fun x _ h2 h3 => x3 x h2 h3⟩
  have F' := xt_mod C F x1
  have hx' : ∀ x, 63 ≤ x → x < 98 → J' x = I x := fun x h1 h2 => by rw [x3 x (by omega) (by omega)]; exact e x (by omega)
  refine hK8 (kd', J', R') (mK_63 F') (fun K9 h9 => hB9 kd' J' R' K9 F' hx' (RH_fr hH hx') (fun G'' hag J2 hK2 => h9 _ ?_))
  show REL kd' J2 R'
  exact keep_rel (tz := sz) F C hw hw' hr h19 hwd (by rw [e 0 (by omega)]; exact d3) hsl hkl (ORD_fr hO (fun x a b => e x (by omega))) ⟨⟨by rw [e 0 (by omega)]; exact d1, by rw [e 0 (by omega)]; exact d2, by rw [e 0 (by omega)]; exact d4, fun s hs => by rw [e 62 (by omega)]; exact d5 s hs⟩, by rw [e 21 (by omega)]; exact t3, t2, fun j hj => by rw [e 22 (by omega)]; exact t4 j hj⟩ hN hP.2.1.2.2.1 hnl hl hK (BASE_self hx' t1) hag hK2
theorem STPs_of {B8 B9 : XB} {l : List AV} {st : XS} (h : ∀ K : AV → XS → Prop, (∀ x (st1 : XS), st1.1[63]? = some (12, 0) → (∀ K9 : AV → XS → Prop, (∀ st2, RELs st2 → K9 (vI x) st2) → B9 (vR (some 63) :: l) st1 K9) → K (vI x) st1) → B8 (vR (some 0) :: l) st K) : STPs B8 B9 l st := h
end CG
