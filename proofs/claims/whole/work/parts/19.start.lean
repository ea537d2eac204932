/-! from the law's entry to its plain statement -/
abbrev st00 : XS := ([], (fun _ _ => 0), (fun _ _ => none))
theorem nest_tab {w : Cond} (h : isNest w = true) : w.onTables = true := by
  cases w with
  | methodLinkNest a i x h0 => rfl
  | fieldLinkNest a i b n d h0 => rfl
  | _ => simp [isNest] at h
set_option maxHeartbeats 4000000 in
set_option maxRecDepth 100000 in
theorem SF_start {s : State} {b : Nat} (hts : ∀ w ∈ lw_tbl, w.before #[Value.ref b] s = true) (hgv : (Jvm.Cond.and given_1 narrow_1).before #[Value.ref b] s = true) : SF s.heap.size s := by
  have hs := flat_of_before _ hgv
  have hA : ∀ a : Nat, a < s.heap.size → ¬ (fun q => s.heap.size ≤ q) a := fun a h => Nat.not_le.mpr h
  have tb : ∀ {w : Cond} (i : Nat), tables_1[i]? = some w → w.before #[Value.ref b] s = true := fun i h => hts _ (List.mem_append_right _ (List.mem_of_getElem? h))
  obtain ⟨tL, hvL, hTL⟩ := va_Tof (args := #[Value.ref b]) (s := s) (tm := .static "RingUntie" "LIMITS" "[I") (ty := .int) (N := 3) (f := fun j => .int (([20, 10, 8] : List Int32).getD j 0)) (A := fun q => s.heap.size ≤ q) (by decide) (hs _ (by decide +kernel)) (va_eqt (hs (.eq (.length (.static "RingUntie" "LIMITS" "[I")) (.int 3)) (by decide +kernel))) (fun j hj => by
    rcases (show j = 0 ∨ j = 1 ∨ j = 2 by omega) with rfl | rfl | rfl
    · exact va_eqt (hs (.eq (.elem (.static "RingUntie" "LIMITS" "[I") (.int 0)) (.int 20)) (by decide +kernel))
    · exact va_eqt (hs (.eq (.elem (.static "RingUntie" "LIMITS" "[I") (.int 1)) (.int 10)) (by decide +kernel))
    · exact va_eqt (hs (.eq (.elem (.static "RingUntie" "LIMITS" "[I") (.int 2)) (.int 8)) (by decide +kernel))) hA
  obtain ⟨tW, hvW, hTW⟩ := va_Tof (args := #[Value.ref b]) (s := s) (tm := .static "RingUntie" "WORD_STARTS" "[I") (ty := .int) (N := 7) (f := fun j => .int (([0, 4, 8, 12, 16, 21, 25] : List Int32).getD j 0)) (A := fun q => s.heap.size ≤ q) (by decide) (hs _ (by decide +kernel)) (va_eqt (hs (.eq (.length (.static "RingUntie" "WORD_STARTS" "[I")) (.int 7)) (by decide +kernel))) (fun j hj => by
    rcases (show j = 0 ∨ j = 1 ∨ j = 2 ∨ j = 3 ∨ j = 4 ∨ j = 5 ∨ j = 6 by omega) with rfl | rfl | rfl | rfl | rfl | rfl | rfl
    · exact va_eqt (hs (.eq (.elem (.static "RingUntie" "WORD_STARTS" "[I") (.int 0)) (.int 0)) (by decide +kernel))
    · exact va_eqt (hs (.eq (.elem (.static "RingUntie" "WORD_STARTS" "[I") (.int 1)) (.int 4)) (by decide +kernel))
    · exact va_eqt (hs (.eq (.elem (.static "RingUntie" "WORD_STARTS" "[I") (.int 2)) (.int 8)) (by decide +kernel))
    · exact va_eqt (hs (.eq (.elem (.static "RingUntie" "WORD_STARTS" "[I") (.int 3)) (.int 12)) (by decide +kernel))
    · exact va_eqt (hs (.eq (.elem (.static "RingUntie" "WORD_STARTS" "[I") (.int 4)) (.int 16)) (by decide +kernel))
    · exact va_eqt (hs (.eq (.elem (.static "RingUntie" "WORD_STARTS" "[I") (.int 5)) (.int 21)) (by decide +kernel))
    · exact va_eqt (hs (.eq (.elem (.static "RingUntie" "WORD_STARTS" "[I") (.int 6)) (.int 25)) (by decide +kernel))) hA
  have hel : ∀ j : Nat, j < 30 → Cond.eq (.elem (.field (.string "RingUntie$Tape" 51) "java/lang/String" "value" "[B") (.int (Int32.ofNat j))) (.int (wordsB.getD j 0)) ∈ flatC (Jvm.Cond.and given_1 narrow_1) := by decide +kernel
  obtain ⟨adK, adV, hE, hK⟩ := vk_Sof (args := #[Value.ref b]) (s := s) (N := 1) (tm := fun _ => .string "RingUntie$Tape" 51) (len := [30]) (byt := [wordsB]) (A := fun q => s.heap.size ≤ q) (fun i hi => by rcases (show i = 0 by omega) with rfl; decide)
    (fun i hi => hs _ (by decide +kernel)) (fun i hi => hs _ (by decide +kernel)) (fun i hi => hs _ (by decide +kernel)) (fun i hi => by rcases (show i = 0 by omega) with rfl; exact hs (.eq (.length (.field (.string "RingUntie$Tape" 51) "java/lang/String" "value" "[B")) (.int 30)) (by decide +kernel))
    (fun i hi j hj => by rcases (show i = 0 by omega) with rfl; exact hs _ (hel j hj)) (fun i j hi hj hij => by omega) hA
  refine ⟨tL, tW, adK, adV, va_Zref (tb 328 (by decide +kernel)) (tb 1 (by decide +kernel)) hvL hA, hTL, va_Zref (tb 384 (by decide +kernel)) (tb 1 (by decide +kernel)) hvW hA, hTW, hE, vk_R.of (tb 382 (by decide +kernel)) (hK 0 (by decide)), va_Zof (tb 394 (by decide +kernel)) (tb 12 (by decide +kernel)) (va_eqi (hs (.eq (.static "java/lang/String" "COMPACT_STRINGS" "Z") (.int 1)) (by decide +kernel))) hA, ?_, va_AO.of (tb 79 (by decide +kernel)), va_Zqof (tb 402 (by decide +kernel)) (tb 14 (by decide +kernel)) (hs _ (by decide +kernel)) hA⟩
  intro w hw
  exact va_Nw.of (nest_tab (wNest_is hw)) (hts w (List.mem_filter.mp hw).1)
/-- the plain law: from nothing, on every script of L ints xs, it ends with 1 -/
def PlainLaw : Prop := ∀ (b L : Nat) (xs : Nat → Int32), L ≤ 2560 → t_law b L xs (fun _ _ => False) (fun _ _ => False) (fun v _ => v = vI 1) [vX b, vU, vU, vU] st00
set_option maxHeartbeats 4000000 in
set_option maxRecDepth 100000 in
theorem whole_open (hp : PlainLaw) {p : Program} {e : Env} {s : State} {m : MethodId} {below : List Frame} {meth : Method} {c : Code} (l : Launch) {b L : Nat} {xs : Nat → Int32} (hL : L ≤ 2560) (C0 : lw_At p s m meth c b L xs) : W p l e room_1 s m #[Value.ref b] below meth c s.heap [] 0 0 (lw_Z below #[Value.ref b] s) (entryFrame m ([Value.ref b] : List Value).toArray 4) := by
  obtain ⟨hx, hb, hr, hml, hown, hts, hX, hbl, hlocks, hgv⟩ := C0
  have htw : ∀ w ∈ wAll, w.before #[Value.ref b] s = true := fun w hw => hts w (List.mem_filter.mp hw).1
  have hSF := SF_start hts hgv
  have tb : ∀ {w : Cond} (i : Nat), tables_1[i]? = some w → w.before #[Value.ref b] s = true := fun i h => hts _ (List.mem_append_right _ (List.mem_of_getElem? h))
  obtain ⟨c0, iS0, hKn0⟩ := u_known (C := RX0) (T := TX0) (N := 2) (n := 2) htw inC0 (tb 231 (by decide +kernel) : (Cond.instantiable RX0 2).before #[Value.ref b] s = true)
  obtain ⟨c1, iS1, hKn1⟩ := u_known (C := RX1) (T := TX1) (N := 7) (n := 7) htw inC1 (tb 202 (by decide +kernel) : (Cond.instantiable RX1 7).before #[Value.ref b] s = true)
  obtain ⟨c2, iS2, hKn2⟩ := u_known (C := RX2) (T := TX2) (N := 3) (n := 3) htw inC2 (tb 73 (by decide +kernel) : (Cond.instantiable RX2 3).before #[Value.ref b] s = true)
  obtain ⟨c3, iS3, hKn3⟩ := u_known (C := RX3) (T := TX3) (N := 9) (n := 9) htw inC3 (tb 26 (by decide +kernel) : (Cond.instantiable RX3 9).before #[Value.ref b] s = true)
  obtain ⟨c4, iS4, hKn4⟩ := u_known (C := RX4) (T := TX4) (N := 4) (n := 4) htw inC4 (tb 122 (by decide +kernel) : (Cond.instantiable RX4 4).before #[Value.ref b] s = true)
  obtain ⟨c5, iS5, hKn5⟩ := u_known (C := RX5) (T := TX5) (N := 6) (n := 6) htw inC5 (tb 92 (by decide +kernel) : (Cond.instantiable RX5 6).before #[Value.ref b] s = true)
  obtain ⟨c6, iS6, hKn6⟩ := u_known (C := RX6) (T := TX6) (N := 4) (n := 4) htw inC6 (tb 142 (by decide +kernel) : (Cond.instantiable RX6 4).before #[Value.ref b] s = true)
  obtain ⟨c7, iS7, hKn7⟩ := u_known (C := RX7) (T := TX7) (N := 7) (n := 7) htw inC7 (tb 148 (by decide +kernel) : (Cond.instantiable RX7 7).before #[Value.ref b] s = true)
  obtain ⟨c8, iS8, hKn8⟩ := u_known (C := RX8) (T := TX8) (N := 14) (n := 14) htw inC8 (tb 18 (by decide +kernel) : (Cond.instantiable RX8 14).before #[Value.ref b] s = true)
  obtain ⟨c9, iS9, hKn9⟩ := u_known (C := RX9) (T := TX9) (N := 49) (n := 49) htw inC9 (tb 852 (by decide +kernel) : (Cond.instantiable RX9 49).before #[Value.ref b] s = true)
  obtain ⟨dC, dI, hKc⟩ : ∃ (dC : Nat → ClassId) (dI : Nat → Nat → Nat), ∀ (k : Nat) (q : vw_C), vwCl[k]? = some q → u_Kn s q.1 q.2.1 q.2.2 (dC k) (dI k) := by
    refine ⟨fun k => [c0, c1, c2, c3, c4, c5, c6, c7, c8, c9].getD k c0, fun k => [iS0, iS1, iS2, iS3, iS4, iS5, iS6, iS7, iS8, iS9].getD k iS0, ?_⟩
    intro k q hq
    match k, hq with
    | 0, hq => cases hq; exact hKn0
    | 1, hq => cases hq; exact hKn1
    | 2, hq => cases hq; exact hKn2
    | 3, hq => cases hq; exact hKn3
    | 4, hq => cases hq; exact hKn4
    | 5, hq => cases hq; exact hKn5
    | 6, hq => cases hq; exact hKn6
    | 7, hq => cases hq; exact hKn7
    | 8, hq => cases hq; exact hKn8
    | 9, hq => cases hq; exact hKn9
    | k + 10, hq => simp [vwCl] at hq
  obtain ⟨cI, kI, compI, f1, f2, f3⟩ := Cond.arrayClass_spec (htw _ lac_int)
  obtain ⟨cZ, kZ, compZ, f4, f5, f6⟩ := Cond.arrayClass_spec (htw _ lac_bool)
  obtain ⟨compP, cP, kP, g1, g2, g3, g4, g5⟩ := Cond.arrayOver_spec (hSF.over)
  have hK : va_K (dC, dI) vwCl (xTys cI cZ cP) s := by
    refine ⟨hKc, fun k q hq => ?_⟩
    match k, hq with
    | 0, hq => cases hq; exact ⟨fun n z => ⟨(fun k h => by cases h), kI, f2, compI, f3⟩, f1⟩
    | 1, hq => cases hq; exact ⟨fun n z => ⟨(fun k h => by cases h), kZ, f5, compZ, f6⟩, f4⟩
    | 2, hq => cases hq; exact ⟨fun n z => ⟨(fun k h => by cases h), kP, g3, compP, g4⟩, kP, compP, g3, g4, g1, g5⟩
    | k + 3, hq => simp [xTys] at hq
  have okX : OK (p, l, e, room_1, s, m, #[Value.ref b], below, meth, c, lw_Z below #[Value.ref b] s, 4, s.heap.size, (dC, dI), cI, cZ, cP, []) (M_law meth.name b L xs) :=
    ⟨hx, hb, hml, rfl, hown, htw, hK, Nat.le_refl _, Nat.le_of_ble_eq_true rfl, Nat.le_of_ble_eq_true rfl, rfl, hSF, rfl, hX, hbl⟩
  have hV := fs_law meth.name b L xs _ okX (fun _ _ => False) (fun _ _ => False) (fun v _ => v = vI 1) [vX b, vU, vU, vU] st00 0 0 (hp b L xs hL) (fun _ _ h => h.elim) (fun _ _ h => h.elim) ?_
  · have hl : xL ((lg_sl [Value.ref b] ++ List.replicate (4 - (lg_sl [Value.ref b]).length) Slot.unset).toArray) 4 [] [vX b, vU, vU, vU] := by
      obtain ⟨h1, h2, h3⟩ := lv_entry [Value.ref b] (n := 4) (Nat.le_of_ble_eq_true rfl)
      refine ⟨h1, rfl, h2, fun i v hi hu => ?_⟩
      match i, hi with
      | 0, hi => cases hi; exact h3 (0, .ref b) List.mem_cons_self
      | 1, hi => cases hi; exact absurd rfl hu
      | 2, hi => cases hi; exact absurd rfl hu
      | 3, hi => cases hi; exact absurd rfl hu
      | i + 4, hi => simp at hi
    rw [lg_entry_eq]
    refine hV [] s.heap [] _ 0 0 (by decide) (by decide) ⟨List.prefix_rfl, rfl, fun k q h => by simp [xw] at h, ⟨fun i j p q h => by simp [xw] at h, fun k q h => by simp [xw] at h⟩, va_S.rf, fun _ _ => inR_0, fun _ _ _ h => by cases h⟩ hl (fun v hv => ?_) (fun v hv => by cases hv)
    rcases List.mem_cons.mp hv with rfl | hv
    · trivial
    · rcases List.mem_cons.mp hv with rfl | hv
      · trivial
      · rcases List.mem_cons.mp hv with rfl | hv
        · trivial
        · rw [List.mem_singleton.mp hv]; trivial
  · intro v st' hv pc env bc bs hd
    subst hv
    intro ads H locs ls cells slots hcl hsl hH hl hen hk
    refine va_forget (fun q hq => hH.2.2.2.2.1.2.2 q hq) ?_
    refine W.widen (k := 600000) (n := 7302250) (by have : cells + bc ≤ 600000 := hcl; omega) (by have : slots + bs ≤ 7302250 := hsl; omega) ?_
    exact lw_ret hx hb hr hlocks hd
