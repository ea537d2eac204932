/-! the statics and the text -/
def e_lim (i : Nat) : EI := fun env st K => ∃ x, env[i]? = some (vI x) ∧ 0 ≤ x ∧ x < 3 ∧ K (([20, 10, 8] : List Int).getD x.toNat 0) st
def e_wds (i : Nat) : EI := fun env st K => ∃ x, env[i]? = some (vI x) ∧ 0 ≤ x ∧ x < 7 ∧ K (([0, 4, 8, 12, 16, 21, 25] : List Int).getD x.toNat 0) st
def wordsI : List Int := [97, 100, 100, 32, 109, 117, 108, 32, 112, 117, 116, 32, 103, 101, 116, 32, 99, 97, 108, 108, 32, 111, 100, 100, 32, 110, 101, 119, 115, 32]
def e_wch (i : Nat) : EI := fun env st K => ∃ x, env[i]? = some (vI x) ∧ 0 ≤ x ∧ x < 30 ∧ K (wordsI.getD x.toNat 0) st
def e_wst (i : Nat) : EI := fun env st K => ∃ x, env[i]? = some (vI x) ∧ 0 ≤ x ∧ x < 7 ∧ K (wordsI.getD (([0, 4, 8, 12, 16, 21, 25] : List Nat).getD x.toNat 0) 0) st
theorem S_seqb {M : MI} {a : SM} {pc p1 qc bt k1 s1 : Nat} {off : Int} (ha : FS M pc p1 bt bt k1 s1 a) (D : decode M.1 p1 = .ok (.goto off, 3)) (ht : (p1 : Int) + off = (bt : Int)) : FS M pc (p1 + 3) qc bt k1 s1 (s_seq a s_brk) := fun X ok Kn Kb Kr env st bc bs h kn kb kr => ha X ok _ _ _ env st bc bs h (fun env1 st1 h1 => ⟨V_goto D ht ok (kb _ _ h1), kb _ _ h1⟩) kb kr

abbrev NoA : Nat → Prop := fun _ => False
/-- the contract of a method that leaves all as it is -/
abbrev qS (post : Int32 → Prop) : Array Value → State → Outcome → State → Prop := va_Qi (S := Unit) (fun r _ => post r) (fun _ _ => True) NoA
theorem sNo {A : Nat → Prop} {H0 H : Heap} {locs : List Loc} (h : va_S NoA H0 H locs) : va_S A H0 H locs := ⟨h.1, fun q h1 _ => h.2.1 q h1 id, fun q hq => (h.2.2 q hq).elim⟩
abbrev YJp (fr lo : Nat) : NI := (yJ3_checkIndex_8e157, cJ3_checkIndex_8e157, 3, some .int, fr, lo, 0, 0)
abbrev YJc (fr lo : Nat) : NI := (yJ0_checkIndex_df160, cJ0_checkIndex_df160, 2, none, fr, lo, 0, 0)
abbrev YJl (fr lo : Nat) : NI := (yJ1_charAt_3b067, cJ1_charAt_3b067, 2, some .char, fr, lo, 0, 0)
abbrev YJi (fr lo : Nat) : NI := (yJ0_isLatin1_aae02, cJ0_isLatin1_aae02, 1, some .boolean, fr, lo, 0, 0)
abbrev YJo (fr lo : Nat) : NI := (yJ0_coder_7d493, cJ0_coder_7d493, 1, some .byte, fr, lo, 0, 0)
abbrev YJa (fr lo : Nat) : NI := (yJ0_charAt_5068e, cJ0_charAt_5068e, 2, some .char, fr, lo, 0, 0)
abbrev YJn (fr lo : Nat) : NI := (yJ0_length_8abf5, cJ0_length_8abf5, 1, some .int, fr, lo, 0, 0)
section JD
variable (l : Launch) (base : Nat)
theorem j_pre {i n : Int32} (r : Option Nat) (h0 : ¬ i < 0) (h1 : i < n) : Met l yJ3_checkIndex_8e157 (wsOf (YJp 1 20)) (rmOf (YJp 1 20)) (va_Pc [.int i, .int n, va_rf r] (fun _ => True)) (qS (fun x => x = i)) 0 0 NoA := by
  refine Met.ofW (cc := cJ3_checkIndex_8e157) (maxL := 3) (ret := some .int) (by decide) rfl ?_
  intro p e s m args below meth c s₁ B hml hv
  obtain ⟨rfl, -⟩ := hv
  have hx := B.exec
  have hb := B.bytes
  have hr := B.returns
  have hlocks := B.notSynchronized
  obtain ⟨ls, hls, hl⟩ : ∃ ls, (lg_sl [.int i, .int n, va_rf r] ++ List.replicate (3 - (lg_sl [.int i, .int n, va_rf r]).length) Slot.unset).toArray = ls ∧ lv_has ls 3 [(0, .int i), (1, .int n)] := by
    refine ⟨_, rfl, ?_⟩
    cases r with
    | none => exact lv_sub (lv_entry [.int i, .int n, .null] (n := 3) (Nat.le_of_ble_eq_true rfl)) [0, 1] rfl
    | some t => exact lv_sub (lv_entry [.int i, .int n, .ref t] (n := 3) (Nat.le_of_ble_eq_true rfl)) [0, 1] rfl
  rw [lg_entry_eq, hls]
  refine lv_iload_n hx hb dJ3_checkIndex_8e157_0 rfl (lv_at hl 0 rfl) ?_
  refine lv_if_lt (tgt := 9) hx hb dJ3_checkIndex_8e157_1 rfl (fun h => absurd h h0) (fun _ => ?_)
  refine lv_iload_n hx hb dJ3_checkIndex_8e157_4 rfl (lv_at hl 0 rfl) ?_
  refine lv_iload_n hx hb dJ3_checkIndex_8e157_5 rfl (lv_at hl 1 rfl) ?_
  refine lv_icmp_lt (tgt := 16) hx hb dJ3_checkIndex_8e157_6 rfl (fun _ => ?_) (fun h => absurd h1 h)
  refine lv_iload_n hx hb dJ3_checkIndex_8e157_16 rfl (lv_at hl 0 rfl) ?_
  exact W.iret hx hb hr (fun t ht _ => ⟨⟨i, (), rfl, rfl, trivial⟩, (va_S.rf (A := NoA)).F ht⟩) (fun q hq => by cases hq) dJ3_checkIndex_8e157_17 hlocks
theorem blindT {av : List Value} : FrameBlind (va_Pc av (fun _ => True)) := fun _ _ _ _ h => h
theorem blindS {av : List Value} : FrameBlind (va_Pc av (SF base)) := fun _ U _ _ h => ⟨h.1, SF.same (u := U) rfl rfl h.2⟩
theorem j_chk {i n : Int32} (h0 : ¬ i < 0) (h1 : i < n) : Met l yJ0_checkIndex_df160 (wsOf (YJc 2 50)) (rmOf (YJc 2 50)) (va_Pc [.int i, .int n] (SF base)) (va_Qv (S := Unit) (fun _ => True) (fun _ _ => True) NoA) 0 0 NoA := by
  refine Met.ofW (cc := cJ0_checkIndex_df160) (maxL := 2) (ret := none) (by decide) rfl ?_
  intro p e s m args below meth c s₁ B hml hv
  obtain ⟨rfl, hSF⟩ := hv
  have hx := B.exec
  have hb := B.bytes
  have hr := B.returns
  have hlocks := B.notSynchronized
  have hown : s.vm.findClass RJ0 = some m.cls := findClass_of_methodNamed B.named
  have hts0 := atoms_spec (ws := wsOf (YJc 2 50)) B.pre
  have hts : ∀ w ∈ wAll, w.before _ s = true := fun w hw => hts0 w (List.mem_cons_of_mem _ hw)
  have hl := lv_entry [.int i, .int n] (n := 2) (Nat.le_of_ble_eq_true rfl)
  rw [lg_entry_eq]
  generalize (lg_sl [.int i, .int n] ++ List.replicate (2 - (lg_sl [.int i, .int n]).length) Slot.unset).toArray = ls at hl ⊢
  have hl : lv_has ls 2 [(0, .int i), (1, .int n)] := hl
  have hS : va_S NoA s.heap s.heap [] := va_S.rf
  refine lv_iload_n hx hb dJ0_checkIndex_df160_0 rfl (lv_at hl 0 rfl) ?_
  refine lv_iload_n hx hb dJ0_checkIndex_df160_1 rfl (lv_at hl 1 rfl) ?_
  obtain ⟨tL, tW, adK, adV, -, -, -, -, -, -, -, -, -, hZq⟩ := hSF
  obtain ⟨r, hZ⟩ : ∃ r : Option Nat, va_Z "jdk/internal/util/Preconditions" "SIOOBE_FORMATTER" "Ljava/util/function/BiFunction;" (va_rf r) (fun q => base ≤ q) s s.heap := by
    rcases hZq with h | ⟨t, h⟩
    · exact ⟨none, h⟩
    · exact ⟨some t, h⟩
  refine va_gets hx hb hZ (sNo hS) hown (hts (.fieldLink RJ0 1053 "jdk/internal/util/Preconditions" "SIOOBE_FORMATTER" "Ljava/util/function/BiFunction;") (wIn 401 (by decide +kernel) (by decide +kernel))) (fun _ h => h) dJ0_checkIndex_df160_2 ?_
  refine va_calli (A0 := NoA) (va_runS (nL := 2) (Ts := wAll) (As := [.int i, .int n, va_rf r]) (rest := []) (n := 3) (bytes := cJ3_checkIndex_8e157) (maxL := 3) (ret := some .int) ⟨hx, hb, hml, hown, hts⟩ (j_pre l r h0 h1) ⟨callB_of 3 hts (goodIn_ws (Y := YJp 1 20) (wIn 405 (by decide +kernel) (by decide +kernel))) rfl rfl rfl (hts _ (wIn 14 (by decide +kernel) (by decide +kernel))) (hts (.methodLink RJ0 1059 yJ3_checkIndex_8e157) (wIn 403 (by decide +kernel) (by decide +kernel))) (by decide +kernel) ⟨Nat.le_of_ble_eq_true rfl, Nat.le_of_ble_eq_true rfl⟩, hts (.static yJ3_checkIndex_8e157) (wIn 404 (by decide +kernel) (by decide +kernel))⟩ ⟨blindT, fun U _ _ => ⟨rfl, trivial⟩⟩ rfl rfl hl.1 rfl (lv_room (Nat.le_of_ble_eq_true rfl)) dJ0_checkIndex_df160_5 ⟨Nat.le_of_ble_eq_true rfl, Nat.le_of_ble_eq_true rfl⟩) hS (fun _ _ h => h) (fun _ h => h) (fun x u t H1 locs ht hvm hw _ hz1 hk1 hS => ?_)
  refine lv_pop hx hb dJ0_checkIndex_df160_8 rfl ?_
  exact W.vret hx hb hr (fun t ht _ => ⟨⟨(), rfl, trivial, trivial⟩, hS.F ht⟩) (fun q hq => hS.2.2 q hq) dJ0_checkIndex_df160_9 hlocks
/-- what the text's cells hold -/
theorem j_lat {i : Int32} {v : Nat} {f : Nat → Int32} {N : Nat} (hin : vp_in i N) (hN : N < 2 ^ 31) (x : Int32) (hxx : ((f i.toNatClampNeg &&& 255).toUInt32 % 65536).toInt32 = x) (hnx : narrow .char (.int x) = .int x) : Met l yJ1_charAt_3b067 (wsOf (YJl 3 80)) (rmOf (YJl 3 80)) (va_Pc [.ref v, .int i] (fun U => SF base U ∧ va_T .byte v N (fun j => .int (f j)) (fun q => base ≤ q) U U.heap)) (qS (fun r => r = x)) 0 0 NoA := by
  refine Met.ofW (cc := cJ1_charAt_3b067) (maxL := 2) (ret := some .char) (by decide) rfl ?_
  intro p e s m args below meth c s₁ B hml hv
  obtain ⟨rfl, hSF, hT⟩ := hv
  have hx := B.exec
  have hb := B.bytes
  have hr := B.returns
  have hlocks := B.notSynchronized
  have hown : s.vm.findClass RJ1 = some m.cls := findClass_of_methodNamed B.named
  have hts0 := atoms_spec (ws := wsOf (YJl 3 80)) B.pre
  have hts : ∀ w ∈ wAll, w.before _ s = true := fun w hw => hts0 w (List.mem_cons_of_mem _ hw)
  have hl := lv_entry [.ref v, .int i] (n := 2) (Nat.le_of_ble_eq_true rfl)
  rw [lg_entry_eq]
  generalize (lg_sl [.ref v, .int i] ++ List.replicate (2 - (lg_sl [.ref v, .int i]).length) Slot.unset).toArray = ls at hl ⊢
  have hl : lv_has ls 2 [(0, .ref v), (1, .int i)] := hl
  have hS : va_S NoA s.heap s.heap [] := va_S.rf
  have h0 : ¬ i < 0 := fun q => hin (Or.inl q)
  have h1 : i < Int32.ofNat N := by
    obtain ⟨j, hj, rfl⟩ := vp_in_of hin hN
    exact nI_lt hj hN
  refine lv_iload_n hx hb dJ1_charAt_3b067_0 rfl (lv_at hl 1 rfl) ?_
  refine lv_aload_n hx hb dJ1_charAt_3b067_1 rfl (lv_at hl 0 rfl) ?_
  refine va_tlen hx hb hT (sNo hS) rfl dJ1_charAt_3b067_2 ?_
  refine va_callv (A0 := NoA) (va_runS (nL := 2) (Ts := wAll) (As := [.int i, .int (Int32.ofNat N)]) (rest := []) (n := 2) (bytes := cJ0_checkIndex_df160) (maxL := 2) (ret := none) ⟨hx, hb, hml, hown, hts⟩ (j_chk l base h0 h1) ⟨callB_of 2 hts (goodIn_ws (Y := YJc 2 50) (wIn 400 (by decide +kernel) (by decide +kernel))) rfl rfl rfl (hts _ (wIn 12 (by decide +kernel) (by decide +kernel))) (hts (.methodLink RJ1 9 yJ0_checkIndex_df160) (wIn 398 (by decide +kernel) (by decide +kernel))) (by decide +kernel) ⟨Nat.le_of_ble_eq_true rfl, Nat.le_of_ble_eq_true rfl⟩, hts (.static yJ0_checkIndex_df160) (wIn 399 (by decide +kernel) (by decide +kernel))⟩ ⟨blindS base, fun U hU hW => ⟨rfl, hSF.keep hW (fun q _ _ => by rw [hU])⟩⟩ rfl rfl hl.1 rfl (lv_room (Nat.le_of_ble_eq_true rfl)) dJ1_charAt_3b067_3 ⟨Nat.le_of_ble_eq_true rfl, Nat.le_of_ble_eq_true rfl⟩) hS (fun _ _ h => h) (fun _ h => h) (fun u t H1 locs ht hvm hw _ hz1 hk1 hS => ?_)
  refine lv_aload_n hx hb dJ1_charAt_3b067_6 rfl (lv_at hl 0 rfl) ?_
  refine lv_iload_n hx hb dJ1_charAt_3b067_7 rfl (lv_at hl 1 rfl) ?_
  refine va_tb hx hb hT (sNo hS) hin (v := .int (f i.toNatClampNeg)) rfl dJ1_charAt_3b067_8 ?_
  refine lv_sipush (v := 255) hx hb dJ1_charAt_3b067_9 (by decide) ?_
  refine lv_iand hx hb dJ1_charAt_3b067_12 ?_
  refine lv_i2c hx hb dJ1_charAt_3b067_13 hxx ?_
  exact W.zret hx hb hr hnx (fun t ht _ => ⟨⟨x, (), rfl, rfl, trivial⟩, hS.F ht⟩) (fun q hq => hS.2.2 q hq) dJ1_charAt_3b067_14 hlocks
theorem j_isl {adK adV : Nat → Nat} : Met l yJ0_isLatin1_aae02 (wsOf (YJi 1 20)) (rmOf (YJi 1 20)) (va_Pc [.ref (adK 0)] (fun U => vk_S 1 [30] [wordsB] adK adV (fun q => base ≤ q) U U.heap ∧ va_Z "java/lang/String" "COMPACT_STRINGS" "Z" (.int 1) (fun q => base ≤ q) U U.heap)) (qS (fun r => r = 1)) 0 0 NoA := by
  refine Met.ofW (cc := cJ0_isLatin1_aae02) (maxL := 1) (ret := some .boolean) (by decide) rfl ?_
  intro p e s m args below meth c s₁ B hml hv
  obtain ⟨rfl, hE, hZ⟩ := hv
  have hx := B.exec
  have hb := B.bytes
  have hr := B.returns
  have hlocks := B.notSynchronized
  have hown : s.vm.findClass RJ0 = some m.cls := findClass_of_methodNamed B.named
  have hts0 := atoms_spec (ws := wsOf (YJi 1 20)) B.pre
  have hts : ∀ w ∈ wAll, w.before _ s = true := fun w hw => hts0 w (List.mem_cons_of_mem _ hw)
  have hl := lv_entry [.ref (adK 0)] (n := 1) (Nat.le_of_ble_eq_true rfl)
  rw [lg_entry_eq]
  generalize (lg_sl [.ref (adK 0)] ++ List.replicate (1 - (lg_sl [.ref (adK 0)]).length) Slot.unset).toArray = ls at hl ⊢
  have hl : lv_has ls 1 [(0, .ref (adK 0))] := hl
  have hS : va_S (fun q => base ≤ q) s.heap s.heap [] := va_S.rf
  refine va_gets hx hb hZ hS hown (hts (.fieldLink RJ0 38 "java/lang/String" "COMPACT_STRINGS" "Z") (wIn 393 (by decide +kernel) (by decide +kernel))) (fun _ h => h) dJ0_isLatin1_aae02_0 ?_
  refine lv_if_eq (tgt := 17) hx hb dJ0_isLatin1_aae02_3 rfl (fun h => absurd h (by decide)) (fun _ => ?_)
  refine lv_aload_n hx hb dJ0_isLatin1_aae02_6 rfl (lv_at hl 0 rfl) ?_
  refine vk_getf hx hb (hE.1 0 (by decide)).2.1 hS hown (hts (.fieldLink RJ0 15 "java/lang/String" "coder" "B") (wIn 1279 (by decide +kernel) (by decide +kernel))) (fun _ h => h) dJ0_isLatin1_aae02_7 ?_
  refine lv_if_ne (tgt := 17) hx hb dJ0_isLatin1_aae02_10 rfl (fun h => absurd rfl h) (fun _ => ?_)
  refine lv_iconst (v := 1) hx hb dJ0_isLatin1_aae02_13 (by decide) ?_
  refine lv_goto (tgt := 18) hx hb dJ0_isLatin1_aae02_14 rfl ?_
  exact W.zret hx hb hr rfl (fun t ht _ => ⟨⟨1, (), rfl, rfl, trivial⟩, (va_S.rf (A := NoA)).F ht⟩) (fun q hq => by cases hq) dJ0_isLatin1_aae02_18 hlocks
theorem j_cod {adK adV : Nat → Nat} : Met l yJ0_coder_7d493 (wsOf (YJo 1 20)) (rmOf (YJo 1 20)) (va_Pc [.ref (adK 0)] (fun U => vk_S 1 [30] [wordsB] adK adV (fun q => base ≤ q) U U.heap ∧ va_Z "java/lang/String" "COMPACT_STRINGS" "Z" (.int 1) (fun q => base ≤ q) U U.heap)) (qS (fun r => r = 0)) 0 0 NoA := by
  refine Met.ofW (cc := cJ0_coder_7d493) (maxL := 1) (ret := some .byte) (by decide) rfl ?_
  intro p e s m args below meth c s₁ B hml hv
  obtain ⟨rfl, hE, hZ⟩ := hv
  have hx := B.exec
  have hb := B.bytes
  have hr := B.returns
  have hlocks := B.notSynchronized
  have hown : s.vm.findClass RJ0 = some m.cls := findClass_of_methodNamed B.named
  have hts0 := atoms_spec (ws := wsOf (YJo 1 20)) B.pre
  have hts : ∀ w ∈ wAll, w.before _ s = true := fun w hw => hts0 w (List.mem_cons_of_mem _ hw)
  have hl := lv_entry [.ref (adK 0)] (n := 1) (Nat.le_of_ble_eq_true rfl)
  rw [lg_entry_eq]
  generalize (lg_sl [.ref (adK 0)] ++ List.replicate (1 - (lg_sl [.ref (adK 0)]).length) Slot.unset).toArray = ls at hl ⊢
  have hl : lv_has ls 1 [(0, .ref (adK 0))] := hl
  have hS : va_S (fun q => base ≤ q) s.heap s.heap [] := va_S.rf
  refine va_gets hx hb hZ hS hown (hts (.fieldLink RJ0 38 "java/lang/String" "COMPACT_STRINGS" "Z") (wIn 393 (by decide +kernel) (by decide +kernel))) (fun _ h => h) dJ0_coder_7d493_0 ?_
  refine lv_if_eq (tgt := 13) hx hb dJ0_coder_7d493_3 rfl (fun h => absurd h (by decide)) (fun _ => ?_)
  refine lv_aload_n hx hb dJ0_coder_7d493_6 rfl (lv_at hl 0 rfl) ?_
  refine vk_getf hx hb (hE.1 0 (by decide)).2.1 hS hown (hts (.fieldLink RJ0 15 "java/lang/String" "coder" "B") (wIn 1279 (by decide +kernel) (by decide +kernel))) (fun _ h => h) dJ0_coder_7d493_7 ?_
  refine lv_goto (tgt := 14) hx hb dJ0_coder_7d493_10 rfl ?_
  exact W.zret hx hb hr rfl (fun t ht _ => ⟨⟨0, (), rfl, rfl, trivial⟩, (va_S.rf (A := NoA)).F ht⟩) (fun q hq => by cases hq) dJ0_coder_7d493_14 hlocks
theorem blindK {av : List Value} {adK adV : Nat → Nat} : FrameBlind (va_Pc av (fun U => vk_S 1 [30] [wordsB] adK adV (fun q => base ≤ q) U U.heap ∧ va_Z "java/lang/String" "COMPACT_STRINGS" "Z" (.int 1) (fun q => base ≤ q) U U.heap)) := fun a U g mk h => ⟨h.1, vk_S.moved (u := U) (U := U.calling g mk a) (Vm.Alike.refl U.vm) h.2.1, va_Z.moved (u := U) (U := U.calling g mk a) (Vm.Alike.refl U.vm) h.2.2⟩
theorem blindT2 {av : List Value} {v N : Nat} {f : Nat → Value} : FrameBlind (va_Pc av (fun U => SF base U ∧ va_T .byte v N f (fun q => base ≤ q) U U.heap)) := fun a U g mk h => ⟨h.1, SF.same (u := U) rfl rfl h.2.1, va_T.moved (u := U) (U := U.calling g mk a) (Vm.Alike.refl U.vm) h.2.2⟩
/-- what the call of charAt needs, and of length: the text's own cells -/
def JK (base : Nat) (adK adV : Nat → Nat) (U : State) : Prop := SF base U ∧ vk_S 1 [30] [wordsB] adK adV (fun q => base ≤ q) U U.heap ∧ va_Z "java/lang/String" "COMPACT_STRINGS" "Z" (.int 1) (fun q => base ≤ q) U U.heap
theorem blindJ {av : List Value} {adK adV : Nat → Nat} : FrameBlind (va_Pc av (JK base adK adV)) := fun a U g mk h => ⟨h.1, SF.same (u := U) rfl rfl h.2.1, vk_S.moved (u := U) (U := U.calling g mk a) (Vm.Alike.refl U.vm) h.2.2.1, va_Z.moved (u := U) (U := U.calling g mk a) (Vm.Alike.refl U.vm) h.2.2.2⟩
theorem j_cha {adK adV : Nat → Nat} {i : Int32} (hin : vp_in i 30) (x : Int32) (hxx : ((wordsB.getD i.toNatClampNeg 0 &&& 255).toUInt32 % 65536).toInt32 = x) (hnx : narrow .char (.int x) = .int x) : Met l yJ0_charAt_5068e (wsOf (YJa 4 120)) (rmOf (YJa 4 120)) (va_Pc [.ref (adK 0), .int i] (JK base adK adV)) (qS (fun r => r = x)) 0 0 NoA := by
  refine Met.ofW (cc := cJ0_charAt_5068e) (maxL := 2) (ret := some .char) (by decide) rfl ?_
  intro p e s m args below meth c s₁ B hml hv
  obtain ⟨rfl, hSF, hE, hZ⟩ := hv
  have hx := B.exec
  have hb := B.bytes
  have hr := B.returns
  have hlocks := B.notSynchronized
  have hown : s.vm.findClass RJ0 = some m.cls := findClass_of_methodNamed B.named
  have hts0 := atoms_spec (ws := wsOf (YJa 4 120)) B.pre
  have hts : ∀ w ∈ wAll, w.before _ s = true := fun w hw => hts0 w (List.mem_cons_of_mem _ hw)
  have hl := lv_entry [.ref (adK 0), .int i] (n := 2) (Nat.le_of_ble_eq_true rfl)
  rw [lg_entry_eq]
  generalize (lg_sl [.ref (adK 0), .int i] ++ List.replicate (2 - (lg_sl [.ref (adK 0), .int i]).length) Slot.unset).toArray = ls at hl ⊢
  have hl : lv_has ls 2 [(0, .ref (adK 0)), (1, .int i)] := hl
  have hS : va_S NoA s.heap s.heap [] := va_S.rf
  refine lv_aload_n hx hb dJ0_charAt_5068e_0 rfl (lv_at hl 0 rfl) ?_
  refine va_calli (A0 := NoA) (va_runV (C := RJ0) (nL := 2) (Ts := wAll) (As := []) (rest := []) (n := 0) (bytes := cJ0_isLatin1_aae02) (maxL := 1) (ret := some .boolean) ⟨hx, hb, hml, hown, hts⟩ (j_isl l base) ⟨callB_of 0 hts (goodIn_ws (Y := YJi 1 20) (wIn 392 (by decide +kernel) (by decide +kernel))) rfl rfl rfl (hts _ (wIn 12 (by decide +kernel) (by decide +kernel))) (hts (.methodLink RJ0 492 yJ0_isLatin1_aae02) (wIn 389 (by decide +kernel) (by decide +kernel))) (by decide +kernel) ⟨Nat.le_of_ble_eq_true rfl, Nat.le_of_ble_eq_true rfl⟩, hts _ (wIn 390 (by decide +kernel) (by decide +kernel)), hts _ (wIn 391 (by decide +kernel) (by decide +kernel))⟩ ⟨blindK base, vk_recv hE (by decide) (sNo hS), fun U hU hW => ⟨rfl, by rw [hU]; exact vk_S.moved hW.alike hE, by rw [hU]; exact va_Z.moved hW.alike hZ⟩⟩ rfl rfl hl.1 rfl (lv_room (Nat.le_of_ble_eq_true rfl)) dJ0_charAt_5068e_1 ⟨Nat.le_of_ble_eq_true rfl, Nat.le_of_ble_eq_true rfl⟩) hS (fun _ _ h => h) (fun _ h => h) (fun y u t H1 locs ht hvm hw _ hz1 hk1 hS => ?_)
  refine lv_if_eq (tgt := 16) hx hb dJ0_charAt_5068e_4 rfl (fun h => by rw [hw] at h; exact absurd h (by decide)) (fun _ => ?_)
  refine lv_aload_n hx hb dJ0_charAt_5068e_7 rfl (lv_at hl 0 rfl) ?_
  refine vk_getf hx hb (hE.1 0 (by decide)).2.2.1 (sNo hS) hown (hts (.fieldLink RJ0 9 "java/lang/String" "value" "[B") (wIn 1280 (by decide +kernel) (by decide +kernel))) (fun _ h => h) dJ0_charAt_5068e_8 ?_
  refine lv_iload_n hx hb dJ0_charAt_5068e_11 rfl (lv_at hl 1 rfl) ?_
  refine va_calli (A0 := NoA) (va_runS (nL := 2) (Ts := wAll) (As := [.ref (adV 0), .int i]) (rest := []) (n := 2) (bytes := cJ1_charAt_3b067) (maxL := 2) (ret := some .char) ⟨hx, hb, hml, hown, hts⟩ (j_lat l base (f := fun j => wordsB.getD j 0) (N := 30) hin (by decide) x hxx hnx) ⟨callB_of 2 hts (goodIn_ws (Y := YJl 3 80) (wIn 397 (by decide +kernel) (by decide +kernel))) rfl rfl rfl (hts _ (wIn 13 (by decide +kernel) (by decide +kernel))) (hts (.methodLink RJ0 495 yJ1_charAt_3b067) (wIn 395 (by decide +kernel) (by decide +kernel))) (by decide +kernel) ⟨Nat.le_of_ble_eq_true rfl, Nat.le_of_ble_eq_true rfl⟩, hts (.static yJ1_charAt_3b067) (wIn 396 (by decide +kernel) (by decide +kernel))⟩ ⟨blindT2 base, fun U hU hW => ⟨rfl, hSF.keep hW (fun q h1 _ => by rw [hU]; exact hS.2.1 q h1 id), va_T.moved hW.alike (va_T.kept (hE.1 0 (by decide)).2.2.2 (fun q h1 _ => by rw [hU]; exact hS.2.1 q h1 id))⟩⟩ rfl rfl hl.1 rfl (lv_room (Nat.le_of_ble_eq_true rfl)) dJ0_charAt_5068e_12 ⟨Nat.le_of_ble_eq_true rfl, Nat.le_of_ble_eq_true rfl⟩) hS (fun _ _ h => h) (fun _ h => h) (fun y2 u t H2 locs ht hvm hw2 _ hz2 hk2 hS => ?_)
  subst hw2
  exact W.zret hx hb hr hnx (fun t ht _ => ⟨⟨y2, (), rfl, rfl, trivial⟩, hS.F ht⟩) (fun q hq => hS.2.2 q hq) dJ0_charAt_5068e_15 hlocks
theorem j_len {adK adV : Nat → Nat} : Met l yJ0_length_8abf5 (wsOf (YJn 2 60)) (rmOf (YJn 2 60)) (va_Pc [.ref (adK 0)] (JK base adK adV)) (qS (fun r => r = 30)) 0 0 NoA := by
  refine Met.ofW (cc := cJ0_length_8abf5) (maxL := 1) (ret := some .int) (by decide) rfl ?_
  intro p e s m args below meth c s₁ B hml hv
  obtain ⟨rfl, hSF, hE, hZ⟩ := hv
  have hx := B.exec
  have hb := B.bytes
  have hr := B.returns
  have hlocks := B.notSynchronized
  have hown : s.vm.findClass RJ0 = some m.cls := findClass_of_methodNamed B.named
  have hts0 := atoms_spec (ws := wsOf (YJn 2 60)) B.pre
  have hts : ∀ w ∈ wAll, w.before _ s = true := fun w hw => hts0 w (List.mem_cons_of_mem _ hw)
  have hl := lv_entry [.ref (adK 0)] (n := 1) (Nat.le_of_ble_eq_true rfl)
  rw [lg_entry_eq]
  generalize (lg_sl [.ref (adK 0)] ++ List.replicate (1 - (lg_sl [.ref (adK 0)]).length) Slot.unset).toArray = ls at hl ⊢
  have hl : lv_has ls 1 [(0, .ref (adK 0))] := hl
  have hS : va_S NoA s.heap s.heap [] := va_S.rf
  refine lv_aload_n hx hb dJ0_length_8abf5_0 rfl (lv_at hl 0 rfl) ?_
  refine vk_getf hx hb (hE.1 0 (by decide)).2.2.1 (sNo hS) hown (hts (.fieldLink RJ0 9 "java/lang/String" "value" "[B") (wIn 1280 (by decide +kernel) (by decide +kernel))) (fun _ h => h) dJ0_length_8abf5_1 ?_
  refine va_tlen hx hb (hE.1 0 (by decide)).2.2.2 (sNo hS) (v := 30) rfl dJ0_length_8abf5_4 ?_
  refine lv_aload_n hx hb dJ0_length_8abf5_5 rfl (lv_at hl 0 rfl) ?_
  refine va_calli (A0 := NoA) (va_runV (C := RJ0) (nL := 1) (Ts := wAll) (As := []) (rest := [.int 30]) (n := 0) (bytes := cJ0_coder_7d493) (maxL := 1) (ret := some .byte) ⟨hx, hb, hml, hown, hts⟩ (j_cod l base) ⟨callB_of 0 hts (goodIn_ws (Y := YJo 1 20) (wIn 432 (by decide +kernel) (by decide +kernel))) rfl rfl rfl (hts _ (wIn 12 (by decide +kernel) (by decide +kernel))) (hts (.methodLink RJ0 335 yJ0_coder_7d493) (wIn 429 (by decide +kernel) (by decide +kernel))) (by decide +kernel) ⟨Nat.le_of_ble_eq_true rfl, Nat.le_of_ble_eq_true rfl⟩, hts _ (wIn 430 (by decide +kernel) (by decide +kernel)), hts _ (wIn 431 (by decide +kernel) (by decide +kernel))⟩ ⟨blindK base, vk_recv hE (by decide) (sNo hS), fun U hU hW => ⟨rfl, by rw [hU]; exact vk_S.moved hW.alike hE, by rw [hU]; exact va_Z.moved hW.alike hZ⟩⟩ rfl rfl hl.1 rfl (lv_room (Nat.le_of_ble_eq_true rfl)) dJ0_length_8abf5_6 ⟨Nat.le_of_ble_eq_true rfl, Nat.le_of_ble_eq_true rfl⟩) hS (fun _ _ h => h) (fun _ h => h) (fun y u t H1 locs ht hvm hw _ hz1 hk1 hS => ?_)
  subst hw
  refine lv_ishr hx hb dJ0_length_8abf5_9 ?_
  exact W.iret (v := 30) hx hb hr (fun t ht _ => ⟨⟨30, (), rfl, rfl, trivial⟩, hS.F ht⟩) (fun q hq => hS.2.2 q hq) dJ0_length_8abf5_10 hlocks
end JD
theorem w_ch : ∀ k, k < 30 → ((wordsB.getD k 0 &&& 255).toUInt32 % 65536).toInt32 = Int32.ofInt (wordsI.getD k 0) := by decide +kernel
theorem w_nr : ∀ k, k < 30 → narrow .char (.int (Int32.ofInt (wordsI.getD k 0))) = .int (Int32.ofInt (wordsI.getD k 0)) := by decide +kernel
theorem w_in : ∀ k, k < 30 → (-2147483648 ≤ wordsI.getD k 0 ∧ wordsI.getD k 0 < 2147483648) := by decide +kernel
theorem w_s3 : ∀ k, k < 3 → (([20, 10, 8] : List Int32).getD k 0 = Int32.ofInt (([20, 10, 8] : List Int).getD k 0) ∧ -2147483648 ≤ ([20, 10, 8] : List Int).getD k 0 ∧ ([20, 10, 8] : List Int).getD k 0 < 2147483648) := by decide +kernel
theorem w_s7 : ∀ k, k < 7 → (([0, 4, 8, 12, 16, 21, 25] : List Int32).getD k 0 = Int32.ofInt (([0, 4, 8, 12, 16, 21, 25] : List Int).getD k 0) ∧ -2147483648 ≤ ([0, 4, 8, 12, 16, 21, 25] : List Int).getD k 0 ∧ ([0, 4, 8, 12, 16, 21, 25] : List Int).getD k 0 < 2147483648) := by decide +kernel
theorem w_s7n : ∀ k, k < 7 → (([0, 4, 8, 12, 16, 21, 25] : List Int32).getD k 0 = Int32.ofInt ((([0, 4, 8, 12, 16, 21, 25] : List Nat).getD k 0 : Nat) : Int) ∧ ([0, 4, 8, 12, 16, 21, 25] : List Nat).getD k 0 < 30) := by decide +kernel
section TXT
variable {d pc : Nat}
theorem F_lim (M : MI) {ix : Nat} {f : Fin 4} (hM : M.2.2.1 = RX3) (hl : Cond.fieldLinkNest RX3 ix "RingUntie" "LIMITS" "[I" "RingUntie" ∈ wNest) (D1 : decode M.1 pc = .ok (.getstatic ix, 3)) (i : Nat) (hf : (f : Nat) = i) (D2 : decode M.1 (pc + 3) = .ok (.iload_n f, 1)) (D3 : decode M.1 (pc + 3 + 1) = .ok (.iaload, 1)) : FV vI M pc (pc + 3 + 1 + 1) d 0 0 (e_lim i) := fun X ok K env stk st bc bs hs h kk => by
  obtain ⟨p, l, e, R, s, m, args, below, meth, c0, Q, nL, base, D, cI, cZ, cP, ads0⟩ := X
  obtain ⟨hx, hb, hml, hnL, hown, hts, hK, hbase, hfr, hlo, hmn, hSF, hEx⟩ := ok
  obtain ⟨x, he, h0, h3, hKx⟩ := h
  have hlk := va_Nw.use (A := args) rfl (hSF.nest hl)
  obtain ⟨tL, tW, adK, adV, hZ, hT, -⟩ := hSF
  intro ads H locs ls cells slots hcl hsl hH hlo2 hen hk
  have hi : inR x := okL_at hen he
  have hw := w_s3 x.toNat (by omega)
  rw [hM] at hown
  refine va_getsN hx hb hZ hH.2.2.2.2.1 hown hlk (fun _ h => h) D1 ?_
  refine lv_iload_n hx hb D2 hf (hlo2.2.2.2 i _ he (vI_U x)) ?_
  refine va_ti hx hb hT hH.2.2.2.2.1 (ixIn hi h0 (by omega)) (v := .int (Int32.ofInt (([20, 10, 8] : List Int).getD x.toNat 0))) (by show Value.int _ = _; rw [ixN hi, hw.1]) D3 ?_
  exact kk _ _ hKx ads H locs ls cells slots (by omega) (by omega) hH hlo2 hen (okL_cons.mpr ⟨hw.2, hk⟩)
theorem F_wds (M : MI) {ix : Nat} {f : Fin 4} (hM : M.2.2.1 = RX5) (hl : Cond.fieldLinkNest RX5 ix "RingUntie" "WORD_STARTS" "[I" "RingUntie" ∈ wNest) (D1 : decode M.1 pc = .ok (.getstatic ix, 3)) (i : Nat) (hf : (f : Nat) = i) (D2 : decode M.1 (pc + 3) = .ok (.iload_n f, 1)) (D3 : decode M.1 (pc + 3 + 1) = .ok (.iaload, 1)) : FV vI M pc (pc + 3 + 1 + 1) d 0 0 (e_wds i) := fun X ok K env stk st bc bs hs h kk => by
  obtain ⟨p, l, e, R, s, m, args, below, meth, c0, Q, nL, base, D, cI, cZ, cP, ads0⟩ := X
  obtain ⟨hx, hb, hml, hnL, hown, hts, hK, hbase, hfr, hlo, hmn, hSF, hEx⟩ := ok
  obtain ⟨x, he, h0, h3, hKx⟩ := h
  have hlk := va_Nw.use (A := args) rfl (hSF.nest hl)
  obtain ⟨tL, tW, adK, adV, -, -, hZ, hT, -⟩ := hSF
  intro ads H locs ls cells slots hcl hsl hH hlo2 hen hk
  have hi : inR x := okL_at hen he
  have hw := w_s7 x.toNat (by omega)
  rw [hM] at hown
  refine va_getsN hx hb hZ hH.2.2.2.2.1 hown hlk (fun _ h => h) D1 ?_
  refine lv_iload_n hx hb D2 hf (hlo2.2.2.2 i _ he (vI_U x)) ?_
  refine va_ti hx hb hT hH.2.2.2.2.1 (ixIn hi h0 (by omega)) (v := .int (Int32.ofInt (([0, 4, 8, 12, 16, 21, 25] : List Int).getD x.toNat 0))) (by show Value.int _ = _; rw [ixN hi, hw.1]) D3 ?_
  exact kk _ _ hKx ads H locs ls cells slots (by omega) (by omega) hH hlo2 hen (okL_cons.mpr ⟨hw.2, hk⟩)
/-- behind a call that leaves all as it is -/
theorem xH_still {base : Nat} {D : va_G} {cI cZ cP : ClassId} {ads0 ads : List Nat} {H0 H H1 : Heap} {st : XS} {locs locs1 : List Loc} (hH : xH base D cI cZ cP ads0 H0 ads st H locs) (hk : ∀ q : Nat, q < H.size → ¬ NoA q → H1[q]? = H[q]?) (hS : va_S (fun q => base ≤ q) H0 H1 locs1) : xH base D cI cZ cP ads0 H0 ads st H1 locs1 :=
  ⟨hH.1, hH.2.1, hH.2.2.1.kept (fun k q hq => hk q.1 ((hH.2.2.1 k q hq).lt) id), hH.2.2.2.1, hS, hH.2.2.2.2.2⟩
theorem JK_of {base : Nat} {adK adV : Nat → Nat} {s U : State} {H : Heap} {locs : List Loc} (hU : U.heap = H) (hW : s.WarmedH U.vm) (hS : va_S (fun q => base ≤ q) s.heap H locs) (hSF : SF base s) (hE : vk_S 1 [30] [wordsB] adK adV (fun q => base ≤ q) s s.heap) (hZ : va_Z "java/lang/String" "COMPACT_STRINGS" "Z" (.int 1) (fun q => base ≤ q) s s.heap) : JK base adK adV U :=
  ⟨hSF.keep hW (fun q h1 h2 => by rw [hU]; exact hS.2.1 q h1 h2), vk_S.moved hW.alike (hE.kept (fun q h1 h2 => by rw [hU]; exact hS.2.1 q h1 h2)), va_Z.moved hW.alike (hZ.kept (fun q h1 h2 => by rw [hU]; exact hS.2.1 q h1 h2))⟩
theorem F_wch (M : MI) {ix : Nat} {f : Fin 4} (hM : M.2.2.1 = RX5) (D1 : decode M.1 pc = .ok (.ldc 51, 2)) (i : Nat) (hf : (f : Nat) = i) (D2 : decode M.1 (pc + 2) = .ok (.iload_n f, 1)) (D3 : decode M.1 (pc + 2 + 1) = .ok (.invokevirtual ix, 3)) (hl : Cond.methodLink RX5 ix ⟨"java/lang/String", "charAt", "(I)C"⟩ ∈ wAll) (hfr1 : 5 ≤ M.2.2.2.2.1) (hlo1 : 200 ≤ M.2.2.2.2.2.1) (hd : d ≤ 8) : FV vI M pc (pc + 2 + 1 + 3) d 0 0 (e_wch i) := fun X ok K env stk st bc bs hs h kk => by
  obtain ⟨p, l, e, R, s, m, args, below, meth, c0, Q, nL, base, D, cI, cZ, cP, ads0⟩ := X
  obtain ⟨hx, hb, hml, hnL, hown, hts, hK, hbase, hfr, hlo, hmn, hSF, hEx⟩ := ok
  obtain ⟨x, he, h0, h3, hKx⟩ := h
  have hSF0 := hSF
  obtain ⟨tL, tW, adK, adV, -, -, -, -, hE, hR, hZ, -⟩ := hSF
  intro ads H locs ls cells slots hcl hsl hH hlo2 hen hk
  have hi : inR x := okL_at hen he
  have hn : x.toNat < 30 := by omega
  rw [hM] at hown
  have hown : s.vm.findClass "RingUntie$Tape" = some m.cls := hown
  refine va_ldcS hx hb hown hR D1 ?_
  refine lv_iload_n hx hb D2 hf (hlo2.2.2.2 i _ he (vI_U x)) ?_
  refine va_calli (A0 := fun q => base ≤ q) (va_runV (C := RJ0) (y := yJ0_charAt_5068e) (nL := nL) (Ts := wAll) (As := [.int (Int32.ofInt x)]) (rest := stk.map (cv ads)) (n := 1) (bytes := cJ0_charAt_5068e) (maxL := 2) (ret := some .char) (own := "RingUntie$Tape") ⟨hx, hb, by rw [hml, hnL], hown, hts⟩ (j_cha l base (adK := adK) (adV := adV) (ixIn hi h0 (by omega)) (Int32.ofInt (wordsI.getD x.toNat 0)) (by rw [ixN hi]; exact w_ch _ hn) (w_nr _ hn)) ⟨callB_of 1 hts (goodIn_ws (Y := YJa 4 120) (wIn 388 (by decide +kernel) (by decide +kernel))) rfl rfl rfl (hts _ (wIn 12 (by decide +kernel) (by decide +kernel))) (hts _ hl) (by decide +kernel) ⟨by show 4 + 1 ≤ R.frames; omega, by show 8 + (2 + 11) + 120 ≤ R.locals; omega⟩, hts _ (wIn 386 (by decide +kernel) (by decide +kernel)), hts _ (wIn 387 (by decide +kernel) (by decide +kernel))⟩ ⟨blindJ base, vk_recv hE (by decide) hH.2.2.2.2.1, fun U hU hW => ⟨rfl, JK_of hU hW hH.2.2.2.2.1 hSF0 hE hZ⟩⟩ rfl rfl hlo2.1 rfl (catS_map (by omega)) D3 ⟨by omega, by omega⟩) hH.2.2.2.2.1 (fun _ _ h => h.elim) (fun _ h => h.elim) (fun r u t H1 locs1 ht hvm hw _ hz1 hk1 hS1 => ?_)
  subst hw
  exact kk _ _ hKx ads H1 locs1 ls _ _ (by omega) (by omega) (xH_still hH hk1 hS1) hlo2 hen (okL_cons.mpr ⟨w_in _ hn, hk⟩)
theorem F_wst (M : MI) {ix jx : Nat} {f : Fin 4} (hM : M.2.2.1 = RX5) (D1 : decode M.1 pc = .ok (.ldc 51, 2)) (hl : Cond.fieldLinkNest RX5 ix "RingUntie" "WORD_STARTS" "[I" "RingUntie" ∈ wNest) (D2 : decode M.1 (pc + 2) = .ok (.getstatic ix, 3)) (i : Nat) (hf : (f : Nat) = i) (D3 : decode M.1 (pc + 2 + 3) = .ok (.iload_n f, 1)) (D4 : decode M.1 (pc + 2 + 3 + 1) = .ok (.iaload, 1)) (D5 : decode M.1 (pc + 2 + 3 + 1 + 1) = .ok (.invokevirtual jx, 3)) (hl2 : Cond.methodLink RX5 jx ⟨"java/lang/String", "charAt", "(I)C"⟩ ∈ wAll) (hfr1 : 5 ≤ M.2.2.2.2.1) (hlo1 : 200 ≤ M.2.2.2.2.2.1) (hd : d ≤ 8) : FV vI M pc (pc + 2 + 3 + 1 + 1 + 3) d 0 0 (e_wst i) := fun X ok K env stk st bc bs hs h kk => by
  obtain ⟨p, l, e, R, s, m, args, below, meth, c0, Q, nL, base, D, cI, cZ, cP, ads0⟩ := X
  obtain ⟨hx, hb, hml, hnL, hown, hts, hK, hbase, hfr, hlo, hmn, hSF, hEx⟩ := ok
  obtain ⟨x, he, h0, h3, hKx⟩ := h
  have hSF0 := hSF
  have hlk := va_Nw.use (A := args) rfl (hSF.nest hl)
  obtain ⟨tL, tW, adK, adV, -, -, hZ7, hT7, hE, hR, hZ, -⟩ := hSF
  intro ads H locs ls cells slots hcl hsl hH hlo2 hen hk
  have hi : inR x := okL_at hen he
  obtain ⟨hw7, hn⟩ := w_s7n x.toNat (by omega)
  generalize hq : ([0, 4, 8, 12, 16, 21, 25] : List Nat).getD x.toNat 0 = q at hw7 hn hKx
  have hqi : inR (q : Int) := ⟨by omega, by omega⟩
  rw [hM] at hown
  have hown : s.vm.findClass "RingUntie$Tape" = some m.cls := hown
  refine va_ldcS hx hb hown hR D1 ?_
  refine va_getsN hx hb hZ7 hH.2.2.2.2.1 hown hlk (fun _ h => h) D2 ?_
  refine lv_iload_n hx hb D3 hf (hlo2.2.2.2 i _ he (vI_U x)) ?_
  refine va_ti hx hb hT7 hH.2.2.2.2.1 (ixIn hi h0 (by omega)) (v := .int (Int32.ofInt (q : Int))) (by show Value.int _ = _; rw [ixN hi, hw7]) D4 ?_
  refine va_calli (A0 := fun q => base ≤ q) (va_runV (C := RJ0) (y := yJ0_charAt_5068e) (nL := nL) (Ts := wAll) (As := [.int (Int32.ofInt (q : Int))]) (rest := stk.map (cv ads)) (n := 1) (bytes := cJ0_charAt_5068e) (maxL := 2) (ret := some .char) (own := "RingUntie$Tape") ⟨hx, hb, by rw [hml, hnL], hown, hts⟩ (j_cha l base (adK := adK) (adV := adV) (ixIn hqi (by omega) (by omega)) (Int32.ofInt (wordsI.getD q 0)) (by rw [ixN hqi]; exact w_ch _ hn) (w_nr _ hn)) ⟨callB_of 1 hts (goodIn_ws (Y := YJa 4 120) (wIn 388 (by decide +kernel) (by decide +kernel))) rfl rfl rfl (hts _ (wIn 12 (by decide +kernel) (by decide +kernel))) (hts _ hl2) (by decide +kernel) ⟨by show 4 + 1 ≤ R.frames; omega, by show 8 + (2 + 11) + 120 ≤ R.locals; omega⟩, hts _ (wIn 386 (by decide +kernel) (by decide +kernel)), hts _ (wIn 387 (by decide +kernel) (by decide +kernel))⟩ ⟨blindJ base, vk_recv hE (by decide) hH.2.2.2.2.1, fun U hU hW => ⟨rfl, JK_of hU hW hH.2.2.2.2.1 hSF0 hE hZ⟩⟩ rfl rfl hlo2.1 rfl (catS_map (by omega)) D5 ⟨by omega, by omega⟩) hH.2.2.2.2.1 (fun _ _ h => h.elim) (fun _ h => h.elim) (fun r u t H1 locs1 ht hvm hw _ hz1 hk1 hS1 => ?_)
  subst hw
  exact kk _ _ hKx ads H1 locs1 ls _ _ (by omega) (by omega) (xH_still hH hk1 hS1) hlo2 hen (okL_cons.mpr ⟨w_in _ hn, hk⟩)
theorem F_wlen (M : MI) {ix : Nat} (hM : M.2.2.1 = RX5) (D1 : decode M.1 pc = .ok (.ldc 51, 2)) (D3 : decode M.1 (pc + 2) = .ok (.invokevirtual ix, 3)) (hl : Cond.methodLink RX5 ix ⟨"java/lang/String", "length", "()I"⟩ ∈ wAll) (hfr1 : 5 ≤ M.2.2.2.2.1) (hlo1 : 200 ≤ M.2.2.2.2.2.1) (hd : d ≤ 8) : FV vI M pc (pc + 2 + 3) d 0 0 (e_ci 30) := fun X ok K env stk st bc bs hs h kk => by
  obtain ⟨p, l, e, R, s, m, args, below, meth, c0, Q, nL, base, D, cI, cZ, cP, ads0⟩ := X
  obtain ⟨hx, hb, hml, hnL, hown, hts, hK, hbase, hfr, hlo, hmn, hSF, hEx⟩ := ok
  have hSF0 := hSF
  obtain ⟨tL, tW, adK, adV, -, -, -, -, hE, hR, hZ, -⟩ := hSF
  intro ads H locs ls cells slots hcl hsl hH hlo2 hen hk
  rw [hM] at hown
  have hown : s.vm.findClass "RingUntie$Tape" = some m.cls := hown
  refine va_ldcS hx hb hown hR D1 ?_
  refine va_calli (A0 := fun q => base ≤ q) (va_runV (C := RJ0) (y := yJ0_length_8abf5) (nL := nL) (Ts := wAll) (As := []) (rest := stk.map (cv ads)) (n := 0) (bytes := cJ0_length_8abf5) (maxL := 1) (ret := some .int) (own := "RingUntie$Tape") ⟨hx, hb, by rw [hml, hnL], hown, hts⟩ (j_len l base (adK := adK) (adV := adV)) ⟨callB_of 0 hts (goodIn_ws (Y := YJn 2 60) (wIn 428 (by decide +kernel) (by decide +kernel))) rfl rfl rfl (hts _ (wIn 12 (by decide +kernel) (by decide +kernel))) (hts _ hl) (by decide +kernel) ⟨by show 2 + 1 ≤ R.frames; omega, by show 8 + (1 + 11) + 60 ≤ R.locals; omega⟩, hts _ (wIn 426 (by decide +kernel) (by decide +kernel)), hts _ (wIn 427 (by decide +kernel) (by decide +kernel))⟩ ⟨blindJ base, vk_recv hE (by decide) hH.2.2.2.2.1, fun U hU hW => ⟨rfl, JK_of hU hW hH.2.2.2.2.1 hSF0 hE hZ⟩⟩ rfl rfl hlo2.1 rfl (catS_map (by omega)) D3 ⟨by omega, by omega⟩) hH.2.2.2.2.1 (fun _ _ h => h.elim) (fun _ h => h.elim) (fun r u t H1 locs1 ht hvm hw _ hz1 hk1 hS1 => ?_)
  subst hw
  exact kk _ _ h ads H1 locs1 ls _ _ (by omega) (by omega) (xH_still hH hk1 hS1) hlo2 hen (okL_cons.mpr ⟨⟨by decide, by decide⟩, hk⟩)
end TXT
