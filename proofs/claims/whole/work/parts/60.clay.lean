/-! deps: 30.tool 30.toolb 30.toolc 31.lay -/
/-! where the class's cells lie -/
def crefs : List (Nat × Nat × Nat) := [(0, 2, 19), (0, 3, 21), (0, 4, 25), (0, 5, 27), (0, 6, 37), (0, 7, 47), (0, 8, 54), (0, 9, 62), (19, 0, 20), (21, 0, 22), (21, 4, 23), (21, 5, 24), (25, 0, 26), (27, 0, 28), (27, 1, 29), (27, 2, 30), (27, 3, 31), (31, 1, 32), (31, 2, 33), (31, 3, 34), (31, 4, 35), (31, 5, 36), (37, 0, 38), (37, 1, 39), (37, 2, 40), (37, 3, 41), (41, 1, 42), (41, 2, 43), (41, 3, 44), (41, 4, 45), (41, 5, 46), (47, 1, 48), (47, 2, 49), (47, 3, 50), (47, 4, 51), (47, 5, 52), (47, 6, 53), (54, 0, 55), (54, 1, 56), (56, 1, 57), (56, 2, 58), (56, 3, 59), (56, 4, 60), (56, 5, 61)]
def isCls (kd : List (Nat × Nat)) (R : Nat → Nat → Option Nat) : Prop := (∀ a, a < 98 → kd[a]? = kd0[a]?) ∧ ∀ q ∈ crefs, R q.1 q.2.1 = some q.2.2
section CF
variable {kd : List (Nat × Nat)} {R : Nat → Nat → Option Nat}
theorem cR_0_2 (C : isCls kd R) : R 0 2 = some 19 := C.2 (0, 2, 19) (by decide)
theorem cR_0_3 (C : isCls kd R) : R 0 3 = some 21 := C.2 (0, 3, 21) (by decide)
theorem cR_0_4 (C : isCls kd R) : R 0 4 = some 25 := C.2 (0, 4, 25) (by decide)
theorem cR_0_5 (C : isCls kd R) : R 0 5 = some 27 := C.2 (0, 5, 27) (by decide)
theorem cR_0_6 (C : isCls kd R) : R 0 6 = some 37 := C.2 (0, 6, 37) (by decide)
theorem cR_0_7 (C : isCls kd R) : R 0 7 = some 47 := C.2 (0, 7, 47) (by decide)
theorem cR_0_8 (C : isCls kd R) : R 0 8 = some 54 := C.2 (0, 8, 54) (by decide)
theorem cR_0_9 (C : isCls kd R) : R 0 9 = some 62 := C.2 (0, 9, 62) (by decide)
theorem cR_19_0 (C : isCls kd R) : R 19 0 = some 20 := C.2 (19, 0, 20) (by decide)
theorem cR_21_0 (C : isCls kd R) : R 21 0 = some 22 := C.2 (21, 0, 22) (by decide)
theorem cR_21_4 (C : isCls kd R) : R 21 4 = some 23 := C.2 (21, 4, 23) (by decide)
theorem cR_21_5 (C : isCls kd R) : R 21 5 = some 24 := C.2 (21, 5, 24) (by decide)
theorem cR_25_0 (C : isCls kd R) : R 25 0 = some 26 := C.2 (25, 0, 26) (by decide)
theorem cR_27_0 (C : isCls kd R) : R 27 0 = some 28 := C.2 (27, 0, 28) (by decide)
theorem cR_27_1 (C : isCls kd R) : R 27 1 = some 29 := C.2 (27, 1, 29) (by decide)
theorem cR_27_2 (C : isCls kd R) : R 27 2 = some 30 := C.2 (27, 2, 30) (by decide)
theorem cR_27_3 (C : isCls kd R) : R 27 3 = some 31 := C.2 (27, 3, 31) (by decide)
theorem cR_31_1 (C : isCls kd R) : R 31 1 = some 32 := C.2 (31, 1, 32) (by decide)
theorem cR_31_2 (C : isCls kd R) : R 31 2 = some 33 := C.2 (31, 2, 33) (by decide)
theorem cR_31_3 (C : isCls kd R) : R 31 3 = some 34 := C.2 (31, 3, 34) (by decide)
theorem cR_31_4 (C : isCls kd R) : R 31 4 = some 35 := C.2 (31, 4, 35) (by decide)
theorem cR_31_5 (C : isCls kd R) : R 31 5 = some 36 := C.2 (31, 5, 36) (by decide)
theorem cR_37_0 (C : isCls kd R) : R 37 0 = some 38 := C.2 (37, 0, 38) (by decide)
theorem cR_37_1 (C : isCls kd R) : R 37 1 = some 39 := C.2 (37, 1, 39) (by decide)
theorem cR_37_2 (C : isCls kd R) : R 37 2 = some 40 := C.2 (37, 2, 40) (by decide)
theorem cR_37_3 (C : isCls kd R) : R 37 3 = some 41 := C.2 (37, 3, 41) (by decide)
theorem cR_41_1 (C : isCls kd R) : R 41 1 = some 42 := C.2 (41, 1, 42) (by decide)
theorem cR_41_2 (C : isCls kd R) : R 41 2 = some 43 := C.2 (41, 2, 43) (by decide)
theorem cR_41_3 (C : isCls kd R) : R 41 3 = some 44 := C.2 (41, 3, 44) (by decide)
theorem cR_41_4 (C : isCls kd R) : R 41 4 = some 45 := C.2 (41, 4, 45) (by decide)
theorem cR_41_5 (C : isCls kd R) : R 41 5 = some 46 := C.2 (41, 5, 46) (by decide)
theorem cR_47_1 (C : isCls kd R) : R 47 1 = some 48 := C.2 (47, 1, 48) (by decide)
theorem cR_47_2 (C : isCls kd R) : R 47 2 = some 49 := C.2 (47, 2, 49) (by decide)
theorem cR_47_3 (C : isCls kd R) : R 47 3 = some 50 := C.2 (47, 3, 50) (by decide)
theorem cR_47_4 (C : isCls kd R) : R 47 4 = some 51 := C.2 (47, 4, 51) (by decide)
theorem cR_47_5 (C : isCls kd R) : R 47 5 = some 52 := C.2 (47, 5, 52) (by decide)
theorem cR_47_6 (C : isCls kd R) : R 47 6 = some 53 := C.2 (47, 6, 53) (by decide)
theorem cR_54_0 (C : isCls kd R) : R 54 0 = some 55 := C.2 (54, 0, 55) (by decide)
theorem cR_54_1 (C : isCls kd R) : R 54 1 = some 56 := C.2 (54, 1, 56) (by decide)
theorem cR_56_1 (C : isCls kd R) : R 56 1 = some 57 := C.2 (56, 1, 57) (by decide)
theorem cR_56_2 (C : isCls kd R) : R 56 2 = some 58 := C.2 (56, 2, 58) (by decide)
theorem cR_56_3 (C : isCls kd R) : R 56 3 = some 59 := C.2 (56, 3, 59) (by decide)
theorem cR_56_4 (C : isCls kd R) : R 56 4 = some 60 := C.2 (56, 4, 60) (by decide)
theorem cR_56_5 (C : isCls kd R) : R 56 5 = some 61 := C.2 (56, 5, 61) (by decide)
theorem cK_0 (C : isCls kd R) : kd[0]? = some (11, 0) := C.1 0 (by decide)
theorem cK_19 (C : isCls kd R) : kd[19]? = some (5, 0) := C.1 19 (by decide)
theorem cK_20 (C : isCls kd R) : kd[20]? = some (2, 20) := C.1 20 (by decide)
theorem cK_21 (C : isCls kd R) : kd[21]? = some (8, 0) := C.1 21 (by decide)
theorem cK_22 (C : isCls kd R) : kd[22]? = some (0, 120) := C.1 22 (by decide)
theorem cK_23 (C : isCls kd R) : kd[23]? = some (0, 10) := C.1 23 (by decide)
theorem cK_24 (C : isCls kd R) : kd[24]? = some (0, 10) := C.1 24 (by decide)
theorem cK_25 (C : isCls kd R) : kd[25]? = some (7, 0) := C.1 25 (by decide)
theorem cK_26 (C : isCls kd R) : kd[26]? = some (0, 10) := C.1 26 (by decide)
theorem cK_27 (C : isCls kd R) : kd[27]? = some (9, 0) := C.1 27 (by decide)
theorem cK_28 (C : isCls kd R) : kd[28]? = some (0, 100) := C.1 28 (by decide)
theorem cK_29 (C : isCls kd R) : kd[29]? = some (0, 100) := C.1 29 (by decide)
theorem cK_30 (C : isCls kd R) : kd[30]? = some (0, 10) := C.1 30 (by decide)
theorem cK_31 (C : isCls kd R) : kd[31]? = some (10, 0) := C.1 31 (by decide)
theorem cK_32 (C : isCls kd R) : kd[32]? = some (0, 10) := C.1 32 (by decide)
theorem cK_33 (C : isCls kd R) : kd[33]? = some (0, 10) := C.1 33 (by decide)
theorem cK_34 (C : isCls kd R) : kd[34]? = some (0, 10) := C.1 34 (by decide)
theorem cK_35 (C : isCls kd R) : kd[35]? = some (0, 10) := C.1 35 (by decide)
theorem cK_36 (C : isCls kd R) : kd[36]? = some (0, 10) := C.1 36 (by decide)
theorem cK_37 (C : isCls kd R) : kd[37]? = some (9, 0) := C.1 37 (by decide)
theorem cK_38 (C : isCls kd R) : kd[38]? = some (0, 100) := C.1 38 (by decide)
theorem cK_39 (C : isCls kd R) : kd[39]? = some (0, 100) := C.1 39 (by decide)
theorem cK_40 (C : isCls kd R) : kd[40]? = some (0, 10) := C.1 40 (by decide)
theorem cK_41 (C : isCls kd R) : kd[41]? = some (10, 0) := C.1 41 (by decide)
theorem cK_42 (C : isCls kd R) : kd[42]? = some (0, 10) := C.1 42 (by decide)
theorem cK_43 (C : isCls kd R) : kd[43]? = some (0, 10) := C.1 43 (by decide)
theorem cK_44 (C : isCls kd R) : kd[44]? = some (0, 10) := C.1 44 (by decide)
theorem cK_45 (C : isCls kd R) : kd[45]? = some (0, 10) := C.1 45 (by decide)
theorem cK_46 (C : isCls kd R) : kd[46]? = some (0, 10) := C.1 46 (by decide)
theorem cK_47 (C : isCls kd R) : kd[47]? = some (4, 0) := C.1 47 (by decide)
theorem cK_48 (C : isCls kd R) : kd[48]? = some (0, 100) := C.1 48 (by decide)
theorem cK_49 (C : isCls kd R) : kd[49]? = some (0, 1024) := C.1 49 (by decide)
theorem cK_50 (C : isCls kd R) : kd[50]? = some (0, 320) := C.1 50 (by decide)
theorem cK_51 (C : isCls kd R) : kd[51]? = some (0, 320) := C.1 51 (by decide)
theorem cK_52 (C : isCls kd R) : kd[52]? = some (0, 10) := C.1 52 (by decide)
theorem cK_53 (C : isCls kd R) : kd[53]? = some (0, 10) := C.1 53 (by decide)
theorem cK_54 (C : isCls kd R) : kd[54]? = some (3, 0) := C.1 54 (by decide)
theorem cK_55 (C : isCls kd R) : kd[55]? = some (0, 100) := C.1 55 (by decide)
theorem cK_56 (C : isCls kd R) : kd[56]? = some (10, 0) := C.1 56 (by decide)
theorem cK_57 (C : isCls kd R) : kd[57]? = some (0, 10) := C.1 57 (by decide)
theorem cK_58 (C : isCls kd R) : kd[58]? = some (0, 10) := C.1 58 (by decide)
theorem cK_59 (C : isCls kd R) : kd[59]? = some (0, 10) := C.1 59 (by decide)
theorem cK_60 (C : isCls kd R) : kd[60]? = some (0, 10) := C.1 60 (by decide)
theorem cK_61 (C : isCls kd R) : kd[61]? = some (0, 10) := C.1 61 (by decide)
theorem cK_62 (C : isCls kd R) : kd[62]? = some (0, 4) := C.1 62 (by decide)
def isProg (kd : List (Nat × Nat)) (R : Nat → Nat → Option Nat) (a : Nat) : Prop := kd[a]? = some (6, 0) ∧ kd[a + 1]? = some (0, 3) ∧ kd[a + 2]? = some (0, 60) ∧ kd[a + 3]? = some (0, 20) ∧ kd[a + 4]? = some (0, 200) ∧ kd[a + 5]? = some (0, 20) ∧ kd[a + 6]? = some (0, 8) ∧ kd[a + 7]? = some (0, 48) ∧ kd[a + 8]? = some (0, 100) ∧ R a 1 = some (a + 1) ∧ R a 2 = some (a + 2) ∧ R a 3 = some (a + 3) ∧ R a 4 = some (a + 4) ∧ R a 5 = some (a + 5) ∧ R a 6 = some (a + 6) ∧ R a 7 = some (a + 7) ∧ R a 8 = some (a + 8)
theorem pK0 {a : Nat} (h : isProg kd R a) : kd[a]? = some (6, 0) := h.1
theorem pK1 {a : Nat} (h : isProg kd R a) : kd[a + 1]? = some (0, 3) := h.2.1
theorem pK2 {a : Nat} (h : isProg kd R a) : kd[a + 2]? = some (0, 60) := h.2.2.1
theorem pK3 {a : Nat} (h : isProg kd R a) : kd[a + 3]? = some (0, 20) := h.2.2.2.1
theorem pK4 {a : Nat} (h : isProg kd R a) : kd[a + 4]? = some (0, 200) := h.2.2.2.2.1
theorem pK5 {a : Nat} (h : isProg kd R a) : kd[a + 5]? = some (0, 20) := h.2.2.2.2.2.1
theorem pK6 {a : Nat} (h : isProg kd R a) : kd[a + 6]? = some (0, 8) := h.2.2.2.2.2.2.1
theorem pK7 {a : Nat} (h : isProg kd R a) : kd[a + 7]? = some (0, 48) := h.2.2.2.2.2.2.2.1
theorem pK8 {a : Nat} (h : isProg kd R a) : kd[a + 8]? = some (0, 100) := h.2.2.2.2.2.2.2.2.1
theorem pR1 {a : Nat} (h : isProg kd R a) : R a 1 = some (a + 1) := h.2.2.2.2.2.2.2.2.2.1
theorem pR2 {a : Nat} (h : isProg kd R a) : R a 2 = some (a + 2) := h.2.2.2.2.2.2.2.2.2.2.1
theorem pR3 {a : Nat} (h : isProg kd R a) : R a 3 = some (a + 3) := h.2.2.2.2.2.2.2.2.2.2.2.1
theorem pR4 {a : Nat} (h : isProg kd R a) : R a 4 = some (a + 4) := h.2.2.2.2.2.2.2.2.2.2.2.2.1
theorem pR5 {a : Nat} (h : isProg kd R a) : R a 5 = some (a + 5) := h.2.2.2.2.2.2.2.2.2.2.2.2.2.1
theorem pR6 {a : Nat} (h : isProg kd R a) : R a 6 = some (a + 6) := h.2.2.2.2.2.2.2.2.2.2.2.2.2.2.1
theorem pR7 {a : Nat} (h : isProg kd R a) : R a 7 = some (a + 7) := h.2.2.2.2.2.2.2.2.2.2.2.2.2.2.2.1
theorem pR8 {a : Nat} (h : isProg kd R a) : R a 8 = some (a + 8) := h.2.2.2.2.2.2.2.2.2.2.2.2.2.2.2.2
def isWeb (kd : List (Nat × Nat)) (R : Nat → Nat → Option Nat) (a : Nat) : Prop := kd[a]? = some (10, 0) ∧ kd[a + 1]? = some (0, 10) ∧ kd[a + 2]? = some (0, 10) ∧ kd[a + 3]? = some (0, 10) ∧ kd[a + 4]? = some (0, 10) ∧ kd[a + 5]? = some (0, 10) ∧ R a 1 = some (a + 1) ∧ R a 2 = some (a + 2) ∧ R a 3 = some (a + 3) ∧ R a 4 = some (a + 4) ∧ R a 5 = some (a + 5)
theorem wK0 {a : Nat} (h : isWeb kd R a) : kd[a]? = some (10, 0) := h.1
theorem wK1 {a : Nat} (h : isWeb kd R a) : kd[a + 1]? = some (0, 10) := h.2.1
theorem wK2 {a : Nat} (h : isWeb kd R a) : kd[a + 2]? = some (0, 10) := h.2.2.1
theorem wK3 {a : Nat} (h : isWeb kd R a) : kd[a + 3]? = some (0, 10) := h.2.2.2.1
theorem wK4 {a : Nat} (h : isWeb kd R a) : kd[a + 4]? = some (0, 10) := h.2.2.2.2.1
theorem wK5 {a : Nat} (h : isWeb kd R a) : kd[a + 5]? = some (0, 10) := h.2.2.2.2.2.1
theorem wR1 {a : Nat} (h : isWeb kd R a) : R a 1 = some (a + 1) := h.2.2.2.2.2.2.1
theorem wR2 {a : Nat} (h : isWeb kd R a) : R a 2 = some (a + 2) := h.2.2.2.2.2.2.2.1
theorem wR3 {a : Nat} (h : isWeb kd R a) : R a 3 = some (a + 3) := h.2.2.2.2.2.2.2.2.1
theorem wR4 {a : Nat} (h : isWeb kd R a) : R a 4 = some (a + 4) := h.2.2.2.2.2.2.2.2.2.1
theorem wR5 {a : Nat} (h : isWeb kd R a) : R a 5 = some (a + 5) := h.2.2.2.2.2.2.2.2.2.2
def isTs (kd : List (Nat × Nat)) (R : Nat → Nat → Option Nat) (a : Nat) : Prop := kd[a]? = some (9, 0) ∧ kd[a + 1]? = some (0, 100) ∧ kd[a + 2]? = some (0, 100) ∧ kd[a + 3]? = some (0, 10) ∧ kd[a + 4]? = some (10, 0) ∧ R a 0 = some (a + 1) ∧ R a 1 = some (a + 2) ∧ R a 2 = some (a + 3) ∧ R a 3 = some (a + 4)
theorem tK0 {a : Nat} (h : isTs kd R a) : kd[a]? = some (9, 0) := h.1
theorem tK1 {a : Nat} (h : isTs kd R a) : kd[a + 1]? = some (0, 100) := h.2.1
theorem tK2 {a : Nat} (h : isTs kd R a) : kd[a + 2]? = some (0, 100) := h.2.2.1
theorem tK3 {a : Nat} (h : isTs kd R a) : kd[a + 3]? = some (0, 10) := h.2.2.2.1
theorem tK4 {a : Nat} (h : isTs kd R a) : kd[a + 4]? = some (10, 0) := h.2.2.2.2.1
theorem tR0 {a : Nat} (h : isTs kd R a) : R a 0 = some (a + 1) := h.2.2.2.2.2.1
theorem tR1 {a : Nat} (h : isTs kd R a) : R a 1 = some (a + 2) := h.2.2.2.2.2.2.1
theorem tR2 {a : Nat} (h : isTs kd R a) : R a 2 = some (a + 3) := h.2.2.2.2.2.2.2.1
theorem tR3 {a : Nat} (h : isTs kd R a) : R a 3 = some (a + 4) := h.2.2.2.2.2.2.2.2
theorem isW_31 (C : isCls kd R) : isWeb kd R 31 := ⟨cK_31 C, cK_32 C, cK_33 C, cK_34 C, cK_35 C, cK_36 C, cR_31_1 C, cR_31_2 C, cR_31_3 C, cR_31_4 C, cR_31_5 C⟩
theorem isW_41 (C : isCls kd R) : isWeb kd R 41 := ⟨cK_41 C, cK_42 C, cK_43 C, cK_44 C, cK_45 C, cK_46 C, cR_41_1 C, cR_41_2 C, cR_41_3 C, cR_41_4 C, cR_41_5 C⟩
theorem isW_56 (C : isCls kd R) : isWeb kd R 56 := ⟨cK_56 C, cK_57 C, cK_58 C, cK_59 C, cK_60 C, cK_61 C, cR_56_1 C, cR_56_2 C, cR_56_3 C, cR_56_4 C, cR_56_5 C⟩
theorem isT_27 (C : isCls kd R) : isTs kd R 27 := ⟨cK_27 C, cK_28 C, cK_29 C, cK_30 C, cK_31 C, cR_27_0 C, cR_27_1 C, cR_27_2 C, cR_27_3 C⟩
theorem isT_37 (C : isCls kd R) : isTs kd R 37 := ⟨cK_37 C, cK_38 C, cK_39 C, cK_40 C, cK_41 C, cR_37_0 C, cR_37_1 C, cR_37_2 C, cR_37_3 C⟩
theorem isP_at (C : isCls kd R) {a : Nat} (h : isProg kd R a) : a = 1 ∨ a = 10 ∨ 98 ≤ a := by
  by_cases ha : a < 98
  · have h1 := pK0 h
    rw [C.1 a ha] at h1
    have : ∀ x : Fin 98, kd0[(x : Nat)]? = some (6, 0) → (x : Nat) = 1 ∨ (x : Nat) = 10 := by decide
    rcases this ⟨a, ha⟩ h1 with h | h
    · exact Or.inl h
    · exact Or.inr (Or.inl h)
  · exact Or.inr (Or.inr (by omega))
theorem isP_ne {a b : Nat} (ha : isProg kd R a) (hb : isProg kd R b) (hab : a ≠ b) : ∀ i j, i ≤ 8 → j ≤ 8 → a + i ≠ b + j := by
  intro i j hi hj h
  have e : ∀ c : Nat, isProg kd R c → ∀ i, i ≤ 8 → kd[c + i]? = ([(6, 0), (0, 3), (0, 60), (0, 20), (0, 200), (0, 20), (0, 8), (0, 48), (0, 100)] : List (Nat × Nat))[i]? := by
    intro c hc i hi
    rcases (show i = 0 ∨ i = 1 ∨ i = 2 ∨ i = 3 ∨ i = 4 ∨ i = 5 ∨ i = 6 ∨ i = 7 ∨ i = 8 by omega) with rfl | rfl | rfl | rfl | rfl | rfl | rfl | rfl | rfl
    · exact pK0 hc
    · exact pK1 hc
    · exact pK2 hc
    · exact pK3 hc
    · exact pK4 hc
    · exact pK5 hc
    · exact pK6 hc
    · exact pK7 hc
    · exact pK8 hc
  have e1 := e a ha i hi
  have e2 := e b hb j hj
  rw [h, e2] at e1
  have key : ∀ x y : Fin 9, ([(6, 0), (0, 3), (0, 60), (0, 20), (0, 200), (0, 20), (0, 8), (0, 48), (0, 100)] : List (Nat × Nat))[(y : Nat)]? = ([(6, 0), (0, 3), (0, 60), (0, 20), (0, 200), (0, 20), (0, 8), (0, 48), (0, 100)] : List (Nat × Nat))[(x : Nat)]? → (x : Nat) = y ∨ ((x : Nat) = 3 ∧ (y : Nat) = 5) ∨ ((x : Nat) = 5 ∧ (y : Nat) = 3) := by decide
  rcases key ⟨i, by omega⟩ ⟨j, by omega⟩ e1 with h1 | ⟨h1, h2⟩ | ⟨h1, h2⟩
  · exact hab (by have : i = j := h1; omega)
  · simp only at h1 h2
    have h3 := e a ha 0 (by omega)
    have h4 := e b hb 2 (by omega)
    rw [show a + 0 = b + 2 by omega, h4] at h3
    exact absurd h3 (by decide)
  · simp only at h1 h2
    have h3 := e b hb 0 (by omega)
    have h4 := e a ha 2 (by omega)
    rw [show b + 0 = a + 2 by omega, h4] at h3
    exact absurd h3 (by decide)
end CF
