/-! numbers of the plain machine -/
theorem i32_tb (x : Int) : (Int32.ofInt x).toInt = x.bmod 4294967296 := Int32.toInt_ofInt
theorem bmod_id {x : Int} (h1 : -2147483648 ≤ x) (h2 : x < 2147483648) : x.bmod 4294967296 = x := by
  rw [← i32_tb]; exact i32_t ⟨h1, h2⟩
theorem oA {x y : Int} (h1 : -2147483648 ≤ x + y) (h2 : x + y < 2147483648) : o2 f_iadd x y = x + y := by
  show (Int32.ofInt x + Int32.ofInt y).toInt = _
  rw [← Int32.ofInt_add]; exact i32_t ⟨h1, h2⟩
theorem oS {x y : Int} (h1 : -2147483648 ≤ x - y) (h2 : x - y < 2147483648) : o2 f_isub x y = x - y := by
  show (Int32.ofInt x - Int32.ofInt y).toInt = _
  rw [← Int32.ofInt_sub]; exact i32_t ⟨h1, h2⟩
theorem oM {x y : Int} (h1 : -2147483648 ≤ x * y) (h2 : x * y < 2147483648) : o2 f_imul x y = x * y := by
  show (Int32.ofInt x * Int32.ofInt y).toInt = _
  rw [← Int32.ofInt_mul]; exact i32_t ⟨h1, h2⟩
theorem oD {x y : Int} (h1 : 0 ≤ x) (h2 : x < 2147483648) (h3 : 0 < y) (h4 : y < 2147483648) : o2 f_idiv x y = x / y := by
  show (Int32.ofInt x / Int32.ofInt y).toInt = _
  rw [Int32.toInt_div, i32_t ⟨by omega, h2⟩, i32_t ⟨by omega, h4⟩, Int.tdiv_eq_ediv_of_nonneg h1]
  have h5 : 0 ≤ x / y := Int.ediv_nonneg h1 (by omega)
  have h6 : x / y ≤ x := Int.ediv_le_self y h1
  exact bmod_id (by omega) (by omega)
theorem oR {x y : Int} (h1 : 0 ≤ x) (h2 : x < 2147483648) (h3 : 0 < y) (h4 : y < 2147483648) : o2 f_irem x y = x % y := by
  have hd := oD h1 h2 h3 h4
  have h5 : 0 ≤ x / y := Int.ediv_nonneg h1 (by omega)
  have h6 : x / y ≤ x := Int.ediv_le_self y h1
  have e1 : Int32.ofInt x / Int32.ofInt y = Int32.ofInt (x / y) := by
    rw [← i32_o (Int32.ofInt x / Int32.ofInt y)]; exact congrArg _ hd
  show (Int32.ofInt x - Int32.ofInt x / Int32.ofInt y * Int32.ofInt y).toInt = _
  rw [e1, ← Int32.ofInt_mul, ← Int32.ofInt_sub]
  have e2 : x - x / y * y = x % y := by have := Int.emod_add_mul_ediv x y; rw [Int.mul_comm] at this; omega
  rw [e2]
  have h7 := Int.emod_nonneg x (b := y) (by omega)
  have h8 := Int.emod_lt_of_pos x h3
  exact i32_t ⟨by omega, by omega⟩
/-- a loop that counts up to n: P holds at its head -/
theorem forUp {i n lo : Nat} {hi : EI} {body : SM} {Kn Kb : XE → XS → Prop} {Kr : AV → XS → Prop} {env : XE} {st : XS} (P : Nat → XE → XS → Prop) (hn : n < 2147483647) (hlo : lo ≤ n) (h0 : P lo env st)
    (hi0 : ∀ k env st, k ≤ n → P k env st → env[i]? = some (vI (k : Int)) ∧ ∀ K : Int → XS → Prop, K (n : Int) st → hi env st K)
    (hb : ∀ k env st, lo ≤ k → k < n → P k env st → ∀ Kx : XE → XS → Prop, (∀ env' st', env'[i]? = some (vI (k : Int)) → noL env' i = true → P (k + 1) (env'.set i (vI ((k + 1 : Nat) : Int))) st' → Kx env' st') → body Kx Kn Kr env st)
    (hk : ∀ env st, P n env st → Kn env st) : s_while (c_lt (e_lv i) hi) (s_seq body (s_inc i 1)) Kn Kb Kr env st := by
  refine ⟨fun k env st => ∃ j, lo ≤ j ∧ j + k = n ∧ P j env st, n - lo, ⟨lo, Nat.le_refl _, by omega, h0⟩, ?_⟩
  rintro k env st ⟨j, hj, hjk, hP⟩
  obtain ⟨he, hh⟩ := hi0 j env st (by omega) hP
  refine ⟨j, he, hh _ ?_⟩
  dsimp only
  by_cases hlt : j < n
  · rw [if_pos (by simp only [decide_eq_true_eq]; omega)]
    refine hb j env st hj hlt hP _ (fun env' st' h1 h2 h3 => ?_)
    have ea : o2 f_iadd (j : Int) 1 = ((j + 1 : Nat) : Int) := by rw [oA (by omega) (by omega)]; omega
    exact ⟨_, h1, h2, k - 1, by omega, j + 1, by omega, by omega, by rw [ea]; exact h3⟩
  · have e : j = n := by omega
    subst e
    rw [if_neg (by simp)]
    exact hk env st hP
