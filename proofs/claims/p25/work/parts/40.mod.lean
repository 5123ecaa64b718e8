-- the reference: numbers, gaps, costs, exponents, blocks
def K (z : Int) : Int64 := Int64.ofInt z
theorem K_toInt {z : Int} (h1 : -9223372036854775808 ≤ z) (h2 : z < 9223372036854775808) : (K z).toInt = z := Int64.toInt_ofInt_of_le (by omega) (by omega)
theorem K_sub (a b : Int) : K a - K b = K (a - b) := (Int64.ofInt_sub a b).symm
theorem K_add (a b : Int) : K a + K b = K (a + b) := (Int64.ofInt_add a b).symm
theorem K_mul (a b : Int) : K a * K b = K (a * b) := (Int64.ofInt_mul a b).symm
theorem J_K {z : Int} (h1 : -2147483648 ≤ z) (h2 : z < 2147483648) : (J z).toInt64 = K z := Int32.toInt64_ofInt (by show (-2147483648 : Int) ≤ z; exact h1) (by show z ≤ (2147483647 : Int); omega)
theorem K_cmp_lt {a b : Int} (h1 : -9223372036854775808 ≤ a) (h2 : a < 9223372036854775808) (h3 : -9223372036854775808 ≤ b) (h4 : b < 9223372036854775808) : lg_cmp (K a) (K b) < 0 ↔ a < b := by
  rw [lg_cmp_lt, Int64.lt_iff_toInt_lt, K_toInt h1 h2, K_toInt h3 h4]
theorem K_cmp_gt {a b : Int} (h1 : -9223372036854775808 ≤ a) (h2 : a < 9223372036854775808) (h3 : -9223372036854775808 ≤ b) (h4 : b < 9223372036854775808) : 0 < lg_cmp (K a) (K b) ↔ b < a := by
  rw [lg_cmp_gt, Int64.lt_iff_toInt_lt, K_toInt h1 h2, K_toInt h3 h4]
theorem K_cmp_eq {a b : Int} (h1 : -9223372036854775808 ≤ a) (h2 : a < 9223372036854775808) (h3 : -9223372036854775808 ≤ b) (h4 : b < 9223372036854775808) : lg_cmp (K a) (K b) = 0 ↔ a = b := by
  rw [lg_cmp_eq, ← Int64.toInt_inj, K_toInt h1 h2, K_toInt h3 h4]
theorem z01 {c : Prop} [Decidable c] : (if (if c then (1 : Int32) else 0) = 0 ∨ (if c then (1 : Int32) else 0) = 1 then some (if c then (1 : Int32) else 0) else none) = some (if c then (1 : Int32) else 0) := by
  by_cases h : c
  · rw [if_pos h]; rfl
  · rw [if_neg h]; rfl
theorem gd_ok {z : Int} {N : Nat} (h1 : 0 ≤ z) (h2 : z < N) (hN : N < 2147483648) : ¬ (J z < 0 ∨ N ≤ (J z).toNatClampNeg) := by
  rw [J_idx (by omega) (by omega), L0, J_lt (by omega) (by omega) (by omega) (by omega)]
  omega
theorem J_ix {z : Int} (i : Nat) (hz : z = i) (hi : i < 2147483648) : (J z).toNatClampNeg = i := by rw [J_idx (by omega) (by omega), hz]; rfl
/-- the reference's row -/
def MA (x : Nat → Nat) (n bs on : Nat) (g : Ar) : Prop := g 0 = J bs ∧ g 1 = J on ∧ g 2 = J n ∧ ∀ i, i < n → g (3 + i) = J (x i)
section MOD
variable {x : Nat → Nat} {n bs on : Nat} {g : Ar}
end MOD
