-- the law's small methods
theorem J_rem {a b : Int} (ha : 0 ≤ a) (ha2 : a < 2147483648) (hb : 0 < b) (hb2 : b < 2147483648) : J a - J a / J b * J b = J (a % b) := by
  rw [J_div ha ha2 hb hb2, J_mul, J_sub]
  congr 1
  have := Int.emod_add_mul_ediv a b
  rw [Int.mul_comm] at this
  omega
theorem J_low (v : Int32) : ∃ a : Int, 0 ≤ a ∧ a < 2147483648 ∧ v &&& 2147483647 = J a := by
  refine ⟨(v &&& 2147483647).toInt, ?_, (J_rg _).2, (J_self _).symm⟩
  show 0 ≤ (v &&& 2147483647).toBitVec.toInt
  have h : (v &&& 2147483647).toBitVec.toNat ≤ 2147483647 := by
    rw [Int32.toBitVec_and, BitVec.toNat_and]
    exact Nat.and_le_right
  rw [BitVec.toInt_eq_toNat_of_lt (by omega)]
  omega
theorem S_up (v : Int32) {n : Nat} (h0 : 0 < n) (h1 : n < 2147483648) : ∃ u : Nat, u < n ∧ F_L_up v (J n) = some (J u) := by
  obtain ⟨a, ha, hb, e⟩ := J_low v
  have h2 := Int.emod_lt_of_pos a (show (0 : Int) < n by omega)
  have h3 := Int.emod_nonneg a (show (n : Int) ≠ 0 by omega)
  refine ⟨(a % n).toNat, by omega, ?_⟩
  unfold F_L_up
  rw [if_pos (by rw [L0, J_eq (by omega) (by omega) (by omega) (by omega)]; omega), e, J_rem ha hb (by omega) (by omega), Int.toNat_of_nonneg h3]
theorem S_cell (xs : Nat → Int32) {L i : Nat} (hL : L ≤ 260) (hi : i ≤ 48) : ∃ v, F_L_cell xs L (J i) = some v := by
  unfold F_L_cell
  rw [J_nat, jf_le (by omega) (by omega) (by omega) (by omega)]
  by_cases h : (L : Int) ≤ i
  · rw [if_pos h]; exact ⟨_, rfl⟩
  · rw [if_neg h, if_pos (by rw [J_ix i rfl (by omega), L0, J_lt (by omega) (by omega) (by omega) (by omega)]; omega)]; exact ⟨_, rfl⟩
section CT
variable (x : Nat → Nat) (n bs on pl hl : Nat)
theorem ct0 : a_count x n bs on pl hl 0 = J n := by unfold a_count; rw [if_pos rfl]
theorem ct1 : a_count x n bs on pl hl 1 = J (s_nb n bs) := by unfold a_count; rw [if_neg (by decide), if_pos rfl]
theorem ct2 : a_count x n bs on pl hl 2 = J (s_tot on (s_gp x) n bs) := by unfold a_count; rw [if_neg (by decide), if_neg (by decide), if_pos rfl]
theorem ct6 : a_count x n bs on pl hl 6 = J bs := by unfold a_count; rw [if_neg (by decide), if_neg (by decide), if_neg (by decide), if_neg (by decide), if_neg (by decide), if_neg (by decide), if_pos rfl]
theorem ct7 : a_count x n bs on pl hl 7 = J on := by unfold a_count; rw [if_neg (by decide), if_neg (by decide), if_neg (by decide), if_neg (by decide), if_neg (by decide), if_neg (by decide), if_neg (by decide), if_pos rfl]
end CT
section GT
variable {x : Nat → Nat} {n bs on i : Nat} {z : Int}
theorem gt0 (hz : z = i) (hi : i < n) : a_gap x n bs on z 0 = J (s_gp x i) := by unfold a_gap; rw [if_pos (by omega), if_pos rfl, hz, Int.toNat_natCast]
theorem gt3 (hz : z = i) (hi : i < n) : a_gap x n bs on z 3 = J (s_esc on (s_gp x i) (s_ex on (s_gp x) n bs (i / bs))) := by unfold a_gap; rw [if_pos (by omega), if_neg (by decide), if_neg (by decide), if_neg (by decide), if_pos rfl, hz, Int.toNat_natCast]
theorem gt4 (hz : z = i) (hi : i < n) : a_gap x n bs on z 4 = J (s_pos on (s_gp x) n bs (i / bs) i) := by unfold a_gap; rw [if_pos (by omega), if_neg (by decide), if_neg (by decide), if_neg (by decide), if_neg (by decide), if_pos rfl, hz, Int.toNat_natCast]
theorem at0 (hz : z = i) (hi : i < n) : a_at x n bs on z 0 = J (x i) := by unfold a_at; rw [if_pos (by omega), if_pos rfl, hz, Int.toNat_natCast]
theorem at1 (hz : z = i) (hi : i < n) : a_at x n bs on z 1 = J ((4 + s_cs on (s_gp x) (s_ex on (s_gp x) n bs (i / bs)) (i / bs * bs) (i + 1) : Nat) : Int) := by unfold a_at; rw [if_pos (by omega), if_neg (by decide), if_pos rfl, hz, Int.toNat_natCast]
theorem bk0 (hz : z = i) (hi : i < s_nb n bs) : a_block x n bs on z 0 = J (s_ex on (s_gp x) n bs i) := by unfold a_block; rw [if_pos (by omega), if_pos rfl, hz, Int.toNat_natCast]
theorem bk2 (hz : z = i) (hi : i < s_nb n bs) : a_block x n bs on z 2 = J (s_bb on (s_gp x) n bs i) := by unfold a_block; rw [if_pos (by omega), if_neg (by decide), if_neg (by decide), if_pos rfl, hz, Int.toNat_natCast]
theorem bk3 (hz : z = i) (hi : i < s_nb n bs) : a_block x n bs on z 3 = J (s_sk on (s_gp x) n bs i) := by unfold a_block; rw [if_pos (by omega), if_neg (by decide), if_neg (by decide), if_neg (by decide), if_pos rfl, hz, Int.toNat_natCast]
theorem bk4 (hz : z = i) (hi : i < s_nb n bs) : a_block x n bs on z 4 = J (s_na x (i * bs) + 1) := by unfold a_block; rw [if_pos (by omega), if_neg (by decide), if_neg (by decide), if_neg (by decide), if_neg (by decide), if_pos rfl, hz, Int.toNat_natCast]
theorem co0 {e : Nat} {w : Int} (hz : z = i) (hi : i < s_nb n bs) (hw : w = e) (he : e ≤ 15) : a_cost x n bs on z w = J ((4 + s_cs on (s_gp x) e (i * bs) (s_en n bs i) : Nat) : Int) := by unfold a_cost; rw [if_pos (by omega), if_pos (by omega), hz, hw, Int.toNat_natCast, Int.toNat_natCast]
end GT
