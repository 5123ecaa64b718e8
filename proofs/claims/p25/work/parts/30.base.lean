-- ints as the class's numbers: J z is the int of a whole number
def J (z : Int) : Int32 := Int32.ofInt z
theorem J_toInt {z : Int} (h1 : -2147483648 ≤ z) (h2 : z < 2147483648) : (J z).toInt = z := Int32.toInt_ofInt_of_le (by omega) (by omega)
theorem J_self (x : Int32) : J x.toInt = x := Int32.ofInt_toInt x
theorem J_rg (x : Int32) : -2147483648 ≤ x.toInt ∧ x.toInt < 2147483648 := ⟨by have := Int32.le_toInt x; omega, by have := Int32.toInt_lt x; omega⟩
theorem J_add (a b : Int) : J a + J b = J (a + b) := (Int32.ofInt_add a b).symm
theorem J_sub (a b : Int) : J a - J b = J (a - b) := (Int32.ofInt_sub a b).symm
theorem J_mul (a b : Int) : J a * J b = J (a * b) := (Int32.ofInt_mul a b).symm
theorem J_neg (a : Int) : -J a = J (-a) := (Int32.ofInt_neg a).symm
theorem J_lt {a b : Int} (h1 : -2147483648 ≤ a) (h2 : a < 2147483648) (h3 : -2147483648 ≤ b) (h4 : b < 2147483648) : J a < J b ↔ a < b := by
  rw [Int32.lt_iff_toInt_lt, J_toInt h1 h2, J_toInt h3 h4]
theorem J_le {a b : Int} (h1 : -2147483648 ≤ a) (h2 : a < 2147483648) (h3 : -2147483648 ≤ b) (h4 : b < 2147483648) : J a ≤ J b ↔ a ≤ b := by
  rw [Int32.le_iff_toInt_le, J_toInt h1 h2, J_toInt h3 h4]
theorem J_eq {a b : Int} (h1 : -2147483648 ≤ a) (h2 : a < 2147483648) (h3 : -2147483648 ≤ b) (h4 : b < 2147483648) : J a = J b ↔ a = b := by
  rw [← Int32.toInt_inj, J_toInt h1 h2, J_toInt h3 h4]
theorem jf {α : Type} {c d : Prop} [Decidable c] [Decidable d] {x y : α} (h : c ↔ d) : (if c then x else y) = if d then x else y := by
  by_cases q : d
  · rw [if_pos (h.mpr q), if_pos q]
  · rw [if_neg (fun t => q (h.mp t)), if_neg q]
theorem jf_lt {α : Type} {a b : Int} {x y : α} (h1 : -2147483648 ≤ a) (h2 : a < 2147483648) (h3 : -2147483648 ≤ b) (h4 : b < 2147483648) : (if J a < J b then x else y) = if a < b then x else y := jf (J_lt h1 h2 h3 h4)
theorem jf_le {α : Type} {a b : Int} {x y : α} (h1 : -2147483648 ≤ a) (h2 : a < 2147483648) (h3 : -2147483648 ≤ b) (h4 : b < 2147483648) : (if J a ≤ J b then x else y) = if a ≤ b then x else y := jf (J_le h1 h2 h3 h4)
theorem jf_eq {α : Type} {a b : Int} {x y : α} (h1 : -2147483648 ≤ a) (h2 : a < 2147483648) (h3 : -2147483648 ≤ b) (h4 : b < 2147483648) : (if J a = J b then x else y) = if a = b then x else y := jf (J_eq h1 h2 h3 h4)
theorem J_nat (n : Nat) : Int32.ofNat n = J n := by
  apply Int32.toBitVec_inj.mp
  show BitVec.ofNat 32 n = BitVec.ofInt 32 (n : Int)
  rw [BitVec.ofInt_natCast]
theorem L0 : (0 : Int32) = J 0 := rfl
theorem L1 : (1 : Int32) = J 1 := rfl
theorem L2 : (2 : Int32) = J 2 := rfl
theorem L3 : (3 : Int32) = J 3 := rfl
theorem L4 : (4 : Int32) = J 4 := rfl
theorem L5 : (5 : Int32) = J 5 := rfl
theorem L6 : (6 : Int32) = J 6 := rfl
theorem L7 : (7 : Int32) = J 7 := rfl
theorem L8 : (8 : Int32) = J 8 := rfl
theorem L9 : (9 : Int32) = J 9 := rfl
theorem L10 : (10 : Int32) = J 10 := rfl
theorem L15 : (15 : Int32) = J 15 := rfl
theorem L16 : (16 : Int32) = J 16 := rfl
theorem L30 : (30 : Int32) = J 30 := rfl
theorem L31 : (31 : Int32) = J 31 := rfl
theorem L32 : (32 : Int32) = J 32 := rfl
theorem L33 : (33 : Int32) = J 33 := rfl
theorem L43 : (43 : Int32) = J 43 := rfl
theorem L44 : (44 : Int32) = J 44 := rfl
theorem L45 : (45 : Int32) = J 45 := rfl
theorem L48 : (48 : Int32) = J 48 := rfl
theorem L57 : (57 : Int32) = J 57 := rfl
theorem L59 : (59 : Int32) = J 59 := rfl
theorem L64 : (64 : Int32) = J 64 := rfl
theorem L65 : (65 : Int32) = J 65 := rfl
theorem L67 : (67 : Int32) = J 67 := rfl
theorem L68 : (68 : Int32) = J 68 := rfl
theorem L80 : (80 : Int32) = J 80 := rfl
theorem L98 : (98 : Int32) = J 98 := rfl
theorem L111 : (111 : Int32) = J 111 := rfl
theorem L126 : (126 : Int32) = J 126 := rfl
theorem L134 : (134 : Int32) = J 134 := rfl
theorem L136 : (136 : Int32) = J 136 := rfl
theorem L255 : (255 : Int32) = J 255 := rfl
theorem L402 : (402 : Int32) = J 402 := rfl
theorem L476 : (476 : Int32) = J 476 := rfl
theorem L1040 : (1040 : Int32) = J 1040 := rfl
theorem L1344 : (1344 : Int32) = J 1344 := rfl
theorem L3300 : (3300 : Int32) = J 3300 := rfl
theorem L65535 : (65535 : Int32) = J 65535 := rfl
theorem L65536 : (65536 : Int32) = J 65536 := rfl
theorem Lm1 : (-1 : Int32) = J (-1) := rfl
theorem Lm2 : (-2 : Int32) = J (-2) := rfl
theorem Lm3 : (-3 : Int32) = J (-3) := rfl
theorem Lm4 : (-4 : Int32) = J (-4) := rfl
theorem Lm5 : (-5 : Int32) = J (-5) := rfl
theorem Lm6 : (-6 : Int32) = J (-6) := rfl
theorem Lm65535 : (-65535 : Int32) = J (-65535) := rfl
theorem J_0 : (0 : Int32) = J 0 := rfl
theorem J_1 : (1 : Int32) = J 1 := rfl
theorem J_idx {z : Int} (h1 : -2147483648 ≤ z) (h2 : z < 2147483648) : (J z).toNatClampNeg = z.toNat := Int32.toNatClampNeg_ofInt_of_le (by omega) (by omega)
theorem J_div {a b : Int} (ha : 0 ≤ a) (ha2 : a < 2147483648) (hb : 0 < b) (hb2 : b < 2147483648) : J a / J b = J (a / b) := by
  apply Int32.toInt_inj.mp
  have hq : 0 ≤ a / b := Int.ediv_nonneg ha (by omega)
  have hq2 : a / b ≤ a := Int.ediv_le_self b ha
  rw [Int32.toInt_div_of_ne_right _ _ (by rw [show (-1 : Int32) = J (-1) from rfl, ne_eq, J_eq (by omega) (by omega) (by omega) (by omega)]; omega), J_toInt (by omega) (by omega), J_toInt (by omega) (by omega), J_toInt (by omega) (by omega), Int.tdiv_eq_ediv_of_nonneg ha]
theorem J_sh {e : Nat} (he : e < 32) : ((J e &&& 31).toBitVec.smod 32).toNat = e := by
  have : ∀ k : Fin 32, ((J (k.val : Int) &&& 31).toBitVec.smod 32).toNat = k.val := by decide +kernel
  exact this ⟨e, he⟩
theorem J_add1 (z : Int) : J z + 1 = J (z + 1) := by rw [L1, J_add]
theorem J_sub1 (z : Int) : J z - 1 = J (z - 1) := by rw [L1, J_sub]
theorem J_addm1 (z : Int) : J z + -1 = J (z - 1) := by rw [Lm1, J_add]; rfl
theorem z_t {α : Type} {c : Prop} [Decidable c] {a b : α} (h : c) : (if (if c then (1 : Int32) else 0) = 0 then a else b) = b := by rw [if_pos h, if_neg (by decide)]
theorem z_f {α : Type} {c : Prop} [Decidable c] {a b : α} (h : ¬ c) : (if (if c then (1 : Int32) else 0) = 0 then a else b) = a := by rw [if_neg h, if_pos rfl]
theorem J_shr {a : Int} {e : Nat} (h1 : -2147483648 ≤ a) (h2 : a < 2147483648) (he : e < 32) : J a >>> (J e &&& 31) = J (a / 2 ^ e) := by
  apply Int32.toInt_inj.mp
  have h3 : (J a >>> (J e &&& 31)).toInt = (J a).toInt >>> e := by
    show ((J a).toBitVec.sshiftRight ((J e &&& 31).toBitVec.smod 32).toNat).toInt = _
    rw [J_sh he, BitVec.toInt_sshiftRight]
    rfl
  have hp : (0 : Int) < 2 ^ e := Int.pow_pos (by decide)
  have h4 : -2147483648 ≤ a / 2 ^ e ∧ a / 2 ^ e < 2147483648 := by
    constructor
    · apply Int.le_ediv_of_mul_le hp
      have : (1 : Int) ≤ 2 ^ e := by omega
      have := Int.mul_le_mul_of_nonneg_left this (show (0 : Int) ≤ 2147483648 by decide)
      omega
    · apply Int.ediv_lt_of_lt_mul hp
      have : (1 : Int) ≤ 2 ^ e := by omega
      have := Int.mul_le_mul_of_nonneg_left this (show (0 : Int) ≤ 2147483648 by decide)
      omega
  rw [h3, J_toInt h1 h2, J_toInt h4.1 h4.2, Int.shiftRight_eq_div_pow]
  norm_cast
theorem J_shl {a : Int} {e : Nat} (he : e < 32) : J a <<< (J e &&& 31) = J (a * 2 ^ e) := by
  apply Int32.toBitVec_inj.mp
  show (J a).toBitVec <<< ((J e &&& 31).toBitVec.smod 32) = BitVec.ofInt 32 (a * 2 ^ e)
  rw [BitVec.shiftLeft_eq', J_sh he, BitVec.shiftLeft_eq_mul_twoPow, BitVec.ofInt_mul]
  congr 1
  apply BitVec.eq_of_toNat_eq
  rw [BitVec.toNat_twoPow]
  rw [show (2 ^ e : Int) = ((2 ^ e : Nat) : Int) by norm_cast, BitVec.ofInt_natCast, BitVec.toNat_ofNat]
theorem J_and1 {a : Int} (h1 : -2147483648 ≤ a) (h2 : a < 2147483648) : J a &&& 1 = J (a % 2) := by
  apply Int32.toBitVec_inj.mp
  rw [Int32.toBitVec_and]
  apply BitVec.eq_of_toNat_eq
  rw [BitVec.toNat_and, show (1 : Int32).toBitVec.toNat = 1 from rfl, Nat.and_one_is_mod]
  show (BitVec.ofInt 32 a).toNat % 2 = (BitVec.ofInt 32 (a % 2)).toNat
  rw [BitVec.toNat_ofInt, BitVec.toNat_ofInt]
  omega
theorem J_bit {v e : Nat} (hv : v < 2147483648) (he : e < 32) : (J v >>> (J e &&& 31)) &&& 1 = J ((v / 2 ^ e % 2 : Nat) : Int) := by
  have h : v / 2 ^ e ≤ v := Nat.div_le_self _ _
  rw [J_shr (by omega) (by omega) he, show ((v : Int) / 2 ^ e) = ((v / 2 ^ e : Nat) : Int) by norm_cast]
  generalize v / 2 ^ e = q at h ⊢
  rw [J_and1 (by omega) (by omega)]
  norm_cast
theorem J_bit1 {e : Nat} (he : e < 32) : (J (-1) >>> (J e &&& 31)) &&& 1 = J 1 := by
  have : ∀ k : Fin 32, (J (-1) >>> (J (k.val : Int) &&& 31)) &&& 1 = J 1 := by decide +kernel
  exact this ⟨e, he⟩
theorem J_bit0 {e : Nat} (he : e < 32) : ((0 : Int32) >>> (J e &&& 31)) &&& 1 = J 0 := by
  have : ∀ k : Fin 32, ((0 : Int32) >>> (J (k.val : Int) &&& 31)) &&& 1 = J 0 := by decide +kernel
  exact this ⟨e, he⟩
theorem upd_self {f : Ar} {k : Nat} {x : Int32} : upd f k x k = x := if_pos rfl
theorem upd_ne {f : Ar} {k j : Nat} {x : Int32} (h : j ≠ k) : upd f k x j = f j := if_neg h
theorem zFuel_ge {n : Nat} (h : n ≤ 100000) : ∃ f, zFuel = f + n := ⟨1000000 - n, by show 1000000 = _; omega⟩
