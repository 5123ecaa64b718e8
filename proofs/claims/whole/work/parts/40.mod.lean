-- the reference: numbers, gaps, costs, exponents, blocks
def K (z : Int) : Int64 := Int64.ofInt z
theorem K_toInt {z : Int} (h1 : -9223372036854775808 ≤ z) (h2 : z < 9223372036854775808) : (K z).toInt = z := Int64.toInt_ofInt_of_le (by omega) (by omega)
theorem K_sub (a b : Int) : K a - K b = K (a - b) := (Int64.ofInt_sub a b).symm
theorem K_add (a b : Int) : K a + K b = K (a + b) := (Int64.ofInt_add a b).symm
theorem K_mul (a b : Int) : K a * K b = K (a * b) := (Int64.ofInt_mul a b).symm
theorem J_K {z : Int} (h1 : -2147483648 ≤ z) (h2 : z < 2147483648) : (J z).toInt64 = K z := Int32.toInt64_ofInt (by show (-2147483648 : Int) ≤ z; exact h1) (by show z ≤ (2147483647 : Int); omega)
theorem K_cmp_lt {a b : Int} (h1 : -9223372036854775808 ≤ a) (h2 : a < 9223372036854775808) (h3 : -9223372036854775808 ≤ b) (h4 : b < 9223372036854775808) : lg_cmp (K a) (K b) < 0 ↔ a < b := by
  rw [lg_cmp_lt, Int64.lt_iff_toInt_lt, K_toInt h1 h2, K_toInt h3 h4]
theorem K_cmp_gt {a b : Int} (h1 : -9223372036854775808 ≤ a) (h2 : a < 9223372036854775808) (h3 : -9223372036854775808 ≤ b) (h4 : b < 9223372036854775808) : 0 < lg_cmp (K a) (K b) ↔ b < a := by
  rw [lg_cmp_gt, Int64.lt_iff_toInt_lt, K_toInt h1 h2, K_toInt h3 h4]
theorem K_cmp_eq {a b : Int} (h1 : -9223372036854775808 ≤ a) (h2 : a < 9223372036854775808) (h3 : -9223372036854775808 ≤ b) (h4 : b < 9223372036854775808) : lg_cmp (K a) (K b) = 0 ↔ a = b := by
  rw [lg_cmp_eq, ← Int64.toInt_inj, K_toInt h1 h2, K_toInt h3 h4]
theorem S_in {a l h : Int} (a1 : -9223372036854775808 ≤ a) (a2 : a < 9223372036854775808) (l1 : -9223372036854775808 ≤ l) (l2 : l < 9223372036854775808) (h1 : -9223372036854775808 ≤ h) (h2 : h < 9223372036854775808) : F_X9_in (K a) (K l) (K h) = some (if l ≤ a ∧ a ≤ h then 1 else 0) := by
  unfold F_X9_in
  rw [jf (K_cmp_lt a1 a2 l1 l2), jf (K_cmp_gt a1 a2 h1 h2)]
  by_cases q : a < l
  · rw [if_pos q, if_neg (by omega)]
  · rw [if_neg q]
    by_cases r : h < a
    · rw [if_pos r, if_neg (by omega)]
    · rw [if_neg r, if_pos (by omega)]
theorem z01 {c : Prop} [Decidable c] : (if (if c then (1 : Int32) else 0) = 0 ∨ (if c then (1 : Int32) else 0) = 1 then some (if c then (1 : Int32) else 0) else none) = some (if c then (1 : Int32) else 0) := by
  by_cases h : c
  · rw [if_pos h]; rfl
  · rw [if_neg h]; rfl
theorem S_isNumber9 {z : Int} (hz : -2147483648 ≤ z ∧ z < 2147483648) : F_X9_isNumber (J z) = some (if 0 ≤ z ∧ z ≤ 65535 then 1 else 0) := by
  unfold F_X9_isNumber
  rw [J_K hz.1 hz.2, show (0 : Int64) = K 0 from rfl, show (65535 : Int64) = K 65535 from rfl, S_in (by omega) (by omega) (by omega) (by omega) (by omega) (by omega), Option.bind_some]
  exact z01
theorem S_isSetting9 {z w : Int} (hz : -2147483648 ≤ z ∧ z < 2147483648) (hw : -2147483648 ≤ w ∧ w < 2147483648) : F_X9_isSetting (J z) (J w) = some (if a_setok z w then 1 else 0) := by
  unfold F_X9_isSetting
  rw [L0, L1, jf_eq (by omega) (by omega) (by omega) (by omega), jf_eq (by omega) (by omega) (by omega) (by omega), J_K hw.1 hw.2, show (1 : Int64) = K 1 from rfl, show (16 : Int64) = K 16 from rfl, show (30 : Int64) = K 30 from rfl, S_in (by omega) (by omega) (by omega) (by omega) (by omega) (by omega), S_in (by omega) (by omega) (by omega) (by omega) (by omega) (by omega), Option.bind_some, Option.bind_some]
  by_cases h0 : z = 0
  · rw [if_pos h0]
    by_cases h1 : 1 ≤ w ∧ w ≤ 16
    · rw [show (if a_setok z w then J 1 else J 0) = J 1 from if_pos (by omega), if_pos h1]; rfl
    · rw [show (if a_setok z w then J 1 else J 0) = J 0 from if_neg (by omega), if_neg h1]; rfl
  · rw [if_neg h0]
    by_cases h3 : z = 1
    · rw [if_pos h3]
      by_cases h1 : 1 ≤ w ∧ w ≤ 30
      · rw [show (if a_setok z w then J 1 else J 0) = J 1 from if_pos (by omega), if_pos h1]; rfl
      · rw [show (if a_setok z w then J 1 else J 0) = J 0 from if_neg (by omega), if_neg h1]; rfl
    · rw [if_neg h3, if_neg (by omega)]
theorem gd_ok {z : Int} {N : Nat} (h1 : 0 ≤ z) (h2 : z < N) (hN : N < 2147483648) : ¬ (J z < 0 ∨ N ≤ (J z).toNatClampNeg) := by
  rw [J_idx (by omega) (by omega), L0, J_lt (by omega) (by omega) (by omega) (by omega)]
  omega
theorem J_ix {z : Int} (i : Nat) (hz : z = i) (hi : i < 2147483648) : (J z).toNatClampNeg = i := by rw [J_idx (by omega) (by omega), hz]; rfl
/-- the reference's row -/
def MA (x : Nat → Nat) (n bs on : Nat) (g : Ar) : Prop := g 0 = J bs ∧ g 1 = J on ∧ g 2 = J n ∧ ∀ i, i < n → g (3 + i) = J (x i)
section MOD
variable {x : Nat → Nat} {n bs on : Nat} {g : Ar}
theorem S_isPlace9 (h : RV x n bs on) (hm : MA x n bs on g) {z : Int} (hz : -2147483648 ≤ z ∧ z < 2147483648) : F_X9_isPlace g (J z) = some (if 0 ≤ z ∧ z < n then 1 else 0) := by
  have hn := h.1
  unfold F_X9_isPlace
  rw [hm.2.2.1, J_K hz.1 hz.2, J_K (by omega) (by omega), show (0 : Int64) = K 0 from rfl, show (1 : Int64) = K 1 from rfl, K_sub, S_in (by omega) (by omega) (by omega) (by omega) (by omega) (by omega), Option.bind_some, z01]
  by_cases q : 0 ≤ z ∧ z < n
  · rw [if_pos q, if_pos (by omega)]
  · rw [if_neg q, if_neg (by omega)]
theorem S_number9 {z : Int} (i : Nat) (hz : z = i) (hi : i < 64) : F_X9_number g (J z) = some (g (3 + i)) := by
  unfold F_X9_number
  rw [L3, if_pos (by rw [L0, J_le (by omega) (by omega) (by omega) (by omega)]; omega), J_add, if_pos (gd_ok (by omega) (by omega) (by omega)), J_ix (3 + i) (by omega) (by omega)]
theorem S_na9 (hn : n ≤ 64) (hm : MA x n bs on g) {z : Int} (i : Nat) (hz : z = (i : Int) - 1) (hi : i ≤ n) : F_X9_number g (J z) = some (J (s_na x i)) := by
  unfold s_na
  by_cases h : i = 0
  · unfold F_X9_number
    rw [if_pos h, L0, jf_le (by omega) (by omega) (by omega) (by omega), if_neg (by omega)]
    rfl
  · rw [if_neg h, S_number9 (i - 1) (by omega) (by omega), hm.2.2.2 (i - 1) (by omega)]
theorem S_gapOf9 (h : RV x n bs on) (hm : MA x n bs on g) {z : Int} (i : Nat) (hz : z = i) (hi : i < n) : F_X9_gapOf g (J z) = some (J (s_gp x i)) := by
  have hn := h.1
  have h2 := (h.gp hi).2
  unfold F_X9_gapOf
  rw [S_number9 i hz (by omega), Option.bind_some, L1, J_sub, S_na9 hn hm i (by omega) (by omega), Option.bind_some, hm.2.2.2 i hi, J_sub, J_sub, h2]
  congr 2
  omega
theorem S_blocks9 (h : RV x n bs on) (hm : MA x n bs on g) : F_X9_blocks g = some (J (s_nb n bs)) := by
  have hn := h.1
  have h1 := h.2.1
  have hbs := h.2.2.1
  unfold F_X9_blocks
  rw [hm.1, hm.2.2.1, if_pos (by rw [L0, J_eq (by omega) (by omega) (by omega) (by omega)]; omega), J_add, L1, J_sub, J_div (by omega) (by omega) (by omega) (by omega)]
  unfold s_nb
  rw [show (n : Int) + bs - 1 = ((n + bs - 1 : Nat) : Int) by omega]
  rfl
theorem S_first9 (hm : MA x n bs on g) {z : Int} (b : Nat) (hz : z = b) : F_X9_first g (J z) = some (J ((b * bs : Nat) : Int)) := by
  subst hz
  unfold F_X9_first
  rw [hm.1, J_mul, Int.mul_comm]
  rfl
theorem S_end9 (h : RV x n bs on) (hm : MA x n bs on g) {z : Int} (b : Nat) (hz : z = b) (hb : b ≤ 64) : F_X9_end g (J z) = some (J (s_en n bs b)) := by
  subst hz
  have hn := h.1
  have hbs := h.2.2.1
  have h2 : b * bs ≤ 64 * 16 := Nat.mul_le_mul hb hbs
  have e : J (bs : Int) * (J (b : Int) + 1) = J ((b * bs + bs : Nat) : Int) := by
    rw [L1, J_add, J_mul]
    congr 1
    rw [Int.mul_add, Int.mul_one, Int.mul_comm]
    rfl
  unfold F_X9_end s_en
  rw [hm.1, hm.2.2.1, e, jf_le (by omega) (by omega) (by omega) (by omega)]
  by_cases q : n < b * bs + bs
  · rw [if_pos (by omega), if_pos q]
  · rw [if_neg q]
    by_cases r : (n : Int) ≤ ((b * bs + bs : Nat) : Int)
    · rw [if_pos r, show n = b * bs + bs by omega]
    · rw [if_neg r]
theorem S_isEscape9 (hm : MA x n bs on g) (ho : on ≤ 30) {gp e : Nat} (hg : gp < 2147483648) (he : e < 32) : F_X9_isEscape g (J gp) (J e) = some (if on ≤ gp / 2 ^ e then 1 else 0) := by
  unfold F_X9_isEscape
  rw [hm.2.1]
  exact S_isEscape hg he (by omega)
theorem S_codeBits9 (hm : MA x n bs on g) (ho : on ≤ 30) {gp e : Nat} (hg : gp < 2147483000) (he : e < 32) : F_X9_codeBits g (J gp) (J e) = some (J (s_cb on gp e)) := by
  have h := S_codeBits (on := on) hg he (by omega)
  unfold F_X8_codeBits at h
  rw [S_isEscape (by omega) he (by omega)] at h
  unfold F_X9_codeBits
  rw [S_isEscape9 hm ho (by omega) he, hm.2.1]
  exact h
theorem S_costOf9_ (h : RV x n bs on) (hm : MA x n bs on g) {b e : Nat} (hb : b < s_nb n bs) (he : e ≤ 15) (k : Int32 → Option Int32) : ∀ (m fuel j : Nat) (i3 i4 : Int32), j + m = s_en n bs b → m < fuel → b * bs ≤ j → i3 = J ((4 + s_cs on (s_gp x) e (b * bs) j : Nat) : Int) → i4 = J j →
    F_X9_costOf_L9 g (J b) (J e) k fuel i3 i4 = k (J ((4 + s_cs on (s_gp x) e (b * bs) (s_en n bs b) : Nat) : Int)) := by
  intro m
  have hn := h.1
  have hnb := s_nb_le (n := n) h.2.1
  have h3 := s_en_gt h.2.1 hb
  induction m with
  | zero =>
    intro fuel j i3 i4 hj hf hbj e3 e4
    obtain ⟨fuel, rfl⟩ : ∃ f, fuel = f + 1 := ⟨fuel - 1, by omega⟩
    rw [F_X9_costOf_L9, S_end9 h hm b rfl (by omega), Option.bind_some, e4, if_pos (by rw [J_le (by omega) (by omega) (by omega) (by omega)]; omega), e3, show j = s_en n bs b by omega]
  | succ m ih =>
    intro fuel j i3 i4 hj hf hbj e3 e4
    obtain ⟨fuel, rfl⟩ : ∃ f, fuel = f + 1 := ⟨fuel - 1, by omega⟩
    have hgp := (h.gp (show j < n by omega)).1
    have hps := s_ps_mono (on := on) (gp := s_gp x) (e := e) hbj
    rw [F_X9_costOf_L9, S_end9 h hm b rfl (by omega), Option.bind_some, e4, if_neg (by rw [J_le (by omega) (by omega) (by omega) (by omega)]; omega), S_gapOf9 h hm j rfl (by omega), Option.bind_some, S_codeBits9 hm h.2.2.2.2.1 (by omega) (by omega), Option.bind_some]
    refine ih fuel (j + 1) _ _ (by omega) (by omega) (by omega) ?_ (by rw [L1, J_add]; norm_cast)
    rw [e3, J_add]
    congr 1
    unfold s_cs
    have : s_ps on (s_gp x) e (j + 1) = s_ps on (s_gp x) e j + s_cb on (s_gp x j) e := rfl
    omega
theorem S_costOf9 (h : RV x n bs on) (hm : MA x n bs on g) {zb ze : Int} (b e : Nat) (eb : zb = b) (ee : ze = e) (hb : b < s_nb n bs) (he : e ≤ 15) : F_X9_costOf g (J zb) (J ze) = some (J ((4 + s_cs on (s_gp x) e (b * bs) (s_en n bs b) : Nat) : Int)) := by
  subst eb ee
  have hn := h.1
  have h3 := s_en_gt h.2.1 hb
  obtain ⟨f2, hf2⟩ := zFuel_ge (n := 65) (by omega)
  unfold F_X9_costOf
  rw [S_first9 hm b rfl, Option.bind_some, hf2]
  exact S_costOf9_ h hm hb he _ (s_en n bs b - b * bs) _ (b * bs) _ _ (by omega) (by omega) (by omega) (by unfold s_cs; rw [Nat.sub_self]; rfl) rfl
theorem S_exponentOf9_ (h : RV x n bs on) (hm : MA x n bs on g) {b : Nat} (hb : b < s_nb n bs) (k : Int32 → Option Int32) : ∀ (m fuel e : Nat) (i2 i3 : Int32), e + m = 15 → m + 1 < fuel → i2 = J (s_am (fun e => s_cs on (s_gp x) e (b * bs) (s_en n bs b)) e) → i3 = J ((e + 1 : Nat) : Int) →
    F_X9_exponentOf_L4 g (J b) k fuel i2 i3 = k (J (s_ex on (s_gp x) n bs b)) := by
  intro m
  have hn := h.1
  have h3 := s_en_gt h.2.1 hb
  have hcs : ∀ e, e ≤ 15 → s_cs on (s_gp x) e (b * bs) (s_en n bs b) ≤ 2944 := fun e he => by
    have := s_ps_le (gp := s_gp x) h.2.2.2.2.1 he (s_en n bs b)
    unfold s_cs
    omega
  induction m with
  | zero =>
    intro fuel e i2 i3 he hf e2 e3
    obtain ⟨fuel, rfl⟩ : ∃ f, fuel = f + 1 := ⟨fuel - 1, by omega⟩
    rw [F_X9_exponentOf_L4, e3, if_pos (by rw [L16, J_le (by omega) (by omega) (by omega) (by omega)]; omega), e2, show e = 15 by omega]
    rfl
  | succ m ih =>
    intro fuel e i2 i3 he hf e2 e3
    obtain ⟨fuel, rfl⟩ : ∃ f, fuel = f + 1 := ⟨fuel - 1, by omega⟩
    have h1 := s_am_le (f := fun e => s_cs on (s_gp x) e (b * bs) (s_en n bs b)) e
    have h4 := hcs (e + 1) (by omega)
    have h5 := hcs (s_am (fun e => s_cs on (s_gp x) e (b * bs) (s_en n bs b)) e) (by omega)
    have h6 : s_am (fun e => s_cs on (s_gp x) e (b * bs) (s_en n bs b)) (e + 1) = if s_cs on (s_gp x) (e + 1) (b * bs) (s_en n bs b) < s_cs on (s_gp x) (s_am (fun e => s_cs on (s_gp x) e (b * bs) (s_en n bs b)) e) (b * bs) (s_en n bs b) then e + 1 else s_am (fun e => s_cs on (s_gp x) e (b * bs) (s_en n bs b)) e := rfl
    rw [F_X9_exponentOf_L4, e3, if_neg (by rw [L16, J_le (by omega) (by omega) (by omega) (by omega)]; omega), S_costOf9 h hm b (e + 1) rfl rfl hb (by omega), Option.bind_some, e2, S_costOf9 h hm b _ rfl rfl hb (by omega), Option.bind_some, jf_le (by omega) (by omega) (by omega) (by omega)]
    by_cases hq : s_cs on (s_gp x) (e + 1) (b * bs) (s_en n bs b) < s_cs on (s_gp x) (s_am (fun e => s_cs on (s_gp x) e (b * bs) (s_en n bs b)) e) (b * bs) (s_en n bs b)
    · rw [if_pos hq] at h6
      rw [if_neg (by omega)]
      exact ih fuel (e + 1) _ _ (by omega) (by omega) (by rw [h6]) (by rw [L1, J_add]; norm_cast)
    · rw [if_neg hq] at h6
      rw [if_pos (by omega)]
      exact ih fuel (e + 1) _ _ (by omega) (by omega) (by rw [h6]) (by rw [L1, J_add]; norm_cast)
theorem S_exponentOf9 (h : RV x n bs on) (hm : MA x n bs on g) {zb : Int} (b : Nat) (eb : zb = b) (hb : b < s_nb n bs) : F_X9_exponentOf g (J zb) = some (J (s_ex on (s_gp x) n bs b)) := by
  subst eb
  obtain ⟨f2, hf2⟩ := zFuel_ge (n := 18) (by omega)
  unfold F_X9_exponentOf
  rw [hf2]
  exact S_exponentOf9_ h hm hb _ 15 _ 0 _ _ (by omega) (by omega) rfl rfl
theorem S_blockBits9 (h : RV x n bs on) (hm : MA x n bs on g) {zb : Int} (b : Nat) (eb : zb = b) (hb : b < s_nb n bs) : F_X9_blockBits g (J zb) = some (J (s_bb on (s_gp x) n bs b)) := by
  have he : s_ex on (s_gp x) n bs b ≤ 15 := s_be_le on (s_gp x) _ _
  unfold F_X9_blockBits
  rw [S_exponentOf9 h hm b eb hb, Option.bind_some, S_costOf9 h hm b _ eb rfl hb he, Option.bind_some]
  rfl
theorem S_skip9_ (h : RV x n bs on) (hm : MA x n bs on g) {B : Nat} (hB : B ≤ s_nb n bs) (k : Int32 → Option Int32) : ∀ (m fuel b : Nat) (i2 i3 : Int32), b + m = B → m < fuel → i2 = J (s_sk on (s_gp x) n bs b) → i3 = J b →
    F_X9_skip_L4 g (J B) k fuel i2 i3 = k (J (s_sk on (s_gp x) n bs B)) := by
  intro m
  have hn := h.1
  have hnb := s_nb_le (n := n) h.2.1
  induction m with
  | zero =>
    intro fuel b i2 i3 hb hf e2 e3
    obtain ⟨fuel, rfl⟩ : ∃ f, fuel = f + 1 := ⟨fuel - 1, by omega⟩
    rw [F_X9_skip_L4, e3, if_pos (by rw [J_le (by omega) (by omega) (by omega) (by omega)]; omega), e2, show b = B by omega]
  | succ m ih =>
    intro fuel b i2 i3 hb hf e2 e3
    obtain ⟨fuel, rfl⟩ : ∃ f, fuel = f + 1 := ⟨fuel - 1, by omega⟩
    rw [F_X9_skip_L4, e3, if_neg (by rw [J_le (by omega) (by omega) (by omega) (by omega)]; omega), S_blockBits9 h hm b rfl (by omega), Option.bind_some]
    exact ih fuel (b + 1) _ _ (by omega) (by omega) (by rw [e2, J_add]; show _ = J ((s_sk on (s_gp x) n bs b + s_bb on (s_gp x) n bs b : Nat) : Int); norm_cast) (by rw [L1, J_add]; norm_cast)
theorem S_skip9 (h : RV x n bs on) (hm : MA x n bs on g) {zb : Int} (b : Nat) (eb : zb = b) (hb : b ≤ s_nb n bs) : F_X9_skip g (J zb) = some (J (s_sk on (s_gp x) n bs b)) := by
  subst eb
  have hn := h.1
  have hnb := s_nb_le (n := n) h.2.1
  obtain ⟨f2, hf2⟩ := zFuel_ge (n := 65) (by omega)
  unfold F_X9_skip
  rw [hf2]
  exact S_skip9_ h hm hb _ b _ 0 _ _ (by omega) (by omega) rfl rfl
theorem S_streamBits9 (h : RV x n bs on) (hm : MA x n bs on g) : F_X9_streamBits g = some (J (s_tot on (s_gp x) n bs)) := by
  unfold F_X9_streamBits
  rw [S_blocks9 h hm, Option.bind_some, S_skip9 h hm (s_nb n bs) rfl (Nat.le_refl _), Option.bind_some]
  rfl
theorem S_bitsAhead9_ (h : RV x n bs on) (hm : MA x n bs on g) {a e i : Nat} (hi : i ≤ n) (he : e ≤ 15) (k : Int32 → Option Int32) : ∀ (m fuel j : Nat) (i4 i5 : Int32), j + m = i → m < fuel → a ≤ j → i4 = J ((4 + s_cs on (s_gp x) e a j : Nat) : Int) → i5 = J j →
    F_X9_bitsAhead_L16 g (J i) (J e) k fuel i4 i5 = k (J ((4 + s_cs on (s_gp x) e a i : Nat) : Int)) := by
  intro m
  have hn := h.1
  induction m with
  | zero =>
    intro fuel j i4 i5 hj hf haj e4 e5
    obtain ⟨fuel, rfl⟩ : ∃ f, fuel = f + 1 := ⟨fuel - 1, by omega⟩
    rw [F_X9_bitsAhead_L16, e5, if_pos (by rw [J_le (by omega) (by omega) (by omega) (by omega)]; omega), e4, show j = i by omega]
  | succ m ih =>
    intro fuel j i4 i5 hj hf haj e4 e5
    obtain ⟨fuel, rfl⟩ : ∃ f, fuel = f + 1 := ⟨fuel - 1, by omega⟩
    have hgp := (h.gp (show j < n by omega)).1
    have hps := s_ps_mono (on := on) (gp := s_gp x) (e := e) haj
    rw [F_X9_bitsAhead_L16, e5, if_neg (by rw [J_le (by omega) (by omega) (by omega) (by omega)]; omega), S_gapOf9 h hm j rfl (by omega), Option.bind_some, S_codeBits9 hm h.2.2.2.2.1 (by omega) (by omega), Option.bind_some]
    refine ih fuel (j + 1) _ _ (by omega) (by omega) (by omega) ?_ (by rw [L1, J_add]; norm_cast)
    rw [e4, J_add]
    congr 1
    unfold s_cs
    have : s_ps on (s_gp x) e (j + 1) = s_ps on (s_gp x) e j + s_cb on (s_gp x j) e := rfl
    omega
theorem S_bitsAhead9 (h : RV x n bs on) (hm : MA x n bs on g) {zb zi : Int} (b i : Nat) (eb : zb = b) (ei : zi = i) (hb : b < s_nb n bs) (h1 : b * bs ≤ i) (hi : i ≤ n) : F_X9_bitsAhead g (J zb) (J zi) = some (J ((4 + s_cs on (s_gp x) (s_ex on (s_gp x) n bs b) (b * bs) i : Nat) : Int)) := by
  subst ei
  have hn := h.1
  have he : s_ex on (s_gp x) n bs b ≤ 15 := s_be_le on (s_gp x) _ _
  obtain ⟨f2, hf2⟩ := zFuel_ge (n := 65) (by omega)
  unfold F_X9_bitsAhead
  rw [S_exponentOf9 h hm b eb hb, Option.bind_some, S_first9 hm b eb, Option.bind_some, hf2]
  exact S_bitsAhead9_ h hm hi he _ (i - b * bs) _ (b * bs) _ _ (by omega) (by omega) (by omega) (by unfold s_cs; rw [Nat.sub_self]; rfl) rfl
end MOD
