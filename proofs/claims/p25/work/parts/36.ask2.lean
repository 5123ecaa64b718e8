-- the class's questions: count, at, find, cost, with, best, check
/-- the place of the first number that is not less than q -/
def s_lo (x : Nat → Nat) (q : Int) : Nat → Nat
  | 0 => 0
  | n + 1 => if (x n : Int) < q then n + 1 else s_lo x q n
theorem s_lo_le (x : Nat → Nat) (q : Int) : ∀ n, s_lo x q n ≤ n := by
  intro n
  induction n with
  | zero => exact Nat.le_refl _
  | succ n ih => unfold s_lo; split <;> omega
theorem s_lo_at {x : Nat → Nat} {bs on : Nat} (q : Int) : ∀ {n : Nat}, RV x n bs on → ∀ i, i < n → ((x i : Int) < q ↔ i < s_lo x q n) := by
  intro n
  induction n with
  | zero => intro _ i hi; omega
  | succ n ih =>
    intro h i hi
    have hn : RV x n bs on := ⟨by have := h.1; omega, h.2.1, h.2.2.1, h.2.2.2.1, h.2.2.2.2.1, fun j hj => h.2.2.2.2.2.1 j (by omega), fun j hj => h.2.2.2.2.2.2 j (by omega)⟩
    unfold s_lo
    by_cases hq : (x n : Int) < q
    · rw [if_pos hq]
      refine ⟨fun _ => hi, fun _ => ?_⟩
      by_cases e : i = n
      · subst e; exact hq
      · have := h.lt (show i < n by omega) (show n < n + 1 by omega)
        omega
    · rw [if_neg hq]
      by_cases e : i = n
      · subst e
        have := s_lo_le x q i
        exact ⟨fun h1 => absurd h1 hq, fun h1 => by omega⟩
      · exact ih hn i (by omega)
/-- the last block whose base is less than q: a block b is such if b * BLOCK is at most s_lo -/
def s_bk (x : Nat → Nat) (n bs : Nat) (q : Int) : Nat := if s_lo x q n / bs < s_nb n bs then s_lo x q n / bs else s_nb n bs - 1
theorem s_na_lt {x : Nat → Nat} {n bs on : Nat} (h : RV x n bs on) {q : Int} (hq : 0 ≤ q) {i : Nat} (hi : i ≤ n) : s_na x i < q ↔ i ≤ s_lo x q n := by
  unfold s_na
  by_cases e : i = 0
  · subst e; rw [if_pos rfl]; omega
  · rw [if_neg e, s_lo_at q h (i - 1) (by omega)]; omega
theorem s_bk_at {x : Nat → Nat} {n bs on : Nat} (h : RV x n bs on) {q : Int} (hn : 0 < n) : s_bk x n bs q < s_nb n bs ∧ s_bk x n bs q * bs ≤ s_lo x q n ∧ (∀ b, b < s_nb n bs → b * bs ≤ s_lo x q n → b ≤ s_bk x n bs q) := by
  have h1 := h.2.1
  have hnb : 0 < s_nb n bs := (s_nb_lt h1).mpr (by omega)
  have h2 := Nat.div_mul_le_self (s_lo x q n) bs
  have h5 : ∀ b, b * bs ≤ s_lo x q n → b ≤ s_lo x q n / bs := fun b hb => (Nat.le_div_iff_mul_le (by omega)).mpr hb
  unfold s_bk
  split
  · rename_i h3
    exact ⟨h3, h2, fun b _ hb => h5 b hb⟩
  · rename_i h3
    refine ⟨by omega, ?_, fun b hb _ => by omega⟩
    exact Nat.le_trans (Nat.mul_le_mul_right bs (show s_nb n bs - 1 ≤ s_lo x q n / bs by omega)) h2
def a_find (x : Nat → Nat) (n bs on : Nat) (q w : Int) : Int32 :=
  if (0 ≤ q ∧ q ≤ 65535) ∧ 0 ≤ w ∧ w ≤ 3 then
    if w = 0 then J (s_lo x q n) else if w = 1 then (if s_lo x q n < n ∧ (x (s_lo x q n) : Int) = q then 1 else 0) else
    if n = 0 then (if w = 2 then -6 else 0) else
    if w = 2 then J (s_bk x n bs q) else J ((4 + s_cs on (s_gp x) (s_ex on (s_gp x) n bs (s_bk x n bs q)) (s_bk x n bs q * bs) (if s_lo x q n + 1 < s_en n bs (s_bk x n bs q) then s_lo x q n + 1 else s_en n bs (s_bk x n bs q)) : Nat) : Int)
  else -2
theorem a_find_bad {x : Nat → Nat} {n bs on : Nat} {q w : Int} (h : ¬ ((0 ≤ q ∧ q ≤ 65535) ∧ 0 ≤ w ∧ w ≤ 3)) : a_find x n bs on q w = -2 := by unfold a_find; rw [if_neg h]
theorem a_find_0 {x : Nat → Nat} {n bs on : Nat} {q : Int} (h : 0 ≤ q ∧ q ≤ 65535) : a_find x n bs on q 0 = J (s_lo x q n) := by unfold a_find; rw [if_pos ⟨h, by omega, by omega⟩, if_pos rfl]
theorem a_find_1 {x : Nat → Nat} {n bs on : Nat} {q : Int} (h : 0 ≤ q ∧ q ≤ 65535) : a_find x n bs on q 1 = if s_lo x q n < n ∧ (x (s_lo x q n) : Int) = q then 1 else 0 := by unfold a_find; rw [if_pos ⟨h, by omega, by omega⟩, if_neg (by omega), if_pos rfl]
theorem a_find_2 {x : Nat → Nat} {n bs on : Nat} {q : Int} (h : 0 ≤ q ∧ q ≤ 65535) : a_find x n bs on q 2 = if n = 0 then -6 else J (s_bk x n bs q) := by
  unfold a_find; rw [if_pos ⟨h, by omega, by omega⟩, if_neg (by omega), if_neg (by omega)]
  by_cases e : n = 0
  · rw [if_pos e, if_pos e, if_pos rfl]
  · rw [if_neg e, if_neg e, if_pos rfl]
theorem a_find_3 {x : Nat → Nat} {n bs on : Nat} {q : Int} (h : 0 ≤ q ∧ q ≤ 65535) : a_find x n bs on q 3 = if n = 0 then 0 else J ((4 + s_cs on (s_gp x) (s_ex on (s_gp x) n bs (s_bk x n bs q)) (s_bk x n bs q * bs) (if s_lo x q n + 1 < s_en n bs (s_bk x n bs q) then s_lo x q n + 1 else s_en n bs (s_bk x n bs q)) : Nat) : Int) := by
  unfold a_find; rw [if_pos ⟨h, by omega, by omega⟩, if_neg (by omega), if_neg (by omega)]
  by_cases e : n = 0
  · rw [if_pos e, if_pos e, if_neg (by omega)]
  · rw [if_neg e, if_neg e, if_neg (by omega)]
/-- the setting by which the bits are fewest, of several the greatest: among 1 .. k + 1 -/
def s_bz (f : Nat → Nat) : Nat → Nat
  | 0 => 1
  | k + 1 => if f (k + 2) ≤ f (s_bz f k) then k + 2 else s_bz f k
def s_with (x : Nat → Nat) (n bs on : Nat) (z w : Int) : Nat := if z = 0 then s_tot on (s_gp x) n w.toNat else s_tot w.toNat (s_gp x) n bs
abbrev a_setok (z w : Int) : Prop := (z = 0 ∧ 1 ≤ w ∧ w ≤ 16) ∨ (z = 1 ∧ 1 ≤ w ∧ w ≤ 30)
def a_best (x : Nat → Nat) (n on : Nat) (w : Int32) : Int32 := if w = 0 then J (s_bz (s_tot on (s_gp x) n) 15) else if w = 1 then J (s_tot on (s_gp x) n (s_bz (s_tot on (s_gp x) n) 15)) else -2
theorem RV.set {x : Nat → Nat} {n bs on bs' on' : Nat} (h : RV x n bs on) (h1 : 1 ≤ bs' ∧ bs' ≤ 16) (h2 : 1 ≤ on' ∧ on' ≤ 30) : RV x n bs' on' := ⟨h.1, h1.1, h1.2, h2.1, h2.2, h.2.2.2.2.2.1, h.2.2.2.2.2.2⟩
section ASK2
variable {x : Nat → Nat} {n bs on : Nat} {gn : Ar} {ge : Ar} {pl : Int32} {gs gk : Ar} {sl : Int32} {g : Ar}
theorem S_count8 (h : RV x n bs on) (hg : RA x n gn) (hc : CO x n bs on ge pl gs gk sl g) {p hl : Nat} (w : Int32) : F_X8_count ge sl (J hl) (J p) (J n) (J bs) (J on) gn w = some (a_count x n bs on p hl w) := by
  have hn := h.1
  have hbs := h.2.2.1
  have hnb := s_nb_le (n := n) h.2.1
  obtain ⟨f2, hf2⟩ := zFuel_ge (n := 65) (by omega)
  have e1 : F_X8_allEscapes ge (J n) (J bs) (J on) gn = some (J (s_ae on (s_gp x) n bs (s_nb n bs))) := by
    unfold F_X8_allEscapes
    rw [hf2]
    exact S_allEscapes4 h hg hc _ (s_nb n bs) _ 0 _ _ (by omega) (by omega) rfl rfl
  have e2 : F_X8_greatestExponent ge (J n) (J bs) = some (J (s_ge on (s_gp x) n bs (s_nb n bs))) := by
    unfold F_X8_greatestExponent
    rw [hf2]
    exact S_greatestExponent4 h hc _ (s_nb n bs) _ 0 _ _ (by omega) (by omega) rfl rfl
  unfold F_X8_count a_count
  rw [e1, e2, S_blocks h.2.1 (by omega) (by omega), Option.bind_some, Option.bind_some, Option.bind_some, L16, J_mul, hc.2.2.2.2.1, show ((n : Int) * 16) = ((n * 16 : Nat) : Int) by norm_cast]
  repeat' split
  all_goals rfl
theorem S_at49 (h : RV x n bs on) (hs : SL g sl (s_str on (s_gp x) n bs (s_nb n bs))) {b i : Nat} (hb : b < s_nb n bs) (hi2 : i < s_en n bs b) (k : Int32 → Int32 → Option (Int32 × Int32 × Int32 × Int32 × Int32)) : ∀ (m fuel j : Nat) (vn vm i4 : Int32), j + m = i + 1 → m < fuel → b * bs ≤ j → vn = J (s_pos on (s_gp x) n bs b j) → vm = J (s_na x j) → i4 = J j →
    F_X8_at_L49 sl (J (s_ex on (s_gp x) n bs b)) g (J on) (J i) k fuel vn vm i4 = k (J (s_pos on (s_gp x) n bs b (i + 1))) (J (x i)) := by
  intro m
  have hn := h.1
  have h3 := s_en_gt h.2.1 hb
  induction m with
  | zero =>
    intro fuel j vn vm i4 hj hf hbj en em e4
    obtain ⟨fuel, rfl⟩ : ∃ f, fuel = f + 1 := ⟨fuel - 1, by omega⟩
    rw [F_X8_at_L49, e4, if_pos (by rw [J_lt (by omega) (by omega) (by omega) (by omega)]; omega), en, em, show j = i + 1 by omega]
    rfl
  | succ m ih =>
    intro fuel j vn vm i4 hj hf hbj en em e4
    obtain ⟨fuel, rfl⟩ : ∃ f, fuel = f + 1 := ⟨fuel - 1, by omega⟩
    rw [F_X8_at_L49, e4, if_neg (by rw [J_lt (by omega) (by omega) (by omega) (by omega)]; omega), S_readNumber h hs hb hbj (by omega) en rfl em, Option.bind_some]
    exact ih fuel (j + 1) _ _ _ (by omega) (by omega) (by omega) rfl rfl (by rw [L1, J_add]; norm_cast)
theorem S_at8 (h : RV x n bs on) (hg : RA x n gn) (hc : CO x n bs on ge pl gs gk sl g) {z : Int} (hz : -2147483648 ≤ z ∧ z < 2147483648) (w a1 a2 a3 a4 : Int32) : ∃ c1 c2 c3 c4, F_X8_at gk sl a1 a2 a3 a4 g (J n) (J bs) (J on) gn (J z) w = some (a_at x n bs on z w, c1, c2, c3, c4) := by
  have hn := h.1
  have hbs := h.2.2.1
  unfold F_X8_at a_at
  rw [S_hasPlace5 hz.1 hz.2 (by omega), Option.bind_some]
  by_cases hp : 0 ≤ z ∧ z < n
  · obtain ⟨i, rfl⟩ : ∃ i : Nat, z = i := ⟨z.toNat, by omega⟩
    have hi : i < n := by omega
    obtain ⟨h1, h2, h3⟩ := s_blk h.2.1 hi
    obtain ⟨f2, hf2⟩ := zFuel_ge (n := 65) (by omega)
    have hpl := s_pos_le h h1 (show i / bs * bs ≤ i + 1 by omega) (by omega)
    have e1 : (4 + s_cs on (s_gp x) (s_ex on (s_gp x) n bs (i / bs)) (i / bs * bs) (i + 1) : Nat) = s_pos on (s_gp x) n bs (i / bs) (i + 1) - s_sk on (s_gp x) n bs (i / bs) := by unfold s_pos; omega
    have e2 : s_sk on (s_gp x) n bs (i / bs) ≤ s_pos on (s_gp x) n bs (i / bs) (i + 1) := by unfold s_pos; omega
    rw [if_pos hp, if_pos hp, if_neg (by decide), S_blockOf rfl h.2.1 (by omega) (by omega), Option.bind_some, S_openBlock h hg hc h1 rfl, Option.bind_some, S_firstOf rfl, Option.bind_some, hf2]
    rw [S_at49 h (hc.sl h) h1 h3 _ (i + 1 - i / bs * bs) (f2 + 65) (i / bs * bs) _ _ _ (by omega) (by omega) (by omega) rfl rfl rfl, Int.toNat_natCast]
    unfold F_X7_bitsRead
    rw [Option.bind_some, J_sub, e1, show ((s_pos on (s_gp x) n bs (i / bs) (i + 1) - s_sk on (s_gp x) n bs (i / bs) : Nat) : Int) = (s_pos on (s_gp x) n bs (i / bs) (i + 1) : Int) - s_sk on (s_gp x) n bs (i / bs) by omega]
    by_cases w0 : w = 0
    · rw [if_pos w0, if_pos w0, if_pos w0]; exact ⟨_, _, _, _, rfl⟩
    · by_cases w1 : w = 1
      · rw [if_neg w0, if_pos w1, if_neg w0, if_neg w0, if_pos w1]; exact ⟨_, _, _, _, rfl⟩
      · rw [if_neg w0, if_neg w1, if_neg w0, if_neg w1]; exact ⟨_, _, _, _, rfl⟩
  · rw [if_neg hp, if_neg hp, if_pos rfl]; exact ⟨_, _, _, _, rfl⟩
theorem S_isNumber8 {z : Int} (hz : -2147483648 ≤ z ∧ z < 2147483648) : F_X8_isNumber (J z) = some (if 0 ≤ z ∧ z ≤ 65535 then 1 else 0) := by
  unfold F_X8_isNumber
  rw [L0, L65535, jf_lt (by omega) (by omega) (by omega) (by omega), jf_lt (by omega) (by omega) (by omega) (by omega)]
  by_cases h1 : z < 0
  · rw [if_pos h1, if_neg (by omega)]
  · rw [if_neg h1]
    by_cases h2 : 65535 < z
    · rw [if_pos h2, if_neg (by omega)]
    · rw [if_neg h2, if_pos (by omega)]
theorem S_blockAround7 (h : RV x n bs on) (hg : RA x n gn) {q : Int} (hq : 0 ≤ q ∧ q ≤ 65535) (hn0 : 0 < n) (k : Unit → Option Int32) : ∀ (m fuel : Nat) (i2 : Int32), m < fuel → m < s_nb n bs → s_bk x n bs q ≤ m → i2 = J m →
    F_X5_blockAround_L7 (J bs) gn (J q) k fuel i2 = some (J (s_bk x n bs q)) := by
  intro m
  have hn := h.1
  have hnb := s_nb_le (n := n) h.2.1
  obtain ⟨b1, b2, b3⟩ := s_bk_at h (q := q) hn0
  induction m with
  | zero =>
    intro fuel i2 hf hm hbk e2
    obtain ⟨fuel, rfl⟩ : ∃ f, fuel = f + 1 := ⟨fuel - 1, by omega⟩
    rw [F_X5_blockAround_L7, e2, if_neg (by decide), S_firstOf (b := 0) rfl, Option.bind_some, S_numberAhead hg (0 * bs) rfl (by omega) hn, Option.bind_some]
    have : s_na x (0 * bs) = -1 := by rw [Nat.zero_mul]; rfl
    rw [this, if_neg (by rw [J_le (by omega) (by omega) (by omega) (by omega)]; omega), show s_bk x n bs q = 0 by omega]
  | succ m ih =>
    intro fuel i2 hf hm hbk e2
    obtain ⟨fuel, rfl⟩ : ∃ f, fuel = f + 1 := ⟨fuel - 1, by omega⟩
    have h1 := (s_nb_lt h.2.1).mp hm
    have h2 := s_na_lt h hq.1 (i := (m + 1) * bs) (by omega)
    have h3 : -1 ≤ s_na x ((m + 1) * bs) ∧ s_na x ((m + 1) * bs) < 65536 := by
      unfold s_na
      split
      · omega
      · have := h.2.2.2.2.2.1 ((m + 1) * bs - 1) (by omega); omega
    rw [F_X5_blockAround_L7, e2, if_neg (by rw [L0, J_lt (by omega) (by omega) (by omega) (by omega)]; omega), S_firstOf (b := m + 1) rfl, Option.bind_some, S_numberAhead hg ((m + 1) * bs) rfl (by omega) hn, Option.bind_some]
    by_cases hc : (m + 1) * bs ≤ s_lo x q n
    · rw [if_neg (by rw [J_le (by omega) (by omega) (by omega) (by omega)]; omega), show s_bk x n bs q = m + 1 by have := b3 (m + 1) hm hc; omega]
    · rw [if_pos (by rw [J_le (by omega) (by omega) (by omega) (by omega)]; omega)]
      refine ih fuel _ (by omega) (by omega) ?_ (by rw [Lm1, J_add]; congr 1; omega)
      by_cases e : s_bk x n bs q = m + 1
      · rw [e] at b2; exact absurd b2 hc
      · omega
theorem S_blockAround (h : RV x n bs on) (hg : RA x n gn) {q : Int} (hq : 0 ≤ q ∧ q ≤ 65535) : F_X5_blockAround (J n) (J bs) gn (J q) = some (if n = 0 then -6 else J (s_bk x n bs q)) := by
  have hn := h.1
  have hbs := h.2.2.1
  have hnb := s_nb_le (n := n) h.2.1
  obtain ⟨f2, hf2⟩ := zFuel_ge (n := 65) (by omega)
  unfold F_X5_blockAround
  rw [S_blocks h.2.1 (by omega) (by omega), Option.bind_some, hf2, L1, J_sub]
  by_cases h0 : n = 0
  · subst h0
    rw [if_pos rfl, show f2 + 65 = (f2 + 64) + 1 by omega, F_X5_blockAround_L7, if_pos (by rw [L0, J_lt (by omega) (by omega) (by omega) (by omega)]; omega)]
  · obtain ⟨b1, b2, b3⟩ := s_bk_at h (q := q) (by omega)
    rw [if_neg h0]
    exact S_blockAround7 h hg hq (by omega) _ (s_nb n bs - 1) _ _ (by omega) (by omega) (by omega) (by congr 1; omega)
theorem S_readUpTo24 (h : RV x n bs on) (hs : SL g sl (s_str on (s_gp x) n bs (s_nb n bs))) {q : Int} (hq : 0 ≤ q ∧ q ≤ 65535) {b : Nat} (hb : b < s_nb n bs) (vs : Int32) (hlo : b * bs ≤ s_lo x q n) (k : Int32 → Int32 → Option (Int32 × Int32 × Int32 × Int32 × Int32)) : ∀ (m fuel j : Nat) (vn vm i4 : Int32), j + m = s_en n bs b → m < fuel → b * bs ≤ j → j ≤ s_lo x q n → vn = J (s_pos on (s_gp x) n bs b j) → vm = J (s_na x j) → i4 = J j →
    F_X8_readUpTo_L24 sl vs (J (s_ex on (s_gp x) n bs b)) g (J on) (J q) (J (s_en n bs b)) k fuel vn vm i4 = if s_lo x q n < s_en n bs b then some (J (s_lo x q n), vs, J (s_pos on (s_gp x) n bs b (s_lo x q n + 1)), J (s_ex on (s_gp x) n bs b), J (x (s_lo x q n))) else k (J (s_pos on (s_gp x) n bs b (s_en n bs b))) (J (s_na x (s_en n bs b))) := by
  intro m
  have hn := h.1
  have h3 := s_en_gt h.2.1 hb
  induction m with
  | zero =>
    intro fuel j vn vm i4 hj hf hbj hjl en em e4
    obtain ⟨fuel, rfl⟩ : ∃ f, fuel = f + 1 := ⟨fuel - 1, by omega⟩
    rw [F_X8_readUpTo_L24, e4, if_pos (by rw [J_le (by omega) (by omega) (by omega) (by omega)]; omega), if_neg (by omega), en, em, show j = s_en n bs b by omega]
  | succ m ih =>
    intro fuel j vn vm i4 hj hf hbj hjl en em e4
    obtain ⟨fuel, rfl⟩ : ∃ f, fuel = f + 1 := ⟨fuel - 1, by omega⟩
    have h4 := s_lo_at q h j (by omega)
    have h5 := h.2.2.2.2.2.1 j (by omega)
    have h6 : s_na x (j + 1) = x j := by unfold s_na; rw [if_neg (by omega)]; rfl
    rw [F_X8_readUpTo_L24, e4, if_neg (by rw [J_le (by omega) (by omega) (by omega) (by omega)]; omega), S_readNumber h hs hb hbj (by omega) en rfl em, Option.bind_some, h6]
    by_cases hl : j < s_lo x q n
    · rw [if_pos (by rw [J_lt (by omega) (by omega) (by omega) (by omega)]; omega)]
      exact ih fuel (j + 1) _ _ _ (by omega) (by omega) (by omega) (by omega) rfl (by rw [h6]) (by rw [L1, J_add]; norm_cast)
    · rw [if_neg (by rw [J_lt (by omega) (by omega) (by omega) (by omega)]; omega), show s_lo x q n = j by omega, if_pos (by omega)]
theorem S_find8 (h : RV x n bs on) (hg : RA x n gn) (hc : CO x n bs on ge pl gs gk sl g) {q w : Int} (hz : -2147483648 ≤ q ∧ q < 2147483648) (hw : -2147483648 ≤ w ∧ w < 2147483648) (a1 a2 a3 a4 : Int32) : ∃ c1 c2 c3 c4, F_X8_find gk sl a1 a2 a3 a4 g (J n) (J bs) (J on) gn (J q) (J w) = some (a_find x n bs on q w, c1, c2, c3, c4) := by
  have hn := h.1
  have hbs := h.2.2.1
  have hnb := s_nb_le (n := n) h.2.1
  unfold F_X8_find
  rw [S_isNumber8 hz, Option.bind_some]
  by_cases hq : 0 ≤ q ∧ q ≤ 65535
  · rw [if_pos hq, if_neg (by decide), L0, L3, jf_lt (by omega) (by omega) (by omega) (by omega), jf_le (by omega) (by omega) (by omega) (by omega)]
    by_cases w0 : w < 0
    · rw [if_pos w0, a_find_bad (by omega)]; exact ⟨_, _, _, _, rfl⟩
    · rw [if_neg w0]
      by_cases w3 : w ≤ 3
      · rw [if_pos w3, S_blockAround h hg hq, Option.bind_some]
        by_cases h0 : n = 0
        · rw [if_pos h0, if_pos rfl, L2, jf_eq (by omega) (by omega) (by omega) (by omega)]
          have e0 : s_lo x q n = 0 := by have := s_lo_le x q n; omega
          by_cases w2 : w = 2
          · rw [if_pos w2, w2, a_find_2 hq, if_pos h0]; exact ⟨_, _, _, _, rfl⟩
          · rw [if_neg w2]
            rcases (show w = 0 ∨ w = 1 ∨ w = 3 by omega) with w' | w' | w'
            · rw [w', a_find_0 hq, e0]; exact ⟨_, _, _, _, rfl⟩
            · rw [w', a_find_1 hq, if_neg (by omega)]; exact ⟨_, _, _, _, rfl⟩
            · rw [w', a_find_3 hq, if_pos h0]; exact ⟨_, _, _, _, rfl⟩
        · obtain ⟨b1, b2, b3⟩ := s_bk_at h (q := q) (by omega)
          have hlon := s_lo_le x q n
          obtain ⟨c1, c2, c3⟩ := s_en_gt h.2.1 b1
          obtain ⟨f2, hf2⟩ := zFuel_ge (n := 65) (by omega)
          rw [if_neg h0, Lm6, jf_eq (by omega) (by omega) (by omega) (by omega), if_neg (by omega)]
          unfold F_X8_readUpTo
          rw [S_endOf rfl (by omega) (by omega), Option.bind_some, S_openBlock h hg hc b1 rfl, Option.bind_some, S_firstOf rfl, Option.bind_some, hf2]
          rw [S_readUpTo24 h (hc.sl h) hq b1 _ b2 _ (s_en n bs (s_bk x n bs q) - s_bk x n bs q * bs) (f2 + 65) (s_bk x n bs q * bs) _ _ _ (by omega) (by omega) (by omega) (by omega) rfl rfl rfl]
          by_cases hl : s_lo x q n < s_en n bs (s_bk x n bs q)
          · have hx := h.2.2.2.2.2.1 (s_lo x q n) (by omega)
            have hpe : s_pos on (s_gp x) n bs (s_bk x n bs q) (s_lo x q n + 1) = s_sk on (s_gp x) n bs (s_bk x n bs q) + (4 + s_cs on (s_gp x) (s_ex on (s_gp x) n bs (s_bk x n bs q)) (s_bk x n bs q * bs) (s_lo x q n + 1)) := by unfold s_pos; omega
            rw [if_pos hl, Option.bind_some, jf_eq (by omega) (by omega) (by omega) (by omega)]
            by_cases w0 : w = 0
            · rw [if_pos w0, w0, a_find_0 hq]; exact ⟨_, _, _, _, rfl⟩
            · rw [if_neg w0, L1, jf_eq (by omega) (by omega) (by omega) (by omega)]
              by_cases w1 : w = 1
              · rw [if_pos w1, w1, a_find_1 hq, jf_eq (by omega) (by omega) (by omega) (by omega)]
                by_cases hx2 : (x (s_lo x q n) : Int) = q
                · rw [if_pos hx2, if_pos ⟨by omega, hx2⟩]; exact ⟨_, _, _, _, rfl⟩
                · rw [if_neg hx2, if_neg (fun t => hx2 t.2)]; exact ⟨_, _, _, _, rfl⟩
              · rw [if_neg w1, L2, jf_eq (by omega) (by omega) (by omega) (by omega)]
                by_cases w2 : w = 2
                · rw [if_pos w2, w2, a_find_2 hq, if_neg h0]; exact ⟨_, _, _, _, rfl⟩
                · rw [if_neg w2, show w = 3 by omega, a_find_3 hq, if_neg h0]
                  unfold F_X7_bitsRead
                  have e9 : (if s_lo x q n + 1 < s_en n bs (s_bk x n bs q) then s_lo x q n + 1 else s_en n bs (s_bk x n bs q)) = s_lo x q n + 1 := by split <;> omega
                  rw [Option.bind_some, e9, J_sub, hpe, show ((s_sk on (s_gp x) n bs (s_bk x n bs q) + (4 + s_cs on (s_gp x) (s_ex on (s_gp x) n bs (s_bk x n bs q)) (s_bk x n bs q * bs) (s_lo x q n + 1)) : Nat) : Int) - (s_sk on (s_gp x) n bs (s_bk x n bs q) : Int) = ((4 + s_cs on (s_gp x) (s_ex on (s_gp x) n bs (s_bk x n bs q)) (s_bk x n bs q * bs) (s_lo x q n + 1) : Nat) : Int) by omega]
                  exact ⟨_, _, _, _, rfl⟩
          · have hen : s_en n bs (s_bk x n bs q) = n ∧ s_lo x q n = n := by
              by_cases hbl : s_bk x n bs q + 1 < s_nb n bs
              · have h5 := (s_nb_lt h.2.1).mp hbl
                have h6 : (s_bk x n bs q + 1) * bs = s_bk x n bs q * bs + bs := Nat.succ_mul _ _
                have h7 : s_en n bs (s_bk x n bs q) = s_bk x n bs q * bs + bs := by unfold s_en; rw [if_neg (by omega)]
                have h8 := b3 (s_bk x n bs q + 1) hbl (by omega)
                omega
              · have h5 : ¬ (s_bk x n bs q + 1) * bs < n := fun t => by have := (s_nb_lt h.2.1).mpr t; omega
                have h6 : (s_bk x n bs q + 1) * bs = s_bk x n bs q * bs + bs := Nat.succ_mul _ _
                have h7 : s_en n bs (s_bk x n bs q) = n := by unfold s_en; split <;> omega
                omega
            have hpe : s_pos on (s_gp x) n bs (s_bk x n bs q) (s_en n bs (s_bk x n bs q)) = s_sk on (s_gp x) n bs (s_bk x n bs q) + (4 + s_cs on (s_gp x) (s_ex on (s_gp x) n bs (s_bk x n bs q)) (s_bk x n bs q * bs) (s_en n bs (s_bk x n bs q))) := by unfold s_pos; omega
            rw [if_neg hl, Option.bind_some, jf_eq (by omega) (by omega) (by omega) (by omega)]
            by_cases w0 : w = 0
            · rw [if_pos w0, w0, a_find_0 hq, hen.1, hen.2]; exact ⟨_, _, _, _, rfl⟩
            · rw [if_neg w0, L1, jf_eq (by omega) (by omega) (by omega) (by omega)]
              by_cases w1 : w = 1
              · have h8 := s_lo_at q h (n - 1) (by omega)
                have h9 := h.2.2.2.2.2.1 (n - 1) (by omega)
                have h10 : s_na x n = x (n - 1) := by unfold s_na; rw [if_neg (by omega)]
                rw [if_pos w1, w1, a_find_1 hq, hen.1, h10, jf_eq (by omega) (by omega) (by omega) (by omega), if_neg (by omega), if_neg (by omega)]
                exact ⟨_, _, _, _, rfl⟩
              · rw [if_neg w1, L2, jf_eq (by omega) (by omega) (by omega) (by omega)]
                by_cases w2 : w = 2
                · rw [if_pos w2, w2, a_find_2 hq, if_neg h0]; exact ⟨_, _, _, _, rfl⟩
                · rw [if_neg w2, show w = 3 by omega, a_find_3 hq, if_neg h0]
                  unfold F_X7_bitsRead
                  rw [Option.bind_some, if_neg (by omega), J_sub, hpe, show ((s_sk on (s_gp x) n bs (s_bk x n bs q) + (4 + s_cs on (s_gp x) (s_ex on (s_gp x) n bs (s_bk x n bs q)) (s_bk x n bs q * bs) (s_en n bs (s_bk x n bs q))) : Nat) : Int) - (s_sk on (s_gp x) n bs (s_bk x n bs q) : Int) = ((4 + s_cs on (s_gp x) (s_ex on (s_gp x) n bs (s_bk x n bs q)) (s_bk x n bs q * bs) (s_en n bs (s_bk x n bs q)) : Nat) : Int) by omega]
                  exact ⟨_, _, _, _, rfl⟩
      · rw [if_neg w3, a_find_bad (by omega)]; exact ⟨_, _, _, _, rfl⟩
  · rw [if_neg hq, if_pos rfl, a_find_bad (fun t => hq t.1)]; exact ⟨_, _, _, _, rfl⟩
end ASK2
