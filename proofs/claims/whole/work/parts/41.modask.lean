-- the reference's questions
section MODASK
variable {x : Nat → Nat} {n bs on : Nat} {g : Ar}
theorem S_gap9 (h : RV x n bs on) (hm : MA x n bs on g) {z : Int} (hz : -2147483648 ≤ z ∧ z < 2147483648) (w : Int32) : F_X9_gap g (J z) w = some (a_gap x n bs on z w) := by
  have hn := h.1
  have hbs := h.2.2.1
  have ho := h.2.2.2.2.1
  unfold F_X9_gap a_gap
  rw [S_isPlace9 h hm hz, Option.bind_some]
  by_cases hp : 0 ≤ z ∧ z < n
  · obtain ⟨i, rfl⟩ : ∃ i : Nat, z = i := ⟨z.toNat, by omega⟩
    have hi : i < n := by omega
    obtain ⟨h1, h2, h3⟩ := s_blk h.2.1 hi
    have hnb := s_nb_le (n := n) h.2.1
    have he : s_ex on (s_gp x) n bs (i / bs) ≤ 15 := s_be_le on (s_gp x) _ _
    have hgp := (h.gp hi).1
    have e0 : J (i : Int) / g 0 = J ((i / bs : Nat) : Int) := by
      rw [hm.1, J_div (by omega) (by omega) (by have := h.2.1; omega) (by omega)]; rfl
    rw [if_pos hp, if_pos hp, if_neg (by decide), if_pos (by rw [hm.1, L0, J_eq (by omega) (by omega) (by omega) (by omega)]; have := h.2.1; omega), e0, S_exponentOf9 h hm (i / bs) rfl h1, Option.bind_some, S_gapOf9 h hm i rfl hi, Option.bind_some, Option.bind_some, Option.bind_some, S_codeBits9 hm ho (by omega) (by omega), Option.bind_some, S_isEscape9 hm ho (by omega) (by omega), Option.bind_some, S_skip9 h hm (i / bs) rfl (by omega), Option.bind_some, S_bitsAhead9 h hm (i / bs) i rfl rfl h1 h2 (by omega), Option.bind_some, J_add, Int.toNat_natCast]
    have e1 : (s_sk on (s_gp x) n bs (i / bs) : Int) + ((4 + s_cs on (s_gp x) (s_ex on (s_gp x) n bs (i / bs)) (i / bs * bs) i : Nat) : Int) = (s_pos on (s_gp x) n bs (i / bs) i : Int) := by unfold s_pos; omega
    have e2 : (if (if on ≤ s_gp x i / 2 ^ s_ex on (s_gp x) n bs (i / bs) then (1 : Int32) else 0) = 0 then some 0 else some (1 : Int32)) = some (J (s_esc on (s_gp x i) (s_ex on (s_gp x) n bs (i / bs)))) := by
      unfold s_esc
      split <;> rfl
    rw [e1, e2]
    repeat' split
    all_goals rfl
  · rw [if_neg hp, if_neg hp, if_pos rfl]
theorem S_isBlock9 (h : RV x n bs on) (hm : MA x n bs on g) {z : Int} (hz : -2147483648 ≤ z ∧ z < 2147483648) : F_X9_isBlock g (J z) = some (if 0 ≤ z ∧ z < s_nb n bs then 1 else 0) := by
  have hn := h.1
  have hnb := s_nb_le (n := n) h.2.1
  unfold F_X9_isBlock
  rw [S_blocks9 h hm, Option.bind_some, J_K hz.1 hz.2, J_K (by omega) (by omega), show (0 : Int64) = K 0 from rfl, show (1 : Int64) = K 1 from rfl, K_sub, S_in (by omega) (by omega) (by omega) (by omega) (by omega) (by omega), Option.bind_some, z01]
  by_cases q : 0 ≤ z ∧ z < s_nb n bs
  · rw [if_pos q, if_pos (by omega)]
  · rw [if_neg q, if_neg (by omega)]
theorem S_base9 (h : RV x n bs on) (hm : MA x n bs on g) {z : Int} (b : Nat) (hz : z = b) (hb : b < s_nb n bs) : F_X9_base g (J z) = some (J (s_na x (b * bs))) := by
  have h1 := (s_nb_lt h.2.1).mp hb
  unfold F_X9_base
  rw [S_first9 hm b hz, Option.bind_some, L1, J_sub, S_na9 h.1 hm (b * bs) rfl (by omega), Option.bind_some]
theorem S_escapes9_ (h : RV x n bs on) (hm : MA x n bs on g) {b e : Nat} (hb : b < s_nb n bs) (he : e ≤ 15) (k : Int32 → Option Int32) : ∀ (m fuel j : Nat) (i2 i4 : Int32), b * bs + j + m = s_en n bs b → m < fuel → i2 = J (s_es on (s_gp x) e (b * bs) j) → i4 = J ((b * bs + j : Nat) : Int) →
    F_X9_escapes_L15 g (J b) (J e) k fuel i2 i4 = k (J (s_es on (s_gp x) e (b * bs) (s_en n bs b - b * bs))) := by
  intro m
  have hn := h.1
  have hnb := s_nb_le (n := n) h.2.1
  have h3 := s_en_gt h.2.1 hb
  induction m with
  | zero =>
    intro fuel j i2 i4 hj hf e2 e4
    obtain ⟨fuel, rfl⟩ : ∃ f, fuel = f + 1 := ⟨fuel - 1, by omega⟩
    rw [F_X9_escapes_L15, S_end9 h hm b rfl (by omega), Option.bind_some, e4, if_pos (by rw [J_le (by omega) (by omega) (by omega) (by omega)]; omega), e2, show s_en n bs b - b * bs = j by omega]
  | succ m ih =>
    intro fuel j i2 i4 hj hf e2 e4
    obtain ⟨fuel, rfl⟩ : ∃ f, fuel = f + 1 := ⟨fuel - 1, by omega⟩
    have hgp := (h.gp (show b * bs + j < n by omega)).1
    rw [F_X9_escapes_L15, S_end9 h hm b rfl (by omega), Option.bind_some, e4, if_neg (by rw [J_le (by omega) (by omega) (by omega) (by omega)]; omega), S_gapOf9 h hm (b * bs + j) rfl (by omega), Option.bind_some, S_isEscape9 hm h.2.2.2.2.1 (by omega) (by omega), Option.bind_some]
    have e6 : s_es on (s_gp x) e (b * bs) (j + 1) = s_es on (s_gp x) e (b * bs) j + s_esc on (s_gp x (b * bs + j)) e := rfl
    unfold s_esc at e6
    by_cases hq : on ≤ s_gp x (b * bs + j) / 2 ^ e
    · rw [if_pos hq] at e6
      rw [if_pos hq, if_neg (by decide)]
      exact ih fuel (j + 1) _ _ (by omega) (by omega) (by rw [e2, L1, J_add, e6]; norm_cast) (by rw [L1, J_add]; norm_cast)
    · rw [if_neg hq] at e6
      rw [if_neg hq, if_pos rfl]
      exact ih fuel (j + 1) _ _ (by omega) (by omega) (by rw [e2, L0, J_add, e6]; norm_cast) (by rw [L1, J_add]; norm_cast)
theorem S_escapes9 (h : RV x n bs on) (hm : MA x n bs on g) {z : Int} (b : Nat) (hz : z = b) (hb : b < s_nb n bs) : F_X9_escapes g (J z) = some (J (s_es on (s_gp x) (s_ex on (s_gp x) n bs b) (b * bs) (s_en n bs b - b * bs))) := by
  subst hz
  have hn := h.1
  have h3 := s_en_gt h.2.1 hb
  have he : s_ex on (s_gp x) n bs b ≤ 15 := s_be_le on (s_gp x) _ _
  obtain ⟨f2, hf2⟩ := zFuel_ge (n := 65) (by omega)
  unfold F_X9_escapes
  rw [S_exponentOf9 h hm b rfl hb, Option.bind_some, S_first9 hm b rfl, Option.bind_some, hf2]
  exact S_escapes9_ h hm hb he _ (s_en n bs b - b * bs) _ 0 _ _ (by omega) (by omega) rfl rfl
theorem S_greatestGap9_ (h : RV x n bs on) (hm : MA x n bs on g) {b : Nat} (hb : b < s_nb n bs) (k : Int32 → Option Int32) : ∀ (m fuel j : Nat) (i2 i3 : Int32), b * bs + j + m = s_en n bs b → m < fuel → i2 = J (s_gg (s_gp x) (b * bs) j) → i3 = J ((b * bs + j : Nat) : Int) →
    F_X9_greatestGap_L8 g (J b) k fuel i2 i3 = k (J (s_gg (s_gp x) (b * bs) (s_en n bs b - b * bs))) := by
  intro m
  have hn := h.1
  have hnb := s_nb_le (n := n) h.2.1
  have h3 := s_en_gt h.2.1 hb
  induction m with
  | zero =>
    intro fuel j i2 i3 hj hf e2 e3
    obtain ⟨fuel, rfl⟩ : ∃ f, fuel = f + 1 := ⟨fuel - 1, by omega⟩
    rw [F_X9_greatestGap_L8, S_end9 h hm b rfl (by omega), Option.bind_some, e3, if_pos (by rw [J_le (by omega) (by omega) (by omega) (by omega)]; omega), e2, show s_en n bs b - b * bs = j by omega]
  | succ m ih =>
    intro fuel j i2 i3 hj hf e2 e3
    obtain ⟨fuel, rfl⟩ : ∃ f, fuel = f + 1 := ⟨fuel - 1, by omega⟩
    have hgp := (h.gp (show b * bs + j < n by omega)).1
    have hgg := s_gg_lt h (b * bs) j (by omega)
    have e6 : s_gg (s_gp x) (b * bs) (j + 1) = if s_gg (s_gp x) (b * bs) j < s_gp x (b * bs + j) then s_gp x (b * bs + j) else s_gg (s_gp x) (b * bs) j := rfl
    rw [F_X9_greatestGap_L8, S_end9 h hm b rfl (by omega), Option.bind_some, e3, if_neg (by rw [J_le (by omega) (by omega) (by omega) (by omega)]; omega), S_gapOf9 h hm (b * bs + j) rfl (by omega), Option.bind_some, Option.bind_some, e2, jf_le (by omega) (by omega) (by omega) (by omega)]
    by_cases hq : s_gg (s_gp x) (b * bs) j < s_gp x (b * bs + j)
    · rw [if_pos hq] at e6
      rw [if_neg (by omega)]
      exact ih fuel (j + 1) _ _ (by omega) (by omega) (by rw [e6]) (by rw [L1, J_add]; norm_cast)
    · rw [if_neg hq] at e6
      rw [if_pos (by omega)]
      exact ih fuel (j + 1) _ _ (by omega) (by omega) (by rw [e6]) (by rw [L1, J_add]; norm_cast)
theorem S_greatestGap9 (h : RV x n bs on) (hm : MA x n bs on g) {z : Int} (b : Nat) (hz : z = b) (hb : b < s_nb n bs) : F_X9_greatestGap g (J z) = some (J (s_gg (s_gp x) (b * bs) (s_en n bs b - b * bs))) := by
  subst hz
  have hn := h.1
  have h3 := s_en_gt h.2.1 hb
  obtain ⟨f2, hf2⟩ := zFuel_ge (n := 65) (by omega)
  unfold F_X9_greatestGap
  rw [S_first9 hm b rfl, Option.bind_some, hf2]
  exact S_greatestGap9_ h hm hb _ (s_en n bs b - b * bs) _ 0 _ _ (by omega) (by omega) rfl rfl
theorem S_block9 (h : RV x n bs on) (hm : MA x n bs on g) {z : Int} (hz : -2147483648 ≤ z ∧ z < 2147483648) (w : Int32) : F_X9_block g (J z) w = some (a_block x n bs on z w) := by
  have hn := h.1
  have hnb := s_nb_le (n := n) h.2.1
  unfold F_X9_block a_block
  rw [S_isBlock9 h hm hz, Option.bind_some]
  by_cases hp : 0 ≤ z ∧ z < s_nb n bs
  · obtain ⟨b, rfl⟩ : ∃ i : Nat, z = i := ⟨z.toNat, by omega⟩
    have hb : b < s_nb n bs := by omega
    obtain ⟨h1, h2, h3⟩ := s_en_gt h.2.1 hb
    rw [if_pos hp, if_pos hp, if_neg (by decide), S_exponentOf9 h hm b rfl hb, Option.bind_some, S_end9 h hm b rfl (by omega), Option.bind_some, S_first9 hm b rfl, Option.bind_some, S_blockBits9 h hm b rfl hb, Option.bind_some, S_skip9 h hm b rfl (by omega), Option.bind_some, S_base9 h hm b rfl hb, Option.bind_some, S_escapes9 h hm b rfl hb, Option.bind_some, S_greatestGap9 h hm b rfl hb, Option.bind_some, J_sub, L1, J_add, Int.toNat_natCast, show ((s_en n bs b : Int) - ((b * bs : Nat) : Int)) = ((s_en n bs b - b * bs : Nat) : Int) by omega]
    repeat' split
    all_goals rfl
  · rw [if_neg hp, if_neg hp, if_pos rfl]
theorem S_escapesOfAll9_ (h : RV x n bs on) (hm : MA x n bs on g) (k : Int32 → Option Int32) : ∀ (m fuel b : Nat) (i1 i2 : Int32), b + m = s_nb n bs → m < fuel → i1 = J (s_ae on (s_gp x) n bs b) → i2 = J b →
    F_X9_escapesOfAll_L4 g k fuel i1 i2 = k (J (s_ae on (s_gp x) n bs (s_nb n bs))) := by
  intro m
  have hn := h.1
  have hnb := s_nb_le (n := n) h.2.1
  induction m with
  | zero =>
    intro fuel b i1 i2 hb hf e1 e2
    obtain ⟨fuel, rfl⟩ : ∃ f, fuel = f + 1 := ⟨fuel - 1, by omega⟩
    rw [F_X9_escapesOfAll_L4, S_blocks9 h hm, Option.bind_some, e2, if_pos (by rw [J_le (by omega) (by omega) (by omega) (by omega)]; omega), e1, show b = s_nb n bs by omega]
  | succ m ih =>
    intro fuel b i1 i2 hb hf e1 e2
    obtain ⟨fuel, rfl⟩ : ∃ f, fuel = f + 1 := ⟨fuel - 1, by omega⟩
    rw [F_X9_escapesOfAll_L4, S_blocks9 h hm, Option.bind_some, e2, if_neg (by rw [J_le (by omega) (by omega) (by omega) (by omega)]; omega), S_escapes9 h hm b rfl (by omega), Option.bind_some]
    exact ih fuel (b + 1) _ _ (by omega) (by omega) (by rw [e1, J_add]; show _ = J ((s_ae on (s_gp x) n bs b + s_es on (s_gp x) (s_ex on (s_gp x) n bs b) (b * bs) (s_en n bs b - b * bs) : Nat) : Int); norm_cast) (by rw [L1, J_add]; norm_cast)
theorem S_greatestExponent9_ (h : RV x n bs on) (hm : MA x n bs on g) (k : Int32 → Option Int32) : ∀ (m fuel b : Nat) (i1 i2 : Int32), b + m = s_nb n bs → m < fuel → i1 = J (s_ge on (s_gp x) n bs b) → i2 = J b →
    F_X9_greatestExponent_L5 g k fuel i1 i2 = k (J (s_ge on (s_gp x) n bs (s_nb n bs))) := by
  intro m
  have hn := h.1
  have hnb := s_nb_le (n := n) h.2.1
  induction m with
  | zero =>
    intro fuel b i1 i2 hb hf e1 e2
    obtain ⟨fuel, rfl⟩ : ∃ f, fuel = f + 1 := ⟨fuel - 1, by omega⟩
    rw [F_X9_greatestExponent_L5, S_blocks9 h hm, Option.bind_some, e2, if_pos (by rw [J_le (by omega) (by omega) (by omega) (by omega)]; omega), e1, show b = s_nb n bs by omega]
  | succ m ih =>
    intro fuel b i1 i2 hb hf e1 e2
    obtain ⟨fuel, rfl⟩ : ∃ f, fuel = f + 1 := ⟨fuel - 1, by omega⟩
    have he : s_ex on (s_gp x) n bs b ≤ 15 := s_be_le on (s_gp x) _ _
    have hge := s_ge_rg on (s_gp x) n bs b
    have e6 : s_ge on (s_gp x) n bs (b + 1) = if s_ge on (s_gp x) n bs b < s_ex on (s_gp x) n bs b then (s_ex on (s_gp x) n bs b : Int) else s_ge on (s_gp x) n bs b := rfl
    rw [F_X9_greatestExponent_L5, S_blocks9 h hm, Option.bind_some, e2, if_neg (by rw [J_le (by omega) (by omega) (by omega) (by omega)]; omega), S_exponentOf9 h hm b rfl (by omega), Option.bind_some, Option.bind_some, e1, jf_le (by omega) (by omega) (by omega) (by omega)]
    by_cases hq : s_ge on (s_gp x) n bs b < s_ex on (s_gp x) n bs b
    · rw [if_pos hq] at e6
      rw [if_neg (by omega)]
      exact ih fuel (b + 1) _ _ (by omega) (by omega) (by rw [e6]) (by rw [L1, J_add]; norm_cast)
    · rw [if_neg hq] at e6
      rw [if_pos (by omega)]
      exact ih fuel (b + 1) _ _ (by omega) (by omega) (by rw [e6]) (by rw [L1, J_add]; norm_cast)
theorem S_count9 (h : RV x n bs on) (hm : MA x n bs on g) {p hl : Nat} (w : Int32) : F_X9_count (J hl) (J p) g w = some (a_count x n bs on p hl w) := by
  have hn := h.1
  have hnb := s_nb_le (n := n) h.2.1
  obtain ⟨f2, hf2⟩ := zFuel_ge (n := 65) (by omega)
  have e1 : F_X9_escapesOfAll g = some (J (s_ae on (s_gp x) n bs (s_nb n bs))) := by
    unfold F_X9_escapesOfAll
    rw [hf2]
    exact S_escapesOfAll9_ h hm _ (s_nb n bs) _ 0 _ _ (by omega) (by omega) rfl rfl
  have e2 : F_X9_greatestExponent g = some (J (s_ge on (s_gp x) n bs (s_nb n bs))) := by
    unfold F_X9_greatestExponent
    rw [hf2]
    exact S_greatestExponent9_ h hm _ (s_nb n bs) _ 0 _ _ (by omega) (by omega) rfl rfl
  have e3 : (16 : Int32) * J (n : Int) = J ((n * 16 : Nat) : Int) := by
    rw [L16, J_mul]; congr 1; omega
  unfold F_X9_count a_count
  rw [e1, e2, S_blocks9 h hm, S_streamBits9 h hm, Option.bind_some, Option.bind_some, Option.bind_some, Option.bind_some, hm.2.2.1, e3]
  by_cases w6 : w = 6
  · subst w6
    rw [show ((6 : Int32) - 6).toNatClampNeg = 0 from rfl, hm.1]; rfl
  · by_cases w7 : w = 7
    · subst w7
      rw [show ((7 : Int32) - 6).toNatClampNeg = 1 from rfl, hm.2.1]; rfl
    · rw [if_neg w6, if_neg w7, if_neg w6, if_neg w7]
      repeat' split
      all_goals rfl
/-- the first place of a number not less -/
theorem S_lowest9_ (h : RV x n bs on) (hm : MA x n bs on g) {q : Int} (hq : 0 ≤ q ∧ q ≤ 65535) (k : Int32 → Option Int32) : ∀ (m fuel j : Nat) (i2 : Int32), j + m = s_lo x q n → m < fuel → i2 = J j →
    F_X9_lowest_L2 g (J q) k fuel i2 = k (J (s_lo x q n)) := by
  intro m
  have hn := h.1
  have hl := s_lo_le x q n
  induction m with
  | zero =>
    intro fuel j i2 hj hf e2
    obtain ⟨fuel, rfl⟩ : ∃ f, fuel = f + 1 := ⟨fuel - 1, by omega⟩
    rw [F_X9_lowest_L2, e2, hm.2.2.1, jf_le (by omega) (by omega) (by omega) (by omega)]
    by_cases hjn : n ≤ j
    · rw [if_pos (by omega), show s_lo x q n = j by omega]
    · have h4 := s_lo_at q h j (by omega)
      have h5 := h.2.2.2.2.2.1 j (by omega)
      rw [if_neg (by omega), S_number9 j rfl (by omega), Option.bind_some, hm.2.2.2 j (by omega), jf_le (by omega) (by omega) (by omega) (by omega), if_pos (by omega), show s_lo x q n = j by omega]
  | succ m ih =>
    intro fuel j i2 hj hf e2
    obtain ⟨fuel, rfl⟩ : ∃ f, fuel = f + 1 := ⟨fuel - 1, by omega⟩
    have h4 := s_lo_at q h j (by omega)
    have h5 := h.2.2.2.2.2.1 j (by omega)
    rw [F_X9_lowest_L2, e2, hm.2.2.1, jf_le (by omega) (by omega) (by omega) (by omega), if_neg (by omega), S_number9 j rfl (by omega), Option.bind_some, hm.2.2.2 j (by omega), jf_le (by omega) (by omega) (by omega) (by omega), if_neg (by omega)]
    exact ih fuel (j + 1) _ (by omega) (by omega) (by rw [L1, J_add]; norm_cast)
theorem S_lowest9 (h : RV x n bs on) (hm : MA x n bs on g) {q : Int} (hq : 0 ≤ q ∧ q ≤ 65535) : F_X9_lowest g (J q) = some (J (s_lo x q n)) := by
  have hn := h.1
  have hl := s_lo_le x q n
  obtain ⟨f2, hf2⟩ := zFuel_ge (n := 65) (by omega)
  unfold F_X9_lowest
  rw [hf2]
  exact S_lowest9_ h hm hq _ (s_lo x q n) _ 0 _ (by omega) (by omega) rfl
theorem S_isThere9 (h : RV x n bs on) (hm : MA x n bs on g) {q : Int} (hq : 0 ≤ q ∧ q ≤ 65535) : F_X9_isThere g (J q) = some (if s_lo x q n < n ∧ (x (s_lo x q n) : Int) = q then 1 else 0) := by
  have hn := h.1
  have hl := s_lo_le x q n
  unfold F_X9_isThere
  rw [S_lowest9 h hm hq, Option.bind_some, hm.2.2.1, jf_le (by omega) (by omega) (by omega) (by omega)]
  by_cases h1 : s_lo x q n < n
  · have h5 := h.2.2.2.2.2.1 _ h1
    rw [if_neg (by omega), S_number9 _ rfl (by omega), Option.bind_some, hm.2.2.2 _ h1, jf_eq (by omega) (by omega) (by omega) (by omega)]
    by_cases h2 : (x (s_lo x q n) : Int) = q
    · rw [if_pos h2, if_pos ⟨h1, h2⟩]
    · rw [if_neg h2, if_neg (fun t => h2 t.2)]
  · rw [if_pos (by omega), if_neg (fun t => h1 t.1)]
/-- the last block whose base is less, among the first b blocks; -6 if there is none -/
def s_bl (x : Nat → Nat) (n bs : Nat) (q : Int) : Nat → Int
  | 0 => -6
  | b + 1 => if b * bs ≤ s_lo x q n then (b : Int) else s_bl x n bs q b
theorem s_bl_bk (h : RV x n bs on) (q : Int) (hn0 : 0 < n) : s_bl x n bs q (s_nb n bs) = s_bk x n bs q := by
  obtain ⟨b1, b2, b3⟩ := s_bk_at h (q := q) hn0
  have : ∀ d, s_bk x n bs q + 1 + d ≤ s_nb n bs → s_bl x n bs q (s_bk x n bs q + 1 + d) = s_bk x n bs q := by
    intro d
    induction d with
    | zero => intro _; show (if s_bk x n bs q * bs ≤ _ then _ else _) = _; rw [if_pos b2]
    | succ d ih =>
      intro hd
      show (if (s_bk x n bs q + 1 + d) * bs ≤ s_lo x q n then _ else _) = _
      rw [if_neg (fun t => by have := b3 _ (by omega) t; omega)]
      exact ih (by omega)
  have h2 := this (s_nb n bs - (s_bk x n bs q + 1)) (by omega)
  rw [show s_bk x n bs q + 1 + (s_nb n bs - (s_bk x n bs q + 1)) = s_nb n bs by omega] at h2
  exact h2
theorem S_blockFor9_ (h : RV x n bs on) (hm : MA x n bs on g) {q : Int} (hq : 0 ≤ q ∧ q ≤ 65535) (k : Int32 → Option Int32) : ∀ (m fuel b : Nat) (i2 i3 : Int32), b + m = s_nb n bs → m < fuel → i2 = J (s_bl x n bs q b) → i3 = J b →
    F_X9_blockFor_L5 g (J q) k fuel i2 i3 = k (J (s_bl x n bs q (s_nb n bs))) := by
  intro m
  have hn := h.1
  have hnb := s_nb_le (n := n) h.2.1
  induction m with
  | zero =>
    intro fuel b i2 i3 hb hf e2 e3
    obtain ⟨fuel, rfl⟩ : ∃ f, fuel = f + 1 := ⟨fuel - 1, by omega⟩
    rw [F_X9_blockFor_L5, S_blocks9 h hm, Option.bind_some, e3, if_pos (by rw [J_le (by omega) (by omega) (by omega) (by omega)]; omega), e2, show b = s_nb n bs by omega]
  | succ m ih =>
    intro fuel b i2 i3 hb hf e2 e3
    obtain ⟨fuel, rfl⟩ : ∃ f, fuel = f + 1 := ⟨fuel - 1, by omega⟩
    have h1 := (s_nb_lt (n := n) (b := b) h.2.1).mp (by omega)
    have h2 := s_na_lt h hq.1 (i := b * bs) (by omega)
    have h3 : -1 ≤ s_na x (b * bs) ∧ s_na x (b * bs) < 65536 := by
      unfold s_na
      split
      · omega
      · have := h.2.2.2.2.2.1 (b * bs - 1) (by omega); omega
    have e6 : s_bl x n bs q (b + 1) = if b * bs ≤ s_lo x q n then (b : Int) else s_bl x n bs q b := rfl
    rw [F_X9_blockFor_L5, S_blocks9 h hm, Option.bind_some, e3, if_neg (by rw [J_le (by omega) (by omega) (by omega) (by omega)]; omega), S_base9 h hm b rfl (by omega), Option.bind_some, jf_le (by omega) (by omega) (by omega) (by omega)]
    by_cases hc : b * bs ≤ s_lo x q n
    · rw [if_pos hc] at e6
      rw [if_neg (by omega)]
      exact ih fuel (b + 1) _ _ (by omega) (by omega) (by rw [e6]) (by rw [L1, J_add]; norm_cast)
    · rw [if_neg hc] at e6
      rw [if_pos (by omega)]
      exact ih fuel (b + 1) _ _ (by omega) (by omega) (by rw [e6, e2]) (by rw [L1, J_add]; norm_cast)
theorem S_blockFor9 (h : RV x n bs on) (hm : MA x n bs on g) {q : Int} (hq : 0 ≤ q ∧ q ≤ 65535) : F_X9_blockFor g (J q) = some (if n = 0 then -6 else J (s_bk x n bs q)) := by
  have hn := h.1
  have hnb := s_nb_le (n := n) h.2.1
  obtain ⟨f2, hf2⟩ := zFuel_ge (n := 65) (by omega)
  unfold F_X9_blockFor
  rw [hf2]
  refine (S_blockFor9_ h hm hq _ (s_nb n bs) _ 0 _ _ (by omega) (by omega) rfl rfl).trans ?_
  by_cases h0 : n = 0
  · rw [if_pos h0, show s_nb n bs = 0 by omega]; rfl
  · rw [if_neg h0, s_bl_bk h q (by omega)]
theorem S_at9 (h : RV x n bs on) (hm : MA x n bs on g) {z w : Int} (hz : -2147483648 ≤ z ∧ z < 2147483648) (hw : -2147483648 ≤ w ∧ w < 2147483648) : F_X9_at g (J z) (J w) = some (a_at x n bs on z (J w)) := by
  have hn := h.1
  have hbs := h.2.2.1
  unfold F_X9_at a_at
  rw [S_isPlace9 h hm hz, Option.bind_some, J_K hw.1 hw.2, show (0 : Int64) = K 0 from rfl, show (1 : Int64) = K 1 from rfl, S_in (by omega) (by omega) (by omega) (by omega) (by omega) (by omega), Option.bind_some]
  by_cases hp : 0 ≤ z ∧ z < n
  · obtain ⟨i, rfl⟩ : ∃ i : Nat, z = i := ⟨z.toNat, by omega⟩
    have hi : i < n := by omega
    obtain ⟨h1, h2, h3⟩ := s_blk h.2.1 hi
    have e0 : J (i : Int) / g 0 = J ((i / bs : Nat) : Int) := by
      rw [hm.1, J_div (by omega) (by omega) (by have := h.2.1; omega) (by omega)]; rfl
    have e5 : (J (i : Int) + 1) = J ((i + 1 : Nat) : Int) := by rw [L1, J_add]; norm_cast
    have e6 : ¬ g 0 = 0 := by rw [hm.1, L0, J_eq (by omega) (by omega) (by omega) (by omega)]; have := h.2.1; omega
    have e7 := S_bitsAhead9 h hm (zb := ((i / bs : Nat) : Int)) (zi := ((i + 1 : Nat) : Int)) (i / bs) (i + 1) rfl rfl h1 (by omega) (by omega)
    rw [if_pos hp, if_pos hp, if_neg (by decide), if_pos e6, e0, S_number9 i rfl (by omega), Option.bind_some, hm.2.2.2 i hi, e5, e7, Option.bind_some, Int.toNat_natCast]
    by_cases w0 : w = 0
    · subst w0
      rw [show (if (0 : Int) ≤ 0 ∧ (0 : Int) ≤ 1 then (1 : Int32) else 0) = 1 from if_pos (by omega)]; rfl
    · have e8 : ¬ J w = 0 := by rw [L0, J_eq (by omega) (by omega) (by omega) (by omega)]; exact w0
      by_cases w1 : w = 1
      · subst w1
        rw [show (if (0 : Int) ≤ 1 ∧ (1 : Int) ≤ 1 then (1 : Int32) else 0) = 1 from if_pos (by omega)]; rfl
      · have e9 : ¬ J w = 1 := by rw [L1, J_eq (by omega) (by omega) (by omega) (by omega)]; exact w1
        rw [show (if 0 ≤ w ∧ w ≤ 1 then (1 : Int32) else 0) = 0 from if_neg (by omega), if_pos rfl, if_neg e8, if_neg e9]
  · rw [if_neg hp, if_neg hp, if_pos rfl]
theorem S_find9 (h : RV x n bs on) (hm : MA x n bs on g) {q w : Int} (hz : -2147483648 ≤ q ∧ q < 2147483648) (hw : -2147483648 ≤ w ∧ w < 2147483648) : F_X9_find g (J q) (J w) = some (a_find x n bs on q w) := by
  have hn := h.1
  have hbs := h.2.2.1
  have hnb := s_nb_le (n := n) h.2.1
  unfold F_X9_find
  rw [S_isNumber9 hz, Option.bind_some]
  by_cases hq : 0 ≤ q ∧ q ≤ 65535
  · rw [if_pos hq, if_neg (by decide), J_K hw.1 hw.2, show (0 : Int64) = K 0 from rfl, show (3 : Int64) = K 3 from rfl, S_in (by omega) (by omega) (by omega) (by omega) (by omega) (by omega), Option.bind_some]
    by_cases w3 : 0 ≤ w ∧ w ≤ 3
    · rw [if_pos w3, if_neg (by decide), L0, jf_eq (by omega) (by omega) (by omega) (by omega)]
      by_cases w0 : w = 0
      · rw [if_pos w0, w0, a_find_0 hq, S_lowest9 h hm hq, Option.bind_some]
      · rw [if_neg w0, L1, jf_eq (by omega) (by omega) (by omega) (by omega)]
        by_cases w1 : w = 1
        · rw [if_pos w1, w1, a_find_1 hq, S_isThere9 h hm hq, Option.bind_some]
          by_cases hq2 : s_lo x q n < n ∧ (x (s_lo x q n) : Int) = q
          · rw [if_pos hq2]; rfl
          · rw [if_neg hq2]; rfl
        · rw [if_neg w1, L2, jf_eq (by omega) (by omega) (by omega) (by omega)]
          by_cases w2 : w = 2
          · rw [if_pos w2, w2, a_find_2 hq, S_blockFor9 h hm hq, Option.bind_some]
          · rw [if_neg w2, show w = 3 by omega, a_find_3 hq, hm.2.2.1, jf_eq (by omega) (by omega) (by omega) (by omega)]
            by_cases h0 : n = 0
            · rw [if_pos (by omega), if_pos h0]; rfl
            · obtain ⟨b1, b2, b3⟩ := s_bk_at h (q := q) (by omega)
              have hlon := s_lo_le x q n
              obtain ⟨c1, c2, c3⟩ := s_en_gt h.2.1 b1
              rw [if_neg (by omega), if_neg h0]
              unfold F_X9_readFor
              rw [S_blockFor9 h hm hq, Option.bind_some, if_neg h0, S_lowest9 h hm hq, Option.bind_some, S_end9 h hm _ rfl (by omega), Option.bind_some, Option.bind_some, L1, J_add, jf_le (by omega) (by omega) (by omega) (by omega), S_bitsAhead9 h hm _ (s_en n bs (s_bk x n bs q)) rfl rfl b1 (by omega) c2, Option.bind_some]
              by_cases hc : s_lo x q n + 1 < s_en n bs (s_bk x n bs q)
              · rw [if_neg (by omega), if_pos hc, S_bitsAhead9 h hm _ (s_lo x q n + 1) rfl (by omega) b1 (by omega) (by omega), Option.bind_some, Option.bind_some]
              · rw [if_pos (by omega), if_neg hc, Option.bind_some]
    · rw [if_neg w3, if_pos rfl, a_find_bad (fun t => w3 t.2)]
  · rw [if_neg hq, if_pos rfl, a_find_bad (fun t => hq t.1)]
theorem S_cost9 (h : RV x n bs on) (hm : MA x n bs on g) {z w : Int} (hz : -2147483648 ≤ z ∧ z < 2147483648) (hw : -2147483648 ≤ w ∧ w < 2147483648) : F_X9_cost g (J z) (J w) = some (a_cost x n bs on z w) := by
  unfold F_X9_cost a_cost
  rw [S_isBlock9 h hm hz, Option.bind_some, J_K hw.1 hw.2, show (0 : Int64) = K 0 from rfl, show (15 : Int64) = K 15 from rfl, S_in (by omega) (by omega) (by omega) (by omega) (by omega) (by omega), Option.bind_some]
  by_cases hp : 0 ≤ z ∧ z < s_nb n bs
  · obtain ⟨b, rfl⟩ : ∃ i : Nat, z = i := ⟨z.toNat, by omega⟩
    rw [if_pos hp, if_pos hp, if_neg (by decide)]
    by_cases w1 : 0 ≤ w ∧ w ≤ 15
    · obtain ⟨e, rfl⟩ : ∃ i : Nat, w = i := ⟨w.toNat, by omega⟩
      rw [if_pos w1, if_pos w1, if_neg (by decide), S_costOf9 h hm b e rfl rfl (by omega) (by omega), Option.bind_some, Int.toNat_natCast, Int.toNat_natCast]
    · rw [if_neg w1, if_neg w1, if_pos rfl]
  · rw [if_neg hp, if_neg hp, if_pos rfl]
theorem MA.set0 (hm : MA x n bs on g) (bs' : Nat) : MA x n bs' on (upd g 0 (J bs')) := ⟨upd_self, by rw [upd_ne (by omega)]; exact hm.2.1, by rw [upd_ne (by omega)]; exact hm.2.2.1, fun i hi => by rw [upd_ne (by omega)]; exact hm.2.2.2 i hi⟩
theorem MA.set1 (hm : MA x n bs on g) (on' : Nat) : MA x n bs on' (upd g 1 (J on')) := ⟨by rw [upd_ne (by omega)]; exact hm.1, upd_self, by rw [upd_ne (by omega)]; exact hm.2.2.1, fun i hi => by rw [upd_ne (by omega)]; exact hm.2.2.2 i hi⟩
theorem S_bitsWith9 (h : RV x n bs on) (hm : MA x n bs on g) {z w : Int} (hs : a_setok z w) : ∃ g', MA x n bs on g' ∧ F_X9_bitsWith g (J z) (J w) = some (J (s_with x n bs on z w), g') := by
  unfold F_X9_bitsWith s_with
  rcases hs with ⟨h0, h1⟩ | ⟨h0, h1⟩
  · subst h0
    obtain ⟨bs', rfl⟩ : ∃ i : Nat, w = i := ⟨w.toNat, by omega⟩
    rw [if_pos (gd_ok (by omega) (by omega) (by omega)), if_pos (gd_ok (by omega) (by omega) (by omega)), show (J 0).toNatClampNeg = 0 from rfl, S_streamBits9 (h.set (bs' := bs') (on' := on) (by omega) ⟨h.2.2.2.1, h.2.2.2.2.1⟩) (hm.set0 bs'), Option.bind_some, if_pos (by decide), if_pos rfl, Int.toNat_natCast]
    exact ⟨_, by rw [hm.1]; exact (hm.set0 bs').set0 bs, rfl⟩
  · subst h0
    obtain ⟨on', rfl⟩ : ∃ i : Nat, w = i := ⟨w.toNat, by omega⟩
    rw [if_pos (gd_ok (by omega) (by omega) (by omega)), if_pos (gd_ok (by omega) (by omega) (by omega)), show (J 1).toNatClampNeg = 1 from rfl, S_streamBits9 (h.set (bs' := bs) (on' := on') ⟨h.2.1, h.2.2.1⟩ (by omega)) (hm.set1 on'), Option.bind_some, if_pos (by decide), if_neg (by omega), Int.toNat_natCast]
    exact ⟨_, by rw [hm.2.1]; exact (hm.set1 on').set1 on, rfl⟩
theorem S_with9 (h : RV x n bs on) (hm : MA x n bs on g) {z w : Int} (hz : -2147483648 ≤ z ∧ z < 2147483648) (hw : -2147483648 ≤ w ∧ w < 2147483648) : ∃ g', MA x n bs on g' ∧ F_X9_with g (J z) (J w) = some (a_with x n bs on z w, g') := by
  unfold F_X9_with a_with
  rw [S_isSetting9 hz hw, Option.bind_some]
  by_cases hs : a_setok z w
  · obtain ⟨g', a1, a2⟩ := S_bitsWith9 h hm hs
    rw [if_pos hs, if_pos hs, if_neg (by decide), a2, Option.bind_some]
    exact ⟨g', a1, rfl⟩
  · rw [if_neg hs, if_neg hs, if_pos rfl]
    exact ⟨g, hm, rfl⟩
/-- the greatest of those by which f is least, among j + 1 .. 16 -/
def s_gl (f : Nat → Nat) (j b : Nat) : Prop := j < b ∧ b ≤ 16 ∧ ∀ i, j < i → i ≤ 16 → f b ≤ f i ∧ (b < i → f b < f i)
theorem s_gl_bz (f : Nat → Nat) {b : Nat} (h : s_gl f 0 b) : b = s_bz f 15 := by
  obtain ⟨h1, h2, h3⟩ := h
  have h4 := s_bz_rg f 15
  have h5 := s_bz_min f 15
  rcases Nat.lt_trichotomy b (s_bz f 15) with q | q | q
  · have := (h3 (s_bz f 15) (by omega) (by omega)).2 q
    have := (h5 b (by omega) (by omega)).1
    omega
  · exact q
  · have := (h5 b (by omega) (by omega)).2 q
    have := (h3 (s_bz f 15) (by omega) (by omega)).1
    omega
theorem S_best9_ (h : RV x n bs on) (k : Ar → Int32 → Int32 → Option (Int32 × Ar)) : ∀ (m fuel : Nat) (g : Ar) (b : Nat) (i2 i3 i4 : Int32), m ≤ 15 → m < fuel → MA x n bs on g → s_gl (s_tot on (s_gp x) n) m b → i2 = J b → i3 = J (s_tot on (s_gp x) n b) → i4 = J m →
    ∃ g', MA x n bs on g' ∧ F_X9_best_L28 k fuel g i2 i3 i4 = k g' (J (s_bz (s_tot on (s_gp x) n) 15)) (J (s_tot on (s_gp x) n (s_bz (s_tot on (s_gp x) n) 15))) := by
  intro m
  induction m with
  | zero =>
    intro fuel g b i2 i3 i4 hm15 hf hm hg e2 e3 e4
    obtain ⟨fuel, rfl⟩ : ∃ f, fuel = f + 1 := ⟨fuel - 1, by omega⟩
    refine ⟨g, hm, ?_⟩
    rw [F_X9_best_L28, e4, if_pos (by decide), e2, e3, s_gl_bz _ hg]
  | succ m ih =>
    intro fuel g b i2 i3 i4 hm15 hf hm hg e2 e3 e4
    obtain ⟨fuel, rfl⟩ : ∃ f, fuel = f + 1 := ⟨fuel - 1, by omega⟩
    have hs : a_setok 0 ((m + 1 : Nat) : Int) := Or.inl ⟨rfl, by omega, by omega⟩
    obtain ⟨g1, a1, a2⟩ := S_bitsWith9 h hm hs
    have a3 : s_with x n bs on 0 ((m + 1 : Nat) : Int) = s_tot on (s_gp x) n (m + 1) := by unfold s_with; rw [if_pos rfl, Int.toNat_natCast]
    rw [a3] at a2
    have t1 := s_tot_le (h.set (bs' := m + 1) (on' := on) (by omega) ⟨h.2.2.2.1, h.2.2.2.2.1⟩)
    have t2 := s_tot_le (h.set (bs' := b) (on' := on) (by have := hg.1; have := hg.2.1; omega) ⟨h.2.2.2.1, h.2.2.2.2.1⟩)
    by_cases hq : s_tot on (s_gp x) n b ≤ s_tot on (s_gp x) n (m + 1)
    · have hg2 : s_gl (s_tot on (s_gp x) n) m b := by
        refine ⟨by have := hg.1; omega, hg.2.1, fun i h1 h2 => ?_⟩
        by_cases e : i = m + 1
        · subst e; exact ⟨hq, fun t => by have := hg.1; omega⟩
        · exact hg.2.2 i (by omega) h2
      obtain ⟨g', b1, b2⟩ := ih fuel g1 b i2 i3 (J ((m + 1 : Nat) : Int) + -1) (by omega) (by omega) a1 hg2 e2 e3 (by rw [Lm1, J_add]; congr 1; omega)
      refine ⟨g', b1, ?_⟩
      rw [F_X9_best_L28, e4, if_neg (by rw [L0, J_le (by omega) (by omega) (by omega) (by omega)]; omega), show (0 : Int32) = J 0 from rfl, a2, Option.bind_some, e3, if_pos (by rw [J_le (by omega) (by omega) (by omega) (by omega)]; omega), if_pos (by rw [J_le (by omega) (by omega) (by omega) (by omega)]; omega), ← e3]
      exact b2
    · have hg2 : s_gl (s_tot on (s_gp x) n) m (m + 1) := by
        refine ⟨by omega, by omega, fun i h1 h2 => ?_⟩
        by_cases e : i = m + 1
        · subst e; exact ⟨Nat.le_refl _, fun t => absurd t (Nat.lt_irrefl _)⟩
        · have := (hg.2.2 i (by omega) h2).1; omega
      obtain ⟨g', b1, b2⟩ := ih fuel g1 (m + 1) i4 (J (s_tot on (s_gp x) n (m + 1))) (J ((m + 1 : Nat) : Int) + -1) (by omega) (by omega) a1 hg2 e4 rfl (by rw [Lm1, J_add]; congr 1; omega)
      refine ⟨g', b1, ?_⟩
      rw [e4] at b2
      rw [F_X9_best_L28, e4, if_neg (by rw [L0, J_le (by omega) (by omega) (by omega) (by omega)]; omega), show (0 : Int32) = J 0 from rfl, a2, Option.bind_some, e3, if_neg (by rw [J_le (by omega) (by omega) (by omega) (by omega)]; omega), if_neg (by rw [J_le (by omega) (by omega) (by omega) (by omega)]; omega)]
      exact b2
theorem S_best9 (h : RV x n bs on) (hm : MA x n bs on g) {w : Int} (hw : -2147483648 ≤ w ∧ w < 2147483648) : ∃ g', MA x n bs on g' ∧ F_X9_best g (J w) = some (a_best x n on (J w), g') := by
  unfold F_X9_best a_best
  rw [J_K hw.1 hw.2, show (0 : Int64) = K 0 from rfl, show (1 : Int64) = K 1 from rfl, S_in (by omega) (by omega) (by omega) (by omega) (by omega) (by omega), Option.bind_some]
  by_cases w1 : 0 ≤ w ∧ w ≤ 1
  · obtain ⟨f2, hf2⟩ := zFuel_ge (n := 17) (by omega)
    obtain ⟨g1, a1, a2⟩ := S_bitsWith9 h hm (z := 0) (w := 16) (Or.inl ⟨rfl, by omega, by omega⟩)
    have a3 : s_with x n bs on 0 16 = s_tot on (s_gp x) n 16 := by unfold s_with; rw [if_pos rfl]; rfl
    rw [a3] at a2
    obtain ⟨g', b1, b2⟩ := S_best9_ h (fun g a b => if J w = 0 then some (a, g) else some (b, g)) 15 (f2 + 17) g1 16 16 (J (s_tot on (s_gp x) n 16)) 15 (by omega) (by omega) a1 ⟨by omega, by omega, fun i h1 h2 => by rw [show i = 16 by omega]; exact ⟨Nat.le_refl _, fun t => absurd t (Nat.lt_irrefl _)⟩⟩ rfl rfl rfl
    refine ⟨g', b1, ?_⟩
    rw [if_pos w1, if_neg (by decide)]
    have a4 : F_X9_bitsWith g 0 16 = some (J (s_tot on (s_gp x) n 16), g1) := a2
    rw [a4, Option.bind_some, hf2]
    refine b2.trans ?_
    show (if J w = 0 then some _ else some _) = _
    rw [L0, L1, jf_eq (by omega) (by omega) (by omega) (by omega), jf_eq (by omega) (by omega) (by omega) (by omega), jf_eq (by omega) (by omega) (by omega) (by omega)]
    by_cases w0 : w = 0
    · rw [if_pos w0, if_pos w0]
    · rw [if_neg w0, if_neg w0, if_pos (by omega)]
  · refine ⟨g, hm, ?_⟩
    rw [if_neg w1, if_pos rfl, L0, L1, jf_eq (by omega) (by omega) (by omega) (by omega), jf_eq (by omega) (by omega) (by omega) (by omega), if_neg (by omega), if_neg (by omega)]
end MODASK
