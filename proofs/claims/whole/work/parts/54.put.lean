-- the pad: put and wipe
def un (j : Int64) : Nat := j.toUInt64.toNat
def c_at (j : Int64) (i : Nat) : Nat := un j / 2 ^ (8 * i) % 256
theorem un_lt (j : Int64) : un j < 2 ^ 64 := j.toUInt64.toNat_lt
theorem zu_sh : ∀ i : Nat, i < 8 → ((J (8 * i : Nat)).toInt64.toUInt64 &&& Int64.toUInt64 63).toNat = 8 * i := by decide +kernel
theorem un_zushr (j : Int64) {i : Nat} (hi : i < 8) : un (zushr j (J (8 * i : Nat))) = un j / 2 ^ (8 * i) := by
  unfold un zushr
  rw [UInt64.toUInt64_toInt64, UInt64.toNat_shiftRight, zu_sh i hi, Nat.mod_eq_of_lt (by omega), Nat.shiftRight_eq_div_pow]
theorem un_and (j : Int64) : j &&& 255 = K ((un j % 256 : Nat) : Int) := by
  have h : (un j % 256) < 256 := Nat.mod_lt _ (by decide)
  apply Int64.toBitVec_inj.1
  apply BitVec.eq_of_toNat_eq
  rw [Int64.toBitVec_and, BitVec.toNat_and]
  show j.toBitVec.toNat &&& 255 = (BitVec.ofInt 64 ((un j % 256 : Nat) : Int)).toNat
  rw [BitVec.toNat_ofInt, show (255 : Nat) = 2 ^ 8 - 1 from rfl, Nat.and_two_pow_sub_one_eq_mod]
  show un j % 2 ^ 8 = _
  omega
theorem un_and32 (j : Int64) : j.toInt32 &&& 255 = J ((un j % 256 : Nat) : Int) := by
  have h : (un j % 256) < 256 := Nat.mod_lt _ (by decide)
  apply Int32.toBitVec_inj.1
  apply BitVec.eq_of_toNat_eq
  rw [Int32.toBitVec_and, BitVec.toNat_and, Int64.toBitVec_toInt32, BitVec.signExtend_eq_setWidth_of_le _ (by decide), BitVec.toNat_setWidth]
  show j.toBitVec.toNat % 2 ^ 32 &&& 255 = (BitVec.ofInt 32 ((un j % 256 : Nat) : Int)).toNat
  rw [BitVec.toNat_ofInt, show (255 : Nat) = 2 ^ 8 - 1 from rfl, Nat.and_two_pow_sub_one_eq_mod]
  show un j % 2 ^ 32 % 2 ^ 8 = _
  omega
theorem K_32 (z : Int) : (K z).toInt32 = J z := Int64.toInt32_ofInt
theorem c_at_lt (j : Int64) (i : Nat) : c_at j i < 256 := Nat.mod_lt _ (by decide)
theorem S_characterAt (j : Int64) {i : Nat} (hi : i < 8) : F_X8_characterAt j (J i) = some (J (c_at j i)) := by
  unfold F_X8_characterAt
  rw [L8, J_mul, show (i : Int) * 8 = ((8 * i : Nat) : Int) by omega, un_and32, un_zushr j hi]
  rfl
theorem S_char9 (j : Int64) {i : Nat} (hi : i < 8) : ((zushr j (8 * J i)) &&& 255).toInt32 = J (c_at j i) := by
  rw [L8, J_mul, show (8 : Int) * i = ((8 * i : Nat) : Int) by omega, un_and, un_zushr j hi, K_32]
  rfl
theorem un_zero {j : Int64} : j = 0 ↔ un j = 0 := by
  unfold un
  constructor
  · intro h; rw [h]; rfl
  · intro h
    apply Int64.toBitVec_inj.1
    apply BitVec.eq_of_toNat_eq
    exact h
theorem lg_zero {j : Int64} : lg_cmp j 0 = 0 ↔ un j = 0 := by
  rw [← un_zero]
  exact lg_cmp_eq _ _
theorem un_succ (N i : Nat) : N / 2 ^ (8 * i) = 256 * (N / 2 ^ (8 * (i + 1))) + N / 2 ^ (8 * i) % 256 := by
  have e : 2 ^ (8 * (i + 1)) = 2 ^ (8 * i) * 256 := by rw [Nat.mul_add, Nat.pow_add]
  rw [e, ← Nat.div_div_eq_div_mul]
  generalize N / 2 ^ (8 * i) = M
  omega
theorem un_all {j : Int64} : ∀ m i, i + m = 8 → (un j / 2 ^ (8 * i) = 0 ↔ ∀ t, i ≤ t → t < 8 → c_at j t = 0) := by
  intro m
  induction m with
  | zero =>
    intro i hi
    obtain rfl : i = 8 := by omega
    exact ⟨fun _ t h1 h2 => absurd h2 (by omega), fun _ => Nat.div_eq_of_lt (un_lt j)⟩
  | succ m ih =>
    intro i hi
    have := un_succ (un j) i
    have h2 := ih (i + 1) (by omega)
    constructor
    · intro h t h3 h4
      rw [h] at this
      by_cases c : t = i
      · rw [c]; unfold c_at; rw [h]
      · exact h2.1 (by omega) t (by omega) h4
    · intro h
      have h5 := h2.2 (fun t h3 h4 => h t (by omega) h4)
      have h6 := h i (Nat.le_refl _) (by omega)
      unfold c_at at h6
      omega
def TV (c : Nat → Nat) (k : Nat) : Prop := 1 ≤ k ∧ k ≤ 8 ∧ (∀ i, i < k → 33 ≤ c i ∧ c i ≤ 126) ∧ ∀ i, k ≤ i → i < 8 → c i = 0
theorem S_signs4 (j : Int64) : ∀ (m fuel p q : Nat) (i2 i3 : Int32), p + m = 8 → m < fuel → q ≤ p → (∀ i, i < q → 33 ≤ c_at j i ∧ c_at j i ≤ 126) → (∀ i, q ≤ i → i < p → c_at j i = 0) → i2 = J q → i3 = J p →
    (∃ k, TV (c_at j) k ∧ F_X8_signsIn_L4 j (fun i => some i) fuel i2 i3 = some (J k)) ∨ ((∀ k, ¬ TV (c_at j) k) ∧ F_X8_signsIn_L4 j (fun i => some i) fuel i2 i3 = some 0) := by
  intro m
  induction m with
  | zero =>
    intro fuel p q i2 i3 hp hf hq h1 h2 e2 e3
    obtain ⟨fuel, rfl⟩ : ∃ f, fuel = f + 1 := ⟨fuel - 1, by omega⟩
    have er : F_X8_signsIn_L4 j (fun i => some i) (fuel + 1) i2 i3 = some (J q) := by
      rw [F_X8_signsIn_L4, e3, L8, if_pos (by rw [J_le (by omega) (by omega) (by omega) (by omega)]; omega), e2]
    by_cases c : q = 0
    · right
      refine ⟨fun k ⟨k1, _, k3, _⟩ => ?_, by rw [er, c]; rfl⟩
      have := h2 0 (by omega) (by omega)
      have := k3 0 (by omega)
      omega
    · left
      exact ⟨q, ⟨by omega, by omega, h1, fun i a b => h2 i a (by omega)⟩, er⟩
  | succ m ih =>
    intro fuel p q i2 i3 hp hf hq h1 h2 e2 e3
    obtain ⟨fuel, rfl⟩ : ∃ f, fuel = f + 1 := ⟨fuel - 1, by omega⟩
    have hc := c_at_lt j p
    rw [F_X8_signsIn_L4, e3, L8, if_neg (by rw [J_le (by omega) (by omega) (by omega) (by omega)]; omega), S_characterAt j (by omega), Option.bind_some, e2, jf_eq (by omega) (by omega) (by omega) (by omega)]
    have hz : ∀ {α : Type} {a b : α}, (if J (c_at j p) = 0 then a else b) = if c_at j p = 0 then a else b := by
      intro α a b
      rw [L0, jf_eq (by omega) (by omega) (by omega) (by omega)]
      exact jf (by omega)
    have hp1 : J p + 1 = J ((p + 1 : Nat) : Int) := by rw [J_add1]; congr 1
    have hb : ∀ (k : Nat), c_at j p ≠ 0 → q < p → ¬ TV (c_at j) k := by
      intro k a b ⟨_, _, k3, k4⟩
      by_cases c : k ≤ p
      · exact a (k4 p c (by omega))
      · have := k3 q (by omega)
        have := h2 q (Nat.le_refl _) b
        omega
    by_cases c : q = p
    · rw [if_pos (by omega), hz, hz]
      by_cases c0 : c_at j p = 0
      · rw [if_pos c0, if_pos c0, hp1]
        exact ih fuel (p + 1) q _ _ (by omega) (by omega) (by omega) h1 (fun i a b => by
          by_cases c1 : i = p
          · rw [c1]; exact c0
          · exact h2 i a (by omega)) (by rw [L0, J_add, Int.add_zero]) rfl
      · rw [if_neg c0, if_neg c0, L33, L126, jf_lt (by omega) (by omega) (by omega) (by omega), jf_le (by omega) (by omega) (by omega) (by omega)]
        have hb2 : ¬ (33 ≤ c_at j p ∧ c_at j p ≤ 126) → ∀ k, ¬ TV (c_at j) k := by
          intro a k ⟨_, _, k3, k4⟩
          by_cases c : k ≤ p
          · exact c0 (k4 p c (by omega))
          · exact a (k3 p (by omega))
        by_cases c1 : c_at j p < 33
        · rw [if_pos (by omega)]
          exact Or.inr ⟨hb2 (by omega), rfl⟩
        · rw [if_neg (by omega)]
          by_cases c2 : c_at j p ≤ 126
          · rw [if_pos (by omega), hp1, J_add1]
            exact ih fuel (p + 1) (q + 1) _ _ (by omega) (by omega) (by omega) (fun i a => by
              by_cases c3 : i = p
              · rw [c3]; omega
              · exact h1 i (by omega)) (fun i a b => absurd a (by omega)) (by congr 1) rfl
          · rw [if_neg (by omega)]
            exact Or.inr ⟨hb2 (by omega), rfl⟩
    · rw [if_neg (by omega), hz, hz]
      by_cases c0 : c_at j p = 0
      · rw [if_pos c0, if_pos c0, hp1]
        exact ih fuel (p + 1) q _ _ (by omega) (by omega) (by omega) h1 (fun i a b => by
          by_cases c1 : i = p
          · rw [c1]; exact c0
          · exact h2 i a (by omega)) (by rw [L0, J_add, Int.add_zero]) rfl
      · rw [if_neg c0]
        exact Or.inr ⟨fun k => hb k c0 (by omega), rfl⟩
theorem S_signsIn (j : Int64) : (∃ k, TV (c_at j) k ∧ F_X8_signsIn j = some (J k)) ∨ ((∀ k, ¬ TV (c_at j) k) ∧ F_X8_signsIn j = some 0) := by
  obtain ⟨f2, hf2⟩ := zFuel_ge (n := 65) (by omega)
  unfold F_X8_signsIn
  rw [hf2]
  exact S_signs4 j 8 (f2 + 65) 0 0 0 0 (by omega) (by omega) (Nat.le_refl _) (fun i h => absurd h (by omega)) (fun i _ h => absurd h (by omega)) rfl rfl
theorem un_next (j : Int64) {p : Nat} {w : Int64} (h : un w = un j / 2 ^ (8 * p)) : un (zushr w 8) = un j / 2 ^ (8 * (p + 1)) := by
  have e := un_zushr w (i := 1) (by omega)
  rw [show (8 : Int32) = J (8 * 1 : Nat) from rfl, e, h, Nat.div_div_eq_div_mul, ← Nat.pow_add]
  rfl
theorem S_put8L (j : Int64) (k : Int32 → Int32 → Int64 → Option (Int32 × Int32 × Ar)) : ∀ (m fuel p : Nat) (i3 i4 : Int32) (w : Int64) (ok : Bool), p + m = 8 → m < fuel → (∀ i, i < p → c_at j i ≠ 0) → (ok = true ↔ ∀ i, i < p → 33 ≤ c_at j i ∧ c_at j i ≤ 126) → i3 = J p → i4 = (if ok then 1 else 0) → un w = un j / 2 ^ (8 * p) →
    ∃ (p' : Nat) (w' : Int64) (ok' : Bool), p' ≤ 8 ∧ (∀ i, i < p' → c_at j i ≠ 0) ∧ (p' < 8 → c_at j p' = 0) ∧ (ok' = true ↔ ∀ i, i < p' → 33 ≤ c_at j i ∧ c_at j i ≤ 126) ∧ un w' = un j / 2 ^ (8 * p') ∧ F_X9_put_L8 k fuel i3 i4 w = k (J p') (if ok' then 1 else 0) w' := by
  intro m
  induction m with
  | zero =>
    intro fuel p i3 i4 w ok hp hf h1 h2 e3 e4 hw
    obtain ⟨fuel, rfl⟩ : ∃ f, fuel = f + 1 := ⟨fuel - 1, by omega⟩
    refine ⟨p, w, ok, by omega, h1, fun h => absurd h (by omega), h2, hw, ?_⟩
    rw [F_X9_put_L8, e3, e4, L8, if_pos (by rw [J_le (by omega) (by omega) (by omega) (by omega)]; omega)]
  | succ m ih =>
    intro fuel p i3 i4 w ok hp hf h1 h2 e3 e4 hw
    obtain ⟨fuel, rfl⟩ : ∃ f, fuel = f + 1 := ⟨fuel - 1, by omega⟩
    have hc := c_at_lt j p
    have ew : w &&& 255 = K (c_at j p) := by rw [un_and, hw]; rfl
    rw [F_X9_put_L8, e3, e4, if_neg (by rw [L8, J_le (by omega) (by omega) (by omega) (by omega)]; omega), ew]
    by_cases c0 : c_at j p = 0
    · refine ⟨p, w, ok, by omega, h1, fun _ => c0, h2, hw, ?_⟩
      rw [c0, if_pos (by decide)]
    · rw [if_neg (by rw [show (0 : Int64) = K 0 from rfl, K_cmp_eq (by omega) (by omega) (by omega) (by omega)]; omega), show (33 : Int64) = K 33 from rfl, show (126 : Int64) = K 126 from rfl, S_in (by omega) (by omega) (by omega) (by omega) (by omega) (by omega), Option.bind_some]
      have hp1 : J p + 1 = J ((p + 1 : Nat) : Int) := by rw [J_add1]; congr 1
      have h1' : ∀ i, i < p + 1 → c_at j i ≠ 0 := fun i a => by
        by_cases c3 : i = p
        · rw [c3]; exact c0
        · exact h1 i (by omega)
      cases ok with
      | false =>
        rw [if_pos (by rfl)]
        refine ih fuel (p + 1) _ _ _ false (by omega) (by omega) h1' ⟨fun h => absurd h (by decide), fun h => h2.2 (fun i a => h i (by omega))⟩ hp1 rfl (un_next j hw)
      | true =>
        rw [if_neg (by decide)]
        by_cases c1 : (33 : Int) ≤ (c_at j p : Nat) ∧ ((c_at j p : Nat) : Int) ≤ 126
        · rw [z_t c1]
          refine ih fuel (p + 1) _ _ _ true (by omega) (by omega) h1' ⟨fun _ i a => ?_, fun _ => rfl⟩ hp1 rfl (un_next j hw)
          by_cases c3 : i = p
          · rw [c3]; omega
          · exact h2.1 rfl i (by omega)
        · rw [z_f c1]
          refine ih fuel (p + 1) _ _ _ false (by omega) (by omega) h1' ⟨fun h => absurd h (by decide), fun h => absurd (h p (by omega)) (by omega)⟩ hp1 rfl (un_next j hw)
def PV (pl : Nat) (px : Nat → Nat) : Prop := pl ≤ 80 ∧ ∀ i, i < pl → 33 ≤ px i ∧ px i ≤ 126
theorem S_put34 (j : Int64) (k : Int32 → Ar → Option (Int32 × Int32 × Ar)) : ∀ (m fuel pl : Nat) (px : Nat → Nat) (g : Ar) (i4 : Int32), m < fuel → m ≤ 8 → pl + m ≤ 80 → PV pl px → RA px pl g → (∀ i, i < m → 33 ≤ c_at j i ∧ c_at j i ≤ 126) → i4 = J ((m : Int) - 1) →
    ∃ px' g', PV (pl + m) px' ∧ RA px' (pl + m) g' ∧ (∀ i, i < pl → px' i = px i) ∧ (∀ i, i < m → px' (pl + i) = c_at j (m - 1 - i)) ∧ F_X8_put_L34 j k fuel (J pl) g i4 = k (J ((pl + m : Nat) : Int)) g' := by
  intro m
  induction m with
  | zero =>
    intro fuel pl px g i4 hf h8 hp hv hg hc e
    obtain ⟨fuel, rfl⟩ : ∃ f, fuel = f + 1 := ⟨fuel - 1, by omega⟩
    refine ⟨px, g, hv, hg, fun _ _ => rfl, fun i h => absurd h (by omega), ?_⟩
    rw [F_X8_put_L34, e, if_pos (by rw [L0, J_lt (by omega) (by omega) (by omega) (by omega)]; omega)]
    rfl
  | succ m ih =>
    intro fuel pl px g i4 hf h8 hp hv hg hc e
    obtain ⟨fuel, rfl⟩ : ∃ f, fuel = f + 1 := ⟨fuel - 1, by omega⟩
    have hcm := hc m (by omega)
    have e' : i4 = J m := by rw [e]; congr 1; omega
    rw [F_X8_put_L34, e', if_neg (by rw [L0, J_lt (by omega) (by omega) (by omega) (by omega)]; omega), S_characterAt j (by omega), Option.bind_some]
    have ea : F_X3_append (J pl) g (J (c_at j m)) = some (J ((pl + 1 : Nat) : Int), upd g pl (J (c_at j m))) := by
      unfold F_X3_append
      rw [S_write pl rfl (by omega) (by omega), Option.bind_some, J_add1]
      congr 1
    rw [ea, Option.bind_some]
    have hpv : PV (pl + 1) (s_upd px pl (c_at j m)) := by
      refine ⟨by omega, fun i hi => ?_⟩
      unfold s_upd
      by_cases c : i = pl
      · rw [if_pos c]; exact hcm
      · rw [if_neg c]; exact hv.2 i (by omega)
    have hra : RA (s_upd px pl (c_at j m)) (pl + 1) (upd g pl (J (c_at j m))) := by
      intro i hi
      unfold s_upd
      by_cases c : i = pl
      · rw [if_pos c, c, upd_self]
      · rw [if_neg c, upd_ne c]; exact hg i (by omega)
    obtain ⟨px', g', k1, k2, k3, k4, k5⟩ := ih fuel (pl + 1) (s_upd px pl (c_at j m)) (upd g pl (J (c_at j m))) (J m + -1) (by omega) (by omega) (by omega) hpv hra (fun i hi => hc i (by omega)) (by rw [J_addm1])
    · refine ⟨px', g', by rw [show pl + (m + 1) = pl + 1 + m by omega]; exact k1, by rw [show pl + (m + 1) = pl + 1 + m by omega]; exact k2, fun i hi => ?_, fun i hi => ?_, by rw [show pl + (m + 1) = pl + 1 + m by omega]; exact k5⟩
      · rw [k3 i (by omega)]; unfold s_upd; rw [if_neg (by omega)]
      · by_cases c : i = 0
        · rw [c, Nat.add_zero, k3 pl (by omega)]; unfold s_upd; rw [if_pos rfl]; congr 1
        · have := k4 (i - 1) (by omega)
          rw [show pl + i = pl + 1 + (i - 1) by omega, this]; congr 1; omega
theorem S_put106 (j : Int64) (k : Int32 → Ar → Option (Int32 × Int32 × Ar)) : ∀ (m fuel pl : Nat) (px : Nat → Nat) (g : Ar) (i4 : Int32), m < fuel → m ≤ 8 → pl + m ≤ 80 → RA px pl g → i4 = J ((m : Int) - 1) →
    ∃ px' g', RA px' (pl + m) g' ∧ (∀ i, i < pl → px' i = px i) ∧ (∀ i, i < m → px' (pl + i) = c_at j (m - 1 - i)) ∧ F_X9_put_L106 j k fuel (J pl) g i4 = k (J ((pl + m : Nat) : Int)) g' := by
  intro m
  induction m with
  | zero =>
    intro fuel pl px g i4 hf h8 hp hg e
    obtain ⟨fuel, rfl⟩ : ∃ f, fuel = f + 1 := ⟨fuel - 1, by omega⟩
    refine ⟨px, g, hg, fun _ _ => rfl, fun i h => absurd h (by omega), ?_⟩
    rw [F_X9_put_L106, e, if_pos (by rw [L0, J_lt (by omega) (by omega) (by omega) (by omega)]; omega)]
    rfl
  | succ m ih =>
    intro fuel pl px g i4 hf h8 hp hg e
    obtain ⟨fuel, rfl⟩ : ∃ f, fuel = f + 1 := ⟨fuel - 1, by omega⟩
    have e' : i4 = J m := by rw [e]; congr 1; omega
    rw [F_X9_put_L106, e', if_neg (by rw [L0, J_lt (by omega) (by omega) (by omega) (by omega)]; omega), if_pos (gd_ok (by omega) (by omega) (by omega)), J_ix pl rfl (by omega), S_char9 j (by omega), J_add1]
    have hra : RA (s_upd px pl (c_at j m)) (pl + 1) (upd g pl (J (c_at j m))) := by
      intro i hi
      unfold s_upd
      by_cases c : i = pl
      · rw [if_pos c, c, upd_self]
      · rw [if_neg c, upd_ne c]; exact hg i (by omega)
    obtain ⟨px', g', k2, k3, k4, k5⟩ := ih fuel (pl + 1) (s_upd px pl (c_at j m)) (upd g pl (J (c_at j m))) (J m + -1) (by omega) (by omega) (by omega) hra (by rw [J_addm1])
    · refine ⟨px', g', by rw [show pl + (m + 1) = pl + 1 + m by omega]; exact k2, fun i hi => ?_, fun i hi => ?_, by rw [show pl + (m + 1) = pl + 1 + m by omega]; exact k5⟩
      · rw [k3 i (by omega)]; unfold s_upd; rw [if_neg (by omega)]
      · by_cases c : i = 0
        · rw [c, Nat.add_zero, k3 pl (by omega)]; unfold s_upd; rw [if_pos rfl]; congr 1
        · have := k4 (i - 1) (by omega)
          rw [show pl + i = pl + 1 + (i - 1) by omega, this]; congr 1; omega
theorem P_put {pl : Nat} {px : Nat → Nat} {g8 g9 : Ar} (hv : PV pl px) (h8 : RA px pl g8) (h9 : RA px pl g9) (j : Int64) :
    ∃ a pl' px' g8' g9', PV pl' px' ∧ RA px' pl' g8' ∧ RA px' pl' g9' ∧ F_X8_put (J pl) g8 j = some (a, J pl', g8') ∧ F_X9_put (J pl) g9 j = some (a, J pl', g9') := by
  have hpl := hv.1
  obtain ⟨f2, hf2⟩ := zFuel_ge (n := 65) (by omega)
  obtain ⟨p, w, ok, p8, q1, q2, q3, q4, q5⟩ := S_put8L j (fun (i3_7 : Int32) (i4_8 : Int32) (j5_9 : Int64) => (if i3_7 = 0 then (some ((-2), J pl, g9)) else (if (lg_cmp j5_9 0) = 0 then (if i4_8 = 0 then (some ((-2), J pl, g9)) else (if (J pl + i3_7) ≤ 80 then (F_X9_put_L106 j (fun (v_padLong_16 : Int32) (g_pad_17 : Ar) => (some (v_padLong_16, v_padLong_16, g_pad_17))) (f2 + 65) (J pl) g9 (i3_7 - 1)) else (some ((-4), J pl, g9)))) else (some ((-2), J pl, g9))))) 8 (f2 + 65) 0 0 1 j true (by omega) (by omega) (fun i h => absurd h (by omega)) ⟨fun _ i h => absurd h (by omega), fun _ => rfl⟩ rfl rfl (by rw [Nat.mul_zero, Nat.pow_zero, Nat.div_one])
  have hz : un w = 0 ↔ ∀ t, p ≤ t → t < 8 → c_at j t = 0 := by rw [q4]; exact un_all (8 - p) p (by omega)
  unfold F_X8_put F_X9_put
  rw [hf2, q5]
  rcases S_signsIn j with ⟨k, hk, ek⟩ | ⟨hk, ek⟩
  · obtain ⟨k1, k2, k3, k4⟩ := hk
    have ekp : k = p := by
      by_cases c : k < p
      · exact absurd (k4 k (Nat.le_refl _) (by omega)) (q1 k c)
      · by_cases c2 : p < k
        · have := q2 (by omega)
          have := k3 p c2
          omega
        · omega
    subst ekp
    have hok : ok = true := q3.2 k3
    have hk0 : ¬ J k = 0 := by rw [L0, J_eq (by omega) (by omega) (by omega) (by omega)]; omega
    rw [ek, Option.bind_some, if_neg hk0, if_neg hk0, J_add, L80, jf_le (by omega) (by omega) (by omega) (by omega), if_pos (lg_zero.2 (hz.2 k4)), hok, if_neg (show ¬ (if true = true then (1 : Int32) else 0) = 0 by decide), jf_le (by omega) (by omega) (by omega) (by omega), J_sub1]
    by_cases c : (pl : Int) + k ≤ 80
    · rw [if_pos c, if_pos c]
      obtain ⟨px', g', a1, a2, a3, a4, a5⟩ := S_put34 j (fun (v_pad_length_10 : Int32) (g_pad_signs_cells_11 : Ar) => (some (v_pad_length_10, v_pad_length_10, g_pad_signs_cells_11))) k (f2 + 65) pl px g8 (J ((k : Int) - 1)) (by omega) (by omega) (by omega) hv h8 k3 rfl
      obtain ⟨px'', g'', b2, b3, b4, b5⟩ := S_put106 j (fun (v_padLong_16 : Int32) (g_pad_17 : Ar) => (some (v_padLong_16, v_padLong_16, g_pad_17))) k (f2 + 65) pl px g9 (J ((k : Int) - 1)) (by omega) (by omega) (by omega) h9 rfl
      refine ⟨J ((pl + k : Nat) : Int), pl + k, px', g', g'', a1, a2, fun i hi => ?_, a5, b5⟩
      rw [b2 i hi]
      by_cases c2 : i < pl
      · rw [a3 i c2, b3 i c2]
      · obtain ⟨t, rfl⟩ : ∃ t, i = pl + t := ⟨i - pl, by omega⟩
        rw [a4 t (by omega), b4 t (by omega)]
    · rw [if_neg c, if_neg c]
      exact ⟨-4, pl, px, g8, g9, hv, h8, h9, rfl, rfl⟩
  · rw [ek, Option.bind_some, if_pos rfl]
    refine ⟨-2, pl, px, g8, g9, hv, h8, h9, rfl, ?_⟩
    by_cases c0 : p = 0
    · rw [c0, if_pos (by rfl)]
    · rw [if_neg (by rw [L0, J_eq (by omega) (by omega) (by omega) (by omega)]; omega)]
      by_cases c1 : un w = 0
      · rw [if_pos (lg_zero.2 c1)]
        cases ok with
        | false => rw [if_pos (by rfl)]
        | true => exact absurd ⟨by omega, p8, q3.1 rfl, hz.1 c1⟩ (hk p)
      · rw [if_neg (fun h => c1 (lg_zero.1 h))]
