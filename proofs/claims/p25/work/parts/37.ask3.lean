-- the class's questions: cost, with, best, check
def a_with (x : Nat → Nat) (n bs on : Nat) (z w : Int) : Int32 := if a_setok z w then J (s_with x n bs on z w) else -2
section ASK3
variable {x : Nat → Nat} {n bs on : Nat} {gn : Ar} {ge : Ar} {pl : Int32} {gs gk : Ar} {sl : Int32} {g : Ar}
theorem S_isSetting8 {z w : Int} (hz : -2147483648 ≤ z ∧ z < 2147483648) (hw : -2147483648 ≤ w ∧ w < 2147483648) : F_X8_isSetting (J z) (J w) = some (if a_setok z w then 1 else 0) := by
  unfold F_X8_isSetting
  rw [L0, L1, L16, L30, jf_eq (by omega) (by omega) (by omega) (by omega), jf_lt (by omega) (by omega) (by omega) (by omega), jf_lt (by omega) (by omega) (by omega) (by omega), jf_eq (by omega) (by omega) (by omega) (by omega), jf_lt (by omega) (by omega) (by omega) (by omega)]
  by_cases h0 : z = 0
  · rw [if_pos h0]
    by_cases h1 : w < 1
    · rw [if_pos h1, if_neg (by omega)]
    · rw [if_neg h1]
      by_cases h2 : 16 < w
      · rw [if_pos h2, if_neg (by omega)]
      · rw [if_neg h2, if_pos (by omega)]
  · rw [if_neg h0]
    by_cases h3 : z = 1
    · rw [if_pos h3]
      by_cases h1 : w < 1
      · rw [if_pos h1, if_neg (by omega)]
      · rw [if_neg h1, jf_lt (by omega) (by omega) (by omega) (by omega)]
        by_cases h2 : 30 < w
        · rw [if_pos h2, if_neg (by omega)]
        · rw [if_neg h2, if_pos (by omega)]
    · rw [if_neg h3, if_neg (by omega)]
theorem S_cost8 (h : RV x n bs on) (hc : CO x n bs on ge pl gs gk sl g) {z w : Int} (hz : -2147483648 ≤ z ∧ z < 2147483648) (hw : -2147483648 ≤ w ∧ w < 2147483648) : F_X8_cost gs (J n) (J bs) (J z) (J w) = some (a_cost x n bs on z w) := by
  have hn := h.1
  have hbs := h.2.2.1
  have hnb := s_nb_le (n := n) h.2.1
  unfold F_X8_cost a_cost
  rw [S_hasBlock h.2.1 (by omega) hz.1 hz.2 (by omega), Option.bind_some]
  by_cases hp : 0 ≤ z ∧ z < s_nb n bs
  · obtain ⟨b, rfl⟩ : ∃ i : Nat, z = i := ⟨z.toNat, by omega⟩
    have hb : b < s_nb n bs := by omega
    obtain ⟨h1, h2, h3⟩ := s_en_gt h.2.1 hb
    rw [if_pos hp, if_pos hp, if_neg (by decide), L0, L16, jf_lt (by omega) (by omega) (by omega) (by omega), jf_lt (by omega) (by omega) (by omega) (by omega)]
    by_cases w0 : w < 0
    · rw [if_pos w0, if_neg (by omega)]
    · rw [if_neg w0]
      by_cases w1 : w < 16
      · obtain ⟨e, rfl⟩ : ∃ i : Nat, w = i := ⟨w.toNat, by omega⟩
        rw [if_pos w1, if_pos (by omega), S_firstOf rfl, Option.bind_some, S_endOf rfl (by omega) (by omega), Option.bind_some, S_blockBits hc.2.2.2.1 hn e (b * bs) (s_en n bs b) rfl rfl rfl (by omega) (by omega) h2, Option.bind_some, Int.toNat_natCast, Int.toNat_natCast]
      · rw [if_neg w1, if_neg (by omega)]
  · rw [if_neg hp, if_neg hp, if_pos rfl]
theorem S_with8 (h : RV x n bs on) (hg : RA x n gn) (hc : CO x n bs on ge pl gs gk sl g) {tl : Int32} {ts : Ar} (ht : PZ ts) {z w : Int} (hz : -2147483648 ≤ z ∧ z < 2147483648) (hw : -2147483648 ≤ w ∧ w < 2147483648) : ∃ tl' ts', PZ ts' ∧ F_X8_with pl gs (J n) (J bs) gn tl ts (J z) (J w) = some (a_with x n bs on z w, tl', ts') := by
  unfold F_X8_with a_with
  rw [S_isSetting8 hz hw, Option.bind_some]
  by_cases hs : a_setok z w
  · rw [if_pos hs, if_pos hs, if_neg (by decide), L0, jf_eq (by omega) (by omega) (by omega) (by omega)]
    unfold s_with
    by_cases h0 : z = 0
    · obtain ⟨bs', rfl⟩ : ∃ i : Nat, w = i := ⟨w.toNat, by omega⟩
      rw [if_pos h0, if_pos h0, hc.2.1, S_streamBits (h.set (bs' := bs') (on' := on) (by omega) ⟨h.2.2.2.1, h.2.2.2.2.1⟩) hc.2.2.2.1, Option.bind_some, Int.toNat_natCast]
      exact ⟨tl, ts, ht, rfl⟩
    · obtain ⟨on', rfl⟩ : ∃ i : Nat, w = i := ⟨w.toNat, by omega⟩
      obtain ⟨ts', a1, a2, a3⟩ := S_fill h (on' := on') (by omega) hg (vl := tl) ht
      rw [if_neg h0, if_neg h0, a3, Option.bind_some, S_streamBits (h.set (bs' := bs) (on' := on') ⟨h.2.1, h.2.2.1⟩ (by omega)) a2, Option.bind_some, Int.toNat_natCast]
      exact ⟨J n, ts', a1, rfl⟩
  · rw [if_neg hs, if_neg hs, if_pos rfl]
    exact ⟨tl, ts, ht, rfl⟩
theorem s_bz_rg (f : Nat → Nat) : ∀ k, 1 ≤ s_bz f k ∧ s_bz f k ≤ k + 1 := by
  intro k
  induction k with
  | zero => exact ⟨Nat.le_refl _, Nat.le_refl _⟩
  | succ k ih => unfold s_bz; split <;> omega
theorem s_bz_min (f : Nat → Nat) : ∀ k j, 1 ≤ j → j ≤ k + 1 → f (s_bz f k) ≤ f j ∧ (s_bz f k < j → f (s_bz f k) < f j) := by
  intro k
  induction k with
  | zero => intro j h1 h2; rw [show j = 1 by omega]; exact ⟨Nat.le_refl _, fun h => absurd h (Nat.lt_irrefl _)⟩
  | succ k ih =>
    intro j h1 h2
    have h3 := s_bz_rg f k
    unfold s_bz
    by_cases hq : f (k + 2) ≤ f (s_bz f k)
    · rw [if_pos hq]
      by_cases e : j = k + 2
      · subst e; exact ⟨Nat.le_refl _, fun h => absurd h (Nat.lt_irrefl _)⟩
      · have := ih j h1 (by omega)
        omega
    · rw [if_neg hq]
      by_cases e : j = k + 2
      · subst e; omega
      · exact ih j h1 (by omega)
theorem S_best29 (h : RV x n bs on) (hc : CO x n bs on ge pl gs gk sl g) (k : Int32 → Int32 → Option Int32) : ∀ (m fuel j : Nat) (i2 i3 i4 : Int32), j + m = 15 → m < fuel → i2 = J (s_bz (s_tot on (s_gp x) n) j) → i3 = J (s_tot on (s_gp x) n (s_bz (s_tot on (s_gp x) n) j)) → i4 = J ((j + 2 : Nat) : Int) →
    F_X8_best_L29 pl gs k fuel i2 i3 i4 = k (J (s_bz (s_tot on (s_gp x) n) 15)) (J (s_tot on (s_gp x) n (s_bz (s_tot on (s_gp x) n) 15))) := by
  intro m
  have hr : ∀ j, j ≤ 15 → RV x n (s_bz (s_tot on (s_gp x) n) j) on := fun j hj => by
    have := s_bz_rg (s_tot on (s_gp x) n) j
    exact h.set (by omega) ⟨h.2.2.2.1, h.2.2.2.2.1⟩
  induction m with
  | zero =>
    intro fuel j i2 i3 i4 hj hf e2 e3 e4
    obtain ⟨fuel, rfl⟩ : ∃ f, fuel = f + 1 := ⟨fuel - 1, by omega⟩
    rw [F_X8_best_L29, e4, if_pos (by rw [L16, J_lt (by omega) (by omega) (by omega) (by omega)]; omega), e2, e3, show j = 15 by omega]
  | succ m ih =>
    intro fuel j i2 i3 i4 hj hf e2 e3 e4
    obtain ⟨fuel, rfl⟩ : ∃ f, fuel = f + 1 := ⟨fuel - 1, by omega⟩
    have h1 := s_tot_le (hr j (by omega))
    have h2 : RV x n (j + 2) on := h.set (by omega) ⟨h.2.2.2.1, h.2.2.2.2.1⟩
    have h3 := s_tot_le h2
    have e6 : s_bz (s_tot on (s_gp x) n) (j + 1) = if s_tot on (s_gp x) n (j + 2) ≤ s_tot on (s_gp x) n (s_bz (s_tot on (s_gp x) n) j) then j + 2 else s_bz (s_tot on (s_gp x) n) j := rfl
    rw [F_X8_best_L29, e4, if_neg (by rw [L16, J_lt (by omega) (by omega) (by omega) (by omega)]; omega), hc.2.1, S_streamBits h2 hc.2.2.2.1, Option.bind_some, e3, jf_lt (by omega) (by omega) (by omega) (by omega), ← hc.2.1]
    by_cases hq : s_tot on (s_gp x) n (j + 2) ≤ s_tot on (s_gp x) n (s_bz (s_tot on (s_gp x) n) j)
    · rw [if_pos hq] at e6
      rw [if_neg (by omega)]
      exact ih fuel (j + 1) _ _ _ (by omega) (by omega) (by rw [e6]) (by rw [e6]) (by rw [L1, J_add]; norm_cast)
    · rw [if_neg hq] at e6
      rw [if_pos (by omega)]
      exact ih fuel (j + 1) _ _ _ (by omega) (by omega) (by rw [e6, e2]) (by rw [e6]) (by rw [L1, J_add]; norm_cast)
theorem S_best8 (h : RV x n bs on) (hc : CO x n bs on ge pl gs gk sl g) (w : Int32) : F_X8_best pl gs w = some (a_best x n on w) := by
  obtain ⟨f2, hf2⟩ := zFuel_ge (n := 17) (by omega)
  have h2 : RV x n 1 on := h.set (by omega) ⟨h.2.2.2.1, h.2.2.2.2.1⟩
  have e1 := S_streamBits h2 hc.2.2.2.1
  unfold F_X8_best a_best
  have e2 : F_X4_streamBits pl gs 1 = some (J (s_tot on (s_gp x) n 1)) := by rw [hc.2.1]; exact e1
  have e3 := fun k => S_best29 h hc k 15 (f2 + 17) 0 1 (J (s_tot on (s_gp x) n 1)) 2 (by omega) (by omega) rfl rfl rfl
  rw [e2, Option.bind_some, hf2, e3]
  by_cases w0 : w = 0
  · rw [if_pos w0, if_pos w0, if_pos w0]
  · by_cases w1 : w = 1
    · rw [if_neg w0, if_pos w1, if_neg w0, if_neg w0, if_pos w1]
    · rw [if_neg w0, if_neg w1, if_neg w0, if_neg w1]
/-- where the reading stands ahead of a place, when the row is read from its beginning -/
def s_rd (on : Nat) (gp : Nat → Nat) (n bs i : Nat) : Nat := if i % bs = 0 then s_sk on gp n bs (i / bs) else s_pos on gp n bs (i / bs) i
theorem s_rd_succ (h : RV x n bs on) {i : Nat} (hi : i < n) : s_rd on (s_gp x) n bs (i + 1) = s_pos on (s_gp x) n bs (i / bs) (i + 1) := by
  obtain ⟨h1, h2, h3⟩ := s_blk h.2.1 hi
  have hb := h.2.1
  have hd := Nat.div_add_mod i bs
  have hm := Nat.mod_lt i (show bs > 0 by omega)
  unfold s_rd
  by_cases e : (i + 1) % bs = 0
  · rw [if_pos e]
    have h4 : (i + 1) / bs = i / bs + 1 := by
      rw [Nat.succ_div, if_pos (Nat.dvd_of_mod_eq_zero e)]
    have h5 : i + 1 = i / bs * bs + bs := by
      have h6 := Nat.div_add_mod (i + 1) bs
      rw [e, h4, Nat.mul_comm, Nat.succ_mul] at h6
      omega
    have h7 : s_en n bs (i / bs) = i + 1 := by unfold s_en; split <;> omega
    rw [h4]
    show s_sk on (s_gp x) n bs (i / bs) + s_bb on (s_gp x) n bs (i / bs) = _
    unfold s_pos s_bb
    rw [h7]
    omega
  · rw [if_neg e]
    have h4 : (i + 1) / bs = i / bs := by
      rw [Nat.succ_div, if_neg (fun t => e (Nat.mod_eq_zero_of_dvd t))]; rfl
    rw [h4]
theorem S_check14 (h : RV x n bs on) (hg : RA x n gn) (hc : CO x n bs on ge pl gs gk sl g) (vs : Int32) (k : Int32 → Int32 → Int32 → Option (Int32 × Int32 × Int32 × Int32 × Int32)) : ∀ (m fuel i : Nat) (vn ve vm i1 : Int32), i + m = n → m < fuel → vn = J (s_rd on (s_gp x) n bs i) → (i % bs ≠ 0 → ve = J (s_ex on (s_gp x) n bs (i / bs))) → vm = J (s_na x i) → i1 = J i →
    ∃ a b c, F_X8_check_L14 sl vs g (J n) (J bs) (J on) gn k fuel vn ve vm i1 = k a b c := by
  intro m
  have hn := h.1
  have hbs := h.2.2.1
  induction m with
  | zero =>
    intro fuel i vn ve vm i1 hi hf en ee em e1
    obtain ⟨fuel, rfl⟩ : ∃ f, fuel = f + 1 := ⟨fuel - 1, by omega⟩
    rw [F_X8_check_L14, e1, if_pos (by rw [J_le (by omega) (by omega) (by omega) (by omega)]; omega)]
    exact ⟨_, _, _, rfl⟩
  | succ m ih =>
    intro fuel i vn ve vm i1 hi hf en ee em e1
    obtain ⟨fuel, rfl⟩ : ∃ f, fuel = f + 1 := ⟨fuel - 1, by omega⟩
    have hin : i < n := by omega
    obtain ⟨h1, h2, h3⟩ := s_blk h.2.1 hin
    have hd := Nat.div_add_mod i bs
    rw [Nat.mul_comm] at hd
    have h6 : s_na x (i + 1) = x i := by unfold s_na; rw [if_neg (by omega)]; rfl
    have hrs := s_rd_succ h hin
    have step : ∀ vn2 ve2 : Int32, vn2 = J (s_pos on (s_gp x) n bs (i / bs) i) → ve2 = J (s_ex on (s_gp x) n bs (i / bs)) → ∃ a b c, (Option.bind (F_X7_readNumber sl vn2 ve2 vm g (J on)) fun u9 => Option.bind (F_X5_number gn (J i)) fun u11 => if u9.2 = u11 then F_X8_check_L14 sl vs g (J n) (J bs) (J on) gn k fuel u9.1 ve2 u9.2 (J i + 1) else some (J i + 2, vs, u9.1, ve2, u9.2)) = k a b c := by
      intro vn2 ve2 en2 ee2
      rw [S_readNumber h (hc.sl h) h1 h2 h3 en2 ee2 em, Option.bind_some, S_number i rfl (by omega), Option.bind_some, hg i hin, h6, if_pos rfl]
      refine ih fuel (i + 1) _ _ _ _ (by omega) (by omega) (by rw [hrs]) (fun hm => ?_) (by rw [h6]) (by rw [L1, J_add]; norm_cast)
      have h4 : (i + 1) / bs = i / bs := by
        rw [Nat.succ_div, if_neg (fun t => hm (Nat.mod_eq_zero_of_dvd t))]; rfl
      rw [h4]; exact ee2
    rw [F_X8_check_L14, e1, if_neg (by rw [J_le (by omega) (by omega) (by omega) (by omega)]; omega), S_blockOf rfl h.2.1 (by omega) (by omega), Option.bind_some, S_firstOf rfl, Option.bind_some, jf_eq (by omega) (by omega) (by omega) (by omega)]
    unfold s_rd at en
    by_cases hm : i % bs = 0
    · rw [if_pos hm] at en
      rw [if_pos (by omega), S_readExp h (hc.sl h) h1 en, Option.bind_some]
      exact step _ _ (by rw [show i / bs * bs = i by omega]) rfl
    · rw [if_neg hm] at en
      rw [if_neg (by omega)]
      exact step vn ve en (ee hm)
theorem S_check8 (h : RV x n bs on) (hg : RA x n gn) (hc : CO x n bs on ge pl gs gk sl g) (a1 a2 a3 a4 : Int32) : ∃ c1 c2 c3 c4, F_X8_check sl a1 a2 a3 a4 g (J n) (J bs) (J on) gn = some (1, c1, c2, c3, c4) := by
  have hn := h.1
  obtain ⟨f2, hf2⟩ := zFuel_ge (n := 65) (by omega)
  unfold F_X8_check F_X7_startAt
  rw [Option.bind_some, hf2]
  obtain ⟨a, b, c, e⟩ := S_check14 h hg hc 0 (fun a b c => some (1, 0, a, b, c)) n (f2 + 65) 0 0 a3 (-1) 0 (by omega) (by omega) (by unfold s_rd; rw [Nat.zero_mod, Nat.zero_div, if_pos rfl]; rfl) (fun t => absurd (Nat.zero_mod bs) t) rfl rfl
  exact ⟨_, _, _, _, e⟩
end ASK3
