-- the law reads the row out of the bits
section CODED
variable {x : Nat → Nat} {n bs on : Nat} {gn : Ar} {ge : Ar} {pl : Int32} {gs gk : Ar} {sl : Int32} {g : Ar}
theorem nat_rg {m : Nat} (h : m ≤ 64) : -2147483648 ≤ (m : Int) ∧ (m : Int) < 2147483648 := by omega
theorem s_ex_le (on : Nat) (gp : Nat → Nat) (n bs b : Nat) : s_ex on gp n bs b ≤ 15 := s_be_le _ _ _ _
theorem s_rd_tot (h : RV x n bs on) : s_rd on (s_gp x) n bs n = s_tot on (s_gp x) n bs := by
  have hb := h.2.1
  by_cases h0 : n = 0
  · subst h0
    have e : s_nb 0 bs = 0 := Nat.le_zero.mp (s_nb_le hb)
    unfold s_rd s_tot
    rw [e, Nat.zero_mod, if_pos rfl, Nat.zero_div]
  · have h1 := s_rd_succ h (show n - 1 < n by omega)
    rw [show n - 1 + 1 = n by omega] at h1
    obtain ⟨h2, h3, h4⟩ := s_blk hb (show n - 1 < n by omega)
    have h5 := (s_en_gt hb h2).2.1
    have h6 : s_en n bs ((n - 1) / bs) = n := by omega
    have h7 : (n - 1) / bs + 1 = s_nb n bs := by
      have h8 : ¬ (n - 1) / bs + 1 < s_nb n bs := by
        intro h9
        have h10 := (s_nb_lt hb).mp h9
        have h11 := (s_en_le n bs ((n - 1) / bs))
        rw [Nat.succ_mul] at h10
        have h12 := (s_en_gt hb h2).2.2
        omega
      omega
    rw [h1]
    unfold s_tot
    rw [← h7]
    show _ = s_sk on (s_gp x) n bs ((n - 1) / bs) + s_bb on (s_gp x) n bs ((n - 1) / bs)
    unfold s_pos s_bb
    rw [h6]
    omega
theorem Z_J253 (h : RV x n bs on) (hg : RA x n gn) (hc : CO x n bs on ge pl gs gk sl g) {i : Nat} (hi : i < n) (k kb) (c1 c2 c3 c4 vl vpd i1 i4 : Int32) {i3 i6 i10 k0 k1 : Int32} {p q : Nat} (e3 : i3 = J (s_na x i)) (e6 : i6 = J i) (e10 : i10 = J (s_gp x i)) (ep : k0 = J p) (eq : k1 = J q) : ∃ d1 d2 d3 d4, F_L_isCoded_J253L24 k kb ge gs gk sl c1 c2 c3 c4 g vl vpd (J n) (J bs) (J on) gn i1 i3 i4 1 i6 i10 k0 k1 = kb d1 d2 d3 d4 (J ((p + q : Nat) : Int)) (J (s_na x (i + 1))) 1 (J ((i + 1 : Nat) : Int)) := by
  have hn := h.1
  obtain ⟨d1, d2, d3, d4, ea⟩ := S_at8 h hg hc (z := i) (by omega) 0 c1 c2 c3 c4
  refine ⟨d1, d2, d3, d4, ?_⟩
  have hx := (h.gp hi).2
  have es : s_na x (i + 1) = (x i : Int) := by unfold s_na; rw [if_neg (by omega)]; rfl
  unfold F_L_isCoded_J253L24
  rw [if_neg (by decide), e6, S_gap8 h hg hc (by omega) 0, Option.bind_some, gt0 rfl hi, e10, if_pos rfl, ea, Option.bind_some, at0 rfl hi, e3, ep, eq, es, L1]
  simp only [J_add]
  rw [if_pos (by congr 1; omega)]
  congr 1
  congr 1; omega
theorem Z_J188 (h : RV x n bs on) (hg : RA x n gn) (hc : CO x n bs on ge pl gs gk sl g) {i : Nat} (hi : i < n) (k kb) (c1 c2 c3 c4 vl vpd i1 : Int32) {i2 i3 i6 i8 i9 : Int32} (e2 : i2 = J (s_pos on (s_gp x) n bs (i / bs) i)) (e3 : i3 = J (s_na x i)) (e6 : i6 = J i) (e8 : i8 = J (s_ex on (s_gp x) n bs (i / bs))) {r : Nat} (e9 : i9 = J r) (hr : r = if on ≤ s_gp x i / 2 ^ s_ex on (s_gp x) n bs (i / bs) then on else s_gp x i / 2 ^ s_ex on (s_gp x) n bs (i / bs)) : ∃ d1 d2 d3 d4, F_L_isCoded_J188L24 k kb ge gs gk sl c1 c2 c3 c4 g vl vpd (J n) (J bs) (J on) gn i1 i2 i3 (J on) i6 i8 i9 1 = kb d1 d2 d3 d4 (J (s_pos on (s_gp x) n bs (i / bs) (i + 1))) (J (s_na x (i + 1))) 1 (J ((i + 1 : Nat) : Int)) := by
  have hn := h.1
  have hon := h.2.2.2.2.1
  have hs := hc.sl h
  obtain ⟨h1, h2, h3⟩ := s_blk h.2.1 hi
  obtain ⟨pre, post, hl, hp⟩ := s_pos_at h h1 h2 h3
  have hps := s_pos_succ (x := x) (n := n) (bs := bs) (on := on) (b := i / bs) (i := i) h2
  have hpl := s_pos_le h h1 h2 (show i ≤ s_en n bs (i / bs) by omega)
  have hgp := (h.gp hi).1
  have hex := s_ex_le on (s_gp x) n bs (i / bs)
  rw [hps]
  generalize s_pos on (s_gp x) n bs (i / bs) i = P at *
  generalize s_ex on (s_gp x) n bs (i / bs) = e at *
  unfold s_code at hl
  unfold s_cb
  unfold F_L_isCoded_J188L24
  by_cases hq : on ≤ s_gp x i / 2 ^ e
  · rw [if_pos hq] at hl hr ⊢
    subst hr
    rw [e9, if_pos rfl, e2, J_add, Z_read hs (iw := 16) (bf := fun j => s_gp x i / 2 ^ j % 2) (w := 16) (by omega) (pre ++ lb (fun _ => 1) r) post (by rw [hl]; simp [bv]) (by rw [List.length_append, lb_len, hp]; norm_cast) rfl, Option.bind_some, vb_mod, Nat.mod_eq_of_lt (by omega)]
    unfold F_L_isCoded_J228L24
    rw [if_pos rfl, L16, J_add]
    obtain ⟨d1, d2, d3, d4, hd⟩ := Z_J253 h hg hc hi k kb c1 c2 c3 c4 vl vpd i1 (J r) (p := P) (q := r + 16) (k1 := J ((r : Int) + 16)) e3 e6 rfl rfl (by norm_cast)
    exact ⟨d1, d2, d3, d4, hd⟩
  · rw [if_neg hq] at hl hr ⊢
    have hd := Nat.div_add_mod (s_gp x i) (2 ^ e)
    rw [Nat.mul_comm, ← hr] at hd
    rw [← hr] at hl hq ⊢
    have hl3 : s_str on (s_gp x) n bs (s_nb n bs) = (pre ++ lb (fun _ => 1) r ++ [0]) ++ (lb (fun j => s_gp x i / 2 ^ j % 2) e ++ post) := by rw [hl]; simp [bv]
    rw [e9, if_neg (by rw [J_eq (by omega) (by omega) (by omega) (by omega)]; omega), e2, J_add, J_add1, e8, Z_read hs (bf := fun j => s_gp x i / 2 ^ j % 2) (w := e) (by omega) (pre ++ lb (fun _ => 1) r ++ [0]) post hl3 (by rw [List.length_append, List.length_append, lb_len, hp]; show _ = J ((P + r + 1 : Nat) : Int); norm_cast) rfl, Option.bind_some, vb_mod, J_shl (by omega), J_add]
    unfold F_L_isCoded_J228L24
    rw [if_neg (by rw [J_eq (by omega) (by omega) (by omega) (by omega)]; omega), J_add1, J_add]
    obtain ⟨d1, d2, d3, d4, hd⟩ := Z_J253 h hg hc hi k kb c1 c2 c3 c4 vl vpd i1 (J on) (p := P) (q := r + 1 + e) (i10 := J ((r : Int) * 2 ^ e + ((s_gp x i % 2 ^ e : Nat) : Int))) (k1 := J ((r : Int) + 1 + (e : Int))) e3 e6 (by rw [show ((r : Int) * 2 ^ e + ((s_gp x i % 2 ^ e : Nat) : Int)) = ((r * 2 ^ e + s_gp x i % 2 ^ e : Nat) : Int) by norm_cast, hd]) rfl (by norm_cast)
    exact ⟨d1, d2, d3, d4, hd⟩
theorem Z_J108 (h : RV x n bs on) (hg : RA x n gn) (hc : CO x n bs on ge pl gs gk sl g) {i : Nat} (hi : i < n) (k kb) (c1 c2 c3 c4 vl vpd i1 : Int32) {i2 i3 i6 i7 : Int32} (e2 : i2 = J (s_pos on (s_gp x) n bs (i / bs) i)) (e3 : i3 = J (s_na x i)) (e6 : i6 = J i) (e7 : i7 = J ((i / bs : Nat) : Int)) : ∃ d1 d2 d3 d4, F_L_isCoded_J108L24 k kb ge gs gk sl c1 c2 c3 c4 g vl vpd (J n) (J bs) (J on) gn i1 i2 i3 (J on) 1 i6 i7 = kb d1 d2 d3 d4 (J (s_pos on (s_gp x) n bs (i / bs) (i + 1))) (J (s_na x (i + 1))) 1 (J ((i + 1 : Nat) : Int)) := by
  have hn := h.1
  have hon := h.2.2.2.2.1
  have hs := hc.sl h
  obtain ⟨h1, h2, h3⟩ := s_blk h.2.1 hi
  have hib := Nat.div_le_self i bs
  obtain ⟨pre, post, hl, hp⟩ := s_pos_at h h1 h2 h3
  obtain ⟨d1, d2, d3, d4, hd⟩ := Z_J188 h hg hc hi k kb c1 c2 c3 c4 vl vpd i1 e2 e3 e6 rfl rfl rfl
  refine ⟨d1, d2, d3, d4, ?_⟩
  rw [← hd]
  clear hd
  unfold F_L_isCoded_J108L24
  rw [e7, S_block8 h hg hc (nat_rg (Nat.le_trans hib (by omega))) 0, Option.bind_some, bk0 rfl h1]
  have hz := Z_ones hs hon (r := if on ≤ s_gp x i / 2 ^ s_ex on (s_gp x) n bs (i / bs) then on else s_gp x i / 2 ^ s_ex on (s_gp x) n bs (i / bs)) (by split <;> omega) pre (if on ≤ s_gp x i / 2 ^ s_ex on (s_gp x) n bs (i / bs) then bv (s_gp x i) 16 ++ post else 0 :: (bv (s_gp x i) (s_ex on (s_gp x) n bs (i / bs)) ++ post))
    (by rw [hl]; unfold s_code; split <;> simp) (by split; exact Or.inl rfl; exact Or.inr ⟨_, rfl⟩) (z := i2) (by rw [e2, hp])
  refine (hz _).trans ?_
  show (if (1 : Int32) = 0 then _ else Option.bind _ _) = _
  rw [if_neg (by decide), e6, S_gap8 h hg hc (by omega) 4, Option.bind_some, gt4 rfl hi, e2, if_pos rfl, S_gap8 h hg hc (by omega) 3, Option.bind_some, gt3 rfl hi]
  unfold F_L_isCoded_J180L24 s_esc
  by_cases hq : on ≤ s_gp x i / 2 ^ s_ex on (s_gp x) n bs (i / bs)
  · rw [if_pos hq, if_pos hq, if_pos rfl, if_pos (by decide)]
  · have hgl := s_dvl (s_gp x i) (s_ex on (s_gp x) n bs (i / bs))
    have hgp := (h.gp hi).1
    generalize s_gp x i / 2 ^ s_ex on (s_gp x) n bs (i / bs) = q at hq hgl ⊢
    rw [if_neg hq, if_neg hq, if_neg (by rw [J_eq (by omega) (by omega) (by omega) (by omega)]; omega), if_pos (by decide)]
theorem Z_L24 (h : RV x n bs on) (hg : RA x n gn) (hc : CO x n bs on ge pl gs gk sl g) {hl p : Nat} (k) : ∀ (m fuel i : Nat) (c1 c2 c3 c4 i2 i3 i6 : Int32), i + m = n → m < fuel → i2 = J (s_rd on (s_gp x) n bs i) → i3 = J (s_na x i) → i6 = J i →
    ∃ d1 d2 d3 d4, F_L_isCoded_L24 ge gs gk sl g (J hl) (J p) (J n) (J bs) (J on) gn (J n) (J on) k fuel c1 c2 c3 c4 i2 i3 1 i6 = k d1 d2 d3 d4 (J (s_rd on (s_gp x) n bs n)) 1 := by
  intro m
  have hn := h.1
  have hb1 := h.2.1
  have hb2 := h.2.2.1
  induction m with
  | zero =>
    intro fuel i c1 c2 c3 c4 i2 i3 i6 hi hf e2 e3 e6
    obtain ⟨fuel, rfl⟩ : ∃ f, fuel = f + 1 := ⟨fuel - 1, by omega⟩
    have ei : i = n := by omega
    subst ei
    exact ⟨c1, c2, c3, c4, by rw [F_L_isCoded_L24, e6, if_pos (by rw [J_le (by omega) (by omega) (by omega) (by omega)]; omega), e2]⟩
  | succ m ih =>
    intro fuel i c1 c2 c3 c4 i2 i3 i6 hi hf e2 e3 e6
    obtain ⟨fuel, rfl⟩ : ∃ f, fuel = f + 1 := ⟨fuel - 1, by omega⟩
    have hin : i < n := by omega
    have hib := Nat.div_le_self i bs
    obtain ⟨h1, h2, h3⟩ := s_blk h.2.1 hin
    have eq : J i / J bs = J ((i / bs : Nat) : Int) := by rw [J_div (by omega) (by omega) (by omega) (by omega)]; rfl
    have er : J i - J ((i / bs : Nat) : Int) * J bs = J ((i % bs : Nat) : Int) := by
      rw [J_mul, J_sub]
      congr 1
      have := Nat.div_add_mod i bs
      rw [Nat.mul_comm] at this
      omega
    have hml := Nat.mod_lt i (show bs > 0 by omega)
    have hcond : J ((i % bs : Nat) : Int) = 0 ↔ i % bs = 0 := by rw [L0, J_eq (by omega) (by omega) (by omega) (by omega)]; omega
    have hrg := nat_rg (Nat.le_trans hib (show i ≤ 64 by omega))
    have hml := Nat.mod_lt i (show bs > 0 by omega)
    have key : ∀ (c1 c2 c3 c4 i2 : Int32), i2 = J (s_pos on (s_gp x) n bs (i / bs) i) → ∃ d1 d2 d3 d4, F_L_isCoded_J108L24 k (F_L_isCoded_L24 ge gs gk sl g (J hl) (J p) (J n) (J bs) (J on) gn (J n) (J on) k fuel) ge gs gk sl c1 c2 c3 c4 g (J hl) (J p) (J n) (J bs) (J on) gn (J n) i2 i3 (J on) 1 (J i) (J ((i / bs : Nat) : Int)) = k d1 d2 d3 d4 (J (s_rd on (s_gp x) n bs n)) 1 := by
      intro c1 c2 c3 c4 i2 e
      obtain ⟨d1, d2, d3, d4, hd⟩ := Z_J108 h hg hc hin k (F_L_isCoded_L24 ge gs gk sl g (J hl) (J p) (J n) (J bs) (J on) gn (J n) (J on) k fuel) c1 c2 c3 c4 (J hl) (J p) (J n) e e3 rfl rfl
      rw [hd]
      exact ih fuel (i + 1) d1 d2 d3 d4 _ _ _ (by omega) (by omega) (by rw [s_rd_succ h hin]) rfl rfl
    rw [F_L_isCoded_L24, e6, if_neg (by rw [J_le (by omega) (by omega) (by omega) (by omega)]; omega), if_neg (by decide), S_count8 h hg hc 6, Option.bind_some, ct6, if_pos (by rw [L0, J_eq (by omega) (by omega) (by omega) (by omega)]; omega), Option.bind_some, if_pos (by rw [L0, J_eq (by omega) (by omega) (by omega) (by omega)]; omega), eq, er]
    unfold s_rd at e2
    by_cases hm : i % bs = 0
    · rw [if_pos hm] at e2
      have ei : i / bs * bs = i := by have := Nat.div_add_mod i bs; rw [Nat.mul_comm] at this; omega
      have hsl := (s_sk_le h (i / bs) (by omega)).2
      have hr : F_L_read sl g i2 4 = some (J (s_ex on (s_gp x) n bs (i / bs))) := by
        obtain ⟨post, hpost⟩ := s_str_split on (s_gp x) n bs (i / bs) (s_nb n bs - (i / bs + 1))
        rw [show i / bs + 1 + (s_nb n bs - (i / bs + 1)) = s_nb n bs by omega] at hpost
        have hex := s_ex_le on (s_gp x) n bs (i / bs)
        rw [Z_read (hc.sl h) (iw := 4) (bf := fun j => s_ex on (s_gp x) n bs (i / bs) / 2 ^ j % 2) (w := 4) (by omega) (s_str on (s_gp x) n bs (i / bs)) (s_codes on (s_gp x) (s_ex on (s_gp x) n bs (i / bs)) (i / bs * bs) (s_en n bs (i / bs) - i / bs * bs) ++ post) (by rw [hpost]; unfold s_block bv; simp) (by rw [e2, s_str_len on (s_gp x) hb1 _ (by omega)]) rfl, vb_mod, Nat.mod_eq_of_lt (by omega)]
      rw [if_pos (hcond.mpr hm), S_block8 h hg hc hrg 3, Option.bind_some, bk3 rfl h1, e2, if_pos rfl, S_block8 h hg hc hrg 0, Option.bind_some, bk0 rfl h1, ← e2, hr, Option.bind_some, if_pos rfl, S_block8 h hg hc hrg 4, Option.bind_some, bk4 rfl h1, ei, e3, J_add1, if_pos rfl, ← e3]
      refine key c1 c2 c3 c4 _ ?_
      have := s_pos_first on (s_gp x) n bs (i / bs)
      rw [ei] at this
      rw [e2, this, L4, J_add]
      norm_cast
    · rw [if_neg hm] at e2
      rw [if_neg (fun t => hm (hcond.mp t))]
      exact key c1 c2 c3 c4 _ e2
theorem Z_isCoded (h : RV x n bs on) (hg : RA x n gn) (hc : CO x n bs on ge pl gs gk sl g) (hl p : Nat) (c1 c2 c3 c4 : Int32) : ∃ d1 d2 d3 d4, F_L_isCoded ge gs gk sl c1 c2 c3 c4 g (J hl) (J p) (J n) (J bs) (J on) gn = some (1, d1, d2, d3, d4) := by
  obtain ⟨f2, hf2⟩ := zFuel_ge (n := 65) (by omega)
  have hn := h.1
  have hrd : s_rd on (s_gp x) n bs 0 = 0 := by unfold s_rd; rw [Nat.zero_mod, if_pos rfl, Nat.zero_div]; rfl
  unfold F_L_isCoded
  rw [S_count8 h hg hc 0, Option.bind_some, ct0, S_count8 h hg hc 7, Option.bind_some, ct7, hf2]
  obtain ⟨a1, a2, a3, a4, ha⟩ := Z_L24 h hg hc (hl := hl) (p := p) (fun (v_p0_coding_stream_start_5 : Int32) (v_p0_coding_stream_next_6 : Int32) (v_p0_coding_stream_exponent_7 : Int32) (v_p0_coding_stream_number_8 : Int32) (i2_9 : Int32) (i5_10 : Int32) => (if i5_10 = 0 then (some (0, v_p0_coding_stream_start_5, v_p0_coding_stream_next_6, v_p0_coding_stream_exponent_7, v_p0_coding_stream_number_8)) else (Option.bind (F_X8_count ge sl (J hl) (J p) (J n) (J bs) (J on) gn 2) (fun u12 => (if i2_9 = u12 then (Option.bind (F_X8_check sl v_p0_coding_stream_start_5 v_p0_coding_stream_next_6 v_p0_coding_stream_exponent_7 v_p0_coding_stream_number_8 g (J n) (J bs) (J on) gn) (fun u15 => (if u15.1 = 1 then (some (1, u15.2.1, u15.2.2.1, u15.2.2.2.1, u15.2.2.2.2)) else (some (0, u15.2.1, u15.2.2.1, u15.2.2.2.1, u15.2.2.2.2))))) else (some (0, v_p0_coding_stream_start_5, v_p0_coding_stream_next_6, v_p0_coding_stream_exponent_7, v_p0_coding_stream_number_8)))))))
    n (f2 + 65) 0 c1 c2 c3 c4 0 (-1) 0 (by omega) (by omega) (by rw [hrd]; rfl) rfl rfl
  obtain ⟨d1, d2, d3, d4, hd⟩ := S_check8 h hg hc a1 a2 a3 a4
  refine ⟨d1, d2, d3, d4, ha.trans ?_⟩
  show (if (1 : Int32) = 0 then _ else Option.bind _ _) = _
  rw [if_neg (by decide), S_count8 h hg hc 2, Option.bind_some, ct2, s_rd_tot h, if_pos rfl, hd, Option.bind_some, if_pos rfl]
end CODED
