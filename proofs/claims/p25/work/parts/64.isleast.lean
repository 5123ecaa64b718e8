-- isLeast answers 1
section ISLEAST
variable {x : Nat → Nat} {n bs on : Nat} {gn : Ar} {ge : Ar} {pl : Int32} {gs gk : Ar} {sl : Int32} {g : Ar} {ts : Ar}
theorem s_cb_pos (on g e : Nat) : 1 ≤ s_cb on g e := by unfold s_cb; generalize g / 2 ^ e = q; split <;> omega
theorem f_find (h : RV x n bs on) (hg : RA x n gn) (hc : CO x n bs on ge pl gs gk sl g) {q : Int} (hq : 0 ≤ q ∧ q ≤ 65535) (w : Int32) (wi : Int) (hw : 0 ≤ wi ∧ wi ≤ 3) (ew : w = J wi) (a1 a2 a3 a4 : Int32) : ∃ c1 c2 c3 c4, F_X8_find gk sl a1 a2 a3 a4 g (J n) (J bs) (J on) gn (J q) w = some (a_find x n bs on q wi, c1, c2, c3, c4) := by
  rw [ew]
  exact S_find8 h hg hc (by omega) (by omega) a1 a2 a3 a4
/-- the bits that find() reads -/
def s_f3 (x : Nat → Nat) (n bs on : Nat) (q : Int) : Nat := 4 + s_cs on (s_gp x) (s_ex on (s_gp x) n bs (s_bk x n bs q)) (s_bk x n bs q * bs) (if s_lo x q n + 1 < s_en n bs (s_bk x n bs q) then s_lo x q n + 1 else s_en n bs (s_bk x n bs q))
theorem s_f3_rg (h : RV x n bs on) {q : Int} (hn0 : 0 < n) : 4 < s_f3 x n bs on q ∧ s_f3 x n bs on q ≤ s_bb on (s_gp x) n bs (s_bk x n bs q) := by
  obtain ⟨h1, h2, h3⟩ := s_bk_at h (q := q) hn0
  obtain ⟨h4, h5, h6⟩ := s_en_gt h.2.1 h1
  unfold s_f3 s_bb
  generalize s_ex on (s_gp x) n bs (s_bk x n bs q) = e
  generalize s_bk x n bs q = b at *
  have hm : ∃ m, m = (if s_lo x q n + 1 < s_en n bs b then s_lo x q n + 1 else s_en n bs b) ∧ b * bs < m ∧ m ≤ s_en n bs b := ⟨_, rfl, by split <;> omega, by split <;> omega⟩
  obtain ⟨m, em, h7, h8⟩ := hm
  rw [← em]
  have h9 := s_ps_mono (on := on) (gp := s_gp x) (e := e) (show b * bs + 1 ≤ m by omega)
  have h10 := s_ps_mono (on := on) (gp := s_gp x) (e := e) h8
  have h11 := s_cb_pos on (s_gp x (b * bs)) e
  have h12 : s_ps on (s_gp x) e (b * bs + 1) = s_ps on (s_gp x) e (b * bs) + s_cb on (s_gp x (b * bs)) e := rfl
  unfold s_cs
  omega
theorem Z_J353 (h : RV x n bs on) (hg : RA x n gn) (hc : CO x n bs on ge pl gs gk sl g) (hn0 : 0 < n) (hts : PZ ts) {hl p : Nat} (c1 c2 c3 c4 tl i1 : Int32) : ∃ tl' ts', PZ ts' ∧ F_L_isLeast_J353 ge pl gs gk sl c1 c2 c3 c4 g (J hl) (J p) (J n) (J bs) (J on) gn tl ts i1 1 = some (1, c1, c2, c3, c4, tl', ts') := by
  have hn := h.1
  have hs := hc.sl h
  have hb2 := B2.str on (s_gp x) n bs (s_nb n bs)
  have hlen : (s_str on (s_gp x) n bs (s_nb n bs)).length = s_tot on (s_gp x) n bs := s_str_len on (s_gp x) h.2.1 _ (Nat.le_refl _)
  have ht := s_tot_le h
  have htp : 0 < s_tot on (s_gp x) n bs := by
    have h1 := (s_nb_lt (n := n) (b := 0) h.2.1).mpr (by omega)
    have h2 := s_sk_mono (on := on) (gp := s_gp x) (n := n) (bs := bs) (show 1 ≤ s_nb n bs by omega)
    have h3 : s_sk on (s_gp x) n bs 1 = 0 + s_bb on (s_gp x) n bs 0 := rfl
    have h4 : 4 ≤ s_bb on (s_gp x) n bs 0 := by unfold s_bb; omega
    unfold s_tot
    omega
  obtain ⟨z1, z2⟩ := s_bz_rg (s_tot on (s_gp x) n) 15
  have hmn := (s_bz_min (s_tot on (s_gp x) n) 15 bs h.2.1 h.2.2.1).1
  have hsv := h.set (bs' := s_bz (s_tot on (s_gp x) n) 15) (on' := on) ⟨z1, z2⟩ ⟨h.2.2.2.1, h.2.2.2.2.1⟩
  have hzt := s_tot_le hsv
  obtain ⟨u, hu, eu⟩ := S_up (i1 >>> (9 &&& 31)) htp (by omega)
  obtain ⟨f2, hf2⟩ := zFuel_ge (n := 65) (by omega)
  obtain ⟨tl', ts', hp', ew⟩ : ∃ tl' ts', PZ ts' ∧ F_X8_with pl gs (J n) (J bs) gn tl ts 0 (J (s_bz (s_tot on (s_gp x) n) 15)) = some (a_with x n bs on 0 (s_bz (s_tot on (s_gp x) n) 15), tl', ts') := S_with8 h hg hc hts (z := 0) (w := s_bz (s_tot on (s_gp x) n) 15) (by omega) (by omega)
  refine ⟨tl', ts', hp', ?_⟩
  have eb1 : a_best x n on 1 = J (s_tot on (s_gp x) n (s_bz (s_tot on (s_gp x) n) 15)) := by unfold a_best; rw [if_neg (by decide), if_pos rfl]
  have eb0 : a_best x n on 0 = J (s_bz (s_tot on (s_gp x) n) 15) := by unfold a_best; rw [if_pos rfl]
  have ewv : a_with x n bs on 0 (s_bz (s_tot on (s_gp x) n) 15) = J (s_tot on (s_gp x) n (s_bz (s_tot on (s_gp x) n) 15)) := by
    unfold a_with s_with
    rw [if_pos (Or.inl ⟨rfl, by omega, by omega⟩), if_pos rfl, Int.toNat_natCast]
  have ebt : F_X8_bits sl g (J u) = some (s_word (s_str on (s_gp x) n bs (s_nb n bs)) u 32) := by
    rw [S_bits8 hs (by omega)]
    unfold a_bits
    rw [if_pos (by omega), Int.toNat_natCast]
  unfold F_L_isLeast_J353
  rw [S_count8 h hg hc 2, Option.bind_some, ct2, eu, Option.bind_some, ebt, Option.bind_some, hf2]
  refine (Z_L380 hs hb2 (by omega) _ 32 (f2 + 65) 0 0 (by omega) (by omega) rfl).trans ?_
  show (if (1 : Int32) = 0 then _ else Option.bind _ _) = _
  rw [if_neg (by decide), S_best8 h hc 1, Option.bind_some, Option.bind_some, eb1, if_neg (by rw [J_lt (by omega) (by omega) (by omega) (by omega)]; omega), S_best8 h hc 0, Option.bind_some, eb0, ew, Option.bind_some, Option.bind_some, ewv, if_pos rfl]
theorem Z_J300 (h : RV x n bs on) (hg : RA x n gn) (hc : CO x n bs on ge pl gs gk sl g) (hn0 : 0 < n) (hts : PZ ts) {hl p : Nat} {q : Int} (hq : 0 ≤ q ∧ q ≤ 65535) (c1 c2 c3 c4 tl i1 : Int32) : ∃ d1 d2 d3 d4 tl' ts', PZ ts' ∧ F_L_isLeast_J300 ge pl gs gk sl c1 c2 c3 c4 g (J hl) (J p) (J n) (J bs) (J on) gn tl ts i1 (J q) (J (s_lo x q n)) (J (s_bk x n bs q)) 1 = some (1, d1, d2, d3, d4, tl', ts') := by
  have hn := h.1
  have hlo := s_lo_le x q n
  unfold F_L_isLeast_J300
  rw [if_neg (by decide), S_count8 h hg hc 0, Option.bind_some, ct0, jf_eq (by omega) (by omega) (by omega) (by omega)]
  by_cases c : (s_lo x q n : Int) = n
  · rw [if_pos c]
    obtain ⟨tl', ts', h1, h2⟩ := Z_J353 h hg hc hn0 hts (hl := hl) (p := p) c1 c2 c3 c4 tl i1
    exact ⟨c1, c2, c3, c4, tl', ts', h1, h2⟩
  · obtain ⟨b1, b2, b3⟩ := s_blk h.2.1 (show s_lo x q n < n by omega)
    have hbk : s_bk x n bs q = s_lo x q n / bs := by unfold s_bk; rw [if_pos b1]
    obtain ⟨a1, a2, a3, a4, ef⟩ := f_find h hg hc hq 3 3 (by omega) rfl c1 c2 c3 c4
    obtain ⟨e1, e2, e3, e4, ea⟩ := S_at8 h hg hc (z := s_lo x q n) (by omega) 1 a1 a2 a3 a4
    obtain ⟨tl', ts', h1, h2⟩ := Z_J353 h hg hc hn0 hts (hl := hl) (p := p) e1 e2 e3 e4 tl i1
    refine ⟨e1, e2, e3, e4, tl', ts', h1, ?_⟩
    have ev : a_find x n bs on q 3 = J ((4 + s_cs on (s_gp x) (s_ex on (s_gp x) n bs (s_lo x q n / bs)) (s_lo x q n / bs * bs) (s_lo x q n + 1) : Nat) : Int) := by
      rw [a_find_3 hq, if_neg (by omega), hbk, show (if s_lo x q n + 1 < s_en n bs (s_lo x q n / bs) then s_lo x q n + 1 else s_en n bs (s_lo x q n / bs)) = s_lo x q n + 1 by split <;> omega]
    have hb1 := h.2.1
    have hb2 := h.2.2.1
    rw [if_neg c, S_count8 h hg hc 6, Option.bind_some, ct6, if_pos (by rw [L0, J_eq (by omega) (by omega) (by omega) (by omega)]; omega), J_div (by omega) (by omega) (by omega) (by omega), hbk, if_pos (by norm_cast), ef, Option.bind_some, ea, Option.bind_some, ev, at1 rfl (by omega), if_pos rfl]
    exact h2
theorem Z_J264 (h : RV x n bs on) (hg : RA x n gn) (hc : CO x n bs on ge pl gs gk sl g) (hn0 : 0 < n) (hts : PZ ts) {hl p : Nat} {q : Int} (hq : 0 ≤ q ∧ q ≤ 65535) (c1 c2 c3 c4 tl i1 t1 t2 : Int32) (et : t1 = t2) : ∃ d1 d2 d3 d4 tl' ts', PZ ts' ∧ F_L_isLeast_J264 ge pl gs gk sl c1 c2 c3 c4 g (J hl) (J p) (J n) (J bs) (J on) gn tl ts i1 (J q) (J (s_lo x q n)) (J (s_bk x n bs q)) t1 t2 = some (1, d1, d2, d3, d4, tl', ts') := by
  have hn := h.1
  obtain ⟨b1, b2, b3⟩ := s_bk_at h (q := q) hn0
  obtain ⟨r1, r2⟩ := s_f3_rg h (q := q) hn0
  have hbb := s_bb_rg h b1
  have hnb := s_nb_le (n := n) h.2.1
  have ev : a_find x n bs on q 3 = J (s_f3 x n bs on q) := by rw [a_find_3 hq, if_neg (by omega)]; rfl
  obtain ⟨a1, a2, a3, a4, ef⟩ := f_find h hg hc hq 3 3 (by omega) rfl c1 c2 c3 c4
  obtain ⟨e1, e2, e3, e4, ef2⟩ := f_find h hg hc hq 3 3 (by omega) rfl a1 a2 a3 a4
  obtain ⟨d1, d2, d3, d4, tl', ts', h1, h2⟩ := Z_J300 h hg hc hn0 hts (hl := hl) (p := p) hq e1 e2 e3 e4 tl i1
  refine ⟨d1, d2, d3, d4, tl', ts', h1, ?_⟩
  unfold F_L_isLeast_J264
  rw [if_pos et, ef, Option.bind_some, S_block8 h hg hc (by omega) 2, Option.bind_some, bk2 rfl b1, ev, if_neg (by rw [J_lt (by omega) (by omega) (by omega) (by omega)]; omega), ef2, Option.bind_some, ev, L4, if_neg (by rw [J_le (by omega) (by omega) (by omega) (by omega)]; omega)]
  exact h2
theorem Z_J230 (h : RV x n bs on) (hg : RA x n gn) (hc : CO x n bs on ge pl gs gk sl g) (hn0 : 0 < n) (hts : PZ ts) {hl p : Nat} {q : Int} (hq : 0 ≤ q ∧ q ≤ 65535) (c1 c2 c3 c4 tl i1 : Int32) : ∃ d1 d2 d3 d4 tl' ts', PZ ts' ∧ F_L_isLeast_J230 ge pl gs gk sl c1 c2 c3 c4 g (J hl) (J p) (J n) (J bs) (J on) gn tl ts i1 (J q) (J (s_lo x q n)) (J (s_bk x n bs q)) = some (1, d1, d2, d3, d4, tl', ts') := by
  have hn := h.1
  have hlo := s_lo_le x q n
  obtain ⟨a1, a2, a3, a4, ef⟩ := f_find h hg hc hq 1 1 (by omega) rfl c1 c2 c3 c4
  unfold F_L_isLeast_J230
  rw [ef, Option.bind_some, S_count8 h hg hc 0, Option.bind_some, ct0, a_find_1 hq, jf_le (by omega) (by omega) (by omega) (by omega)]
  by_cases c : (n : Int) ≤ s_lo x q n
  · rw [if_pos c, if_neg (by omega)]
    exact Z_J264 h hg hc hn0 hts hq a1 a2 a3 a4 tl i1 0 0 rfl
  · obtain ⟨e1, e2, e3, e4, ea⟩ := S_at8 h hg hc (z := s_lo x q n) (by omega) 0 a1 a2 a3 a4
    have hx := h.2.2.2.2.2.1 (s_lo x q n) (by omega)
    rw [if_neg c, ea, Option.bind_some, at0 rfl (by omega), jf_eq (by omega) (by omega) (by omega) (by omega)]
    by_cases c2 : (x (s_lo x q n) : Int) = q
    · rw [if_pos c2, if_pos ⟨by omega, c2⟩]
      exact Z_J264 h hg hc hn0 hts hq e1 e2 e3 e4 tl i1 1 1 rfl
    · rw [if_neg c2, if_neg (fun t => c2 t.2)]
      exact Z_J264 h hg hc hn0 hts hq e1 e2 e3 e4 tl i1 0 0 rfl
theorem Z_J208 (h : RV x n bs on) (hg : RA x n gn) (hc : CO x n bs on ge pl gs gk sl g) (hn0 : 0 < n) (hts : PZ ts) {hl p : Nat} {q : Int} (hq : 0 ≤ q ∧ q ≤ 65535) (c1 c2 c3 c4 tl i1 : Int32) : ∃ d1 d2 d3 d4 tl' ts', PZ ts' ∧ F_L_isLeast_J208 ge pl gs gk sl c1 c2 c3 c4 g (J hl) (J p) (J n) (J bs) (J on) gn tl ts i1 (J q) (J (s_lo x q n)) (J (s_bk x n bs q)) = some (1, d1, d2, d3, d4, tl', ts') := by
  have hn := h.1
  have hlo := s_lo_le x q n
  unfold F_L_isLeast_J208
  rw [S_count8 h hg hc 0, Option.bind_some, ct0, jf_eq (by omega) (by omega) (by omega) (by omega)]
  by_cases c : (s_lo x q n : Int) = n
  · rw [if_pos c]
    exact Z_J230 h hg hc hn0 hts hq c1 c2 c3 c4 tl i1
  · obtain ⟨e1, e2, e3, e4, ea⟩ := S_at8 h hg hc (z := s_lo x q n) (by omega) 0 c1 c2 c3 c4
    have hx := h.2.2.2.2.2.1 (s_lo x q n) (by omega)
    have hge := s_lo_at q h (s_lo x q n) (by omega)
    rw [if_neg c, ea, Option.bind_some, at0 rfl (by omega), if_neg (by rw [J_lt (by omega) (by omega) (by omega) (by omega)]; omega)]
    exact Z_J230 h hg hc hn0 hts hq e1 e2 e3 e4 tl i1
theorem Z_J164 (h : RV x n bs on) (hg : RA x n gn) (hc : CO x n bs on ge pl gs gk sl g) (hn0 : 0 < n) (hts : PZ ts) {hl p : Nat} {q : Int} (hq : 0 ≤ q ∧ q ≤ 65535) (c1 c2 c3 c4 tl i1 : Int32) : ∃ d1 d2 d3 d4 tl' ts', PZ ts' ∧ F_L_isLeast_J164 ge pl gs gk sl c1 c2 c3 c4 g (J hl) (J p) (J n) (J bs) (J on) gn tl ts i1 1 (J q) = some (1, d1, d2, d3, d4, tl', ts') := by
  have hn := h.1
  have hlo := s_lo_le x q n
  obtain ⟨a1, a2, a3, a4, ef⟩ := f_find h hg hc hq 0 0 (by omega) rfl c1 c2 c3 c4
  obtain ⟨b1, b2, b3, b4, ef2⟩ := f_find h hg hc hq 2 2 (by omega) rfl a1 a2 a3 a4
  have ev : a_find x n bs on q 2 = J (s_bk x n bs q) := by rw [a_find_2 hq, if_neg (by omega)]
  unfold F_L_isLeast_J164
  rw [ef, Option.bind_some, ef2, Option.bind_some, if_neg (by decide), a_find_0 hq, ev]
  by_cases c : s_lo x q n = 0
  · rw [if_pos (by rw [c]; rfl)]
    exact Z_J208 h hg hc hn0 hts hq b1 b2 b3 b4 tl i1
  · obtain ⟨e1, e2, e3, e4, ea⟩ := S_at8 h hg hc (z := (s_lo x q n : Int) - 1) (by omega) 0 b1 b2 b3 b4
    have hx := h.2.2.2.2.2.1 (s_lo x q n - 1) (by omega)
    have hge := s_lo_at q h (s_lo x q n - 1) (by omega)
    rw [if_neg (by rw [L0, J_eq (by omega) (by omega) (by omega) (by omega)]; omega), J_sub1, ea, Option.bind_some, at0 (i := s_lo x q n - 1) (by omega) (by omega), if_neg (by rw [J_le (by omega) (by omega) (by omega) (by omega)]; omega)]
    exact Z_J208 h hg hc hn0 hts hq e1 e2 e3 e4 tl i1
theorem Z_isLeast (h : RV x n bs on) (hg : RA x n gn) (hc : CO x n bs on ge pl gs gk sl g) (hts : PZ ts) (hl p : Nat) (c1 c2 c3 c4 tl i1 : Int32) : ∃ d1 d2 d3 d4 tl' ts', PZ ts' ∧ F_L_isLeast ge pl gs gk sl c1 c2 c3 c4 g (J hl) (J p) (J n) (J bs) (J on) gn tl ts i1 = some (1, d1, d2, d3, d4, tl', ts') := by
  have hn := h.1
  have hb1 := h.2.1
  have hnb := s_nb_le (n := n) hb1
  unfold F_L_isLeast
  rw [S_count8 h hg hc 1, Option.bind_some, ct1]
  by_cases c : s_nb n bs = 0
  · have et : s_tot on (s_gp x) n bs = 0 := by unfold s_tot; rw [c]; rfl
    refine ⟨c1, c2, c3, c4, tl, ts, hts, ?_⟩
    rw [if_pos (by rw [c]; rfl), S_count8 h hg hc 2, Option.bind_some, ct2, et, if_pos (by rfl)]
  · have hn0 : 0 < n := by omega
    obtain ⟨b, hb, eb⟩ := S_up i1 (show 0 < s_nb n bs by omega) (by omega)
    have hex := s_ex_le on (s_gp x) n bs b
    obtain ⟨f2, hf2⟩ := zFuel_ge (n := 65) (by omega)
    obtain ⟨u1, hu1, eu1⟩ : ∃ u : Nat, u < 2 ∧ F_L_up (i1 >>> (4 &&& 31)) 2 = some (J u) := S_up (i1 >>> (4 &&& 31)) (n := 2) (by omega) (by omega)
    obtain ⟨u2, hu2, eu2⟩ : ∃ u : Nat, u < 65536 ∧ F_L_up (i1 >>> (5 &&& 31)) 65536 = some (J u) := S_up (i1 >>> (5 &&& 31)) (n := 65536) (by omega) (by omega)
    obtain ⟨u3, hu3, eu3⟩ := S_up (i1 >>> (5 &&& 31)) hn0 (by omega)
    rw [if_neg (by rw [L0, J_eq (by omega) (by omega) (by omega) (by omega)]; omega), eb, Option.bind_some, S_block8 h hg hc (by omega) 0, Option.bind_some, bk0 rfl hb, S_block8 h hg hc (by omega) 2, Option.bind_some, bk2 rfl hb, S_cost8 h hc (by omega) (by omega), Option.bind_some, co0 rfl hb rfl hex, if_pos (show J ((4 + s_cs on (s_gp x) (s_ex on (s_gp x) n bs b) (b * bs) (s_en n bs b) : Nat) : Int) = J (s_bb on (s_gp x) n bs b) from rfl), hf2]
    have key : ∃ d1 d2 d3 d4 tl' ts', PZ ts' ∧ (if J (u1 : Int) = 0 then F_L_isLeast_J164 ge pl gs gk sl c1 c2 c3 c4 g (J hl) (J p) (J n) (J bs) (J on) gn tl ts i1 1 (J u2) else Option.bind (F_X8_at gk sl c1 c2 c3 c4 g (J n) (J bs) (J on) gn (J u3) 0) (fun u33 => F_L_isLeast_J164 ge pl gs gk sl u33.2.1 u33.2.2.1 u33.2.2.2.1 u33.2.2.2.2 g (J hl) (J p) (J n) (J bs) (J on) gn tl ts i1 1 u33.1)) = some (1, d1, d2, d3, d4, tl', ts') := by
      by_cases c0 : J (u1 : Int) = 0
      · rw [if_pos c0]
        exact Z_J164 h hg hc hn0 hts (by omega) c1 c2 c3 c4 tl i1
      · obtain ⟨e1, e2, e3, e4, ea⟩ := S_at8 h hg hc (z := u3) (by omega) 0 c1 c2 c3 c4
        have hx := h.2.2.2.2.2.1 u3 hu3
        rw [if_neg c0, ea, Option.bind_some, at0 rfl hu3]
        exact Z_J164 h hg hc hn0 hts (by omega) e1 e2 e3 e4 tl i1
    obtain ⟨d1, d2, d3, d4, tl', ts', k1, k2⟩ := key
    refine ⟨d1, d2, d3, d4, tl', ts', k1, ?_⟩
    refine (Z_L68 h hc hb _ 16 (f2 + 65) 0 0 (by omega) (by omega) rfl).trans ?_
    rw [eu1, Option.bind_some, eu2, Option.bind_some, S_count8 h hg hc 0, Option.bind_some, ct0, eu3, Option.bind_some]
    exact k2
end ISLEAST
