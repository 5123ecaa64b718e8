-- the class reads its stream
/-- the stream's cells: an array that holds a list, and its length -/
def SL (g : Ar) (sl : Int32) (l : List Nat) : Prop := AL g l ∧ sl = J l.length ∧ l.length ≤ 1344
theorem S_hasPlace7 {n : Nat} {z : Int} (h1 : -2147483648 ≤ z) (h2 : z < 2147483648) (h3 : n < 2147483648) : F_X7_hasPlace (J n) (J z) = some (if 0 ≤ z ∧ z < n then 1 else 0) := by
  unfold F_X7_hasPlace
  by_cases ha : z < 0
  · rw [if_pos (by rw [J_0, J_lt (by omega) (by omega) (by omega) (by omega)]; omega), if_neg (by omega)]
  · rw [if_neg (by rw [J_0, J_lt (by omega) (by omega) (by omega) (by omega)]; omega)]
    by_cases hb : z < n
    · rw [if_neg (by rw [J_le (by omega) (by omega) (by omega) (by omega)]; omega), if_pos ⟨by omega, hb⟩]
    · rw [if_pos (by rw [J_le (by omega) (by omega) (by omega) (by omega)]; omega), if_neg (by omega)]
theorem S_bit {g : Ar} {sl : Int32} {l : List Nat} (h : SL g sl l) {z : Int} (i v : Nat) (hz : z = i) (hv : l[i]? = some v) : F_X7_bitOrZero sl g (J z) = some (J v) := by
  obtain ⟨h1, h2, h3⟩ := h
  have hi : i < l.length := (List.getElem?_eq_some_iff.mp hv).1
  unfold F_X7_bitOrZero
  rw [h2, S_hasPlace7 (by omega) (by omega) (by omega), if_pos (by omega), Option.bind_some, if_neg (by decide), S_read i hz (by omega) (by omega), h1 i v hv]
  rfl
theorem S_bitX {g : Ar} {sl : Int32} {l : List Nat} (h : SL g sl l) {z : Int} (hz : z < 0 ∨ (l.length : Int) ≤ z) (h4 : -2147483648 ≤ z) (h5 : z < 2147483648) : F_X7_bitOrZero sl g (J z) = some 0 := by
  obtain ⟨h1, h2, h3⟩ := h
  unfold F_X7_bitOrZero
  rw [h2, S_hasPlace7 (by omega) (by omega) (by omega), if_neg (by omega), Option.bind_some, if_pos rfl]
/-- the number of w bits -/
def vb (bf : Nat → Nat) : Nat → Nat
  | 0 => 0
  | w + 1 => bf w * 2 ^ w + vb bf w
theorem vb_mod (v : Nat) : ∀ w, vb (fun i => v / 2 ^ i % 2) w = v % 2 ^ w := by
  intro w
  induction w with
  | zero => show 0 = _; rw [Nat.pow_zero, Nat.mod_one]
  | succ w ih =>
    show v / 2 ^ w % 2 * 2 ^ w + vb _ w = _
    rw [ih, Nat.mod_pow_succ, Nat.mul_comm]
    omega
theorem S_readBits4 {g : Ar} {sl : Int32} {l : List Nat} (h : SL g sl l) {bf : Nat → Nat} {W : Nat} (hW : W ≤ 64) (post : List Nat) (k : Int32 → Int32 → Option (Int32 × Int32)) : ∀ (w fuel : Nat) (pre : List Nat) (vn i2 i3 : Int32) (acc : Nat), w ≤ W → w < fuel → l = pre ++ (lb bf w ++ post) → vn = J pre.length → i2 = J acc → i3 = J ((W - w : Nat) : Int) →
    F_X7_readBits_L4 sl g (J W) k fuel vn i2 i3 = k (J ((pre.length + w : Nat) : Int)) (J ((acc * 2 ^ w + vb bf w : Nat) : Int)) := by
  intro w
  induction w with
  | zero =>
    intro fuel pre vn i2 i3 acc hw hf hl e1 e2 e3
    obtain ⟨fuel, rfl⟩ : ∃ f, fuel = f + 1 := ⟨fuel - 1, by omega⟩
    rw [F_X7_readBits_L4, e3, if_pos (by rw [J_le (by omega) (by omega) (by omega) (by omega)]; omega), e1, e2]
    congr 2
    show _ = ((acc * 2 ^ 0 + 0 : Nat) : Int)
    omega
  | succ w ih =>
    intro fuel pre vn i2 i3 acc hw hf hl e1 e2 e3
    obtain ⟨fuel, rfl⟩ : ∃ f, fuel = f + 1 := ⟨fuel - 1, by omega⟩
    have hl2 : l = (pre ++ [bf w]) ++ (lb bf w ++ post) := by rw [hl]; simp [lb]
    have hv : l[pre.length]? = some (bf w) := by
      rw [hl, List.getElem?_append_right (Nat.le_refl _), Nat.sub_self]; rfl
    rw [F_X7_readBits_L4, e3, if_neg (by rw [J_le (by omega) (by omega) (by omega) (by omega)]; omega), e1, S_bit h pre.length (bf w) rfl hv, Option.bind_some,
      ih fuel (pre ++ [bf w]) _ _ _ (acc * 2 + bf w) (by omega) (by omega) hl2 (by rw [L1, J_add, List.length_append]; simp) (by rw [e2, L2, J_mul, J_add]; norm_cast) (by rw [L1, J_add]; congr 1; omega)]
    congr 2
    · rw [List.length_append]; simp; omega
    · show _ = ((acc * 2 ^ (w + 1) + (bf w * 2 ^ w + vb bf w) : Nat) : Int)
      congr 1
      rw [Nat.pow_succ, Nat.add_mul]
      have : acc * 2 * 2 ^ w = acc * (2 ^ w * 2) := by rw [Nat.mul_assoc, Nat.mul_comm 2]
      omega
theorem S_readBits {g : Ar} {sl : Int32} {l : List Nat} (h : SL g sl l) {bf : Nat → Nat} {w : Nat} (hw : w ≤ 64) (pre post : List Nat) (hl : l = pre ++ (lb bf w ++ post)) {vn iw : Int32} (en : vn = J pre.length) (ew : iw = J w) : F_X7_readBits sl vn g iw = some (J (vb bf w), J ((pre.length + w : Nat) : Int)) := by
  obtain ⟨f2, hf2⟩ := zFuel_ge (n := 65) (by omega)
  unfold F_X7_readBits
  rw [hf2, ew, S_readBits4 h hw post _ w (f2 + 65) pre vn 0 0 0 (Nat.le_refl _) (by omega) hl en rfl (by rw [Nat.sub_self]; rfl), Nat.zero_mul, Nat.zero_add]
theorem S_readOnes {g : Ar} {sl : Int32} {l : List Nat} (h : SL g sl l) (ve : Int32) {on : Nat} (ho : on ≤ 30) (rest : List Nat) (k : Int32 → Option (Int32 × Int32)) : ∀ (r fuel j : Nat) (pre : List Nat) (vn i2 : Int32), j + r ≤ on → l = pre ++ (lb (fun _ => 1) r ++ rest) → vn = J pre.length → i2 = J j →
    F_X7_readGap_L2 sl ve g (J on) k (fuel + r) vn i2 = F_X7_readGap_L2 sl ve g (J on) k fuel (J ((pre.length + r : Nat) : Int)) (J ((j + r : Nat) : Int)) := by
  intro r
  induction r with
  | zero => intro fuel j pre vn i2 hj hl e1 e2; rw [e1, e2]; rfl
  | succ r ih =>
    intro fuel j pre vn i2 hj hl e1 e2
    have hl2 : l = pre ++ (lb (fun _ => 1) 1 ++ (lb (fun _ => 1) r ++ rest)) := by rw [hl]; simp [lb]
    have hl3 : l = (pre ++ [1]) ++ (lb (fun _ => 1) r ++ rest) := by rw [hl]; simp [lb]
    rw [show fuel + (r + 1) = (fuel + r) + 1 by omega, F_X7_readGap_L2, e2, if_neg (by rw [J_le (by omega) (by omega) (by omega) (by omega)]; omega), S_readBits h (iw := 1) (vn := vn) (w := 1) (by omega) pre _ hl2 e1 rfl, Option.bind_some]
    show (if J (vb (fun _ => 1) 1 : Nat) = 0 then _ else _) = _
    rw [if_neg (by decide), ih fuel (j + 1) (pre ++ [1]) _ _ (by omega) hl3 (by rw [List.length_append]; rfl) (by rw [L1, J_add]; norm_cast), List.length_append]
    congr 2
    · simp; omega
    · omega
theorem S_readGap {g : Ar} {sl : Int32} {l : List Nat} (h : SL g sl l) {on gp e : Nat} (hg : gp < 65536) (he : e ≤ 15) (h1 : 1 ≤ on) (ho : on ≤ 30) (pre post : List Nat) (hl : l = pre ++ (s_code on gp e ++ post)) {vn : Int32} (en : vn = J pre.length) : F_X7_readGap sl vn (J e) g (J on) = some (J gp, J ((pre.length + s_cb on gp e : Nat) : Int)) := by
  unfold F_X7_readGap
  unfold s_code at hl
  unfold s_cb
  by_cases hq : on ≤ gp / 2 ^ e
  · rw [if_pos hq] at hl
    rw [if_pos hq]
    obtain ⟨f2, hf2⟩ := zFuel_ge (n := on + 1) (by omega)
    rw [hf2, show f2 + (on + 1) = (f2 + 1) + on by omega, S_readOnes h _ ho (bv gp 16 ++ post) _ on (f2 + 1) 0 pre vn 0 (by omega) (by rw [hl]; simp) en rfl, Nat.zero_add, F_X7_readGap_L2, if_pos (by rw [J_le (by omega) (by omega) (by omega) (by omega)]; omega),
      S_readBits h (iw := 16) (vn := J ((pre.length + on : Nat) : Int)) (bf := fun i => gp / 2 ^ i % 2) (w := 16) (by omega) (pre ++ lb (fun _ => 1) on) post (by rw [hl]; simp [bv]) (by rw [List.length_append, lb_len]) rfl, Option.bind_some, vb_mod, Nat.mod_eq_of_lt (by omega), List.length_append, lb_len]
    congr 3
  · rw [if_neg hq] at hl
    rw [if_neg hq]
    have hql : gp / 2 ^ e < on := by omega
    obtain ⟨f2, hf2⟩ := zFuel_ge (n := gp / 2 ^ e + 1) (by omega)
    have hl2 : l = (pre ++ lb (fun _ => 1) (gp / 2 ^ e)) ++ (lb (fun _ => 0) 1 ++ (lb (fun i => gp / 2 ^ i % 2) e ++ post)) := by rw [hl]; simp [lb, bv]
    have hl3 : l = (pre ++ lb (fun _ => 1) (gp / 2 ^ e) ++ [0]) ++ (lb (fun i => gp / 2 ^ i % 2) e ++ post) := by rw [hl]; simp [bv]
    rw [hf2, show f2 + (gp / 2 ^ e + 1) = (f2 + 1) + gp / 2 ^ e by omega, S_readOnes h _ ho (0 :: bv gp e ++ post) _ (gp / 2 ^ e) (f2 + 1) 0 pre vn 0 (by omega) (by rw [hl]; simp) en rfl, Nat.zero_add, F_X7_readGap_L2]
    have hd := Nat.div_add_mod gp (2 ^ e)
    rw [Nat.mul_comm] at hd
    generalize gp / 2 ^ e = q at *
    rw [if_neg (by rw [J_le (by omega) (by omega) (by omega) (by omega)]; omega), S_readBits h (iw := 1) (vn := J ((pre.length + q : Nat) : Int)) (w := 1) (by omega) _ _ hl2 (by rw [List.length_append, lb_len]) rfl, Option.bind_some]
    show (if J (vb (fun _ => 0) 1 : Nat) = 0 then _ else _) = _
    rw [if_pos (by decide), S_readBits h (vn := J (((pre ++ lb (fun _ => 1) q).length + 1 : Nat) : Int)) (iw := J e) (bf := fun i => gp / 2 ^ i % 2) (w := e) (by omega) _ post hl3 (by simp [lb_len]; rfl) rfl, Option.bind_some, vb_mod, J_shl (by omega), J_add]
    simp only [List.length_append, lb_len, List.length_cons, List.length_nil]
    congr 2
    · congr 1
      rw [show ((q : Int) * 2 ^ e + ((gp % 2 ^ e : Nat) : Int)) = ((q * 2 ^ e + gp % 2 ^ e : Nat) : Int) by norm_cast, hd]
    · congr 1
      omega
theorem s_str_split (on : Nat) (gp : Nat → Nat) (n bs b : Nat) : ∀ d, ∃ post, s_str on gp n bs (b + 1 + d) = s_str on gp n bs b ++ (s_block on gp n bs b ++ post) := by
  intro d
  induction d with
  | zero => exact ⟨[], by show s_str on gp n bs b ++ s_block on gp n bs b = _; rw [List.append_nil]⟩
  | succ d ih =>
    obtain ⟨post, hp⟩ := ih
    exact ⟨post ++ s_block on gp n bs (b + 1 + d), by show s_str on gp n bs (b + 1 + d) ++ _ = _; rw [hp]; simp⟩
theorem s_codes_split (on : Nat) (gp : Nat → Nat) (e a j : Nat) : ∀ d, ∃ post, s_codes on gp e a (j + 1 + d) = s_codes on gp e a j ++ (s_code on (gp (a + j)) e ++ post) := by
  intro d
  induction d with
  | zero => exact ⟨[], by show s_codes on gp e a j ++ s_code on (gp (a + j)) e = _; rw [List.append_nil]⟩
  | succ d ih =>
    obtain ⟨post, hp⟩ := ih
    exact ⟨post ++ s_code on (gp (a + (j + 1 + d))) e, by show s_codes on gp e a (j + 1 + d) ++ _ = _; rw [hp]; simp⟩
/-- where the code of a place begins -/
def s_pos (on : Nat) (gp : Nat → Nat) (n bs b i : Nat) : Nat := s_sk on gp n bs b + 4 + s_cs on gp (s_ex on gp n bs b) (b * bs) i
theorem s_pos_at {x : Nat → Nat} {n bs on : Nat} (h : RV x n bs on) {b i : Nat} (hb : b < s_nb n bs) (h1 : b * bs ≤ i) (h2 : i < s_en n bs b) : ∃ pre post, s_str on (s_gp x) n bs (s_nb n bs) = pre ++ (s_code on (s_gp x i) (s_ex on (s_gp x) n bs b) ++ post) ∧ pre.length = s_pos on (s_gp x) n bs b i := by
  obtain ⟨p1, e1⟩ := s_str_split on (s_gp x) n bs b (s_nb n bs - (b + 1))
  obtain ⟨p2, e2⟩ := s_codes_split on (s_gp x) (s_ex on (s_gp x) n bs b) (b * bs) (i - b * bs) (s_en n bs b - b * bs - (i - b * bs + 1))
  rw [show b + 1 + (s_nb n bs - (b + 1)) = s_nb n bs by omega] at e1
  rw [show i - b * bs + 1 + (s_en n bs b - b * bs - (i - b * bs + 1)) = s_en n bs b - b * bs by omega, show b * bs + (i - b * bs) = i by omega] at e2
  refine ⟨s_str on (s_gp x) n bs b ++ (bv (s_ex on (s_gp x) n bs b) 4 ++ s_codes on (s_gp x) (s_ex on (s_gp x) n bs b) (b * bs) (i - b * bs)), p2 ++ p1, ?_, ?_⟩
  · rw [e1]; unfold s_block; rw [e2]; simp
  · rw [List.length_append, List.length_append, s_str_len on (s_gp x) h.2.1 b (by omega), bv_len, s_codes_len, show b * bs + (i - b * bs) = i by omega]
    unfold s_pos
    omega
theorem s_pos_succ {x : Nat → Nat} {n bs on : Nat} {b i : Nat} (h1 : b * bs ≤ i) : s_pos on (s_gp x) n bs b (i + 1) = s_pos on (s_gp x) n bs b i + s_cb on (s_gp x i) (s_ex on (s_gp x) n bs b) := by
  unfold s_pos s_cs
  have h2 := s_ps_mono (on := on) (gp := s_gp x) (e := s_ex on (s_gp x) n bs b) h1
  show _ + _ + (s_ps on (s_gp x) _ i + s_cb on (s_gp x i) _ - _) = _
  omega
theorem s_pos_first (on : Nat) (gp : Nat → Nat) (n bs b : Nat) : s_pos on gp n bs b (b * bs) = s_sk on gp n bs b + 4 := by unfold s_pos s_cs; omega
theorem s_pos_le {x : Nat → Nat} {n bs on : Nat} (h : RV x n bs on) {b i : Nat} (hb : b < s_nb n bs) (h1 : b * bs ≤ i) (h2 : i ≤ s_en n bs b) : s_pos on (s_gp x) n bs b i ≤ 1344 := by
  have h3 := (s_sk_le h (b + 1) (by omega)).2
  have h4 := h.1
  have h5 := s_ps_mono (on := on) (gp := s_gp x) (e := s_ex on (s_gp x) n bs b) h2
  have e0 : s_sk on (s_gp x) n bs (b + 1) = s_sk on (s_gp x) n bs b + s_bb on (s_gp x) n bs b := rfl
  unfold s_bb s_cs at e0
  unfold s_pos s_cs
  omega
theorem CO.sl {x : Nat → Nat} {n bs on : Nat} (h : RV x n bs on) {ge : Ar} {pl : Int32} {gs gk : Ar} {sl : Int32} {g : Ar} (hc : CO x n bs on ge pl gs gk sl g) : SL g sl (s_str on (s_gp x) n bs (s_nb n bs)) := by
  have h1 := s_str_len on (s_gp x) (n := n) h.2.1 (s_nb n bs) (Nat.le_refl _)
  have h2 := s_tot_le h
  unfold s_tot at h2
  exact ⟨hc.2.2.2.2.2, by rw [hc.2.2.2.2.1, h1]; rfl, by omega⟩
theorem S_readNumber {x : Nat → Nat} {n bs on : Nat} (h : RV x n bs on) {g : Ar} {sl : Int32} (hs : SL g sl (s_str on (s_gp x) n bs (s_nb n bs))) {b i : Nat} (hb : b < s_nb n bs) (h1 : b * bs ≤ i) (h2 : i < s_en n bs b) {vn ve vm : Int32} (en : vn = J (s_pos on (s_gp x) n bs b i)) (ee : ve = J (s_ex on (s_gp x) n bs b)) (em : vm = J (s_na x i)) : F_X7_readNumber sl vn ve vm g (J on) = some (J (s_pos on (s_gp x) n bs b (i + 1)), J (s_na x (i + 1))) := by
  obtain ⟨pre, post, a1, a2⟩ := s_pos_at h hb h1 h2
  have hn : i < n := by have := s_en_gt h.2.1 hb; omega
  have hg := h.gp hn
  have he : s_ex on (s_gp x) n bs b ≤ 15 := s_be_le on (s_gp x) (b * bs) (s_en n bs b)
  unfold F_X7_readNumber
  rw [ee, S_readGap (vn := vn) hs hg.1 he h.2.2.2.1 h.2.2.2.2.1 pre post a1 (by rw [en, a2]), Option.bind_some, s_pos_succ h1, a2, em]
  show some (_, J _ + (J _ + 1)) = _
  rw [L1, J_add, J_add]
  have : s_na x (i + 1) = x i := by unfold s_na; rw [if_neg (by omega)]; rfl
  rw [this, hg.2]
  congr 3
  omega
theorem S_readExp {x : Nat → Nat} {n bs on : Nat} (h : RV x n bs on) {g : Ar} {sl : Int32} (hs : SL g sl (s_str on (s_gp x) n bs (s_nb n bs))) {b : Nat} (hb : b < s_nb n bs) {vn ve : Int32} (en : vn = J (s_sk on (s_gp x) n bs b)) : F_X7_readExponent sl vn ve g = some (J (s_pos on (s_gp x) n bs b (b * bs)), J (s_ex on (s_gp x) n bs b)) := by
  obtain ⟨p1, e1⟩ := s_str_split on (s_gp x) n bs b (s_nb n bs - (b + 1))
  rw [show b + 1 + (s_nb n bs - (b + 1)) = s_nb n bs by omega] at e1
  have he : s_ex on (s_gp x) n bs b ≤ 15 := s_be_le on (s_gp x) (b * bs) (s_en n bs b)
  have hlb := s_str_len on (s_gp x) (n := n) h.2.1 b (by omega)
  unfold F_X7_readExponent
  rw [S_readBits hs (iw := 4) (vn := vn) (bf := fun i => s_ex on (s_gp x) n bs b / 2 ^ i % 2) (w := 4) (by omega) (s_str on (s_gp x) n bs b) (s_codes on (s_gp x) (s_ex on (s_gp x) n bs b) (b * bs) (s_en n bs b - b * bs) ++ p1) (by rw [e1]; unfold s_block bv; simp) (by rw [en, hlb]) rfl, Option.bind_some, vb_mod, Nat.mod_eq_of_lt (by omega), s_pos_first, hlb]
theorem S_openBlock {x : Nat → Nat} {n bs on : Nat} (h : RV x n bs on) {gn : Ar} (hg : RA x n gn) {ge : Ar} {pl : Int32} {gs gk : Ar} {sl : Int32} {g : Ar} (hc : CO x n bs on ge pl gs gk sl g) {b : Nat} (hb : b < s_nb n bs) {z : Int} (ez : z = b) (a1 a2 a3 a4 : Int32) : F_X8_openBlock gk sl a1 a2 a3 a4 g (J bs) gn (J z) = some (J (s_sk on (s_gp x) n bs b), J (s_pos on (s_gp x) n bs b (b * bs)), J (s_ex on (s_gp x) n bs b), J (s_na x (b * bs))) := by
  have hnb := s_nb_le (n := n) h.2.1
  have hn := h.1
  have h1 := (s_nb_lt h.2.1).mp hb
  unfold F_X8_openBlock
  rw [S_read b ez (by omega) (by omega), Option.bind_some, S_firstOf ez, Option.bind_some, S_numberAhead hg (b * bs) rfl (by omega) hn, Option.bind_some]
  show Option.bind (some (_, _, _)) _ = _
  rw [Option.bind_some, S_readExp h (hc.sl h) hb (by rw [(hc.1 b hb).2]), Option.bind_some, (hc.1 b hb).2]
