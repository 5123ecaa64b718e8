-- the class's questions
theorem J_ex (p : Int32) : ∃ z : Int, (-2147483648 ≤ z ∧ z < 2147483648) ∧ p = J z := ⟨p.toInt, J_rg p, (J_self p).symm⟩
def s_esc (on g e : Nat) : Nat := if on ≤ g / 2 ^ e then 1 else 0
def s_es (on : Nat) (gp : Nat → Nat) (e a : Nat) : Nat → Nat
  | 0 => 0
  | m + 1 => s_es on gp e a m + s_esc on (gp (a + m)) e
def s_gg (gp : Nat → Nat) (a : Nat) : Nat → Nat
  | 0 => 0
  | m + 1 => if s_gg gp a m < gp (a + m) then gp (a + m) else s_gg gp a m
def s_ae (on : Nat) (gp : Nat → Nat) (n bs : Nat) : Nat → Nat
  | 0 => 0
  | b + 1 => s_ae on gp n bs b + s_es on gp (s_ex on gp n bs b) (b * bs) (s_en n bs b - b * bs)
def s_ge (on : Nat) (gp : Nat → Nat) (n bs : Nat) : Nat → Int
  | 0 => -6
  | b + 1 => if s_ge on gp n bs b < s_ex on gp n bs b then s_ex on gp n bs b else s_ge on gp n bs b
theorem s_es_le (on : Nat) (gp : Nat → Nat) (e a : Nat) : ∀ m, s_es on gp e a m ≤ m := by
  intro m
  induction m with
  | zero => exact Nat.le_refl _
  | succ m ih => show s_es on gp e a m + s_esc on (gp (a + m)) e ≤ _; unfold s_esc; split <;> omega
theorem s_ge_rg (on : Nat) (gp : Nat → Nat) (n bs : Nat) : ∀ b, -6 ≤ s_ge on gp n bs b ∧ s_ge on gp n bs b ≤ 15 := by
  intro b
  induction b with
  | zero => unfold s_ge; omega
  | succ b ih =>
    have : s_ex on gp n bs b ≤ 15 := s_be_le on gp (b * bs) (s_en n bs b)
    unfold s_ge
    split <;> omega
theorem s_gg_lt {x : Nat → Nat} {n bs on : Nat} (h : RV x n bs on) (a : Nat) : ∀ m, a + m ≤ n → s_gg (s_gp x) a m < 65536 := by
  intro m
  induction m with
  | zero => intro _; show 0 < _; omega
  | succ m ih =>
    intro hm
    have h1 := ih (by omega)
    have h2 := (h.gp (show a + m < n by omega)).1
    unfold s_gg
    split <;> omega
/-- the answers, by the class's arguments -/
def a_gap (x : Nat → Nat) (n bs on : Nat) (z : Int) (w : Int32) : Int32 :=
  if 0 ≤ z ∧ z < n then
    if w = 0 then J (s_gp x z.toNat) else if w = 1 then J ((z.toNat / bs : Nat) : Int) else if w = 2 then J (s_cb on (s_gp x z.toNat) (s_ex on (s_gp x) n bs (z.toNat / bs))) else if w = 3 then J (s_esc on (s_gp x z.toNat) (s_ex on (s_gp x) n bs (z.toNat / bs))) else if w = 4 then J (s_pos on (s_gp x) n bs (z.toNat / bs) z.toNat) else -2
  else -1
def a_block (x : Nat → Nat) (n bs on : Nat) (z : Int) (w : Int32) : Int32 :=
  if 0 ≤ z ∧ z < s_nb n bs then
    if w = 0 then J (s_ex on (s_gp x) n bs z.toNat) else if w = 1 then J ((s_en n bs z.toNat - z.toNat * bs : Nat) : Int) else if w = 2 then J (s_bb on (s_gp x) n bs z.toNat) else if w = 3 then J (s_sk on (s_gp x) n bs z.toNat) else if w = 4 then J (s_na x (z.toNat * bs) + 1) else if w = 5 then J (s_es on (s_gp x) (s_ex on (s_gp x) n bs z.toNat) (z.toNat * bs) (s_en n bs z.toNat - z.toNat * bs)) else if w = 6 then J (s_gg (s_gp x) (z.toNat * bs) (s_en n bs z.toNat - z.toNat * bs)) else -2
  else -1
def a_bit (l : List Nat) (z : Int) : Int32 := if 0 ≤ z ∧ z < l.length then J (l.getD z.toNat 0) else -1
def s_word (l : List Nat) (p : Nat) : Nat → Int64
  | 0 => 0
  | k + 1 => s_word l p k * 2 + (J (l.getD (p + k) 0)).toInt64
def a_bits (l : List Nat) (z : Int) : Int64 := if 0 ≤ z ∧ z < l.length then s_word l z.toNat 32 else -1
def a_count (x : Nat → Nat) (n bs on : Nat) (pl hl : Nat) (w : Int32) : Int32 :=
  if w = 0 then J n else if w = 1 then J (s_nb n bs) else if w = 2 then J (s_tot on (s_gp x) n bs) else if w = 3 then J (s_ae on (s_gp x) n bs (s_nb n bs)) else if w = 4 then J ((n * 16 : Nat) : Int) else if w = 5 then J (s_ge on (s_gp x) n bs (s_nb n bs)) else if w = 6 then J bs else if w = 7 then J on else if w = 8 then J pl else if w = 9 then J hl else -2
def a_at (x : Nat → Nat) (n bs on : Nat) (z : Int) (w : Int32) : Int32 :=
  if 0 ≤ z ∧ z < n then
    if w = 0 then J (x z.toNat) else if w = 1 then J ((4 + s_cs on (s_gp x) (s_ex on (s_gp x) n bs (z.toNat / bs)) (z.toNat / bs * bs) (z.toNat + 1) : Nat) : Int) else -2
  else -1
def a_cost (x : Nat → Nat) (n bs on : Nat) (z w : Int) : Int32 :=
  if 0 ≤ z ∧ z < s_nb n bs then if 0 ≤ w ∧ w ≤ 15 then J ((4 + s_cs on (s_gp x) w.toNat (z.toNat * bs) (s_en n bs z.toNat) : Nat) : Int) else -2 else -1
theorem S_escapesIn6 {x : Nat → Nat} {n bs on : Nat} (h : RV x n bs on) {gn : Ar} (hg : RA x n gn) {e : Nat} (he : e ≤ 15) (a b : Nat) (hb : b ≤ n) (k : Int32 → Option Int32) : ∀ (m fuel j : Nat) (i4 i5 : Int32), a + j + m = b → m < fuel → i4 = J (s_es on (s_gp x) e a j) → i5 = J ((a + j : Nat) : Int) →
    F_X8_escapesIn_L6 (J on) gn (J b) (J e) k fuel i4 i5 = k (J (s_es on (s_gp x) e a (b - a))) := by
  intro m
  have hn := h.1
  have ho := h.2.2.2.2.1
  induction m with
  | zero =>
    intro fuel j i4 i5 hj hf e4 e5
    obtain ⟨fuel, rfl⟩ : ∃ f, fuel = f + 1 := ⟨fuel - 1, by omega⟩
    rw [F_X8_escapesIn_L6, e5, if_pos (by rw [J_le (by omega) (by omega) (by omega) (by omega)]; omega), e4, show b - a = j by omega]
  | succ m ih =>
    intro fuel j i4 i5 hj hf e4 e5
    obtain ⟨fuel, rfl⟩ : ∃ f, fuel = f + 1 := ⟨fuel - 1, by omega⟩
    have hgp := (h.gp (show a + j < n by omega)).1
    rw [F_X8_escapesIn_L6, e5, if_neg (by rw [J_le (by omega) (by omega) (by omega) (by omega)]; omega), S_gapAhead h hg (a + j) rfl (by omega), Option.bind_some, S_isEscape (by omega) (by omega) (by omega), Option.bind_some]
    have e6 : s_es on (s_gp x) e a (j + 1) = s_es on (s_gp x) e a j + s_esc on (s_gp x (a + j)) e := rfl
    unfold s_esc at e6
    by_cases hq : on ≤ s_gp x (a + j) / 2 ^ e
    · rw [if_pos hq] at e6
      rw [if_pos hq, if_neg (by decide)]
      exact ih fuel (j + 1) _ _ (by omega) (by omega) (by rw [e4, L1, J_add, e6]; norm_cast) (by rw [L1, J_add]; norm_cast)
    · rw [if_neg hq] at e6
      rw [if_neg hq, if_pos rfl]
      exact ih fuel (j + 1) _ _ (by omega) (by omega) (by rw [e4, L0, J_add, e6]; norm_cast) (by rw [L1, J_add]; norm_cast)
theorem S_escapesIn {x : Nat → Nat} {n bs on : Nat} (h : RV x n bs on) {gn : Ar} (hg : RA x n gn) {za zb ze : Int} (e a b : Nat) (ea : za = a) (eb : zb = b) (ee : ze = e) (he : e ≤ 15) (hab : a ≤ b) (hb : b ≤ n) : F_X8_escapesIn (J on) gn (J za) (J zb) (J ze) = some (J (s_es on (s_gp x) e a (b - a))) := by
  subst ea eb ee
  have hn := h.1
  obtain ⟨f2, hf2⟩ := zFuel_ge (n := 65) (by omega)
  unfold F_X8_escapesIn
  rw [hf2]
  exact S_escapesIn6 h hg he a b hb _ (b - a) _ 0 _ _ (by omega) (by omega) rfl rfl
theorem S_greatestGap5 {x : Nat → Nat} {n bs on : Nat} (h : RV x n bs on) {gn : Ar} (hg : RA x n gn) (a b : Nat) (hb : b ≤ n) (k : Int32 → Option Int32) : ∀ (m fuel j : Nat) (i3 i4 : Int32), a + j + m = b → m < fuel → i3 = J (s_gg (s_gp x) a j) → i4 = J ((a + j : Nat) : Int) →
    F_X8_greatestGap_L5 gn (J b) k fuel i3 i4 = k (J (s_gg (s_gp x) a (b - a))) := by
  intro m
  have hn := h.1
  induction m with
  | zero =>
    intro fuel j i3 i4 hj hf e3 e4
    obtain ⟨fuel, rfl⟩ : ∃ f, fuel = f + 1 := ⟨fuel - 1, by omega⟩
    rw [F_X8_greatestGap_L5, e4, if_pos (by rw [J_le (by omega) (by omega) (by omega) (by omega)]; omega), e3, show b - a = j by omega]
  | succ m ih =>
    intro fuel j i3 i4 hj hf e3 e4
    obtain ⟨fuel, rfl⟩ : ∃ f, fuel = f + 1 := ⟨fuel - 1, by omega⟩
    have hgp := (h.gp (show a + j < n by omega)).1
    have hgg := s_gg_lt h a j (by omega)
    rw [F_X8_greatestGap_L5, e4, if_neg (by rw [J_le (by omega) (by omega) (by omega) (by omega)]; omega), S_gapAhead h hg (a + j) rfl (by omega), Option.bind_some]
    have e6 : s_gg (s_gp x) a (j + 1) = if s_gg (s_gp x) a j < s_gp x (a + j) then s_gp x (a + j) else s_gg (s_gp x) a j := rfl
    refine ih fuel (j + 1) _ _ (by omega) (by omega) ?_ (by rw [L1, J_add]; norm_cast)
    rw [e3, e6]
    by_cases hq : s_gg (s_gp x) a j < s_gp x (a + j)
    · rw [if_pos hq, if_pos (by rw [J_lt (by omega) (by omega) (by omega) (by omega)]; omega)]
    · rw [if_neg hq, if_neg (by rw [J_lt (by omega) (by omega) (by omega) (by omega)]; omega)]
theorem S_greatestGap {x : Nat → Nat} {n bs on : Nat} (h : RV x n bs on) {gn : Ar} (hg : RA x n gn) {za zb : Int} (a b : Nat) (ea : za = a) (eb : zb = b) (hab : a ≤ b) (hb : b ≤ n) : F_X8_greatestGap gn (J za) (J zb) = some (J (s_gg (s_gp x) a (b - a))) := by
  subst ea eb
  have hn := h.1
  obtain ⟨f2, hf2⟩ := zFuel_ge (n := 65) (by omega)
  unfold F_X8_greatestGap
  rw [hf2]
  exact S_greatestGap5 h hg a b hb _ (b - a) _ 0 _ _ (by omega) (by omega) rfl rfl
section ASK
variable {x : Nat → Nat} {n bs on : Nat} {gn : Ar} {ge : Ar} {pl : Int32} {gs gk : Ar} {sl : Int32} {g : Ar}
theorem S_codeStart (h : RV x n bs on) (hc : CO x n bs on ge pl gs gk sl g) {i : Nat} (hi : i < n) : F_X1_codeStart ge gs gk (J bs) (J i) = some (J (s_pos on (s_gp x) n bs (i / bs) i)) := by
  obtain ⟨h1, h2, h3⟩ := s_blk h.2.1 hi
  have hnb := s_nb_le (n := n) h.2.1
  have hn := h.1
  have hbs := h.2.2.1
  have he : s_ex on (s_gp x) n bs (i / bs) ≤ 15 := s_be_le on (s_gp x) _ _
  unfold F_X1_codeStart
  rw [S_blockOf rfl h.2.1 (by omega) (by omega), Option.bind_some, S_read (i / bs) rfl (by omega) (by omega), Option.bind_some, S_firstOf rfl, Option.bind_some, (hc.1 _ h1).1, S_blockBits hc.2.2.2.1 hn (s_ex on (s_gp x) n bs (i / bs)) (i / bs * bs) i rfl rfl rfl (by omega) h2 (by omega), Option.bind_some, S_read (i / bs) rfl (by omega) (by omega), Option.bind_some, (hc.1 _ h1).2, J_add]
  unfold s_pos
  congr 2
  omega
theorem S_gap8 (h : RV x n bs on) (hg : RA x n gn) (hc : CO x n bs on ge pl gs gk sl g) {z : Int} (hz : -2147483648 ≤ z ∧ z < 2147483648) (w : Int32) : F_X8_gap ge gs gk (J n) (J bs) (J on) gn (J z) w = some (a_gap x n bs on z w) := by
  have hn := h.1
  have hbs := h.2.2.1
  have ho := h.2.2.2.2.1
  unfold F_X8_gap a_gap
  rw [S_hasPlace5 hz.1 hz.2 (by omega), Option.bind_some]
  by_cases hp : 0 ≤ z ∧ z < n
  · obtain ⟨i, rfl⟩ : ∃ i : Nat, z = i := ⟨z.toNat, by omega⟩
    have hi : i < n := by omega
    obtain ⟨h1, h2, h3⟩ := s_blk h.2.1 hi
    have hnb := s_nb_le (n := n) h.2.1
    have he : s_ex on (s_gp x) n bs (i / bs) ≤ 15 := s_be_le on (s_gp x) _ _
    have hgp := (h.gp hi).1
    rw [if_pos hp, if_pos hp, if_neg (by decide), S_blockOf rfl h.2.1 (by omega) (by omega), Option.bind_some, S_read (i / bs) rfl (by omega) (by omega), Option.bind_some, (hc.1 _ h1).1, S_gapAhead h hg i rfl hi, Option.bind_some, Option.bind_some, S_codeBits (by omega) (by omega) (by omega), Option.bind_some, S_codeStart h hc hi, Option.bind_some, L1, J_add, S_escapesIn h hg (s_ex on (s_gp x) n bs (i / bs)) i (i + 1) rfl (by omega) rfl he (by omega) (by omega), Option.bind_some, Int.toNat_natCast]
    have e1 : s_es on (s_gp x) (s_ex on (s_gp x) n bs (i / bs)) i (i + 1 - i) = s_esc on (s_gp x i) (s_ex on (s_gp x) n bs (i / bs)) := by
      rw [show i + 1 - i = 1 by omega]
      show 0 + s_esc on (s_gp x (i + 0)) _ = _
      rw [Nat.zero_add]
      rfl
    rw [e1]
    repeat' split
    all_goals rfl
  · rw [if_neg hp, if_neg hp, if_pos rfl]
theorem S_block8 (h : RV x n bs on) (hg : RA x n gn) (hc : CO x n bs on ge pl gs gk sl g) {z : Int} (hz : -2147483648 ≤ z ∧ z < 2147483648) (w : Int32) : F_X8_block ge gs gk (J n) (J bs) (J on) gn (J z) w = some (a_block x n bs on z w) := by
  have hn := h.1
  have hbs := h.2.2.1
  have ho := h.2.2.2.2.1
  have hnb := s_nb_le (n := n) h.2.1
  unfold F_X8_block a_block
  rw [S_hasBlock h.2.1 (by omega) hz.1 hz.2 (by omega), Option.bind_some]
  by_cases hp : 0 ≤ z ∧ z < s_nb n bs
  · obtain ⟨b, rfl⟩ : ∃ i : Nat, z = i := ⟨z.toNat, by omega⟩
    have hb : b < s_nb n bs := by omega
    obtain ⟨h1, h2, h3⟩ := s_en_gt h.2.1 hb
    have he : s_ex on (s_gp x) n bs b ≤ 15 := s_be_le on (s_gp x) _ _
    rw [if_pos hp, if_pos hp, if_neg (by decide), S_firstOf rfl, Option.bind_some, S_endOf rfl (by omega) (by omega), Option.bind_some, S_read b rfl (by omega) (by omega), Option.bind_some, (hc.1 _ hb).1, S_blockBits hc.2.2.2.1 hn (s_ex on (s_gp x) n bs b) (b * bs) (s_en n bs b) rfl rfl rfl (by omega) (by omega) h2, Option.bind_some, S_read b rfl (by omega) (by omega), Option.bind_some, (hc.1 _ hb).2, S_numberAhead hg (b * bs) rfl (by omega) hn, Option.bind_some, S_escapesIn h hg (s_ex on (s_gp x) n bs b) (b * bs) (s_en n bs b) rfl rfl rfl he (by omega) h2, Option.bind_some, S_greatestGap h hg (b * bs) (s_en n bs b) rfl rfl (by omega) h2, Option.bind_some, J_sub, L1, J_add, Int.toNat_natCast, show ((s_en n bs b : Int) - ((b * bs : Nat) : Int)) = ((s_en n bs b - b * bs : Nat) : Int) by omega]
    repeat' split
    all_goals rfl
  · rw [if_neg hp, if_neg hp, if_pos rfl]
theorem S_bit8 {l : List Nat} (hs : SL g sl l) {z : Int} (hz : -2147483648 ≤ z ∧ z < 2147483648) : F_X8_bit sl g (J z) = some (a_bit l z) := by
  have h1 := hs.2.2
  unfold F_X8_bit a_bit
  rw [hs.2.1, S_hasPlace7 hz.1 hz.2 (by omega), Option.bind_some, ← hs.2.1]
  by_cases hp : 0 ≤ z ∧ z < l.length
  · obtain ⟨i, rfl⟩ : ∃ i : Nat, z = i := ⟨z.toNat, by omega⟩
    have hi : l[i]? = some (l.getD i 0) := by
      rw [List.getD_eq_getElem?_getD, List.getElem?_eq_getElem (by omega)]; rfl
    rw [if_pos hp, if_pos hp, if_neg (by decide), S_bit hs i _ rfl hi]
    rfl
  · rw [if_neg hp, if_neg hp, if_pos rfl]
theorem S_word5 {l : List Nat} (hs : SL g sl l) (p : Nat) (hp : p < 1344) (k : Int64 → Option Int64) : ∀ (m fuel j : Nat) (j2 : Int64) (i4 : Int32), j + m = 32 → m < fuel → j2 = s_word l p j → i4 = J j →
    F_X7_wordFrom_L5 sl g (J p) k fuel j2 i4 = k (s_word l p 32) := by
  intro m
  induction m with
  | zero =>
    intro fuel j j2 i4 hj hf e2 e4
    obtain ⟨fuel, rfl⟩ : ∃ f, fuel = f + 1 := ⟨fuel - 1, by omega⟩
    rw [F_X7_wordFrom_L5, e4, if_pos (by rw [L32, J_le (by omega) (by omega) (by omega) (by omega)]; omega), e2, show j = 32 by omega]
  | succ m ih =>
    intro fuel j j2 i4 hj hf e2 e4
    obtain ⟨fuel, rfl⟩ : ∃ f, fuel = f + 1 := ⟨fuel - 1, by omega⟩
    have h1 := hs.2.2
    have hb : F_X7_bitOrZero sl g (J ((p : Int) + (j : Int))) = some (J (l.getD (p + j) 0)) := by
      by_cases hq : p + j < l.length
      · refine S_bit hs (p + j) _ (by omega) ?_
        rw [List.getD_eq_getElem?_getD, List.getElem?_eq_getElem hq]; rfl
      · rw [S_bitX hs (by omega) (by omega) (by omega), List.getD_eq_getElem?_getD, List.getElem?_eq_none (by omega)]; rfl
    rw [F_X7_wordFrom_L5, e4, if_neg (by rw [L32, J_le (by omega) (by omega) (by omega) (by omega)]; omega), J_add, hb, Option.bind_some]
    exact ih fuel (j + 1) _ _ (by omega) (by omega) (by rw [e2]; rfl) (by rw [L1, J_add]; norm_cast)
theorem S_bits8 {l : List Nat} (hs : SL g sl l) {z : Int} (hz : -2147483648 ≤ z ∧ z < 2147483648) : F_X8_bits sl g (J z) = some (a_bits l z) := by
  have h1 := hs.2.2
  unfold F_X8_bits a_bits
  rw [hs.2.1, S_hasPlace7 hz.1 hz.2 (by omega), Option.bind_some, ← hs.2.1]
  by_cases hp : 0 ≤ z ∧ z < l.length
  · obtain ⟨i, rfl⟩ : ∃ i : Nat, z = i := ⟨z.toNat, by omega⟩
    obtain ⟨f2, hf2⟩ := zFuel_ge (n := 33) (by omega)
    rw [if_pos hp, if_pos hp, if_neg (by decide)]
    unfold F_X7_wordFrom
    rw [hf2, S_word5 hs i (by omega) _ 32 (f2 + 33) 0 0 0 (by omega) (by omega) rfl rfl]
    rfl
  · rw [if_neg hp, if_neg hp, if_pos rfl]
theorem S_allEscapes4 (h : RV x n bs on) (hg : RA x n gn) (hc : CO x n bs on ge pl gs gk sl g) (k : Int32 → Option Int32) : ∀ (m fuel b : Nat) (i1 i2 : Int32), b + m = s_nb n bs → m < fuel → i1 = J (s_ae on (s_gp x) n bs b) → i2 = J b →
    F_X8_allEscapes_L4 ge (J n) (J bs) (J on) gn k fuel i1 i2 = k (J (s_ae on (s_gp x) n bs (s_nb n bs))) := by
  intro m
  have hn := h.1
  have hbs := h.2.2.1
  have hnb := s_nb_le (n := n) h.2.1
  induction m with
  | zero =>
    intro fuel b i1 i2 hb hf e1 e2
    obtain ⟨fuel, rfl⟩ : ∃ f, fuel = f + 1 := ⟨fuel - 1, by omega⟩
    rw [F_X8_allEscapes_L4, S_blocks h.2.1 (by omega) (by omega), Option.bind_some, e2, if_pos (by rw [J_le (by omega) (by omega) (by omega) (by omega)]; omega), e1, show b = s_nb n bs by omega]
  | succ m ih =>
    intro fuel b i1 i2 hb hf e1 e2
    obtain ⟨fuel, rfl⟩ : ∃ f, fuel = f + 1 := ⟨fuel - 1, by omega⟩
    have hlt : b < s_nb n bs := by omega
    obtain ⟨h1, h2, h3⟩ := s_en_gt h.2.1 hlt
    have he : s_ex on (s_gp x) n bs b ≤ 15 := s_be_le on (s_gp x) _ _
    rw [F_X8_allEscapes_L4, S_blocks h.2.1 (by omega) (by omega), Option.bind_some, e2, if_neg (by rw [J_le (by omega) (by omega) (by omega) (by omega)]; omega), S_firstOf rfl, Option.bind_some, S_endOf rfl (by omega) (by omega), Option.bind_some, S_read b rfl (by omega) (by omega), Option.bind_some, (hc.1 _ hlt).1, S_escapesIn h hg (s_ex on (s_gp x) n bs b) (b * bs) (s_en n bs b) rfl rfl rfl he (by omega) h2, Option.bind_some]
    exact ih fuel (b + 1) _ _ (by omega) (by omega) (by rw [e1, J_add]; show _ = J ((s_ae on (s_gp x) n bs b + s_es on (s_gp x) (s_ex on (s_gp x) n bs b) (b * bs) (s_en n bs b - b * bs) : Nat) : Int); norm_cast) (by rw [L1, J_add]; norm_cast)
theorem S_greatestExponent4 (h : RV x n bs on) (hc : CO x n bs on ge pl gs gk sl g) (k : Int32 → Option Int32) : ∀ (m fuel b : Nat) (i1 i2 : Int32), b + m = s_nb n bs → m < fuel → i1 = J (s_ge on (s_gp x) n bs b) → i2 = J b →
    F_X8_greatestExponent_L5 ge (J n) (J bs) k fuel i1 i2 = k (J (s_ge on (s_gp x) n bs (s_nb n bs))) := by
  intro m
  have hn := h.1
  have hbs := h.2.2.1
  have hnb := s_nb_le (n := n) h.2.1
  induction m with
  | zero =>
    intro fuel b i1 i2 hb hf e1 e2
    obtain ⟨fuel, rfl⟩ : ∃ f, fuel = f + 1 := ⟨fuel - 1, by omega⟩
    rw [F_X8_greatestExponent_L5, S_blocks h.2.1 (by omega) (by omega), Option.bind_some, e2, if_pos (by rw [J_le (by omega) (by omega) (by omega) (by omega)]; omega), e1, show b = s_nb n bs by omega]
  | succ m ih =>
    intro fuel b i1 i2 hb hf e1 e2
    obtain ⟨fuel, rfl⟩ : ∃ f, fuel = f + 1 := ⟨fuel - 1, by omega⟩
    have hlt : b < s_nb n bs := by omega
    have he : s_ex on (s_gp x) n bs b ≤ 15 := s_be_le on (s_gp x) _ _
    have hge := s_ge_rg on (s_gp x) n bs b
    have e6 : s_ge on (s_gp x) n bs (b + 1) = if s_ge on (s_gp x) n bs b < s_ex on (s_gp x) n bs b then (s_ex on (s_gp x) n bs b : Int) else s_ge on (s_gp x) n bs b := rfl
    rw [F_X8_greatestExponent_L5, S_blocks h.2.1 (by omega) (by omega), Option.bind_some, e2, if_neg (by rw [J_le (by omega) (by omega) (by omega) (by omega)]; omega), S_read b rfl (by omega) (by omega), Option.bind_some, (hc.1 _ hlt).1]
    refine ih fuel (b + 1) _ _ (by omega) (by omega) ?_ (by rw [L1, J_add]; norm_cast)
    rw [e1, e6]
    by_cases hq : s_ge on (s_gp x) n bs b < s_ex on (s_gp x) n bs b
    · rw [if_pos hq, if_pos (by rw [J_lt (by omega) (by omega) (by omega) (by omega)]; omega)]
    · rw [if_neg hq, if_neg (by rw [J_lt (by omega) (by omega) (by omega) (by omega)]; omega)]
end ASK
