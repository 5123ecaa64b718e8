-- the class's rows, prices
theorem S_read {n : Nat} {g : Ar} {z : Int} (i : Nat) (hz : z = i) (hi : i < n) (hn : n < 2147483648) : F_X0_read n g (J z) = some (g i) := by
  subst hz
  unfold F_X0_read
  have h1 : ¬ J (i : Int) < 0 := by rw [J_0, J_lt (by omega) (by omega) (by omega) (by omega)]; omega
  have h2 : ¬ Int32.ofNat n ≤ J (i : Int) := by rw [J_nat, J_le (by omega) (by omega) (by omega) (by omega)]; omega
  have h3 : (J (i : Int)).toNatClampNeg = i := by rw [J_idx (by omega) (by omega)]; rfl
  rw [if_neg h1, if_neg h2, h3, if_pos (fun h => h.elim h1 (fun h => by omega))]
theorem S_readX {n : Nat} {g : Ar} {z : Int} (h : z < 0 ∨ n ≤ z) (h1 : -2147483648 ≤ z) (h2 : z < 2147483648) (hn : n < 2147483648) : F_X0_read n g (J z) = some 0 := by
  unfold F_X0_read
  by_cases h3 : z < 0
  · rw [if_pos (by rw [J_0, J_lt (by omega) (by omega) (by omega) (by omega)]; omega)]
  · rw [if_neg (by rw [J_0, J_lt (by omega) (by omega) (by omega) (by omega)]; omega), if_pos (by rw [J_nat, J_le (by omega) (by omega) (by omega) (by omega)]; omega)]
theorem S_write {n : Nat} {g : Ar} {z : Int} {v : Int32} (i : Nat) (hz : z = i) (hi : i < n) (hn : n < 2147483648) : F_X0_write n g (J z) v = some (upd g i v) := by
  subst hz
  unfold F_X0_write
  have h1 : ¬ J (i : Int) < 0 := by rw [J_0, J_lt (by omega) (by omega) (by omega) (by omega)]; omega
  have h2 : ¬ Int32.ofNat n ≤ J (i : Int) := by rw [J_nat, J_le (by omega) (by omega) (by omega) (by omega)]; omega
  have h3 : (J (i : Int)).toNatClampNeg = i := by rw [J_idx (by omega) (by omega)]; rfl
  rw [if_neg h1, if_neg h2, h3, if_pos (fun h => h.elim h1 (fun h => by omega))]
/-- the numbers' row holds the numbers -/
def RA (x : Nat → Nat) (n : Nat) (g : Ar) : Prop := ∀ i, i < n → g i = J (x i)
theorem S_number {g : Ar} {z : Int} (i : Nat) (hz : z = i) (hi : i < 64) : F_X5_number g (J z) = some (g i) := by
  unfold F_X5_number
  rw [S_read i hz hi (by omega)]
  rfl
theorem S_numberAhead {x : Nat → Nat} {n : Nat} {g : Ar} {z : Int} (hg : RA x n g) (i : Nat) (hz : z = i) (hi : i ≤ n) (hn : n ≤ 64) : F_X5_numberAhead g (J z) = some (J (s_na x i)) := by
  subst hz
  unfold F_X5_numberAhead s_na
  by_cases h : i = 0
  · subst h
    rw [if_pos (by decide), if_pos rfl]; rfl
  · rw [if_neg (by rw [J_0, J_le (by omega) (by omega) (by omega) (by omega)]; omega), if_neg h, J_1, J_sub, S_read (i - 1) (by omega) (by omega) (by omega), hg (i - 1) (by omega)]
    rfl
theorem S_gapAhead {x : Nat → Nat} {n bs on : Nat} {g : Ar} {z : Int} (h : RV x n bs on) (hg : RA x n g) (i : Nat) (hz : z = i) (hi : i < n) : F_X5_gapAhead g (J z) = some (J (s_gp x i)) := by
  have h1 := h.1
  have h2 := (h.gp hi).2
  unfold F_X5_gapAhead
  rw [S_number i hz (by omega), S_numberAhead hg i hz (by omega) h1, hg i hi]
  show some (J _ - J _ - 1) = _
  rw [J_1, J_sub, J_sub, h2]
  congr 2
  omega
theorem S_blockOf {bs : Nat} {i : Nat} {z : Int} (hz : z = i) (h1 : 1 ≤ bs) (h2 : bs < 2147483648) (h3 : i < 2147483648) : F_X5_blockOf (J bs) (J z) = some (J ((i / bs : Nat) : Int)) := by
  subst hz
  unfold F_X5_blockOf
  rw [if_neg (by rw [J_0, J_le (by omega) (by omega) (by omega) (by omega)]; omega), if_pos (by rw [J_0, J_eq (by omega) (by omega) (by omega) (by omega)]; omega), J_div (by omega) (by omega) (by omega) (by omega)]
  rfl
theorem S_blocks {n bs : Nat} (h1 : 1 ≤ bs) (h2 : bs < 2147483648) (h3 : n < 2147483648) : F_X5_blocks (J n) (J bs) = some (J (s_nb n bs)) := by
  unfold F_X5_blocks
  by_cases h : n = 0
  · subst h
    rw [if_pos (by decide)]
    unfold s_nb
    rw [Nat.div_eq_of_lt (by omega)]; rfl
  · rw [if_neg (by rw [J_0, J_le (by omega) (by omega) (by omega) (by omega)]; omega), J_1, J_sub, S_blockOf (i := n - 1) (by omega) h1 h2 (by omega)]
    show some (J _ + J 1) = _
    rw [J_add]
    unfold s_nb
    rw [show n + bs - 1 = n - 1 + bs by omega, Nat.add_div_right _ (by omega)]
    rfl
theorem S_firstOf {bs b : Nat} {z : Int} (hz : z = b) : F_X5_firstOf (J bs) (J z) = some (J ((b * bs : Nat) : Int)) := by
  subst hz
  unfold F_X5_firstOf
  rw [J_mul]
  norm_cast
theorem S_endOf {n bs b : Nat} {z : Int} (hz : z = b) (h : b * bs + bs < 2147483648) (h3 : n < 2147483648) : F_X5_endOf (J n) (J bs) (J z) = some (J (s_en n bs b)) := by
  unfold F_X5_endOf
  rw [S_firstOf hz]
  show some (if J n < J _ + J _ then J n else J _ + J _) = _
  rw [J_add]
  unfold s_en
  by_cases h1 : n < b * bs + bs
  · rw [if_pos (by rw [J_lt (by omega) (by omega) (by omega) (by omega)]; omega), if_pos h1]
  · rw [if_neg (by rw [J_lt (by omega) (by omega) (by omega) (by omega)]; omega), if_neg h1]
    norm_cast
theorem S_hasPlace5 {n : Nat} {z : Int} (h1 : -2147483648 ≤ z) (h2 : z < 2147483648) (h3 : n < 2147483648) : F_X5_hasPlace (J n) (J z) = some (if 0 ≤ z ∧ z < n then 1 else 0) := by
  unfold F_X5_hasPlace
  by_cases ha : z < 0
  · rw [if_pos (by rw [J_0, J_lt (by omega) (by omega) (by omega) (by omega)]; omega), if_neg (by omega)]
  · rw [if_neg (by rw [J_0, J_lt (by omega) (by omega) (by omega) (by omega)]; omega)]
    by_cases hb : z < n
    · rw [if_neg (by rw [J_le (by omega) (by omega) (by omega) (by omega)]; omega), if_pos ⟨by omega, hb⟩]
    · rw [if_pos (by rw [J_le (by omega) (by omega) (by omega) (by omega)]; omega), if_neg (by omega)]
theorem S_hasBlock {n bs : Nat} {z : Int} (hb : 1 ≤ bs) (hb2 : bs < 2147483648) (h1 : -2147483648 ≤ z) (h2 : z < 2147483648) (h3 : n < 2147483648) : F_X5_hasBlock (J n) (J bs) (J z) = some (if 0 ≤ z ∧ z < s_nb n bs then 1 else 0) := by
  unfold F_X5_hasBlock
  have h4 := s_nb_le (n := n) hb
  by_cases ha : z < 0
  · rw [if_pos (by rw [J_0, J_lt (by omega) (by omega) (by omega) (by omega)]; omega), if_neg (by omega)]
  · rw [if_neg (by rw [J_0, J_lt (by omega) (by omega) (by omega) (by omega)]; omega), S_blocks hb hb2 h3]
    show (if J _ ≤ J z then some 0 else some 1) = _
    by_cases hc : z < s_nb n bs
    · rw [if_neg (by rw [J_le (by omega) (by omega) (by omega) (by omega)]; omega), if_pos ⟨by omega, hc⟩]
    · rw [if_pos (by rw [J_le (by omega) (by omega) (by omega) (by omega)]; omega), if_neg (by omega)]
theorem s_dvl (g e : Nat) : g / 2 ^ e ≤ g := Nat.div_le_self _ _
theorem S_isEscape {g e on : Nat} (hg : g < 2147483648) (he : e < 32) (ho : on < 2147483648) : F_X8_isEscape (J g) (J e) (J on) = some (if on ≤ g / 2 ^ e then 1 else 0) := by
  unfold F_X8_isEscape
  have h := s_dvl g e
  rw [J_shr (by omega) (by omega) he, show ((g : Int) / 2 ^ e) = ((g / 2 ^ e : Nat) : Int) by norm_cast]
  generalize g / 2 ^ e = q at h ⊢
  by_cases h1 : on ≤ q
  · rw [if_neg (by rw [J_lt (by omega) (by omega) (by omega) (by omega)]; omega), if_pos h1]
  · rw [if_pos (by rw [J_lt (by omega) (by omega) (by omega) (by omega)]; omega), if_neg h1]
theorem S_codeBits {g e on : Nat} (hg : g < 2147483000) (he : e < 32) (ho : on < 2147483000) : F_X8_codeBits (J g) (J e) (J on) = some (J (s_cb on g e)) := by
  unfold F_X8_codeBits s_cb
  have h := s_dvl g e
  rw [S_isEscape (by omega) he (by omega)]
  by_cases h1 : on ≤ g / 2 ^ e
  · rw [if_pos h1, if_pos h1]
    show some (J on + 16) = _
    rw [L16, J_add]
    norm_cast
  · rw [if_neg h1, if_neg h1]
    show some (J g >>> (J e &&& 31) + 1 + J e) = _
    rw [J_shr (by omega) (by omega) he, show ((g : Int) / 2 ^ e) = ((g / 2 ^ e : Nat) : Int) by norm_cast, J_1, J_add, J_add]
    norm_cast
/-- the sums of the prices up to a place -/
def PO (on : Nat) (gp : Nat → Nat) (n : Nat) (g : Ar) : Prop := ∀ e, e < 16 → ∀ p, p ≤ n → g (e * 65 + p) = J (s_ps on gp e p)
def PZ (g : Ar) : Prop := ∀ e, e < 16 → g (e * 65) = J 0
theorem S_fill28 {x : Nat → Nat} {n bs on : Nat} (h : RV x n bs on) {on' : Nat} (ho : on' ≤ 30) (p : Nat) (hp : p < n) (k : Ar → Option (Int32 × Ar)) : ∀ (m fuel e : Nat) (g : Ar), e + m = 16 → m < fuel → PZ g → (∀ e', e' < 16 → ∀ q, q ≤ p → g (e' * 65 + q) = J (s_ps on' (s_gp x) e' q)) → (∀ e', e' < e → g (e' * 65 + (p + 1)) = J (s_ps on' (s_gp x) e' (p + 1))) →
    ∃ g', PZ g' ∧ (∀ e', e' < 16 → ∀ q, q ≤ p + 1 → g' (e' * 65 + q) = J (s_ps on' (s_gp x) e' q)) ∧ F_X4_fill_L28 (J on') (J p) (J (s_gp x p)) k fuel g (J e) = k g' := by
  intro m
  have hn := h.1
  have hgp := (h.gp hp).1
  induction m with
  | zero =>
    intro fuel e g he hf hz h1 h2
    obtain ⟨fuel, rfl⟩ : ∃ f, fuel = f + 1 := ⟨fuel - 1, by omega⟩
    refine ⟨g, hz, fun e' he' q hq => ?_, ?_⟩
    · by_cases e1 : q = p + 1
      · subst e1; exact h2 e' (by omega)
      · exact h1 e' he' q (by omega)
    · rw [F_X4_fill_L28, if_pos (by rw [L16, J_le (by omega) (by omega) (by omega) (by omega)]; omega)]
  | succ m ih =>
    intro fuel e g he hf hz h1 h2
    obtain ⟨fuel, rfl⟩ : ∃ f, fuel = f + 1 := ⟨fuel - 1, by omega⟩
    have h3 : ∀ e', e' < 16 → ∀ q, q ≤ p → e' * 65 + q ≠ e * 65 + (p + 1) := by intro e' _ q hq; omega
    obtain ⟨g', a1, a2, a3⟩ := ih fuel (e + 1) (upd g (e * 65 + (p + 1)) (J (s_ps on' (s_gp x) e (p + 1)))) (by omega) (by omega)
      (fun e' he' => by rw [upd_ne (by have := h3 e' he' 0 (by omega); omega)]; exact hz e' he')
      (fun e' he' q hq => by rw [upd_ne (h3 e' he' q hq)]; exact h1 e' he' q hq)
      (fun e' he' => by
        by_cases e1 : e' = e
        · subst e1; exact upd_self
        · rw [upd_ne (by omega)]; exact h2 e' (by omega))
    refine ⟨g', a1, a2, ?_⟩
    rw [F_X4_fill_L28, if_neg (by rw [L16, J_le (by omega) (by omega) (by omega) (by omega)]; omega), L65, J_mul, J_add, S_read (e * 65 + p) (by omega) (by omega) (by omega), h1 e (by omega) p (Nat.le_refl _)]
    show Option.bind (F_X8_codeBits _ _ _) _ = _
    rw [S_codeBits (by omega) (by omega) (by omega)]
    show Option.bind (F_X0_write _ _ _ _) _ = _
    rw [J_1, J_add, J_add, S_write (e * 65 + (p + 1)) (by omega) (by omega) (by omega)]
    show F_X4_fill_L28 _ _ _ k fuel _ (J e + J 1) = _
    rw [J_add, ← a3]
    norm_cast
theorem S_fill10 {x : Nat → Nat} {n bs on : Nat} (h : RV x n bs on) {on' : Nat} (ho : on' ≤ 30) {gn : Ar} (hg : RA x n gn) (k : Ar → Option (Int32 × Ar)) : ∀ (m fuel p : Nat) (g : Ar), p + m = n → m < fuel → PZ g → (∀ e', e' < 16 → ∀ q, q ≤ p → g (e' * 65 + q) = J (s_ps on' (s_gp x) e' q)) →
    ∃ g', PZ g' ∧ PO on' (s_gp x) n g' ∧ F_X4_fill_L10 (J n) gn (J on') k fuel g (J p) = k g' := by
  intro m
  have hn := h.1
  induction m with
  | zero =>
    intro fuel p g hp hf hz h1
    obtain ⟨fuel, rfl⟩ : ∃ f, fuel = f + 1 := ⟨fuel - 1, by omega⟩
    refine ⟨g, hz, fun e he q hq => h1 e he q (by omega), ?_⟩
    rw [F_X4_fill_L10, if_pos (by rw [J_le (by omega) (by omega) (by omega) (by omega)]; omega)]
  | succ m ih =>
    intro fuel p g hp hf hz h1
    obtain ⟨fuel, rfl⟩ : ∃ f, fuel = f + 1 := ⟨fuel - 1, by omega⟩
    obtain ⟨f2, hf2⟩ := zFuel_ge (n := 17) (by omega)
    obtain ⟨g1, a1, a2, a3⟩ := S_fill28 h ho p (by omega) (fun g => F_X4_fill_L10 (J n) gn (J on') k fuel g (J p + 1)) 16 (f2 + 17) 0 g (by omega) (by omega) hz h1 (fun e' he' => by omega)
    obtain ⟨g', b1, b2, b3⟩ := ih fuel (p + 1) g1 (by omega) (by omega) a1 a2
    refine ⟨g', b1, b2, ?_⟩
    rw [F_X4_fill_L10, if_neg (by rw [J_le (by omega) (by omega) (by omega) (by omega)]; omega), S_gapAhead h hg p rfl (by omega)]
    rw [Option.bind_some, hf2, show (0 : Int32) = J ((0 : Nat) : Int) from rfl, a3, J_1, J_add, ← b3]
    norm_cast
theorem S_fill {x : Nat → Nat} {n bs on : Nat} (h : RV x n bs on) {on' : Nat} (ho : on' ≤ 30) {gn : Ar} (hg : RA x n gn) {vl : Int32} {g : Ar} (hz : PZ g) : ∃ g', PZ g' ∧ PO on' (s_gp x) n g' ∧ F_X4_fill vl g (J n) gn (J on') = some (J n, g') := by
  have hn := h.1
  obtain ⟨f2, hf2⟩ := zFuel_ge (n := 65) (by omega)
  obtain ⟨g', a1, a2, a3⟩ := S_fill10 h ho hg (fun g => some (J n, g)) n (f2 + 65) 0 g (by omega) (by omega) hz (fun e he q hq => by rw [show q = 0 by omega]; exact hz e he)
  refine ⟨g', a1, a2, ?_⟩
  unfold F_X4_fill
  rw [hf2]
  exact a3
theorem S_codesBits {on : Nat} {gp : Nat → Nat} {n : Nat} {g : Ar} (h : PO on gp n g) (hn : n ≤ 64) {ze za zb : Int} (e a b : Nat) (h1 : ze = e) (h2 : za = a) (h3 : zb = b) (he : e < 16) (hab : a ≤ b) (hb : b ≤ n) : F_X4_codesBits g (J ze) (J za) (J zb) = some (J (s_cs on gp e a b)) := by
  subst h1 h2 h3
  unfold F_X4_codesBits
  rw [L65, J_mul, J_add, S_read (e * 65 + b) (by omega) (by omega) (by omega), h e he b hb]
  show Option.bind (F_X0_read _ _ _) _ = _
  rw [J_add, S_read (e * 65 + a) (by omega) (by omega) (by omega), h e he a (by omega)]
  show some (J _ - J _) = _
  have h4 := s_ps_mono (on := on) (gp := gp) (e := e) hab
  rw [J_sub]
  unfold s_cs
  congr 2
  omega
theorem S_best14 {on : Nat} {gp : Nat → Nat} {n : Nat} {g : Ar} (h : PO on gp n g) (hn : n ≤ 64) (ho : on ≤ 30) (a b : Nat) (hab : a ≤ b) (hb : b ≤ n) (k : Int32 → Option Int32) : ∀ (m fuel e : Nat) (i3 i4 i5 : Int32), e + m = 15 → m + 1 < fuel → i3 = J (s_am (fun e => s_cs on gp e a b) e) → i4 = J (s_cs on gp (s_am (fun e => s_cs on gp e a b) e) a b) → i5 = J ((e + 1 : Nat) : Int) →
    F_X4_bestExponent_L14 g (J a) (J b) k fuel i3 i4 i5 = k (J (s_be on gp a b)) := by
  intro m
  have hcs : ∀ e, e ≤ 15 → s_cs on gp e a b ≤ 2944 := fun e he => by
    have := s_ps_le (gp := gp) ho he b
    unfold s_cs
    omega
  induction m with
  | zero =>
    intro fuel e i3 i4 i5 he hf e3 e4 e5
    obtain ⟨fuel, rfl⟩ : ∃ f, fuel = f + 1 := ⟨fuel - 1, by omega⟩
    rw [F_X4_bestExponent_L14, e5, if_pos (by rw [L16, J_le (by omega) (by omega) (by omega) (by omega)]; omega), e3, show e = 15 by omega]
    rfl
  | succ m ih =>
    intro fuel e i3 i4 i5 he hf e3 e4 e5
    obtain ⟨fuel, rfl⟩ : ∃ f, fuel = f + 1 := ⟨fuel - 1, by omega⟩
    have h1 := s_am_le (f := fun e => s_cs on gp e a b) e
    have h2 := hcs (e + 1) (by omega)
    have h3 := hcs (s_am (fun e => s_cs on gp e a b) e) (by omega)
    have h6 : s_am (fun e => s_cs on gp e a b) (e + 1) = if s_cs on gp (e + 1) a b < s_cs on gp (s_am (fun e => s_cs on gp e a b) e) a b then e + 1 else s_am (fun e => s_cs on gp e a b) e := rfl
    rw [F_X4_bestExponent_L14, e5, if_neg (by rw [L16, J_le (by omega) (by omega) (by omega) (by omega)]; omega), S_codesBits h hn (e + 1) a b rfl rfl rfl (by omega) hab hb, Option.bind_some, e4]
    by_cases h5 : s_cs on gp (e + 1) a b < s_cs on gp (s_am (fun e => s_cs on gp e a b) e) a b
    · rw [if_pos h5] at h6
      rw [if_neg (by rw [J_le (by omega) (by omega) (by omega) (by omega)]; omega)]
      exact ih fuel (e + 1) _ _ _ (by omega) (by omega) (by rw [h6]) (by rw [h6]) (by rw [J_1, J_add]; norm_cast)
    · rw [if_neg h5] at h6
      rw [if_pos (by rw [J_le (by omega) (by omega) (by omega) (by omega)]; omega)]
      exact ih fuel (e + 1) _ _ _ (by omega) (by omega) (by rw [h6, e3]) (by rw [h6]) (by rw [J_1, J_add]; norm_cast)
theorem S_bestExponent {on : Nat} {gp : Nat → Nat} {n : Nat} {g : Ar} (h : PO on gp n g) (hn : n ≤ 64) (ho : on ≤ 30) {za zb : Int} (a b : Nat) (h2 : za = a) (h3 : zb = b) (hab : a ≤ b) (hb : b ≤ n) : F_X4_bestExponent g (J za) (J zb) = some (J (s_be on gp a b)) := by
  subst h2 h3
  unfold F_X4_bestExponent
  obtain ⟨f2, hf2⟩ := zFuel_ge (n := 17) (by omega)
  rw [hf2, L0, S_codesBits (ze := 0) h hn 0 a b rfl rfl rfl (by omega) hab hb, Option.bind_some]
  exact S_best14 h hn ho a b hab hb (fun i => some i) 15 _ 0 _ _ _ (by omega) (by omega) rfl rfl rfl
theorem S_blockBits {on : Nat} {gp : Nat → Nat} {n : Nat} {g : Ar} (h : PO on gp n g) (hn : n ≤ 64) {ze za zb : Int} (e a b : Nat) (h1 : ze = e) (h2 : za = a) (h3 : zb = b) (he : e < 16) (hab : a ≤ b) (hb : b ≤ n) : F_X4_blockBits g (J ze) (J za) (J zb) = some (J ((4 + s_cs on gp e a b : Nat) : Int)) := by
  unfold F_X4_blockBits
  rw [S_codesBits h hn e a b h1 h2 h3 he hab hb]
  show some (4 + J _) = _
  rw [L4, J_add]
  norm_cast
