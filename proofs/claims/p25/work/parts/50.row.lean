-- changes of a row: the class's and the reference's
def x_ins (x : Nat → Nat) (p v : Nat) : Nat → Nat := fun i => if i < p then x i else if i = p then v else x (i - 1)
def x_rem (x : Nat → Nat) (p : Nat) : Nat → Nat := fun i => if i < p then x i else x (i + 1)
def x_sft (x : Nat → Nat) (p : Nat) (d : Int) : Nat → Nat := fun i => if i < p then x i else ((x i : Int) + d).toNat
/-- what putting in, taking out, setting and shifting do: the answer, the numbers (and how many), the settings -/
def d_put (x : Nat → Nat) (n : Nat) (z : Int) : Int32 × (Nat → Nat) × Nat :=
  if 0 ≤ z ∧ z ≤ 65535 then if n = 64 then (-4, x, n) else if s_lo x z n < n ∧ (x (s_lo x z n) : Int) = z then (-5, x, n) else (J (s_lo x z n), x_ins x (s_lo x z n) z.toNat, n + 1) else (-2, x, n)
def d_take (x : Nat → Nat) (n : Nat) (z : Int) : Int32 × (Nat → Nat) × Nat :=
  if 0 ≤ z ∧ z ≤ 65535 then if s_lo x z n < n ∧ (x (s_lo x z n) : Int) = z then (J (s_lo x z n), x_rem x (s_lo x z n), n - 1) else (-1, x, n) else (-2, x, n)
def d_set (bs on : Nat) (z w : Int) : Int32 × Nat × Nat := if a_setok z w then if z = 0 then (J bs, w.toNat, on) else (J on, bs, w.toNat) else (-2, bs, on)
theorem d_put_2 {x : Nat → Nat} {n : Nat} {z : Int} (h1 : ¬ (0 ≤ z ∧ z ≤ 65535)) : d_put x n z = (-2, x, n) := by unfold d_put; rw [if_neg h1]
theorem d_put_4 {x : Nat → Nat} {n : Nat} {z : Int} (h1 : 0 ≤ z ∧ z ≤ 65535) (h2 : n = 64) : d_put x n z = (-4, x, n) := by unfold d_put; rw [if_pos h1, if_pos h2]
theorem d_put_5 {x : Nat → Nat} {n : Nat} {z : Int} (h1 : 0 ≤ z ∧ z ≤ 65535) (h2 : ¬ n = 64) (h3 : s_lo x z n < n ∧ (x (s_lo x z n) : Int) = z) : d_put x n z = (-5, x, n) := by unfold d_put; rw [if_pos h1, if_neg h2, if_pos h3]
theorem d_put_0 {x : Nat → Nat} {n : Nat} {z : Int} (h1 : 0 ≤ z ∧ z ≤ 65535) (h2 : ¬ n = 64) (h3 : ¬ (s_lo x z n < n ∧ (x (s_lo x z n) : Int) = z)) : d_put x n z = (J (s_lo x z n), x_ins x (s_lo x z n) z.toNat, n + 1) := by unfold d_put; rw [if_pos h1, if_neg h2, if_neg h3]
theorem d_take_2 {x : Nat → Nat} {n : Nat} {z : Int} (h1 : ¬ (0 ≤ z ∧ z ≤ 65535)) : d_take x n z = (-2, x, n) := by unfold d_take; rw [if_neg h1]
theorem d_take_0 {x : Nat → Nat} {n : Nat} {z : Int} (h1 : 0 ≤ z ∧ z ≤ 65535) (h3 : s_lo x z n < n ∧ (x (s_lo x z n) : Int) = z) : d_take x n z = (J (s_lo x z n), x_rem x (s_lo x z n), n - 1) := by unfold d_take; rw [if_pos h1, if_pos h3]
theorem d_take_1 {x : Nat → Nat} {n : Nat} {z : Int} (h1 : 0 ≤ z ∧ z ≤ 65535) (h3 : ¬ (s_lo x z n < n ∧ (x (s_lo x z n) : Int) = z)) : d_take x n z = (-1, x, n) := by unfold d_take; rw [if_pos h1, if_neg h3]
theorem d_set_2 {bs on : Nat} {z w : Int} (h : ¬ a_setok z w) : d_set bs on z w = (-2, bs, on) := by unfold d_set; rw [if_neg h]
theorem d_set_0 {bs on : Nat} {z w : Int} (h : a_setok z w) (h0 : z = 0) : d_set bs on z w = (J bs, w.toNat, on) := by unfold d_set; rw [if_pos h, if_pos h0]
theorem d_set_1 {bs on : Nat} {z w : Int} (h : a_setok z w) (h0 : ¬ z = 0) : d_set bs on z w = (J on, bs, w.toNat) := by unfold d_set; rw [if_pos h, if_neg h0]
theorem RV.put {x : Nat → Nat} {n bs on : Nat} (h : RV x n bs on) (z : Int) : RV (d_put x n z).2.1 (d_put x n z).2.2 bs on := by
  have hn := h.1
  unfold d_put
  by_cases h1 : 0 ≤ z ∧ z ≤ 65535
  · rw [if_pos h1]
    by_cases h2 : n = 64
    · rw [if_pos h2]; exact h
    · rw [if_neg h2]
      by_cases h3 : s_lo x z n < n ∧ (x (s_lo x z n) : Int) = z
      · rw [if_pos h3]; exact h
      · rw [if_neg h3]
        have hl := s_lo_le x z n
        have hat := s_lo_at z h
        show RV (x_ins x (s_lo x z n) z.toNat) (n + 1) bs on
        refine ⟨by omega, h.2.1, h.2.2.1, h.2.2.2.1, h.2.2.2.2.1, fun i hi => ?_, fun i hi => ?_⟩
        · unfold x_ins
          by_cases c1 : i < s_lo x z n
          · rw [if_pos c1]; exact h.2.2.2.2.2.1 i (by omega)
          · rw [if_neg c1]
            by_cases c2 : i = s_lo x z n
            · rw [if_pos c2]; omega
            · rw [if_neg c2]; exact h.2.2.2.2.2.1 (i - 1) (by omega)
        · unfold x_ins
          by_cases c1 : i + 1 < s_lo x z n
          · rw [if_pos (by omega), if_pos c1]; exact h.2.2.2.2.2.2 i (by omega)
          · by_cases c2 : i + 1 = s_lo x z n
            · rw [if_pos (by omega), if_neg c1, if_pos c2]
              have := (hat i (by omega)).mpr (by omega)
              omega
            · by_cases c3 : i = s_lo x z n
              · rw [if_neg (by omega), if_pos c3, if_neg c1, if_neg c2, show i + 1 - 1 = i by omega, c3]
                have h4 := hat (s_lo x z n) (by omega)
                have h5 : ¬ (x (s_lo x z n) : Int) = z := fun t => h3 ⟨by omega, t⟩
                omega
              · rw [if_neg (by omega), if_neg c3, if_neg c1, if_neg c2, show i + 1 - 1 = i - 1 + 1 by omega]
                exact h.2.2.2.2.2.2 (i - 1) (by omega)
  · rw [if_neg h1]; exact h
theorem RV.rem {x : Nat → Nat} {n bs on : Nat} (h : RV x n bs on) {p : Nat} (hp : p < n) : RV (x_rem x p) (n - 1) bs on := by
  have hn := h.1
  refine ⟨by omega, h.2.1, h.2.2.1, h.2.2.2.1, h.2.2.2.2.1, fun i hi => ?_, fun i hi => ?_⟩
  · unfold x_rem
    split
    · exact h.2.2.2.2.2.1 i (by omega)
    · exact h.2.2.2.2.2.1 (i + 1) (by omega)
  · unfold x_rem
    by_cases c1 : i + 1 < p
    · rw [if_pos (by omega), if_pos c1]; exact h.2.2.2.2.2.2 i (by omega)
    · rw [if_neg c1]
      split
      · exact h.lt (by omega) (by omega)
      · exact h.2.2.2.2.2.2 (i + 1) (by omega)
theorem RV.take {x : Nat → Nat} {n bs on : Nat} (h : RV x n bs on) (z : Int) : RV (d_take x n z).2.1 (d_take x n z).2.2 bs on := by
  unfold d_take
  by_cases h1 : 0 ≤ z ∧ z ≤ 65535
  · rw [if_pos h1]
    by_cases h3 : s_lo x z n < n ∧ (x (s_lo x z n) : Int) = z
    · rw [if_pos h3]; exact h.rem h3.1
    · rw [if_neg h3]; exact h
  · rw [if_neg h1]; exact h
theorem RV.setd {x : Nat → Nat} {n bs on : Nat} (h : RV x n bs on) (z w : Int) : RV x n (d_set bs on z w).2.1 (d_set bs on z w).2.2 := by
  unfold d_set
  by_cases h1 : a_setok z w
  · rw [if_pos h1]
    by_cases h2 : z = 0
    · rw [if_pos h2]; exact h.set (bs' := w.toNat) (on' := on) (by omega) ⟨h.2.2.2.1, h.2.2.2.2.1⟩
    · rw [if_neg h2]; exact h.set (bs' := bs) (on' := w.toNat) ⟨h.2.1, h.2.2.1⟩ (by omega)
  · rw [if_neg h1]; exact h
section ROW
variable {x : Nat → Nat} {n bs on : Nat} {gn : Ar}
theorem S_placeOf2 (h : RV x n bs on) (hg : RA x n gn) {q : Int} (hq : 0 ≤ q ∧ q ≤ 65535) : ∀ (m fuel j : Nat) (i2 : Int32), j + m = s_lo x q n → m < fuel → i2 = J j →
    F_X5_placeOf_L2 (J n) gn (J q) (fun _ => some (J n)) fuel i2 = some (J (s_lo x q n)) := by
  intro m
  have hn := h.1
  have hl := s_lo_le x q n
  induction m with
  | zero =>
    intro fuel j i2 hj hf e2
    obtain ⟨fuel, rfl⟩ : ∃ f, fuel = f + 1 := ⟨fuel - 1, by omega⟩
    rw [F_X5_placeOf_L2, e2, jf_le (by omega) (by omega) (by omega) (by omega)]
    by_cases hjn : n ≤ j
    · rw [if_pos (by omega), show s_lo x q n = n by omega]
    · have h4 := s_lo_at q h j (by omega)
      have h5 := h.2.2.2.2.2.1 j (by omega)
      rw [if_neg (by omega), S_number j rfl (by omega), Option.bind_some, hg j (by omega), jf_lt (by omega) (by omega) (by omega) (by omega), if_neg (by omega), show s_lo x q n = j by omega]
  | succ m ih =>
    intro fuel j i2 hj hf e2
    obtain ⟨fuel, rfl⟩ : ∃ f, fuel = f + 1 := ⟨fuel - 1, by omega⟩
    have h4 := s_lo_at q h j (by omega)
    have h5 := h.2.2.2.2.2.1 j (by omega)
    rw [F_X5_placeOf_L2, e2, jf_le (by omega) (by omega) (by omega) (by omega), if_neg (by omega), S_number j rfl (by omega), Option.bind_some, hg j (by omega), jf_lt (by omega) (by omega) (by omega) (by omega), if_pos (by omega)]
    exact ih fuel (j + 1) _ (by omega) (by omega) (by rw [L1, J_add]; norm_cast)
theorem S_placeOf (h : RV x n bs on) (hg : RA x n gn) {q : Int} (hq : 0 ≤ q ∧ q ≤ 65535) : F_X5_placeOf (J n) gn (J q) = some (J (s_lo x q n)) := by
  have hn := h.1
  have hl := s_lo_le x q n
  obtain ⟨f2, hf2⟩ := zFuel_ge (n := 65) (by omega)
  unfold F_X5_placeOf
  rw [hf2]
  exact S_placeOf2 h hg hq (s_lo x q n) _ 0 _ (by omega) (by omega) rfl
theorem S_holds (h : RV x n bs on) (hg : RA x n gn) {q : Int} (hq : 0 ≤ q ∧ q ≤ 65535) : F_X5_holds (J n) gn (J q) (J (s_lo x q n)) = some (if s_lo x q n < n ∧ (x (s_lo x q n) : Int) = q then 1 else 0) := by
  have hn := h.1
  have hl := s_lo_le x q n
  unfold F_X5_holds
  rw [S_hasPlace5 (by omega) (by omega) (by omega), Option.bind_some]
  by_cases h1 : s_lo x q n < n
  · have h5 := h.2.2.2.2.2.1 _ h1
    rw [z_t (by omega), S_number _ rfl (by omega), Option.bind_some, hg _ h1, jf_eq (by omega) (by omega) (by omega) (by omega)]
    by_cases h2 : (x (s_lo x q n) : Int) = q
    · rw [if_pos h2, if_pos ⟨h1, h2⟩]
    · rw [if_neg h2, if_neg (fun t => h2 t.2)]
  · rw [z_f (by omega), if_neg (fun t => h1 t.1)]
theorem S_insert5 (g0 : Ar) {N p : Nat} (hN : N < 64) (k : Ar → Option (Int32 × Ar)) : ∀ (m fuel : Nat) (g : Ar) (i3 : Int32), p + m ≤ N → m < fuel → (∀ j, j ≤ p + m → g j = g0 j) → (∀ j, p + m < j → j ≤ N → g j = g0 (j - 1)) → i3 = J ((p + m : Nat) : Int) →
    ∃ g', (∀ j, j ≤ p → g' j = g0 j) ∧ (∀ j, p < j → j ≤ N → g' j = g0 (j - 1)) ∧ F_X5_insert_L5 (J p) k fuel g i3 = k g' := by
  intro m
  induction m with
  | zero =>
    intro fuel g i3 hm hf h1 h2 e3
    obtain ⟨fuel, rfl⟩ : ∃ f, fuel = f + 1 := ⟨fuel - 1, by omega⟩
    exact ⟨g, h1, h2, by rw [F_X5_insert_L5, e3, if_pos (by rw [J_le (by omega) (by omega) (by omega) (by omega)]; omega)]⟩
  | succ m ih =>
    intro fuel g i3 hm hf h1 h2 e3
    obtain ⟨fuel, rfl⟩ : ∃ f, fuel = f + 1 := ⟨fuel - 1, by omega⟩
    obtain ⟨g', a1, a2, a3⟩ := ih fuel (upd g (p + m + 1) (g (p + m))) (J ((p + (m + 1) : Nat) : Int) + -1) (by omega) (by omega) (fun j hj => by rw [upd_ne (by omega)]; exact h1 j (by omega)) (fun j hj hj2 => by
      by_cases e : j = p + m + 1
      · subst e; rw [upd_self]; exact h1 (p + m) (by omega)
      · rw [upd_ne e]; exact h2 j (by omega) hj2) (by rw [Lm1, J_add]; congr 1; omega)
    refine ⟨g', a1, a2, ?_⟩
    rw [F_X5_insert_L5, e3, if_neg (by rw [J_le (by omega) (by omega) (by omega) (by omega)]; omega), J_sub1, S_number (p + m) (by omega) (by omega), Option.bind_some, S_write (p + m + 1) (by omega) (by omega) (by omega), Option.bind_some, a3]
theorem S_insert {p v : Nat} (hn : n < 64) (hp : p ≤ n) (hg : RA x n gn) {zp : Int} (ep : zp = p) {iv : Int32} (ev : iv = J v) : ∃ gn', RA (x_ins x p v) (n + 1) gn' ∧ F_X5_insert (J n) gn (J zp) iv = some (J ((n + 1 : Nat) : Int), gn') := by
  subst ep
  obtain ⟨f2, hf2⟩ := zFuel_ge (n := 65) (by omega)
  obtain ⟨g', a1, a2, a3⟩ := S_insert5 gn hn (p := p) (fun g => Option.bind (F_X0_write 64 g (J p) iv) (fun u7 => some (J n + 1, u7))) (n - p) (f2 + 65) gn (J n) (by omega) (by omega) (fun _ _ => rfl) (fun j h1 h2 => by omega) (by congr 1; omega)
  refine ⟨upd g' p iv, fun i hi => ?_, ?_⟩
  · unfold x_ins
    by_cases c1 : i < p
    · rw [if_pos c1, upd_ne (by omega), a1 i (by omega)]; exact hg i (by omega)
    · by_cases c2 : i = p
      · rw [if_neg c1, if_pos c2, c2, upd_self, ev]
      · rw [if_neg c1, if_neg c2, upd_ne c2, a2 i (by omega) (by omega)]; exact hg (i - 1) (by omega)
  · unfold F_X5_insert
    rw [hf2, a3, S_write p rfl (by omega) (by omega), Option.bind_some, L1, J_add]
    norm_cast
theorem S_put8 (h : RV x n bs on) (hg : RA x n gn) {z : Int} (hz : -2147483648 ≤ z ∧ z < 2147483648) : ∃ gn', RA (d_put x n z).2.1 (d_put x n z).2.2 gn' ∧ F_X8_addNumber (J n) gn (J z) = some ((d_put x n z).1, J (d_put x n z).2.2, gn') := by
  have hn := h.1
  have hl := s_lo_le x z n
  unfold F_X8_addNumber
  rw [S_isNumber8 hz, Option.bind_some]
  by_cases h1 : 0 ≤ z ∧ z ≤ 65535
  · rw [z_t h1, L64, jf_lt (by omega) (by omega) (by omega) (by omega)]
    by_cases h2 : n = 64
    · rw [d_put_4 h1 h2, if_neg (by omega)]; exact ⟨gn, hg, rfl⟩
    · rw [if_pos (by omega), S_placeOf h hg h1, Option.bind_some, S_holds h hg h1, Option.bind_some]
      by_cases h3 : s_lo x z n < n ∧ (x (s_lo x z n) : Int) = z
      · rw [d_put_5 h1 h2 h3, z_t h3]; exact ⟨gn, hg, rfl⟩
      · obtain ⟨gn', a1, a2⟩ := S_insert (p := s_lo x z n) (v := z.toNat) (by omega) hl hg rfl (iv := J z) (by congr 1; omega)
        rw [d_put_0 h1 h2 h3, z_f h3, a2, Option.bind_some]
        exact ⟨gn', a1, rfl⟩
  · rw [d_put_2 h1, z_f h1]; exact ⟨gn, hg, rfl⟩
theorem S_remove12 (g0 : Ar) {N p : Nat} (hN : N < 64) (k : Ar → Option (Int32 × Ar)) : ∀ (m fuel j : Nat) (g : Ar) (i2 : Int32), j + m = N → m < fuel → p ≤ j → (∀ i, i < p → g i = g0 i) → (∀ i, p ≤ i → i < j → g i = g0 (i + 1)) → (∀ i, j ≤ i → g i = g0 i) → i2 = J j →
    ∃ g', (∀ i, i < p → g' i = g0 i) ∧ (∀ i, p ≤ i → i < N → g' i = g0 (i + 1)) ∧ F_X5_remove_L12 (J N) k fuel g i2 = k g' := by
  intro m
  induction m with
  | zero =>
    intro fuel j g i2 hj hf hp h1 h2 h3 e2
    obtain ⟨fuel, rfl⟩ : ∃ f, fuel = f + 1 := ⟨fuel - 1, by omega⟩
    exact ⟨g, h1, fun i a b => h2 i a (by omega), by rw [F_X5_remove_L12, e2, if_pos (by rw [J_le (by omega) (by omega) (by omega) (by omega)]; omega)]⟩
  | succ m ih =>
    intro fuel j g i2 hj hf hp h1 h2 h3 e2
    obtain ⟨fuel, rfl⟩ : ∃ f, fuel = f + 1 := ⟨fuel - 1, by omega⟩
    obtain ⟨g', a1, a2, a3⟩ := ih fuel (j + 1) (upd g j (g (j + 1))) (J j + 1) (by omega) (by omega) (by omega) (fun i hi => by rw [upd_ne (by omega)]; exact h1 i hi) (fun i hi hi2 => by
      by_cases e : i = j
      · subst e; rw [upd_self]; exact h3 (i + 1) (by omega)
      · rw [upd_ne e]; exact h2 i hi (by omega)) (fun i hi => by rw [upd_ne (by omega)]; exact h3 i (by omega)) (by rw [L1, J_add]; norm_cast)
    refine ⟨g', a1, a2, ?_⟩
    rw [F_X5_remove_L12, e2, if_neg (by rw [J_le (by omega) (by omega) (by omega) (by omega)]; omega), J_add1, S_number (j + 1) (by omega) (by omega), Option.bind_some, S_write j rfl (by omega) (by omega), Option.bind_some, ← J_add1, a3]
theorem S_remove {p : Nat} (hn : n ≤ 64) (hp : p < n) (hg : RA x n gn) {zp : Int} (ep : zp = p) : ∃ gn', RA (x_rem x p) (n - 1) gn' ∧ F_X5_remove (J n) gn (J zp) = some (J ((n - 1 : Nat) : Int), gn') := by
  subst ep
  obtain ⟨f2, hf2⟩ := zFuel_ge (n := 65) (by omega)
  have e0 : J (n : Int) - 1 = J ((n - 1 : Nat) : Int) := by rw [L1, J_sub]; congr 1; omega
  obtain ⟨g', a1, a2, a3⟩ := S_remove12 gn (N := n - 1) (p := p) (by omega) (fun g => some (J ((n - 1 : Nat) : Int), g)) (n - 1 - p) (f2 + 65) p gn (J p) (by omega) (by omega) (Nat.le_refl _) (fun _ _ => rfl) (fun i h1 h2 => by omega) (fun _ _ => rfl) rfl
  refine ⟨g', fun i hi => ?_, ?_⟩
  · unfold x_rem
    by_cases c1 : i < p
    · rw [if_pos c1, a1 i c1]; exact hg i (by omega)
    · rw [if_neg c1, a2 i (by omega) hi]; exact hg (i + 1) (by omega)
  · unfold F_X5_remove
    rw [hf2, e0]
    exact a3
theorem S_take8 (h : RV x n bs on) (hg : RA x n gn) {z : Int} (hz : -2147483648 ≤ z ∧ z < 2147483648) : ∃ gn', RA (d_take x n z).2.1 (d_take x n z).2.2 gn' ∧ F_X8_dropNumber (J n) gn (J z) = some ((d_take x n z).1, J (d_take x n z).2.2, gn') := by
  have hn := h.1
  have hl := s_lo_le x z n
  unfold F_X8_dropNumber
  rw [S_isNumber8 hz, Option.bind_some]
  by_cases h1 : 0 ≤ z ∧ z ≤ 65535
  · rw [z_t h1, S_placeOf h hg h1, Option.bind_some, S_holds h hg h1, Option.bind_some]
    by_cases h3 : s_lo x z n < n ∧ (x (s_lo x z n) : Int) = z
    · obtain ⟨gn', a1, a2⟩ := S_remove (p := s_lo x z n) hn h3.1 hg rfl
      rw [d_take_0 h1 h3, z_t h3, a2, Option.bind_some]
      exact ⟨gn', a1, rfl⟩
    · rw [d_take_1 h1 h3, z_f h3]; exact ⟨gn, hg, rfl⟩
  · rw [d_take_2 h1, z_f h1]; exact ⟨gn, hg, rfl⟩
theorem S_set8 {z w : Int} (hz : -2147483648 ≤ z ∧ z < 2147483648) (hw : -2147483648 ≤ w ∧ w < 2147483648) : F_X8_changeSetting (J bs) (J on) (J z) (J w) = some ((d_set bs on z w).1, J (d_set bs on z w).2.1, J (d_set bs on z w).2.2) := by
  unfold F_X8_changeSetting
  rw [S_isSetting8 hz hw, Option.bind_some]
  by_cases h1 : a_setok z w
  · rw [z_t h1, L0, jf_eq (by omega) (by omega) (by omega) (by omega), jf_eq (by omega) (by omega) (by omega) (by omega), jf_eq (by omega) (by omega) (by omega) (by omega)]
    have e : J (w.toNat : Int) = J w := by congr 1; omega
    by_cases h2 : z = 0
    · rw [d_set_0 h1 h2, if_pos h2, if_pos h2, e]
    · rw [d_set_1 h1 h2, if_neg h2, if_neg h2, e]
  · rw [d_set_2 h1, z_f h1]
theorem S_raise2 (g0 : Ar) {N p : Nat} (hN : N ≤ 64) (d : Int32) (k : Ar → Option Ar) : ∀ (m fuel j : Nat) (g : Ar) (i3 : Int32), j + m = N → m < fuel → p ≤ j → (∀ i, i < p → g i = g0 i) → (∀ i, p ≤ i → i < j → g i = g0 i + d) → (∀ i, j ≤ i → g i = g0 i) → i3 = J j →
    ∃ g', (∀ i, i < p → g' i = g0 i) ∧ (∀ i, p ≤ i → i < N → g' i = g0 i + d) ∧ F_X5_raiseFrom_L2 (J N) d k fuel g i3 = k g' := by
  intro m
  induction m with
  | zero =>
    intro fuel j g i3 hj hf hp h1 h2 h3 e3
    obtain ⟨fuel, rfl⟩ : ∃ f, fuel = f + 1 := ⟨fuel - 1, by omega⟩
    exact ⟨g, h1, fun i a b => h2 i a (by omega), by rw [F_X5_raiseFrom_L2, e3, if_pos (by rw [J_le (by omega) (by omega) (by omega) (by omega)]; omega)]⟩
  | succ m ih =>
    intro fuel j g i3 hj hf hp h1 h2 h3 e3
    obtain ⟨fuel, rfl⟩ : ∃ f, fuel = f + 1 := ⟨fuel - 1, by omega⟩
    obtain ⟨g', a1, a2, a3⟩ := ih fuel (j + 1) (upd g j (g j + d)) (J j + 1) (by omega) (by omega) (by omega) (fun i hi => by rw [upd_ne (by omega)]; exact h1 i hi) (fun i hi hi2 => by
      by_cases e : i = j
      · subst e; rw [upd_self, h3 i (Nat.le_refl _)]
      · rw [upd_ne e]; exact h2 i hi (by omega)) (fun i hi => by rw [upd_ne (by omega)]; exact h3 i (by omega)) (by rw [L1, J_add]; norm_cast)
    refine ⟨g', a1, a2, ?_⟩
    rw [F_X5_raiseFrom_L2, e3, if_neg (by rw [J_le (by omega) (by omega) (by omega) (by omega)]; omega), S_number j rfl (by omega), Option.bind_some, S_write j rfl (by omega) (by omega), Option.bind_some, a3]
/-- may a row be shifted -/
abbrev s_sok (x : Nat → Nat) (n p : Nat) (d : Int) : Prop := s_na x p < (x p : Int) + d ∧ (x (n - 1) : Int) + d ≤ 65535
theorem RV.sft (h : RV x n bs on) {p : Nat} (hp : p < n) {d : Int} (hd : s_sok x n p d) : RV (x_sft x p d) n bs on ∧ ∀ i, p ≤ i → i < n → 0 ≤ (x i : Int) + d := by
  have hna : -1 ≤ s_na x p := by unfold s_na; split <;> omega
  have hge : ∀ i, p ≤ i → i < n → x p ≤ x i := fun i a b => by
    by_cases e : i = p
    · rw [e]; exact Nat.le_refl _
    · exact Nat.le_of_lt (h.lt (by omega) b)
  have hle : ∀ i, i < n → x i ≤ x (n - 1) := fun i a => by
    by_cases e : i = n - 1
    · rw [e]; exact Nat.le_refl _
    · exact Nat.le_of_lt (h.lt (by omega) (by omega))
  have h0 : ∀ i, p ≤ i → i < n → 0 ≤ (x i : Int) + d := fun i a b => by have := hge i a b; have := hd.1; omega
  refine ⟨⟨h.1, h.2.1, h.2.2.1, h.2.2.2.1, h.2.2.2.2.1, fun i hi => ?_, fun i hi => ?_⟩, h0⟩
  · unfold x_sft
    split
    · exact h.2.2.2.2.2.1 i hi
    · have := hle i hi; have := hd.2; omega
  · have h1 := h.2.2.2.2.2.2 i hi
    unfold x_sft
    by_cases c1 : i + 1 < p
    · rw [if_pos (by omega), if_pos c1]; exact h1
    · rw [if_neg c1]
      by_cases c2 : i + 1 = p
      · rw [if_pos (by omega)]
        have h2 := hd.1
        unfold s_na at h2
        rw [if_neg (by omega), show p - 1 = i by omega, ← c2] at h2
        omega
      · rw [if_neg (by omega)]
        have := h0 i (by omega) (by omega)
        omega
theorem S_raise (h : RV x n bs on) (hg : RA x n gn) {p : Nat} (hp : p < n) {d : Int} (hd : s_sok x n p d) : ∃ gn', RA (x_sft x p d) n gn' ∧ F_X5_raiseFrom (J n) gn (J p) (J d) = some gn' := by
  have hn := h.1
  obtain ⟨f2, hf2⟩ := zFuel_ge (n := 65) (by omega)
  obtain ⟨g', a1, a2, a3⟩ := S_raise2 gn hn (p := p) (J d) (fun g => some g) (n - p) (f2 + 65) p gn (J p) (by omega) (by omega) (Nat.le_refl _) (fun _ _ => rfl) (fun i h1 h2 => by omega) (fun _ _ => rfl) rfl
  refine ⟨g', fun i hi => ?_, ?_⟩
  · unfold x_sft
    by_cases c1 : i < p
    · rw [if_pos c1, a1 i c1]; exact hg i hi
    · have := (h.sft hp hd).2 i (by omega) hi
      rw [if_neg c1, a2 i (by omega) hi, hg i hi, J_add]; congr 1; omega
  · unfold F_X5_raiseFrom
    rw [hf2]
    exact a3
end ROW
-- the reference
section ROW9
variable {x : Nat → Nat} {n bs on : Nat} {g : Ar}
/-- shifting: the answer and the numbers -/
def d_sft (x : Nat → Nat) (n bs on : Nat) (z d : Int) : Int32 × (Nat → Nat) :=
  if 0 ≤ z ∧ z < n then if -65535 ≤ d ∧ d ≤ 65535 then if s_sok x n z.toNat d then (J (s_tot on (s_gp (x_sft x z.toNat d)) n bs), x_sft x z.toNat d) else (-5, x) else (-2, x) else (-1, x)
theorem d_sft_1 {x : Nat → Nat} {n bs on : Nat} {z d : Int} (h1 : ¬ (0 ≤ z ∧ z < n)) : d_sft x n bs on z d = (-1, x) := by unfold d_sft; rw [if_neg h1]
theorem d_sft_2 {x : Nat → Nat} {n bs on : Nat} {z d : Int} (h1 : 0 ≤ z ∧ z < n) (h2 : ¬ (-65535 ≤ d ∧ d ≤ 65535)) : d_sft x n bs on z d = (-2, x) := by unfold d_sft; rw [if_pos h1, if_neg h2]
theorem d_sft_5 {x : Nat → Nat} {n bs on p : Nat} {d : Int} (h1 : 0 ≤ (p : Int) ∧ (p : Int) < n) (h2 : -65535 ≤ d ∧ d ≤ 65535) (h3 : ¬ s_sok x n p d) : d_sft x n bs on p d = (-5, x) := by unfold d_sft; rw [if_pos h1, if_pos h2, Int.toNat_natCast, if_neg h3]
theorem d_sft_0 {x : Nat → Nat} {n bs on p : Nat} {d : Int} (h1 : 0 ≤ (p : Int) ∧ (p : Int) < n) (h2 : -65535 ≤ d ∧ d ≤ 65535) (h3 : s_sok x n p d) : d_sft x n bs on p d = (J (s_tot on (s_gp (x_sft x p d)) n bs), x_sft x p d) := by unfold d_sft; rw [if_pos h1, if_pos h2, Int.toNat_natCast, if_pos h3]
theorem RV.sftd (h : RV x n bs on) (z d : Int) : RV (d_sft x n bs on z d).2 n bs on := by
  unfold d_sft
  by_cases h1 : 0 ≤ z ∧ z < n
  · rw [if_pos h1]
    by_cases h2 : -65535 ≤ d ∧ d ≤ 65535
    · rw [if_pos h2]
      by_cases h3 : s_sok x n z.toNat d
      · rw [if_pos h3]; exact (h.sft (by omega) h3).1
      · rw [if_neg h3]; exact h
    · rw [if_neg h2]; exact h
  · rw [if_neg h1]; exact h
end ROW9
