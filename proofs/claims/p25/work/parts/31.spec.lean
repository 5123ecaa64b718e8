-- what is meant: gaps, the bits of codes, exponents, blocks
def s_cb (on g e : Nat) : Nat := if on ≤ g / 2 ^ e then on + 16 else g / 2 ^ e + 1 + e
def s_ps (on : Nat) (gp : Nat → Nat) (e : Nat) : Nat → Nat
  | 0 => 0
  | p + 1 => s_ps on gp e p + s_cb on (gp p) e
def s_cs (on : Nat) (gp : Nat → Nat) (e a b : Nat) : Nat := s_ps on gp e b - s_ps on gp e a
def s_am (f : Nat → Nat) : Nat → Nat
  | 0 => 0
  | n + 1 => if f (n + 1) < f (s_am f n) then n + 1 else s_am f n
def s_be (on : Nat) (gp : Nat → Nat) (a b : Nat) : Nat := s_am (fun e => s_cs on gp e a b) 15
def s_en (n bs b : Nat) : Nat := if n < b * bs + bs then n else b * bs + bs
def s_ex (on : Nat) (gp : Nat → Nat) (n bs b : Nat) : Nat := s_be on gp (b * bs) (s_en n bs b)
def s_bb (on : Nat) (gp : Nat → Nat) (n bs b : Nat) : Nat := 4 + s_cs on gp (s_ex on gp n bs b) (b * bs) (s_en n bs b)
def s_sk (on : Nat) (gp : Nat → Nat) (n bs : Nat) : Nat → Nat
  | 0 => 0
  | b + 1 => s_sk on gp n bs b + s_bb on gp n bs b
def s_nb (n bs : Nat) : Nat := (n + bs - 1) / bs
def s_tot (on : Nat) (gp : Nat → Nat) (n bs : Nat) : Nat := s_sk on gp n bs (s_nb n bs)
def s_gp (x : Nat → Nat) (i : Nat) : Nat := if i = 0 then x 0 else x i - x (i - 1) - 1
/-- the number ahead of a place -/
def s_na (x : Nat → Nat) (i : Nat) : Int := if i = 0 then -1 else (x (i - 1) : Int)
/-- a row as it may be: n numbers, BLOCK, ONES -/
def RV (x : Nat → Nat) (n bs on : Nat) : Prop := n ≤ 64 ∧ 1 ≤ bs ∧ bs ≤ 16 ∧ 1 ≤ on ∧ on ≤ 30 ∧ (∀ i, i < n → x i < 65536) ∧ ∀ i, i + 1 < n → x i < x (i + 1)
theorem RV.lt {x : Nat → Nat} {n bs on : Nat} (h : RV x n bs on) : ∀ {j i : Nat}, i < j → j < n → x i < x j := by
  intro j
  induction j with
  | zero => intro i h1; omega
  | succ j ih =>
    intro i h1 h2
    have h3 := h.2.2.2.2.2.2 j h2
    by_cases e : i = j
    · subst e; exact h3
    · exact Nat.lt_trans (ih (by omega) (by omega)) h3
theorem RV.ge {x : Nat → Nat} {n bs on : Nat} (h : RV x n bs on) : ∀ {i : Nat}, i < n → i ≤ x i := by
  intro i
  induction i with
  | zero => intro _; omega
  | succ i ih => intro h1; have := ih (by omega); have := h.2.2.2.2.2.2 i h1; omega
theorem RV.gp {x : Nat → Nat} {n bs on : Nat} (h : RV x n bs on) {i : Nat} (hi : i < n) : s_gp x i < 65536 ∧ (x i : Int) = s_na x i + s_gp x i + 1 := by
  have h1 := h.2.2.2.2.2.1 i hi
  unfold s_gp s_na
  by_cases e : i = 0
  · subst e; rw [if_pos rfl, if_pos rfl]; omega
  · rw [if_neg e, if_neg e]
    have h2 := h.2.2.2.2.2.2 (i - 1) (by omega)
    rw [show i - 1 + 1 = i by omega] at h2
    omega
theorem s_cb_le {on g e : Nat} (h1 : on ≤ 30) (he : e ≤ 15) : s_cb on g e ≤ 46 := by
  unfold s_cb
  split <;> omega
theorem s_cb_15 {on g : Nat} (h1 : 1 ≤ on) (hg : g < 65536) : s_cb on g 15 ≤ 17 := by
  unfold s_cb
  have : g / 2 ^ 15 ≤ 1 := by omega
  split <;> omega
theorem s_ps_mono {on : Nat} {gp : Nat → Nat} {e : Nat} : ∀ {b a : Nat}, a ≤ b → s_ps on gp e a ≤ s_ps on gp e b := by
  intro b
  induction b with
  | zero => intro a h; rw [Nat.le_zero.mp h]; exact Nat.le_refl _
  | succ b ih =>
    intro a h
    by_cases e : a = b + 1
    · rw [e]; exact Nat.le_refl _
    · exact Nat.le_trans (ih (by omega)) (Nat.le_add_right _ _)
theorem s_ps_le {on : Nat} {gp : Nat → Nat} {e : Nat} (h1 : on ≤ 30) (he : e ≤ 15) : ∀ p, s_ps on gp e p ≤ 46 * p := by
  intro p
  induction p with
  | zero => exact Nat.le_refl _
  | succ p ih => have := s_cb_le (g := gp p) h1 he; show _ + _ ≤ _; omega
theorem s_ps_15 {on : Nat} {gp : Nat → Nat} (h1 : 1 ≤ on) (a : Nat) : ∀ b, a ≤ b → (∀ i, a ≤ i → i < b → gp i < 65536) → s_ps on gp 15 b ≤ s_ps on gp 15 a + 17 * (b - a) := by
  intro b
  induction b with
  | zero => intro h _; rw [Nat.le_zero.mp h]; omega
  | succ b ih =>
    intro h hg
    by_cases e : a = b + 1
    · subst e; omega
    · have := ih (by omega) (fun i h1 h2 => hg i h1 (by omega))
      have := s_cb_15 h1 (hg b (by omega) (by omega))
      show _ + _ ≤ _
      omega
theorem s_am_le {f : Nat → Nat} : ∀ n, s_am f n ≤ n := by
  intro n
  induction n with
  | zero => exact Nat.le_refl _
  | succ n ih => unfold s_am; split <;> omega
theorem s_am_min {f : Nat → Nat} : ∀ n k, k ≤ n → f (s_am f n) ≤ f k := by
  intro n
  induction n with
  | zero => intro k hk; rw [Nat.le_zero.mp hk]; exact Nat.le_refl _
  | succ n ih =>
    intro k hk
    unfold s_am
    by_cases e : k = n + 1
    · subst e; split <;> omega
    · have := ih k (by omega); split <;> omega
theorem s_am_first {f : Nat → Nat} : ∀ n k, k < s_am f n → f (s_am f n) < f k := by
  intro n
  induction n with
  | zero => intro k hk; exact absurd hk (Nat.not_lt_zero _)
  | succ n ih =>
    intro k hk
    unfold s_am at hk ⊢
    split
    · rename_i h; rw [if_pos h] at hk
      have := s_am_min (f := f) n k (by omega)
      omega
    · rename_i h; rw [if_neg h] at hk; exact ih k hk
theorem s_be_le (on : Nat) (gp : Nat → Nat) (a b : Nat) : s_be on gp a b ≤ 15 := s_am_le 15
theorem s_be_min (on : Nat) (gp : Nat → Nat) (a b : Nat) {e : Nat} (h : e ≤ 15) : s_cs on gp (s_be on gp a b) a b ≤ s_cs on gp e a b := s_am_min (f := fun e => s_cs on gp e a b) 15 e h
theorem s_en_le (n bs b : Nat) : s_en n bs b ≤ n ∨ s_en n bs b = b * bs + bs := by unfold s_en; split <;> omega
theorem s_nb_lt {n bs b : Nat} (hb : 1 ≤ bs) : b < s_nb n bs ↔ b * bs < n := by
  unfold s_nb
  rw [← Nat.succ_le_iff, Nat.le_div_iff_mul_le (by omega), Nat.succ_mul]
  omega
theorem s_nb_le {n bs : Nat} (hb : 1 ≤ bs) : s_nb n bs ≤ n := by
  rcases Nat.eq_zero_or_pos (s_nb n bs) with h | h
  · omega
  · have h1 := (s_nb_lt (n := n) (b := s_nb n bs - 1) hb).mp (by omega)
    have := Nat.le_mul_of_pos_right (s_nb n bs - 1) hb
    omega
theorem s_en_gt {n bs b : Nat} (hb : 1 ≤ bs) (h : b < s_nb n bs) : b * bs < s_en n bs b ∧ s_en n bs b ≤ n ∧ s_en n bs b ≤ b * bs + bs := by
  have h1 := (s_nb_lt hb).mp h
  unfold s_en
  split <;> omega
/-- the block of a place -/
theorem s_blk {n bs i : Nat} (hb : 1 ≤ bs) (h : i < n) : i / bs < s_nb n bs ∧ i / bs * bs ≤ i ∧ i < s_en n bs (i / bs) := by
  have h1 := Nat.div_mul_le_self i bs
  have h2 : i < i / bs * bs + bs := by
    have h3 := Nat.div_add_mod i bs
    have h4 := Nat.mod_lt i (show bs > 0 by omega)
    rw [Nat.mul_comm] at h3
    omega
  refine ⟨(s_nb_lt hb).mpr (by omega), h1, ?_⟩
  unfold s_en
  split <;> omega
theorem s_bb_le {x : Nat → Nat} {n bs on b : Nat} (h : RV x n bs on) (hb : b < s_nb n bs) : s_bb on (s_gp x) n bs b ≤ 4 + 17 * (s_en n bs b - b * bs) := by
  obtain ⟨h1, h2, h3⟩ := s_en_gt h.2.1 hb
  unfold s_bb s_ex
  have h4 := s_be_min on (s_gp x) (b * bs) (s_en n bs b) (e := 15) (Nat.le_refl _)
  have h5 := s_ps_15 (gp := s_gp x) h.2.2.2.1 (b * bs) (s_en n bs b) (by omega) (fun i _ h7 => (h.gp (by omega)).1)
  have h6 : s_cs on (s_gp x) 15 (b * bs) (s_en n bs b) ≤ 17 * (s_en n bs b - b * bs) := by unfold s_cs; omega
  omega
theorem s_sk_le {x : Nat → Nat} {n bs on : Nat} (h : RV x n bs on) : ∀ b, b ≤ s_nb n bs → s_sk on (s_gp x) n bs b ≤ 21 * (b * bs) ∧ s_sk on (s_gp x) n bs b ≤ 21 * n := by
  intro b
  induction b with
  | zero => intro _; exact ⟨Nat.zero_le _, Nat.zero_le _⟩
  | succ b ih =>
    intro hb
    obtain ⟨h1, h2, h3⟩ := s_en_gt h.2.1 (show b < s_nb n bs by omega)
    have h4 := s_bb_le h (show b < s_nb n bs by omega)
    have h5 := ih (by omega)
    have h6 : (b + 1) * bs = b * bs + bs := Nat.succ_mul b bs
    show s_sk _ _ _ _ b + s_bb _ _ _ _ b ≤ _ ∧ s_sk _ _ _ _ b + s_bb _ _ _ _ b ≤ _
    constructor <;> omega
theorem s_sk_mono {on : Nat} {gp : Nat → Nat} {n bs : Nat} : ∀ {b a : Nat}, a ≤ b → s_sk on gp n bs a ≤ s_sk on gp n bs b := by
  intro b
  induction b with
  | zero => intro a h; rw [Nat.le_zero.mp h]; exact Nat.le_refl _
  | succ b ih =>
    intro a h
    by_cases e : a = b + 1
    · rw [e]; exact Nat.le_refl _
    · exact Nat.le_trans (ih (by omega)) (Nat.le_add_right _ _)
theorem s_tot_le {x : Nat → Nat} {n bs on : Nat} (h : RV x n bs on) : s_tot on (s_gp x) n bs ≤ 1344 := by
  have h1 := (s_sk_le h _ (Nat.le_refl (s_nb n bs))).2
  have h2 := h.1
  unfold s_tot
  omega
