-- the law holds a block's exponent against the others, and 32 bits against single ones
theorem lg_refl (x : Int64) : lg_cmp x x = 0 := (lg_cmp_eq x x).2 rfl
theorem K_sh {e : Nat} (he : e < 32) : (((J e).toInt64 &&& 63).toBitVec.smod 64).toNat = e := by
  have : ∀ k : Fin 32, (((J (k.val : Int)).toInt64 &&& 63).toBitVec.smod 64).toNat = k.val := by decide +kernel
  exact this ⟨e, he⟩
theorem K_shr {a e : Nat} (h : a < 4294967296) (he : e < 32) : zshr (K a) (J e) = K ((a / 2 ^ e : Nat) : Int) := by
  apply Int64.toInt_inj.mp
  have h3 : (zshr (K a) (J e)).toInt = (K a).toInt >>> e := by
    show ((K a).toBitVec.sshiftRight (((J e).toInt64 &&& 63).toBitVec.smod 64).toNat).toInt = _
    rw [K_sh he, BitVec.toInt_sshiftRight]
    rfl
  have h4 : a / 2 ^ e ≤ a := Nat.div_le_self _ _
  rw [h3, K_toInt (by omega) (by omega), Int.shiftRight_eq_div_pow]
  generalize hq : a / 2 ^ e = q at h4 ⊢
  rw [K_toInt (by omega) (by omega), ← hq]
  norm_cast
theorem K_and1 {a : Nat} (h : a < 4294967296) : K a &&& 1 = K ((a % 2 : Nat) : Int) := by
  apply Int64.toBitVec_inj.mp
  rw [Int64.toBitVec_and]
  apply BitVec.eq_of_toNat_eq
  rw [BitVec.toNat_and, show (1 : Int64).toBitVec.toNat = 1 from rfl, Nat.and_one_is_mod]
  show (BitVec.ofInt 64 a).toNat % 2 = (BitVec.ofInt 64 ((a % 2 : Nat) : Int)).toNat
  rw [BitVec.toNat_ofInt, BitVec.toNat_ofInt]
  omega
def B2 (l : List Nat) : Prop := ∀ v ∈ l, v < 2
theorem B2.app {a b : List Nat} (h1 : B2 a) (h2 : B2 b) : B2 (a ++ b) := fun v hv => (List.mem_append.mp hv).elim (h1 v) (h2 v)
theorem B2.lb {bf : Nat → Nat} (h : ∀ i, bf i < 2) : ∀ w, B2 (lb bf w) := by
  intro w
  induction w with
  | zero => intro v hv; cases hv
  | succ w ih => intro v hv; exact (List.mem_cons.mp hv).elim (fun e => e ▸ h w) (ih v)
theorem B2.bv (v w : Nat) : B2 (bv v w) := B2.lb (fun i => Nat.mod_lt _ (by decide)) w
theorem B2.code (on g e : Nat) : B2 (s_code on g e) := by
  unfold s_code
  split
  · exact (B2.lb (fun _ => by decide) _).app (B2.bv _ _)
  · exact (B2.lb (fun _ => by decide) _).app (fun v hv => (List.mem_cons.mp hv).elim (fun h => by omega) (B2.bv _ _ v))
theorem B2.codes (on : Nat) (gp : Nat → Nat) (e a : Nat) : ∀ m, B2 (s_codes on gp e a m) := by
  intro m
  induction m with
  | zero => intro v hv; cases hv
  | succ m ih => exact ih.app (B2.code _ _ _)
theorem B2.str (on : Nat) (gp : Nat → Nat) (n bs : Nat) : ∀ b, B2 (s_str on gp n bs b) := by
  intro b
  induction b with
  | zero => intro v hv; cases hv
  | succ b ih => exact ih.app ((B2.bv _ _).app (B2.codes _ _ _ _ _))
theorem B2.at {l : List Nat} (h : B2 l) (i : Nat) : l.getD i 0 < 2 := by
  rw [List.getD_eq_getElem?_getD]
  cases e : l[i]? with
  | none => decide
  | some v => exact h v (List.mem_of_getElem? e)
def s_wn (l : List Nat) (p : Nat) : Nat → Nat
  | 0 => 0
  | k + 1 => s_wn l p k * 2 + l.getD (p + k) 0
theorem s_wn_lt {l : List Nat} (h : B2 l) (p : Nat) : ∀ k, s_wn l p k < 2 ^ k := by
  intro k
  induction k with
  | zero => exact Nat.one_pos
  | succ k ih => have := h.at (p + k); show s_wn l p k * 2 + _ < _; rw [Nat.pow_succ]; omega
theorem s_wn_div {l : List Nat} (h : B2 l) (p k : Nat) : ∀ m, s_wn l p (k + m) / 2 ^ m = s_wn l p k := by
  intro m
  induction m with
  | zero => rw [Nat.pow_zero, Nat.div_one]; rfl
  | succ m ih =>
    have h1 := h.at (p + (k + m))
    have e : s_wn l p (k + (m + 1)) = s_wn l p (k + m) * 2 + l.getD (p + (k + m)) 0 := rfl
    rw [e, Nat.pow_succ', ← Nat.div_div_eq_div_mul, show (s_wn l p (k + m) * 2 + l.getD (p + (k + m)) 0) / 2 = s_wn l p (k + m) by omega, ih]
theorem s_word_K {l : List Nat} (h : B2 l) (p : Nat) : ∀ k, s_word l p k = K (s_wn l p k) := by
  intro k
  induction k with
  | zero => rfl
  | succ k ih =>
    have h1 := h.at (p + k)
    show s_word l p k * 2 + (J (l.getD (p + k) 0)).toInt64 = K ((s_wn l p k * 2 + l.getD (p + k) 0 : Nat) : Int)
    rw [ih, J_K (by omega) (by omega), show (2 : Int64) = K 2 from rfl, K_mul, K_add]
    norm_cast
theorem s_word_bit {l : List Nat} (h : B2 l) (p : Nat) {i : Nat} (hi : i < 32) : zshr (s_word l p 32) (31 - J i) &&& 1 = K ((l.getD (p + i) 0 : Nat) : Int) := by
  have h1 := s_wn_lt h p 32
  have h2 := s_wn_div h p (i + 1) (31 - i)
  rw [show i + 1 + (31 - i) = 32 by omega] at h2
  have h3 := s_wn_lt h p (i + 1)
  have h4 : (2 : Nat) ^ (i + 1) ≤ 2 ^ 32 := Nat.pow_le_pow_right (by decide) (by omega)
  have h5 := h.at (p + i)
  have e : s_wn l p (i + 1) = s_wn l p i * 2 + l.getD (p + i) 0 := rfl
  rw [s_word_K h, L31, J_sub, show ((31 : Int) - i) = ((31 - i : Nat) : Int) by omega, K_shr (by omega) (by omega), h2, K_and1 (by omega), show s_wn l p (i + 1) % 2 = l.getD (p + i) 0 by omega]
section LEAST
variable {x : Nat → Nat} {n bs on : Nat} {gn : Ar} {ge : Ar} {pl : Int32} {gs gk : Ar} {sl : Int32} {g : Ar}
theorem Z_L380 {l : List Nat} (hs : SL g sl l) (hb : B2 l) {p : Nat} (hp : p < l.length) (k : Int32 → Option (Int32 × Int32 × Int32 × Int32 × Int32 × Int32 × Ar)) : ∀ (m fuel i : Nat) (i13 : Int32), i + m = 32 → m < fuel → i13 = J i → F_L_isLeast_L380 sl g (J p) (s_word l p 32) k fuel 1 i13 = k 1 := by
  intro m
  have hl := hs.2.2
  induction m with
  | zero =>
    intro fuel i i13 hi hf e
    obtain ⟨fuel, rfl⟩ : ∃ f, fuel = f + 1 := ⟨fuel - 1, by omega⟩
    rw [F_L_isLeast_L380, e, L32, if_pos (by rw [J_le (by omega) (by omega) (by omega) (by omega)]; omega)]
  | succ m ih =>
    intro fuel i i13 hi hf e
    obtain ⟨fuel, rfl⟩ : ∃ f, fuel = f + 1 := ⟨fuel - 1, by omega⟩
    have hw := s_word_bit hb p (show i < 32 by omega)
    have hb2 := hb.at (p + i)
    have hn : F_L_isLeast_L380 sl g (J p) (s_word l p 32) k fuel 1 (J i + 1) = k 1 := ih fuel (i + 1) _ (by omega) (by omega) (by rw [J_add1]; norm_cast)
    rw [F_L_isLeast_L380, e, L32, if_neg (by rw [J_le (by omega) (by omega) (by omega) (by omega)]; omega), J_add, S_bit8 hs (by omega), Option.bind_some, if_neg (by decide), hw]
    by_cases c : p + i < l.length
    · have ea : a_bit l ((p : Int) + i) = J (l.getD (p + i) 0) := by
        unfold a_bit
        rw [if_pos (by omega), show ((p : Int) + i).toNat = p + i by omega]
      rw [ea, if_pos (by rw [L0, J_le (by omega) (by omega) (by omega) (by omega)]; omega), J_K (by omega) (by omega)]
      unfold F_L_isLeast_J425L380
      rw [lg_refl, if_pos rfl]
      exact hn
    · have ea : a_bit l ((p : Int) + i) = -1 := by
        unfold a_bit
        rw [if_neg (by omega)]
      have ez : l.getD (p + i) 0 = 0 := by rw [List.getD_eq_getElem?_getD, List.getElem?_eq_none (by omega)]; rfl
      rw [ea, if_neg (by decide), ez]
      unfold F_L_isLeast_J425L380
      rw [show lg_cmp (K ((0 : Nat) : Int)) 0 = 0 from lg_refl 0, if_pos rfl]
      exact hn
theorem s_cs_rg (ho : on ≤ 30) {gp : Nat → Nat} {e a b : Nat} (he : e ≤ 15) (hb : b ≤ 64) : s_cs on gp e a b ≤ 2944 := by
  have := s_ps_le (gp := gp) ho he b
  unfold s_cs
  omega
theorem s_bb_rg (h : RV x n bs on) {b : Nat} (hb : b < s_nb n bs) : s_bb on (s_gp x) n bs b ≤ 2948 := by
  have h1 := s_en_gt h.2.1 hb
  have hn := h.1
  have := s_cs_rg h.2.2.2.2.1 (gp := s_gp x) (e := s_ex on (s_gp x) n bs b) (a := b * bs) (b := s_en n bs b) (s_ex_le _ _ _ _ _) (by omega)
  unfold s_bb
  omega
theorem Z_L68 (h : RV x n bs on) (hc : CO x n bs on ge pl gs gk sl g) {b : Nat} (hb : b < s_nb n bs) (k : Int32 → Option (Int32 × Int32 × Int32 × Int32 × Int32 × Int32 × Ar)) : ∀ (m fuel e : Nat) (i7 : Int32), e + m = 16 → m < fuel → i7 = J e → F_L_isLeast_L68 gs (J n) (J bs) (J b) (J (s_ex on (s_gp x) n bs b)) (J (s_bb on (s_gp x) n bs b)) k fuel 1 i7 = k 1 := by
  intro m
  have hn := h.1
  have h1 := s_en_gt h.2.1 hb
  have hbb := s_bb_rg h hb
  have hnb := s_nb_le (n := n) h.2.1
  have hex := s_ex_le on (s_gp x) n bs b
  induction m with
  | zero =>
    intro fuel e i7 hi hf ei
    obtain ⟨fuel, rfl⟩ : ∃ f, fuel = f + 1 := ⟨fuel - 1, by omega⟩
    rw [F_L_isLeast_L68, ei, L16, if_pos (by rw [J_le (by omega) (by omega) (by omega) (by omega)]; omega)]
  | succ m ih =>
    intro fuel e i7 hi hf ei
    obtain ⟨fuel, rfl⟩ : ∃ f, fuel = f + 1 := ⟨fuel - 1, by omega⟩
    have hcs := s_cs_rg h.2.2.2.2.1 (gp := s_gp x) (e := e) (a := b * bs) (b := s_en n bs b) (by omega) (by omega)
    have hmin := s_be_min on (s_gp x) (b * bs) (s_en n bs b) (e := e) (by omega)
    have hfst := s_am_first (f := fun e => s_cs on (s_gp x) e (b * bs) (s_en n bs b)) 15 e
    have hbe : s_bb on (s_gp x) n bs b = 4 + s_cs on (s_gp x) (s_be on (s_gp x) (b * bs) (s_en n bs b)) (b * bs) (s_en n bs b) := rfl
    have hnx : F_L_isLeast_L68 gs (J n) (J bs) (J b) (J (s_ex on (s_gp x) n bs b)) (J (s_bb on (s_gp x) n bs b)) k fuel 1 (J e + 1) = k 1 := ih fuel (e + 1) _ (by omega) (by omega) (by rw [J_add1]; norm_cast)
    rw [F_L_isLeast_L68, ei, L16, if_neg (by rw [J_le (by omega) (by omega) (by omega) (by omega)]; omega), if_neg (by decide), S_cost8 h hc (by omega) (by omega), Option.bind_some, co0 rfl hb rfl (by omega)]
    by_cases c : s_ex on (s_gp x) n bs b ≤ e
    · rw [if_pos (by rw [J_le (by omega) (by omega) (by omega) (by omega)]; omega), if_neg (by rw [J_lt (by omega) (by omega) (by omega) (by omega)]; omega)]
      exact hnx
    · have hlt : s_cs on (s_gp x) (s_be on (s_gp x) (b * bs) (s_en n bs b)) (b * bs) (s_en n bs b) < s_cs on (s_gp x) e (b * bs) (s_en n bs b) := hfst (by unfold s_ex s_be at c; omega)
      rw [if_neg (by rw [J_le (by omega) (by omega) (by omega) (by omega)]; omega), Option.bind_some, if_neg (by rw [J_le (by omega) (by omega) (by omega) (by omega)]; omega)]
      exact hnx
end LEAST
