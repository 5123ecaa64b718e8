-- the law reads bits by bit()
theorem Z_bit {g : Ar} {sl : Int32} {l : List Nat} (h : SL g sl l) {z : Int} (i v : Nat) (hz : z = i) (hv : l[i]? = some v) : F_X8_bit sl g (J z) = some (J v) := by
  have hi : i < l.length := (List.getElem?_eq_some_iff.mp hv).1
  have h3 := h.2.2
  rw [S_bit8 h (by omega)]
  unfold a_bit
  rw [if_pos (by omega), hz, Int.toNat_natCast, List.getD_eq_getElem?_getD, hv]
  rfl
theorem Z_read5 {g : Ar} {sl : Int32} {l : List Nat} (h : SL g sl l) {bf : Nat → Nat} {W P : Nat} (hW : W ≤ 64) (post : List Nat) (k : Int32 → Option Int32) : ∀ (w fuel : Nat) (pre : List Nat) (i3 i4 : Int32) (acc : Nat), w ≤ W → w < fuel → l = pre ++ (lb bf w ++ post) → pre.length = P + (W - w) → i3 = J acc → i4 = J ((W - w : Nat) : Int) →
    F_L_read_L5 sl g (J P) (J W) k fuel i3 i4 = k (J ((acc * 2 ^ w + vb bf w : Nat) : Int)) := by
  intro w
  induction w with
  | zero =>
    intro fuel pre i3 i4 acc hw hf hl hp e3 e4
    obtain ⟨fuel, rfl⟩ : ∃ f, fuel = f + 1 := ⟨fuel - 1, by omega⟩
    rw [F_L_read_L5, e4, if_pos (by rw [J_le (by omega) (by omega) (by omega) (by omega)]; omega), e3]
    congr 2
    show _ = ((acc * 2 ^ 0 + 0 : Nat) : Int)
    omega
  | succ w ih =>
    intro fuel pre i3 i4 acc hw hf hl hp e3 e4
    obtain ⟨fuel, rfl⟩ : ∃ f, fuel = f + 1 := ⟨fuel - 1, by omega⟩
    have hl2 : l = (pre ++ [bf w]) ++ (lb bf w ++ post) := by rw [hl]; simp [lb]
    have hv : l[pre.length]? = some (bf w) := by
      rw [hl, List.getElem?_append_right (Nat.le_refl _), Nat.sub_self]; rfl
    rw [F_L_read_L5, e4, if_neg (by rw [J_le (by omega) (by omega) (by omega) (by omega)]; omega), J_add, Z_bit h pre.length (bf w) (by omega) hv, Option.bind_some,
      ih fuel (pre ++ [bf w]) _ _ (acc * 2 + bf w) (by omega) (by omega) hl2 (by rw [List.length_append]; simp; omega) (by rw [e3, L2, J_mul, J_add]; congr 1; omega) (by rw [L1, J_add]; congr 1; omega)]
    congr 2
    show _ = ((acc * 2 ^ (w + 1) + (bf w * 2 ^ w + vb bf w) : Nat) : Int)
    congr 1
    rw [Nat.pow_succ, Nat.add_mul]
    have : acc * 2 * 2 ^ w = acc * (2 ^ w * 2) := by rw [Nat.mul_assoc, Nat.mul_comm 2]
    omega
theorem Z_read {g : Ar} {sl : Int32} {l : List Nat} (h : SL g sl l) {bf : Nat → Nat} {w : Nat} (hw : w ≤ 64) (pre post : List Nat) (hl : l = pre ++ (lb bf w ++ post)) {z iw : Int32} (en : z = J pre.length) (ew : iw = J w) : F_L_read sl g z iw = some (J (vb bf w)) := by
  obtain ⟨f2, hf2⟩ := zFuel_ge (n := 65) (by omega)
  unfold F_L_read
  rw [hf2, ew, en, Z_read5 h hw post _ w (f2 + 65) pre 0 0 0 (Nat.le_refl _) (by omega) hl (by omega) rfl (by rw [Nat.sub_self]; rfl), Nat.zero_mul, Nat.zero_add]
theorem Z_ones120 {g : Ar} {sl : Int32} {l : List Nat} (h : SL g sl l) {on P : Nat} (ho : on ≤ 30) (rest : List Nat) (k : Int32 → Option (Int32 × Int32 × Int32 × Int32 × Int32)) : ∀ (r fuel j : Nat) (pre : List Nat) (i9 : Int32), j + r ≤ on → l = pre ++ (lb (fun _ => 1) r ++ rest) → pre.length = P + j → i9 = J j →
    F_L_isCoded_L120 sl g (J P) (J on) k (fuel + r) i9 = F_L_isCoded_L120 sl g (J P) (J on) k fuel (J ((j + r : Nat) : Int)) := by
  intro r
  induction r with
  | zero => intro fuel j pre i9 hj hl hp e; rw [e]; rfl
  | succ r ih =>
    intro fuel j pre i9 hj hl hp e
    have hl3 : l = (pre ++ [1]) ++ (lb (fun _ => 1) r ++ rest) := by rw [hl]; simp [lb]
    have hv : l[pre.length]? = some 1 := by
      rw [hl, List.getElem?_append_right (Nat.le_refl _), Nat.sub_self]; rfl
    rw [show fuel + (r + 1) = (fuel + r) + 1 by omega, F_L_isCoded_L120, e, if_neg (by rw [J_le (by omega) (by omega) (by omega) (by omega)]; omega), J_add, Z_bit h pre.length 1 (by omega) hv, Option.bind_some, if_pos (by decide),
      ih fuel (j + 1) (pre ++ [1]) _ (by omega) hl3 (by rw [List.length_append]; simp; omega) (by rw [L1, J_add]; norm_cast)]
    congr 2
    omega
theorem Z_ones {g : Ar} {sl : Int32} {l : List Nat} (h : SL g sl l) {on r : Nat} (ho : on ≤ 30) (hr : r ≤ on) (pre rest : List Nat) (hl : l = pre ++ (lb (fun _ => 1) r ++ rest)) (he : r = on ∨ ∃ t, rest = 0 :: t) {z : Int32} (ez : z = J pre.length) (k : Int32 → Option (Int32 × Int32 × Int32 × Int32 × Int32)) :
    F_L_isCoded_L120 sl g z (J on) k zFuel 0 = k (J r) := by
  obtain ⟨f2, hf2⟩ := zFuel_ge (n := r + 1) (by omega)
  rw [hf2, ez, show f2 + (r + 1) = (f2 + 1) + r by omega, Z_ones120 h ho rest k r (f2 + 1) 0 pre 0 (by omega) hl rfl rfl, Nat.zero_add, F_L_isCoded_L120]
  by_cases e : r = on
  · rw [e, if_pos (by rw [J_le (by omega) (by omega) (by omega) (by omega)]; omega)]
  · obtain ⟨t, et⟩ := he.resolve_left e
    have hv : l[pre.length + r]? = some 0 := by
      rw [hl, List.getElem?_append_right (by omega), show pre.length + r - pre.length = r by omega, List.getElem?_append_right (by rw [lb_len]; omega), lb_len, Nat.sub_self, et]; rfl
    rw [if_neg (by rw [J_le (by omega) (by omega) (by omega) (by omega)]; omega), J_add, Z_bit h (pre.length + r) 0 (by omega) hv, Option.bind_some, if_neg (by decide)]
