-- texts: the reference's fault
def s_cn (o : Nat) (w : Int) (r : RS) : Int32 × RS := if o = 43 then o_put r w else if o = 45 then o_take r w else if o = 98 then o_set r 0 w else o_set r 1 w
def s_carry (px : Nat → Nat) (pl : Nat) : Nat → Nat → Int → RS → Nat → Nat × RS
  | 0, o, w, r, n => if (s_cn o w r).1 < 0 then (n, (s_cn o w r).2) else (n + 1, (s_cn o w r).2)
  | m + 1, o, w, r, n =>
    if isDig (px (pl - (m + 1))) then s_carry px pl m o (w * 10 + ((px (pl - (m + 1)) - 48 : Nat) : Int)) r n
    else if px (pl - (m + 1)) = 44 then (if (s_cn o w r).1 < 0 then (n, (s_cn o w r).2) else s_carry px pl m o 0 (s_cn o w r).2 n)
    else if px (pl - (m + 1)) = 59 then (if (s_cn o w r).1 < 0 then (n, (s_cn o w r).2) else s_carry px pl m o 0 (s_cn o w r).2 (n + 1))
    else s_carry px pl m (px (pl - (m + 1))) w r n
def SP (px : Nat → Nat) (pl m : Nat) (w : Int) : Prop := 0 < m → isDig (px (pl - m)) → ¬ s_wd w (px (pl - m) - 48) ≤ 65535
theorem gd_ok2 {s N : Nat} (h : s < N) (hN : N < 2147483648) : ¬ (J s < 0 ∨ N ≤ s) := by
  rw [L0, J_lt (by omega) (by omega) (by omega) (by omega)]; omega
section FAULT9
variable {px : Nat → Nat} {pl : Nat} {g : Ar}
theorem S_isHere (hv : PV pl px) (hg : RA px pl g) {s a b : Nat} (hs : s ≤ pl) (ha : a < 65536) (hb : b < 65536) : F_X9_isHere (J pl) (J s) g (J a) (J b) = some (if s < pl ∧ a ≤ px s ∧ px s ≤ b then 1 else 0) := by
  have hpl := hv.1
  unfold F_X9_isHere
  rw [jf_le (by omega) (by omega) (by omega) (by omega)]
  by_cases c : s < pl
  · have hc := hv.2 s c
    rw [if_neg (by omega), if_pos (gd_ok (by omega) (by omega) (by omega)), J_ix s rfl (by omega), hg s c, J_K (by omega) (by omega), J_K (by omega) (by omega), J_K (by omega) (by omega), S_in (by omega) (by omega) (by omega) (by omega) (by omega) (by omega), Option.bind_some]
    by_cases c2 : a ≤ px s ∧ px s ≤ b
    · rw [z_t (by omega), if_pos ⟨c, c2⟩]
    · rw [z_f (by omega), if_neg (by omega)]
  · rw [if_pos (by omega), if_neg (by omega)]
theorem S_here_y (hv : PV pl px) (hg : RA px pl g) {s a b : Nat} (hb : b < 65536) (h : s < pl ∧ a ≤ px s ∧ px s ≤ b) : F_X9_isHere (J pl) (J s) g (J a) (J b) = some 1 := by
  have hc := hv.2 s h.1
  rw [S_isHere hv hg (by omega) (by omega) hb, if_pos h]
theorem S_here_n (hv : PV pl px) (hg : RA px pl g) {s a b : Nat} (hs : s ≤ pl) (ha : a < 65536) (hb : b < 65536) (h : ¬ (s < pl ∧ a ≤ px s ∧ px s ≤ b)) : F_X9_isHere (J pl) (J s) g (J a) (J b) = some 0 := by
  rw [S_isHere hv hg hs ha hb, if_neg h]
theorem S_takes_y (hv : PV pl px) (hg : RA px pl g) {s a : Nat} (hs : s < pl) (ha : px s = a) : F_X9_takes (J pl) (J s) g (J a) = some (1, J ((s + 1 : Nat) : Int)) := by
  have hc := hv.2 s hs
  unfold F_X9_takes
  rw [S_here_y hv hg (by omega) ⟨hs, by omega, by omega⟩, Option.bind_some, if_neg (by decide), if_pos (by decide), J_add1]
  rfl
theorem S_takes_n (hv : PV pl px) (hg : RA px pl g) {s a : Nat} (hs : s ≤ pl) (ha : a < 65536) (h : ¬ (s < pl ∧ px s = a)) : F_X9_takes (J pl) (J s) g (J a) = some (0, J s) := by
  unfold F_X9_takes
  rw [S_here_n hv hg hs ha ha (by omega), Option.bind_some, if_pos rfl, if_pos (Or.inl rfl), L0, J_add, Int.add_zero]
theorem S_letter_n (hv : PV pl px) (hg : RA px pl g) {s : Nat} (hs : s ≤ pl) (h : ¬ (s < pl ∧ isOrd (px s))) : F_X9_readsLetter (J pl) (J s) g = some (0, J s) := by
  have hpl := hv.1
  have ez : J s + 0 = J s := by rw [L0, J_add, Int.add_zero]
  unfold F_X9_readsLetter
  rw [jf_le (by omega) (by omega) (by omega) (by omega), ez]
  by_cases c : s < pl
  · have hc := hv.2 s c
    rw [if_neg (by omega), if_pos (gd_ok (by omega) (by omega) (by omega)), J_ix s rfl (by omega), hg s c]
    rw [if_neg (by rw [L43, J_eq (by omega) (by omega) (by omega) (by omega)]; omega), if_pos (gd_ok2 (by omega) (by omega)), if_neg (by rw [L45, J_eq (by omega) (by omega) (by omega) (by omega)]; omega), if_pos (gd_ok2 (by omega) (by omega)), if_neg (by rw [L98, J_eq (by omega) (by omega) (by omega) (by omega)]; omega), if_pos (gd_ok2 (by omega) (by omega)), if_neg (by rw [L111, J_eq (by omega) (by omega) (by omega) (by omega)]; omega)]
  · rw [if_pos (by omega)]
theorem S_letter_y (hv : PV pl px) (hg : RA px pl g) {s : Nat} (hs : s < pl) (h : isOrd (px s)) : F_X9_readsLetter (J pl) (J s) g = some (J (px s), J ((s + 1 : Nat) : Int)) := by
  have hpl := hv.1
  have hc := hv.2 s hs
  have ep : J s + 1 - 1 = J s := by rw [J_add1, J_sub1, Int.add_sub_cancel]
  have eq : J s + 1 = J ((s + 1 : Nat) : Int) := by rw [J_add1]; rfl
  have gd0 : ¬ (J s < 0 ∨ 80 ≤ (J s).toNatClampNeg) := gd_ok (by omega) (by omega) (by omega)
  have gd : ¬ (J s < 0 ∨ 80 ≤ s) := gd_ok2 (by omega) (by omega)
  unfold F_X9_readsLetter
  rw [jf_le (by omega) (by omega) (by omega) (by omega), if_neg (by omega), ep, eq, if_pos gd0, J_ix s rfl (by omega), hg s hs, L43, jf_eq (by omega) (by omega) (by omega) (by omega)]
  by_cases c1 : px s = 43
  · rw [if_pos (by omega), if_pos gd]
  · rw [if_neg (by omega), if_pos gd, L45, jf_eq (by omega) (by omega) (by omega) (by omega)]
    by_cases c2 : px s = 45
    · rw [if_pos (by omega), if_pos gd]
    · rw [if_neg (by omega), if_pos gd, L98, jf_eq (by omega) (by omega) (by omega) (by omega)]
      by_cases c3 : px s = 98
      · rw [if_pos (by omega), if_pos gd]
      · rw [if_neg (by omega), if_pos gd, L111, jf_eq (by omega) (by omega) (by omega) (by omega), if_pos (by omega), if_pos gd]
theorem S_num39 (hv : PV pl px) (hg : RA px pl g) (k : Int32 → Int32 → Option (Int32 × Int32 × Int32)) : ∀ (m fuel : Nat) (w : Int), m ≤ pl → m < fuel → 0 ≤ w → w ≤ 65535 →
    ∃ m' w', m' ≤ m ∧ 0 ≤ w' ∧ w' ≤ 65535 ∧ SP px pl m' w' ∧ (∀ o, o ≠ 0 → s_scan px pl m o w = s_scan px pl m' o w') ∧ (∀ o r n, s_carry px pl m o w r n = s_carry px pl m' o w' r n) ∧ F_X9_readsNumber_L39 (J pl) g k fuel (J ((pl - m : Nat) : Int)) (J w) = k (J ((pl - m' : Nat) : Int)) (J w') := by
  have hpl := hv.1
  intro m
  induction m with
  | zero =>
    intro fuel w hm hf h1 h2
    obtain ⟨fuel, rfl⟩ : ∃ f, fuel = f + 1 := ⟨fuel - 1, by omega⟩
    refine ⟨0, w, Nat.le_refl _, h1, h2, fun h => absurd h (by omega), fun _ _ => rfl, fun _ _ _ => rfl, ?_⟩
    rw [F_X9_readsNumber_L39, show (48 : Int32) = J (48 : Nat) from rfl, show (57 : Int32) = J (57 : Nat) from rfl, S_here_n hv hg (by omega) (by omega) (by omega) (by omega), Option.bind_some, if_pos rfl, ite_self]
  | succ m ih =>
    intro fuel w hm hf h1 h2
    obtain ⟨fuel, rfl⟩ : ∃ f, fuel = f + 1 := ⟨fuel - 1, by omega⟩
    have hc := hv.2 (pl - (m + 1)) (by omega)
    by_cases c : 0 < w ∧ isDig (px (pl - (m + 1))) ∧ 10 * w + px (pl - (m + 1)) - 48 ≤ 65535
    · obtain ⟨c1, c2, c3⟩ := c
      have ew : s_wd w (px (pl - (m + 1)) - 48) = 10 * w + px (pl - (m + 1)) - 48 := by unfold s_wd; rw [if_neg (by omega), if_pos c1]; omega
      obtain ⟨m', w', a1, a2, a3, a4, a5, a6, a7⟩ := ih fuel (10 * w + px (pl - (m + 1)) - 48) (by omega) (by omega) (by omega) c3
      refine ⟨m', w', by omega, a2, a3, a4, fun o ho => ?_, fun o r n => ?_, ?_⟩
      · rw [sc_d ho c2 (by omega), ew]; exact a5 o ho
      · rw [s_carry, if_pos c2, show w * 10 + ((px (pl - (m + 1)) - 48 : Nat) : Int) = 10 * w + px (pl - (m + 1)) - 48 by omega]; exact a6 o r n
      · rw [F_X9_readsNumber_L39, if_neg (by rw [L0, J_le (by omega) (by omega) (by omega) (by omega)]; omega), show (48 : Int32) = J (48 : Nat) from rfl, show (57 : Int32) = J (57 : Nat) from rfl, S_here_y hv hg (by omega) ⟨by omega, c2⟩, Option.bind_some, if_neg (by decide), if_pos (gd_ok (by omega) (by omega) (by omega)), J_ix (pl - (m + 1)) rfl (by omega), hg (pl - (m + 1)) (by omega), L10, J_mul, J_add, J_sub, show (10 * w + (px (pl - (m + 1)) : Int) - ((48 : Nat) : Int)) = 10 * w + px (pl - (m + 1)) - 48 from rfl, if_neg (by rw [L65535, J_lt (by omega) (by omega) (by omega) (by omega)]; omega), if_pos (gd_ok2 (by omega) (by omega)), J_add1, show (((pl - (m + 1) : Nat) : Int) + 1) = ((pl - m : Nat) : Int) by omega]
        exact a7
    · refine ⟨m + 1, w, Nat.le_refl _, h1, h2, fun _ c2 => ?_, fun _ _ => rfl, fun _ _ _ => rfl, ?_⟩
      · unfold s_wd
        by_cases c1 : w = 0
        · rw [if_pos c1]; omega
        · rw [if_neg c1, if_pos (by omega)]; omega
      · rw [F_X9_readsNumber_L39, show (48 : Int32) = J (48 : Nat) from rfl, show (57 : Int32) = J (57 : Nat) from rfl]
        by_cases c1 : 0 < w
        · rw [if_neg (by rw [L0, J_le (by omega) (by omega) (by omega) (by omega)]; omega)]
          by_cases c2 : isDig (px (pl - (m + 1)))
          · rw [S_here_y hv hg (by omega) ⟨by omega, c2⟩, Option.bind_some, if_neg (by decide), if_pos (gd_ok (by omega) (by omega) (by omega)), J_ix (pl - (m + 1)) rfl (by omega), hg (pl - (m + 1)) (by omega), L10, J_mul, J_add, J_sub, show (10 * w + (px (pl - (m + 1)) : Int) - ((48 : Nat) : Int)) = 10 * w + px (pl - (m + 1)) - 48 from rfl, if_pos (by rw [L65535, J_lt (by omega) (by omega) (by omega) (by omega)]; omega)]
          · rw [S_here_n hv hg (by omega) (by omega) (by omega) (by omega), Option.bind_some, if_pos rfl]
        · rw [if_pos (by rw [L0, J_le (by omega) (by omega) (by omega) (by omega)]; omega)]
theorem S_num_n (hv : PV pl px) (hg : RA px pl g) {s : Nat} (hs : s ≤ pl) (h : ¬ (s < pl ∧ isDig (px s))) (rn : Int32) : F_X9_readsNumber (J pl) (J s) rn g = some (0, J s, rn) := by
  unfold F_X9_readsNumber
  rw [show (48 : Int32) = J (48 : Nat) from rfl, show (57 : Int32) = J (57 : Nat) from rfl, S_here_n hv hg hs (by omega) (by omega) h, Option.bind_some, if_pos rfl]
theorem S_num_y (hv : PV pl px) (hg : RA px pl g) {m : Nat} (hm : m + 1 ≤ pl) (h : isDig (px (pl - (m + 1)))) (rn : Int32) :
    ∃ m' w', m' ≤ m ∧ 0 ≤ w' ∧ w' ≤ 65535 ∧ SP px pl m' w' ∧ (∀ o, o ≠ 0 → s_scan px pl (m + 1) o (-1) = s_scan px pl m' o w') ∧ (∀ o r n, s_carry px pl (m + 1) o 0 r n = s_carry px pl m' o w' r n) ∧ F_X9_readsNumber (J pl) (J ((pl - (m + 1) : Nat) : Int)) rn g = some (1, J ((pl - m' : Nat) : Int), J w') := by
  have hpl := hv.1
  obtain ⟨f2, hf2⟩ := zFuel_ge (n := 85) (by omega)
  obtain ⟨m', w', a1, a2, a3, a4, a5, a6, a7⟩ := S_num39 hv hg (fun v_padSpot_12 v_readNumber_13 => (some (1, v_padSpot_12, v_readNumber_13))) m (f2 + 85) ((px (pl - (m + 1)) : Int) - 48) (by omega) (by omega) (by omega) (by omega)
  have ew : s_wd (-1) (px (pl - (m + 1)) - 48) = (px (pl - (m + 1)) : Int) - 48 := by unfold s_wd; rw [if_neg (by omega), if_neg (by omega)]; omega
  refine ⟨m', w', a1, a2, a3, a4, fun o ho => ?_, fun o r n => ?_, ?_⟩
  · rw [sc_d ho h (by omega), ew]; exact a5 o ho
  · rw [s_carry, if_pos h, show 0 * 10 + ((px (pl - (m + 1)) - 48 : Nat) : Int) = (px (pl - (m + 1)) : Int) - 48 by omega]; exact a6 o r n
  · unfold F_X9_readsNumber
    rw [show (48 : Int32) = J (48 : Nat) from rfl, show (57 : Int32) = J (57 : Nat) from rfl, S_here_y hv hg (by omega) ⟨by omega, h⟩, Option.bind_some, if_neg (by decide), if_pos (gd_ok (by omega) (by omega) (by omega)), J_ix (pl - (m + 1)) rfl (by omega), hg (pl - (m + 1)) (by omega), J_sub, hf2, J_add1, show (((pl - (m + 1) : Nat) : Int) + 1) = ((pl - m : Nat) : Int) by omega]
    exact a7
end FAULT9
