-- texts: carrying out, both sides
theorem le_0 {a : Int32} : 0 ≤ a ↔ ¬ a < 0 := by rw [Int32.le_iff_toInt_le, Int32.lt_iff_toInt_lt]; omega
theorem s_cn_v {r : RS} (h : RSv r) (o : Nat) (w : Int) : RSv (s_cn o w r).2 ∧ ((s_cn o w r).1 < 0 → (s_cn o w r).2 = r) := by
  unfold s_cn
  split
  · exact o_put_v h w
  · split
    · exact o_take_v h w
    · split
      · exact o_set_v h 0 w
      · exact o_set_v h 1 w
section CARRY
variable {px : Nat → Nat} {pl : Nat}
theorem cy_0 {o : Nat} {w : Int} {r : RS} {n : Nat} : s_carry px pl 0 o w r n = if (s_cn o w r).1 < 0 then (n, (s_cn o w r).2) else (n + 1, (s_cn o w r).2) := by rw [s_carry]
theorem cy_d {m o : Nat} {w : Int} {r : RS} {n : Nat} (h : isDig (px (pl - (m + 1)))) : s_carry px pl (m + 1) o w r n = s_carry px pl m o (w * 10 + ((px (pl - (m + 1)) - 48 : Nat) : Int)) r n := by rw [s_carry, if_pos h]
theorem cy_c {m o : Nat} {w : Int} {r : RS} {n : Nat} (h : px (pl - (m + 1)) = 44) : s_carry px pl (m + 1) o w r n = if (s_cn o w r).1 < 0 then (n, (s_cn o w r).2) else s_carry px pl m o 0 (s_cn o w r).2 n := by rw [s_carry, if_neg (by omega), if_pos h]
theorem cy_s {m o : Nat} {w : Int} {r : RS} {n : Nat} (h : px (pl - (m + 1)) = 59) : s_carry px pl (m + 1) o w r n = if (s_cn o w r).1 < 0 then (n, (s_cn o w r).2) else s_carry px pl m o 0 (s_cn o w r).2 (n + 1) := by rw [s_carry, if_neg (by omega), if_neg (by omega), if_pos h]
theorem cy_o {m o : Nat} {w : Int} {r : RS} {n : Nat} (h : isOrd (px (pl - (m + 1)))) : s_carry px pl (m + 1) o w r n = s_carry px pl m (px (pl - (m + 1))) w r n := by rw [s_carry, if_neg (by omega), if_neg (by omega), if_neg (by omega)]
theorem cy_le : ∀ (m o : Nat) (w : Int) (r : RS) (n : Nat), (s_carry px pl m o w r n).1 ≤ n + m + 1 := by
  intro m
  induction m with
  | zero =>
    intro o w r n
    rw [cy_0]
    split
    · show n ≤ _; omega
    · show n + 1 ≤ _; omega
  | succ m ih =>
    intro o w r n
    rw [s_carry]
    split
    · have := ih o (w * 10 + ((px (pl - (m + 1)) - 48 : Nat) : Int)) r n; omega
    · split
      · split
        · show n ≤ _; omega
        · have := ih o 0 (s_cn o w r).2 n; omega
      · split
        · split
          · show n ≤ _; omega
          · have := ih o 0 (s_cn o w r).2 (n + 1); omega
        · have := ih (px (pl - (m + 1))) w r n; omega
theorem S_carryNumber {r : RS} (hv : RSv r) {gn : Ar} (hg : RA r.1 r.2.1 gn) {o : Nat} (ho : o < 65536) {w : Int} (hw : -2147483648 ≤ w ∧ w < 2147483648) :
    ∃ gn', RA (s_cn o w r).2.1 (s_cn o w r).2.2.1 gn' ∧ F_X8_carryNumber (J r.2.1) (J r.2.2.1) (J r.2.2.2) gn (J o) (J w) = some ((s_cn o w r).1, J (s_cn o w r).2.2.1, J (s_cn o w r).2.2.2.1, J (s_cn o w r).2.2.2.2, gn') := by
  unfold F_X8_carryNumber s_cn
  rw [L43, L45, L98, jf_eq (by omega) (by omega) (by omega) (by omega), jf_eq (by omega) (by omega) (by omega) (by omega), jf_eq (by omega) (by omega) (by omega) (by omega)]
  by_cases c1 : o = 43
  · rw [if_pos (show (o : Int) = 43 by omega), if_pos c1]
    obtain ⟨gn', k1, k2⟩ := S_put8 hv hg hw
    rw [k2, Option.bind_some]
    exact ⟨gn', k1, rfl⟩
  · rw [if_neg (show ¬ (o : Int) = 43 by omega), if_neg c1]
    by_cases c2 : o = 45
    · rw [if_pos (show (o : Int) = 45 by omega), if_pos c2]
      obtain ⟨gn', k1, k2⟩ := S_take8 hv hg hw
      rw [k2, Option.bind_some]
      exact ⟨gn', k1, rfl⟩
    · rw [if_neg (show ¬ (o : Int) = 45 by omega), if_neg c2]
      by_cases c3 : o = 98
      · rw [if_pos (show (o : Int) = 98 by omega), if_pos c3, L0, S_set8 (by omega) hw, Option.bind_some]
        exact ⟨gn, hg, rfl⟩
      · rw [if_neg (show ¬ (o : Int) = 98 by omega), if_neg c3, L1, S_set8 (by omega) hw, Option.bind_some]
        exact ⟨gn, hg, rfl⟩
theorem S_orders9 (hv : PV pl px) {g : Ar} (hg : RA px pl g) : ∀ (m fuel os o : Nat) (ws w : Int) (r : RS) (n : Nat) (gn : Ar) (i4 : Int32), m ≤ pl → m + 2 ≤ fuel → o ≤ 126 → -1 ≤ ws → ws ≤ 65535 → (os = o ∨ os = 0) → w = (if ws < 0 ∨ os = 0 then 0 else ws) → s_scan px pl m os ws = -6 → RSv r → RA r.1 r.2.1 gn → i4 = J ((pl - m : Nat) : Int) →
    ∃ gn', RSv (s_carry px pl m o w r n).2 ∧ RA (s_carry px pl m o w r n).2.1 (s_carry px pl m o w r n).2.2.1 gn' ∧
    F_X8_carryOrders_L9 (J pl) g (fun n_17 bs_18 on_19 gn_20 i1_21 => (some (i1_21, n_17, bs_18, on_19, gn_20))) fuel (J r.2.1) (J r.2.2.1) (J r.2.2.2) gn (J n) (J o) (J w) i4 = some (J (s_carry px pl m o w r n).1, J (s_carry px pl m o w r n).2.2.1, J (s_carry px pl m o w r n).2.2.2.1, J (s_carry px pl m o w r n).2.2.2.2, gn') := by
  have hpl := hv.1
  have en1 : ∀ n : Nat, J n + 1 = J ((n + 1 : Nat) : Int) := fun n => by rw [J_add1]; rfl
  have en0 : ∀ n : Nat, J n + 0 = J n := fun n => by rw [L0, J_add, Int.add_zero]
  intro m
  induction m with
  | zero =>
    intro fuel os o ws w r n gn i4 hm hf ho h1 h2 hos hw hsc hr hra e
    obtain ⟨fuel, rfl⟩ : ∃ f, fuel = f + 2 := ⟨fuel - 2, by omega⟩
    have hq : ¬ (os = 0 ∨ ws < 0) := by
      intro h
      rw [sc_0, if_pos h] at hsc
      omega
    obtain rfl : os = o := by omega
    rw [if_neg (by omega)] at hw
    obtain ⟨gn', k1, k2⟩ := S_carryNumber hr hra (o := os) (by omega) (w := w) (by omega)
    have k3 := (s_cn_v hr os w).1
    have es : F_X3_signOrEnd (J pl) g (J pl) = some 59 := by unfold F_X3_signOrEnd; rw [if_pos (by rw [J_le (by omega) (by omega) (by omega) (by omega)]; omega)]
    have e1 : i4 + 1 = J ((pl + 1 : Nat) : Int) := by rw [e, J_add1]; rfl
    rw [F_X8_carryOrders_L9, e1, e, if_neg (by rw [J_lt (by omega) (by omega) (by omega) (by omega)]; omega), Nat.sub_zero, es, Option.bind_some, show (59 : Int32) = J (59 : Nat) from rfl, S_isDigit (by omega), Option.bind_some, z_f (by decide), if_neg (by decide), if_pos rfl, k2, Option.bind_some, cy_0]
    by_cases c : (s_cn os w r).1 < 0
    · rw [if_pos c, if_neg (fun h => (le_0.1 h) c)]
      exact ⟨gn', k3, k1, rfl⟩
    · rw [if_neg c, if_pos (le_0.2 c), if_pos rfl, F_X8_carryOrders_L9, if_pos (by rw [J_lt (by omega) (by omega) (by omega) (by omega)]; omega), en1]
      exact ⟨gn', k3, k1, rfl⟩
  | succ m ih =>
    intro fuel os o ws w r n gn i4 hm hf ho h1 h2 hos hw hsc hr hra e
    obtain ⟨fuel, rfl⟩ : ∃ f, fuel = f + 1 := ⟨fuel - 1, by omega⟩
    have hc := hv.2 (pl - (m + 1)) (by omega)
    have es : F_X3_signOrEnd (J pl) g (J ((pl - (m + 1) : Nat) : Int)) = some (J (px (pl - (m + 1)))) := by
      unfold F_X3_signOrEnd
      rw [if_neg (by rw [J_le (by omega) (by omega) (by omega) (by omega)]; omega), S_read (pl - (m + 1)) rfl (by omega) (by omega), Option.bind_some, hg (pl - (m + 1)) (by omega)]
    have e1 : i4 + 1 = J ((pl - m : Nat) : Int) := by rw [e, J_add1]; congr 1; omega
    rw [F_X8_carryOrders_L9, e1, e, if_neg (by rw [J_lt (by omega) (by omega) (by omega) (by omega)]; omega), es, Option.bind_some, S_isDigit (by omega), Option.bind_some, en1, en0, L44, L59, jf_eq (by omega) (by omega) (by omega) (by omega), jf_eq (by omega) (by omega) (by omega) (by omega)]
    by_cases c0 : os = 0
    · have c1 : isOrd (px (pl - (m + 1))) := by
        apply Decidable.byContradiction
        intro h
        rw [c0, sc_on h] at hsc
        omega
      rw [z_f (by omega), if_neg (by omega), if_neg (by omega), cy_o c1]
      rw [c0, sc_o c1] at hsc
      rw [if_pos (Or.inr c0)] at hw
      exact ih fuel (px (pl - (m + 1))) (px (pl - (m + 1))) (-1) w r n gn _ (by omega) (by omega) (by omega) (by omega) (by omega) (Or.inl rfl) (by rw [if_pos (by omega)]; exact hw) hsc hr hra rfl
    · obtain rfl : os = o := by omega
      by_cases c1 : isDig (px (pl - (m + 1)))
      · have hw2 := S_withDigit (w := ws) (d := px (pl - (m + 1)) - 48) h1 h2 (by omega)
        have c2 : s_wd ws (px (pl - (m + 1)) - 48) ≤ 65535 := by
          apply Decidable.byContradiction
          intro h
          rw [sc_dn c0 c1 h] at hsc
          omega
        have ew : w * 10 + ((px (pl - (m + 1)) - 48 : Nat) : Int) = s_wd ws (px (pl - (m + 1)) - 48) := by
          unfold s_wd at c2 ⊢
          by_cases q : ws = 0
          · rw [if_pos q] at c2; omega
          · rw [if_neg q]
            by_cases q2 : ws < 0
            · rw [if_neg (by omega), hw, if_pos (Or.inl q2)]
            · rw [if_pos (by omega), hw, if_neg (by omega)]
        rw [z_t c1, cy_d c1, L10, J_mul, L48, J_sub, J_add, show w * 10 + ((px (pl - (m + 1)) : Int) - 48) = w * 10 + ((px (pl - (m + 1)) - 48 : Nat) : Int) by omega, ew]
        rw [sc_d c0 c1 c2] at hsc
        exact ih fuel os os (s_wd ws (px (pl - (m + 1)) - 48)) _ r n gn _ (by omega) (by omega) (by omega) (by omega) (by omega) (Or.inl rfl) (by rw [if_neg (by omega)]) hsc hr hra rfl
      · have c2 : ¬ ws < 0 := by
          intro h
          rw [sc_n c0 c1 h] at hsc
          omega
        rw [if_neg (by omega)] at hw
        obtain ⟨gn', k1, k2⟩ := S_carryNumber hr hra (o := os) (by omega) (w := w) (by omega)
        have k3 := (s_cn_v hr os w).1
        rw [z_f c1]
        by_cases c3 : px (pl - (m + 1)) = 59
        · rw [sc_s c0 c2 c3] at hsc
          rw [if_neg (by omega), if_pos (by omega), k2, Option.bind_some, cy_s c3]
          by_cases c : (s_cn os w r).1 < 0
          · rw [if_pos c, if_neg (fun h => (le_0.1 h) c)]
            exact ⟨gn', k3, k1, rfl⟩
          · rw [if_neg c, if_pos (le_0.2 c), if_pos (show J (px (pl - (m + 1))) = J 59 by rw [c3]; rfl)]
            exact ih fuel 0 os ws 0 (s_cn os w r).2 (n + 1) gn' _ (by omega) (by omega) (by omega) (by omega) (by omega) (Or.inr rfl) (by rw [if_pos (Or.inr rfl)]) hsc k3 k1 rfl
        · by_cases c4 : px (pl - (m + 1)) = 44 ∧ os = 43
          · rw [sc_c c2 c4.1 c4.2] at hsc
            rw [if_pos (by omega), k2, Option.bind_some, cy_c c4.1]
            by_cases c : (s_cn os w r).1 < 0
            · rw [if_pos c, if_neg (fun h => (le_0.1 h) c)]
              exact ⟨gn', k3, k1, rfl⟩
            · rw [if_neg c, if_pos (le_0.2 c), if_neg (show ¬ J (px (pl - (m + 1))) = J 59 by rw [J_eq (by omega) (by omega) (by omega) (by omega)]; omega)]
              exact ih fuel os os (-1) 0 (s_cn os w r).2 n gn' _ (by omega) (by omega) (by omega) (by omega) (by omega) (Or.inl rfl) (by rw [if_pos (by omega)]) hsc k3 k1 rfl
          · rw [sc_x c0 c1 c2 c3 c4] at hsc
            omega
end CARRY
