-- texts: the scan, and fault on both sides
abbrev isDig (c : Nat) : Prop := 48 ≤ c ∧ c ≤ 57
abbrev isOrd (c : Nat) : Prop := c = 43 ∨ c = 45 ∨ c = 98 ∨ c = 111
def s_wd (w : Int) (d : Nat) : Int := if w = 0 then 65536 else (if 0 < w then w else 0) * 10 + d
def s_scan (px : Nat → Nat) (pl : Nat) : Nat → Nat → Int → Int
  | 0, o, w => if o = 0 ∨ w < 0 then pl else -6
  | m + 1, o, w =>
    if o = 0 then (if isOrd (px (pl - (m + 1))) then s_scan px pl m (px (pl - (m + 1))) (-1) else ((pl - (m + 1) : Nat) : Int))
    else if isDig (px (pl - (m + 1))) then (if s_wd w (px (pl - (m + 1)) - 48) ≤ 65535 then s_scan px pl m o (s_wd w (px (pl - (m + 1)) - 48)) else ((pl - (m + 1) : Nat) : Int))
    else if w < 0 then ((pl - (m + 1) : Nat) : Int)
    else if px (pl - (m + 1)) = 59 then s_scan px pl m 0 w
    else if px (pl - (m + 1)) = 44 ∧ o = 43 then s_scan px pl m o (-1)
    else ((pl - (m + 1) : Nat) : Int)
section SCAN
variable {px : Nat → Nat} {pl : Nat}
theorem sc_0 {o : Nat} {w : Int} : s_scan px pl 0 o w = if o = 0 ∨ w < 0 then (pl : Int) else -6 := by rw [s_scan]
theorem sc_o {m : Nat} {w : Int} (h : isOrd (px (pl - (m + 1)))) : s_scan px pl (m + 1) 0 w = s_scan px pl m (px (pl - (m + 1))) (-1) := by rw [s_scan, if_pos rfl, if_pos h]
theorem sc_on {m : Nat} {w : Int} (h : ¬ isOrd (px (pl - (m + 1)))) : s_scan px pl (m + 1) 0 w = ((pl - (m + 1) : Nat) : Int) := by rw [s_scan, if_pos rfl, if_neg h]
theorem sc_d {m o : Nat} {w : Int} (h0 : o ≠ 0) (h : isDig (px (pl - (m + 1)))) (h2 : s_wd w (px (pl - (m + 1)) - 48) ≤ 65535) : s_scan px pl (m + 1) o w = s_scan px pl m o (s_wd w (px (pl - (m + 1)) - 48)) := by rw [s_scan, if_neg h0, if_pos h, if_pos h2]
theorem sc_dn {m o : Nat} {w : Int} (h0 : o ≠ 0) (h : isDig (px (pl - (m + 1)))) (h2 : ¬ s_wd w (px (pl - (m + 1)) - 48) ≤ 65535) : s_scan px pl (m + 1) o w = ((pl - (m + 1) : Nat) : Int) := by rw [s_scan, if_neg h0, if_pos h, if_neg h2]
theorem sc_n {m o : Nat} {w : Int} (h0 : o ≠ 0) (h : ¬ isDig (px (pl - (m + 1)))) (h2 : w < 0) : s_scan px pl (m + 1) o w = ((pl - (m + 1) : Nat) : Int) := by rw [s_scan, if_neg h0, if_neg h, if_pos h2]
theorem sc_s {m o : Nat} {w : Int} (h0 : o ≠ 0) (h2 : ¬ w < 0) (h3 : px (pl - (m + 1)) = 59) : s_scan px pl (m + 1) o w = s_scan px pl m 0 w := by rw [s_scan, if_neg h0, if_neg (by omega), if_neg h2, if_pos h3]
theorem sc_c {m o : Nat} {w : Int} (h2 : ¬ w < 0) (h3 : px (pl - (m + 1)) = 44) (h4 : o = 43) : s_scan px pl (m + 1) o w = s_scan px pl m o (-1) := by rw [s_scan, if_neg (by omega), if_neg (by omega), if_neg h2, if_neg (by omega), if_pos ⟨h3, h4⟩]
theorem sc_x {m o : Nat} {w : Int} (h0 : o ≠ 0) (h : ¬ isDig (px (pl - (m + 1)))) (h2 : ¬ w < 0) (h3 : ¬ px (pl - (m + 1)) = 59) (h4 : ¬ (px (pl - (m + 1)) = 44 ∧ o = 43)) : s_scan px pl (m + 1) o w = ((pl - (m + 1) : Nat) : Int) := by rw [s_scan, if_neg h0, if_neg h, if_neg h2, if_neg h3, if_neg h4]
theorem sc_w0 (m : Nat) (w w' : Int) : s_scan px pl m 0 w = s_scan px pl m 0 w' := by
  cases m with
  | zero => rw [sc_0, sc_0, if_pos (Or.inl rfl), if_pos (Or.inl rfl)]
  | succ m =>
    by_cases c : isOrd (px (pl - (m + 1)))
    · rw [sc_o c, sc_o c]
    · rw [sc_on c, sc_on c]
theorem S_isOrder {c : Nat} (h : c < 65536) : F_X3_isOrder (J c) = some (if isOrd c then 1 else 0) := by
  unfold F_X3_isOrder
  rw [L43, L45, L98, L111, jf_eq (by omega) (by omega) (by omega) (by omega), jf_eq (by omega) (by omega) (by omega) (by omega), jf_eq (by omega) (by omega) (by omega) (by omega), jf_eq (by omega) (by omega) (by omega) (by omega)]
  by_cases c1 : c = 43
  · rw [if_pos (by omega), if_pos (Or.inl c1)]
  · rw [if_neg (by omega)]
    by_cases c2 : c = 45
    · rw [if_pos (by omega), if_pos (Or.inr (Or.inl c2))]
    · rw [if_neg (by omega)]
      by_cases c3 : c = 98
      · rw [if_pos (by omega), if_pos (Or.inr (Or.inr (Or.inl c3)))]
      · rw [if_neg (by omega)]
        by_cases c4 : c = 111
        · rw [if_pos (by omega), if_pos (Or.inr (Or.inr (Or.inr c4)))]
        · rw [if_neg (by omega), if_neg (by omega)]
theorem S_isDigit {c : Nat} (h : c < 65536) : F_X8_isDigit (J c) = some (if isDig c then 1 else 0) := by
  unfold F_X8_isDigit
  rw [L48, L57, jf_lt (by omega) (by omega) (by omega) (by omega), jf_lt (by omega) (by omega) (by omega) (by omega)]
  by_cases c1 : c < 48
  · rw [if_pos (by omega), if_neg (by omega)]
  · rw [if_neg (by omega)]
    by_cases c2 : 57 < c
    · rw [if_pos (by omega), if_neg (by omega)]
    · rw [if_neg (by omega), if_pos (by omega)]
theorem S_withDigit {w : Int} {d : Nat} (h1 : -1 ≤ w) (h2 : w ≤ 65535) (h : d < 10) : F_X3_withDigit (J w) (J d) = some (J (s_wd w d)) ∧ -1 ≤ s_wd w d ∧ s_wd w d ≤ 655360 ∧ 0 ≤ s_wd w d := by
  unfold F_X3_withDigit s_wd
  rw [L0, jf_eq (by omega) (by omega) (by omega) (by omega), jf_lt (by omega) (by omega) (by omega) (by omega)]
  by_cases c : w = 0
  · rw [if_pos c, if_pos c]; exact ⟨rfl, by omega, by omega, by omega⟩
  · rw [if_neg c, if_neg c]
    by_cases c1 : 0 < w
    · rw [if_pos c1, if_pos c1, L10, J_mul, J_add]; exact ⟨rfl, by omega, by omega, by omega⟩
    · rw [if_neg c1, if_neg c1, L10, J_mul, J_add]; exact ⟨rfl, by omega, by omega, by omega⟩
theorem S_fault6 (hv : PV pl px) {g : Ar} (hg : RA px pl g) : ∀ (m fuel o : Nat) (w : Int) (i3 : Int32), m ≤ pl → m < fuel → o ≤ 126 → -1 ≤ w → w ≤ 65535 → i3 = J ((pl - m : Nat) : Int) →
    F_X3_faultPlace_L6 (J pl) g (fun i1_22 i2_23 => (if i1_22 = 0 then (some (J pl)) else (if i2_23 < 0 then (some (J pl)) else (some (-6))))) fuel (J o) (J w) i3 = some (J (s_scan px pl m o w)) := by
  have hpl := hv.1
  have hJ0 : ∀ {o : Nat} {α : Type} {a b : α}, o ≤ 126 → (if J o = 0 then a else b) = if o = 0 then a else b := by
    intro o α a b h
    rw [L0, jf_eq (by omega) (by omega) (by omega) (by omega)]
    exact jf (by omega)
  have hJn : ∀ {w : Int} {α : Type} {a b : α}, -1 ≤ w → w ≤ 65535 → (if J w < 0 then a else b) = if w < 0 then a else b := by
    intro w α a b h1 h2
    rw [L0, jf_lt (by omega) (by omega) (by omega) (by omega)]
  intro m
  induction m with
  | zero =>
    intro fuel o w i3 hm hf ho h1 h2 e
    obtain ⟨fuel, rfl⟩ : ∃ f, fuel = f + 1 := ⟨fuel - 1, by omega⟩
    rw [F_X3_faultPlace_L6, e, if_pos (by rw [J_le (by omega) (by omega) (by omega) (by omega)]; omega), hJ0 ho, hJn h1 h2, sc_0]
    by_cases c : o = 0
    · rw [if_pos c, if_pos (Or.inl c)]
    · rw [if_neg c]
      by_cases c2 : w < 0
      · rw [if_pos c2, if_pos (Or.inr c2)]
      · rw [if_neg c2, if_neg (by omega)]; rfl
  | succ m ih =>
    intro fuel o w i3 hm hf ho h1 h2 e
    obtain ⟨fuel, rfl⟩ : ∃ f, fuel = f + 1 := ⟨fuel - 1, by omega⟩
    have hc := hv.2 (pl - (m + 1)) (by omega)
    have e1 : i3 + 1 = J ((pl - m : Nat) : Int) := by rw [e, J_add1]; congr 1; omega
    rw [F_X3_faultPlace_L6, e1, e, if_neg (by rw [J_le (by omega) (by omega) (by omega) (by omega)]; omega), S_read (pl - (m + 1)) rfl (by omega) (by omega), Option.bind_some, hg (pl - (m + 1)) (by omega), hJ0 ho, S_isOrder (by omega), Option.bind_some, S_isDigit (by omega), Option.bind_some, L59, L44, jf_eq (by omega) (by omega) (by omega) (by omega), jf_eq (by omega) (by omega) (by omega) (by omega), L43, jf_eq (by omega) (by omega) (by omega) (by omega), hJn h1 h2, hJn h1 h2]
    by_cases c0 : o = 0
    · rw [if_pos c0]
      by_cases c1 : isOrd (px (pl - (m + 1)))
      · rw [z_t c1, c0, sc_o c1]
        exact ih fuel (px (pl - (m + 1))) (-1) _ (by omega) (by omega) (by omega) (by omega) (by omega) rfl
      · rw [z_f c1, c0, sc_on c1]
    · rw [if_neg c0]
      by_cases c1 : isDig (px (pl - (m + 1)))
      · have hw := S_withDigit (w := w) (d := px (pl - (m + 1)) - 48) h1 h2 (by omega)
        rw [z_t c1, L48, J_sub, show ((px (pl - (m + 1)) : Int) - 48) = ((px (pl - (m + 1)) - 48 : Nat) : Int) by omega, hw.1, Option.bind_some, L65535, jf_le (by omega) (by omega) (by omega) (by omega)]
        by_cases c2 : s_wd w (px (pl - (m + 1)) - 48) ≤ 65535
        · rw [if_pos c2, sc_d c0 c1 c2]
          exact ih fuel _ _ _ (by omega) (by omega) ho (by omega) (by omega) rfl
        · rw [if_neg c2, sc_dn c0 c1 c2]
      · rw [z_f c1]
        by_cases c2 : w < 0
        · rw [if_pos c2, if_pos c2, sc_n c0 c1 c2]
        · rw [if_neg c2]
          by_cases c3 : px (pl - (m + 1)) = 59
          · rw [if_pos (by omega), sc_s c0 c2 c3]
            exact ih fuel 0 _ _ (by omega) (by omega) (by omega) (by omega) (by omega) rfl
          · rw [if_neg (by omega), if_neg c2]
            by_cases c4 : px (pl - (m + 1)) = 44
            · rw [if_pos (by omega)]
              by_cases c5 : o = 43
              · rw [if_pos (by omega), sc_c c2 c4 c5]
                exact ih fuel _ (-1) _ (by omega) (by omega) (by omega) (by omega) (by omega) rfl
              · rw [if_neg (by omega), sc_x c0 c1 c2 c3 (by omega)]
            · rw [if_neg (by omega), sc_x c0 c1 c2 c3 (by omega)]
theorem S_faultPlace (hv : PV pl px) {g : Ar} (hg : RA px pl g) : F_X3_faultPlace (J pl) g = some (J (s_scan px pl pl 0 (-1))) := by
  have hpl := hv.1
  obtain ⟨f2, hf2⟩ := zFuel_ge (n := 85) (by omega)
  unfold F_X3_faultPlace
  rw [hf2]
  exact S_fault6 hv hg pl (f2 + 85) 0 (-1) 0 (Nat.le_refl _) (by omega) (by omega) (by omega) (by omega) (by rw [Nat.sub_self]; rfl)
end SCAN
