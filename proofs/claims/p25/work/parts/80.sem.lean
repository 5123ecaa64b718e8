-- the law answers 1
section LAW
variable {r : RS} {hl : Nat} {hs : Nat → RS} {ge : Ar} {pl : Int32} {gs gk : Ar} {sl : Int32} {g : Ar} {vf vl : Int32} {gh : Ar} {n bs on : Int32} {gn ts : Ar}
theorem CR.coded (H : CR r hl hs ge pl gs gk sl g vf vl gh n bs on gn) (p : Nat) (c1 c2 c3 c4 : Int32) : ∃ d1 d2 d3 d4, F_L_isCoded ge gs gk sl c1 c2 c3 c4 g vl (J p) n bs on gn = some (1, d1, d2, d3, d4) := by
  obtain ⟨f, -, -, e, -⟩ := H.hc
  rw [H.en, H.eb, H.eo, e]
  exact Z_isCoded H.v H.ra H.co hl p c1 c2 c3 c4
theorem CR.least (H : CR r hl hs ge pl gs gk sl g vf vl gh n bs on gn) (hts : PZ ts) (p : Nat) (c1 c2 c3 c4 tl i1 : Int32) : ∃ d1 d2 d3 d4 tl' ts', PZ ts' ∧ F_L_isLeast ge pl gs gk sl c1 c2 c3 c4 g vl (J p) n bs on gn tl ts i1 = some (1, d1, d2, d3, d4, tl', ts') := by
  obtain ⟨f, -, -, e, -⟩ := H.hc
  rw [H.en, H.eb, H.eo, e]
  exact Z_isLeast H.v H.ra H.co hts hl p c1 c2 c3 c4 tl i1
end LAW
theorem Z_law {xs : Nat → Int32} {L : Nat} (hL : L ≤ 260) : ∀ (m fuel i : Nat) (r : RS) (hl : Nat) (hs : Nat → RS) (ge : Ar) (pl : Int32) (gs gk : Ar) (sl c1 c2 c3 c4 : Int32) (g : Ar) (vf vl : Int32) (gh : Ar) (n bs on : Int32) (gn : Ar) (tl : Int32) (ts : Ar) (i3 : Int32), i + m = 48 → m < fuel → i3 = J i → CR r hl hs ge pl gs gk sl g vf vl gh n bs on gn → PZ ts →
    F_L_law_L12 xs L (J ((0 : Nat) : Int)) fuel ge pl gs gk sl c1 c2 c3 c4 g vf vl gh n bs on gn tl ts 1 i3 = some 1 := by
  intro m
  induction m with
  | zero =>
    intro fuel i r hl hs ge pl gs gk sl c1 c2 c3 c4 g vf vl gh n bs on gn tl ts i3 hi hf e H hts
    obtain ⟨fuel, rfl⟩ : ∃ f, fuel = f + 1 := ⟨fuel - 1, by omega⟩
    obtain ⟨v, ev⟩ : ∃ v, F_L_cell xs L 48 = some v := S_cell xs (i := 48) hL (Nat.le_refl _)
    obtain ⟨d1, d2, d3, d4, ec⟩ := H.coded 0 c1 c2 c3 c4
    obtain ⟨a1, a2, a3, a4, tl', ts', -, el⟩ := H.least hts 0 d1 d2 d3 d4 tl v
    rw [F_L_law_L12, e, L48, if_pos (by rw [J_le (by omega) (by omega) (by omega) (by omega)]; omega)]
    unfold F_L_law_J67L12
    rw [if_neg (by decide), ec, Option.bind_some, if_neg (show ¬ (1 : Int32) = 0 by decide), ev, Option.bind_some, el, Option.bind_some, if_neg (show ¬ (1 : Int32) = 0 by decide)]
  | succ m ih =>
    intro fuel i r hl hs ge pl gs gk sl c1 c2 c3 c4 g vf vl gh n bs on gn tl ts i3 hi hf e H hts
    obtain ⟨fuel, rfl⟩ : ∃ f, fuel = f + 1 := ⟨fuel - 1, by omega⟩
    obtain ⟨v, ev⟩ := S_cell xs (i := i) hL (by omega)
    obtain ⟨r', hl', hs', ge', pl', gs', gk', sl', d1, d2, d3, d4, g', vf', vl', gh', n', bs', on', gn', tl', ts', H', hts', es⟩ := Z_isStep H hts 0 c1 c2 c3 c4 tl v
    obtain ⟨b1, b2, b3, b4, tl2, ts2, hts2, el⟩ := H'.least hts' 0 d1 d2 d3 d4 tl' (v >>> (5 &&& 31))
    have e1 : J i + 1 = J ((i + 1 : Nat) : Int) := by rw [J_add1]; norm_cast
    rw [F_L_law_L12, e, L48, if_neg (by rw [J_le (by omega) (by omega) (by omega) (by omega)]; omega), if_neg (by decide), ev, Option.bind_some, es, Option.bind_some, if_neg (show ¬ (1 : Int32) = 0 by decide), e1]
    by_cases c : 0 < J (i : Int) - J (i : Int) / 6 * 6
    · rw [if_pos c]
      exact ih fuel (i + 1) _ _ _ _ _ _ _ _ _ _ _ _ _ _ _ _ _ _ _ _ _ _ _ (by omega) (by omega) rfl H' hts'
    · rw [if_neg c, Option.bind_some, el, Option.bind_some, if_neg (show ¬ (1 : Int32) = 0 by decide)]
      exact ih fuel (i + 1) _ _ _ _ _ _ _ _ _ _ _ _ _ _ _ _ _ _ _ _ _ _ _ (by omega) (by omega) rfl H' hts2
theorem CO_new : CO (fun _ => 0) 0 4 8 (fun _ => 0) 0 (fun _ => 0) (fun _ => 0) 0 (fun _ => 0) := by
  have e : s_nb 0 4 = 0 := by decide
  refine ⟨fun b hb => absurd hb (by rw [e]; omega), rfl, fun e _ => rfl, fun e he p hp => ?_, ?_, ?_⟩
  · obtain rfl : p = 0 := by omega
    rfl
  · unfold s_tot
    rw [e]
    rfl
  · rw [e]
    exact AL.nil _
theorem S_law {xs : Nat → Int32} {L : Nat} (hL : L ≤ 260) : F_L_law_L12 xs L 0 zFuel (fun _ => 0) 0 (fun _ => 0) (fun _ => 0) 0 0 0 0 (-1) (fun _ => 0) 0 0 (fun _ => 0) 0 4 8 (fun _ => 0) 0 (fun _ => 0) 1 0 = some 1 := by
  obtain ⟨f2, hf2⟩ := zFuel_ge (n := 100) (by omega)
  rw [hf2]
  refine Z_law hL 48 (f2 + 100) 0 (fun _ => 0, 0, 4, 8) 0 (fun _ => (fun _ => 0, 0, 4, 8)) _ _ _ _ _ _ _ _ _ _ _ _ _ _ _ _ _ _ _ _ (by omega) (by omega) rfl ⟨?_, rfl, rfl, rfl, fun i h => absurd h (Nat.not_lt_zero _), CO_new, ⟨0, by omega, rfl, rfl, by omega, fun k h => absurd h (by omega)⟩, fun k h => absurd h (by omega)⟩ (fun e _ => rfl)
  exact ⟨by decide, by decide, by decide, by decide, by decide, fun i h => absurd h (Nat.not_lt_zero i), fun i h => absurd h (Nat.not_lt_zero _)⟩
