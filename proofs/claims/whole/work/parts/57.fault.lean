-- texts: the reference's fault, loops
def RF (e : Option (Int32 × Int32 × Int32)) (z : Int) : Prop := ∃ a b, e = some (J z, a, b)
section FAULT10
variable {px : Nat → Nat} {pl : Nat} {g : Ar}
def kf (pl : Nat) : Int32 → Int32 → Option (Int32 × Int32 × Int32) := fun v_padSpot_19 v_readNumber_20 => (if v_padSpot_19 = J pl then (some ((-6), v_padSpot_19, v_readNumber_20)) else (some (v_padSpot_19, v_padSpot_19, v_readNumber_20)))
theorem S_fault7_0 (hpl : pl ≤ 80) {s : Nat} (hs : s ≤ pl) (fuel : Nat) (rn : Int32) : RF (F_X9_fault_L7 (J pl) g (kf pl) (fuel + 1) (J s) rn 0) (if s = pl then -6 else s) := by
  rw [F_X9_fault_L7, if_pos rfl]
  unfold kf
  by_cases c : s = pl
  · rw [if_pos c, if_pos (by rw [c])]; exact ⟨_, _, rfl⟩
  · rw [if_neg c, if_neg (by rw [J_eq (by omega) (by omega) (by omega) (by omega)]; omega)]; exact ⟨_, _, rfl⟩
theorem S_fault32 (hv : PV pl px) (hg : RA px pl g) {M f7 : Nat} (hM : M ≤ pl) (hf7 : M + 1 ≤ f7) (IH : ∀ m', m' < M → ∀ rn, RF (F_X9_fault_L7 (J pl) g (kf pl) f7 (J ((pl - m' : Nat) : Int)) rn 1) (s_scan px pl m' 0 0)) :
    ∀ m, m ≤ M → ∀ (fuel o : Nat) (w : Int), m < fuel → o ≠ 0 → o ≤ 126 → 0 ≤ w → w ≤ 65535 → SP px pl m w →
    RF (F_X9_fault_L32 (J pl) g (J o) (fun v_padSpot_15 v_readNumber_16 => (Option.bind (F_X9_takes (J pl) v_padSpot_15 g 59) (fun u17 => (F_X9_fault_L7 (J pl) g (kf pl) f7 u17.2 v_readNumber_16 u17.1)))) fuel (J ((pl - m : Nat) : Int)) (J w)) (s_scan px pl m o w) := by
  have hpl := hv.1
  intro m
  induction m using Nat.strongRecOn with
  | ind m ih =>
  intro hm fuel o w hf ho ho2 h1 h2 hsp
  obtain ⟨fuel, rfl⟩ : ∃ f, fuel = f + 1 := ⟨fuel - 1, by omega⟩
  have hK : ¬ (0 < m ∧ px (pl - m) = 44 ∧ o = 43) → RF (Option.bind (F_X9_takes (J pl) (J ((pl - m : Nat) : Int)) g 59) (fun u17 => (F_X9_fault_L7 (J pl) g (kf pl) f7 u17.2 (J w) u17.1))) (s_scan px pl m o w) := by
    intro hn
    by_cases c : 0 < m ∧ px (pl - m) = 59
    · obtain ⟨m, rfl⟩ : ∃ t, m = t + 1 := ⟨m - 1, by omega⟩
      rw [show (59 : Int32) = J (59 : Nat) from rfl, S_takes_y hv hg (by omega) c.2, Option.bind_some, show pl - (m + 1) + 1 = pl - m by omega, sc_s ho (by omega) c.2, sc_w0 m w 0]
      exact IH m (by omega) _
    · rw [show (59 : Int32) = J (59 : Nat) from rfl, S_takes_n hv hg (by omega) (by omega) (by omega), Option.bind_some]
      obtain ⟨f, rfl⟩ : ∃ f, f7 = f + 1 := ⟨f7 - 1, by omega⟩
      have := S_fault7_0 (g := g) hpl (s := pl - m) (by omega) f (J w)
      cases m with
      | zero => rw [sc_0, if_neg (by omega)]; rw [if_pos (by omega)] at this; exact this
      | succ m =>
        rw [if_neg (by omega)] at this
        by_cases c1 : isDig (px (pl - (m + 1)))
        · rw [sc_dn ho c1 (hsp (by omega) c1)]; exact this
        · rw [sc_x ho c1 (by omega) (by omega) (by omega)]; exact this
  rw [F_X9_fault_L32, L43, jf_eq (by omega) (by omega) (by omega) (by omega)]
  by_cases c : o = 43
  · rw [if_pos (by omega)]
    by_cases c2 : 0 < m ∧ px (pl - m) = 44
    · obtain ⟨m, rfl⟩ : ∃ t, m = t + 1 := ⟨m - 1, by omega⟩
      rw [show (44 : Int32) = J (44 : Nat) from rfl, S_takes_y hv hg (by omega) c2.2, Option.bind_some, if_neg (show ¬ (1 : Int32) = 0 by decide), show pl - (m + 1) + 1 = pl - m by omega, sc_c (by omega) c2.2 c]
      by_cases c3 : 0 < m ∧ isDig (px (pl - m))
      · obtain ⟨m, rfl⟩ : ∃ t, m = t + 1 := ⟨m - 1, by omega⟩
        obtain ⟨m', w', a1, a2, a3, a4, a5, a6, a7⟩ := S_num_y hv hg (m := m) (by omega) c3.2 (J w)
        rw [a7, Option.bind_some, if_neg (show ¬ (1 : Int32) = 0 by decide), a5 o ho]
        exact ih m' (by omega) (by omega) fuel o w' (by omega) ho ho2 a2 a3 a4
      · rw [S_num_n hv hg (by omega) (by omega), Option.bind_some, if_pos rfl]
        cases m with
        | zero => rw [sc_0, if_pos (by omega)]; exact ⟨_, _, rfl⟩
        | succ m => rw [sc_n ho (fun h => c3 ⟨by omega, h⟩) (by omega)]; exact ⟨_, _, rfl⟩
    · rw [show (44 : Int32) = J (44 : Nat) from rfl, S_takes_n hv hg (by omega) (by omega) (by omega), Option.bind_some, if_pos rfl]
      exact hK (by omega)
  · rw [if_neg (by omega)]
    exact hK (by omega)
theorem S_fault7 (hv : PV pl px) (hg : RA px pl g) : ∀ m, m ≤ pl → ∀ (fuel : Nat) (rn : Int32), m + 1 < fuel → RF (F_X9_fault_L7 (J pl) g (kf pl) fuel (J ((pl - m : Nat) : Int)) rn 1) (s_scan px pl m 0 0) := by
  have hpl := hv.1
  obtain ⟨f2, hf2⟩ := zFuel_ge (n := 85) (by omega)
  intro m
  induction m using Nat.strongRecOn with
  | ind m ih =>
  intro hm fuel rn hf
  obtain ⟨fuel, rfl⟩ : ∃ f, fuel = f + 1 := ⟨fuel - 1, by omega⟩
  rw [F_X9_fault_L7, if_neg (by decide)]
  by_cases c : 0 < m ∧ isOrd (px (pl - m))
  · obtain ⟨m, rfl⟩ : ∃ t, m = t + 1 := ⟨m - 1, by omega⟩
    rw [S_letter_y hv hg (by omega) c.2, Option.bind_some, if_neg (by rw [L0, J_eq (by omega) (by omega) (by omega) (by omega)]; omega), show pl - (m + 1) + 1 = pl - m by omega, sc_o c.2]
    by_cases c3 : 0 < m ∧ isDig (px (pl - m))
    · obtain ⟨m, rfl⟩ : ∃ t, m = t + 1 := ⟨m - 1, by omega⟩
      obtain ⟨m', w', a1, a2, a3, a4, a5, a6, a7⟩ := S_num_y hv hg (m := m) (by omega) c3.2 rn
      rw [a7, Option.bind_some, if_neg (show ¬ (1 : Int32) = 0 by decide), a5 _ (by omega), hf2]
      exact S_fault32 hv hg (M := m') (f7 := fuel) (by omega) (by omega) (fun m'' h rn => ih m'' (by omega) (by omega) fuel rn (by omega)) m' (Nat.le_refl _) (f2 + 85) _ w' (by omega) (by omega) (by omega) a2 a3 a4
    · rw [S_num_n hv hg (by omega) (by omega), Option.bind_some, if_pos rfl]
      cases m with
      | zero => rw [sc_0, if_pos (by omega)]; exact ⟨_, _, rfl⟩
      | succ m => rw [sc_n (by omega) (fun h => c3 ⟨by omega, h⟩) (by omega)]; exact ⟨_, _, rfl⟩
  · rw [S_letter_n hv hg (by omega) (by omega), Option.bind_some, if_pos rfl]
    cases m with
    | zero => rw [sc_0, if_pos (by omega)]; exact ⟨_, _, rfl⟩
    | succ m => rw [sc_on (fun h => c ⟨by omega, h⟩)]; exact ⟨_, _, rfl⟩
theorem S_fault9 (hv : PV pl px) (hg : RA px pl g) (sp rn : Int32) : RF (F_X9_fault (J pl) sp rn g) (s_scan px pl pl 0 (-1)) := by
  have hpl := hv.1
  obtain ⟨f2, hf2⟩ := zFuel_ge (n := 85) (by omega)
  unfold F_X9_fault
  rw [hf2, sc_w0 pl (-1) 0]
  have := S_fault7 hv hg pl (Nat.le_refl _) (f2 + 85) rn (by omega)
  rw [Nat.sub_self] at this
  exact this
end FAULT10
