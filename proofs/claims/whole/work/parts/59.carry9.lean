-- texts: the reference's carrying out
section CARRY9
variable {px : Nat → Nat} {pl : Nat} {g : Ar}
theorem sc_stop {m o : Nat} {w : Int} (ho : o ≠ 0) (hw : 0 ≤ w) (hsp : SP px pl m w) (hsc : s_scan px pl m o w = -6) :
    m = 0 ∨ (0 < m ∧ px (pl - m) = 59 ∧ s_scan px pl (m - 1) 0 0 = -6) ∨ (0 < m ∧ px (pl - m) = 44 ∧ o = 43 ∧ s_scan px pl (m - 1) 43 (-1) = -6) := by
  cases m with
  | zero => exact Or.inl rfl
  | succ m =>
    right
    by_cases c1 : isDig (px (pl - (m + 1)))
    · rw [sc_dn ho c1 (hsp (by omega) c1)] at hsc; omega
    · by_cases c3 : px (pl - (m + 1)) = 59
      · rw [sc_s ho (by omega) c3, sc_w0 m w 0] at hsc
        exact Or.inl ⟨by omega, c3, hsc⟩
      · by_cases c4 : px (pl - (m + 1)) = 44 ∧ o = 43
        · rw [sc_c (by omega) c4.1 c4.2, c4.2] at hsc
          exact Or.inr ⟨by omega, c4.1, c4.2, hsc⟩
        · rw [sc_x ho c1 (by omega) c3 c4] at hsc; omega
theorem sc_num {m o : Nat} (ho : o ≠ 0) (hsc : s_scan px pl m o (-1) = -6) : 0 < m ∧ isDig (px (pl - m)) := by
  cases m with
  | zero => rw [sc_0, if_pos (by omega)] at hsc; omega
  | succ m =>
    refine ⟨by omega, ?_⟩
    apply Decidable.byContradiction
    intro h
    rw [sc_n ho h (by omega)] at hsc
    omega
theorem sc_let {m : Nat} {w : Int} (hsc : s_scan px pl m 0 w = -6) : 0 < m ∧ isOrd (px (pl - m)) := by
  cases m with
  | zero => rw [sc_0, if_pos (by omega)] at hsc; omega
  | succ m =>
    refine ⟨by omega, ?_⟩
    apply Decidable.byContradiction
    intro h
    rw [sc_on h] at hsc
    omega
def NX (px : Nat → Nat) (pl m : Nat) (S : Nat × RS) (o : Nat) (r : RS) (n : Nat) : Prop := (m = 0 ∧ S = (n + 1, r)) ∨ (0 < m ∧ px (pl - m) = 59 ∧ s_scan px pl (m - 1) 0 0 = -6 ∧ S = s_carry px pl (m - 1) o 0 r (n + 1))
theorem nx_ok {m o : Nat} {w : Int} {r : RS} {n : Nat} (h : m = 0 ∨ (0 < m ∧ px (pl - m) = 59 ∧ s_scan px pl (m - 1) 0 0 = -6)) (ha : ¬ (s_cn o w r).1 < 0) : NX px pl m (s_carry px pl m o w r n) o (s_cn o w r).2 n := by
  rcases h with h | ⟨h1, h2, h3⟩
  · refine Or.inl ⟨h, ?_⟩
    rw [h, cy_0, if_neg ha]
  · obtain ⟨m, rfl⟩ : ∃ t, m = t + 1 := ⟨m - 1, by omega⟩
    refine Or.inr ⟨h1, h2, h3, ?_⟩
    rw [cy_s h2, if_neg ha]
    rfl
theorem nx_no {m o : Nat} {w : Int} {r : RS} {n : Nat} (ho : o ≠ 0) (hw : 0 ≤ w) (hsp : SP px pl m w) (hsc : s_scan px pl m o w = -6) (ha : (s_cn o w r).1 < 0) : s_carry px pl m o w r n = (n, (s_cn o w r).2) := by
  rcases sc_stop ho hw hsp hsc with h | ⟨h1, h2, h3⟩ | ⟨h1, h2, h3, h4⟩
  · rw [h, cy_0, if_pos ha]
  · obtain ⟨m, rfl⟩ : ∃ t, m = t + 1 := ⟨m - 1, by omega⟩
    rw [cy_s h2, if_pos ha]
  · obtain ⟨m, rfl⟩ : ∃ t, m = t + 1 := ⟨m - 1, by omega⟩
    rw [cy_c h2, if_pos ha]
theorem S_puts17 (hv : PV pl px) (hg : RA px pl g) (k : Int32 → Int32 → Ar → Int32 → Option (Int32 × Int32 × Int32 × Ar)) (n : Nat) : ∀ m, m ≤ pl → ∀ (fuel : Nat) (w : Int) (r : RS) (all : Ar), m < fuel → 0 ≤ w → w ≤ 65535 → SP px pl m w → s_scan px pl m 43 w = -6 → RSv r → MA r.1 r.2.1 r.2.2.1 r.2.2.2 all →
    ∃ (m' : Nat) (r' : RS) (all' : Ar) (ok : Bool) (rn : Int32), m' ≤ m ∧ RSv r' ∧ MA r'.1 r'.2.1 r'.2.2.1 r'.2.2.2 all' ∧ (ok = false → s_carry px pl m 43 w r n = (n, r')) ∧ (ok = true → NX px pl m' (s_carry px pl m 43 w r n) 43 r' n) ∧
    (Option.bind (F_X9_doPutIn all (J w)) (fun u11 => (if u11.1 < 0 then (F_X9_putsAll_L17 (J pl) g k fuel (J ((pl - m : Nat) : Int)) (J w) u11.2 0) else (F_X9_putsAll_L17 (J pl) g k fuel (J ((pl - m : Nat) : Int)) (J w) u11.2 1)))) = k (J ((pl - m' : Nat) : Int)) rn all' (if ok then 1 else 0) := by
  have hpl := hv.1
  intro m
  induction m using Nat.strongRecOn with
  | ind m ih =>
  intro hm fuel w r all hf h1 h2 hsp hsc hr hma
  obtain ⟨fuel, rfl⟩ : ∃ f, fuel = f + 1 := ⟨fuel - 1, by omega⟩
  obtain ⟨all', k1, k2⟩ := S_put9 hr hma (z := w) (by omega)
  have e0 : s_cn 43 w r = o_put r w := by unfold s_cn; rw [if_pos rfl]
  have k3 := (s_cn_v hr 43 w).1
  rw [k2, Option.bind_some]
  by_cases c : (s_cn 43 w r).1 < 0
  · have c' : (d_put r.1 r.2.1 w).1 < 0 := by rw [e0] at c; exact c
    rw [if_pos c', F_X9_putsAll_L17, if_pos rfl]
    exact ⟨m, (s_cn 43 w r).2, all', false, J w, Nat.le_refl _, k3, by rw [e0]; exact k1, fun _ => nx_no (by omega) h1 hsp hsc c, fun h => absurd h (by decide), rfl⟩
  · have c' : ¬ (d_put r.1 r.2.1 w).1 < 0 := by rw [e0] at c; exact c
    rw [if_neg c', F_X9_putsAll_L17, if_neg (by decide)]
    have hE : m = 0 ∨ (0 < m ∧ px (pl - m) = 59 ∧ s_scan px pl (m - 1) 0 0 = -6) → ∃ (m' : Nat) (r' : RS) (all'' : Ar) (ok : Bool) (rn : Int32), m' ≤ m ∧ RSv r' ∧ MA r'.1 r'.2.1 r'.2.2.1 r'.2.2.2 all'' ∧ (ok = false → s_carry px pl m 43 w r n = (n, r')) ∧ (ok = true → NX px pl m' (s_carry px pl m 43 w r n) 43 r' n) ∧ k (J ((pl - m : Nat) : Int)) (J w) all' 1 = k (J ((pl - m' : Nat) : Int)) rn all'' (if ok then 1 else 0) :=
      fun h => ⟨m, (s_cn 43 w r).2, all', true, J w, Nat.le_refl _, k3, by rw [e0]; exact k1, fun h => absurd h (by decide), fun _ => nx_ok h c, rfl⟩
    rcases sc_stop (by omega) h1 hsp hsc with h | h | ⟨h3, h4, h5, h6⟩
    · rw [show (44 : Int32) = J (44 : Nat) from rfl, S_takes_n hv hg (by omega) (by omega) (by omega), Option.bind_some, if_pos rfl]
      exact hE (Or.inl h)
    · rw [show (44 : Int32) = J (44 : Nat) from rfl, S_takes_n hv hg (by omega) (by omega) (by omega), Option.bind_some, if_pos rfl]
      exact hE (Or.inr h)
    · obtain ⟨m, rfl⟩ : ∃ t, m = t + 1 := ⟨m - 1, by omega⟩
      obtain ⟨h7, h8⟩ := sc_num (by omega) h6
      rw [Nat.add_sub_cancel] at h6 h7 h8
      obtain ⟨m, rfl⟩ : ∃ t, m = t + 1 := ⟨m - 1, by omega⟩
      obtain ⟨m', w', a1, a2, a3, a4, a5, a6, a7⟩ := S_num_y hv hg (m := m) (by omega) h8 (J w)
      rw [show (44 : Int32) = J (44 : Nat) from rfl, S_takes_y hv hg (by omega) h4, Option.bind_some, if_neg (show ¬ (1 : Int32) = 0 by decide), show pl - (m + 1 + 1) + 1 = pl - (m + 1) by omega, a7, Option.bind_some, if_neg (show ¬ (1 : Int32) = 0 by decide)]
      rw [a5 43 (by omega)] at h6
      rw [cy_c h4, if_neg c, a6, e0]
      obtain ⟨m'', r'', all'', ok, rn, b1, b2⟩ := ih m' (by omega) (by omega) fuel w' (o_put r w).2 all' (by omega) a2 a3 a4 h6 (by rw [← e0]; exact k3) k1
      exact ⟨m'', r'', all'', ok, rn, by omega, b2⟩
theorem S_doesOrder (hv : PV pl px) (hg : RA px pl g) (n : Nat) {m : Nat} (hm : m ≤ pl) (hsc : s_scan px pl m 0 0 = -6) {r : RS} {all : Ar} (hr : RSv r) (hma : MA r.1 r.2.1 r.2.2.1 r.2.2.2 all) (o0 : Nat) (rn : Int32) :
    ∃ (m' : Nat) (o' : Nat) (r' : RS) (all' : Ar) (ok : Bool) (rn' : Int32), m' < m ∧ RSv r' ∧ MA r'.1 r'.2.1 r'.2.2.1 r'.2.2.2 all' ∧ (ok = false → s_carry px pl m o0 0 r n = (n, r')) ∧ (ok = true → NX px pl m' (s_carry px pl m o0 0 r n) o' r' n) ∧
    F_X9_doesOrder (J pl) (J ((pl - m : Nat) : Int)) rn all g = some (if ok then 1 else 0, J ((pl - m' : Nat) : Int), rn', all') := by
  have hpl := hv.1
  obtain ⟨h1, h2⟩ := sc_let hsc
  obtain ⟨m, rfl⟩ : ∃ t, m = t + 1 := ⟨m - 1, by omega⟩
  rw [sc_o h2] at hsc
  obtain ⟨h3, h4⟩ := sc_num (by omega) hsc
  obtain ⟨m, rfl⟩ : ∃ t, m = t + 1 := ⟨m - 1, by omega⟩
  obtain ⟨m', w', a1, a2, a3, a4, a5, a6, a7⟩ := S_num_y hv hg (m := m) (by omega) h4 rn
  rw [a5 _ (by omega)] at hsc
  unfold F_X9_doesOrder
  rw [S_letter_y hv hg (by omega) h2, Option.bind_some, show pl - (m + 1 + 1) + 1 = pl - (m + 1) by omega, a7, Option.bind_some, if_neg (show ¬ (1 : Int32) = 0 by decide), cy_o h2, a6]
  have hb := hv.2 (pl - (m + 1 + 1)) (by omega)
  generalize px (pl - (m + 1 + 1)) = c at *
  have k3 := (s_cn_v hr c w').1
  have hE : ∀ (all' : Ar), c ≠ 43 → MA (s_cn c w' r).2.1 (s_cn c w' r).2.2.1 (s_cn c w' r).2.2.2.1 (s_cn c w' r).2.2.2.2 all' →
      ∃ (m'' : Nat) (o' : Nat) (r' : RS) (all'' : Ar) (ok : Bool) (rn' : Int32), m'' < m + 1 + 1 ∧ RSv r' ∧ MA r'.1 r'.2.1 r'.2.2.1 r'.2.2.2 all'' ∧ (ok = false → s_carry px pl m' c w' r n = (n, r')) ∧ (ok = true → NX px pl m'' (s_carry px pl m' c w' r n) o' r' n) ∧
      (if (s_cn c w' r).1 < 0 then some ((0 : Int32), J ((pl - m' : Nat) : Int), J w', all') else some (1, J ((pl - m' : Nat) : Int), J w', all')) = some (if ok then 1 else 0, J ((pl - m'' : Nat) : Int), rn', all'') := by
    intro all' hc hma'
    by_cases ca : (s_cn c w' r).1 < 0
    · rw [if_pos ca]
      exact ⟨m', c, (s_cn c w' r).2, all', false, J w', by omega, k3, hma', fun _ => nx_no (by omega) a2 a4 hsc ca, fun h => absurd h (by decide), rfl⟩
    · rw [if_neg ca]
      refine ⟨m', c, (s_cn c w' r).2, all', true, J w', by omega, k3, hma', fun h => absurd h (by decide), fun _ => nx_ok ?_ ca, rfl⟩
      rcases sc_stop (by omega) a2 a4 hsc with h | h | ⟨_, _, h, _⟩
      · exact Or.inl h
      · exact Or.inr h
      · exact absurd h hc
  rw [L43, L45, L98, jf_eq (by omega) (by omega) (by omega) (by omega), jf_eq (by omega) (by omega) (by omega) (by omega), jf_eq (by omega) (by omega) (by omega) (by omega)]
  by_cases c1 : c = 43
  · rw [if_pos (by omega)]
    subst c1
    obtain ⟨f2, hf2⟩ := zFuel_ge (n := 85) (by omega)
    obtain ⟨m'', r'', all'', ok, rn', b1, b2, b3, b4, b5, b6⟩ := S_puts17 hv hg (fun (v_padSpot_14 : Int32) (v_readNumber_15 : Int32) (g_all_16 : Ar) (i1_17 : Int32) => (if i1_17 = 0 ∨ i1_17 = 1 then some (i1_17, v_padSpot_14, v_readNumber_15, g_all_16) else none)) n m' (by omega) (f2 + 85) w' r all (by omega) a2 a3 a4 hsc hr hma
    have e1 : F_X9_putsAll (J pl) (J ((pl - m' : Nat) : Int)) (J w') all g = some (if ok then 1 else 0, J ((pl - m'' : Nat) : Int), rn', all'') := by
      unfold F_X9_putsAll
      rw [hf2, b6]
      cases ok <;> rfl
    rw [e1, Option.bind_some]
    refine ⟨m'', 43, r'', all'', ok, rn', by omega, b2, b3, b4, b5, ?_⟩
    cases ok <;> rfl
  · rw [if_neg (by omega)]
    by_cases c2 : c = 45
    · rw [if_pos (by omega)]
      have e0 : s_cn c w' r = o_take r w' := by unfold s_cn; rw [if_neg c1, if_pos c2]
      obtain ⟨all', k1, k2⟩ := S_take9 hr hma (z := w') (by omega)
      rw [k2, Option.bind_some]
      have := hE all' c1 (by rw [e0]; exact k1)
      rw [e0] at this
      exact this
    · rw [if_neg (by omega)]
      by_cases c4 : c = 98
      · rw [if_pos (by omega)]
        have e0 : s_cn c w' r = o_set r 0 w' := by unfold s_cn; rw [if_neg c1, if_neg c2, if_pos c4]
        obtain ⟨all', k1, k2⟩ := S_set9 hma (z := 0) (w := w') (by omega) (by omega)
        rw [show (0 : Int32) = J 0 from rfl, k2, Option.bind_some]
        have := hE all' c1 (by rw [e0]; exact k1)
        rw [e0] at this
        exact this
      · rw [if_neg (by omega)]
        have e0 : s_cn c w' r = o_set r 1 w' := by unfold s_cn; rw [if_neg c1, if_neg c2, if_neg c4]
        obtain ⟨all', k1, k2⟩ := S_set9 hma (z := 1) (w := w') (by omega) (by omega)
        rw [show F_X9_doSet all 1 (J w') = F_X9_doSet all (J 1) (J w') from rfl, k2, Option.bind_some]
        have := hE all' c1 (by rw [e0]; exact k1)
        rw [e0] at this
        exact this
end CARRY9
