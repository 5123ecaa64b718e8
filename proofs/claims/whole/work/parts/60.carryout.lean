-- texts: the public carryOut and fault
def o_co (px : Nat → Nat) (pl : Nat) (r : RS) : Int32 × RS × Nat := if s_scan px pl pl 0 (-1) = -6 then (J (s_carry px pl pl 0 0 r 0).1, (s_carry px pl pl 0 0 r 0).2, 0) else (-3, r, pl)
section OUT
variable {px : Nat → Nat} {pl : Nat} {g : Ar}
theorem S_carry25 (hv : PV pl px) (hg : RA px pl g) (k : Int32 → Int32 → Ar → Int32 → Option (Int32 × Int32 × Int32 × Int32 × Int32 × Ar × Ar × Ar)) : ∀ m, m ≤ pl → ∀ (fuel o n : Nat) (rn : Int32) (r : RS) (all : Ar), m + 1 < fuel → s_scan px pl m 0 0 = -6 → RSv r → MA r.1 r.2.1 r.2.2.1 r.2.2.2 all →
    ∃ (all' : Ar) (sp' rn' : Int32), RSv (s_carry px pl m o 0 r n).2 ∧ MA (s_carry px pl m o 0 r n).2.1 (s_carry px pl m o 0 r n).2.2.1 (s_carry px pl m o 0 r n).2.2.2.1 (s_carry px pl m o 0 r n).2.2.2.2 all' ∧
    F_X9_carryOut_L25 (J pl) g k fuel (J ((pl - m : Nat) : Int)) rn all (J n) 1 = k sp' rn' all' (J (s_carry px pl m o 0 r n).1) := by
  intro m
  induction m using Nat.strongRecOn with
  | ind m ih =>
  intro hm fuel o n rn r all hf hsc hr hma
  obtain ⟨fuel, rfl⟩ : ∃ f, fuel = f + 1 := ⟨fuel - 1, by omega⟩
  obtain ⟨m', o', r', all', ok, rn', b1, b2, b3, b4, b5, b6⟩ := S_doesOrder hv hg n hm hsc hr hma o rn
  rw [F_X9_carryOut_L25, if_neg (by decide), b6, Option.bind_some]
  cases ok with
  | false =>
    rw [b4 rfl]
    exact ⟨all', J ((pl - m' : Nat) : Int), rn', b2, b3, if_pos rfl⟩
  | true =>
    have en1 : J n + 1 = J ((n + 1 : Nat) : Int) := by rw [J_add1]; rfl
    rw [if_neg (show ¬ (if true = true then (1 : Int32) else 0) = 0 by decide), show (59 : Int32) = J (59 : Nat) from rfl, en1]
    rcases b5 rfl with ⟨h1, h2⟩ | ⟨h1, h2, h3, h4⟩
    · rw [S_takes_n hv hg (by omega) (by omega) (by omega), Option.bind_some, h2]
      obtain ⟨fuel, rfl⟩ : ∃ f, fuel = f + 1 := ⟨fuel - 1, by omega⟩
      rw [F_X9_carryOut_L25, if_pos rfl]
      exact ⟨all', _, rn', b2, b3, rfl⟩
    · obtain ⟨m', rfl⟩ : ∃ t, m' = t + 1 := ⟨m' - 1, by omega⟩
      rw [S_takes_y hv hg (by omega) h2, Option.bind_some, h4, show pl - (m' + 1) + 1 = pl - m' by omega]
      exact ih m' (by omega) (by omega) fuel o' (n + 1) rn' r' all' (by omega) h3 b2 b3
theorem o_co_y {r : RS} (h : s_scan px pl pl 0 (-1) = -6) : o_co px pl r = (J (s_carry px pl pl 0 0 r 0).1, (s_carry px pl pl 0 0 r 0).2, 0) := by unfold o_co; rw [if_pos h]
theorem o_co_n {r : RS} (h : ¬ s_scan px pl pl 0 (-1) = -6) : o_co px pl r = (-3, r, pl) := by unfold o_co; rw [if_neg h]
theorem o_co_le (r : RS) : (o_co px pl r).2.2 ≤ pl := by
  unfold o_co
  split
  · exact Nat.zero_le _
  · exact Nat.le_refl _
theorem sc_rg (hpl : pl ≤ 80) : ∀ (m o : Nat) (w : Int), -6 ≤ s_scan px pl m o w ∧ s_scan px pl m o w ≤ 80 := by
  intro m
  induction m with
  | zero => intro o w; rw [sc_0]; split <;> omega
  | succ m ih =>
    intro o w
    rw [s_scan]
    split
    · split
      · exact ih _ _
      · omega
    · split
      · split
        · exact ih _ _
        · omega
      · split
        · omega
        · split
          · exact ih _ _
          · split
            · exact ih _ _
            · omega
theorem P8_fault (hv : PV pl px) (hg : RA px pl g) : F_X8_fault (J pl) g = some (J (s_scan px pl pl 0 (-1))) := by
  unfold F_X8_fault
  rw [S_faultPlace hv hg, Option.bind_some]
theorem P9_fault (hv : PV pl px) (hg : RA px pl g) (sp rn : Int32) : ∃ sp' rn', F_X9_fault (J pl) sp rn g = some (J (s_scan px pl pl 0 (-1)), sp', rn') := S_fault9 hv hg sp rn
variable {r : RS} {hl : Nat} {hs : Nat → RS} {ge : Ar} {v_pl : Int32} {gs gk : Ar} {sl : Int32} {gc : Ar} {vf vl : Int32} {gh : Ar} {n bs on : Int32} {gn : Ar}
theorem P8_carryOut (H : CR r hl hs ge v_pl gs gk sl gc vf vl gh n bs on gn) (hv : PV pl px) (hg : RA px pl g) :
    ∃ ge' pl' gs' gk' sl' gc' vf' vl' gh' n' bs' on' gn', CR (o_co px pl r).2.1 (c_len (o_co px pl r).1 hl) (c_hs (o_co px pl r).1 hl hs r) ge' pl' gs' gk' sl' gc' vf' vl' gh' n' bs' on' gn' ∧ F_X8_carryOut ge v_pl gs gk sl gc vf vl gh (J pl) g n bs on gn = some ((o_co px pl r).1, ge', pl', gs', gk', sl', gc', vf', vl', gh', J (o_co px pl r).2.2, n', bs', on', gn') := by
  have en := H.en
  have eb := H.eb
  have eo := H.eo
  subst en eb eo
  have hpl := hv.1
  have hrg := sc_rg (px := px) hpl pl 0 (-1)
  unfold F_X8_carryOut
  rw [S_faultPlace hv hg, Option.bind_some, Lm6, jf_eq (by omega) (by omega) (by omega) (by omega)]
  by_cases c : s_scan px pl pl 0 (-1) = -6
  · obtain ⟨f2, hf2⟩ := zFuel_ge (n := 85) (by omega)
    obtain ⟨gh', f, hf, ef, hst, hc, e1⟩ := S_note H.hc H.hv H.v H.ra
    obtain ⟨gn', k0, k1, k2⟩ := S_orders9 hv hg pl (f2 + 85) 0 0 (-1) 0 r 0 gn 0 (Nat.le_refl _) (by omega) (by omega) (by omega) (by omega) (Or.inl rfl) (by rw [if_pos (by omega)]) c H.v H.ra (by rw [Nat.sub_self]; rfl)
    have e2 : F_X8_carryOrders (J pl) g (J r.2.1) (J r.2.2.1) (J r.2.2.2) gn = some (J (s_carry px pl pl 0 0 r 0).1, J (s_carry px pl pl 0 0 r 0).2.2.1, J (s_carry px pl pl 0 0 r 0).2.2.2.1, J (s_carry px pl pl 0 0 r 0).2.2.2.2, gn') := by
      unfold F_X8_carryOrders
      rw [hf2]
      exact k2
    have q0 : ¬ J (s_carry px pl pl 0 0 r 0).1 < 0 := J_nn (by have := cy_le (px := px) (pl := pl) pl 0 0 r 0; omega)
    obtain ⟨ge', pl', gs', gk', sl', g', vf', vl', k3, k4⟩ := S_settle (r' := (s_carry px pl pl 0 0 r 0).2) H hf ef hst hc k0 (gn' := gn') k1 (a := J (s_carry px pl pl 0 0 r 0).1) (fun c => absurd c q0)
    rw [o_co_y c, if_pos c, e1, Option.bind_some, e2, Option.bind_some]
    refine ⟨ge', pl', gs', gk', sl', g', vf', vl', gh', J (s_carry px pl pl 0 0 r 0).2.2.1, J (s_carry px pl pl 0 0 r 0).2.2.2.1, J (s_carry px pl pl 0 0 r 0).2.2.2.2, gn', k3, ?_⟩
    exact (congrArg (fun o => Option.bind o _) k4).trans rfl
  · rw [o_co_n c, if_neg c, (c_neg (show (-3 : Int32) < 0 by decide) hl hs r).1, (c_neg (show (-3 : Int32) < 0 by decide) hl hs r).2]
    exact ⟨ge, v_pl, gs, gk, sl, gc, vf, vl, gh, _, _, _, gn, H, rfl⟩
end OUT
section OUT9
variable {px : Nat → Nat} {pl : Nat} {g : Ar} {r : RS} {hl : Nat} {hs : Nat → RS} {vh : Int32} {all gh gk : Ar}
theorem P9_carryOut (M : MR r hl hs vh all gh) (hv : PV pl px) (hg : RA px pl g) (sp rn : Int32) (gk : Ar) :
    ∃ vh' sp' rn' all' gh' gk', MR (o_co px pl r).2.1 (c_len (o_co px pl r).1 hl) (c_hs (o_co px pl r).1 hl hs r) vh' all' gh' ∧ F_X9_carryOut vh (J pl) sp rn all gh gk g = some ((o_co px pl r).1, vh', J (o_co px pl r).2.2, sp', rn', all', gh', gk') := by
  have hpl := hv.1
  have hrg := sc_rg (px := px) hpl pl 0 (-1)
  obtain ⟨sp1, rn1, e0⟩ := P9_fault hv hg sp rn
  unfold F_X9_carryOut
  rw [e0, Option.bind_some, Lm6, jf_eq (by omega) (by omega) (by omega) (by omega)]
  by_cases c : s_scan px pl pl 0 (-1) = -6
  · obtain ⟨f2, hf2⟩ := zFuel_ge (n := 85) (by omega)
    obtain ⟨gk', hk, e1⟩ := S_keepMS M.1 M.2.1 gk
    have c' : s_scan px pl pl 0 0 = -6 := by rw [sc_w0 pl 0 (-1)]; exact c
    obtain ⟨all', sp', rn', k0, k1, k2⟩ := S_carry25 hv hg (fun (v_padSpot_12 : Int32) (v_readNumber_13 : Int32) (g_all_14 : Ar) (i1_15 : Int32) => (Option.bind (F_X9_changed vh gh gk' i1_15) (fun u16 => (some (u16.1, u16.2.1, 0, v_padSpot_12, v_readNumber_13, g_all_14, u16.2.2, gk'))))) pl (Nat.le_refl _) (f2 + 85) 0 0 rn1 r all (by omega) c' M.1 M.2.1
    obtain ⟨vh', gh', k3, k4⟩ := S_tail9 M hk k0 k1 (J (s_carry px pl pl 0 0 r 0).1)
    rw [o_co_y c, if_pos c, e1, Option.bind_some, hf2]
    rw [Nat.sub_self] at k2
    refine ⟨vh', sp', rn', all', gh', gk', k3, k2.trans ?_⟩
    rw [k4, Option.bind_some]
    rfl
  · rw [o_co_n c, if_neg c, (c_neg (show (-3 : Int32) < 0 by decide) hl hs r).1, (c_neg (show (-3 : Int32) < 0 by decide) hl hs r).2]
    exact ⟨vh, sp1, rn1, all, gh, gk, M, rfl⟩
end OUT9
