-- saved states
def SD : Type := Nat → Bool
def s_upd {α : Type} (f : Nat → α) (k : Nat) (v : α) : Nat → α := fun i => if i = k then v else f i
def CSl (gsl : Ar) (sd : Nat → Bool) (ss : Nat → RS) : Prop := ∀ s, s < 2 → gsl (s * 68) = (if sd s then J 1 else J 0) ∧ (sd s = true → RSv (ss s) ∧ ST gsl (s * 68) (ss s))
def MSl (gi gsl : Ar) (sd : Nat → Bool) (ss : Nat → RS) : Prop := ∀ s, s < 2 → gi s = (if sd s then 1 else 0) ∧ (sd s = true → RSv (ss s) ∧ MS gsl (67 * s) (ss s))
theorem S_isSlot {z : Int} (hz : -2147483648 ≤ z ∧ z < 2147483648) : F_X8_isSlot (J z) = some (if 0 ≤ z ∧ z < 2 then 1 else 0) := by
  unfold F_X8_isSlot
  rw [L0, L2, jf_lt (by omega) (by omega) (by omega) (by omega), jf_le (by omega) (by omega) (by omega) (by omega), ← L0]
  by_cases h1 : z < 0
  · rw [if_pos h1, if_neg (by omega)]
  · rw [if_neg h1]
    by_cases h2 : 2 ≤ z
    · rw [if_pos h2, if_neg (by omega)]
    · rw [if_neg h2, if_pos (by omega)]
theorem S_isStored {gsl : Ar} {sd : Nat → Bool} {ss : Nat → RS} (H : CSl gsl sd ss) {s : Nat} (hs : s < 2) : F_X6_isStored 136 gsl (J s) = some (if sd s = true then 1 else 0) := by
  unfold F_X6_isStored
  rw [L68, J_mul, S_read (s * 68) (by omega) (by omega) (by omega), Option.bind_some, (H s hs).1]
  by_cases c : sd s = true
  · rw [if_pos c, if_pos c, if_pos (by decide)]
  · rw [if_neg c, if_neg c, if_neg (by decide)]
def o_sv (r : RS) (sd : Nat → Bool) (ss : Nat → RS) (z : Int) : Int32 × (Nat → Bool) × (Nat → RS) := if 0 ≤ z ∧ z < 2 then (J r.2.1, s_upd sd z.toNat true, s_upd ss z.toNat r) else (-2, sd, ss)
section SLOT
variable {r : RS} {hl : Nat} {hs : Nat → RS} {ge : Ar} {pl : Int32} {gs gk : Ar} {sl : Int32} {g : Ar} {vf vl : Int32} {gh : Ar} {n bs on : Int32} {gn : Ar} {sd : Nat → Bool} {ss : Nat → RS} {gsl : Ar}
theorem P8_save (H : CR r hl hs ge pl gs gk sl g vf vl gh n bs on gn) (S : CSl gsl sd ss) {z : Int} (hz : -2147483648 ≤ z ∧ z < 2147483648) : ∃ gsl', CSl gsl' (o_sv r sd ss z).2.1 (o_sv r sd ss z).2.2 ∧ F_X8_save n bs on gn gsl (J z) = some ((o_sv r sd ss z).1, gsl') := by
  have en := H.en
  have eb := H.eb
  have eo := H.eo
  subst en eb eo
  unfold F_X8_save o_sv
  rw [S_isSlot hz, Option.bind_some]
  by_cases h1 : 0 ≤ z ∧ z < 2
  · obtain ⟨p, rfl⟩ : ∃ i : Nat, z = i := ⟨z.toNat, by omega⟩
    obtain ⟨g', k1, k2, k3, k4⟩ := S_store (N := 136) (q := p) (by omega) (by omega) H.v H.ra gsl (zq := p) rfl
    rw [z_t h1, if_pos h1, k4, Option.bind_some]
    refine ⟨g', fun s hs2 => ?_, rfl⟩
    show g' (s * 68) = (if s_upd sd p true s = true then J 1 else J 0) ∧ (s_upd sd p true s = true → RSv (s_upd ss p r s) ∧ ST g' (s * 68) (s_upd ss p r s))
    unfold s_upd
    by_cases c : s = p
    · rw [if_pos c, if_pos c, c]
      exact ⟨k2.trans (if_pos rfl).symm, fun _ => ⟨H.v, k1⟩⟩
    · rw [if_neg c, if_neg c, k3 (s * 68) (by omega)]
      refine ⟨(S s hs2).1, fun h => ⟨((S s hs2).2 h).1, ((S s hs2).2 h).2.of ((S s hs2).2 h).1.1 (fun j _ _ => k3 j (by omega))⟩⟩
  · rw [z_f h1, if_neg h1]
    exact ⟨gsl, S, rfl⟩
def o_rs (r : RS) (sd : Nat → Bool) (ss : Nat → RS) (z : Int) : Int32 × RS := if 0 ≤ z ∧ z < 2 then if sd z.toNat = true then (J (ss z.toNat).2.1, ss z.toNat) else (-5, r) else (-2, r)
theorem P8_restore (H : CR r hl hs ge pl gs gk sl g vf vl gh n bs on gn) (S : CSl gsl sd ss) {z : Int} (hz : -2147483648 ≤ z ∧ z < 2147483648) :
    ∃ ge' pl' gs' gk' sl' g' vf' vl' gh' n' bs' on' gn', CR (o_rs r sd ss z).2 (c_len (o_rs r sd ss z).1 hl) (c_hs (o_rs r sd ss z).1 hl hs r) ge' pl' gs' gk' sl' g' vf' vl' gh' n' bs' on' gn' ∧ F_X8_restore ge pl gs gk sl g vf vl gh n bs on gn gsl (J z) = some ((o_rs r sd ss z).1, ge', pl', gs', gk', sl', g', vf', vl', gh', n', bs', on', gn') := by
  have en := H.en
  have eb := H.eb
  have eo := H.eo
  subst en eb eo
  have hE : ∀ (a : Int32), a < 0 → o_rs r sd ss z = (a, r) → ∃ ge' pl' gs' gk' sl' g' vf' vl' gh' n' bs' on' gn', CR (o_rs r sd ss z).2 (c_len (o_rs r sd ss z).1 hl) (c_hs (o_rs r sd ss z).1 hl hs r) ge' pl' gs' gk' sl' g' vf' vl' gh' n' bs' on' gn' ∧ some (a, ge, pl, gs, gk, sl, g, vf, vl, gh, J r.2.1, J r.2.2.1, J r.2.2.2, gn) = some ((o_rs r sd ss z).1, ge', pl', gs', gk', sl', g', vf', vl', gh', n', bs', on', gn') := by
    intro a ha e
    rw [e, (c_neg ha hl hs r).1, (c_neg ha hl hs r).2]
    exact ⟨ge, pl, gs, gk, sl, g, vf, vl, gh, _, _, _, gn, H, rfl⟩
  unfold F_X8_restore
  rw [S_isSlot hz, Option.bind_some]
  by_cases h1 : 0 ≤ z ∧ z < 2
  · obtain ⟨p, rfl⟩ : ∃ i : Nat, z = i := ⟨z.toNat, by omega⟩
    rw [z_t h1, S_isStored S (by omega), Option.bind_some]
    by_cases h2 : sd p = true
    · have e0 : o_rs r sd ss p = (J (ss p).2.1, ss p) := by unfold o_rs; rw [if_pos h1, Int.toNat_natCast, if_pos h2]
      obtain ⟨hv', hst'⟩ := (S p (by omega)).2 h2
      obtain ⟨gh', f, hf, ef, hst, hc, e1⟩ := S_note H.hc H.hv H.v H.ra
      obtain ⟨gn', hg', e2⟩ := S_load (N := 136) (q := p) (by omega) (by omega) hv' hst' (J r.2.1) (J r.2.2.1) (J r.2.2.2) gn (zq := p) rfl
      have q0 : ¬ J (ss p).2.1 < 0 := J_nn (by have := hv'.1; omega)
      obtain ⟨ge', pl', gs', gk', sl', g', vf', vl', k1, k2⟩ := S_settle (r' := ss p) H hf ef hst hc hv' (gn' := gn') hg' (a := J (ss p).2.1) (fun c => absurd c q0)
      refine ⟨ge', pl', gs', gk', sl', g', vf', vl', gh', J (ss p).2.1, J (ss p).2.2.1, J (ss p).2.2.2, gn', ?_, ?_⟩
      · rw [e0]; exact k1
      · rw [e0, z_t h2, e1, Option.bind_some, e2, Option.bind_some]
        exact (congrArg (fun o => Option.bind o _) k2).trans rfl
    · rw [z_f h2]
      exact hE (-5) (by decide) (by unfold o_rs; rw [if_pos h1, Int.toNat_natCast, if_neg h2])
  · rw [z_f h1]
    exact hE (-2) (by decide) (by unfold o_rs; rw [if_neg h1])
end SLOT
theorem o_rs_v {r : RS} (h : RSv r) {sd : Nat → Bool} {ss : Nat → RS} (H : ∀ s, s < 2 → sd s = true → RSv (ss s)) (z : Int) : RSv (o_rs r sd ss z).2 := by
  unfold o_rs
  by_cases h1 : 0 ≤ z ∧ z < 2
  · rw [if_pos h1]
    by_cases h2 : sd z.toNat = true
    · rw [if_pos h2]; exact H _ (by omega) h2
    · rw [if_neg h2]; exact h
  · rw [if_neg h1]; exact h
section SLOT9
variable {r : RS} {hl : Nat} {hs : Nat → RS} {vh : Int32} {all gh gk : Ar} {sd : Nat → Bool} {ss : Nat → RS} {gi gsl : Ar}
theorem S_save15 {h : Nat} (hh : h ≤ 1) (ga g0 : Ar) (k : Ar → Option (Int32 × Ar × Ar)) : ∀ (m fuel j : Nat) (g : Ar) (i2 : Int32), j + m = 67 → m < fuel → (∀ i, i < j → g (67 * h + i) = ga i) → (∀ i, i < 67 * h ∨ 67 * h + 67 ≤ i → g i = g0 i) → i2 = J j →
    ∃ g', (∀ i, i < 67 → g' (67 * h + i) = ga i) ∧ (∀ i, i < 67 * h ∨ 67 * h + 67 ≤ i → g' i = g0 i) ∧ F_X9_save_L15 ga (J h) k fuel g i2 = k g' := by
  intro m
  induction m with
  | zero =>
    intro fuel j g i1 hj hf h1 h2 e
    obtain ⟨fuel, rfl⟩ : ∃ f, fuel = f + 1 := ⟨fuel - 1, by omega⟩
    refine ⟨g, fun i hi => h1 i (by omega), h2, ?_⟩
    rw [F_X9_save_L15, e, L67, if_pos (by rw [J_le (by omega) (by omega) (by omega) (by omega)]; omega)]
  | succ m ih =>
    intro fuel j g i1 hj hf h1 h2 e
    obtain ⟨fuel, rfl⟩ : ∃ f, fuel = f + 1 := ⟨fuel - 1, by omega⟩
    rw [F_X9_save_L15, e, L67, if_neg (by rw [J_le (by omega) (by omega) (by omega) (by omega)]; omega), J_mul, J_add, if_pos (gd_ok (by omega) (by omega) (by omega)), if_pos (gd_ok (by omega) (by omega) (by omega)), J_ix j rfl (by omega), J_ix (67 * h + j) (by omega) (by omega), J_add1]
    refine ih fuel (j + 1) _ _ (by omega) (by omega) (fun i hi => ?_) (fun i hi => ?_) (by congr 1)
    · by_cases c : i = j
      · rw [c, upd_self]
      · rw [upd_ne (by omega)]; exact h1 i (by omega)
    · rw [upd_ne (by omega)]; exact h2 i hi
theorem P9_save (M : MR r hl hs vh all gh) (S : MSl gi gsl sd ss) {z : Int} (hz : -2147483648 ≤ z ∧ z < 2147483648) : ∃ gi' gsl', MSl gi' gsl' (o_sv r sd ss z).2.1 (o_sv r sd ss z).2.2 ∧ F_X9_save all gi gsl (J z) = some ((o_sv r sd ss z).1, gi', gsl') := by
  unfold F_X9_save o_sv
  rw [J_K hz.1 hz.2, show (0 : Int64) = K 0 from rfl, show (1 : Int64) = K 1 from rfl, S_in (by omega) (by omega) (by omega) (by omega) (by omega) (by omega), Option.bind_some]
  by_cases h1 : 0 ≤ z ∧ z < 2
  · obtain ⟨p, rfl⟩ : ∃ i : Nat, z = i := ⟨z.toNat, by omega⟩
    obtain ⟨f2, hf2⟩ := zFuel_ge (n := 70) (by omega)
    obtain ⟨g', k1, k2, k3⟩ := S_save15 (h := p) (by omega) all gsl (fun gS_7 => (if ¬ (J p < 0 ∨ 2 ≤ (J p).toNatClampNeg) then (some ((all 2), (upd gi ((J p).toNatClampNeg) 1), gS_7)) else none)) 67 (f2 + 70) 0 gsl 0 (by omega) (by omega) (fun _ h => absurd h (by omega)) (fun _ _ => rfl) rfl
    rw [z_t (by omega), if_pos h1, hf2]
    refine ⟨upd gi p 1, g', fun s hs2 => ?_, ?_⟩
    · show upd gi p 1 s = (if s_upd sd p true s = true then 1 else 0) ∧ (s_upd sd p true s = true → RSv (s_upd ss p r s) ∧ MS g' (67 * s) (s_upd ss p r s))
      unfold s_upd
      by_cases c : s = p
      · rw [if_pos c, if_pos c, c, upd_self]
        exact ⟨(if_pos rfl).symm, fun _ => ⟨M.1, M.ms.of M.1.1 (fun j hj => by rw [Nat.zero_add]; exact k1 j hj)⟩⟩
      · rw [if_neg c, if_neg c, upd_ne c]
        exact ⟨(S s hs2).1, fun h => ⟨((S s hs2).2 h).1, ((S s hs2).2 h).2.of ((S s hs2).2 h).1.1 (fun j hj => k2 _ (by omega))⟩⟩
    · refine k3.trans ?_
      rw [if_pos (gd_ok (by omega) (by omega) (by omega)), J_ix p rfl (by omega), M.2.1.2.2.1]
  · rw [z_f (by omega), if_neg h1]
    exact ⟨gi, gsl, S, rfl⟩
theorem S_restore31 {h : Nat} (hh : h ≤ 1) (ga : Ar) (k : Ar → Option (Int32 × Int32 × Ar × Ar × Ar)) : ∀ (m fuel j : Nat) (g : Ar) (i1 : Int32), j + m = 67 → m < fuel → (∀ i, i < j → g i = ga (67 * h + i)) → i1 = J j →
    ∃ g', (∀ i, i < 67 → g' i = ga (67 * h + i)) ∧ F_X9_restore_L31 ga (J h) k fuel g i1 = k g' := by
  intro m
  induction m with
  | zero =>
    intro fuel j g i1 hj hf h1 e
    obtain ⟨fuel, rfl⟩ : ∃ f, fuel = f + 1 := ⟨fuel - 1, by omega⟩
    refine ⟨g, fun i hi => h1 i (by omega), ?_⟩
    rw [F_X9_restore_L31, e, L67, if_pos (by rw [J_le (by omega) (by omega) (by omega) (by omega)]; omega)]
  | succ m ih =>
    intro fuel j g i1 hj hf h1 e
    obtain ⟨fuel, rfl⟩ : ∃ f, fuel = f + 1 := ⟨fuel - 1, by omega⟩
    rw [F_X9_restore_L31, e, L67, if_neg (by rw [J_le (by omega) (by omega) (by omega) (by omega)]; omega), J_mul, J_add, if_pos (gd_ok (by omega) (by omega) (by omega)), if_pos (gd_ok (by omega) (by omega) (by omega)), J_ix j rfl (by omega), J_ix (67 * h + j) (by omega) (by omega), J_add1]
    refine ih fuel (j + 1) _ _ (by omega) (by omega) (fun i hi => ?_) (by congr 1)
    by_cases c : i = j
    · rw [c, upd_self]
    · rw [upd_ne c]; exact h1 i (by omega)
theorem P9_restore (M : MR r hl hs vh all gh) (S : MSl gi gsl sd ss) (gk : Ar) {z : Int} (hz : -2147483648 ≤ z ∧ z < 2147483648) :
    ∃ vh' all' gh' gk', MR (o_rs r sd ss z).2 (c_len (o_rs r sd ss z).1 hl) (c_hs (o_rs r sd ss z).1 hl hs r) vh' all' gh' ∧ F_X9_restore vh all gh gi gk gsl (J z) = some ((o_rs r sd ss z).1, vh', all', gh', gk') := by
  have hE : ∀ (a : Int32), a < 0 → o_rs r sd ss z = (a, r) → ∃ vh' all' gh' gk', MR (o_rs r sd ss z).2 (c_len (o_rs r sd ss z).1 hl) (c_hs (o_rs r sd ss z).1 hl hs r) vh' all' gh' ∧ some (a, vh, all, gh, gk) = some ((o_rs r sd ss z).1, vh', all', gh', gk') := by
    intro a ha e
    rw [e, (c_neg ha hl hs r).1, (c_neg ha hl hs r).2]
    exact ⟨vh, all, gh, gk, M, rfl⟩
  unfold F_X9_restore
  rw [J_K hz.1 hz.2, show (0 : Int64) = K 0 from rfl, show (1 : Int64) = K 1 from rfl, S_in (by omega) (by omega) (by omega) (by omega) (by omega) (by omega), Option.bind_some]
  by_cases h1 : 0 ≤ z ∧ z < 2
  · obtain ⟨p, rfl⟩ : ∃ i : Nat, z = i := ⟨z.toNat, by omega⟩
    rw [z_t (by omega), if_pos (gd_ok (by omega) (by omega) (by omega)), J_ix p rfl (by omega), (S p (by omega)).1]
    by_cases h2 : sd p = true
    · have e0 : o_rs r sd ss p = (J (ss p).2.1, ss p) := by unfold o_rs; rw [if_pos h1, Int.toNat_natCast, if_pos h2]
      obtain ⟨hv', hst'⟩ := (S p (by omega)).2 h2
      obtain ⟨gk', hk, e1⟩ := S_keepMS M.1 M.2.1 gk
      obtain ⟨f2, hf2⟩ := zFuel_ge (n := 70) (by omega)
      obtain ⟨g', k1, k2⟩ := S_restore31 (h := p) (by omega) gsl (fun gA_11 => (Option.bind (F_X9_changed vh gh gk' (gA_11 2)) (fun u12 => (some (u12.1, u12.2.1, gA_11, u12.2.2, gk'))))) 67 (f2 + 70) 0 all 0 (by omega) (by omega) (fun _ h => absurd h (by omega)) rfl
      have hm' : MA (ss p).1 (ss p).2.1 (ss p).2.2.1 (ss p).2.2.2 g' := MS.ma.1 (hst'.of hv'.1 (fun j hj => by rw [Nat.zero_add]; exact k1 j hj))
      obtain ⟨vh', gh', k3, k4⟩ := S_tail9 M hk hv' hm' (J (ss p).2.1)
      rw [z_t h2, e1, Option.bind_some, hf2]
      refine ⟨vh', g', gh', gk', by rw [e0]; exact k3, k2.trans ?_⟩
      rw [hm'.2.2.1, k4, Option.bind_some, e0]
    · rw [z_f h2]
      exact hE (-5) (by decide) (by unfold o_rs; rw [if_pos h1, Int.toNat_natCast, if_neg h2])
  · rw [z_f (by omega)]
    exact hE (-2) (by decide) (by unfold o_rs; rw [if_neg h1])
end SLOT9
