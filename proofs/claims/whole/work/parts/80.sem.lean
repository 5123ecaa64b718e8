-- the law: what holds between two calls
def LI (ge : Ar) (vpl : Int32) (gs : Ar) (gk : Ar) (sl : Int32) (c1 : Int32) (c2 : Int32) (c3 : Int32) (c4 : Int32) (g : Ar) (vf : Int32) (vl : Int32) (gh : Ar) (vpd : Int32) (gpd : Ar) (n : Int32) (bs : Int32) (on : Int32) (gn : Ar) (gsl : Ar) (tl : Int32) (ts : Ar) (mh : Int32) (msl : Int32) (msp : Int32) (mpl : Int32) (mps : Int32) (mrn : Int32) (all : Ar) (mgh : Ar) (gi : Ar) (mgk : Ar) (mpd : Ar) (mgs : Ar) (mst : Ar) : Prop := ∃ (r : RS) (hl : Nat) (hs : Nat → RS) (pl : Nat) (px : Nat → Nat) (sd : Nat → Bool) (ss : Nat → RS), CR r hl hs ge vpl gs gk sl g vf vl gh n bs on gn ∧ MR r hl hs mh all mgh ∧ PV pl px ∧ vpd = J pl ∧ RA px pl gpd ∧ mpl = J pl ∧ RA px pl mpd ∧ CSl gsl sd ss ∧ MSl gi mgs sd ss ∧ PZ ts
theorem J_xs (x : Int32) : ∃ z : Int, (-2147483648 ≤ z ∧ z < 2147483648) ∧ x = J z := ⟨x.toInt, J_rg x, (J_self x).symm⟩
theorem lg_refl (x : Int64) : lg_cmp x x = 0 := (lg_cmp_eq x x).2 rfl
theorem un_undo {r r1 r2 : RS} {hl hl1 hl2 : Nat} {hs : Nat → RS} {a1 a2 : Int32} (h1 : hl = 0 → r1 = r ∧ hl1 = hl ∧ a1 = -5) (h2 : 0 < hl → r1 = hs (hl - 1) ∧ hl1 = hl - 1 ∧ a1 = J ((hl - 1 : Nat) : Int)) (h3 : hl = 0 → r2 = r ∧ hl2 = hl ∧ a2 = -5) (h4 : 0 < hl → r2 = hs (hl - 1) ∧ hl2 = hl - 1 ∧ a2 = J ((hl - 1 : Nat) : Int)) : r1 = r2 ∧ hl1 = hl2 ∧ a1 = a2 := by
  by_cases c : hl = 0
  · obtain ⟨a, b, d⟩ := h1 c
    obtain ⟨a', b', d'⟩ := h3 c
    exact ⟨a.trans a'.symm, b.trans b'.symm, d.trans d'.symm⟩
  · obtain ⟨a, b, d⟩ := h2 (by omega)
    obtain ⟨a', b', d'⟩ := h4 (by omega)
    exact ⟨a.trans a'.symm, b.trans b'.symm, d.trans d'.symm⟩
section LAW
variable {xs : Nat → Int32} {L : Nat} {k : Ar → Int32 → Ar → Ar → Int32 → Int32 → Int32 → Int32 → Int32 → Ar → Int32 → Int32 → Ar → Int32 → Ar → Int32 → Int32 → Int32 → Ar → Ar → Int32 → Ar → Int32 → Int32 → Int32 → Int32 → Int32 → Int32 → Ar → Ar → Ar → Ar → Ar → Ar → Ar → Int32 → Option Int32} {ge : Ar} {vpl : Int32} {gs : Ar} {gk : Ar} {sl : Int32} {c1 : Int32} {c2 : Int32} {c3 : Int32} {c4 : Int32} {g : Ar} {vf : Int32} {vl : Int32} {gh : Ar} {vpd : Int32} {gpd : Ar} {n : Int32} {bs : Int32} {on : Int32} {gn : Ar} {gsl : Ar} {tl : Int32} {ts : Ar} {mh : Int32} {msl : Int32} {msp : Int32} {mpl : Int32} {mps : Int32} {mrn : Int32} {all : Ar} {mgh : Ar} {gi : Ar} {mgk : Ar} {mpd : Ar} {mgs : Ar} {mst : Ar} {i : Nat}
theorem Y_c0 (HI : LI ge vpl gs gk sl c1 c2 c3 c4 g vf vl gh vpd gpd n bs on gn gsl tl ts mh msl msp mpl mps mrn all mgh gi mgk mpd mgs mst) (hi : i + 2 < L) (hL : L ≤ 1536) (hk : ∀ ge vpl gs gk sl c1 c2 c3 c4 g vf vl gh vpd gpd n bs on gn gsl tl ts mh msl msp mpl mps mrn all mgh gi mgk mpd mgs mst, LI ge vpl gs gk sl c1 c2 c3 c4 g vf vl gh vpd gpd n bs on gn gsl tl ts mh msl msp mpl mps mrn all mgh gi mgk mpd mgs mst → k ge vpl gs gk sl c1 c2 c3 c4 g vf vl gh vpd gpd n bs on gn gsl tl ts mh msl msp mpl mps mrn all mgh gi mgk mpd mgs mst (J ((i + 3 : Nat) : Int)) = some 1) : F_law_c0 xs L k ge vpl gs gk sl c1 c2 c3 c4 g vf vl gh vpd gpd n bs on gn gsl tl ts mh msl msp mpl mps mrn all mgh gi mgk mpd mgs mst (J i) = some 1 := by
  obtain ⟨r, hl, hs, pl, px, sd, ss, H, Q, hpv, e1, h8, e2, h9, S8, S9, hts⟩ := HI
  have en := H.en
  have eb := H.eb
  have eo := H.eo
  subst en eb eo e1 e2
  obtain ⟨a, ha, ea⟩ := J_xs (xs (i + 1))
  obtain ⟨b, hb, eb⟩ := J_xs (xs (i + 2))
  have g3 : J i + 3 = J ((i + 3 : Nat) : Int) := by rw [L3, J_add]; rfl
  have g1 : J i + 1 = J ((i + 1 : Nat) : Int) := by rw [L1, J_add]; rfl
  have d1 : ¬ (J ((i + 1 : Nat) : Int) < 0 ∨ L ≤ (J ((i + 1 : Nat) : Int)).toNatClampNeg) := gd_ok (by omega) (by omega) (by omega)
  have q1 : ¬ (J ((i + 1 : Nat) : Int) < 0 ∨ L ≤ i + 1) := gd_ok2 (by omega) (by omega)
  have x1 : (J ((i + 1 : Nat) : Int)).toNatClampNeg = i + 1 := J_ix (i + 1) rfl (by omega)
  have g2 : J i + 2 = J ((i + 2 : Nat) : Int) := by rw [L2, J_add]; rfl
  have d2 : ¬ (J ((i + 2 : Nat) : Int) < 0 ∨ L ≤ (J ((i + 2 : Nat) : Int)).toNatClampNeg) := gd_ok (by omega) (by omega) (by omega)
  have q2 : ¬ (J ((i + 2 : Nat) : Int) < 0 ∨ L ≤ i + 2) := gd_ok2 (by omega) (by omega)
  have x2 : (J ((i + 2 : Nat) : Int)).toNatClampNeg = i + 2 := J_ix (i + 2) rfl (by omega)
  obtain ⟨ge', pl', gs', gk', sl', g', vf', vl', gh', bs', on', K1, K2⟩ := P8_set H ha hb
  obtain ⟨vh', all', gh9', gk9', K3, K4⟩ := P9_set Q mgk ha hb
  unfold F_law_c0
  rw [g1, g2, g3, if_pos d1, if_pos d2, x1, x2, ea, eb, K2, Option.bind_some, if_pos q1, if_pos q2, K4, Option.bind_some, if_pos rfl]
  exact hk _ _ _ _ _ _ _ _ _ _ _ _ _ _ _ _ _ _ _ _ _ _ _ _ _ _ _ _ _ _ _ _ _ _ _ ⟨_, _, _, pl, px, sd, ss, K1, K3, hpv, rfl, h8, rfl, h9, S8, S9, hts⟩
theorem Y_c1 (HI : LI ge vpl gs gk sl c1 c2 c3 c4 g vf vl gh vpd gpd n bs on gn gsl tl ts mh msl msp mpl mps mrn all mgh gi mgk mpd mgs mst) (hi : i + 2 < L) (hL : L ≤ 1536) (hk : ∀ ge vpl gs gk sl c1 c2 c3 c4 g vf vl gh vpd gpd n bs on gn gsl tl ts mh msl msp mpl mps mrn all mgh gi mgk mpd mgs mst, LI ge vpl gs gk sl c1 c2 c3 c4 g vf vl gh vpd gpd n bs on gn gsl tl ts mh msl msp mpl mps mrn all mgh gi mgk mpd mgs mst → k ge vpl gs gk sl c1 c2 c3 c4 g vf vl gh vpd gpd n bs on gn gsl tl ts mh msl msp mpl mps mrn all mgh gi mgk mpd mgs mst (J ((i + 3 : Nat) : Int)) = some 1) : F_law_c1 xs L k ge vpl gs gk sl c1 c2 c3 c4 g vf vl gh vpd gpd n bs on gn gsl tl ts mh msl msp mpl mps mrn all mgh gi mgk mpd mgs mst (J i) = some 1 := by
  obtain ⟨r, hl, hs, pl, px, sd, ss, H, Q, hpv, e1, h8, e2, h9, S8, S9, hts⟩ := HI
  have en := H.en
  have eb := H.eb
  have eo := H.eo
  subst en eb eo e1 e2
  obtain ⟨a, ha, ea⟩ := J_xs (xs (i + 1))
  have g3 : J i + 3 = J ((i + 3 : Nat) : Int) := by rw [L3, J_add]; rfl
  have g1 : J i + 1 = J ((i + 1 : Nat) : Int) := by rw [L1, J_add]; rfl
  have d1 : ¬ (J ((i + 1 : Nat) : Int) < 0 ∨ L ≤ (J ((i + 1 : Nat) : Int)).toNatClampNeg) := gd_ok (by omega) (by omega) (by omega)
  have q1 : ¬ (J ((i + 1 : Nat) : Int) < 0 ∨ L ≤ i + 1) := gd_ok2 (by omega) (by omega)
  have x1 : (J ((i + 1 : Nat) : Int)).toNatClampNeg = i + 1 := J_ix (i + 1) rfl (by omega)
  obtain ⟨ge', pl', gs', gk', sl', g', vf', vl', gh', n', gn', K1, K2⟩ := P8_putIn H ha
  obtain ⟨vh', all', gh9', gk9', K3, K4⟩ := P9_putIn Q mgk ha
  unfold F_law_c1
  rw [g1, g3, if_pos d1, x1, ea, K2, Option.bind_some, if_pos q1, K4, Option.bind_some, if_pos rfl]
  exact hk _ _ _ _ _ _ _ _ _ _ _ _ _ _ _ _ _ _ _ _ _ _ _ _ _ _ _ _ _ _ _ _ _ _ _ ⟨_, _, _, pl, px, sd, ss, K1, K3, hpv, rfl, h8, rfl, h9, S8, S9, hts⟩
theorem Y_c2 (HI : LI ge vpl gs gk sl c1 c2 c3 c4 g vf vl gh vpd gpd n bs on gn gsl tl ts mh msl msp mpl mps mrn all mgh gi mgk mpd mgs mst) (hi : i + 2 < L) (hL : L ≤ 1536) (hk : ∀ ge vpl gs gk sl c1 c2 c3 c4 g vf vl gh vpd gpd n bs on gn gsl tl ts mh msl msp mpl mps mrn all mgh gi mgk mpd mgs mst, LI ge vpl gs gk sl c1 c2 c3 c4 g vf vl gh vpd gpd n bs on gn gsl tl ts mh msl msp mpl mps mrn all mgh gi mgk mpd mgs mst → k ge vpl gs gk sl c1 c2 c3 c4 g vf vl gh vpd gpd n bs on gn gsl tl ts mh msl msp mpl mps mrn all mgh gi mgk mpd mgs mst (J ((i + 3 : Nat) : Int)) = some 1) : F_law_c2 xs L k ge vpl gs gk sl c1 c2 c3 c4 g vf vl gh vpd gpd n bs on gn gsl tl ts mh msl msp mpl mps mrn all mgh gi mgk mpd mgs mst (J i) = some 1 := by
  obtain ⟨r, hl, hs, pl, px, sd, ss, H, Q, hpv, e1, h8, e2, h9, S8, S9, hts⟩ := HI
  have en := H.en
  have eb := H.eb
  have eo := H.eo
  subst en eb eo e1 e2
  obtain ⟨a, ha, ea⟩ := J_xs (xs (i + 1))
  have g3 : J i + 3 = J ((i + 3 : Nat) : Int) := by rw [L3, J_add]; rfl
  have g1 : J i + 1 = J ((i + 1 : Nat) : Int) := by rw [L1, J_add]; rfl
  have d1 : ¬ (J ((i + 1 : Nat) : Int) < 0 ∨ L ≤ (J ((i + 1 : Nat) : Int)).toNatClampNeg) := gd_ok (by omega) (by omega) (by omega)
  have q1 : ¬ (J ((i + 1 : Nat) : Int) < 0 ∨ L ≤ i + 1) := gd_ok2 (by omega) (by omega)
  have x1 : (J ((i + 1 : Nat) : Int)).toNatClampNeg = i + 1 := J_ix (i + 1) rfl (by omega)
  obtain ⟨ge', pl', gs', gk', sl', g', vf', vl', gh', n', gn', K1, K2⟩ := P8_takeOut H ha
  obtain ⟨vh', all', gh9', gk9', K3, K4⟩ := P9_takeOut Q mgk ha
  unfold F_law_c2
  rw [g1, g3, if_pos d1, x1, ea, K2, Option.bind_some, if_pos q1, K4, Option.bind_some, if_pos rfl]
  exact hk _ _ _ _ _ _ _ _ _ _ _ _ _ _ _ _ _ _ _ _ _ _ _ _ _ _ _ _ _ _ _ _ _ _ _ ⟨_, _, _, pl, px, sd, ss, K1, K3, hpv, rfl, h8, rfl, h9, S8, S9, hts⟩
theorem Y_c3 (HI : LI ge vpl gs gk sl c1 c2 c3 c4 g vf vl gh vpd gpd n bs on gn gsl tl ts mh msl msp mpl mps mrn all mgh gi mgk mpd mgs mst) (hi : i + 2 < L) (hL : L ≤ 1536) (hk : ∀ ge vpl gs gk sl c1 c2 c3 c4 g vf vl gh vpd gpd n bs on gn gsl tl ts mh msl msp mpl mps mrn all mgh gi mgk mpd mgs mst, LI ge vpl gs gk sl c1 c2 c3 c4 g vf vl gh vpd gpd n bs on gn gsl tl ts mh msl msp mpl mps mrn all mgh gi mgk mpd mgs mst → k ge vpl gs gk sl c1 c2 c3 c4 g vf vl gh vpd gpd n bs on gn gsl tl ts mh msl msp mpl mps mrn all mgh gi mgk mpd mgs mst (J ((i + 3 : Nat) : Int)) = some 1) : F_law_c3 xs L k ge vpl gs gk sl c1 c2 c3 c4 g vf vl gh vpd gpd n bs on gn gsl tl ts mh msl msp mpl mps mrn all mgh gi mgk mpd mgs mst (J i) = some 1 := by
  obtain ⟨r, hl, hs, pl, px, sd, ss, H, Q, hpv, e1, h8, e2, h9, S8, S9, hts⟩ := HI
  have en := H.en
  have eb := H.eb
  have eo := H.eo
  subst en eb eo e1 e2
  obtain ⟨a, ha, ea⟩ := J_xs (xs (i + 1))
  obtain ⟨b, hb, eb⟩ := J_xs (xs (i + 2))
  have g3 : J i + 3 = J ((i + 3 : Nat) : Int) := by rw [L3, J_add]; rfl
  have g1 : J i + 1 = J ((i + 1 : Nat) : Int) := by rw [L1, J_add]; rfl
  have d1 : ¬ (J ((i + 1 : Nat) : Int) < 0 ∨ L ≤ (J ((i + 1 : Nat) : Int)).toNatClampNeg) := gd_ok (by omega) (by omega) (by omega)
  have q1 : ¬ (J ((i + 1 : Nat) : Int) < 0 ∨ L ≤ i + 1) := gd_ok2 (by omega) (by omega)
  have x1 : (J ((i + 1 : Nat) : Int)).toNatClampNeg = i + 1 := J_ix (i + 1) rfl (by omega)
  have g2 : J i + 2 = J ((i + 2 : Nat) : Int) := by rw [L2, J_add]; rfl
  have d2 : ¬ (J ((i + 2 : Nat) : Int) < 0 ∨ L ≤ (J ((i + 2 : Nat) : Int)).toNatClampNeg) := gd_ok (by omega) (by omega) (by omega)
  have q2 : ¬ (J ((i + 2 : Nat) : Int) < 0 ∨ L ≤ i + 2) := gd_ok2 (by omega) (by omega)
  have x2 : (J ((i + 2 : Nat) : Int)).toNatClampNeg = i + 2 := J_ix (i + 2) rfl (by omega)
  obtain ⟨ge', pl', gs', gk', sl', g', vf', vl', gh', gn', K1, K2⟩ := P8_shift H ha hb
  obtain ⟨vh', all', gh9', gk9', K3, K4⟩ := P9_shift Q mgk ha hb
  unfold F_law_c3
  rw [g1, g2, g3, if_pos d1, if_pos d2, x1, x2, ea, eb, K2, Option.bind_some, if_pos q1, if_pos q2, K4, Option.bind_some, if_pos rfl]
  exact hk _ _ _ _ _ _ _ _ _ _ _ _ _ _ _ _ _ _ _ _ _ _ _ _ _ _ _ _ _ _ _ _ _ _ _ ⟨_, _, _, pl, px, sd, ss, K1, K3, hpv, rfl, h8, rfl, h9, S8, S9, hts⟩
theorem Y_c4 (HI : LI ge vpl gs gk sl c1 c2 c3 c4 g vf vl gh vpd gpd n bs on gn gsl tl ts mh msl msp mpl mps mrn all mgh gi mgk mpd mgs mst) (hi : i + 2 < L) (hL : L ≤ 1536) (hk : ∀ ge vpl gs gk sl c1 c2 c3 c4 g vf vl gh vpd gpd n bs on gn gsl tl ts mh msl msp mpl mps mrn all mgh gi mgk mpd mgs mst, LI ge vpl gs gk sl c1 c2 c3 c4 g vf vl gh vpd gpd n bs on gn gsl tl ts mh msl msp mpl mps mrn all mgh gi mgk mpd mgs mst → k ge vpl gs gk sl c1 c2 c3 c4 g vf vl gh vpd gpd n bs on gn gsl tl ts mh msl msp mpl mps mrn all mgh gi mgk mpd mgs mst (J ((i + 3 : Nat) : Int)) = some 1) : F_law_c4 xs L k ge vpl gs gk sl c1 c2 c3 c4 g vf vl gh vpd gpd n bs on gn gsl tl ts mh msl msp mpl mps mrn all mgh gi mgk mpd mgs mst (J i) = some 1 := by
  obtain ⟨r, hl, hs, pl, px, sd, ss, H, Q, hpv, e1, h8, e2, h9, S8, S9, hts⟩ := HI
  have en := H.en
  have eb := H.eb
  have eo := H.eo
  subst en eb eo e1 e2
  obtain ⟨a, ha, ea⟩ := J_xs (xs (i + 1))
  obtain ⟨b, hb, eb⟩ := J_xs (xs (i + 2))
  have g3 : J i + 3 = J ((i + 3 : Nat) : Int) := by rw [L3, J_add]; rfl
  have g1 : J i + 1 = J ((i + 1 : Nat) : Int) := by rw [L1, J_add]; rfl
  have d1 : ¬ (J ((i + 1 : Nat) : Int) < 0 ∨ L ≤ (J ((i + 1 : Nat) : Int)).toNatClampNeg) := gd_ok (by omega) (by omega) (by omega)
  have q1 : ¬ (J ((i + 1 : Nat) : Int) < 0 ∨ L ≤ i + 1) := gd_ok2 (by omega) (by omega)
  have x1 : (J ((i + 1 : Nat) : Int)).toNatClampNeg = i + 1 := J_ix (i + 1) rfl (by omega)
  have g2 : J i + 2 = J ((i + 2 : Nat) : Int) := by rw [L2, J_add]; rfl
  have d2 : ¬ (J ((i + 2 : Nat) : Int) < 0 ∨ L ≤ (J ((i + 2 : Nat) : Int)).toNatClampNeg) := gd_ok (by omega) (by omega) (by omega)
  have q2 : ¬ (J ((i + 2 : Nat) : Int) < 0 ∨ L ≤ i + 2) := gd_ok2 (by omega) (by omega)
  have x2 : (J ((i + 2 : Nat) : Int)).toNatClampNeg = i + 2 := J_ix (i + 2) rfl (by omega)
  have K2 := S_gap8 H.v H.ra H.co ha (J b)
  have K4 := S_gap9 Q.1 Q.2.1 ha (J b)
  unfold F_law_c4
  rw [g1, g2, g3, if_pos d1, if_pos d2, x1, x2, ea, eb, K2, Option.bind_some, if_pos q1, if_pos q2, K4, Option.bind_some, if_pos rfl]
  exact hk _ _ _ _ _ _ _ _ _ _ _ _ _ _ _ _ _ _ _ _ _ _ _ _ _ _ _ _ _ _ _ _ _ _ _ ⟨r, hl, hs, pl, px, sd, ss, H, Q, hpv, rfl, h8, rfl, h9, S8, S9, hts⟩
theorem Y_c5 (HI : LI ge vpl gs gk sl c1 c2 c3 c4 g vf vl gh vpd gpd n bs on gn gsl tl ts mh msl msp mpl mps mrn all mgh gi mgk mpd mgs mst) (hi : i + 2 < L) (hL : L ≤ 1536) (hk : ∀ ge vpl gs gk sl c1 c2 c3 c4 g vf vl gh vpd gpd n bs on gn gsl tl ts mh msl msp mpl mps mrn all mgh gi mgk mpd mgs mst, LI ge vpl gs gk sl c1 c2 c3 c4 g vf vl gh vpd gpd n bs on gn gsl tl ts mh msl msp mpl mps mrn all mgh gi mgk mpd mgs mst → k ge vpl gs gk sl c1 c2 c3 c4 g vf vl gh vpd gpd n bs on gn gsl tl ts mh msl msp mpl mps mrn all mgh gi mgk mpd mgs mst (J ((i + 3 : Nat) : Int)) = some 1) : F_law_c5 xs L k ge vpl gs gk sl c1 c2 c3 c4 g vf vl gh vpd gpd n bs on gn gsl tl ts mh msl msp mpl mps mrn all mgh gi mgk mpd mgs mst (J i) = some 1 := by
  obtain ⟨r, hl, hs, pl, px, sd, ss, H, Q, hpv, e1, h8, e2, h9, S8, S9, hts⟩ := HI
  have en := H.en
  have eb := H.eb
  have eo := H.eo
  subst en eb eo e1 e2
  obtain ⟨a, ha, ea⟩ := J_xs (xs (i + 1))
  obtain ⟨b, hb, eb⟩ := J_xs (xs (i + 2))
  have g3 : J i + 3 = J ((i + 3 : Nat) : Int) := by rw [L3, J_add]; rfl
  have g1 : J i + 1 = J ((i + 1 : Nat) : Int) := by rw [L1, J_add]; rfl
  have d1 : ¬ (J ((i + 1 : Nat) : Int) < 0 ∨ L ≤ (J ((i + 1 : Nat) : Int)).toNatClampNeg) := gd_ok (by omega) (by omega) (by omega)
  have q1 : ¬ (J ((i + 1 : Nat) : Int) < 0 ∨ L ≤ i + 1) := gd_ok2 (by omega) (by omega)
  have x1 : (J ((i + 1 : Nat) : Int)).toNatClampNeg = i + 1 := J_ix (i + 1) rfl (by omega)
  have g2 : J i + 2 = J ((i + 2 : Nat) : Int) := by rw [L2, J_add]; rfl
  have d2 : ¬ (J ((i + 2 : Nat) : Int) < 0 ∨ L ≤ (J ((i + 2 : Nat) : Int)).toNatClampNeg) := gd_ok (by omega) (by omega) (by omega)
  have q2 : ¬ (J ((i + 2 : Nat) : Int) < 0 ∨ L ≤ i + 2) := gd_ok2 (by omega) (by omega)
  have x2 : (J ((i + 2 : Nat) : Int)).toNatClampNeg = i + 2 := J_ix (i + 2) rfl (by omega)
  have K2 := S_block8 H.v H.ra H.co ha (J b)
  have K4 := S_block9 Q.1 Q.2.1 ha (J b)
  unfold F_law_c5
  rw [g1, g2, g3, if_pos d1, if_pos d2, x1, x2, ea, eb, K2, Option.bind_some, if_pos q1, if_pos q2, K4, Option.bind_some, if_pos rfl]
  exact hk _ _ _ _ _ _ _ _ _ _ _ _ _ _ _ _ _ _ _ _ _ _ _ _ _ _ _ _ _ _ _ _ _ _ _ ⟨r, hl, hs, pl, px, sd, ss, H, Q, hpv, rfl, h8, rfl, h9, S8, S9, hts⟩
theorem Y_c6 (HI : LI ge vpl gs gk sl c1 c2 c3 c4 g vf vl gh vpd gpd n bs on gn gsl tl ts mh msl msp mpl mps mrn all mgh gi mgk mpd mgs mst) (hi : i + 2 < L) (hL : L ≤ 1536) (hk : ∀ ge vpl gs gk sl c1 c2 c3 c4 g vf vl gh vpd gpd n bs on gn gsl tl ts mh msl msp mpl mps mrn all mgh gi mgk mpd mgs mst, LI ge vpl gs gk sl c1 c2 c3 c4 g vf vl gh vpd gpd n bs on gn gsl tl ts mh msl msp mpl mps mrn all mgh gi mgk mpd mgs mst → k ge vpl gs gk sl c1 c2 c3 c4 g vf vl gh vpd gpd n bs on gn gsl tl ts mh msl msp mpl mps mrn all mgh gi mgk mpd mgs mst (J ((i + 3 : Nat) : Int)) = some 1) : F_law_c6 xs L k ge vpl gs gk sl c1 c2 c3 c4 g vf vl gh vpd gpd n bs on gn gsl tl ts mh msl msp mpl mps mrn all mgh gi mgk mpd mgs mst (J i) = some 1 := by
  obtain ⟨r, hl, hs, pl, px, sd, ss, H, Q, hpv, e1, h8, e2, h9, S8, S9, hts⟩ := HI
  have en := H.en
  have eb := H.eb
  have eo := H.eo
  subst en eb eo e1 e2
  obtain ⟨a, ha, ea⟩ := J_xs (xs (i + 1))
  have g3 : J i + 3 = J ((i + 3 : Nat) : Int) := by rw [L3, J_add]; rfl
  have g1 : J i + 1 = J ((i + 1 : Nat) : Int) := by rw [L1, J_add]; rfl
  have d1 : ¬ (J ((i + 1 : Nat) : Int) < 0 ∨ L ≤ (J ((i + 1 : Nat) : Int)).toNatClampNeg) := gd_ok (by omega) (by omega) (by omega)
  have q1 : ¬ (J ((i + 1 : Nat) : Int) < 0 ∨ L ≤ i + 1) := gd_ok2 (by omega) (by omega)
  have x1 : (J ((i + 1 : Nat) : Int)).toNatClampNeg = i + 1 := J_ix (i + 1) rfl (by omega)
  have K2 := S_bit8 (CO.sl H.v H.co) ha
  obtain ⟨v', g9', K4⟩ := S_bit9 Q.1 Q.2.1 msl mst ha
  unfold F_law_c6
  rw [g1, g3, if_pos d1, x1, ea, K2, Option.bind_some, if_pos q1, K4, Option.bind_some, if_pos rfl]
  exact hk _ _ _ _ _ _ _ _ _ _ _ _ _ _ _ _ _ _ _ _ _ _ _ _ _ _ _ _ _ _ _ _ _ _ _ ⟨r, hl, hs, pl, px, sd, ss, H, Q, hpv, rfl, h8, rfl, h9, S8, S9, hts⟩
theorem Y_c7 (HI : LI ge vpl gs gk sl c1 c2 c3 c4 g vf vl gh vpd gpd n bs on gn gsl tl ts mh msl msp mpl mps mrn all mgh gi mgk mpd mgs mst) (hi : i + 2 < L) (hL : L ≤ 1536) (hk : ∀ ge vpl gs gk sl c1 c2 c3 c4 g vf vl gh vpd gpd n bs on gn gsl tl ts mh msl msp mpl mps mrn all mgh gi mgk mpd mgs mst, LI ge vpl gs gk sl c1 c2 c3 c4 g vf vl gh vpd gpd n bs on gn gsl tl ts mh msl msp mpl mps mrn all mgh gi mgk mpd mgs mst → k ge vpl gs gk sl c1 c2 c3 c4 g vf vl gh vpd gpd n bs on gn gsl tl ts mh msl msp mpl mps mrn all mgh gi mgk mpd mgs mst (J ((i + 3 : Nat) : Int)) = some 1) : F_law_c7 xs L k ge vpl gs gk sl c1 c2 c3 c4 g vf vl gh vpd gpd n bs on gn gsl tl ts mh msl msp mpl mps mrn all mgh gi mgk mpd mgs mst (J i) = some 1 := by
  obtain ⟨r, hl, hs, pl, px, sd, ss, H, Q, hpv, e1, h8, e2, h9, S8, S9, hts⟩ := HI
  have en := H.en
  have eb := H.eb
  have eo := H.eo
  subst en eb eo e1 e2
  obtain ⟨a, ha, ea⟩ := J_xs (xs (i + 1))
  have g3 : J i + 3 = J ((i + 3 : Nat) : Int) := by rw [L3, J_add]; rfl
  have g1 : J i + 1 = J ((i + 1 : Nat) : Int) := by rw [L1, J_add]; rfl
  have d1 : ¬ (J ((i + 1 : Nat) : Int) < 0 ∨ L ≤ (J ((i + 1 : Nat) : Int)).toNatClampNeg) := gd_ok (by omega) (by omega) (by omega)
  have q1 : ¬ (J ((i + 1 : Nat) : Int) < 0 ∨ L ≤ i + 1) := gd_ok2 (by omega) (by omega)
  have x1 : (J ((i + 1 : Nat) : Int)).toNatClampNeg = i + 1 := J_ix (i + 1) rfl (by omega)
  have K2 := S_bits8 (CO.sl H.v H.co) ha
  obtain ⟨v', g9', K4⟩ := S_bits9 Q.1 Q.2.1 msl mst ha
  unfold F_law_c7
  rw [g1, g3, if_pos d1, x1, ea, K2, Option.bind_some, if_pos q1, K4, Option.bind_some, if_pos (lg_refl _)]
  exact hk _ _ _ _ _ _ _ _ _ _ _ _ _ _ _ _ _ _ _ _ _ _ _ _ _ _ _ _ _ _ _ _ _ _ _ ⟨r, hl, hs, pl, px, sd, ss, H, Q, hpv, rfl, h8, rfl, h9, S8, S9, hts⟩
theorem Y_c8 (HI : LI ge vpl gs gk sl c1 c2 c3 c4 g vf vl gh vpd gpd n bs on gn gsl tl ts mh msl msp mpl mps mrn all mgh gi mgk mpd mgs mst) (hi : i + 2 < L) (hL : L ≤ 1536) (hk : ∀ ge vpl gs gk sl c1 c2 c3 c4 g vf vl gh vpd gpd n bs on gn gsl tl ts mh msl msp mpl mps mrn all mgh gi mgk mpd mgs mst, LI ge vpl gs gk sl c1 c2 c3 c4 g vf vl gh vpd gpd n bs on gn gsl tl ts mh msl msp mpl mps mrn all mgh gi mgk mpd mgs mst → k ge vpl gs gk sl c1 c2 c3 c4 g vf vl gh vpd gpd n bs on gn gsl tl ts mh msl msp mpl mps mrn all mgh gi mgk mpd mgs mst (J ((i + 3 : Nat) : Int)) = some 1) : F_law_c8 xs L k ge vpl gs gk sl c1 c2 c3 c4 g vf vl gh vpd gpd n bs on gn gsl tl ts mh msl msp mpl mps mrn all mgh gi mgk mpd mgs mst (J i) = some 1 := by
  obtain ⟨r, hl, hs, pl, px, sd, ss, H, Q, hpv, e1, h8, e2, h9, S8, S9, hts⟩ := HI
  have en := H.en
  have eb := H.eb
  have eo := H.eo
  subst en eb eo e1 e2
  obtain ⟨a, ha, ea⟩ := J_xs (xs (i + 1))
  have g3 : J i + 3 = J ((i + 3 : Nat) : Int) := by rw [L3, J_add]; rfl
  have g1 : J i + 1 = J ((i + 1 : Nat) : Int) := by rw [L1, J_add]; rfl
  have d1 : ¬ (J ((i + 1 : Nat) : Int) < 0 ∨ L ≤ (J ((i + 1 : Nat) : Int)).toNatClampNeg) := gd_ok (by omega) (by omega) (by omega)
  have q1 : ¬ (J ((i + 1 : Nat) : Int) < 0 ∨ L ≤ i + 1) := gd_ok2 (by omega) (by omega)
  have x1 : (J ((i + 1 : Nat) : Int)).toNatClampNeg = i + 1 := J_ix (i + 1) rfl (by omega)
  have evl : vl = J hl := by
    obtain ⟨f, _, _, h, _⟩ := H.hc
    exact h
  have evh : mh = J hl := Q.2.2.1.1
  subst evl evh
  have K2 := S_count8 (p := pl) (hl := hl) H.v H.ra H.co (J a)
  have K4 := S_count9 (p := pl) (hl := hl) Q.1 Q.2.1 (J a)
  unfold F_law_c8
  rw [g1, g3, if_pos d1, x1, ea, K2, Option.bind_some, if_pos q1, K4, Option.bind_some, if_pos rfl]
  exact hk _ _ _ _ _ _ _ _ _ _ _ _ _ _ _ _ _ _ _ _ _ _ _ _ _ _ _ _ _ _ _ _ _ _ _ ⟨r, hl, hs, pl, px, sd, ss, H, Q, hpv, rfl, h8, rfl, h9, S8, S9, hts⟩
theorem Y_c9 (HI : LI ge vpl gs gk sl c1 c2 c3 c4 g vf vl gh vpd gpd n bs on gn gsl tl ts mh msl msp mpl mps mrn all mgh gi mgk mpd mgs mst) (hi : i + 2 < L) (hL : L ≤ 1536) (hk : ∀ ge vpl gs gk sl c1 c2 c3 c4 g vf vl gh vpd gpd n bs on gn gsl tl ts mh msl msp mpl mps mrn all mgh gi mgk mpd mgs mst, LI ge vpl gs gk sl c1 c2 c3 c4 g vf vl gh vpd gpd n bs on gn gsl tl ts mh msl msp mpl mps mrn all mgh gi mgk mpd mgs mst → k ge vpl gs gk sl c1 c2 c3 c4 g vf vl gh vpd gpd n bs on gn gsl tl ts mh msl msp mpl mps mrn all mgh gi mgk mpd mgs mst (J ((i + 3 : Nat) : Int)) = some 1) : F_law_c9 xs L k ge vpl gs gk sl c1 c2 c3 c4 g vf vl gh vpd gpd n bs on gn gsl tl ts mh msl msp mpl mps mrn all mgh gi mgk mpd mgs mst (J i) = some 1 := by
  obtain ⟨r, hl, hs, pl, px, sd, ss, H, Q, hpv, e1, h8, e2, h9, S8, S9, hts⟩ := HI
  have en := H.en
  have eb := H.eb
  have eo := H.eo
  subst en eb eo e1 e2
  obtain ⟨a, ha, ea⟩ := J_xs (xs (i + 1))
  obtain ⟨b, hb, eb⟩ := J_xs (xs (i + 2))
  have g3 : J i + 3 = J ((i + 3 : Nat) : Int) := by rw [L3, J_add]; rfl
  have g1 : J i + 1 = J ((i + 1 : Nat) : Int) := by rw [L1, J_add]; rfl
  have d1 : ¬ (J ((i + 1 : Nat) : Int) < 0 ∨ L ≤ (J ((i + 1 : Nat) : Int)).toNatClampNeg) := gd_ok (by omega) (by omega) (by omega)
  have q1 : ¬ (J ((i + 1 : Nat) : Int) < 0 ∨ L ≤ i + 1) := gd_ok2 (by omega) (by omega)
  have x1 : (J ((i + 1 : Nat) : Int)).toNatClampNeg = i + 1 := J_ix (i + 1) rfl (by omega)
  have g2 : J i + 2 = J ((i + 2 : Nat) : Int) := by rw [L2, J_add]; rfl
  have d2 : ¬ (J ((i + 2 : Nat) : Int) < 0 ∨ L ≤ (J ((i + 2 : Nat) : Int)).toNatClampNeg) := gd_ok (by omega) (by omega) (by omega)
  have q2 : ¬ (J ((i + 2 : Nat) : Int) < 0 ∨ L ≤ i + 2) := gd_ok2 (by omega) (by omega)
  have x2 : (J ((i + 2 : Nat) : Int)).toNatClampNeg = i + 2 := J_ix (i + 2) rfl (by omega)
  obtain ⟨t1, t2, t3, t4, K2⟩ := S_at8 H.v H.ra H.co ha (J b) c1 c2 c3 c4
  have K4 := S_at9 Q.1 Q.2.1 ha hb
  unfold F_law_c9
  rw [g1, g2, g3, if_pos d1, if_pos d2, x1, x2, ea, eb, K2, Option.bind_some, if_pos q1, if_pos q2, K4, Option.bind_some, if_pos rfl]
  exact hk _ _ _ _ _ _ _ _ _ _ _ _ _ _ _ _ _ _ _ _ _ _ _ _ _ _ _ _ _ _ _ _ _ _ _ ⟨r, hl, hs, pl, px, sd, ss, H, Q, hpv, rfl, h8, rfl, h9, S8, S9, hts⟩
theorem Y_c10 (HI : LI ge vpl gs gk sl c1 c2 c3 c4 g vf vl gh vpd gpd n bs on gn gsl tl ts mh msl msp mpl mps mrn all mgh gi mgk mpd mgs mst) (hi : i + 2 < L) (hL : L ≤ 1536) (hk : ∀ ge vpl gs gk sl c1 c2 c3 c4 g vf vl gh vpd gpd n bs on gn gsl tl ts mh msl msp mpl mps mrn all mgh gi mgk mpd mgs mst, LI ge vpl gs gk sl c1 c2 c3 c4 g vf vl gh vpd gpd n bs on gn gsl tl ts mh msl msp mpl mps mrn all mgh gi mgk mpd mgs mst → k ge vpl gs gk sl c1 c2 c3 c4 g vf vl gh vpd gpd n bs on gn gsl tl ts mh msl msp mpl mps mrn all mgh gi mgk mpd mgs mst (J ((i + 3 : Nat) : Int)) = some 1) : F_law_c10 xs L k ge vpl gs gk sl c1 c2 c3 c4 g vf vl gh vpd gpd n bs on gn gsl tl ts mh msl msp mpl mps mrn all mgh gi mgk mpd mgs mst (J i) = some 1 := by
  obtain ⟨r, hl, hs, pl, px, sd, ss, H, Q, hpv, e1, h8, e2, h9, S8, S9, hts⟩ := HI
  have en := H.en
  have eb := H.eb
  have eo := H.eo
  subst en eb eo e1 e2
  obtain ⟨a, ha, ea⟩ := J_xs (xs (i + 1))
  obtain ⟨b, hb, eb⟩ := J_xs (xs (i + 2))
  have g3 : J i + 3 = J ((i + 3 : Nat) : Int) := by rw [L3, J_add]; rfl
  have g1 : J i + 1 = J ((i + 1 : Nat) : Int) := by rw [L1, J_add]; rfl
  have d1 : ¬ (J ((i + 1 : Nat) : Int) < 0 ∨ L ≤ (J ((i + 1 : Nat) : Int)).toNatClampNeg) := gd_ok (by omega) (by omega) (by omega)
  have q1 : ¬ (J ((i + 1 : Nat) : Int) < 0 ∨ L ≤ i + 1) := gd_ok2 (by omega) (by omega)
  have x1 : (J ((i + 1 : Nat) : Int)).toNatClampNeg = i + 1 := J_ix (i + 1) rfl (by omega)
  have g2 : J i + 2 = J ((i + 2 : Nat) : Int) := by rw [L2, J_add]; rfl
  have d2 : ¬ (J ((i + 2 : Nat) : Int) < 0 ∨ L ≤ (J ((i + 2 : Nat) : Int)).toNatClampNeg) := gd_ok (by omega) (by omega) (by omega)
  have q2 : ¬ (J ((i + 2 : Nat) : Int) < 0 ∨ L ≤ i + 2) := gd_ok2 (by omega) (by omega)
  have x2 : (J ((i + 2 : Nat) : Int)).toNatClampNeg = i + 2 := J_ix (i + 2) rfl (by omega)
  obtain ⟨t1, t2, t3, t4, K2⟩ := S_find8 H.v H.ra H.co ha hb c1 c2 c3 c4
  have K4 := S_find9 Q.1 Q.2.1 ha hb
  unfold F_law_c10
  rw [g1, g2, g3, if_pos d1, if_pos d2, x1, x2, ea, eb, K2, Option.bind_some, if_pos q1, if_pos q2, K4, Option.bind_some, if_pos rfl]
  exact hk _ _ _ _ _ _ _ _ _ _ _ _ _ _ _ _ _ _ _ _ _ _ _ _ _ _ _ _ _ _ _ _ _ _ _ ⟨r, hl, hs, pl, px, sd, ss, H, Q, hpv, rfl, h8, rfl, h9, S8, S9, hts⟩
theorem Y_c11 (HI : LI ge vpl gs gk sl c1 c2 c3 c4 g vf vl gh vpd gpd n bs on gn gsl tl ts mh msl msp mpl mps mrn all mgh gi mgk mpd mgs mst) (hi : i + 2 < L) (hL : L ≤ 1536) (hk : ∀ ge vpl gs gk sl c1 c2 c3 c4 g vf vl gh vpd gpd n bs on gn gsl tl ts mh msl msp mpl mps mrn all mgh gi mgk mpd mgs mst, LI ge vpl gs gk sl c1 c2 c3 c4 g vf vl gh vpd gpd n bs on gn gsl tl ts mh msl msp mpl mps mrn all mgh gi mgk mpd mgs mst → k ge vpl gs gk sl c1 c2 c3 c4 g vf vl gh vpd gpd n bs on gn gsl tl ts mh msl msp mpl mps mrn all mgh gi mgk mpd mgs mst (J ((i + 3 : Nat) : Int)) = some 1) : F_law_c11 xs L k ge vpl gs gk sl c1 c2 c3 c4 g vf vl gh vpd gpd n bs on gn gsl tl ts mh msl msp mpl mps mrn all mgh gi mgk mpd mgs mst (J i) = some 1 := by
  obtain ⟨r, hl, hs, pl, px, sd, ss, H, Q, hpv, e1, h8, e2, h9, S8, S9, hts⟩ := HI
  have en := H.en
  have eb := H.eb
  have eo := H.eo
  subst en eb eo e1 e2
  obtain ⟨a, ha, ea⟩ := J_xs (xs (i + 1))
  obtain ⟨b, hb, eb⟩ := J_xs (xs (i + 2))
  have g3 : J i + 3 = J ((i + 3 : Nat) : Int) := by rw [L3, J_add]; rfl
  have g1 : J i + 1 = J ((i + 1 : Nat) : Int) := by rw [L1, J_add]; rfl
  have d1 : ¬ (J ((i + 1 : Nat) : Int) < 0 ∨ L ≤ (J ((i + 1 : Nat) : Int)).toNatClampNeg) := gd_ok (by omega) (by omega) (by omega)
  have q1 : ¬ (J ((i + 1 : Nat) : Int) < 0 ∨ L ≤ i + 1) := gd_ok2 (by omega) (by omega)
  have x1 : (J ((i + 1 : Nat) : Int)).toNatClampNeg = i + 1 := J_ix (i + 1) rfl (by omega)
  have g2 : J i + 2 = J ((i + 2 : Nat) : Int) := by rw [L2, J_add]; rfl
  have d2 : ¬ (J ((i + 2 : Nat) : Int) < 0 ∨ L ≤ (J ((i + 2 : Nat) : Int)).toNatClampNeg) := gd_ok (by omega) (by omega) (by omega)
  have q2 : ¬ (J ((i + 2 : Nat) : Int) < 0 ∨ L ≤ i + 2) := gd_ok2 (by omega) (by omega)
  have x2 : (J ((i + 2 : Nat) : Int)).toNatClampNeg = i + 2 := J_ix (i + 2) rfl (by omega)
  have K2 := S_cost8 H.v H.co ha hb
  have K4 := S_cost9 Q.1 Q.2.1 ha hb
  unfold F_law_c11
  rw [g1, g2, g3, if_pos d1, if_pos d2, x1, x2, ea, eb, K2, Option.bind_some, if_pos q1, if_pos q2, K4, Option.bind_some, if_pos rfl]
  exact hk _ _ _ _ _ _ _ _ _ _ _ _ _ _ _ _ _ _ _ _ _ _ _ _ _ _ _ _ _ _ _ _ _ _ _ ⟨r, hl, hs, pl, px, sd, ss, H, Q, hpv, rfl, h8, rfl, h9, S8, S9, hts⟩
theorem Y_c12 (HI : LI ge vpl gs gk sl c1 c2 c3 c4 g vf vl gh vpd gpd n bs on gn gsl tl ts mh msl msp mpl mps mrn all mgh gi mgk mpd mgs mst) (hi : i + 2 < L) (hL : L ≤ 1536) (hk : ∀ ge vpl gs gk sl c1 c2 c3 c4 g vf vl gh vpd gpd n bs on gn gsl tl ts mh msl msp mpl mps mrn all mgh gi mgk mpd mgs mst, LI ge vpl gs gk sl c1 c2 c3 c4 g vf vl gh vpd gpd n bs on gn gsl tl ts mh msl msp mpl mps mrn all mgh gi mgk mpd mgs mst → k ge vpl gs gk sl c1 c2 c3 c4 g vf vl gh vpd gpd n bs on gn gsl tl ts mh msl msp mpl mps mrn all mgh gi mgk mpd mgs mst (J ((i + 3 : Nat) : Int)) = some 1) : F_law_c12 xs L k ge vpl gs gk sl c1 c2 c3 c4 g vf vl gh vpd gpd n bs on gn gsl tl ts mh msl msp mpl mps mrn all mgh gi mgk mpd mgs mst (J i) = some 1 := by
  obtain ⟨r, hl, hs, pl, px, sd, ss, H, Q, hpv, e1, h8, e2, h9, S8, S9, hts⟩ := HI
  have en := H.en
  have eb := H.eb
  have eo := H.eo
  subst en eb eo e1 e2
  obtain ⟨a, ha, ea⟩ := J_xs (xs (i + 1))
  obtain ⟨b, hb, eb⟩ := J_xs (xs (i + 2))
  have g3 : J i + 3 = J ((i + 3 : Nat) : Int) := by rw [L3, J_add]; rfl
  have g1 : J i + 1 = J ((i + 1 : Nat) : Int) := by rw [L1, J_add]; rfl
  have d1 : ¬ (J ((i + 1 : Nat) : Int) < 0 ∨ L ≤ (J ((i + 1 : Nat) : Int)).toNatClampNeg) := gd_ok (by omega) (by omega) (by omega)
  have q1 : ¬ (J ((i + 1 : Nat) : Int) < 0 ∨ L ≤ i + 1) := gd_ok2 (by omega) (by omega)
  have x1 : (J ((i + 1 : Nat) : Int)).toNatClampNeg = i + 1 := J_ix (i + 1) rfl (by omega)
  have g2 : J i + 2 = J ((i + 2 : Nat) : Int) := by rw [L2, J_add]; rfl
  have d2 : ¬ (J ((i + 2 : Nat) : Int) < 0 ∨ L ≤ (J ((i + 2 : Nat) : Int)).toNatClampNeg) := gd_ok (by omega) (by omega) (by omega)
  have q2 : ¬ (J ((i + 2 : Nat) : Int) < 0 ∨ L ≤ i + 2) := gd_ok2 (by omega) (by omega)
  have x2 : (J ((i + 2 : Nat) : Int)).toNatClampNeg = i + 2 := J_ix (i + 2) rfl (by omega)
  obtain ⟨tl', ts', K1, K2⟩ := S_with8 H.v H.ra H.co (tl := tl) hts ha hb
  obtain ⟨g9', K3, K4⟩ := S_with9 Q.1 Q.2.1 ha hb
  unfold F_law_c12
  rw [g1, g2, g3, if_pos d1, if_pos d2, x1, x2, ea, eb, K2, Option.bind_some, if_pos q1, if_pos q2, K4, Option.bind_some, if_pos rfl]
  exact hk _ _ _ _ _ _ _ _ _ _ _ _ _ _ _ _ _ _ _ _ _ _ _ _ _ _ _ _ _ _ _ _ _ _ _ ⟨r, hl, hs, pl, px, sd, ss, H, ⟨Q.1, K3, Q.2.2⟩, hpv, rfl, h8, rfl, h9, S8, S9, K1⟩
theorem Y_c13 (HI : LI ge vpl gs gk sl c1 c2 c3 c4 g vf vl gh vpd gpd n bs on gn gsl tl ts mh msl msp mpl mps mrn all mgh gi mgk mpd mgs mst) (hi : i + 2 < L) (hL : L ≤ 1536) (hk : ∀ ge vpl gs gk sl c1 c2 c3 c4 g vf vl gh vpd gpd n bs on gn gsl tl ts mh msl msp mpl mps mrn all mgh gi mgk mpd mgs mst, LI ge vpl gs gk sl c1 c2 c3 c4 g vf vl gh vpd gpd n bs on gn gsl tl ts mh msl msp mpl mps mrn all mgh gi mgk mpd mgs mst → k ge vpl gs gk sl c1 c2 c3 c4 g vf vl gh vpd gpd n bs on gn gsl tl ts mh msl msp mpl mps mrn all mgh gi mgk mpd mgs mst (J ((i + 3 : Nat) : Int)) = some 1) : F_law_c13 xs L k ge vpl gs gk sl c1 c2 c3 c4 g vf vl gh vpd gpd n bs on gn gsl tl ts mh msl msp mpl mps mrn all mgh gi mgk mpd mgs mst (J i) = some 1 := by
  obtain ⟨r, hl, hs, pl, px, sd, ss, H, Q, hpv, e1, h8, e2, h9, S8, S9, hts⟩ := HI
  have en := H.en
  have eb := H.eb
  have eo := H.eo
  subst en eb eo e1 e2
  obtain ⟨a, ha, ea⟩ := J_xs (xs (i + 1))
  have g3 : J i + 3 = J ((i + 3 : Nat) : Int) := by rw [L3, J_add]; rfl
  have g1 : J i + 1 = J ((i + 1 : Nat) : Int) := by rw [L1, J_add]; rfl
  have d1 : ¬ (J ((i + 1 : Nat) : Int) < 0 ∨ L ≤ (J ((i + 1 : Nat) : Int)).toNatClampNeg) := gd_ok (by omega) (by omega) (by omega)
  have q1 : ¬ (J ((i + 1 : Nat) : Int) < 0 ∨ L ≤ i + 1) := gd_ok2 (by omega) (by omega)
  have x1 : (J ((i + 1 : Nat) : Int)).toNatClampNeg = i + 1 := J_ix (i + 1) rfl (by omega)
  have K2 := S_best8 H.v H.co (J a)
  obtain ⟨g9', K3, K4⟩ := S_best9 Q.1 Q.2.1 ha
  unfold F_law_c13
  rw [g1, g3, if_pos d1, x1, ea, K2, Option.bind_some, if_pos q1, K4, Option.bind_some, if_pos rfl]
  exact hk _ _ _ _ _ _ _ _ _ _ _ _ _ _ _ _ _ _ _ _ _ _ _ _ _ _ _ _ _ _ _ _ _ _ _ ⟨r, hl, hs, pl, px, sd, ss, H, ⟨Q.1, K3, Q.2.2⟩, hpv, rfl, h8, rfl, h9, S8, S9, hts⟩
theorem Y_c14 (HI : LI ge vpl gs gk sl c1 c2 c3 c4 g vf vl gh vpd gpd n bs on gn gsl tl ts mh msl msp mpl mps mrn all mgh gi mgk mpd mgs mst) (hi : i + 2 < L) (hL : L ≤ 1536) (hk : ∀ ge vpl gs gk sl c1 c2 c3 c4 g vf vl gh vpd gpd n bs on gn gsl tl ts mh msl msp mpl mps mrn all mgh gi mgk mpd mgs mst, LI ge vpl gs gk sl c1 c2 c3 c4 g vf vl gh vpd gpd n bs on gn gsl tl ts mh msl msp mpl mps mrn all mgh gi mgk mpd mgs mst → k ge vpl gs gk sl c1 c2 c3 c4 g vf vl gh vpd gpd n bs on gn gsl tl ts mh msl msp mpl mps mrn all mgh gi mgk mpd mgs mst (J ((i + 3 : Nat) : Int)) = some 1) : F_law_c14 xs L k ge vpl gs gk sl c1 c2 c3 c4 g vf vl gh vpd gpd n bs on gn gsl tl ts mh msl msp mpl mps mrn all mgh gi mgk mpd mgs mst (J i) = some 1 := by
  obtain ⟨r, hl, hs, pl, px, sd, ss, H, Q, hpv, e1, h8, e2, h9, S8, S9, hts⟩ := HI
  have en := H.en
  have eb := H.eb
  have eo := H.eo
  subst en eb eo e1 e2
  have g3 : J i + 3 = J ((i + 3 : Nat) : Int) := by rw [L3, J_add]; rfl
  obtain ⟨t1, t2, t3, t4, K2⟩ := S_check8 H.v H.ra H.co c1 c2 c3 c4
  obtain ⟨v', sp', g9', K4⟩ := S_check9 Q.1 Q.2.1 msl msp mst
  unfold F_law_c14
  rw [g3, K2, Option.bind_some, K4, Option.bind_some, if_pos rfl]
  exact hk _ _ _ _ _ _ _ _ _ _ _ _ _ _ _ _ _ _ _ _ _ _ _ _ _ _ _ _ _ _ _ _ _ _ _ ⟨r, hl, hs, pl, px, sd, ss, H, Q, hpv, rfl, h8, rfl, h9, S8, S9, hts⟩
theorem Y_c15 (HI : LI ge vpl gs gk sl c1 c2 c3 c4 g vf vl gh vpd gpd n bs on gn gsl tl ts mh msl msp mpl mps mrn all mgh gi mgk mpd mgs mst) (hi : i + 2 < L) (hL : L ≤ 1536) (hk : ∀ ge vpl gs gk sl c1 c2 c3 c4 g vf vl gh vpd gpd n bs on gn gsl tl ts mh msl msp mpl mps mrn all mgh gi mgk mpd mgs mst, LI ge vpl gs gk sl c1 c2 c3 c4 g vf vl gh vpd gpd n bs on gn gsl tl ts mh msl msp mpl mps mrn all mgh gi mgk mpd mgs mst → k ge vpl gs gk sl c1 c2 c3 c4 g vf vl gh vpd gpd n bs on gn gsl tl ts mh msl msp mpl mps mrn all mgh gi mgk mpd mgs mst (J ((i + 3 : Nat) : Int)) = some 1) : F_law_c15 xs L k ge vpl gs gk sl c1 c2 c3 c4 g vf vl gh vpd gpd n bs on gn gsl tl ts mh msl msp mpl mps mrn all mgh gi mgk mpd mgs mst (J i) = some 1 := by
  obtain ⟨r, hl, hs, pl, px, sd, ss, H, Q, hpv, e1, h8, e2, h9, S8, S9, hts⟩ := HI
  have en := H.en
  have eb := H.eb
  have eo := H.eo
  subst en eb eo e1 e2
  obtain ⟨a, ha, ea⟩ := J_xs (xs (i + 1))
  obtain ⟨b, hb, eb⟩ := J_xs (xs (i + 2))
  have g3 : J i + 3 = J ((i + 3 : Nat) : Int) := by rw [L3, J_add]; rfl
  have g1 : J i + 1 = J ((i + 1 : Nat) : Int) := by rw [L1, J_add]; rfl
  have d1 : ¬ (J ((i + 1 : Nat) : Int) < 0 ∨ L ≤ (J ((i + 1 : Nat) : Int)).toNatClampNeg) := gd_ok (by omega) (by omega) (by omega)
  have q1 : ¬ (J ((i + 1 : Nat) : Int) < 0 ∨ L ≤ i + 1) := gd_ok2 (by omega) (by omega)
  have x1 : (J ((i + 1 : Nat) : Int)).toNatClampNeg = i + 1 := J_ix (i + 1) rfl (by omega)
  have g2 : J i + 2 = J ((i + 2 : Nat) : Int) := by rw [L2, J_add]; rfl
  have d2 : ¬ (J ((i + 2 : Nat) : Int) < 0 ∨ L ≤ (J ((i + 2 : Nat) : Int)).toNatClampNeg) := gd_ok (by omega) (by omega) (by omega)
  have q2 : ¬ (J ((i + 2 : Nat) : Int) < 0 ∨ L ≤ i + 2) := gd_ok2 (by omega) (by omega)
  have x2 : (J ((i + 2 : Nat) : Int)).toNatClampNeg = i + 2 := J_ix (i + 2) rfl (by omega)
  obtain ⟨an, pl', px', g8', g9', hpv', h8', h9', K2, K4⟩ := P_put hpv h8 h9 ((zshl ((J a).toInt64) 32) ||| (((J b).toInt64) &&& 4294967295))
  unfold F_law_c15
  rw [g1, g2, g3, if_pos d1, if_pos d2, x1, x2, ea, eb, K2, Option.bind_some, if_pos q1, if_pos q2, K4, Option.bind_some, if_pos rfl]
  exact hk _ _ _ _ _ _ _ _ _ _ _ _ _ _ _ _ _ _ _ _ _ _ _ _ _ _ _ _ _ _ _ _ _ _ _ ⟨r, hl, hs, pl', px', sd, ss, H, Q, hpv', rfl, h8', rfl, h9', S8, S9, hts⟩
theorem Y_c16 (HI : LI ge vpl gs gk sl c1 c2 c3 c4 g vf vl gh vpd gpd n bs on gn gsl tl ts mh msl msp mpl mps mrn all mgh gi mgk mpd mgs mst) (hi : i + 2 < L) (hL : L ≤ 1536) (hk : ∀ ge vpl gs gk sl c1 c2 c3 c4 g vf vl gh vpd gpd n bs on gn gsl tl ts mh msl msp mpl mps mrn all mgh gi mgk mpd mgs mst, LI ge vpl gs gk sl c1 c2 c3 c4 g vf vl gh vpd gpd n bs on gn gsl tl ts mh msl msp mpl mps mrn all mgh gi mgk mpd mgs mst → k ge vpl gs gk sl c1 c2 c3 c4 g vf vl gh vpd gpd n bs on gn gsl tl ts mh msl msp mpl mps mrn all mgh gi mgk mpd mgs mst (J ((i + 3 : Nat) : Int)) = some 1) : F_law_c16 xs L k ge vpl gs gk sl c1 c2 c3 c4 g vf vl gh vpd gpd n bs on gn gsl tl ts mh msl msp mpl mps mrn all mgh gi mgk mpd mgs mst (J i) = some 1 := by
  obtain ⟨r, hl, hs, pl, px, sd, ss, H, Q, hpv, e1, h8, e2, h9, S8, S9, hts⟩ := HI
  have en := H.en
  have eb := H.eb
  have eo := H.eo
  subst en eb eo e1 e2
  have g3 : J i + 3 = J ((i + 3 : Nat) : Int) := by rw [L3, J_add]; rfl
  have K2 : F_X8_wipe (J pl) = some (J pl, 0) := rfl
  have K4 : F_X9_wipe (J pl) = some (J pl, 0) := rfl
  unfold F_law_c16
  rw [g3, K2, Option.bind_some, K4, Option.bind_some, if_pos rfl]
  exact hk _ _ _ _ _ _ _ _ _ _ _ _ _ _ _ _ _ _ _ _ _ _ _ _ _ _ _ _ _ _ _ _ _ _ _ ⟨r, hl, hs, 0, px, sd, ss, H, Q, ⟨by omega, fun i h => absurd h (by omega)⟩, rfl, fun i h => absurd h (by omega), rfl, fun i h => absurd h (by omega), S8, S9, hts⟩
theorem Y_c17 (HI : LI ge vpl gs gk sl c1 c2 c3 c4 g vf vl gh vpd gpd n bs on gn gsl tl ts mh msl msp mpl mps mrn all mgh gi mgk mpd mgs mst) (hi : i + 2 < L) (hL : L ≤ 1536) (hk : ∀ ge vpl gs gk sl c1 c2 c3 c4 g vf vl gh vpd gpd n bs on gn gsl tl ts mh msl msp mpl mps mrn all mgh gi mgk mpd mgs mst, LI ge vpl gs gk sl c1 c2 c3 c4 g vf vl gh vpd gpd n bs on gn gsl tl ts mh msl msp mpl mps mrn all mgh gi mgk mpd mgs mst → k ge vpl gs gk sl c1 c2 c3 c4 g vf vl gh vpd gpd n bs on gn gsl tl ts mh msl msp mpl mps mrn all mgh gi mgk mpd mgs mst (J ((i + 3 : Nat) : Int)) = some 1) : F_law_c17 xs L k ge vpl gs gk sl c1 c2 c3 c4 g vf vl gh vpd gpd n bs on gn gsl tl ts mh msl msp mpl mps mrn all mgh gi mgk mpd mgs mst (J i) = some 1 := by
  obtain ⟨r, hl, hs, pl, px, sd, ss, H, Q, hpv, e1, h8, e2, h9, S8, S9, hts⟩ := HI
  have en := H.en
  have eb := H.eb
  have eo := H.eo
  subst en eb eo e1 e2
  have g3 : J i + 3 = J ((i + 3 : Nat) : Int) := by rw [L3, J_add]; rfl
  have K2 := P8_fault hpv h8
  obtain ⟨sp', rn', K4⟩ := P9_fault hpv h9 mps mrn
  unfold F_law_c17
  rw [g3, K2, Option.bind_some, K4, Option.bind_some, if_pos rfl]
  exact hk _ _ _ _ _ _ _ _ _ _ _ _ _ _ _ _ _ _ _ _ _ _ _ _ _ _ _ _ _ _ _ _ _ _ _ ⟨r, hl, hs, pl, px, sd, ss, H, Q, hpv, rfl, h8, rfl, h9, S8, S9, hts⟩
theorem Y_c18 (HI : LI ge vpl gs gk sl c1 c2 c3 c4 g vf vl gh vpd gpd n bs on gn gsl tl ts mh msl msp mpl mps mrn all mgh gi mgk mpd mgs mst) (hi : i + 2 < L) (hL : L ≤ 1536) (hk : ∀ ge vpl gs gk sl c1 c2 c3 c4 g vf vl gh vpd gpd n bs on gn gsl tl ts mh msl msp mpl mps mrn all mgh gi mgk mpd mgs mst, LI ge vpl gs gk sl c1 c2 c3 c4 g vf vl gh vpd gpd n bs on gn gsl tl ts mh msl msp mpl mps mrn all mgh gi mgk mpd mgs mst → k ge vpl gs gk sl c1 c2 c3 c4 g vf vl gh vpd gpd n bs on gn gsl tl ts mh msl msp mpl mps mrn all mgh gi mgk mpd mgs mst (J ((i + 3 : Nat) : Int)) = some 1) : F_law_c18 xs L k ge vpl gs gk sl c1 c2 c3 c4 g vf vl gh vpd gpd n bs on gn gsl tl ts mh msl msp mpl mps mrn all mgh gi mgk mpd mgs mst (J i) = some 1 := by
  obtain ⟨r, hl, hs, pl, px, sd, ss, H, Q, hpv, e1, h8, e2, h9, S8, S9, hts⟩ := HI
  have en := H.en
  have eb := H.eb
  have eo := H.eo
  subst en eb eo e1 e2
  have g3 : J i + 3 = J ((i + 3 : Nat) : Int) := by rw [L3, J_add]; rfl
  obtain ⟨ge', pl', gs', gk', sl', g', vf', vl', gh', n', bs', on', gn', K1, K2⟩ := P8_carryOut H hpv h8
  obtain ⟨vh', sp', rn', all', gh9', gk9', K3, K4⟩ := P9_carryOut Q hpv h9 mps mrn mgk
  have hle := o_co_le (px := px) (pl := pl) r
  have hpl := hpv.1
  unfold F_law_c18
  rw [g3, K2, Option.bind_some, K4, Option.bind_some, if_pos rfl]
  exact hk _ _ _ _ _ _ _ _ _ _ _ _ _ _ _ _ _ _ _ _ _ _ _ _ _ _ _ _ _ _ _ _ _ _ _ ⟨_, _, _, (o_co px pl r).2.2, px, sd, ss, K1, K3, ⟨by omega, fun i hi => hpv.2 i (by omega)⟩, rfl, fun i hi => h8 i (by omega), rfl, fun i hi => h9 i (by omega), S8, S9, hts⟩
theorem Y_c19 (HI : LI ge vpl gs gk sl c1 c2 c3 c4 g vf vl gh vpd gpd n bs on gn gsl tl ts mh msl msp mpl mps mrn all mgh gi mgk mpd mgs mst) (hi : i + 2 < L) (hL : L ≤ 1536) (hk : ∀ ge vpl gs gk sl c1 c2 c3 c4 g vf vl gh vpd gpd n bs on gn gsl tl ts mh msl msp mpl mps mrn all mgh gi mgk mpd mgs mst, LI ge vpl gs gk sl c1 c2 c3 c4 g vf vl gh vpd gpd n bs on gn gsl tl ts mh msl msp mpl mps mrn all mgh gi mgk mpd mgs mst → k ge vpl gs gk sl c1 c2 c3 c4 g vf vl gh vpd gpd n bs on gn gsl tl ts mh msl msp mpl mps mrn all mgh gi mgk mpd mgs mst (J ((i + 3 : Nat) : Int)) = some 1) : F_law_c19 xs L k ge vpl gs gk sl c1 c2 c3 c4 g vf vl gh vpd gpd n bs on gn gsl tl ts mh msl msp mpl mps mrn all mgh gi mgk mpd mgs mst (J i) = some 1 := by
  obtain ⟨r, hl, hs, pl, px, sd, ss, H, Q, hpv, e1, h8, e2, h9, S8, S9, hts⟩ := HI
  have en := H.en
  have eb := H.eb
  have eo := H.eo
  subst en eb eo e1 e2
  have g3 : J i + 3 = J ((i + 3 : Nat) : Int) := by rw [L3, J_add]; rfl
  obtain ⟨r1, hl1, a1, ge', pl', gs', gk', sl', g', vf', vl', n', bs', on', gn', q1, q2, K1, K2⟩ := P8_undo H
  obtain ⟨r2, hl2, a2, vh', all', q3, q4, K3, K4⟩ := P9_undo Q
  obtain ⟨w1, w2, w3⟩ := un_undo q1 q2 q3 q4
  subst w1 w2 w3
  unfold F_law_c19
  rw [g3, K2, Option.bind_some, K4, Option.bind_some, if_pos rfl]
  exact hk _ _ _ _ _ _ _ _ _ _ _ _ _ _ _ _ _ _ _ _ _ _ _ _ _ _ _ _ _ _ _ _ _ _ _ ⟨_, _, _, pl, px, sd, ss, K1, K3, hpv, rfl, h8, rfl, h9, S8, S9, hts⟩
theorem Y_c20 (HI : LI ge vpl gs gk sl c1 c2 c3 c4 g vf vl gh vpd gpd n bs on gn gsl tl ts mh msl msp mpl mps mrn all mgh gi mgk mpd mgs mst) (hi : i + 2 < L) (hL : L ≤ 1536) (hk : ∀ ge vpl gs gk sl c1 c2 c3 c4 g vf vl gh vpd gpd n bs on gn gsl tl ts mh msl msp mpl mps mrn all mgh gi mgk mpd mgs mst, LI ge vpl gs gk sl c1 c2 c3 c4 g vf vl gh vpd gpd n bs on gn gsl tl ts mh msl msp mpl mps mrn all mgh gi mgk mpd mgs mst → k ge vpl gs gk sl c1 c2 c3 c4 g vf vl gh vpd gpd n bs on gn gsl tl ts mh msl msp mpl mps mrn all mgh gi mgk mpd mgs mst (J ((i + 3 : Nat) : Int)) = some 1) : F_law_c20 xs L k ge vpl gs gk sl c1 c2 c3 c4 g vf vl gh vpd gpd n bs on gn gsl tl ts mh msl msp mpl mps mrn all mgh gi mgk mpd mgs mst (J i) = some 1 := by
  obtain ⟨r, hl, hs, pl, px, sd, ss, H, Q, hpv, e1, h8, e2, h9, S8, S9, hts⟩ := HI
  have en := H.en
  have eb := H.eb
  have eo := H.eo
  subst en eb eo e1 e2
  obtain ⟨a, ha, ea⟩ := J_xs (xs (i + 1))
  have g3 : J i + 3 = J ((i + 3 : Nat) : Int) := by rw [L3, J_add]; rfl
  have g1 : J i + 1 = J ((i + 1 : Nat) : Int) := by rw [L1, J_add]; rfl
  have d1 : ¬ (J ((i + 1 : Nat) : Int) < 0 ∨ L ≤ (J ((i + 1 : Nat) : Int)).toNatClampNeg) := gd_ok (by omega) (by omega) (by omega)
  have q1 : ¬ (J ((i + 1 : Nat) : Int) < 0 ∨ L ≤ i + 1) := gd_ok2 (by omega) (by omega)
  have x1 : (J ((i + 1 : Nat) : Int)).toNatClampNeg = i + 1 := J_ix (i + 1) rfl (by omega)
  obtain ⟨gsl', K1, K2⟩ := P8_save H S8 ha
  obtain ⟨gi', gsl9', K3, K4⟩ := P9_save Q S9 ha
  unfold F_law_c20
  rw [g1, g3, if_pos d1, x1, ea, K2, Option.bind_some, if_pos q1, K4, Option.bind_some, if_pos rfl]
  exact hk _ _ _ _ _ _ _ _ _ _ _ _ _ _ _ _ _ _ _ _ _ _ _ _ _ _ _ _ _ _ _ _ _ _ _ ⟨r, hl, hs, pl, px, _, _, H, Q, hpv, rfl, h8, rfl, h9, K1, K3, hts⟩
theorem Y_c21 (HI : LI ge vpl gs gk sl c1 c2 c3 c4 g vf vl gh vpd gpd n bs on gn gsl tl ts mh msl msp mpl mps mrn all mgh gi mgk mpd mgs mst) (hi : i + 2 < L) (hL : L ≤ 1536) (hk : ∀ ge vpl gs gk sl c1 c2 c3 c4 g vf vl gh vpd gpd n bs on gn gsl tl ts mh msl msp mpl mps mrn all mgh gi mgk mpd mgs mst, LI ge vpl gs gk sl c1 c2 c3 c4 g vf vl gh vpd gpd n bs on gn gsl tl ts mh msl msp mpl mps mrn all mgh gi mgk mpd mgs mst → k ge vpl gs gk sl c1 c2 c3 c4 g vf vl gh vpd gpd n bs on gn gsl tl ts mh msl msp mpl mps mrn all mgh gi mgk mpd mgs mst (J ((i + 3 : Nat) : Int)) = some 1) : F_law_c21 xs L k ge vpl gs gk sl c1 c2 c3 c4 g vf vl gh vpd gpd n bs on gn gsl tl ts mh msl msp mpl mps mrn all mgh gi mgk mpd mgs mst (J i) = some 1 := by
  obtain ⟨r, hl, hs, pl, px, sd, ss, H, Q, hpv, e1, h8, e2, h9, S8, S9, hts⟩ := HI
  have en := H.en
  have eb := H.eb
  have eo := H.eo
  subst en eb eo e1 e2
  obtain ⟨a, ha, ea⟩ := J_xs (xs (i + 1))
  have g3 : J i + 3 = J ((i + 3 : Nat) : Int) := by rw [L3, J_add]; rfl
  have g1 : J i + 1 = J ((i + 1 : Nat) : Int) := by rw [L1, J_add]; rfl
  have d1 : ¬ (J ((i + 1 : Nat) : Int) < 0 ∨ L ≤ (J ((i + 1 : Nat) : Int)).toNatClampNeg) := gd_ok (by omega) (by omega) (by omega)
  have q1 : ¬ (J ((i + 1 : Nat) : Int) < 0 ∨ L ≤ i + 1) := gd_ok2 (by omega) (by omega)
  have x1 : (J ((i + 1 : Nat) : Int)).toNatClampNeg = i + 1 := J_ix (i + 1) rfl (by omega)
  obtain ⟨ge', pl', gs', gk', sl', g', vf', vl', gh', n', bs', on', gn', K1, K2⟩ := P8_restore H S8 ha
  obtain ⟨vh', all', gh9', gk9', K3, K4⟩ := P9_restore Q S9 mgk ha
  unfold F_law_c21
  rw [g1, g3, if_pos d1, x1, ea, K2, Option.bind_some, if_pos q1, K4, Option.bind_some, if_pos rfl]
  exact hk _ _ _ _ _ _ _ _ _ _ _ _ _ _ _ _ _ _ _ _ _ _ _ _ _ _ _ _ _ _ _ _ _ _ _ ⟨_, _, _, pl, px, sd, ss, K1, K3, hpv, rfl, h8, rfl, h9, S8, S9, hts⟩
theorem Y_cd (HI : LI ge vpl gs gk sl c1 c2 c3 c4 g vf vl gh vpd gpd n bs on gn gsl tl ts mh msl msp mpl mps mrn all mgh gi mgk mpd mgs mst) (hk : ∀ ge vpl gs gk sl c1 c2 c3 c4 g vf vl gh vpd gpd n bs on gn gsl tl ts mh msl msp mpl mps mrn all mgh gi mgk mpd mgs mst, LI ge vpl gs gk sl c1 c2 c3 c4 g vf vl gh vpd gpd n bs on gn gsl tl ts mh msl msp mpl mps mrn all mgh gi mgk mpd mgs mst → k ge vpl gs gk sl c1 c2 c3 c4 g vf vl gh vpd gpd n bs on gn gsl tl ts mh msl msp mpl mps mrn all mgh gi mgk mpd mgs mst (J ((i + 3 : Nat) : Int)) = some 1) : F_law_cd xs L k ge vpl gs gk sl c1 c2 c3 c4 g vf vl gh vpd gpd n bs on gn gsl tl ts mh msl msp mpl mps mrn all mgh gi mgk mpd mgs mst (J i) = some 1 := by
  have g3 : J i + 3 = J ((i + 3 : Nat) : Int) := by rw [L3, J_add]; rfl
  unfold F_law_cd
  rw [g3]
  exact hk _ _ _ _ _ _ _ _ _ _ _ _ _ _ _ _ _ _ _ _ _ _ _ _ _ _ _ _ _ _ _ _ _ _ _ HI
theorem Y_law (hL : L ≤ 1536) : ∀ (m fuel i : Nat) (ge : Ar) (vpl : Int32) (gs : Ar) (gk : Ar) (sl : Int32) (c1 : Int32) (c2 : Int32) (c3 : Int32) (c4 : Int32) (g : Ar) (vf : Int32) (vl : Int32) (gh : Ar) (vpd : Int32) (gpd : Ar) (n : Int32) (bs : Int32) (on : Int32) (gn : Ar) (gsl : Ar) (tl : Int32) (ts : Ar) (mh : Int32) (msl : Int32) (msp : Int32) (mpl : Int32) (mps : Int32) (mrn : Int32) (all : Ar) (mgh : Ar) (gi : Ar) (mgk : Ar) (mpd : Ar) (mgs : Ar) (mst : Ar), L ≤ i + 3 * m → m < fuel → i ≤ L + 2 → LI ge vpl gs gk sl c1 c2 c3 c4 g vf vl gh vpd gpd n bs on gn gsl tl ts mh msl msp mpl mps mrn all mgh gi mgk mpd mgs mst → F_L_law_L18 xs L fuel ge vpl gs gk sl c1 c2 c3 c4 g vf vl gh vpd gpd n bs on gn gsl tl ts mh msl msp mpl mps mrn all mgh gi mgk mpd mgs mst (J i) = some 1 := by
  intro m
  induction m with
  | zero =>
    intro fuel i ge vpl gs gk sl c1 c2 c3 c4 g vf vl gh vpd gpd n bs on gn gsl tl ts mh msl msp mpl mps mrn all mgh gi mgk mpd mgs mst hm hf hi HI
    obtain ⟨fuel, rfl⟩ : ∃ f, fuel = f + 1 := ⟨fuel - 1, by omega⟩
    rw [F_L_law_L18, if_pos (by rw [J_nat, L3, J_sub, J_lt (by omega) (by omega) (by omega) (by omega)]; omega)]
  | succ m ih =>
    intro fuel i ge vpl gs gk sl c1 c2 c3 c4 g vf vl gh vpd gpd n bs on gn gsl tl ts mh msl msp mpl mps mrn all mgh gi mgk mpd mgs mst hm hf hi HI
    obtain ⟨fuel, rfl⟩ : ∃ f, fuel = f + 1 := ⟨fuel - 1, by omega⟩
    by_cases c : i + 2 < L
    · have hk : ∀ ge vpl gs gk sl c1 c2 c3 c4 g vf vl gh vpd gpd n bs on gn gsl tl ts mh msl msp mpl mps mrn all mgh gi mgk mpd mgs mst, LI ge vpl gs gk sl c1 c2 c3 c4 g vf vl gh vpd gpd n bs on gn gsl tl ts mh msl msp mpl mps mrn all mgh gi mgk mpd mgs mst → F_L_law_L18 xs L fuel ge vpl gs gk sl c1 c2 c3 c4 g vf vl gh vpd gpd n bs on gn gsl tl ts mh msl msp mpl mps mrn all mgh gi mgk mpd mgs mst (J ((i + 3 : Nat) : Int)) = some 1 := fun ge vpl gs gk sl c1 c2 c3 c4 g vf vl gh vpd gpd n bs on gn gsl tl ts mh msl msp mpl mps mrn all mgh gi mgk mpd mgs mst H => ih fuel (i + 3) ge vpl gs gk sl c1 c2 c3 c4 g vf vl gh vpd gpd n bs on gn gsl tl ts mh msl msp mpl mps mrn all mgh gi mgk mpd mgs mst (by omega) (by omega) (by omega) H
      rw [F_L_law_L18, if_neg (by rw [J_nat, L3, J_sub, J_lt (by omega) (by omega) (by omega) (by omega)]; omega), if_pos (gd_ok (by omega) (by omega) (by omega)), J_ix i rfl (by omega)]
      generalize xs i &&& 31 = cc
      by_cases z0 : cc = 0
      · rw [if_pos z0]
        exact Y_c0 HI c hL hk
      rw [if_neg z0]
      by_cases z1 : cc = 1
      · rw [if_pos z1]
        exact Y_c1 HI c hL hk
      rw [if_neg z1]
      by_cases z2 : cc = 2
      · rw [if_pos z2]
        exact Y_c2 HI c hL hk
      rw [if_neg z2]
      by_cases z3 : cc = 3
      · rw [if_pos z3]
        exact Y_c3 HI c hL hk
      rw [if_neg z3]
      by_cases z4 : cc = 4
      · rw [if_pos z4]
        exact Y_c4 HI c hL hk
      rw [if_neg z4]
      by_cases z5 : cc = 5
      · rw [if_pos z5]
        exact Y_c5 HI c hL hk
      rw [if_neg z5]
      by_cases z6 : cc = 6
      · rw [if_pos z6]
        exact Y_c6 HI c hL hk
      rw [if_neg z6]
      by_cases z7 : cc = 7
      · rw [if_pos z7]
        exact Y_c7 HI c hL hk
      rw [if_neg z7]
      by_cases z8 : cc = 8
      · rw [if_pos z8]
        exact Y_c8 HI c hL hk
      rw [if_neg z8]
      by_cases z9 : cc = 9
      · rw [if_pos z9]
        exact Y_c9 HI c hL hk
      rw [if_neg z9]
      by_cases z10 : cc = 10
      · rw [if_pos z10]
        exact Y_c10 HI c hL hk
      rw [if_neg z10]
      by_cases z11 : cc = 11
      · rw [if_pos z11]
        exact Y_c11 HI c hL hk
      rw [if_neg z11]
      by_cases z12 : cc = 12
      · rw [if_pos z12]
        exact Y_c12 HI c hL hk
      rw [if_neg z12]
      by_cases z13 : cc = 13
      · rw [if_pos z13]
        exact Y_c13 HI c hL hk
      rw [if_neg z13]
      by_cases z14 : cc = 14
      · rw [if_pos z14]
        exact Y_c14 HI c hL hk
      rw [if_neg z14]
      by_cases z15 : cc = 15
      · rw [if_pos z15]
        exact Y_c15 HI c hL hk
      rw [if_neg z15]
      by_cases z16 : cc = 16
      · rw [if_pos z16]
        exact Y_c16 HI c hL hk
      rw [if_neg z16]
      by_cases z17 : cc = 17
      · rw [if_pos z17]
        exact Y_c17 HI c hL hk
      rw [if_neg z17]
      by_cases z18 : cc = 18
      · rw [if_pos z18]
        exact Y_c18 HI c hL hk
      rw [if_neg z18]
      by_cases z19 : cc = 19
      · rw [if_pos z19]
        exact Y_c19 HI c hL hk
      rw [if_neg z19]
      by_cases z20 : cc = 20
      · rw [if_pos z20]
        exact Y_c20 HI c hL hk
      rw [if_neg z20]
      by_cases z21 : cc = 21
      · rw [if_pos z21]
        exact Y_c21 HI c hL hk
      rw [if_neg z21]
      exact Y_cd HI hk
    · rw [F_L_law_L18, if_pos (by rw [J_nat, L3, J_sub, J_lt (by omega) (by omega) (by omega) (by omega)]; omega)]
end LAW
-- the beginning
theorem CO_new : CO (fun _ => 0) 0 4 8 (fun _ => 0) 0 (fun _ => 0) (fun _ => 0) 0 (fun _ => 0) := by
  have e : s_nb 0 4 = 0 := by decide
  refine ⟨fun b hb => absurd hb (by rw [e]; omega), rfl, fun e _ => rfl, fun e he p hp => ?_, ?_, ?_⟩
  · obtain rfl : p = 0 := by omega
    rfl
  · unfold s_tot
    rw [e]
    rfl
  · rw [e]
    exact AL.nil _
theorem S_law {xs : Nat → Int32} {L : Nat} (hL : L ≤ 1536) : F_L_law_L18 xs L zFuel (fun _ => 0) 0 (fun _ => 0) (fun _ => 0) 0 0 0 0 (-1) (fun _ => 0) 0 0 (fun _ => 0) 0 (fun _ => 0) 0 4 8 (fun _ => 0) (fun _ => 0) 0 (fun _ => 0) 0 0 0 0 0 0 (upd (upd (fun _ => 0) 0 4) 1 8) (fun _ => 0) (fun _ => 0) (fun _ => 0) (fun _ => 0) (fun _ => 0) (fun _ => 0) 0 = some 1 := by
  obtain ⟨f2, hf2⟩ := zFuel_ge (n := 2000) (by omega)
  rw [hf2]
  refine Y_law hL 1000 (f2 + 2000) 0 _ _ _ _ _ _ _ _ _ _ _ _ _ _ _ _ _ _ _ _ _ _ _ _ _ _ _ _ _ _ _ _ _ _ _ (by omega) (by omega) (by omega) ?_
  refine ⟨(fun _ => 0, 0, 4, 8), 0, fun _ => (fun _ => 0, 0, 4, 8), 0, fun _ => 0, fun _ => false, fun _ => (fun _ => 0, 0, 4, 8), ⟨?_, rfl, rfl, rfl, fun i h => absurd h (Nat.not_lt_zero _), CO_new, ⟨0, by omega, rfl, rfl, by omega, fun k h => absurd h (by omega)⟩, fun k h => absurd h (by omega)⟩, ⟨?_, ⟨rfl, rfl, rfl, fun i h => absurd h (Nat.not_lt_zero _)⟩, ⟨rfl, by omega, fun k h => absurd h (by omega)⟩, fun k h => absurd h (by omega)⟩, ⟨by omega, fun i h => absurd h (by omega)⟩, rfl, fun i h => absurd h (by omega), rfl, fun i h => absurd h (by omega), fun s _ => ⟨rfl, fun h => Bool.noConfusion h⟩, fun s _ => ⟨rfl, fun h => Bool.noConfusion h⟩, fun e _ => rfl⟩
  · exact ⟨by decide, by decide, by decide, by decide, by decide, fun i h => absurd h (Nat.not_lt_zero i), fun i h => absurd h (Nat.not_lt_zero _)⟩
  · exact ⟨by decide, by decide, by decide, by decide, by decide, fun i h => absurd h (Nat.not_lt_zero i), fun i h => absurd h (Nat.not_lt_zero _)⟩
