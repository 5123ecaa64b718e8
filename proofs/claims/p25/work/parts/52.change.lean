-- the public changes, both sides
theorem J_nn {m : Nat} (h : m < 2147483648) : ¬ J m < 0 := by rw [L0, J_lt (by omega) (by omega) (by omega) (by omega)]; omega
theorem J_ng {z : Int} (h : -2147483648 ≤ z) (h0 : z < 0) : J z < 0 := by rw [L0, J_lt (by omega) (by omega) (by omega) (by omega)]; omega
def c_len (a : Int32) (hl : Nat) : Nat := if a < 0 then hl else h_len hl
def c_hs (a : Int32) (hl : Nat) (hs : Nat → RS) (r : RS) : Nat → RS := if a < 0 then hs else h_push hl hs r
theorem c_neg {a : Int32} (h : a < 0) (hl : Nat) (hs : Nat → RS) (r : RS) : c_len a hl = hl ∧ c_hs a hl hs r = hs := by unfold c_len c_hs; rw [if_pos h, if_pos h]; exact ⟨rfl, rfl⟩
theorem c_pos {a : Int32} (h : ¬ a < 0) (hl : Nat) (hs : Nat → RS) (r : RS) : c_len a hl = h_len hl ∧ c_hs a hl hs r = h_push hl hs r := by unfold c_len c_hs; rw [if_neg h, if_neg h]; exact ⟨rfl, rfl⟩
theorem h_hv {hl : Nat} {hs : Nat → RS} (hv : ∀ k, k < hl → RSv (hs k)) (h6 : hl ≤ 6) {r : RS} (hr : RSv r) : ∀ k, k < h_len hl → RSv (h_push hl hs r k) := by
  intro k hk
  unfold h_len at hk
  unfold h_push
  by_cases q : hl < 6
  · rw [if_pos q] at hk ⊢
    split
    · exact hr
    · exact hv k (by omega)
  · rw [if_neg q] at hk ⊢
    split
    · exact hr
    · exact hv (k + 1) (by omega)
theorem c_hv {hl : Nat} {hs : Nat → RS} (hv : ∀ k, k < hl → RSv (hs k)) (h6 : hl ≤ 6) {r : RS} (hr : RSv r) (a : Int32) : ∀ k, k < c_len a hl → RSv (c_hs a hl hs r k) := by
  by_cases q : a < 0
  · rw [(c_neg q hl hs r).1, (c_neg q hl hs r).2]; exact hv
  · rw [(c_pos q hl hs r).1, (c_pos q hl hs r).2]; exact h_hv hv h6 hr
def o_set (r : RS) (z w : Int) : Int32 × RS := ((d_set r.2.2.1 r.2.2.2 z w).1, r.1, r.2.1, (d_set r.2.2.1 r.2.2.2 z w).2.1, (d_set r.2.2.1 r.2.2.2 z w).2.2)
def o_put (r : RS) (z : Int) : Int32 × RS := ((d_put r.1 r.2.1 z).1, (d_put r.1 r.2.1 z).2.1, (d_put r.1 r.2.1 z).2.2, r.2.2.1, r.2.2.2)
def o_take (r : RS) (z : Int) : Int32 × RS := ((d_take r.1 r.2.1 z).1, (d_take r.1 r.2.1 z).2.1, (d_take r.1 r.2.1 z).2.2, r.2.2.1, r.2.2.2)
def o_sft (r : RS) (z d : Int) : Int32 × RS := ((d_sft r.1 r.2.1 r.2.2.1 r.2.2.2 z d).1, (d_sft r.1 r.2.1 r.2.2.1 r.2.2.2 z d).2, r.2.1, r.2.2.1, r.2.2.2)
theorem o_set_v {r : RS} (h : RSv r) (z w : Int) : RSv (o_set r z w).2 ∧ ((o_set r z w).1 < 0 → (o_set r z w).2 = r) := by
  refine ⟨h.setd z w, fun c => ?_⟩
  obtain ⟨x, n, bs, on⟩ := r
  unfold o_set at c ⊢
  obtain ⟨-, h1, h2, h3, h4, -, -⟩ := h
  by_cases q : a_setok z w
  · exfalso
    by_cases q0 : z = 0
    · rw [d_set_0 q q0] at c
      exact J_nn (by omega) c
    · rw [d_set_1 q q0] at c
      exact J_nn (by omega) c
  · rw [d_set_2 q]
theorem o_put_v {r : RS} (h : RSv r) (z : Int) : RSv (o_put r z).2 ∧ ((o_put r z).1 < 0 → (o_put r z).2 = r) := by
  refine ⟨h.put z, fun c => ?_⟩
  obtain ⟨x, n, bs, on⟩ := r
  have h64 : n ≤ 64 := h.1
  unfold o_put at c ⊢
  by_cases q : 0 ≤ z ∧ z ≤ 65535
  · by_cases q2 : n = 64
    · rw [d_put_4 q q2]
    · by_cases q3 : s_lo x z n < n ∧ (x (s_lo x z n) : Int) = z
      · rw [d_put_5 q q2 q3]
      · exfalso
        rw [d_put_0 q q2 q3] at c
        have := s_lo_le x z n
        exact J_nn (by omega) c
  · rw [d_put_2 q]
theorem o_take_v {r : RS} (h : RSv r) (z : Int) : RSv (o_take r z).2 ∧ ((o_take r z).1 < 0 → (o_take r z).2 = r) := by
  refine ⟨h.take z, fun c => ?_⟩
  obtain ⟨x, n, bs, on⟩ := r
  have h64 : n ≤ 64 := h.1
  unfold o_take at c ⊢
  by_cases q : 0 ≤ z ∧ z ≤ 65535
  · by_cases q3 : s_lo x z n < n ∧ (x (s_lo x z n) : Int) = z
    · exfalso
      rw [d_take_0 q q3] at c
      exact J_nn (m := s_lo x z n) (by omega) c
    · rw [d_take_1 q q3]
  · rw [d_take_2 q]
def CR (r : RS) (hl : Nat) (hs : Nat → RS) (ge : Ar) (pl : Int32) (gs gk : Ar) (sl : Int32) (g : Ar) (vf vl : Int32) (gh : Ar) (n bs on : Int32) (gn : Ar) : Prop :=
  RSv r ∧ n = J r.2.1 ∧ bs = J r.2.2.1 ∧ on = J r.2.2.2 ∧ RA r.1 r.2.1 gn ∧ CO r.1 r.2.1 r.2.2.1 r.2.2.2 ge pl gs gk sl g ∧ HC vf vl gh hl hs ∧ ∀ k, k < hl → RSv (hs k)
section CRS
variable {r : RS} {hl : Nat} {hs : Nat → RS} {ge : Ar} {pl : Int32} {gs gk : Ar} {sl : Int32} {g : Ar} {vf vl : Int32} {gh : Ar} {n bs on : Int32} {gn : Ar}
theorem CR.v (H : CR r hl hs ge pl gs gk sl g vf vl gh n bs on gn) : RSv r := H.1
theorem CR.en (H : CR r hl hs ge pl gs gk sl g vf vl gh n bs on gn) : n = J r.2.1 := H.2.1
theorem CR.eb (H : CR r hl hs ge pl gs gk sl g vf vl gh n bs on gn) : bs = J r.2.2.1 := H.2.2.1
theorem CR.eo (H : CR r hl hs ge pl gs gk sl g vf vl gh n bs on gn) : on = J r.2.2.2 := H.2.2.2.1
theorem CR.ra (H : CR r hl hs ge pl gs gk sl g vf vl gh n bs on gn) : RA r.1 r.2.1 gn := H.2.2.2.2.1
theorem CR.co (H : CR r hl hs ge pl gs gk sl g vf vl gh n bs on gn) : CO r.1 r.2.1 r.2.2.1 r.2.2.2 ge pl gs gk sl g := H.2.2.2.2.2.1
theorem CR.hc (H : CR r hl hs ge pl gs gk sl g vf vl gh n bs on gn) : HC vf vl gh hl hs := H.2.2.2.2.2.2.1
theorem CR.hv (H : CR r hl hs ge pl gs gk sl g vf vl gh n bs on gn) : ∀ k, k < hl → RSv (hs k) := H.2.2.2.2.2.2.2
end CRS
theorem CR.h6 {r : RS} {hl : Nat} {hs : Nat → RS} {ge : Ar} {pl : Int32} {gs gk : Ar} {sl : Int32} {g : Ar} {vf vl : Int32} {gh : Ar} {n bs on : Int32} {gn : Ar} (H : CR r hl hs ge pl gs gk sl g vf vl gh n bs on gn) : hl ≤ 6 := by
  obtain ⟨f, _, _, _, h, _⟩ := H.hc
  exact h
theorem S_settle {r r' : RS} {hl : Nat} {hs : Nat → RS} {ge : Ar} {pl : Int32} {gs gk : Ar} {sl : Int32} {g : Ar} {vf vl : Int32} {gh : Ar} {n bs on : Int32} {gn : Ar} (H : CR r hl hs ge pl gs gk sl g vf vl gh n bs on gn) {gh' gn' : Ar} {f : Nat} (hf : f < 7) (ef : vf = J f) (hst : ST gh' (f * 68) r) (hc : HC vf vl gh' hl hs) (hv' : RSv r') (hg' : RA r'.1 r'.2.1 gn') {a : Int32} (he : a < 0 → r' = r) :
    ∃ ge' pl' gs' gk' sl' g' vf' vl', CR r' (c_len a hl) (c_hs a hl hs r) ge' pl' gs' gk' sl' g' vf' vl' gh' (J r'.2.1) (J r'.2.2.1) (J r'.2.2.2) gn' ∧ F_X8_settle ge pl gs gk sl g vf vl (J r'.2.1) (J r'.2.2.1) (J r'.2.2.2) gn' a = some (a, ge', pl', gs', gk', sl', g', vf', vl') := by
  have e := c_hv H.hv H.h6 H.v a
  by_cases q : a < 0
  · refine ⟨ge, pl, gs, gk, sl, g, vf, vl, ⟨hv', rfl, rfl, rfl, hg', ?_, ?_, e⟩, ?_⟩
    · rw [he q]; exact H.co
    · rw [(c_neg q hl hs r).1, (c_neg q hl hs r).2]; exact hc
    · unfold F_X8_settle; rw [if_pos q]
  · obtain ⟨vf', vl', k1, k2⟩ := S_keepNoted hc hf ef hst
    obtain ⟨ge', gs', gk', g', k3, k4⟩ := S_codeAnew (ge := ge) (gk := gk) (g := g) (pl := pl) (sl := sl) hv' hg' H.co.2.2.1
    refine ⟨ge', _, gs', gk', _, g', vf', vl', ⟨hv', rfl, rfl, rfl, hg', k3, ?_, e⟩, ?_⟩
    · rw [(c_pos q hl hs r).1, (c_pos q hl hs r).2]; exact k1
    · unfold F_X8_settle; rw [if_neg q, k2, Option.bind_some, k4]; rfl
section CHG8
variable {r : RS} {hl : Nat} {hs : Nat → RS} {ge : Ar} {pl : Int32} {gs gk : Ar} {sl : Int32} {g : Ar} {vf vl : Int32} {gh : Ar} {n bs on : Int32} {gn : Ar}
theorem P8_set (H : CR r hl hs ge pl gs gk sl g vf vl gh n bs on gn) {z w : Int} (hz : -2147483648 ≤ z ∧ z < 2147483648) (hw : -2147483648 ≤ w ∧ w < 2147483648) :
    ∃ ge' pl' gs' gk' sl' g' vf' vl' gh' bs' on', CR (o_set r z w).2 (c_len (o_set r z w).1 hl) (c_hs (o_set r z w).1 hl hs r) ge' pl' gs' gk' sl' g' vf' vl' gh' n bs' on' gn ∧ F_X8_set ge pl gs gk sl g vf vl gh n bs on gn (J z) (J w) = some ((o_set r z w).1, ge', pl', gs', gk', sl', g', vf', vl', gh', bs', on') := by
  have en := H.en
  have eb := H.eb
  have eo := H.eo
  subst en eb eo
  have hv := o_set_v H.v z w
  obtain ⟨gh', f, hf, ef, hst, hc, e1⟩ := S_note H.hc H.hv H.v H.ra
  obtain ⟨ge', pl', gs', gk', sl', g', vf', vl', k1, k2⟩ := S_settle (r' := (o_set r z w).2) H hf ef hst hc hv.1 (gn' := gn) H.ra (a := (o_set r z w).1) hv.2
  refine ⟨ge', pl', gs', gk', sl', g', vf', vl', gh', J (o_set r z w).2.2.2.1, J (o_set r z w).2.2.2.2, ?_, ?_⟩
  rotate_left
  · unfold F_X8_set
    rw [e1, Option.bind_some, S_set8 hz hw, Option.bind_some]
    exact (congrArg (fun o => Option.bind o _) k2).trans rfl
  · exact k1
theorem P8_putIn (H : CR r hl hs ge pl gs gk sl g vf vl gh n bs on gn) {z : Int} (hz : -2147483648 ≤ z ∧ z < 2147483648) :
    ∃ ge' pl' gs' gk' sl' g' vf' vl' gh' n' gn', CR (o_put r z).2 (c_len (o_put r z).1 hl) (c_hs (o_put r z).1 hl hs r) ge' pl' gs' gk' sl' g' vf' vl' gh' n' bs on gn' ∧ F_X8_putIn ge pl gs gk sl g vf vl gh n bs on gn (J z) = some ((o_put r z).1, ge', pl', gs', gk', sl', g', vf', vl', gh', n', gn') := by
  have en := H.en
  have eb := H.eb
  have eo := H.eo
  subst en eb eo
  have hv := o_put_v H.v z
  obtain ⟨gh', f, hf, ef, hst, hc, e1⟩ := S_note H.hc H.hv H.v H.ra
  obtain ⟨gn', hg', e2⟩ := S_put8 H.v H.ra hz
  obtain ⟨ge', pl', gs', gk', sl', g', vf', vl', k1, k2⟩ := S_settle (r' := (o_put r z).2) H hf ef hst hc hv.1 (gn' := gn') hg' (a := (o_put r z).1) hv.2
  refine ⟨ge', pl', gs', gk', sl', g', vf', vl', gh', J (o_put r z).2.2.1, gn', ?_, ?_⟩
  rotate_left
  · unfold F_X8_putIn
    rw [e1, Option.bind_some, e2, Option.bind_some]
    exact (congrArg (fun o => Option.bind o _) k2).trans rfl
  · exact k1
theorem P8_takeOut (H : CR r hl hs ge pl gs gk sl g vf vl gh n bs on gn) {z : Int} (hz : -2147483648 ≤ z ∧ z < 2147483648) :
    ∃ ge' pl' gs' gk' sl' g' vf' vl' gh' n' gn', CR (o_take r z).2 (c_len (o_take r z).1 hl) (c_hs (o_take r z).1 hl hs r) ge' pl' gs' gk' sl' g' vf' vl' gh' n' bs on gn' ∧ F_X8_takeOut ge pl gs gk sl g vf vl gh n bs on gn (J z) = some ((o_take r z).1, ge', pl', gs', gk', sl', g', vf', vl', gh', n', gn') := by
  have en := H.en
  have eb := H.eb
  have eo := H.eo
  subst en eb eo
  have hv := o_take_v H.v z
  obtain ⟨gh', f, hf, ef, hst, hc, e1⟩ := S_note H.hc H.hv H.v H.ra
  obtain ⟨gn', hg', e2⟩ := S_take8 H.v H.ra hz
  obtain ⟨ge', pl', gs', gk', sl', g', vf', vl', k1, k2⟩ := S_settle (r' := (o_take r z).2) H hf ef hst hc hv.1 (gn' := gn') hg' (a := (o_take r z).1) hv.2
  refine ⟨ge', pl', gs', gk', sl', g', vf', vl', gh', J (o_take r z).2.2.1, gn', ?_, ?_⟩
  rotate_left
  · unfold F_X8_takeOut
    rw [e1, Option.bind_some, e2, Option.bind_some]
    exact (congrArg (fun o => Option.bind o _) k2).trans rfl
  · exact k1
theorem o_sft_v {r : RS} (h : RSv r) (z d : Int) : RSv (o_sft r z d).2 ∧ ((o_sft r z d).1 < 0 → (o_sft r z d).2 = r) := by
  refine ⟨h.sftd z d, fun c => ?_⟩
  obtain ⟨x, n, bs, on⟩ := r
  unfold o_sft at c ⊢
  by_cases h1 : 0 ≤ z ∧ z < n
  · by_cases h2 : -65535 ≤ d ∧ d ≤ 65535
    · obtain ⟨p, rfl⟩ : ∃ i : Nat, z = i := ⟨z.toNat, by omega⟩
      by_cases h3 : s_sok x n p d
      · exfalso
        rw [d_sft_0 h1 h2 h3] at c
        have h' : RV x n bs on := h
        have := s_tot_le (h'.sft (by omega) h3).1
        exact J_nn (m := s_tot on (s_gp (x_sft x p d)) n bs) (by omega) c
      · rw [d_sft_5 h1 h2 h3]
    · rw [d_sft_2 h1 h2]
  · rw [d_sft_1 h1]
theorem P8_shift (H : CR r hl hs ge pl gs gk sl g vf vl gh n bs on gn) {z d : Int} (hz : -2147483648 ≤ z ∧ z < 2147483648) (hd : -2147483648 ≤ d ∧ d < 2147483648) :
    ∃ ge' pl' gs' gk' sl' g' vf' vl' gh' gn', CR (o_sft r z d).2 (c_len (o_sft r z d).1 hl) (c_hs (o_sft r z d).1 hl hs r) ge' pl' gs' gk' sl' g' vf' vl' gh' n bs on gn' ∧ F_X8_shift ge pl gs gk sl g vf vl gh n bs on gn (J z) (J d) = some ((o_sft r z d).1, ge', pl', gs', gk', sl', g', vf', vl', gh', gn') := by
  have en := H.en
  have eb := H.eb
  have eo := H.eo
  subst en eb eo
  have hn : r.2.1 ≤ 64 := H.v.1
  have hE : ∀ (a : Int32), a < 0 → o_sft r z d = (a, r) → ∃ ge' pl' gs' gk' sl' g' vf' vl' gh' gn', CR (o_sft r z d).2 (c_len (o_sft r z d).1 hl) (c_hs (o_sft r z d).1 hl hs r) ge' pl' gs' gk' sl' g' vf' vl' gh' (J r.2.1) (J r.2.2.1) (J r.2.2.2) gn' ∧ some (a, ge, pl, gs, gk, sl, g, vf, vl, gh, gn) = some ((o_sft r z d).1, ge', pl', gs', gk', sl', g', vf', vl', gh', gn') := by
    intro a ha e
    rw [e, (c_neg ha hl hs r).1, (c_neg ha hl hs r).2]
    exact ⟨ge, pl, gs, gk, sl, g, vf, vl, gh, gn, H, rfl⟩
  unfold F_X8_shift
  rw [S_hasPlace5 hz.1 hz.2 (by omega), Option.bind_some]
  by_cases h1 : 0 ≤ z ∧ z < r.2.1
  · obtain ⟨p, rfl⟩ : ∃ i : Nat, z = i := ⟨z.toNat, by omega⟩
    rw [z_t h1, Lm65535, jf_lt (by omega) (by omega) (by omega) (by omega)]
    by_cases h2 : -65535 ≤ d ∧ d ≤ 65535
    · have hx := H.v.2.2.2.2.2.1 p (by omega)
      have hxl := H.v.2.2.2.2.2.1 (r.2.1 - 1) (by omega)
      have hna : -1 ≤ s_na r.1 p ∧ s_na r.1 p < 65536 := by
        unfold s_na
        split
        · omega
        · have := H.v.2.2.2.2.2.1 (p - 1) (by omega); omega
      rw [if_neg (by omega), L65535, jf_le (by omega) (by omega) (by omega) (by omega), if_pos h2.2, S_number p rfl (by omega), Option.bind_some, J_sub1, S_number (r.2.1 - 1) (by omega) (by omega), Option.bind_some, S_numberAhead H.ra p rfl (by omega) hn, Option.bind_some, H.ra p (by omega), H.ra (r.2.1 - 1) (by omega), J_add, J_add, jf_le (by omega) (by omega) (by omega) (by omega), jf_le (by omega) (by omega) (by omega) (by omega)]
      by_cases h3 : s_sok r.1 r.2.1 p d
      · have h4 := h3.1
        have h5 := h3.2
        have e0 : o_sft r p d = (J (s_tot r.2.2.2 (s_gp (x_sft r.1 p d)) r.2.1 r.2.2.1), x_sft r.1 p d, r.2.1, r.2.2.1, r.2.2.2) := by unfold o_sft; rw [d_sft_0 h1 h2 h3]
        have hv := (H.v.sft (by omega) h3).1
        obtain ⟨gh', f, hf, ef, hst, hc, e1⟩ := S_note H.hc H.hv H.v H.ra
        obtain ⟨gn', hg', e2⟩ := S_raise H.v H.ra (p := p) (by omega) h3
        obtain ⟨ge', pl', gs', gk', sl', g', vf', vl', k1, k2⟩ := S_settle (r' := (x_sft r.1 p d, r.2.1, r.2.2.1, r.2.2.2)) H hf ef hst hc hv (gn' := gn') hg' (a := 0) (fun c => absurd c (by decide))
        rw [if_neg (by omega), if_pos h5, e1, Option.bind_some, e2, Option.bind_some]
        have q0 : ¬ (0 : Int32) < 0 := by decide
        have q1 : ¬ J (s_tot r.2.2.2 (s_gp (x_sft r.1 p d)) r.2.1 r.2.2.1) < 0 := J_nn (by have := s_tot_le hv; omega)
        have es : sl' = J (s_tot r.2.2.2 (s_gp (x_sft r.1 p d)) r.2.1 r.2.2.1) := k1.co.2.2.2.2.1
        rw [(c_pos q0 hl hs r).1, (c_pos q0 hl hs r).2] at k1
        refine ⟨ge', pl', gs', gk', sl', g', vf', vl', gh', gn', ?_, ?_⟩
        · rw [e0, (c_pos q1 hl hs r).1, (c_pos q1 hl hs r).2]
          exact k1
        · rw [e0, ← es]
          exact (congrArg (fun o => Option.bind o _) k2).trans rfl
      · have e0 : o_sft r p d = (-5, r) := by unfold o_sft; rw [d_sft_5 h1 h2 h3]
        by_cases c1 : (r.1 p : Int) + d ≤ s_na r.1 p
        · rw [if_pos c1]; exact hE (-5) (by decide) e0
        · rw [if_neg c1, if_neg (fun c => h3 ⟨by omega, c⟩)]; exact hE (-5) (by decide) e0
    · have e0 : o_sft r p d = (-2, r) := by unfold o_sft; rw [d_sft_2 h1 h2]
      by_cases c1 : d < -65535
      · rw [if_pos c1]; exact hE (-2) (by decide) e0
      · rw [if_neg c1, L65535, jf_le (by omega) (by omega) (by omega) (by omega), if_neg (by omega)]; exact hE (-2) (by decide) e0
  · rw [z_f h1]
    exact hE (-1) (by decide) (by unfold o_sft; rw [d_sft_1 h1])
end CHG8
-- the reference's changes
def MR (r : RS) (hl : Nat) (hs : Nat → RS) (vh : Int32) (all gh : Ar) : Prop := RSv r ∧ MA r.1 r.2.1 r.2.2.1 r.2.2.2 all ∧ HM vh gh hl hs ∧ ∀ k, k < hl → RSv (hs k)
section CHG9
variable {r : RS} {hl : Nat} {hs : Nat → RS} {vh : Int32} {all gh gk : Ar}
theorem MR.ms (M : MR r hl hs vh all gh) : MS all 0 r := MS.ma.2 M.2.1
end CHG9
