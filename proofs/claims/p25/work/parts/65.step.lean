-- isStep answers 1, and leaves the class in good order
def SQ (o : Option (Int32 × Ar × Int32 × Ar × Ar × Int32 × Int32 × Int32 × Int32 × Int32 × Ar × Int32 × Int32 × Ar × Int32 × Int32 × Int32 × Ar × Int32 × Ar)) : Prop :=
  ∃ (r : RS) (hl : Nat) (hs : Nat → RS) (ge : Ar) (pl : Int32) (gs gk : Ar) (sl d1 d2 d3 d4 : Int32) (g : Ar) (vf vl : Int32) (gh : Ar) (n bs on : Int32) (gn : Ar) (tl : Int32) (ts : Ar), CR r hl hs ge pl gs gk sl g vf vl gh n bs on gn ∧ PZ ts ∧ o = some (1, ge, pl, gs, gk, sl, d1, d2, d3, d4, g, vf, vl, gh, n, bs, on, gn, tl, ts)
section STEP
variable {r : RS} {hl : Nat} {hs : Nat → RS} {ge : Ar} {pl : Int32} {gs gk : Ar} {sl : Int32} {g : Ar} {vf vl : Int32} {gh : Ar} {n bs on : Int32} {gn ts : Ar}
theorem SQ.mk (H : CR r hl hs ge pl gs gk sl g vf vl gh n bs on gn) (hts : PZ ts) (d1 d2 d3 d4 tl : Int32) : SQ (some (1, ge, pl, gs, gk, sl, d1, d2, d3, d4, g, vf, vl, gh, n, bs, on, gn, tl, ts)) :=
  ⟨r, hl, hs, ge, pl, gs, gk, sl, d1, d2, d3, d4, g, vf, vl, gh, n, bs, on, gn, tl, ts, H, hts, rfl⟩
theorem CR.cnt (H : CR r hl hs ge pl gs gk sl g vf vl gh n bs on gn) (p : Nat) (w : Int32) : F_X8_count ge sl vl (J p) n bs on gn w = some (a_count r.1 r.2.1 r.2.2.1 r.2.2.2 p hl w) := by
  obtain ⟨f, -, -, e, -⟩ := H.hc
  rw [H.en, H.eb, H.eo, e]
  exact S_count8 H.v H.ra H.co w
theorem CR.aat (H : CR r hl hs ge pl gs gk sl g vf vl gh n bs on gn) {z : Int} (hz : -2147483648 ≤ z ∧ z < 2147483648) (w a1 a2 a3 a4 : Int32) : ∃ c1 c2 c3 c4, F_X8_at gk sl a1 a2 a3 a4 g n bs on gn (J z) w = some (a_at r.1 r.2.1 r.2.2.1 r.2.2.2 z w, c1, c2, c3, c4) := by
  rw [H.en, H.eb, H.eo]
  exact S_at8 H.v H.ra H.co hz w a1 a2 a3 a4
theorem CR.fnd (H : CR r hl hs ge pl gs gk sl g vf vl gh n bs on gn) {q : Int} (hq : 0 ≤ q ∧ q ≤ 65535) (w : Int32) (wi : Int) (hw : 0 ≤ wi ∧ wi ≤ 3) (ew : w = J wi) (a1 a2 a3 a4 : Int32) : ∃ c1 c2 c3 c4, F_X8_find gk sl a1 a2 a3 a4 g n bs on gn (J q) w = some (a_find r.1 r.2.1 r.2.2.1 r.2.2.2 q wi, c1, c2, c3, c4) := by
  rw [H.en, H.eb, H.eo]
  exact f_find H.v H.ra H.co hq w wi hw ew a1 a2 a3 a4
theorem CR.gap (H : CR r hl hs ge pl gs gk sl g vf vl gh n bs on gn) {z : Int} (hz : -2147483648 ≤ z ∧ z < 2147483648) (w : Int32) : F_X8_gap ge gs gk n bs on gn (J z) w = some (a_gap r.1 r.2.1 r.2.2.1 r.2.2.2 z w) := by
  rw [H.en, H.eb, H.eo]
  exact S_gap8 H.v H.ra H.co hz w
theorem s_lo_eq {x : Nat → Nat} {n bs on : Nat} (h : RV x n bs on) {q : Int} {p : Nat} (hp : p ≤ n) (h1 : ∀ i, i < p → (x i : Int) < q) (h2 : ∀ i, p ≤ i → i < n → q ≤ (x i : Int)) : s_lo x q n = p := by
  have hle := s_lo_le x q n
  rcases Nat.lt_trichotomy (s_lo x q n) p with c | c | c
  · have := (s_lo_at q h (s_lo x q n) (by omega)).mp (h1 _ c)
    omega
  · exact c
  · have := (s_lo_at q h p (by omega)).mpr c
    have := h2 p (Nat.le_refl _) (by omega)
    omega
theorem s_lo_self {x : Nat → Nat} {n bs on : Nat} (h : RV x n bs on) {p : Nat} (hp : p < n) : s_lo x (x p) n = p :=
  s_lo_eq h (by omega) (fun i hi => by have := h.lt hi hp; omega) (fun i h1 h2 => by
    by_cases e : i = p
    · subst e; omega
    · have := h.lt (show p < i by omega) h2; omega)
theorem x_rem_lo {x : Nat → Nat} {n bs on : Nat} (h : RV x n bs on) {p : Nat} (hp : p < n) : s_lo (x_rem x p) (x p) (n - 1) = p ∧ ¬ (s_lo (x_rem x p) (x p) (n - 1) < n - 1 ∧ (x_rem x p (s_lo (x_rem x p) (x p) (n - 1)) : Int) = x p) := by
  have hge : ∀ i, p ≤ i → i < n - 1 → x p < x_rem x p i := fun i h1 h2 => by
    unfold x_rem
    rw [if_neg (by omega)]
    exact h.lt (by omega) (by omega)
  have e : s_lo (x_rem x p) (x p) (n - 1) = p := s_lo_eq (h.rem hp) (by omega) (fun i hi => by
    unfold x_rem
    rw [if_pos hi]
    have := h.lt hi hp; omega) (fun i h1 h2 => by have := hge i h1 h2; omega)
  refine ⟨e, fun c => ?_⟩
  rw [e] at c
  have := hge p (Nat.le_refl _) c.1
  omega
theorem x_sft_gp {x : Nat → Nat} {n bs on : Nat} (h : RV x n bs on) {p : Nat} (hp : p < n) {d : Int} (hd : s_sok x n p d) : (s_gp (x_sft x p d) p : Int) = s_gp x p + d := by
  have h1 := (h.sft hp hd).2 p (Nat.le_refl _) hp
  have h2 := hd.1
  have h3 := (h.gp hp).2
  have e1 : x_sft x p d p = ((x p : Int) + d).toNat := by unfold x_sft; rw [if_neg (by omega)]
  by_cases c : p = 0
  · subst c
    have e2 : s_gp (x_sft x 0 d) 0 = x_sft x 0 d 0 := rfl
    have e3 : s_gp x 0 = x 0 := rfl
    rw [e2, e1, e3]
    omega
  · have e4 : x_sft x p d (p - 1) = x (p - 1) := by unfold x_sft; rw [if_pos (by omega)]
    unfold s_na at h2
    rw [if_neg c] at h2
    unfold s_na at h3
    rw [if_neg c] at h3
    have e5 : s_gp (x_sft x p d) p = x_sft x p d p - x_sft x p d (p - 1) - 1 := by unfold s_gp; rw [if_neg c]
    rw [e5, e1, e4]
    omega
theorem x_sft_at {x : Nat → Nat} {n bs on : Nat} (h : RV x n bs on) {p : Nat} (hp : p < n) {d : Int} (hd : s_sok x n p d) {i : Nat} (h1 : p ≤ i) (h2 : i < n) : (x_sft x p d i : Int) = x i + d := by
  have h3 := (h.sft hp hd).2 i h1 h2
  unfold x_sft
  rw [if_neg (by omega)]
  omega
theorem Z_J53 (H : CR r hl hs ge pl gs gk sl g vf vl gh n bs on gn) (hts : PZ ts) {v : Nat} (hv : v < 65536) {p : Nat} (c1 c2 c3 c4 tl : Int32) {i3 : Int32} (e3 : i3 = J r.2.1) : SQ (F_L_isStep_J53 ge pl gs gk sl c1 c2 c3 c4 g vf vl gh (J p) n bs on gn tl ts i3 (J v)) := by
  have hq : 0 ≤ (v : Int) ∧ (v : Int) ≤ 65535 := by omega
  have h64 : r.2.1 ≤ 64 := H.v.1
  have hlo := s_lo_le r.1 v r.2.1
  obtain ⟨a1, a2, a3, a4, ef⟩ := H.fnd hq 0 0 (by omega) rfl c1 c2 c3 c4
  obtain ⟨b1, b2, b3, b4, ef2⟩ := H.fnd hq 1 1 (by omega) rfl a1 a2 a3 a4
  obtain ⟨ge', pl', gs', gk', sl', g', vf', vl', gh', n', gn', K1, K2⟩ := P8_putIn H (z := v) (by omega)
  unfold F_L_isStep_J53
  rw [ef, Option.bind_some, ef2, Option.bind_some, K2, Option.bind_some, a_find_0 hq, a_find_1 hq]
  by_cases q2 : r.2.1 = 64
  · have eo : (o_put r v).1 = -4 := by unfold o_put; rw [d_put_4 hq q2]
    rw [eo, if_pos rfl, e3, q2, if_pos (show J ((64 : Nat) : Int) = 64 from rfl)]
    rw [eo] at K1
    exact SQ.mk K1 hts _ _ _ _ _
  · by_cases q3 : s_lo r.1 v r.2.1 < r.2.1 ∧ (r.1 (s_lo r.1 v r.2.1) : Int) = v
    · have eo : o_put r v = (-5, r) := by unfold o_put; rw [d_put_5 hq q2 q3]
      rw [eo] at K1 ⊢
      rw [if_neg (show ¬ (-5 : Int32) = -4 by decide), if_pos q3]
      unfold F_L_isStep_J94
      rw [if_pos rfl, if_pos rfl, K1.cnt, Option.bind_some, ct0, e3, if_pos rfl]
      exact SQ.mk K1 hts _ _ _ _ _
    · have eo : o_put r v = (J (s_lo r.1 v r.2.1), x_ins r.1 (s_lo r.1 v r.2.1) v, r.2.1 + 1, r.2.2.1, r.2.2.2) := by unfold o_put; rw [d_put_0 hq q2 q3, Int.toNat_natCast]
      rw [eo] at K1 ⊢
      obtain ⟨d1, d2, d3, d4, ea⟩ := K1.aat (z := s_lo r.1 v r.2.1) (by omega) 0 b1 b2 b3 b4
      have hx : x_ins r.1 (s_lo r.1 v r.2.1) v (s_lo r.1 v r.2.1) = v := by unfold x_ins; rw [if_neg (by omega), if_pos rfl]
      rw [if_neg (by rw [Lm4, J_eq (by omega) (by omega) (by omega) (by omega)]; omega), if_neg q3]
      unfold F_L_isStep_J94
      rw [if_neg (show ¬ (0 : Int32) = 1 by decide), if_pos rfl, K1.cnt, Option.bind_some, ct0, e3, J_add1, if_pos (by norm_cast), ea, Option.bind_some, at0 rfl (by show _ < r.2.1 + 1; omega), if_pos (show J (x_ins r.1 (s_lo r.1 v r.2.1) v (s_lo r.1 v r.2.1)) = J v by rw [hx])]
      exact SQ.mk K1 hts _ _ _ _ _
theorem Z_J411 (H : CR r hl hs ge pl gs gk sl g vf vl gh n bs on gn) (hts : PZ ts) {s m : Nat} (hsm : (s = 0 ∧ m = 16) ∨ (s = 1 ∧ m = 30)) {p : Nat} (c1 c2 c3 c4 tl k1 : Int32) : SQ (F_L_isStep_J411 ge pl gs gk sl c1 c2 c3 c4 g vf vl gh (J p) n bs on gn tl ts (J s) 1 k1 (J m)) := by
  have h64 : r.2.1 ≤ 64 := H.v.1
  obtain ⟨u, hu, eu⟩ := S_up k1 (show 0 < m by omega) (by omega)
  have hok : a_setok s ((1 : Int) + u) := by
    rcases hsm with ⟨e1, e2⟩ | ⟨e1, e2⟩
    · exact Or.inl (by omega)
    · exact Or.inr (by omega)
  obtain ⟨tl', ts', hp', ew⟩ := S_with8 H.v H.ra H.co (tl := tl) hts (z := s) (w := 1 + u) (by omega) (by omega)
  rw [← H.en, ← H.eb] at ew
  obtain ⟨ge', pl', gs', gk', sl', g', vf', vl', gh', bs', on', K1, K2⟩ := P8_set H (z := s) (w := 1 + u) (by omega) (by omega)
  have hb1 := H.v.2.1
  have hb2 := H.v.2.2.1
  have ho1 := H.v.2.2.2.1
  have ho2 := H.v.2.2.2.2.1
  have hpos : ¬ (o_set r s (1 + u)).1 ≤ 0 := by
    unfold o_set
    by_cases c : (s : Int) = 0
    · rw [d_set_0 hok c]
      show ¬ J r.2.2.1 ≤ 0
      rw [L0, J_le (by omega) (by omega) (by omega) (by omega)]; omega
    · rw [d_set_1 hok c]
      show ¬ J r.2.2.2 ≤ 0
      rw [L0, J_le (by omega) (by omega) (by omega) (by omega)]; omega
  have htot : J (s_tot (o_set r s (1 + u)).2.2.2.2 (s_gp (o_set r s (1 + u)).2.1) (o_set r s (1 + u)).2.2.1 (o_set r s (1 + u)).2.2.2.1) = a_with r.1 r.2.1 r.2.2.1 r.2.2.2 s (1 + u) := by
    unfold a_with s_with o_set
    rw [if_pos hok]
    by_cases c : (s : Int) = 0
    · rw [d_set_0 hok c, if_pos c]
    · rw [d_set_1 hok c, if_neg c]
  unfold F_L_isStep_J411
  rw [eu, Option.bind_some, L1, J_add, ew, Option.bind_some, K2, Option.bind_some, if_neg hpos, K1.cnt, Option.bind_some, ct2, htot, if_pos rfl]
  exact SQ.mk K1 hp' _ _ _ _ _
theorem Z_J388 (H : CR r hl hs ge pl gs gk sl g vf vl gh n bs on gn) (hts : PZ ts) {p : Nat} (c1 c2 c3 c4 tl i2 : Int32) : SQ (F_L_isStep_J388 ge pl gs gk sl c1 c2 c3 c4 g vf vl gh (J p) n bs on gn tl ts i2) := by
  obtain ⟨u, hu, eu⟩ : ∃ u : Nat, u < 2 ∧ F_L_up i2 2 = some (J u) := S_up i2 (n := 2) (by omega) (by omega)
  unfold F_L_isStep_J388
  rw [eu, Option.bind_some]
  by_cases c : u = 0
  · subst c
    rw [if_pos (by rfl)]
    exact Z_J411 H hts (s := 0) (m := 16) (Or.inl ⟨rfl, rfl⟩) c1 c2 c3 c4 tl _
  · have e : u = 1 := by omega
    subst e
    rw [if_neg (by decide)]
    exact Z_J411 H hts (s := 1) (m := 30) (Or.inr ⟨rfl, rfl⟩) c1 c2 c3 c4 tl _
theorem Z_take (H : CR r hl hs ge pl gs gk sl g vf vl gh n bs on gn) (hts : PZ ts) {u p : Nat} (hu : u < r.2.1) (c1 c2 c3 c4 tl : Int32) : SQ (Option.bind (F_X8_at gk sl c1 c2 c3 c4 g n bs on gn (J u) 0) (fun u34 => (Option.bind (F_X8_takeOut ge pl gs gk sl g vf vl gh n bs on gn u34.1) (fun u36 => (if u36.1 = (J u) then (Option.bind (F_X8_count u36.2.1 u36.2.2.2.2.2.1 u36.2.2.2.2.2.2.2.2.1 (J p) u36.2.2.2.2.2.2.2.2.2.2.1 bs on u36.2.2.2.2.2.2.2.2.2.2.2 0) (fun u39 => (if u39 = ((J r.2.1) - 1) then (Option.bind (F_X8_find u36.2.2.2.2.1 u36.2.2.2.2.2.1 u34.2.1 u34.2.2.1 u34.2.2.2.1 u34.2.2.2.2 u36.2.2.2.2.2.2.1 u36.2.2.2.2.2.2.2.2.2.2.1 bs on u36.2.2.2.2.2.2.2.2.2.2.2 u34.1 1) (fun u42 => (if u42.1 = 0 then (Option.bind (F_X8_find u36.2.2.2.2.1 u36.2.2.2.2.2.1 u42.2.1 u42.2.2.1 u42.2.2.2.1 u42.2.2.2.2 u36.2.2.2.2.2.2.1 u36.2.2.2.2.2.2.2.2.2.2.1 bs on u36.2.2.2.2.2.2.2.2.2.2.2 u34.1 0) (fun u45 => (if u45.1 = (J u) then (some (1, u36.2.1, u36.2.2.1, u36.2.2.2.1, u36.2.2.2.2.1, u36.2.2.2.2.2.1, u45.2.1, u45.2.2.1, u45.2.2.2.1, u45.2.2.2.2, u36.2.2.2.2.2.2.1, u36.2.2.2.2.2.2.2.1, u36.2.2.2.2.2.2.2.2.1, u36.2.2.2.2.2.2.2.2.2.1, u36.2.2.2.2.2.2.2.2.2.2.1, bs, on, u36.2.2.2.2.2.2.2.2.2.2.2, tl, ts)) else (some (0, u36.2.1, u36.2.2.1, u36.2.2.2.1, u36.2.2.2.2.1, u36.2.2.2.2.2.1, u45.2.1, u45.2.2.1, u45.2.2.2.1, u45.2.2.2.2, u36.2.2.2.2.2.2.1, u36.2.2.2.2.2.2.2.1, u36.2.2.2.2.2.2.2.2.1, u36.2.2.2.2.2.2.2.2.2.1, u36.2.2.2.2.2.2.2.2.2.2.1, bs, on, u36.2.2.2.2.2.2.2.2.2.2.2, tl, ts))))) else (some (0, u36.2.1, u36.2.2.1, u36.2.2.2.1, u36.2.2.2.2.1, u36.2.2.2.2.2.1, u42.2.1, u42.2.2.1, u42.2.2.2.1, u42.2.2.2.2, u36.2.2.2.2.2.2.1, u36.2.2.2.2.2.2.2.1, u36.2.2.2.2.2.2.2.2.1, u36.2.2.2.2.2.2.2.2.2.1, u36.2.2.2.2.2.2.2.2.2.2.1, bs, on, u36.2.2.2.2.2.2.2.2.2.2.2, tl, ts))))) else (some (0, u36.2.1, u36.2.2.1, u36.2.2.2.1, u36.2.2.2.2.1, u36.2.2.2.2.2.1, u34.2.1, u34.2.2.1, u34.2.2.2.1, u34.2.2.2.2, u36.2.2.2.2.2.2.1, u36.2.2.2.2.2.2.2.1, u36.2.2.2.2.2.2.2.2.1, u36.2.2.2.2.2.2.2.2.2.1, u36.2.2.2.2.2.2.2.2.2.2.1, bs, on, u36.2.2.2.2.2.2.2.2.2.2.2, tl, ts))))) else (some (0, u36.2.1, u36.2.2.1, u36.2.2.2.1, u36.2.2.2.2.1, u36.2.2.2.2.2.1, u34.2.1, u34.2.2.1, u34.2.2.2.1, u34.2.2.2.2, u36.2.2.2.2.2.2.1, u36.2.2.2.2.2.2.2.1, u36.2.2.2.2.2.2.2.2.1, u36.2.2.2.2.2.2.2.2.2.1, u36.2.2.2.2.2.2.2.2.2.2.1, bs, on, u36.2.2.2.2.2.2.2.2.2.2.2, tl, ts))))))) := by
  have h64 : r.2.1 ≤ 64 := H.v.1
  have hxu := H.v.2.2.2.2.2.1 u hu
  have hq : 0 ≤ (r.1 u : Int) ∧ (r.1 u : Int) ≤ 65535 := by omega
  have hlo := s_lo_self H.v hu
  obtain ⟨hr1, hr2⟩ := x_rem_lo H.v hu
  obtain ⟨a1, a2, a3, a4, ea⟩ := H.aat (z := u) (by omega) 0 c1 c2 c3 c4
  obtain ⟨ge', pl', gs', gk', sl', g', vf', vl', gh', n', gn', K1, K2⟩ := P8_takeOut H (z := r.1 u) (by omega)
  have eo : o_take r (r.1 u) = (J u, x_rem r.1 u, r.2.1 - 1, r.2.2.1, r.2.2.2) := by
    unfold o_take
    rw [d_take_0 hq (by rw [hlo]; exact ⟨hu, rfl⟩), hlo]
  rw [eo] at K1 K2
  obtain ⟨b1, b2, b3, b4, ef⟩ := K1.fnd hq 1 1 (by omega) rfl a1 a2 a3 a4
  obtain ⟨d1, d2, d3, d4, ef2⟩ := K1.fnd hq 0 0 (by omega) rfl b1 b2 b3 b4
  rw [a_find_1 hq, if_neg hr2] at ef
  rw [a_find_0 hq] at ef2
  have hr1' : s_lo (x_rem r.1 u) (r.1 u) (r.2.1 - 1) = u := hr1
  rw [ea, Option.bind_some, at0 rfl hu, K2, Option.bind_some, if_pos rfl, K1.cnt, Option.bind_some, ct0, J_sub1, if_pos (by show J ((r.2.1 - 1 : Nat) : Int) = _; congr 1; omega), ef, Option.bind_some, if_pos rfl, ef2, Option.bind_some, if_pos (by show J (s_lo (x_rem r.1 u) (r.1 u) (r.2.1 - 1)) = _; rw [hr1])]
  exact SQ.mk K1 hts _ _ _ _ _
theorem Z_shift (H : CR r hl hs ge pl gs gk sl g vf vl gh n bs on gn) (hts : PZ ts) {u p : Nat} (hu : u < r.2.1) {d : Int} (hd : -100 ≤ d ∧ d ≤ 100) (c1 c2 c3 c4 tl : Int32) : SQ (Option.bind (F_X8_gap ge gs gk n bs on gn (J u) 0) (fun u13 => (Option.bind (F_X8_at gk sl c1 c2 c3 c4 g n bs on gn ((J r.2.1) - 1) 0) (fun u15 => (Option.bind (F_X8_shift ge pl gs gk sl g vf vl gh n bs on gn (J u) (J d)) (fun u17 => (if u17.1 = (-5) then (if (u13 + (J d)) < 0 then (some (1, u17.2.1, u17.2.2.1, u17.2.2.2.1, u17.2.2.2.2.1, u17.2.2.2.2.2.1, u15.2.1, u15.2.2.1, u15.2.2.2.1, u15.2.2.2.2, u17.2.2.2.2.2.2.1, u17.2.2.2.2.2.2.2.1, u17.2.2.2.2.2.2.2.2.1, u17.2.2.2.2.2.2.2.2.2.1, n, bs, on, u17.2.2.2.2.2.2.2.2.2.2, tl, ts)) else (if (u15.1 + (J d)) ≤ 65535 then (some (0, u17.2.1, u17.2.2.1, u17.2.2.2.1, u17.2.2.2.2.1, u17.2.2.2.2.2.1, u15.2.1, u15.2.2.1, u15.2.2.2.1, u15.2.2.2.2, u17.2.2.2.2.2.2.1, u17.2.2.2.2.2.2.2.1, u17.2.2.2.2.2.2.2.2.1, u17.2.2.2.2.2.2.2.2.2.1, n, bs, on, u17.2.2.2.2.2.2.2.2.2.2, tl, ts)) else (some (1, u17.2.1, u17.2.2.1, u17.2.2.2.1, u17.2.2.2.2.1, u17.2.2.2.2.2.1, u15.2.1, u15.2.2.1, u15.2.2.2.1, u15.2.2.2.2, u17.2.2.2.2.2.2.1, u17.2.2.2.2.2.2.2.1, u17.2.2.2.2.2.2.2.2.1, u17.2.2.2.2.2.2.2.2.2.1, n, bs, on, u17.2.2.2.2.2.2.2.2.2.2, tl, ts)))) else (Option.bind (F_X8_count u17.2.1 u17.2.2.2.2.2.1 u17.2.2.2.2.2.2.2.2.1 (J p) n bs on u17.2.2.2.2.2.2.2.2.2.2 2) (fun u20 => (if u17.1 = u20 then (Option.bind (F_X8_gap u17.2.1 u17.2.2.2.1 u17.2.2.2.2.1 n bs on u17.2.2.2.2.2.2.2.2.2.2 (J u) 0) (fun u23 => (if u23 = (u13 + (J d)) then (Option.bind (F_X8_at u17.2.2.2.2.1 u17.2.2.2.2.2.1 u15.2.1 u15.2.2.1 u15.2.2.2.1 u15.2.2.2.2 u17.2.2.2.2.2.2.1 n bs on u17.2.2.2.2.2.2.2.2.2.2 ((J r.2.1) - 1) 0) (fun u26 => (if u26.1 = (u15.1 + (J d)) then (some (1, u17.2.1, u17.2.2.1, u17.2.2.2.1, u17.2.2.2.2.1, u17.2.2.2.2.2.1, u26.2.1, u26.2.2.1, u26.2.2.2.1, u26.2.2.2.2, u17.2.2.2.2.2.2.1, u17.2.2.2.2.2.2.2.1, u17.2.2.2.2.2.2.2.2.1, u17.2.2.2.2.2.2.2.2.2.1, n, bs, on, u17.2.2.2.2.2.2.2.2.2.2, tl, ts)) else (some (0, u17.2.1, u17.2.2.1, u17.2.2.2.1, u17.2.2.2.2.1, u17.2.2.2.2.2.1, u26.2.1, u26.2.2.1, u26.2.2.2.1, u26.2.2.2.2, u17.2.2.2.2.2.2.1, u17.2.2.2.2.2.2.2.1, u17.2.2.2.2.2.2.2.2.1, u17.2.2.2.2.2.2.2.2.2.1, n, bs, on, u17.2.2.2.2.2.2.2.2.2.2, tl, ts))))) else (some (0, u17.2.1, u17.2.2.1, u17.2.2.2.1, u17.2.2.2.2.1, u17.2.2.2.2.2.1, u15.2.1, u15.2.2.1, u15.2.2.2.1, u15.2.2.2.2, u17.2.2.2.2.2.2.1, u17.2.2.2.2.2.2.2.1, u17.2.2.2.2.2.2.2.2.1, u17.2.2.2.2.2.2.2.2.2.1, n, bs, on, u17.2.2.2.2.2.2.2.2.2.2, tl, ts))))) else (some (0, u17.2.1, u17.2.2.1, u17.2.2.2.1, u17.2.2.2.2.1, u17.2.2.2.2.2.1, u15.2.1, u15.2.2.1, u15.2.2.2.1, u15.2.2.2.2, u17.2.2.2.2.2.2.1, u17.2.2.2.2.2.2.2.1, u17.2.2.2.2.2.2.2.2.1, u17.2.2.2.2.2.2.2.2.2.1, n, bs, on, u17.2.2.2.2.2.2.2.2.2.2, tl, ts)))))))))))) := by
  have h64 : r.2.1 ≤ 64 := H.v.1
  have hgp := H.v.gp hu
  have hxu := H.v.2.2.2.2.2.1 u hu
  have hxl := H.v.2.2.2.2.2.1 (r.2.1 - 1) (by omega)
  obtain ⟨a1, a2, a3, a4, ea⟩ := H.aat (z := (r.2.1 : Int) - 1) (by omega) 0 c1 c2 c3 c4
  obtain ⟨ge', pl', gs', gk', sl', g', vf', vl', gh', gn', K1, K2⟩ := P8_shift H (z := u) (d := d) (by omega) (by omega)
  rw [H.gap (by omega) 0, Option.bind_some, gt0 rfl hu, J_sub1, ea, Option.bind_some, at0 (i := r.2.1 - 1) (by omega) (by omega), K2, Option.bind_some]
  by_cases hk : s_sok r.1 r.2.1 u d
  · have eo : o_sft r u d = (J (s_tot r.2.2.2 (s_gp (x_sft r.1 u d)) r.2.1 r.2.2.1), x_sft r.1 u d, r.2.1, r.2.2.1, r.2.2.2) := by unfold o_sft; rw [d_sft_0 (by omega) (by omega) hk]
    have htot := s_tot_le (H.v.sft hu hk).1
    have e1 := x_sft_gp H.v hu hk
    have e2 := x_sft_at H.v hu hk (i := r.2.1 - 1) (by omega) (by omega)
    rw [eo] at K1 ⊢
    obtain ⟨b1, b2, b3, b4, ea2⟩ := K1.aat (z := (r.2.1 : Int) - 1) (by omega) 0 a1 a2 a3 a4
    rw [if_neg (show ¬ J (s_tot r.2.2.2 (s_gp (x_sft r.1 u d)) r.2.1 r.2.2.1) = -5 by rw [Lm5, J_eq (by omega) (by omega) (by omega) (by omega)]; omega), K1.cnt, Option.bind_some, ct2, if_pos rfl, K1.gap (by omega) 0, Option.bind_some, gt0 rfl hu, if_pos (show J (s_gp (x_sft r.1 u d) u) = J (s_gp r.1 u) + J d by rw [J_add]; congr 1), ea2, Option.bind_some, at0 (i := r.2.1 - 1) (by show (r.2.1 : Int) - 1 = _; omega) (by show r.2.1 - 1 < r.2.1; omega), if_pos (show J (x_sft r.1 u d (r.2.1 - 1)) = J (r.1 (r.2.1 - 1)) + J d by rw [J_add]; congr 1)]
    exact SQ.mk K1 hts _ _ _ _ _
  · have eo : o_sft r u d = (-5, r) := by unfold o_sft; rw [d_sft_5 (by omega) (by omega) hk]
    rw [eo] at K1 ⊢
    rw [if_pos rfl, J_add]
    by_cases c : (s_gp r.1 u : Int) + d < 0
    · rw [if_pos (show J ((s_gp r.1 u : Int) + d) < 0 by rw [L0, J_lt (by omega) (by omega) (by omega) (by omega)]; omega)]
      exact SQ.mk K1 hts _ _ _ _ _
    · have hl5 : ¬ (r.1 (r.2.1 - 1) : Int) + d ≤ 65535 := fun t => hk ⟨by omega, t⟩
      rw [if_neg (show ¬ J ((s_gp r.1 u : Int) + d) < 0 by rw [L0, J_lt (by omega) (by omega) (by omega) (by omega)]; omega), if_neg (show ¬ J (r.1 (r.2.1 - 1)) + J d ≤ 65535 by rw [J_add, L65535, J_le (by omega) (by omega) (by omega) (by omega)]; omega)]
      exact SQ.mk K1 hts _ _ _ _ _
theorem Z_isStep (H : CR r hl hs ge pl gs gk sl g vf vl gh n bs on gn) (hts : PZ ts) (p : Nat) (c1 c2 c3 c4 tl i1 : Int32) : SQ (F_L_isStep ge pl gs gk sl c1 c2 c3 c4 g vf vl gh (J p) n bs on gn tl ts i1) := by
  have h64 : r.2.1 ≤ 64 := H.v.1
  obtain ⟨o, ho, eo⟩ : ∃ u : Nat, u < 14 ∧ F_L_up i1 14 = some (J u) := S_up i1 (n := 14) (by omega) (by omega)
  unfold F_L_isStep
  rw [H.cnt, Option.bind_some, ct0, eo, Option.bind_some]
  by_cases o8 : (8 : Int32) ≤ J o
  · rw [if_pos o8]
    by_cases o10 : (10 : Int32) ≤ J o
    · rw [if_pos o10]
      by_cases o12 : (12 : Int32) ≤ J o
      · rw [if_pos o12]
        exact Z_J388 H hts c1 c2 c3 c4 tl _
      · rw [if_neg o12]
        by_cases c : J (r.2.1 : Int) ≤ 0
        · rw [if_pos c]
          exact Z_J388 H hts c1 c2 c3 c4 tl _
        · have hn0 : 0 < r.2.1 := by
            rw [L0, J_le (by omega) (by omega) (by omega) (by omega)] at c
            omega
          obtain ⟨u, hu, eu⟩ := S_up (i1 >>> (4 &&& 31)) hn0 (by omega)
          obtain ⟨w, hw, ew⟩ : ∃ u : Nat, u < 201 ∧ F_L_up ((i1 >>> (4 &&& 31)) >>> (6 &&& 31)) 201 = some (J u) := S_up ((i1 >>> (4 &&& 31)) >>> (6 &&& 31)) (n := 201) (by omega) (by omega)
          rw [if_neg c, eu, Option.bind_some, ew, Option.bind_some, show J (w : Int) - 100 = J ((w : Int) - 100) by rw [show (100 : Int32) = J 100 from rfl, J_sub]]
          exact Z_shift H hts hu (by omega) c1 c2 c3 c4 tl
    · rw [if_neg o10]
      by_cases c : r.2.1 = 0
      · obtain ⟨ge', pl', gs', gk', sl', g', vf', vl', gh', n', gn', K1, K2⟩ := P8_takeOut H (z := 7) (by omega)
        have K3 : F_X8_takeOut ge pl gs gk sl g vf vl gh n bs on gn 7 = some ((o_take r 7).1, ge', pl', gs', gk', sl', g', vf', vl', gh', n', gn') := K2
        have et : (o_take r 7).1 = -1 := by unfold o_take; rw [d_take_1 (by omega) (by omega)]
        rw [et] at K3
        rw [if_pos (by rw [c]; rfl), K3, Option.bind_some, if_pos rfl]
        exact SQ.mk K1 hts _ _ _ _ _
      · obtain ⟨u, hu, eu⟩ := S_up (i1 >>> (4 &&& 31)) (show 0 < r.2.1 by omega) (by omega)
        rw [if_neg (by rw [L0, J_eq (by omega) (by omega) (by omega) (by omega)]; omega), eu, Option.bind_some]
        exact Z_take H hts hu c1 c2 c3 c4 tl
  · rw [if_neg o8]
    obtain ⟨u, hu, eu⟩ : ∃ u : Nat, u < 3 ∧ F_L_up (i1 >>> (4 &&& 31)) 3 = some (J u) := S_up (i1 >>> (4 &&& 31)) (n := 3) (by omega) (by omega)
    obtain ⟨v, hv, ev⟩ : ∃ u : Nat, u < 65536 ∧ F_L_up ((i1 >>> (4 &&& 31)) >>> (2 &&& 31)) 65536 = some (J u) := S_up ((i1 >>> (4 &&& 31)) >>> (2 &&& 31)) (n := 65536) (by omega) (by omega)
    obtain ⟨w, hw, ew⟩ : ∃ u : Nat, u < 900 ∧ F_L_up ((i1 >>> (4 &&& 31)) >>> (2 &&& 31)) 900 = some (J u) := S_up ((i1 >>> (4 &&& 31)) >>> (2 &&& 31)) (n := 900) (by omega) (by omega)
    rw [eu, Option.bind_some, ev, Option.bind_some, ew, Option.bind_some]
    by_cases c : J (u : Int) = 0
    · rw [if_pos c]
      exact Z_J53 H hts hv c1 c2 c3 c4 tl rfl
    · rw [if_neg c]
      exact Z_J53 H hts (by omega) c1 c2 c3 c4 tl rfl
end STEP
