-- saved states, history
abbrev RS : Type := (Nat → Nat) × Nat × Nat × Nat
def RSv (r : RS) : Prop := RV r.1 r.2.1 r.2.2.1 r.2.2.2
/-- a state as the class stores it, from a place on -/
def ST (g : Ar) (p : Nat) (r : RS) : Prop := g (p + 1) = J r.2.1 ∧ g (p + 2) = J r.2.2.1 ∧ g (p + 3) = J r.2.2.2 ∧ ∀ i, i < r.2.1 → g (p + 4 + i) = J (r.1 i)
theorem ST.of {g g' : Ar} {p : Nat} {r : RS} (h : ST g p r) (hn : r.2.1 ≤ 64) (e : ∀ j, p ≤ j → j < p + 68 → g' j = g j) : ST g' p r :=
  ⟨by rw [e (p + 1) (by omega) (by omega)]; exact h.1, by rw [e (p + 2) (by omega) (by omega)]; exact h.2.1, by rw [e (p + 3) (by omega) (by omega)]; exact h.2.2.1, fun i hi => by rw [e (p + 4 + i) (by omega) (by omega)]; exact h.2.2.2 i hi⟩
theorem S_store59 {N q : Nat} (hq : q * 68 + 68 ≤ N) (hN : N < 100000) {n : Nat} (hn : n ≤ 64) {gn : Ar} {x : Nat → Nat} (hg : RA x n gn) (g0 : Ar) (k : Ar → Option Ar) : ∀ (m fuel j : Nat) (g : Ar) (i4 : Int32), j + m = n → m < fuel → (∀ i, i < j → g (q * 68 + 4 + i) = J (x i)) → (∀ i, i < q * 68 + 4 ∨ q * 68 + 68 ≤ i → g i = g0 i) → i4 = J j →
    ∃ g', (∀ i, i < n → g' (q * 68 + 4 + i) = J (x i)) ∧ (∀ i, i < q * 68 + 4 ∨ q * 68 + 68 ≤ i → g' i = g0 i) ∧ F_X6_store_L59 N (J n) gn (J ((q * 68 : Nat) : Int)) k fuel g i4 = k g' := by
  intro m
  induction m with
  | zero =>
    intro fuel j g i4 hj hf h1 h2 e4
    obtain ⟨fuel, rfl⟩ : ∃ f, fuel = f + 1 := ⟨fuel - 1, by omega⟩
    exact ⟨g, fun i hi => h1 i (by omega), h2, by rw [F_X6_store_L59, e4, if_pos (by rw [J_le (by omega) (by omega) (by omega) (by omega)]; omega)]⟩
  | succ m ih =>
    intro fuel j g i4 hj hf h1 h2 e4
    obtain ⟨fuel, rfl⟩ : ∃ f, fuel = f + 1 := ⟨fuel - 1, by omega⟩
    obtain ⟨g', a1, a2, a3⟩ := ih fuel (j + 1) (upd g (q * 68 + 4 + j) (J (x j))) (J j + 1) (by omega) (by omega) (fun i hi => by
      by_cases e : i = j
      · subst e; exact upd_self
      · rw [upd_ne (by omega)]; exact h1 i (by omega)) (fun i hi => by rw [upd_ne (by omega)]; exact h2 i hi) (by rw [J_add1]; norm_cast)
    refine ⟨g', a1, a2, ?_⟩
    rw [F_X6_store_L59, e4, if_neg (by rw [J_le (by omega) (by omega) (by omega) (by omega)]; omega), S_number j rfl (by omega), Option.bind_some, hg j (by omega), L4, J_add, J_add, S_write (q * 68 + 4 + j) (by omega) (by omega) (by omega), Option.bind_some, a3]
theorem S_store {N q : Nat} (hq : q * 68 + 68 ≤ N) (hN : N < 100000) {r : RS} (hr : RSv r) {gn : Ar} (hg : RA r.1 r.2.1 gn) (g : Ar) {zq : Int} (eq : zq = q) : ∃ g', ST g' (q * 68) r ∧ g' (q * 68) = J 1 ∧ (∀ i, i < q * 68 ∨ q * 68 + 68 ≤ i → g' i = g i) ∧ F_X6_store N g (J r.2.1) (J r.2.2.1) (J r.2.2.2) gn (J zq) = some g' := by
  subst eq
  have hn := hr.1
  obtain ⟨f2, hf2⟩ := zFuel_ge (n := 65) (by omega)
  unfold F_X6_store
  have e68 : J (q : Int) * 68 = J ((q * 68 : Nat) : Int) := by rw [L68, J_mul]; norm_cast
  rw [e68, S_write (q * 68) rfl (by omega) (by omega), Option.bind_some, L1, L2, L3, J_add, J_add, J_add, S_write (q * 68 + 1) (by omega) (by omega) (by omega), Option.bind_some, S_write (q * 68 + 2) (by omega) (by omega) (by omega), Option.bind_some, S_write (q * 68 + 3) (by omega) (by omega) (by omega), Option.bind_some, hf2]
  obtain ⟨g', a1, a2, a3⟩ := S_store59 hq hN hn hg (upd (upd (upd (upd g (q * 68) (J 1)) (q * 68 + 1) (J r.2.1)) (q * 68 + 2) (J r.2.2.1)) (q * 68 + 3) (J r.2.2.2)) (fun g => some g) r.2.1 (f2 + 65) 0 _ 0 (by omega) (by omega) (fun i hi => by omega) (fun _ _ => rfl) rfl
  refine ⟨g', ⟨?_, ?_, ?_, a1⟩, ?_, fun i hi => ?_, a3⟩
  · rw [a2 _ (by omega), upd_ne (by omega), upd_ne (by omega), upd_self]
  · rw [a2 _ (by omega), upd_ne (by omega), upd_self]
  · rw [a2 _ (by omega), upd_self]
  · rw [a2 _ (by omega), upd_ne (by omega), upd_ne (by omega), upd_ne (by omega), upd_self]
  · rw [a2 _ (by omega), upd_ne (by omega), upd_ne (by omega), upd_ne (by omega), upd_ne (by omega)]
theorem S_load50 {N q : Nat} (hq : q * 68 + 68 ≤ N) (hN : N < 100000) {r : RS} (hr : RSv r) {g : Ar} (hs : ST g (q * 68) r) (k : Ar → Option (Int32 × Int32 × Int32 × Ar)) : ∀ (m fuel j : Nat) (gn : Ar) (i4 : Int32), j + m = r.2.1 → m < fuel → RA r.1 j gn → i4 = J j →
    ∃ gn', RA r.1 r.2.1 gn' ∧ F_X6_load_L50 N g (J r.2.1) (J ((q * 68 : Nat) : Int)) k fuel gn i4 = k gn' := by
  intro m
  have hn := hr.1
  induction m with
  | zero =>
    intro fuel j gn i4 hj hf h1 e4
    obtain ⟨fuel, rfl⟩ : ∃ f, fuel = f + 1 := ⟨fuel - 1, by omega⟩
    have hj : j = r.2.1 := by omega
    subst hj
    exact ⟨gn, h1, by rw [F_X6_load_L50, e4, if_pos (by rw [J_le (by omega) (by omega) (by omega) (by omega)]; omega)]⟩
  | succ m ih =>
    intro fuel j gn i4 hj hf h1 e4
    obtain ⟨fuel, rfl⟩ : ∃ f, fuel = f + 1 := ⟨fuel - 1, by omega⟩
    obtain ⟨gn', a1, a2⟩ := ih fuel (j + 1) (upd gn j (J (r.1 j))) (J j + 1) (by omega) (by omega) (fun i hi => by
      by_cases e : i = j
      · subst e; exact upd_self
      · rw [upd_ne e]; exact h1 i (by omega)) (by rw [J_add1]; norm_cast)
    refine ⟨gn', a1, ?_⟩
    rw [F_X6_load_L50, e4, if_neg (by rw [J_le (by omega) (by omega) (by omega) (by omega)]; omega), L4, J_add, J_add, S_read (q * 68 + 4 + j) (by omega) (by omega) (by omega), Option.bind_some, hs.2.2.2 j (by omega), S_write j rfl (by omega) (by omega), Option.bind_some, a2]
theorem S_load {N q : Nat} (hq : q * 68 + 68 ≤ N) (hN : N < 100000) {r : RS} (hr : RSv r) {g : Ar} (hs : ST g (q * 68) r) (a b c : Int32) (gn : Ar) {zq : Int} (eq : zq = q) : ∃ gn', RA r.1 r.2.1 gn' ∧ F_X6_load N g a b c gn (J zq) = some (J r.2.1, J r.2.2.1, J r.2.2.2, gn') := by
  subst eq
  have hn := hr.1
  obtain ⟨f2, hf2⟩ := zFuel_ge (n := 65) (by omega)
  unfold F_X6_load
  have e68 : J (q : Int) * 68 = J ((q * 68 : Nat) : Int) := by rw [L68, J_mul]; norm_cast
  rw [e68, L1, L2, L3, J_add, J_add, J_add, S_read (q * 68 + 1) (by omega) (by omega) (by omega), Option.bind_some, S_read (q * 68 + 2) (by omega) (by omega) (by omega), Option.bind_some, S_read (q * 68 + 3) (by omega) (by omega) (by omega), Option.bind_some, hs.1, hs.2.1, hs.2.2.1, hf2]
  obtain ⟨gn', a1, a2⟩ := S_load50 hq hN hr hs (fun g => some (J r.2.1, J r.2.2.1, J r.2.2.2, g)) r.2.1 (f2 + 65) 0 gn 0 (by omega) (by omega) (fun i hi => by omega) rfl
  exact ⟨gn', a1, a2⟩
/-- the history with one more state -/
def h_push (hl : Nat) (hs : Nat → RS) (r : RS) : Nat → RS := fun k => if hl < 6 then (if k = hl then r else hs k) else (if k = 5 then r else hs (k + 1))
def h_len (hl : Nat) : Nat := if hl < 6 then hl + 1 else 6
/-- the class's history: a ring of seven places -/
def HC (vf vl : Int32) (gh : Ar) (hl : Nat) (hs : Nat → RS) : Prop := ∃ f : Nat, f < 7 ∧ vf = J f ∧ vl = J hl ∧ hl ≤ 6 ∧ ∀ k, k < hl → ST gh ((f + 7 - hl + k) % 7 * 68) (hs k)
theorem S_note {vf vl : Int32} {gh : Ar} {hl : Nat} {hs : Nat → RS} (h : HC vf vl gh hl hs) (hv : ∀ k, k < hl → RSv (hs k)) {r : RS} (hr : RSv r) {gn : Ar} (hg : RA r.1 r.2.1 gn) : ∃ gh' f, f < 7 ∧ vf = J (f : Nat) ∧ ST gh' (f * 68) r ∧ HC vf vl gh' hl hs ∧ F_X2_note vf gh (J r.2.1) (J r.2.2.1) (J r.2.2.2) gn = some gh' := by
  obtain ⟨f, hf, ef, el, hl6, hk⟩ := h
  obtain ⟨g', a1, a2, a3, a4⟩ := S_store (N := 476) (q := f) (by omega) (by omega) hr hg gh (zq := (f : Int)) rfl
  refine ⟨g', f, hf, ef, a1, ⟨f, hf, ef, el, hl6, fun k hk2 => ?_⟩, ?_⟩
  · have hn := (hv k hk2).1
    refine (hk k hk2).of hn (fun j h1 h2 => a3 j ?_)
    have : (f + 7 - hl + k) % 7 < f ∨ f < (f + 7 - hl + k) % 7 := by omega
    omega
  · unfold F_X2_note
    rw [ef, a4, Option.bind_some]
theorem S_keepNoted {vf vl : Int32} {gh : Ar} {hl : Nat} {hs : Nat → RS} (h : HC vf vl gh hl hs) {r : RS} {f : Nat} (hf : f < 7) (ef : vf = J f) (hst : ST gh (f * 68) r) : ∃ vf' vl', HC vf' vl' gh (h_len hl) (h_push hl hs r) ∧ F_X2_keepNoted vf vl = some (vf', vl') := by
  obtain ⟨f', hf', ef', el, hl6, hk⟩ := h
  have e : f' = f := by
    have := ef'.symm.trans ef
    rw [J_eq (by omega) (by omega) (by omega) (by omega)] at this
    omega
  subst e
  have e1 : (if (6 : Int32) < vl + 1 then 6 else vl + 1) = J (h_len hl) := by
    rw [el, J_add1]
    unfold h_len
    by_cases q : hl < 6
    · rw [if_pos q, if_neg (by rw [L6, J_lt (by omega) (by omega) (by omega) (by omega)]; omega)]; norm_cast
    · rw [if_neg q, if_pos (by rw [L6, J_lt (by omega) (by omega) (by omega) (by omega)]; omega)]; rfl
  have key : ∀ F : Nat, F < 7 → F = (f' + 1) % 7 → HC (J F) (J (h_len hl)) gh (h_len hl) (h_push hl hs r) := by
    intro F hF eF
    refine ⟨F, hF, rfl, rfl, by unfold h_len; split <;> omega, fun k hk2 => ?_⟩
    unfold h_len at hk2 ⊢
    unfold h_push
    by_cases q : hl < 6
    · rw [if_pos q] at hk2 ⊢
      rw [if_pos q]
      by_cases c : k = hl
      · rw [if_pos c, show (F + 7 - (hl + 1) + k) % 7 = f' by omega]; exact hst
      · rw [if_neg c, show (F + 7 - (hl + 1) + k) % 7 = (f' + 7 - hl + k) % 7 by omega]; exact hk k (by omega)
    · rw [if_neg q] at hk2 ⊢
      rw [if_neg q]
      by_cases c : k = 5
      · rw [if_pos c, show (F + 7 - 6 + k) % 7 = f' by omega]; exact hst
      · rw [if_neg c, show (F + 7 - 6 + k) % 7 = (f' + 7 - hl + (k + 1)) % 7 by omega]; exact hk (k + 1) (by omega)
  unfold F_X2_keepNoted
  rw [e1, ef, J_add1]
  by_cases q : f' = 6
  · rw [if_pos (by rw [L7, J_le (by omega) (by omega) (by omega) (by omega)]; omega)]
    exact ⟨J ((0 : Nat) : Int), _, key 0 (by omega) (by omega), rfl⟩
  · rw [if_neg (by rw [L7, J_le (by omega) (by omega) (by omega) (by omega)]; omega)]
    exact ⟨J ((f' + 1 : Nat) : Int), _, key (f' + 1) (by omega) (by omega), by norm_cast⟩
theorem S_bringLatest {vf vl : Int32} {gh : Ar} {hl : Nat} {hs : Nat → RS} (h : HC vf vl gh hl hs) (hv : ∀ k, k < hl → RSv (hs k)) (h0 : 0 < hl) (a b c : Int32) (gn : Ar) : ∃ vf' gn', HC vf' (J ((hl - 1 : Nat) : Int)) gh (hl - 1) hs ∧ RA (hs (hl - 1)).1 (hs (hl - 1)).2.1 gn' ∧ F_X2_bringLatest vf vl gh a b c gn = some (vf', J ((hl - 1 : Nat) : Int), J (hs (hl - 1)).2.1, J (hs (hl - 1)).2.2.1, J (hs (hl - 1)).2.2.2, gn') := by
  obtain ⟨f, hf, ef, el, hl6, hk⟩ := h
  have hlast := hk (hl - 1) (by omega)
  have hr := hv (hl - 1) (by omega)
  have el' : vl - 1 = J ((hl - 1 : Nat) : Int) := by rw [el, J_sub1]; congr 1; omega
  unfold F_X2_bringLatest
  rw [el', ef]
  by_cases q : f = 0
  · rw [show (f + 7 - hl + (hl - 1)) % 7 = 6 by omega] at hlast
    obtain ⟨gn', a1, a2⟩ := S_load (N := 476) (q := 6) (by omega) (by omega) hr hlast a b c gn (zq := 6) rfl
    rw [if_pos (by rw [L0, J_le (by omega) (by omega) (by omega) (by omega)]; omega), L6, a2, Option.bind_some]
    exact ⟨_, gn', ⟨6, by omega, rfl, rfl, by omega, fun k hk2 => by rw [show (6 + 7 - (hl - 1) + k) % 7 = (f + 7 - hl + k) % 7 by omega]; exact hk k (by omega)⟩, a1, rfl⟩
  · rw [show (f + 7 - hl + (hl - 1)) % 7 = f - 1 by omega] at hlast
    obtain ⟨gn', a1, a2⟩ := S_load (N := 476) (q := f - 1) (by omega) (by omega) hr hlast a b c gn (zq := (f : Int) - 1) (by omega)
    rw [if_neg (by rw [L0, J_le (by omega) (by omega) (by omega) (by omega)]; omega), J_sub1, a2, Option.bind_some]
    exact ⟨_, gn', ⟨f - 1, by omega, by congr 1; omega, rfl, by omega, fun k hk2 => by rw [show (f - 1 + 7 - (hl - 1) + k) % 7 = (f + 7 - hl + k) % 7 by omega]; exact hk k (by omega)⟩, a1, rfl⟩
-- the reference
def MS (g : Ar) (p : Nat) (r : RS) : Prop := g p = J r.2.2.1 ∧ g (p + 1) = J r.2.2.2 ∧ g (p + 2) = J r.2.1 ∧ ∀ i, i < r.2.1 → g (p + 3 + i) = J (r.1 i)
theorem MS.of {g g' : Ar} {p p' : Nat} {r : RS} (h : MS g p r) (hn : r.2.1 ≤ 64) (e : ∀ j, j < 67 → g' (p' + j) = g (p + j)) : MS g' p' r :=
  ⟨(e 0 (by omega)).trans h.1, (e 1 (by omega)).trans h.2.1, (e 2 (by omega)).trans h.2.2.1, fun i hi => by
    have := e (3 + i) (by omega)
    rw [← Nat.add_assoc, ← Nat.add_assoc] at this
    rw [this]; exact h.2.2.2 i hi⟩
theorem MS.ma {g : Ar} {r : RS} : MS g 0 r ↔ MA r.1 r.2.1 r.2.2.1 r.2.2.2 g := by
  unfold MS MA
  simp only [Nat.zero_add]
theorem S_keep2 (ga : Ar) (k : Ar → Option Ar) : ∀ (m fuel j : Nat) (g : Ar) (i1 : Int32), j + m = 67 → m < fuel → (∀ i, i < j → g i = ga i) → i1 = J j →
    ∃ g', (∀ i, i < 67 → g' i = ga i) ∧ F_X9_keep_L2 ga k fuel g i1 = k g' := by
  intro m
  induction m with
  | zero =>
    intro fuel j g i1 hj hf h1 e1
    obtain ⟨fuel, rfl⟩ : ∃ f, fuel = f + 1 := ⟨fuel - 1, by omega⟩
    exact ⟨g, fun i hi => h1 i (by omega), by rw [F_X9_keep_L2, e1, if_pos (by rw [L67, J_le (by omega) (by omega) (by omega) (by omega)]; omega)]⟩
  | succ m ih =>
    intro fuel j g i1 hj hf h1 e1
    obtain ⟨fuel, rfl⟩ : ∃ f, fuel = f + 1 := ⟨fuel - 1, by omega⟩
    obtain ⟨g', a1, a2⟩ := ih fuel (j + 1) (upd g j (ga j)) (J j + 1) (by omega) (by omega) (fun i hi => by
      by_cases e : i = j
      · subst e; exact upd_self
      · rw [upd_ne e]; exact h1 i (by omega)) (by rw [J_add1]; norm_cast)
    refine ⟨g', a1, ?_⟩
    rw [F_X9_keep_L2, e1, if_neg (by rw [L67, J_le (by omega) (by omega) (by omega) (by omega)]; omega), if_pos (gd_ok (by omega) (by omega) (by omega)), if_pos (gd_ok (by omega) (by omega) (by omega)), J_ix j rfl (by omega), a2]
theorem S_keep (ga gk : Ar) : ∃ gk', (∀ i, i < 67 → gk' i = ga i) ∧ F_X9_keep ga gk = some gk' := by
  obtain ⟨f2, hf2⟩ := zFuel_ge (n := 68) (by omega)
  obtain ⟨g', a1, a2⟩ := S_keep2 ga (fun g => some g) 67 (f2 + 68) 0 gk 0 (by omega) (by omega) (fun i hi => by omega) rfl
  refine ⟨g', a1, ?_⟩
  unfold F_X9_keep
  rw [hf2]
  exact a2
/-- the reference's history -/
def HM (vh : Int32) (gh : Ar) (hl : Nat) (hs : Nat → RS) : Prop := vh = J hl ∧ hl ≤ 6 ∧ ∀ k, k < hl → MS gh (67 * k) (hs k)
theorem S_changed57 {hl : Nat} (hl5 : hl ≤ 5) (gk g0 : Ar) (k : Ar → Option (Int32 × Int32 × Ar)) : ∀ (m fuel j : Nat) (g : Ar) (i2 : Int32), j + m = 67 → m < fuel → (∀ i, i < j → g (67 * hl + i) = gk i) → (∀ i, i < 67 * hl ∨ 67 * hl + 67 ≤ i → g i = g0 i) → i2 = J j →
    ∃ g', (∀ i, i < 67 → g' (67 * hl + i) = gk i) ∧ (∀ i, i < 67 * hl ∨ 67 * hl + 67 ≤ i → g' i = g0 i) ∧ F_X9_changed_L57 (J hl) gk k fuel g i2 = k g' := by
  intro m
  induction m with
  | zero =>
    intro fuel j g i2 hj hf h1 h2 e2
    obtain ⟨fuel, rfl⟩ : ∃ f, fuel = f + 1 := ⟨fuel - 1, by omega⟩
    exact ⟨g, fun i hi => h1 i (by omega), h2, by rw [F_X9_changed_L57, e2, if_pos (by rw [L67, J_le (by omega) (by omega) (by omega) (by omega)]; omega)]⟩
  | succ m ih =>
    intro fuel j g i2 hj hf h1 h2 e2
    obtain ⟨fuel, rfl⟩ : ∃ f, fuel = f + 1 := ⟨fuel - 1, by omega⟩
    obtain ⟨g', a1, a2, a3⟩ := ih fuel (j + 1) (upd g (67 * hl + j) (gk j)) (J j + 1) (by omega) (by omega) (fun i hi => by
      by_cases e : i = j
      · subst e; exact upd_self
      · rw [upd_ne (by omega)]; exact h1 i (by omega)) (fun i hi => by rw [upd_ne (by omega)]; exact h2 i hi) (by rw [J_add1]; norm_cast)
    refine ⟨g', a1, a2, ?_⟩
    rw [F_X9_changed_L57, e2, if_neg (by rw [L67, J_le (by omega) (by omega) (by omega) (by omega)]; omega), L67, J_mul, J_add, if_pos (gd_ok (by omega) (by omega) (by omega)), if_pos (gd_ok (by omega) (by omega) (by omega)), J_ix (67 * hl + j) (by omega) (by omega), J_ix j rfl (by omega), a3]
theorem S_changed17 (g0 : Ar) (k : Ar → Option (Int32 × Int32 × Ar)) : ∀ (m fuel j : Nat) (g : Ar) (i2 : Int32), j + m = 335 → m < fuel → (∀ i, i < j → g i = g0 (i + 67)) → (∀ i, j ≤ i → g i = g0 i) → i2 = J j →
    ∃ g', (∀ i, i < 335 → g' i = g0 (i + 67)) ∧ F_X9_changed_L17 k fuel g i2 = k g' := by
  intro m
  induction m with
  | zero =>
    intro fuel j g i2 hj hf h1 h2 e2
    obtain ⟨fuel, rfl⟩ : ∃ f, fuel = f + 1 := ⟨fuel - 1, by omega⟩
    exact ⟨g, fun i hi => h1 i (by omega), by rw [F_X9_changed_L17, e2, if_pos (by rw [show (335 : Int32) = J 335 from rfl, J_le (by omega) (by omega) (by omega) (by omega)]; omega)]⟩
  | succ m ih =>
    intro fuel j g i2 hj hf h1 h2 e2
    obtain ⟨fuel, rfl⟩ : ∃ f, fuel = f + 1 := ⟨fuel - 1, by omega⟩
    obtain ⟨g', a1, a2⟩ := ih fuel (j + 1) (upd g j (g (j + 67))) (J j + 1) (by omega) (by omega) (fun i hi => by
      by_cases e : i = j
      · subst e; rw [upd_self]; exact h2 (i + 67) (by omega)
      · rw [upd_ne e]; exact h1 i (by omega)) (fun i hi => by rw [upd_ne (by omega)]; exact h2 i (by omega)) (by rw [J_add1]; norm_cast)
    refine ⟨g', a1, ?_⟩
    rw [F_X9_changed_L17, e2, if_neg (by rw [show (335 : Int32) = J 335 from rfl, J_le (by omega) (by omega) (by omega) (by omega)]; omega), L67, J_add, if_pos (gd_ok (by omega) (by omega) (by omega)), if_pos (gd_ok (by omega) (by omega) (by omega)), J_ix j rfl (by omega), J_ix (j + 67) (by omega) (by omega), a2]
theorem S_changed {vh : Int32} {gh gk : Ar} {hl : Nat} {hs : Nat → RS} (h : HM vh gh hl hs) (hv : ∀ k, k < hl → RSv (hs k)) {r : RS} (hr : RSv r) (hk : MS gk 0 r) {i1 : Int32} (hi : ¬ i1 < 0) : ∃ vh' gh', HM vh' gh' (h_len hl) (h_push hl hs r) ∧ F_X9_changed vh gh gk i1 = some (i1, vh', gh') := by
  obtain ⟨eh, hl6, hk2⟩ := h
  have hi' : 0 ≤ i1 := by
    rw [Int32.le_iff_toInt_le]
    rw [Int32.lt_iff_toInt_lt] at hi
    omega
  obtain ⟨f2, hf2⟩ := zFuel_ge (n := 340) (by omega)
  unfold F_X9_changed
  rw [if_pos hi', eh]
  by_cases q : hl < 6
  · obtain ⟨g', a1, a2, a3⟩ := S_changed57 (hl := hl) (by omega) gk gh (fun g => some (i1, J hl + 1, g)) 67 (f2 + 340) 0 gh 0 (by omega) (by omega) (fun i hi => by omega) (fun _ _ => rfl) rfl
    rw [if_neg (by rw [L6, J_eq (by omega) (by omega) (by omega) (by omega)]; omega), hf2]
    refine ⟨J hl + 1, g', ⟨?_, by unfold h_len; split <;> omega, fun k hk3 => ?_⟩, a3⟩
    · rw [J_add1]; unfold h_len; rw [if_pos q]; norm_cast
    · unfold h_len at hk3
      rw [if_pos q] at hk3
      unfold h_push
      rw [if_pos q]
      by_cases c : k = hl
      · rw [if_pos c, c]
        exact hk.of hr.1 (fun j hj => by rw [a1 j hj, Nat.zero_add])
      · rw [if_neg c]
        exact (hk2 k (by omega)).of (hv k (by omega)).1 (fun j hj => a2 _ (by omega))
  · have hl6' : hl = 6 := by omega
    subst hl6'
    obtain ⟨g1, b1, b2⟩ := S_changed17 gh (fun gH_10 => (F_X9_changed_L57 (J (6 : Nat) - 1) gk (fun gH_11 => (some (i1, ((J (6 : Nat) - 1) + 1), gH_11))) (f2 + 340) gH_10 0)) 335 (f2 + 340) 0 gh 0 (by omega) (by omega) (fun i hi => by omega) (fun _ _ => rfl) rfl
    obtain ⟨g', a1, a2, a3⟩ := S_changed57 (hl := 5) (by omega) gk g1 (fun g => some (i1, (J (6 : Nat) - 1) + 1, g)) 67 (f2 + 340) 0 g1 0 (by omega) (by omega) (fun i hi => by omega) (fun _ _ => rfl) rfl
    rw [if_pos (by decide), hf2]
    refine ⟨(J (6 : Nat) - 1) + 1, g', ⟨rfl, by unfold h_len; split <;> omega, fun k hk3 => ?_⟩, b2.trans a3⟩
    unfold h_len at hk3
    rw [if_neg (by omega)] at hk3
    unfold h_push
    rw [if_neg (by omega)]
    by_cases c : k = 5
    · rw [if_pos c, c]
      exact hk.of hr.1 (fun j hj => by rw [a1 j hj, Nat.zero_add])
    · rw [if_neg c]
      exact (hk2 (k + 1) (by omega)).of (hv (k + 1) (by omega)).1 (fun j hj => by rw [a2 _ (by omega), b1 _ (by omega), show 67 * k + j + 67 = 67 * (k + 1) + j by omega])
theorem S_changedE {vh : Int32} {gh gk : Ar} {i1 : Int32} (hi : i1 < 0) : F_X9_changed vh gh gk i1 = some (i1, vh, gh) := by
  have hi' : ¬ 0 ≤ i1 := by
    rw [Int32.le_iff_toInt_le]
    rw [Int32.lt_iff_toInt_lt] at hi
    omega
  unfold F_X9_changed
  rw [if_neg hi']
