-- saved states, history
abbrev RS : Type := (Nat → Nat) × Nat × Nat × Nat
def RSv (r : RS) : Prop := RV r.1 r.2.1 r.2.2.1 r.2.2.2
/-- a state as the class stores it, from a place on -/
def ST (g : Ar) (p : Nat) (r : RS) : Prop := g (p + 1) = J r.2.1 ∧ g (p + 2) = J r.2.2.1 ∧ g (p + 3) = J r.2.2.2 ∧ ∀ i, i < r.2.1 → g (p + 4 + i) = J (r.1 i)
theorem ST.of {g g' : Ar} {p : Nat} {r : RS} (h : ST g p r) (hn : r.2.1 ≤ 64) (e : ∀ j, p ≤ j → j < p + 68 → g' j = g j) : ST g' p r :=
  ⟨by rw [e (p + 1) (by omega) (by omega)]; exact h.1, by rw [e (p + 2) (by omega) (by omega)]; exact h.2.1, by rw [e (p + 3) (by omega) (by omega)]; exact h.2.2.1, fun i hi => by rw [e (p + 4 + i) (by omega) (by omega)]; exact h.2.2.2 i hi⟩
theorem S_store59 {N q : Nat} (hq : q * 68 + 68 ≤ N) (hN : N < 100000) {n : Nat} (hn : n ≤ 64) {gn : Ar} {x : Nat → Nat} (hg : RA x n gn) (g0 : Ar) (k : Ar → Option Ar) : ∀ (m fuel j : Nat) (g : Ar) (i4 : Int32), j + m = n → m < fuel → (∀ i, i < j → g (q * 68 + 4 + i) = J (x i)) → (∀ i, i < q * 68 + 4 ∨ q * 68 + 68 ≤ i → g i = g0 i) → i4 = J j →
    ∃ g', (∀ i, i < n → g' (q * 68 + 4 + i) = J (x i)) ∧ (∀ i, i < q * 68 + 4 ∨ q * 68 + 68 ≤ i → g' i = g0 i) ∧ F_X6_store_L59 N (J n) gn (J ((q * 68 : Nat) : Int)) k fuel g i4 = k g' := by
  intro m
  induction m with
  | zero =>
    intro fuel j g i4 hj hf h1 h2 e4
    obtain ⟨fuel, rfl⟩ : ∃ f, fuel = f + 1 := ⟨fuel - 1, by omega⟩
    exact ⟨g, fun i hi => h1 i (by omega), h2, by rw [F_X6_store_L59, e4, if_pos (by rw [J_le (by omega) (by omega) (by omega) (by omega)]; omega)]⟩
  | succ m ih =>
    intro fuel j g i4 hj hf h1 h2 e4
    obtain ⟨fuel, rfl⟩ : ∃ f, fuel = f + 1 := ⟨fuel - 1, by omega⟩
    obtain ⟨g', a1, a2, a3⟩ := ih fuel (j + 1) (upd g (q * 68 + 4 + j) (J (x j))) (J j + 1) (by omega) (by omega) (fun i hi => by
      by_cases e : i = j
      · subst e; exact upd_self
      · rw [upd_ne (by omega)]; exact h1 i (by omega)) (fun i hi => by rw [upd_ne (by omega)]; exact h2 i hi) (by rw [J_add1]; norm_cast)
    refine ⟨g', a1, a2, ?_⟩
    rw [F_X6_store_L59, e4, if_neg (by rw [J_le (by omega) (by omega) (by omega) (by omega)]; omega), S_number j rfl (by omega), Option.bind_some, hg j (by omega), L4, J_add, J_add, S_write (q * 68 + 4 + j) (by omega) (by omega) (by omega), Option.bind_some, a3]
theorem S_store {N q : Nat} (hq : q * 68 + 68 ≤ N) (hN : N < 100000) {r : RS} (hr : RSv r) {gn : Ar} (hg : RA r.1 r.2.1 gn) (g : Ar) {zq : Int} (eq : zq = q) : ∃ g', ST g' (q * 68) r ∧ g' (q * 68) = J 1 ∧ (∀ i, i < q * 68 ∨ q * 68 + 68 ≤ i → g' i = g i) ∧ F_X6_store N g (J r.2.1) (J r.2.2.1) (J r.2.2.2) gn (J zq) = some g' := by
  subst eq
  have hn := hr.1
  obtain ⟨f2, hf2⟩ := zFuel_ge (n := 65) (by omega)
  unfold F_X6_store
  have e68 : J (q : Int) * 68 = J ((q * 68 : Nat) : Int) := by rw [L68, J_mul]; norm_cast
  rw [e68, S_write (q * 68) rfl (by omega) (by omega), Option.bind_some, L1, L2, L3, J_add, J_add, J_add, S_write (q * 68 + 1) (by omega) (by omega) (by omega), Option.bind_some, S_write (q * 68 + 2) (by omega) (by omega) (by omega), Option.bind_some, S_write (q * 68 + 3) (by omega) (by omega) (by omega), Option.bind_some, hf2]
  obtain ⟨g', a1, a2, a3⟩ := S_store59 hq hN hn hg (upd (upd (upd (upd g (q * 68) (J 1)) (q * 68 + 1) (J r.2.1)) (q * 68 + 2) (J r.2.2.1)) (q * 68 + 3) (J r.2.2.2)) (fun g => some g) r.2.1 (f2 + 65) 0 _ 0 (by omega) (by omega) (fun i hi => by omega) (fun _ _ => rfl) rfl
  refine ⟨g', ⟨?_, ?_, ?_, a1⟩, ?_, fun i hi => ?_, a3⟩
  · rw [a2 _ (by omega), upd_ne (by omega), upd_ne (by omega), upd_self]
  · rw [a2 _ (by omega), upd_ne (by omega), upd_self]
  · rw [a2 _ (by omega), upd_self]
  · rw [a2 _ (by omega), upd_ne (by omega), upd_ne (by omega), upd_ne (by omega), upd_self]
  · rw [a2 _ (by omega), upd_ne (by omega), upd_ne (by omega), upd_ne (by omega), upd_ne (by omega)]
/-- the history with one more state -/
def h_push (hl : Nat) (hs : Nat → RS) (r : RS) : Nat → RS := fun k => if hl < 6 then (if k = hl then r else hs k) else (if k = 5 then r else hs (k + 1))
def h_len (hl : Nat) : Nat := if hl < 6 then hl + 1 else 6
/-- the class's history: a ring of seven places -/
def HC (vf vl : Int32) (gh : Ar) (hl : Nat) (hs : Nat → RS) : Prop := ∃ f : Nat, f < 7 ∧ vf = J f ∧ vl = J hl ∧ hl ≤ 6 ∧ ∀ k, k < hl → ST gh ((f + 7 - hl + k) % 7 * 68) (hs k)
theorem S_note {vf vl : Int32} {gh : Ar} {hl : Nat} {hs : Nat → RS} (h : HC vf vl gh hl hs) (hv : ∀ k, k < hl → RSv (hs k)) {r : RS} (hr : RSv r) {gn : Ar} (hg : RA r.1 r.2.1 gn) : ∃ gh' f, f < 7 ∧ vf = J (f : Nat) ∧ ST gh' (f * 68) r ∧ HC vf vl gh' hl hs ∧ F_X2_note vf gh (J r.2.1) (J r.2.2.1) (J r.2.2.2) gn = some gh' := by
  obtain ⟨f, hf, ef, el, hl6, hk⟩ := h
  obtain ⟨g', a1, a2, a3, a4⟩ := S_store (N := 476) (q := f) (by omega) (by omega) hr hg gh (zq := (f : Int)) rfl
  refine ⟨g', f, hf, ef, a1, ⟨f, hf, ef, el, hl6, fun k hk2 => ?_⟩, ?_⟩
  · have hn := (hv k hk2).1
    refine (hk k hk2).of hn (fun j h1 h2 => a3 j ?_)
    have : (f + 7 - hl + k) % 7 < f ∨ f < (f + 7 - hl + k) % 7 := by omega
    omega
  · unfold F_X2_note
    rw [ef, a4, Option.bind_some]
theorem S_keepNoted {vf vl : Int32} {gh : Ar} {hl : Nat} {hs : Nat → RS} (h : HC vf vl gh hl hs) {r : RS} {f : Nat} (hf : f < 7) (ef : vf = J f) (hst : ST gh (f * 68) r) : ∃ vf' vl', HC vf' vl' gh (h_len hl) (h_push hl hs r) ∧ F_X2_keepNoted vf vl = some (vf', vl') := by
  obtain ⟨f', hf', ef', el, hl6, hk⟩ := h
  have e : f' = f := by
    have := ef'.symm.trans ef
    rw [J_eq (by omega) (by omega) (by omega) (by omega)] at this
    omega
  subst e
  have e1 : (if (6 : Int32) < vl + 1 then 6 else vl + 1) = J (h_len hl) := by
    rw [el, J_add1]
    unfold h_len
    by_cases q : hl < 6
    · rw [if_pos q, if_neg (by rw [L6, J_lt (by omega) (by omega) (by omega) (by omega)]; omega)]; norm_cast
    · rw [if_neg q, if_pos (by rw [L6, J_lt (by omega) (by omega) (by omega) (by omega)]; omega)]; rfl
  have key : ∀ F : Nat, F < 7 → F = (f' + 1) % 7 → HC (J F) (J (h_len hl)) gh (h_len hl) (h_push hl hs r) := by
    intro F hF eF
    refine ⟨F, hF, rfl, rfl, by unfold h_len; split <;> omega, fun k hk2 => ?_⟩
    unfold h_len at hk2 ⊢
    unfold h_push
    by_cases q : hl < 6
    · rw [if_pos q] at hk2 ⊢
      rw [if_pos q]
      by_cases c : k = hl
      · rw [if_pos c, show (F + 7 - (hl + 1) + k) % 7 = f' by omega]; exact hst
      · rw [if_neg c, show (F + 7 - (hl + 1) + k) % 7 = (f' + 7 - hl + k) % 7 by omega]; exact hk k (by omega)
    · rw [if_neg q] at hk2 ⊢
      rw [if_neg q]
      by_cases c : k = 5
      · rw [if_pos c, show (F + 7 - 6 + k) % 7 = f' by omega]; exact hst
      · rw [if_neg c, show (F + 7 - 6 + k) % 7 = (f' + 7 - hl + (k + 1)) % 7 by omega]; exact hk (k + 1) (by omega)
  unfold F_X2_keepNoted
  rw [e1, ef, J_add1]
  by_cases q : f' = 6
  · rw [if_pos (by rw [L7, J_le (by omega) (by omega) (by omega) (by omega)]; omega)]
    exact ⟨J ((0 : Nat) : Int), _, key 0 (by omega) (by omega), rfl⟩
  · rw [if_neg (by rw [L7, J_le (by omega) (by omega) (by omega) (by omega)]; omega)]
    exact ⟨J ((f' + 1 : Nat) : Int), _, key (f' + 1) (by omega) (by omega), by norm_cast⟩
-- the reference
def MS (g : Ar) (p : Nat) (r : RS) : Prop := g p = J r.2.2.1 ∧ g (p + 1) = J r.2.2.2 ∧ g (p + 2) = J r.2.1 ∧ ∀ i, i < r.2.1 → g (p + 3 + i) = J (r.1 i)
theorem MS.of {g g' : Ar} {p p' : Nat} {r : RS} (h : MS g p r) (hn : r.2.1 ≤ 64) (e : ∀ j, j < 67 → g' (p' + j) = g (p + j)) : MS g' p' r :=
  ⟨(e 0 (by omega)).trans h.1, (e 1 (by omega)).trans h.2.1, (e 2 (by omega)).trans h.2.2.1, fun i hi => by
    have := e (3 + i) (by omega)
    rw [← Nat.add_assoc, ← Nat.add_assoc] at this
    rw [this]; exact h.2.2.2 i hi⟩
theorem MS.ma {g : Ar} {r : RS} : MS g 0 r ↔ MA r.1 r.2.1 r.2.2.1 r.2.2.2 g := by
  unfold MS MA
  simp only [Nat.zero_add]
/-- the reference's history -/
def HM (vh : Int32) (gh : Ar) (hl : Nat) (hs : Nat → RS) : Prop := vh = J hl ∧ hl ≤ 6 ∧ ∀ k, k < hl → MS gh (67 * k) (hs k)
