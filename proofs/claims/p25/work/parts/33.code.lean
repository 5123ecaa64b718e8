-- bits of the stream, the class's coding
theorem S_en_if {n bs b : Nat} {i : Int32} (hi : i = J ((b * bs : Nat) : Int)) (h : b * bs + bs < 2147483648) (h3 : n < 2147483648) : (if J n < i + J bs then J n else i + J bs) = J (s_en n bs b) := by
  subst hi
  rw [J_add]
  unfold s_en
  by_cases h1 : n < b * bs + bs
  · rw [if_pos (by rw [J_lt (by omega) (by omega) (by omega) (by omega)]; omega), if_pos h1]
  · rw [if_neg (by rw [J_lt (by omega) (by omega) (by omega) (by omega)]; omega), if_neg h1]
    norm_cast
theorem S_streamBits11 {x : Nat → Nat} {n bs on : Nat} (h : RV x n bs on) {g : Ar} (hp : PO on (s_gp x) n g) (k : Int32 → Option Int32) : ∀ (m fuel b : Nat) (i3 i4 : Int32), b + m = s_nb n bs → m < fuel → i3 = J (s_sk on (s_gp x) n bs b) → i4 = J ((b * bs : Nat) : Int) →
    F_X4_streamBits_L11 (J n) g (J bs) k fuel i3 i4 = k (J (s_tot on (s_gp x) n bs)) := by
  intro m
  have hn := h.1
  have hbs := h.2.2.1
  have hon := h.2.2.2.2.1
  have hnb := s_nb_le (n := n) h.2.1
  induction m with
  | zero =>
    intro fuel b i3 i4 hb hf e3 e4
    obtain ⟨fuel, rfl⟩ : ∃ f, fuel = f + 1 := ⟨fuel - 1, by omega⟩
    have h1 : ¬ b * bs < n := fun q => by have := (s_nb_lt h.2.1).mpr q; omega
    have h2 : b * bs ≤ 64 * 16 := Nat.mul_le_mul (by omega) hbs
    rw [F_X4_streamBits_L11, e4, if_pos (by rw [J_le (by omega) (by omega) (by omega) (by omega)]; omega), e3, show b = s_nb n bs by omega]
    rfl
  | succ m ih =>
    intro fuel b i3 i4 hb hf e3 e4
    obtain ⟨fuel, rfl⟩ : ∃ f, fuel = f + 1 := ⟨fuel - 1, by omega⟩
    have hlt : b < s_nb n bs := by omega
    obtain ⟨h1, h2, h3⟩ := s_en_gt h.2.1 hlt
    have h4 := (s_nb_lt h.2.1).mp hlt
    have h5 := s_be_le on (s_gp x) (b * bs) (s_en n bs b)
    rw [F_X4_streamBits_L11, S_en_if e4 (by omega) (by omega), e4, if_neg (by rw [J_le (by omega) (by omega) (by omega) (by omega)]; omega), S_bestExponent hp hn hon (b * bs) (s_en n bs b) rfl rfl (by omega) h2, Option.bind_some, S_blockBits hp hn _ (b * bs) (s_en n bs b) rfl rfl rfl (by omega) (by omega) h2, Option.bind_some]
    refine ih fuel (b + 1) _ _ (by omega) (by omega) ?_ ?_
    · rw [e3, J_add]
      show _ = J ((s_sk on (s_gp x) n bs b + s_bb on (s_gp x) n bs b : Nat) : Int)
      unfold s_bb s_ex
      norm_cast
    · rw [J_add, Nat.succ_mul]
      norm_cast
theorem S_streamBits {x : Nat → Nat} {n bs on : Nat} (h : RV x n bs on) {g : Ar} (hp : PO on (s_gp x) n g) : F_X4_streamBits (J n) g (J bs) = some (J (s_tot on (s_gp x) n bs)) := by
  have hn := h.1
  have h1 := h.2.1
  have hbs := h.2.2.1
  have hnb := s_nb_le (n := n) h.2.1
  unfold F_X4_streamBits
  obtain ⟨f2, hf2⟩ := zFuel_ge (n := 65) (by omega)
  have e : (if (1 : Int32) < J bs then J bs else 1) = J bs := by
    by_cases q : 1 < bs
    · rw [if_pos (by rw [L1, J_lt (by omega) (by omega) (by omega) (by omega)]; omega)]
    · rw [if_neg (by rw [L1, J_lt (by omega) (by omega) (by omega) (by omega)]; omega), L1, show bs = 1 by omega]
      rfl
  rw [hf2, e]
  exact S_streamBits11 h hp _ (s_nb n bs) _ 0 _ _ (by omega) (by omega) rfl (by rw [Nat.zero_mul]; rfl)
-- lists of bits
def lb (bf : Nat → Nat) : Nat → List Nat
  | 0 => []
  | w + 1 => bf w :: lb bf w
def bv (v w : Nat) : List Nat := lb (fun i => v / 2 ^ i % 2) w
def s_code (on g e : Nat) : List Nat := if on ≤ g / 2 ^ e then lb (fun _ => 1) on ++ bv g 16 else lb (fun _ => 1) (g / 2 ^ e) ++ (0 :: bv g e)
def s_codes (on : Nat) (gp : Nat → Nat) (e a : Nat) : Nat → List Nat
  | 0 => []
  | m + 1 => s_codes on gp e a m ++ s_code on (gp (a + m)) e
def s_block (on : Nat) (gp : Nat → Nat) (n bs b : Nat) : List Nat := bv (s_ex on gp n bs b) 4 ++ s_codes on gp (s_ex on gp n bs b) (b * bs) (s_en n bs b - b * bs)
def s_str (on : Nat) (gp : Nat → Nat) (n bs : Nat) : Nat → List Nat
  | 0 => []
  | b + 1 => s_str on gp n bs b ++ s_block on gp n bs b
theorem lb_len {bf : Nat → Nat} : ∀ w, (lb bf w).length = w := by
  intro w
  induction w with
  | zero => rfl
  | succ w ih => show _ + 1 = _; rw [ih]
theorem bv_len (v w : Nat) : (bv v w).length = w := lb_len w
theorem s_code_len (on g e : Nat) : (s_code on g e).length = s_cb on g e := by
  unfold s_code s_cb
  split
  · rw [List.length_append, lb_len, bv_len]
  · rw [List.length_append, lb_len, List.length_cons, bv_len]; omega
theorem s_codes_len (on : Nat) (gp : Nat → Nat) (e a : Nat) : ∀ m, (s_codes on gp e a m).length = s_cs on gp e a (a + m) := by
  intro m
  induction m with
  | zero => unfold s_cs; simp [s_codes]
  | succ m ih =>
    have h := s_ps_mono (on := on) (gp := gp) (e := e) (show a ≤ a + m by omega)
    show (s_codes on gp e a m ++ s_code on (gp (a + m)) e).length = _
    rw [List.length_append, ih, s_code_len]
    unfold s_cs
    show _ = s_ps on gp e (a + m) + s_cb on (gp (a + m)) e - _
    omega
theorem s_block_len (on : Nat) (gp : Nat → Nat) {n bs b : Nat} (hb : b * bs ≤ s_en n bs b) : (s_block on gp n bs b).length = s_bb on gp n bs b := by
  unfold s_block s_bb
  rw [List.length_append, bv_len, s_codes_len, show b * bs + (s_en n bs b - b * bs) = s_en n bs b by omega]
theorem s_str_len (on : Nat) (gp : Nat → Nat) {n bs : Nat} (hbs : 1 ≤ bs) : ∀ b, b ≤ s_nb n bs → (s_str on gp n bs b).length = s_sk on gp n bs b := by
  intro b
  induction b with
  | zero => intro _; rfl
  | succ b ih =>
    intro h
    show (s_str on gp n bs b ++ s_block on gp n bs b).length = _ + _
    rw [List.length_append, ih (by omega), s_block_len on gp (by have := s_en_gt hbs (show b < s_nb n bs by omega); omega)]
/-- an array holds a list -/
def AL (g : Ar) (l : List Nat) : Prop := ∀ (i v : Nat), l[i]? = some v → g i = J v
theorem AL.nil (g : Ar) : AL g [] := fun i v h => by simp at h
theorem AL.snoc {g : Ar} {l : List Nat} (h : AL g l) (v : Nat) : AL (upd g l.length (J v)) (l ++ [v]) := by
  intro i w hi
  by_cases e : i = l.length
  · subst e
    rw [List.getElem?_append_right (Nat.le_refl _), Nat.sub_self] at hi
    cases hi
    exact upd_self
  · have hl : i < (l ++ [v]).length := (List.getElem?_eq_some_iff.mp hi).1
    rw [List.length_append] at hl
    have hl : i < l.length := by simp at hl; omega
    rw [List.getElem?_append_left hl] at hi
    rw [upd_ne e]
    exact h i w hi
theorem S_append4 {i1 : Int32} {bf : Nat → Nat} (k : Int32 → Ar → Option (Int32 × Ar)) : ∀ (w fuel : Nat) (v : Int32) (g : Ar) (i3 : Int32) (l : List Nat), w < fuel → w ≤ 32 → (∀ i, i < w → (i1 >>> (J i &&& 31)) &&& 1 = J (bf i)) → AL g l → v = J l.length → l.length + w ≤ 1344 → i3 = J ((w : Int) - 1) →
    ∃ g', AL g' (l ++ lb bf w) ∧ F_X7_append_L4 i1 k fuel v g i3 = k (J ((l.length + w : Nat) : Int)) g' := by
  intro w
  induction w with
  | zero =>
    intro fuel v g i3 l hf hw hb hl ev hlen e3
    obtain ⟨fuel, rfl⟩ : ∃ f, fuel = f + 1 := ⟨fuel - 1, by omega⟩
    refine ⟨g, by simpa [lb] using hl, ?_⟩
    rw [F_X7_append_L4, e3, if_pos (by rw [L0, J_lt (by omega) (by omega) (by omega) (by omega)]; omega), ev]
    rfl
  | succ w ih =>
    intro fuel v g i3 l hf hw hb hl ev hlen e3
    obtain ⟨fuel, rfl⟩ : ∃ f, fuel = f + 1 := ⟨fuel - 1, by omega⟩
    have e3' : i3 = J (w : Int) := by rw [e3]; congr 1; omega
    obtain ⟨g', a1, a2⟩ := ih fuel (J l.length + 1) (upd g l.length (J (bf w))) (J w + -1) (l ++ [bf w]) (by omega) (by omega) (fun i hi => hb i (by omega)) (hl.snoc _) (by rw [L1, J_add, List.length_append]; simp) (by simp; omega) (by rw [Lm1, J_add]; rfl)
    refine ⟨g', ?_, ?_⟩
    · have : l ++ lb bf (w + 1) = l ++ [bf w] ++ lb bf w := by simp [lb]
      rw [this]; exact a1
    · rw [F_X7_append_L4, e3', if_neg (by rw [L0, J_lt (by omega) (by omega) (by omega) (by omega)]; omega), hb w (by omega), ev, S_write l.length rfl (by omega) (by omega), Option.bind_some, a2]
      rw [List.length_append]
      congr 2
      simp
      omega
theorem S_append {i1 : Int32} {bf : Nat → Nat} {w : Nat} {g : Ar} {l : List Nat} {v iw : Int32} (hw : w ≤ 32) (hb : ∀ i, i < w → (i1 >>> (J i &&& 31)) &&& 1 = J (bf i)) (hl : AL g l) (ev : v = J l.length) (hlen : l.length + w ≤ 1344) (ew : iw = J w) : ∃ g', AL g' (l ++ lb bf w) ∧ F_X7_append v g i1 iw = some (J (l ++ lb bf w).length, g') := by
  obtain ⟨f2, hf2⟩ := zFuel_ge (n := 33) (by omega)
  obtain ⟨g', a1, a2⟩ := S_append4 (i1 := i1) (bf := bf) (fun a b => some (a, b)) w (f2 + 33) v g (iw - 1) l (by omega) hw hb hl ev hlen (by rw [ew, L1, J_sub])
  refine ⟨g', a1, ?_⟩
  unfold F_X7_append
  rw [hf2, a2, List.length_append, lb_len]
theorem S_appendCode {g : Ar} {l : List Nat} {gp e on : Nat} {v : Int32} (hg : gp < 65536) (he : e ≤ 15) (h1 : 1 ≤ on) (ho : on ≤ 30) (hl : AL g l) (ev : v = J l.length) (hlen : l.length + s_cb on gp e ≤ 1344) : ∃ g', AL g' (l ++ s_code on gp e) ∧ F_X7_appendCode v g (J gp) (J e) (J on) = some (J (l ++ s_code on gp e).length, g') := by
  unfold F_X7_appendCode
  rw [S_isEscape (by omega) (by omega) (by omega)]
  unfold s_code
  unfold s_cb at hlen
  by_cases hq : on ≤ gp / 2 ^ e
  · rw [if_pos hq] at hlen
    rw [if_pos hq, if_pos hq, Option.bind_some, if_neg (by decide)]
    obtain ⟨g1, a1, a2⟩ := S_append (i1 := -1) (bf := fun _ => 1) (w := on) (iw := J on) (by omega) (fun i hi => by rw [Lm1]; exact J_bit1 (by omega)) hl ev (by omega) rfl
    obtain ⟨g2, b1, b2⟩ := S_append (i1 := J gp) (bf := fun i => gp / 2 ^ i % 2) (w := 16) (iw := 16) (by omega) (fun i hi => J_bit (by omega) (by omega)) a1 rfl (by rw [List.length_append, lb_len]; omega) rfl
    refine ⟨g2, by rw [← List.append_assoc]; exact b1, ?_⟩
    rw [a2, Option.bind_some, b2, Option.bind_some, List.append_assoc]
    rfl
  · rw [if_neg hq] at hlen
    rw [if_neg hq, if_neg hq, Option.bind_some, if_pos rfl]
    obtain ⟨g1, a1, a2⟩ := S_append (i1 := -1) (bf := fun _ => 1) (w := gp / 2 ^ e) (iw := J gp >>> (J e &&& 31)) (by omega) (fun i hi => by rw [Lm1]; exact J_bit1 (by omega)) hl ev (by omega) (by rw [J_shr (by omega) (by omega) (by omega)]; norm_cast)
    obtain ⟨g2, b1, b2⟩ := S_append (i1 := 0) (bf := fun _ => 0) (w := 1) (iw := 1) (by omega) (fun i hi => J_bit0 (by omega)) a1 rfl (by rw [List.length_append, lb_len]; omega) rfl
    obtain ⟨g3, c1, c2⟩ := S_append (i1 := J gp) (bf := fun i => gp / 2 ^ i % 2) (w := e) (iw := J e) (by omega) (fun i hi => J_bit (by omega) (by omega)) b1 rfl (by rw [List.length_append, List.length_append, lb_len, lb_len]; omega) rfl
    have e1 : l ++ lb (fun _ => 1) (gp / 2 ^ e) ++ lb (fun _ => 0) 1 ++ lb (fun i => gp / 2 ^ i % 2) e = l ++ (lb (fun _ => 1) (gp / 2 ^ e) ++ 0 :: bv gp e) := by
      have : lb (fun _ => 0) 1 = [0] := rfl
      rw [this, List.append_assoc, List.append_assoc]; rfl
    rw [e1] at c1 c2
    refine ⟨g3, c1, ?_⟩
    rw [a2, Option.bind_some, b2, Option.bind_some, c2, Option.bind_some]
/-- the codes of a block, one by one -/
theorem S_codeBlock63 {x : Nat → Nat} {n bs on : Nat} (h : RV x n bs on) {gn : Ar} (hg : RA x n gn) {e a b : Nat} (he : e ≤ 15) (hb : b ≤ n) (l0 : List Nat) (hlen : l0.length + s_cs on (s_gp x) e a b ≤ 1344) (k : Int32 → Ar → Option (Ar × Ar × Int32 × Ar)) : ∀ (m fuel j : Nat) (v : Int32) (g : Ar) (i6 : Int32), a + j + m = b → m < fuel → AL g (l0 ++ s_codes on (s_gp x) e a j) → v = J (l0 ++ s_codes on (s_gp x) e a j).length → i6 = J ((a + j : Nat) : Int) →
    ∃ g', AL g' (l0 ++ s_codes on (s_gp x) e a (b - a)) ∧ F_X1_codeBlock_L63 (J on) gn (J b) (J e) k fuel v g i6 = k (J (l0 ++ s_codes on (s_gp x) e a (b - a)).length) g' := by
  intro m
  have hn := h.1
  induction m with
  | zero =>
    intro fuel j v g i6 hj hf hl ev e6
    obtain ⟨fuel, rfl⟩ : ∃ f, fuel = f + 1 := ⟨fuel - 1, by omega⟩
    rw [show b - a = j by omega]
    exact ⟨g, hl, by rw [F_X1_codeBlock_L63, e6, if_pos (by rw [J_le (by omega) (by omega) (by omega) (by omega)]; omega), ev]⟩
  | succ m ih =>
    intro fuel j v g i6 hj hf hl ev e6
    obtain ⟨fuel, rfl⟩ : ∃ f, fuel = f + 1 := ⟨fuel - 1, by omega⟩
    have h1 : s_cs on (s_gp x) e a (a + j) + s_cb on (s_gp x (a + j)) e ≤ s_cs on (s_gp x) e a b := by
      have h2 := s_ps_mono (on := on) (gp := s_gp x) (e := e) (show a ≤ a + j by omega)
      have h3 := s_ps_mono (on := on) (gp := s_gp x) (e := e) (show a + j + 1 ≤ b by omega)
      have h4 : s_ps on (s_gp x) e (a + j + 1) = s_ps on (s_gp x) e (a + j) + s_cb on (s_gp x (a + j)) e := rfl
      unfold s_cs
      omega
    obtain ⟨g1, a1, a2⟩ := S_appendCode (gp := s_gp x (a + j)) (e := e) (on := on) (h.gp (show a + j < n by omega)).1 he h.2.2.2.1 h.2.2.2.2.1 hl ev (by rw [List.length_append, s_codes_len]; omega)
    rw [List.append_assoc] at a1 a2
    obtain ⟨g', b1, b2⟩ := ih fuel (j + 1) _ g1 (J ((a + j : Nat) : Int) + 1) (by omega) (by omega) a1 rfl (by rw [L1, J_add]; norm_cast)
    refine ⟨g', b1, ?_⟩
    rw [F_X1_codeBlock_L63, e6, if_neg (by rw [J_le (by omega) (by omega) (by omega) (by omega)]; omega), S_gapAhead h hg (a + j) rfl (by omega), Option.bind_some, a2, Option.bind_some]
    exact b2
theorem S_codeBlock {x : Nat → Nat} {n bs on : Nat} (h : RV x n bs on) {gn : Ar} (hg : RA x n gn) {gs : Ar} (hp : PO on (s_gp x) n gs) {b : Nat} (hb : b < s_nb n bs) {ge gk g : Ar} {v : Int32} (hl : AL g (s_str on (s_gp x) n bs b)) (ev : v = J (s_sk on (s_gp x) n bs b)) {zb : Int} (ez : zb = b) :
    ∃ g', AL g' (s_str on (s_gp x) n bs (b + 1)) ∧ F_X1_codeBlock ge gs gk v g (J n) (J bs) (J on) gn (J zb) = some (upd ge b (J (s_ex on (s_gp x) n bs b)), upd gk b (J (s_sk on (s_gp x) n bs b)), J (s_sk on (s_gp x) n bs (b + 1)), g') := by
  have hn := h.1
  have hbs := h.2.2.1
  have hnb := s_nb_le (n := n) h.2.1
  obtain ⟨h1, h2, h3⟩ := s_en_gt h.2.1 hb
  have h5 := s_be_le on (s_gp x) (b * bs) (s_en n bs b)
  have hlb := s_str_len on (s_gp x) (n := n) h.2.1 b (by omega)
  have hlb1 := s_str_len on (s_gp x) (n := n) h.2.1 (b + 1) (by omega)
  have hsk := (s_sk_le h (b + 1) (by omega)).2
  have e0 : s_sk on (s_gp x) n bs (b + 1) = s_sk on (s_gp x) n bs b + s_bb on (s_gp x) n bs b := rfl
  have e1 : s_bb on (s_gp x) n bs b = 4 + s_cs on (s_gp x) (s_ex on (s_gp x) n bs b) (b * bs) (s_en n bs b) := rfl
  subst ev
  unfold F_X1_codeBlock
  rw [S_firstOf ez, Option.bind_some, S_endOf ez (by omega) (by omega), Option.bind_some, S_bestExponent hp hn h.2.2.2.2.1 (b * bs) (s_en n bs b) rfl rfl (by omega) h2, Option.bind_some, S_write b ez (by omega) (by omega), Option.bind_some, S_write b ez (by omega) (by omega), Option.bind_some]
  obtain ⟨g1, a1, a2⟩ := S_append (i1 := J (s_ex on (s_gp x) n bs b)) (bf := fun i => s_ex on (s_gp x) n bs b / 2 ^ i % 2) (w := 4) (iw := 4) (by omega) (fun i hi => J_bit (by unfold s_ex; omega) (by omega)) hl (v := J (s_sk on (s_gp x) n bs b)) (by rw [hlb]) (by omega) rfl
  have a2' : F_X7_append (J (s_sk on (s_gp x) n bs b)) g (J (s_be on (s_gp x) (b * bs) (s_en n bs b))) 4 = _ := a2
  rw [a2', Option.bind_some]
  obtain ⟨f2, hf2⟩ := zFuel_ge (n := 65) (by omega)
  obtain ⟨g2, b1, b2⟩ := S_codeBlock63 h hg (e := s_ex on (s_gp x) n bs b) (a := b * bs) (b := s_en n bs b) h5 h2 (s_str on (s_gp x) n bs b ++ lb (fun i => s_ex on (s_gp x) n bs b / 2 ^ i % 2) 4) (by rw [List.length_append, lb_len]; omega) (fun a c => some (upd ge b (J (s_ex on (s_gp x) n bs b)), upd gk b (J (s_sk on (s_gp x) n bs b)), a, c)) (s_en n bs b - b * bs) (f2 + 65) 0 (J (s_str on (s_gp x) n bs b ++ lb (fun i => s_ex on (s_gp x) n bs b / 2 ^ i % 2) 4).length) g1 (J ((b * bs : Nat) : Int)) (by omega) (by omega) (by simpa [s_codes] using a1) (by simp [s_codes]) rfl
  have e2 : s_str on (s_gp x) n bs b ++ lb (fun i => s_ex on (s_gp x) n bs b / 2 ^ i % 2) 4 ++ s_codes on (s_gp x) (s_ex on (s_gp x) n bs b) (b * bs) (s_en n bs b - b * bs) = s_str on (s_gp x) n bs (b + 1) := by rw [List.append_assoc]; rfl
  rw [e2] at b1 b2
  refine ⟨g2, b1, ?_⟩
  rw [hf2]
  rw [hlb1] at b2
  exact b2
/-- what the class's coding holds -/
def CE (on : Nat) (gp : Nat → Nat) (n bs : Nat) (B : Nat) (ge gk : Ar) : Prop := ∀ b, b < B → ge b = J (s_ex on gp n bs b) ∧ gk b = J (s_sk on gp n bs b)
theorem S_codeAnew22 {x : Nat → Nat} {n bs on : Nat} (h : RV x n bs on) {gn : Ar} (hg : RA x n gn) {gs : Ar} (hp : PO on (s_gp x) n gs) (k : Ar → Ar → Int32 → Ar → Option (Ar × Int32 × Ar × Ar × Int32 × Ar)) : ∀ (m fuel b : Nat) (ge gk : Ar) (v : Int32) (g : Ar) (i2 : Int32), b + m = s_nb n bs → m < fuel → CE on (s_gp x) n bs b ge gk → AL g (s_str on (s_gp x) n bs b) → v = J (s_sk on (s_gp x) n bs b) → i2 = J b →
    ∃ ge' gk' g', CE on (s_gp x) n bs (s_nb n bs) ge' gk' ∧ AL g' (s_str on (s_gp x) n bs (s_nb n bs)) ∧ F_X1_codeAnew_L22 gs (J n) (J bs) (J on) gn k fuel ge gk v g i2 = k ge' gk' (J (s_tot on (s_gp x) n bs)) g' := by
  intro m
  have hn := h.1
  have hbs := h.2.2.1
  have hnb := s_nb_le (n := n) h.2.1
  induction m with
  | zero =>
    intro fuel b ge gk v g i2 hb hf hc hl ev e2
    obtain ⟨fuel, rfl⟩ : ∃ f, fuel = f + 1 := ⟨fuel - 1, by omega⟩
    have hb : b = s_nb n bs := by omega
    subst hb
    refine ⟨ge, gk, g, hc, hl, ?_⟩
    rw [F_X1_codeAnew_L22, S_blocks h.2.1 (by omega) (by omega), Option.bind_some, e2, if_pos (by rw [J_le (by omega) (by omega) (by omega) (by omega)]; omega), ev]
    rfl
  | succ m ih =>
    intro fuel b ge gk v g i2 hb hf hc hl ev e2
    obtain ⟨fuel, rfl⟩ : ∃ f, fuel = f + 1 := ⟨fuel - 1, by omega⟩
    obtain ⟨g1, a1, a2⟩ := S_codeBlock h hg hp (b := b) (by omega) (ge := ge) (gk := gk) hl ev (zb := (b : Int)) rfl
    obtain ⟨ge', gk', g', b1, b2, b3⟩ := ih fuel (b + 1) (upd ge b (J (s_ex on (s_gp x) n bs b))) (upd gk b (J (s_sk on (s_gp x) n bs b))) _ g1 (J b + 1) (by omega) (by omega) (fun b' hb' => by
      by_cases e : b' = b
      · subst e; exact ⟨upd_self, upd_self⟩
      · rw [upd_ne e, upd_ne e]; exact hc b' (by omega)) a1 rfl (by rw [L1, J_add]; norm_cast)
    refine ⟨ge', gk', g', b1, b2, ?_⟩
    rw [F_X1_codeAnew_L22, S_blocks h.2.1 (by omega) (by omega), Option.bind_some, e2, if_neg (by rw [J_le (by omega) (by omega) (by omega) (by omega)]; omega), a2, Option.bind_some]
    exact b3
/-- the class's coding of a row: exponents, prices, skips, stream -/
def CO (x : Nat → Nat) (n bs on : Nat) (ge : Ar) (pl : Int32) (gs gk : Ar) (sl : Int32) (g : Ar) : Prop :=
  CE on (s_gp x) n bs (s_nb n bs) ge gk ∧ pl = J n ∧ PZ gs ∧ PO on (s_gp x) n gs ∧ sl = J (s_tot on (s_gp x) n bs) ∧ AL g (s_str on (s_gp x) n bs (s_nb n bs))
theorem S_codeAnew {x : Nat → Nat} {n bs on : Nat} (h : RV x n bs on) {gn : Ar} (hg : RA x n gn) {ge gs gk g : Ar} {pl sl : Int32} (hz : PZ gs) : ∃ ge' gs' gk' g', CO x n bs on ge' (J n) gs' gk' (J (s_tot on (s_gp x) n bs)) g' ∧ F_X1_codeAnew ge pl gs gk sl g (J n) (J bs) (J on) gn = some (ge', J n, gs', gk', J (s_tot on (s_gp x) n bs), g') := by
  have hnb := s_nb_le (n := n) h.2.1
  have hn := h.1
  obtain ⟨gs', a1, a2, a3⟩ := S_fill h (on' := on) h.2.2.2.2.1 hg (vl := pl) hz
  obtain ⟨f2, hf2⟩ := zFuel_ge (n := 65) (by omega)
  obtain ⟨ge', gk', g', b1, b2, b3⟩ := S_codeAnew22 h hg a2 (fun a b c d => some (a, J n, gs', b, c, d)) (s_nb n bs) (f2 + 65) 0 ge gk 0 g 0 (by omega) (by omega) (fun b hb => by omega) (AL.nil g) rfl rfl
  refine ⟨ge', gs', gk', g', ⟨b1, rfl, a1, a2, rfl, b2⟩, ?_⟩
  unfold F_X1_codeAnew
  rw [a3, Option.bind_some, hf2]
  exact b3
