-- the reference's stream
theorem S_writes4 {i1 : Int32} {bf : Nat → Nat} (k : Int32 → Ar → Option (Int32 × Ar)) : ∀ (w fuel : Nat) (v : Int32) (g : Ar) (i3 : Int32) (l : List Nat), w < fuel → w ≤ 32 → (∀ i, i < w → (i1 >>> (J i &&& 31)) &&& 1 = J (bf i)) → AL g l → v = J l.length → l.length + w ≤ 1344 → i3 = J ((w : Int) - 1) →
    ∃ g', AL g' (l ++ lb bf w) ∧ F_X9_writes_L4 i1 k fuel v g i3 = k (J ((l.length + w : Nat) : Int)) g' := by
  intro w
  induction w with
  | zero =>
    intro fuel v g i3 l hf hw hb hl ev hlen e3
    obtain ⟨fuel, rfl⟩ : ∃ f, fuel = f + 1 := ⟨fuel - 1, by omega⟩
    refine ⟨g, by simpa [lb] using hl, ?_⟩
    rw [F_X9_writes_L4, e3, if_pos (by rw [L0, J_lt (by omega) (by omega) (by omega) (by omega)]; omega), ev]
    rfl
  | succ w ih =>
    intro fuel v g i3 l hf hw hb hl ev hlen e3
    obtain ⟨fuel, rfl⟩ : ∃ f, fuel = f + 1 := ⟨fuel - 1, by omega⟩
    have e3' : i3 = J (w : Int) := by rw [e3]; congr 1; omega
    obtain ⟨g', a1, a2⟩ := ih fuel (J l.length + 1) (upd g l.length (J (bf w))) (J w + -1) (l ++ [bf w]) (by omega) (by omega) (fun i hi => hb i (by omega)) (hl.snoc _) (by rw [L1, J_add, List.length_append]; simp) (by simp; omega) (by rw [Lm1, J_add]; rfl)
    refine ⟨g', ?_, ?_⟩
    · have : l ++ lb bf (w + 1) = l ++ [bf w] ++ lb bf w := by simp [lb]
      rw [this]; exact a1
    · rw [F_X9_writes_L4, e3', if_neg (by rw [L0, J_lt (by omega) (by omega) (by omega) (by omega)]; omega), ev, if_pos (gd_ok (by omega) (by omega) (by omega)), hb w (by omega), J_ix l.length rfl (by omega), a2]
      rw [List.length_append]
      congr 2
      simp
      omega
theorem S_writes {i1 : Int32} {bf : Nat → Nat} {w : Nat} {g : Ar} {l : List Nat} {v iw : Int32} (hw : w ≤ 32) (hb : ∀ i, i < w → (i1 >>> (J i &&& 31)) &&& 1 = J (bf i)) (hl : AL g l) (ev : v = J l.length) (hlen : l.length + w ≤ 1344) (ew : iw = J w) : ∃ g', AL g' (l ++ lb bf w) ∧ F_X9_writes v g i1 iw = some (J (l ++ lb bf w).length, g') := by
  obtain ⟨f2, hf2⟩ := zFuel_ge (n := 33) (by omega)
  obtain ⟨g', a1, a2⟩ := S_writes4 (i1 := i1) (bf := bf) (fun a b => some (a, b)) w (f2 + 33) v g (iw - 1) l (by omega) hw hb hl ev hlen (by rw [ew, L1, J_sub])
  refine ⟨g', a1, ?_⟩
  unfold F_X9_writes
  rw [hf2, a2, List.length_append, lb_len]
theorem lb_snoc (w : Nat) : lb (fun _ => 1) w ++ [1] = lb (fun _ => 1) (w + 1) := by
  induction w with
  | zero => rfl
  | succ w ih => show 1 :: (lb (fun _ => 1) w ++ [1]) = _; rw [ih]; rfl
theorem S_writesOnes2 {W : Nat} (hW : W ≤ 30) (l : List Nat) (hlen : l.length + W ≤ 1344) (k : Int32 → Ar → Option (Int32 × Ar)) : ∀ (m fuel j : Nat) (v : Int32) (g : Ar) (i2 : Int32), j + m = W → m < fuel → AL g (l ++ lb (fun _ => 1) j) → v = J (l ++ lb (fun _ => 1) j).length → i2 = J j →
    ∃ g', AL g' (l ++ lb (fun _ => 1) W) ∧ F_X9_writesOnes_L2 (J W) k fuel v g i2 = k (J (l ++ lb (fun _ => 1) W).length) g' := by
  intro m
  induction m with
  | zero =>
    intro fuel j v g i2 hj hf hl ev e2
    obtain ⟨fuel, rfl⟩ : ∃ f, fuel = f + 1 := ⟨fuel - 1, by omega⟩
    have hj : j = W := by omega
    subst hj
    exact ⟨g, hl, by rw [F_X9_writesOnes_L2, e2, if_pos (by rw [J_le (by omega) (by omega) (by omega) (by omega)]; omega), ev]⟩
  | succ m ih =>
    intro fuel j v g i2 hj hf hl ev e2
    obtain ⟨fuel, rfl⟩ : ∃ f, fuel = f + 1 := ⟨fuel - 1, by omega⟩
    obtain ⟨g1, a1, a2⟩ := S_writes (i1 := 1) (bf := fun _ => 1) (w := 1) (iw := 1) (by omega) (fun i hi => by rw [show i = 0 by omega]; decide) hl ev (by rw [List.length_append, lb_len]; omega) rfl
    have e0 : l ++ lb (fun _ => 1) j ++ lb (fun _ => 1) 1 = l ++ lb (fun _ => 1) (j + 1) := by rw [List.append_assoc]; exact congrArg (l ++ ·) (lb_snoc j)
    rw [e0] at a1 a2
    obtain ⟨g', b1, b2⟩ := ih fuel (j + 1) _ g1 (J j + 1) (by omega) (by omega) a1 rfl (by rw [L1, J_add]; norm_cast)
    refine ⟨g', b1, ?_⟩
    rw [F_X9_writesOnes_L2, e2, if_neg (by rw [J_le (by omega) (by omega) (by omega) (by omega)]; omega), a2, Option.bind_some]
    exact b2
theorem S_writesOnes {W : Nat} {g : Ar} {l : List Nat} {v iw : Int32} (hW : W ≤ 30) (hl : AL g l) (ev : v = J l.length) (hlen : l.length + W ≤ 1344) (ew : iw = J W) : ∃ g', AL g' (l ++ lb (fun _ => 1) W) ∧ F_X9_writesOnes v g iw = some (J (l ++ lb (fun _ => 1) W).length, g') := by
  obtain ⟨f2, hf2⟩ := zFuel_ge (n := 33) (by omega)
  obtain ⟨g', a1, a2⟩ := S_writesOnes2 hW l hlen (fun a b => some (a, b)) W (f2 + 33) 0 v g 0 (by omega) (by omega) (by simpa [lb] using hl) (by rw [ev]; simp [lb]) rfl
  refine ⟨g', a1, ?_⟩
  unfold F_X9_writesOnes
  rw [hf2, ew]
  exact a2
section MODBITS
variable {x : Nat → Nat} {n bs on : Nat} {ga : Ar}
theorem S_lays33 (h : RV x n bs on) (hm : MA x n bs on ga) {b e : Nat} (hb : b < s_nb n bs) (he : e ≤ 15) (l0 : List Nat) (hlen : l0.length + s_cs on (s_gp x) e (b * bs) (s_en n bs b) ≤ 1344) (k : Int32 → Ar → Option (Int32 × Ar)) : ∀ (m fuel j : Nat) (v : Int32) (g : Ar) (i3 : Int32), b * bs + j + m = s_en n bs b → m < fuel → AL g (l0 ++ s_codes on (s_gp x) e (b * bs) j) → v = J (l0 ++ s_codes on (s_gp x) e (b * bs) j).length → i3 = J ((b * bs + j : Nat) : Int) →
    ∃ g', AL g' (l0 ++ s_codes on (s_gp x) e (b * bs) (s_en n bs b - b * bs)) ∧ F_X9_lays_L33 ga (J b) (J e) k fuel v g i3 = k (J (l0 ++ s_codes on (s_gp x) e (b * bs) (s_en n bs b - b * bs)).length) g' := by
  intro m
  have hn := h.1
  have ho := h.2.2.2.2.1
  have hnb := s_nb_le (n := n) h.2.1
  have h3 := s_en_gt h.2.1 hb
  induction m with
  | zero =>
    intro fuel j v g i3 hj hf hl ev e3
    obtain ⟨fuel, rfl⟩ : ∃ f, fuel = f + 1 := ⟨fuel - 1, by omega⟩
    rw [show s_en n bs b - b * bs = j by omega]
    exact ⟨g, hl, by rw [F_X9_lays_L33, S_end9 h hm b rfl (by omega), Option.bind_some, e3, if_pos (by rw [J_le (by omega) (by omega) (by omega) (by omega)]; omega), ev]⟩
  | succ m ih =>
    intro fuel j v g i3 hj hf hl ev e3
    obtain ⟨fuel, rfl⟩ : ∃ f, fuel = f + 1 := ⟨fuel - 1, by omega⟩
    have hgp := (h.gp (show b * bs + j < n by omega)).1
    have h1 : s_cs on (s_gp x) e (b * bs) (b * bs + j) + s_cb on (s_gp x (b * bs + j)) e ≤ s_cs on (s_gp x) e (b * bs) (s_en n bs b) := by
      have h2 := s_ps_mono (on := on) (gp := s_gp x) (e := e) (show b * bs ≤ b * bs + j by omega)
      have h3 := s_ps_mono (on := on) (gp := s_gp x) (e := e) (show b * bs + j + 1 ≤ s_en n bs b by omega)
      have h4 : s_ps on (s_gp x) e (b * bs + j + 1) = s_ps on (s_gp x) e (b * bs + j) + s_cb on (s_gp x (b * bs + j)) e := rfl
      unfold s_cs
      omega
    have hl2 : (l0 ++ s_codes on (s_gp x) e (b * bs) j).length + s_cb on (s_gp x (b * bs + j)) e ≤ 1344 := by rw [List.length_append, s_codes_len]; omega
    have fin : ∀ (v2 : Int32) (g2 : Ar), AL g2 (l0 ++ s_codes on (s_gp x) e (b * bs) j ++ s_code on (s_gp x (b * bs + j)) e) → v2 = J (l0 ++ s_codes on (s_gp x) e (b * bs) j ++ s_code on (s_gp x (b * bs + j)) e).length → ∃ g', AL g' (l0 ++ s_codes on (s_gp x) e (b * bs) (s_en n bs b - b * bs)) ∧ F_X9_lays_L33 ga (J b) (J e) k fuel v2 g2 (J ((b * bs + j : Nat) : Int) + 1) = k (J (l0 ++ s_codes on (s_gp x) e (b * bs) (s_en n bs b - b * bs)).length) g' := by
      intro v2 g2 a1 a2
      rw [List.append_assoc] at a1 a2
      exact ih fuel (j + 1) v2 g2 _ (by omega) (by omega) a1 a2 (by rw [L1, J_add]; norm_cast)
    rw [F_X9_lays_L33, S_end9 h hm b rfl (by omega), Option.bind_some, e3, if_neg (by rw [J_le (by omega) (by omega) (by omega) (by omega)]; omega), S_gapOf9 h hm (b * bs + j) rfl (by omega), Option.bind_some, S_isEscape9 hm ho (by omega) (by omega), Option.bind_some]
    unfold s_code at fin
    unfold s_cb at hl2
    generalize l0 ++ s_codes on (s_gp x) e (b * bs) j = l at hl ev hl2 fin
    generalize s_gp x (b * bs + j) = gp at hgp hl2 fin ⊢
    by_cases hq : on ≤ gp / 2 ^ e
    · rw [if_pos hq] at hl2 fin
      rw [if_pos hq, if_neg (by decide)]
      obtain ⟨g1, a1, a2⟩ := S_writesOnes (W := on) (iw := ga 1) ho hl ev (by omega) hm.2.1
      obtain ⟨g2, b1, b2⟩ := S_writes (i1 := J gp) (bf := fun i => gp / 2 ^ i % 2) (w := 16) (iw := 16) (by omega) (fun i hi => J_bit (by omega) (by omega)) a1 rfl (by rw [List.length_append, lb_len]; omega) rfl
      rw [a2, Option.bind_some, b2, Option.bind_some]
      rw [List.append_assoc] at b1
      exact fin _ g2 b1 (by rw [List.append_assoc]; rfl)
    · rw [if_neg hq] at hl2 fin
      rw [if_neg hq, if_pos rfl]
      obtain ⟨g1, a1, a2⟩ := S_writesOnes (W := gp / 2 ^ e) (iw := J gp >>> (J e &&& 31)) (by omega) hl ev (by omega) (by rw [J_shr (by omega) (by omega) (by omega)]; norm_cast)
      obtain ⟨g2, b1, b2⟩ := S_writes (i1 := 0) (bf := fun _ => 0) (w := 1) (iw := 1) (by omega) (fun i hi => J_bit0 (by omega)) a1 rfl (by rw [List.length_append, lb_len]; omega) rfl
      obtain ⟨g3, c1, c2⟩ := S_writes (i1 := J gp) (bf := fun i => gp / 2 ^ i % 2) (w := e) (iw := J e) (by omega) (fun i hi => J_bit (by omega) (by omega)) b1 rfl (by rw [List.length_append, List.length_append, lb_len, lb_len]; omega) rfl
      have e1 : l ++ lb (fun _ => 1) (gp / 2 ^ e) ++ lb (fun _ => 0) 1 ++ lb (fun i => gp / 2 ^ i % 2) e = l ++ (lb (fun _ => 1) (gp / 2 ^ e) ++ 0 :: bv gp e) := by
        have : lb (fun _ => 0) 1 = [0] := rfl
        rw [this, List.append_assoc, List.append_assoc]; rfl
      rw [e1] at c1 c2
      rw [a2, Option.bind_some, b2, Option.bind_some, c2, Option.bind_some]
      exact fin _ g3 c1 rfl
theorem S_lays7 (h : RV x n bs on) (hm : MA x n bs on ga) (k : Int32 → Ar → Option (Int32 × Ar)) : ∀ (m fuel b : Nat) (v : Int32) (g : Ar) (i1 : Int32), b + m = s_nb n bs → m < fuel → AL g (s_str on (s_gp x) n bs b) → v = J (s_sk on (s_gp x) n bs b) → i1 = J b →
    ∃ g', AL g' (s_str on (s_gp x) n bs (s_nb n bs)) ∧ F_X9_lays_L7 ga k fuel v g i1 = k (J (s_tot on (s_gp x) n bs)) g' := by
  intro m
  have hn := h.1
  have hnb := s_nb_le (n := n) h.2.1
  induction m with
  | zero =>
    intro fuel b v g i1 hb hf hl ev e1
    obtain ⟨fuel, rfl⟩ : ∃ f, fuel = f + 1 := ⟨fuel - 1, by omega⟩
    have hb : b = s_nb n bs := by omega
    subst hb
    exact ⟨g, hl, by rw [F_X9_lays_L7, S_blocks9 h hm, Option.bind_some, e1, if_pos (by rw [J_le (by omega) (by omega) (by omega) (by omega)]; omega), ev]; rfl⟩
  | succ m ih =>
    intro fuel b v g i1 hb hf hl ev e1
    obtain ⟨fuel, rfl⟩ : ∃ f, fuel = f + 1 := ⟨fuel - 1, by omega⟩
    have hlt : b < s_nb n bs := by omega
    have h3 := s_en_gt h.2.1 hlt
    have he : s_ex on (s_gp x) n bs b ≤ 15 := s_be_le on (s_gp x) _ _
    have hlb := s_str_len on (s_gp x) (n := n) h.2.1 b (by omega)
    have hlb1 := s_str_len on (s_gp x) (n := n) h.2.1 (b + 1) (by omega)
    have hsk := (s_sk_le h (b + 1) (by omega)).2
    have e0 : s_sk on (s_gp x) n bs (b + 1) = s_sk on (s_gp x) n bs b + s_bb on (s_gp x) n bs b := rfl
    have e00 : s_bb on (s_gp x) n bs b = 4 + s_cs on (s_gp x) (s_ex on (s_gp x) n bs b) (b * bs) (s_en n bs b) := rfl
    obtain ⟨g1, a1, a2⟩ := S_writes (i1 := J (s_ex on (s_gp x) n bs b)) (bf := fun i => s_ex on (s_gp x) n bs b / 2 ^ i % 2) (w := 4) (iw := 4) (v := v) (by omega) (fun i hi => J_bit (by omega) (by omega)) hl (by rw [hlb]; exact ev) (by omega) rfl
    obtain ⟨f2, hf2⟩ := zFuel_ge (n := 65) (by omega)
    obtain ⟨g2, b1, b2⟩ := S_lays33 h hm hlt he (s_str on (s_gp x) n bs b ++ lb (fun i => s_ex on (s_gp x) n bs b / 2 ^ i % 2) 4) (by rw [List.length_append, lb_len]; omega) (fun a c => F_X9_lays_L7 ga k fuel a c (J b + 1)) (s_en n bs b - b * bs) (f2 + 65) 0 (J (s_str on (s_gp x) n bs b ++ lb (fun i => s_ex on (s_gp x) n bs b / 2 ^ i % 2) 4).length) g1 (J ((b * bs : Nat) : Int)) (by omega) (by omega) (by simpa [s_codes] using a1) (by simp [s_codes]) rfl
    have e2 : s_str on (s_gp x) n bs b ++ lb (fun i => s_ex on (s_gp x) n bs b / 2 ^ i % 2) 4 ++ s_codes on (s_gp x) (s_ex on (s_gp x) n bs b) (b * bs) (s_en n bs b - b * bs) = s_str on (s_gp x) n bs (b + 1) := by rw [List.append_assoc]; rfl
    rw [e2] at b1 b2
    rw [hlb1] at b2
    obtain ⟨g', c1, c2⟩ := ih fuel (b + 1) _ g2 (J b + 1) (by omega) (by omega) b1 rfl (by rw [L1, J_add]; norm_cast)
    refine ⟨g', c1, ?_⟩
    rw [F_X9_lays_L7, S_blocks9 h hm, Option.bind_some, e1, if_neg (by rw [J_le (by omega) (by omega) (by omega) (by omega)]; omega), S_exponentOf9 h hm b rfl hlt, Option.bind_some, a2, Option.bind_some, S_first9 hm b rfl, Option.bind_some, hf2]
    exact b2.trans c2
theorem S_lays (h : RV x n bs on) (hm : MA x n bs on ga) (v : Int32) (g : Ar) : ∃ g' sl, SL g' sl (s_str on (s_gp x) n bs (s_nb n bs)) ∧ F_X9_lays v ga g = some (sl, g') := by
  have hn := h.1
  have hnb := s_nb_le (n := n) h.2.1
  obtain ⟨f2, hf2⟩ := zFuel_ge (n := 65) (by omega)
  obtain ⟨g', a1, a2⟩ := S_lays7 h hm (fun a b => some (a, b)) (s_nb n bs) (f2 + 65) 0 0 g 0 (by omega) (by omega) (AL.nil g) rfl rfl
  have h1 := s_str_len on (s_gp x) (n := n) h.2.1 (s_nb n bs) (Nat.le_refl _)
  have h2 := s_tot_le h
  unfold s_tot at h2
  refine ⟨g', J (s_tot on (s_gp x) n bs), ⟨a1, by rw [h1]; rfl, by omega⟩, ?_⟩
  unfold F_X9_lays
  rw [hf2]
  exact a2
theorem S_bit9 (h : RV x n bs on) (hm : MA x n bs on ga) (v : Int32) (g : Ar) {z : Int} (hz : -2147483648 ≤ z ∧ z < 2147483648) : ∃ v' g', F_X9_bit v ga g (J z) = some (a_bit (s_str on (s_gp x) n bs (s_nb n bs)) z, v', g') := by
  obtain ⟨g', sl, ⟨s1, s2, s3⟩, a2⟩ := S_lays h hm v g
  unfold F_X9_bit a_bit
  generalize s_str on (s_gp x) n bs (s_nb n bs) = l at *
  rw [a2, Option.bind_some, s2, J_K hz.1 hz.2, J_K (by omega) (by omega), show (0 : Int64) = K 0 from rfl, show (1 : Int64) = K 1 from rfl, K_sub, S_in (by omega) (by omega) (by omega) (by omega) (by omega) (by omega), Option.bind_some]
  by_cases hp : 0 ≤ z ∧ z < l.length
  · obtain ⟨i, rfl⟩ : ∃ i : Nat, z = i := ⟨z.toNat, by omega⟩
    have hi : l[i]? = some (l.getD i 0) := by
      rw [List.getD_eq_getElem?_getD, List.getElem?_eq_getElem (by omega)]; rfl
    rw [show (if (0 : Int) ≤ (i : Int) ∧ (i : Int) ≤ (l.length : Int) - 1 then (1 : Int32) else 0) = 1 from if_pos (by omega), if_neg (by decide), if_pos (gd_ok (by omega) (by omega) (by omega)), J_ix i rfl (by omega), if_pos hp]
    refine ⟨J l.length, g', ?_⟩
    show some (g' i, _, _) = _
    rw [s1 i _ hi]
    rfl
  · rw [show (if (0 : Int) ≤ z ∧ z ≤ (l.length : Int) - 1 then (1 : Int32) else 0) = 0 from if_neg (by omega), if_pos rfl, if_neg hp]
    exact ⟨_, _, rfl⟩
theorem S_bits29 {l : List Nat} {g : Ar} {sl : Int32} (hs : SL g sl l) (p : Nat) (hp : p < l.length) (k : Int64 → Option (Int64 × Int32 × Ar)) : ∀ (m fuel j : Nat) (j2 : Int64) (i4 : Int32), j + m = 32 → m < fuel → j2 = s_word l p j → i4 = J j →
    F_X9_bits_L29 sl g (J p) k fuel j2 i4 = k (s_word l p 32) := by
  intro m
  induction m with
  | zero =>
    intro fuel j j2 i4 hj hf e2 e4
    obtain ⟨fuel, rfl⟩ : ∃ f, fuel = f + 1 := ⟨fuel - 1, by omega⟩
    rw [F_X9_bits_L29, e4, if_pos (by rw [L32, J_le (by omega) (by omega) (by omega) (by omega)]; omega), e2, show j = 32 by omega]
  | succ m ih =>
    intro fuel j j2 i4 hj hf e2 e4
    obtain ⟨fuel, rfl⟩ : ∃ f, fuel = f + 1 := ⟨fuel - 1, by omega⟩
    obtain ⟨h1, h2, h3⟩ := hs
    have hw : s_word l p (j + 1) = s_word l p j * 2 + (J (l.getD (p + j) 0)).toInt64 := rfl
    rw [F_X9_bits_L29, e4, if_neg (by rw [L32, J_le (by omega) (by omega) (by omega) (by omega)]; omega), J_add, h2, jf_le (by omega) (by omega) (by omega) (by omega), ← h2]
    by_cases hq : p + j < l.length
    · have hi : l[p + j]? = some (l.getD (p + j) 0) := by
        rw [List.getD_eq_getElem?_getD, List.getElem?_eq_getElem hq]; rfl
      rw [if_neg (by omega), if_pos (gd_ok (by omega) (by omega) (by omega)), J_ix (p + j) (by omega) (by omega), h1 _ _ hi]
      exact ih fuel (j + 1) _ _ (by omega) (by omega) (by rw [hw, e2, Int64.mul_comm]) (by rw [L1, J_add]; norm_cast)
    · have hi : l.getD (p + j) 0 = 0 := by rw [List.getD_eq_getElem?_getD, List.getElem?_eq_none (by omega)]; rfl
      rw [if_pos (by omega)]
      exact ih fuel (j + 1) _ _ (by omega) (by omega) (by rw [hw, hi, e2, Int64.mul_comm]; rfl) (by rw [L1, J_add]; norm_cast)
theorem S_bits9 (h : RV x n bs on) (hm : MA x n bs on ga) (v : Int32) (g : Ar) {z : Int} (hz : -2147483648 ≤ z ∧ z < 2147483648) : ∃ v' g', F_X9_bits v ga g (J z) = some (a_bits (s_str on (s_gp x) n bs (s_nb n bs)) z, v', g') := by
  obtain ⟨g', sl, hs, a2⟩ := S_lays h hm v g
  unfold F_X9_bits a_bits
  generalize s_str on (s_gp x) n bs (s_nb n bs) = l at *
  have s2 := hs.2.1
  have s3 := hs.2.2
  have e3 : sl.toInt64 = K l.length := by rw [s2, J_K (by omega) (by omega)]
  rw [a2, Option.bind_some]
  show ∃ v' g'_1, (Option.bind (F_X9_in (J z).toInt64 0 (sl.toInt64 - 1)) _) = _
  rw [J_K hz.1 hz.2, e3, show (0 : Int64) = K 0 from rfl, show (1 : Int64) = K 1 from rfl, K_sub, S_in (by omega) (by omega) (by omega) (by omega) (by omega) (by omega), Option.bind_some]
  by_cases hp : 0 ≤ z ∧ z < l.length
  · obtain ⟨i, rfl⟩ : ∃ i : Nat, z = i := ⟨z.toNat, by omega⟩
    obtain ⟨f2, hf2⟩ := zFuel_ge (n := 33) (by omega)
    rw [show (if (0 : Int) ≤ (i : Int) ∧ (i : Int) ≤ (l.length : Int) - 1 then (1 : Int32) else 0) = 1 from if_pos (by omega), if_neg (by decide), if_pos hp, hf2]
    have e4 := S_bits29 hs i (by omega) (fun j => some (j, sl, g')) 32 (f2 + 33) 0 0 0 (by omega) (by omega) rfl rfl
    exact ⟨_, _, e4⟩
  · rw [show (if (0 : Int) ≤ z ∧ z ≤ (l.length : Int) - 1 then (1 : Int32) else 0) = 0 from if_neg (by omega), if_pos rfl, if_neg hp]
    exact ⟨_, _, rfl⟩
theorem S_reads4 {g : Ar} {l : List Nat} (h1 : AL g l) (h3 : l.length ≤ 1344) {bf : Nat → Nat} {W : Nat} (hW : W ≤ 64) (post : List Nat) (k : Int32 → Int32 → Option (Int32 × Int32)) : ∀ (w fuel : Nat) (pre : List Nat) (vn i2 i3 : Int32) (acc : Nat), w ≤ W → w < fuel → l = pre ++ (lb bf w ++ post) → vn = J pre.length → i2 = J acc → i3 = J ((W - w : Nat) : Int) →
    F_X9_reads_L4 g (J W) k fuel vn i2 i3 = k (J ((pre.length + w : Nat) : Int)) (J ((acc * 2 ^ w + vb bf w : Nat) : Int)) := by
  intro w
  induction w with
  | zero =>
    intro fuel pre vn i2 i3 acc hw hf hl e1 e2 e3
    obtain ⟨fuel, rfl⟩ : ∃ f, fuel = f + 1 := ⟨fuel - 1, by omega⟩
    rw [F_X9_reads_L4, e3, if_pos (by rw [J_le (by omega) (by omega) (by omega) (by omega)]; omega), e1, e2]
    congr 2
    show _ = ((acc * 2 ^ 0 + 0 : Nat) : Int)
    omega
  | succ w ih =>
    intro fuel pre vn i2 i3 acc hw hf hl e1 e2 e3
    obtain ⟨fuel, rfl⟩ : ∃ f, fuel = f + 1 := ⟨fuel - 1, by omega⟩
    have hl2 : l = (pre ++ [bf w]) ++ (lb bf w ++ post) := by rw [hl]; simp [lb]
    have hv : l[pre.length]? = some (bf w) := by
      rw [hl, List.getElem?_append_right (Nat.le_refl _), Nat.sub_self]; rfl
    have hpl : pre.length < l.length := (List.getElem?_eq_some_iff.mp hv).1
    rw [F_X9_reads_L4, e3, if_neg (by rw [J_le (by omega) (by omega) (by omega) (by omega)]; omega), e1, if_pos (gd_ok (by omega) (by omega) (by omega)), J_ix pre.length rfl (by omega), h1 _ _ hv,
      ih fuel (pre ++ [bf w]) _ _ _ (acc * 2 + bf w) (by omega) (by omega) hl2 (by rw [L1, J_add, List.length_append]; simp) (by rw [e2, L2, J_mul, J_add]; congr 1; omega) (by rw [L1, J_add]; congr 1; omega)]
    congr 2
    · rw [List.length_append]; simp; omega
    · show _ = ((acc * 2 ^ (w + 1) + (bf w * 2 ^ w + vb bf w) : Nat) : Int)
      congr 1
      rw [Nat.pow_succ, Nat.add_mul]
      have : acc * 2 * 2 ^ w = acc * (2 ^ w * 2) := by rw [Nat.mul_assoc, Nat.mul_comm 2]
      omega
theorem S_reads {g : Ar} {l : List Nat} (h1 : AL g l) (h3 : l.length ≤ 1344) {bf : Nat → Nat} {w : Nat} (hw : w ≤ 64) (pre post : List Nat) (hl : l = pre ++ (lb bf w ++ post)) {vn iw : Int32} (en : vn = J pre.length) (ew : iw = J w) : F_X9_reads vn g iw = some (J (vb bf w), J ((pre.length + w : Nat) : Int)) := by
  obtain ⟨f2, hf2⟩ := zFuel_ge (n := 65) (by omega)
  unfold F_X9_reads
  rw [hf2, ew, S_reads4 h1 h3 hw post _ w (f2 + 65) pre vn 0 0 0 (Nat.le_refl _) (by omega) hl en rfl (by rw [Nat.sub_self]; rfl), Nat.zero_mul, Nat.zero_add]
theorem S_ones9 {g : Ar} {l : List Nat} (h1 : AL g l) (h3 : l.length ≤ 1344) (hm : MA x n bs on ga) (ho : on ≤ 30) (rest : List Nat) (k : Int32 → Int32 → Option (Int32 × Int32)) : ∀ (r fuel j : Nat) (pre : List Nat) (vn i2 : Int32), j + r ≤ on → l = pre ++ (lb (fun _ => 1) r ++ rest) → vn = J pre.length → i2 = J j →
    F_X9_readsGap_L2 ga g k (fuel + r) vn i2 = F_X9_readsGap_L2 ga g k fuel (J ((pre.length + r : Nat) : Int)) (J ((j + r : Nat) : Int)) := by
  intro r
  induction r with
  | zero => intro fuel j pre vn i2 hj hl e1 e2; rw [e1, e2]; rfl
  | succ r ih =>
    intro fuel j pre vn i2 hj hl e1 e2
    have hl3 : l = (pre ++ [1]) ++ (lb (fun _ => 1) r ++ rest) := by rw [hl]; simp [lb]
    have hv : l[pre.length]? = some 1 := by
      rw [hl, List.getElem?_append_right (Nat.le_refl _), Nat.sub_self]; rfl
    have hpl : pre.length < l.length := (List.getElem?_eq_some_iff.mp hv).1
    rw [show fuel + (r + 1) = (fuel + r) + 1 by omega, F_X9_readsGap_L2, e2, hm.2.1, if_neg (by rw [J_le (by omega) (by omega) (by omega) (by omega)]; omega), e1, if_pos (gd_ok (by omega) (by omega) (by omega)), J_ix pre.length rfl (by omega), h1 _ _ hv, if_pos (by decide), ih fuel (j + 1) (pre ++ [1]) _ _ (by omega) hl3 (by rw [L1, J_add, List.length_append]; rfl) (by rw [L1, J_add]; norm_cast), List.length_append]
    congr 2
    · simp; omega
    · omega
theorem S_readsGap {g : Ar} {l : List Nat} (h1 : AL g l) (h3 : l.length ≤ 1344) (hm : MA x n bs on ga) (ho1 : 1 ≤ on) (ho : on ≤ 30) {gp e : Nat} (hg : gp < 65536) (he : e ≤ 15) (pre post : List Nat) (hl : l = pre ++ (s_code on gp e ++ post)) {vn : Int32} (en : vn = J pre.length) : F_X9_readsGap vn ga g (J e) = some (J gp, J ((pre.length + s_cb on gp e : Nat) : Int)) := by
  unfold F_X9_readsGap
  unfold s_code at hl
  unfold s_cb
  by_cases hq : on ≤ gp / 2 ^ e
  · rw [if_pos hq] at hl
    rw [if_pos hq]
    obtain ⟨f2, hf2⟩ := zFuel_ge (n := on + 1) (by omega)
    rw [hf2, show f2 + (on + 1) = (f2 + 1) + on by omega, S_ones9 h1 h3 hm ho (bv gp 16 ++ post) _ on (f2 + 1) 0 pre vn 0 (by omega) (by rw [hl]; simp) en rfl, Nat.zero_add, F_X9_readsGap_L2, hm.2.1, if_pos (by rw [J_le (by omega) (by omega) (by omega) (by omega)]; omega), if_pos rfl,
      S_reads h1 h3 (iw := 16) (vn := J ((pre.length + on : Nat) : Int)) (bf := fun i => gp / 2 ^ i % 2) (w := 16) (by omega) (pre ++ lb (fun _ => 1) on) post (by rw [hl]; simp [bv]) (by rw [List.length_append, lb_len]) rfl, Option.bind_some, vb_mod, Nat.mod_eq_of_lt (by omega), List.length_append, lb_len]
    congr 3
  · rw [if_neg hq] at hl
    rw [if_neg hq]
    have hql : gp / 2 ^ e < on := by omega
    obtain ⟨f2, hf2⟩ := zFuel_ge (n := gp / 2 ^ e + 1) (by omega)
    have hl3 : l = (pre ++ lb (fun _ => 1) (gp / 2 ^ e) ++ [0]) ++ (lb (fun i => gp / 2 ^ i % 2) e ++ post) := by rw [hl]; simp [bv]
    have hv : l[pre.length + gp / 2 ^ e]? = some 0 := by
      rw [hl, List.append_assoc, List.getElem?_append_right (Nat.le_add_right _ _), Nat.add_sub_cancel_left, List.getElem?_append_right (by rw [lb_len]; exact Nat.le_refl _), lb_len, Nat.sub_self]; rfl
    have hpl : pre.length + gp / 2 ^ e < l.length := (List.getElem?_eq_some_iff.mp hv).1
    rw [hf2, show f2 + (gp / 2 ^ e + 1) = (f2 + 1) + gp / 2 ^ e by omega, S_ones9 h1 h3 hm ho (0 :: bv gp e ++ post) _ (gp / 2 ^ e) (f2 + 1) 0 pre vn 0 (by omega) (by rw [hl]; simp) en rfl, Nat.zero_add, F_X9_readsGap_L2]
    have hd := Nat.div_add_mod gp (2 ^ e)
    rw [Nat.mul_comm] at hd
    generalize gp / 2 ^ e = q at *
    rw [hm.2.1, if_neg (by rw [J_le (by omega) (by omega) (by omega) (by omega)]; omega), if_pos (gd_ok (by omega) (by omega) (by omega)), J_ix (pre.length + q) rfl (by omega), h1 _ _ hv, if_neg (by decide), if_neg (by rw [J_eq (by omega) (by omega) (by omega) (by omega)]; omega), L1, J_add,
      S_reads h1 h3 (vn := J (((pre.length + q : Nat) : Int) + 1)) (iw := J e) (bf := fun i => gp / 2 ^ i % 2) (w := e) (by omega) _ post hl3 (by simp [lb_len]; rfl) rfl, Option.bind_some, vb_mod, J_shl (by omega), J_add]
    simp only [List.length_append, lb_len, List.length_cons, List.length_nil]
    congr 2
    · congr 1
      rw [show ((q : Int) * 2 ^ e + ((gp % 2 ^ e : Nat) : Int)) = ((q * 2 ^ e + gp % 2 ^ e : Nat) : Int) by norm_cast, hd]
    · congr 1
      omega
theorem S_check34 (h : RV x n bs on) (hm : MA x n bs on ga) {g : Ar} (h1 : AL g (s_str on (s_gp x) n bs (s_nb n bs))) (h3 : (s_str on (s_gp x) n bs (s_nb n bs)).length ≤ 1344) (sl : Int32) {b : Nat} (hb : b < s_nb n bs) (k : Int32 → Int32 → Option (Int32 × Int32 × Int32 × Ar)) : ∀ (m fuel j : Nat) (sp i1 i4 : Int32), j + m = s_en n bs b → m < fuel → b * bs ≤ j → sp = J (s_pos on (s_gp x) n bs b j) → i1 = J (s_na x j) → i4 = J j →
    F_X9_check_L34 sl ga g (J b) (J (s_ex on (s_gp x) n bs b)) k fuel sp i1 i4 = k (J (s_pos on (s_gp x) n bs b (s_en n bs b))) (J (s_na x (s_en n bs b))) := by
  intro m
  have hn := h.1
  have hnb := s_nb_le (n := n) h.2.1
  have hen := s_en_gt h.2.1 hb
  have he : s_ex on (s_gp x) n bs b ≤ 15 := s_be_le on (s_gp x) _ _
  induction m with
  | zero =>
    intro fuel j sp i1 i4 hj hf hbj ep e1 e4
    obtain ⟨fuel, rfl⟩ : ∃ f, fuel = f + 1 := ⟨fuel - 1, by omega⟩
    rw [F_X9_check_L34, S_end9 h hm b rfl (by omega), Option.bind_some, e4, if_pos (by rw [J_le (by omega) (by omega) (by omega) (by omega)]; omega), ep, e1, show j = s_en n bs b by omega]
  | succ m ih =>
    intro fuel j sp i1 i4 hj hf hbj ep e1 e4
    obtain ⟨fuel, rfl⟩ : ∃ f, fuel = f + 1 := ⟨fuel - 1, by omega⟩
    obtain ⟨pre, post, a1, a2⟩ := s_pos_at h hb hbj (show j < s_en n bs b by omega)
    have hg := h.gp (show j < n by omega)
    have h6 : s_na x (j + 1) = x j := by unfold s_na; rw [if_neg (by omega)]; rfl
    have e7 : i1 + (J (s_gp x j : Int) + 1) = J (x j) := by
      rw [e1, L1, J_add, J_add, hg.2]; congr 1; omega
    rw [F_X9_check_L34, S_end9 h hm b rfl (by omega), Option.bind_some, e4, if_neg (by rw [J_le (by omega) (by omega) (by omega) (by omega)]; omega), S_readsGap h1 h3 hm h.2.2.2.1 h.2.2.2.2.1 hg.1 he pre post a1 (vn := sp) (by rw [ep, a2]), Option.bind_some, S_number9 j rfl (by omega), Option.bind_some, hm.2.2.2 j (by omega)]
    show (if i1 + (J (s_gp x j : Int) + 1) = J (x j) then _ else _) = _
    rw [e7, if_pos rfl]
    exact ih fuel (j + 1) _ _ _ (by omega) (by omega) (by omega) (by rw [s_pos_succ hbj, a2]) (by rw [h6]) (by rw [L1, J_add]; norm_cast)
theorem S_check13 (h : RV x n bs on) (hm : MA x n bs on ga) {g : Ar} (h1 : AL g (s_str on (s_gp x) n bs (s_nb n bs))) (h3 : (s_str on (s_gp x) n bs (s_nb n bs)).length ≤ 1344) (sl : Int32) (k : Int32 → Option (Int32 × Int32 × Int32 × Ar)) : ∀ (m fuel b : Nat) (sp i1 i2 : Int32), b + m = s_nb n bs → m < fuel → sp = J (s_sk on (s_gp x) n bs b) → (b < s_nb n bs → i1 = J (s_na x (b * bs))) → i2 = J b →
    ∃ sp', F_X9_check_L13 sl ga g k fuel sp i1 i2 = k sp' := by
  intro m
  have hn := h.1
  have hnb := s_nb_le (n := n) h.2.1
  induction m with
  | zero =>
    intro fuel b sp i1 i2 hb hf ep e1 e2
    obtain ⟨fuel, rfl⟩ : ∃ f, fuel = f + 1 := ⟨fuel - 1, by omega⟩
    exact ⟨sp, by rw [F_X9_check_L13, S_blocks9 h hm, Option.bind_some, e2, if_pos (by rw [J_le (by omega) (by omega) (by omega) (by omega)]; omega)]⟩
  | succ m ih =>
    intro fuel b sp i1 i2 hb hf ep e1 e2
    obtain ⟨fuel, rfl⟩ : ∃ f, fuel = f + 1 := ⟨fuel - 1, by omega⟩
    have hlt : b < s_nb n bs := by omega
    have hen := s_en_gt h.2.1 hlt
    have he : s_ex on (s_gp x) n bs b ≤ 15 := s_be_le on (s_gp x) _ _
    obtain ⟨p1, q1⟩ := s_str_split on (s_gp x) n bs b (s_nb n bs - (b + 1))
    rw [show b + 1 + (s_nb n bs - (b + 1)) = s_nb n bs by omega] at q1
    have hlb := s_str_len on (s_gp x) (n := n) h.2.1 b (by omega)
    obtain ⟨f2, hf2⟩ := zFuel_ge (n := 65) (by omega)
    have r1 := S_reads h1 h3 (iw := 4) (vn := sp) (bf := fun i => s_ex on (s_gp x) n bs b / 2 ^ i % 2) (w := 4) (by omega) (s_str on (s_gp x) n bs b) (s_codes on (s_gp x) (s_ex on (s_gp x) n bs b) (b * bs) (s_en n bs b - b * bs) ++ p1) (by rw [q1]; unfold s_block bv; simp) (by rw [ep, hlb]) rfl
    rw [vb_mod, Nat.mod_eq_of_lt (by omega), hlb, ← s_pos_first] at r1
    have e9 : s_pos on (s_gp x) n bs b (s_en n bs b) = s_sk on (s_gp x) n bs (b + 1) := by
      show _ = s_sk on (s_gp x) n bs b + s_bb on (s_gp x) n bs b
      unfold s_pos s_bb; omega
    obtain ⟨sp', a1⟩ := ih fuel (b + 1) (J (s_pos on (s_gp x) n bs b (s_en n bs b))) (J (s_na x (s_en n bs b))) (J b + 1) (by omega) (by omega) (by rw [e9]) (fun hb1 => by
      have h5 := (s_nb_lt h.2.1).mp hb1
      have h6 : (b + 1) * bs = b * bs + bs := Nat.succ_mul _ _
      have h7 : s_en n bs b = (b + 1) * bs := by unfold s_en; rw [if_neg (by omega), h6]
      rw [h7]) (by rw [L1, J_add]; norm_cast)
    refine ⟨sp', ?_⟩
    rw [F_X9_check_L13, S_blocks9 h hm, Option.bind_some, e2, if_neg (by rw [J_le (by omega) (by omega) (by omega) (by omega)]; omega), r1, Option.bind_some, S_first9 hm b rfl, Option.bind_some, hf2]
    exact (S_check34 h hm h1 h3 sl hlt (fun a c => F_X9_check_L13 sl ga g k fuel a c (J b + 1)) (s_en n bs b - b * bs) (f2 + 65) (b * bs) _ _ _ (by omega) (by omega) (by omega) rfl (e1 hlt) rfl).trans a1
theorem S_check9 (h : RV x n bs on) (hm : MA x n bs on ga) (v sp : Int32) (g : Ar) : ∃ v' sp' g', F_X9_check v sp ga g = some (1, v', sp', g') := by
  have hn := h.1
  have hnb := s_nb_le (n := n) h.2.1
  obtain ⟨g', sl, hs, a2⟩ := S_lays h hm v g
  obtain ⟨f2, hf2⟩ := zFuel_ge (n := 65) (by omega)
  unfold F_X9_check
  rw [a2, Option.bind_some, hf2]
  obtain ⟨sp', b1⟩ := S_check13 h hm hs.1 hs.2.2 sl (fun a => some (1, sl, a, g')) (s_nb n bs) (f2 + 65) 0 0 (-1) 0 (by omega) (by omega) rfl (fun _ => by rw [Nat.zero_mul]; rfl) rfl
  exact ⟨_, _, _, b1⟩
end MODBITS
