theorem dX4_fill_0 : decode cX4_fill 0 = .ok (.aload_n 0, 1) := by decide +kernel
theorem dX4_fill_1 : decode cX4_fill 1 = .ok (.aload_n 1, 1) := by decide +kernel
theorem dX4_fill_2 : decode cX4_fill 2 = .ok (.getfield 24, 3) := by decide +kernel
theorem dX4_fill_5 : decode cX4_fill 5 = .ok (.putfield 20, 3) := by decide +kernel
theorem dX4_fill_8 : decode cX4_fill 8 = .ok (.iconst 0, 1) := by decide +kernel
theorem dX4_fill_9 : decode cX4_fill 9 = .ok (.istore_n 3, 1) := by decide +kernel
theorem dX4_fill_10 : decode cX4_fill 10 = .ok (.iload_n 3, 1) := by decide +kernel
theorem dX4_fill_11 : decode cX4_fill 11 = .ok (.aload_n 0, 1) := by decide +kernel
theorem dX4_fill_12 : decode cX4_fill 12 = .ok (.getfield 20, 3) := by decide +kernel
theorem dX4_fill_15 : decode cX4_fill 15 = .ok (.if_icmp .ge 70, 3) := by decide +kernel
theorem dX4_fill_18 : decode cX4_fill 18 = .ok (.aload_n 1, 1) := by decide +kernel
theorem dX4_fill_19 : decode cX4_fill 19 = .ok (.iload_n 3, 1) := by decide +kernel
theorem dX4_fill_20 : decode cX4_fill 20 = .ok (.invokevirtual 27, 3) := by decide +kernel
theorem dX4_fill_23 : decode cX4_fill 23 = .ok (.istore 4, 2) := by decide +kernel
theorem dX4_fill_25 : decode cX4_fill 25 = .ok (.iconst 0, 1) := by decide +kernel
theorem dX4_fill_26 : decode cX4_fill 26 = .ok (.istore 5, 2) := by decide +kernel
theorem dX4_fill_28 : decode cX4_fill 28 = .ok (.iload 5, 2) := by decide +kernel
theorem dX4_fill_30 : decode cX4_fill 30 = .ok (.bipush 16, 2) := by decide +kernel
theorem dX4_fill_32 : decode cX4_fill 32 = .ok (.if_icmp .ge 47, 3) := by decide +kernel
theorem dX4_fill_35 : decode cX4_fill 35 = .ok (.iload 5, 2) := by decide +kernel
theorem dX4_fill_37 : decode cX4_fill 37 = .ok (.bipush 65, 2) := by decide +kernel
theorem dX4_fill_39 : decode cX4_fill 39 = .ok (.imul, 1) := by decide +kernel
theorem dX4_fill_40 : decode cX4_fill 40 = .ok (.iload_n 3, 1) := by decide +kernel
theorem dX4_fill_41 : decode cX4_fill 41 = .ok (.iadd, 1) := by decide +kernel
theorem dX4_fill_42 : decode cX4_fill 42 = .ok (.istore 6, 2) := by decide +kernel
theorem dX4_fill_44 : decode cX4_fill 44 = .ok (.aload_n 0, 1) := by decide +kernel
theorem dX4_fill_45 : decode cX4_fill 45 = .ok (.getfield 16, 3) := by decide +kernel
theorem dX4_fill_48 : decode cX4_fill 48 = .ok (.iload 6, 2) := by decide +kernel
theorem dX4_fill_50 : decode cX4_fill 50 = .ok (.iconst 1, 1) := by decide +kernel
theorem dX4_fill_51 : decode cX4_fill 51 = .ok (.iadd, 1) := by decide +kernel
theorem dX4_fill_52 : decode cX4_fill 52 = .ok (.aload_n 0, 1) := by decide +kernel
theorem dX4_fill_53 : decode cX4_fill 53 = .ok (.getfield 16, 3) := by decide +kernel
theorem dX4_fill_56 : decode cX4_fill 56 = .ok (.iload 6, 2) := by decide +kernel
theorem dX4_fill_58 : decode cX4_fill 58 = .ok (.invokevirtual 31, 3) := by decide +kernel
theorem dX4_fill_61 : decode cX4_fill 61 = .ok (.iload 4, 2) := by decide +kernel
theorem dX4_fill_63 : decode cX4_fill 63 = .ok (.iload 5, 2) := by decide +kernel
theorem dX4_fill_65 : decode cX4_fill 65 = .ok (.iload_n 2, 1) := by decide +kernel
theorem dX4_fill_66 : decode cX4_fill 66 = .ok (.invokestatic 34, 3) := by decide +kernel
theorem dX4_fill_69 : decode cX4_fill 69 = .ok (.iadd, 1) := by decide +kernel
theorem dX4_fill_70 : decode cX4_fill 70 = .ok (.invokevirtual 38, 3) := by decide +kernel
theorem dX4_fill_73 : decode cX4_fill 73 = .ok (.iinc 5 1, 3) := by decide +kernel
theorem dX4_fill_76 : decode cX4_fill 76 = .ok (.goto (-48), 3) := by decide +kernel
theorem dX4_fill_79 : decode cX4_fill 79 = .ok (.iinc 3 1, 3) := by decide +kernel
theorem dX4_fill_82 : decode cX4_fill 82 = .ok (.goto (-72), 3) := by decide +kernel
theorem dX4_fill_85 : decode cX4_fill 85 = .ok (.return_, 1) := by decide +kernel
set_option maxHeartbeats 4000000 in
set_option maxRecDepth 100000 in
theorem l_X4_fill_28 (l : Launch) (D : va_G) (cA : ClassId) (a_this a_this_sums a_this_sums_cells a_p1 a_p1_numbers a_p1_numbers_cells : Nat) (v_length : Int32) (v_p1_length : Int32) (v_p1_blockSize : Int32) (v_p1_ones : Int32) (g_p1_numbers_cells : Ar) (i2 : Int32) (i3 : Int32) (i4 : Int32) (out : Int32 × Ar) {p : Program} {e : Env} {s : State} {m : MethodId} {args : Array Value} {below : List Frame} {meth : Method} {c : Code} {A : Nat → Prop} (X : zX D cA p s m args meth c cX4_fill 7 RX4 none) (k : Ar → Option (Int32 × Ar)) (hk : ∀ (g_sums_cells : Ar) (H : Heap) (locs : List Loc) (ls : Array Slot), zH D A s (zw_7 cA 0 a_this a_this_sums a_this_sums_cells a_p1 a_p1_numbers a_p1_numbers_cells v_length g_sums_cells v_p1_length v_p1_blockSize v_p1_ones g_p1_numbers_cells) H locs → lv_has ls 7 [(0, .ref a_this), (1, .ref a_p1), (2, .int i2), (3, .int i3)] → k g_sums_cells = some out → W p l e (zR 3 63) s m args below meth c H locs 0 0 (MQ below (zQ D (zw_7 cA 0 a_this a_this_sums a_this_sums_cells a_p1 a_p1_numbers a_p1_numbers_cells out.1 out.2 v_p1_length v_p1_blockSize v_p1_ones g_p1_numbers_cells) none A) args s 0 0 A) (F0 m 79 ls [])) :
    ∀ (fuel : Nat) (g_sums_cells : Ar) (i5 : Int32) (H : Heap) (locs : List Loc) (ls : Array Slot), zH D A s (zw_7 cA 0 a_this a_this_sums a_this_sums_cells a_p1 a_p1_numbers a_p1_numbers_cells v_length g_sums_cells v_p1_length v_p1_blockSize v_p1_ones g_p1_numbers_cells) H locs → lv_has ls 7 [(0, .ref a_this), (1, .ref a_p1), (2, .int i2), (3, .int i3), (4, .int i4), (5, .int i5)] → F_X4_fill_L28 i2 i3 i4 k fuel g_sums_cells i5 = some out → W p l e (zR 3 63) s m args below meth c H locs 0 0 (MQ below (zQ D (zw_7 cA 0 a_this a_this_sums a_this_sums_cells a_p1 a_p1_numbers a_p1_numbers_cells out.1 out.2 v_p1_length v_p1_blockSize v_p1_ones g_p1_numbers_cells) none A) args s 0 0 A) (F0 m 28 ls []) := by
  intro fuel
  induction fuel with
  | zero => intro g_sums_cells i5 H locs ls hw hl hF; exact nomatch (show (none : Option (Int32 × Ar)) = some out from hF)
  | succ fuel ih =>
    intro g_sums_cells i5 H locs ls hw hl hF
    rw [F_X4_fill_L28] at hF
    refine z_iload 28 X dX4_fill_28 hl 5 rfl ?_
    refine z_bipush 30 16 X dX4_fill_30 (by decide) ?_
    refine z_icmp_ge 32 79 X dX4_fill_32 (by decide) (fun c4 => ?_) (fun c4 => ?_)
    · replace hF := zpos c4 hF
      exact hk g_sums_cells H locs ls hw (lv_sub hl [0, 1, 2, 3] rfl) hF
    · replace hF := zneg c4 hF
      refine z_iload 35 X dX4_fill_35 hl 5 rfl ?_
      refine z_bipush 37 65 X dX4_fill_37 (by decide) ?_
      refine z_imul 39 X dX4_fill_39 ?_
      refine z_iload_n 40 X dX4_fill_40 hl 3 rfl ?_
      refine z_iadd 41 X dX4_fill_41 ?_
      refine z_istore 42 [(6, .int ((i5 * 65) + i3)), (0, .ref a_this), (1, .ref a_p1), (2, .int i2), (3, .int i3), (4, .int i4), (5, .int i5)] X dX4_fill_42 hl (by decide) rfl (fun ls hl => ?_)
      refine z_aload_n 44 X dX4_fill_44 hl 1 rfl ?_
      refine z_get 45 zc4 0 0 fl_4_16 X dX4_fill_45 hw rfl (by decide) rfl ?_
      refine z_iload 48 X dX4_fill_48 hl 0 rfl ?_
      refine z_iconst 50 1 X dX4_fill_50 (by decide) ?_
      refine z_iadd 51 X dX4_fill_51 ?_
      refine z_aload_n 52 X dX4_fill_52 hl 1 rfl ?_
      refine z_get 53 zc4 0 0 fl_4_16 X dX4_fill_53 hw rfl (by decide) rfl ?_
      refine z_iload 56 X dX4_fill_56 hl 0 rfl ?_
      obtain ⟨u5, e6, hF⟩ := zbd hF
      refine z_callV 58 zc0 mv_X0_read ml_4_31 1 [1, 2] (zw_7 cA 0 a_this a_this_sums a_this_sums_cells a_p1 a_p1_numbers a_p1_numbers_cells v_length g_sums_cells v_p1_length v_p1_blockSize v_p1_ones g_p1_numbers_cells) [.int (((i5 * 65) + i3) + 1), .ref a_this_sums] (m_X0_read l D cA 1040 a_this_sums a_this_sums_cells g_sums_cells ((i5 * 65) + i3) u5 e6) X dX4_fill_58 hw hl rfl rfl rfl (by decide) rfl rfl rfl (Nat.le_of_ble_eq_true rfl) ⟨Nat.le_of_ble_eq_true rfl, Nat.le_of_ble_eq_true rfl⟩ ⟨Nat.zero_le _, Nat.zero_le _⟩ (fun H locs hw => ?_)
      refine z_iload 61 X dX4_fill_61 hl 5 rfl ?_
      refine z_iload 63 X dX4_fill_63 hl 6 rfl ?_
      refine z_iload_n 65 X dX4_fill_65 hl 3 rfl ?_
      obtain ⟨u7, e8, hF⟩ := zbd hF
      refine z_callSN 66 mv_X8_codeBits ml_4_34 [] (zw_7 cA 0 a_this a_this_sums a_this_sums_cells a_p1 a_p1_numbers a_p1_numbers_cells v_length g_sums_cells v_p1_length v_p1_blockSize v_p1_ones g_p1_numbers_cells) [.int u5, .int (((i5 * 65) + i3) + 1), .ref a_this_sums] (m_X8_codeBits l D cA i4 i5 i2 u7 e8) X dX4_fill_66 hw hl rfl rfl (by decide) rfl rfl rfl (Nat.le_of_ble_eq_true rfl) ⟨Nat.le_of_ble_eq_true rfl, Nat.le_of_ble_eq_true rfl⟩ ⟨Nat.zero_le _, Nat.zero_le _⟩ (fun H locs hw => ?_)
      refine z_iadd 69 X dX4_fill_69 ?_
      obtain ⟨u9, e10, hF⟩ := zbd hF
      refine z_callV 70 zc0 mv_X0_write ml_4_38 1 [1, 2] (zw_7 cA 0 a_this a_this_sums a_this_sums_cells a_p1 a_p1_numbers a_p1_numbers_cells v_length u9 v_p1_length v_p1_blockSize v_p1_ones g_p1_numbers_cells) [] (m_X0_write l D cA 1040 a_this_sums a_this_sums_cells g_sums_cells (((i5 * 65) + i3) + 1) (u5 + u7) u9 e10) X dX4_fill_70 hw hl rfl rfl rfl (by decide) rfl rfl rfl (Nat.le_of_ble_eq_true rfl) ⟨Nat.le_of_ble_eq_true rfl, Nat.le_of_ble_eq_true rfl⟩ ⟨Nat.zero_le _, Nat.zero_le _⟩ (fun H locs hw => ?_)
      refine z_iinc2 73 1 [(5, .int (i5 + 1)), (6, .int ((i5 * 65) + i3)), (0, .ref a_this), (1, .ref a_p1), (2, .int i2), (3, .int i3), (4, .int i4)] X dX4_fill_73 hl 6 rfl (by decide) (by decide) rfl (fun ls hl => ?_)
      refine z_goto 76 28 X dX4_fill_76 (by decide) ?_
      exact ih u9 (i5 + 1) H locs ls hw (lv_sub hl [2, 3, 4, 5, 6, 0] rfl) hF
set_option maxHeartbeats 4000000 in
set_option maxRecDepth 100000 in
theorem l_X4_fill_10 (l : Launch) (D : va_G) (cA : ClassId) (a_this a_this_sums a_this_sums_cells a_p1 a_p1_numbers a_p1_numbers_cells : Nat) (v_length : Int32) (v_p1_length : Int32) (v_p1_blockSize : Int32) (v_p1_ones : Int32) (g_p1_numbers_cells : Ar) (i2 : Int32) (out : Int32 × Ar) {p : Program} {e : Env} {s : State} {m : MethodId} {args : Array Value} {below : List Frame} {meth : Method} {c : Code} {A : Nat → Prop} (X : zX D cA p s m args meth c cX4_fill 7 RX4 none) (k : Ar → Option (Int32 × Ar)) (hk : ∀ (g_sums_cells : Ar) (H : Heap) (locs : List Loc) (ls : Array Slot), zH D A s (zw_7 cA 0 a_this a_this_sums a_this_sums_cells a_p1 a_p1_numbers a_p1_numbers_cells v_length g_sums_cells v_p1_length v_p1_blockSize v_p1_ones g_p1_numbers_cells) H locs → lv_has ls 7 [] → k g_sums_cells = some out → W p l e (zR 3 63) s m args below meth c H locs 0 0 (MQ below (zQ D (zw_7 cA 0 a_this a_this_sums a_this_sums_cells a_p1 a_p1_numbers a_p1_numbers_cells out.1 out.2 v_p1_length v_p1_blockSize v_p1_ones g_p1_numbers_cells) none A) args s 0 0 A) (F0 m 85 ls [])) :
    ∀ (fuel : Nat) (g_sums_cells : Ar) (i3 : Int32) (H : Heap) (locs : List Loc) (ls : Array Slot), zH D A s (zw_7 cA 0 a_this a_this_sums a_this_sums_cells a_p1 a_p1_numbers a_p1_numbers_cells v_length g_sums_cells v_p1_length v_p1_blockSize v_p1_ones g_p1_numbers_cells) H locs → lv_has ls 7 [(0, .ref a_this), (1, .ref a_p1), (2, .int i2), (3, .int i3)] → F_X4_fill_L10 v_length g_p1_numbers_cells i2 k fuel g_sums_cells i3 = some out → W p l e (zR 3 63) s m args below meth c H locs 0 0 (MQ below (zQ D (zw_7 cA 0 a_this a_this_sums a_this_sums_cells a_p1 a_p1_numbers a_p1_numbers_cells out.1 out.2 v_p1_length v_p1_blockSize v_p1_ones g_p1_numbers_cells) none A) args s 0 0 A) (F0 m 10 ls []) := by
  intro fuel
  induction fuel with
  | zero => intro g_sums_cells i3 H locs ls hw hl hF; exact nomatch (show (none : Option (Int32 × Ar)) = some out from hF)
  | succ fuel ih =>
    intro g_sums_cells i3 H locs ls hw hl hF
    rw [F_X4_fill_L10] at hF
    refine z_iload_n 10 X dX4_fill_10 hl 3 rfl ?_
    refine z_aload_n 11 X dX4_fill_11 hl 0 rfl ?_
    refine z_get 12 zc4 0 1 fl_4_20 X dX4_fill_12 hw rfl (by decide) rfl ?_
    refine z_icmp_ge 15 85 X dX4_fill_15 (by decide) (fun c1 => ?_) (fun c1 => ?_)
    · replace hF := zpos c1 hF
      exact hk g_sums_cells H locs ls hw (lv_sub hl [] rfl) hF
    · replace hF := zneg c1 hF
      refine z_aload_n 18 X dX4_fill_18 hl 1 rfl ?_
      refine z_iload_n 19 X dX4_fill_19 hl 3 rfl ?_
      obtain ⟨u2, e3, hF⟩ := zbd hF
      refine z_callV 20 zc5 mv_X5_gapAhead ml_4_27 3 [3, 4, 5] (zw_7 cA 0 a_this a_this_sums a_this_sums_cells a_p1 a_p1_numbers a_p1_numbers_cells v_length g_sums_cells v_p1_length v_p1_blockSize v_p1_ones g_p1_numbers_cells) [] (m_X5_gapAhead l D cA a_p1 a_p1_numbers a_p1_numbers_cells v_p1_length v_p1_blockSize v_p1_ones g_p1_numbers_cells i3 u2 e3) X dX4_fill_20 hw hl rfl rfl rfl (by decide) rfl rfl rfl (Nat.le_of_ble_eq_true rfl) ⟨Nat.le_of_ble_eq_true rfl, Nat.le_of_ble_eq_true rfl⟩ ⟨Nat.zero_le _, Nat.zero_le _⟩ (fun H locs hw => ?_)
      refine z_istore 23 [(4, .int u2), (0, .ref a_this), (1, .ref a_p1), (2, .int i2), (3, .int i3)] X dX4_fill_23 hl (by decide) rfl (fun ls hl => ?_)
      refine z_iconst 25 0 X dX4_fill_25 (by decide) ?_
      refine z_istore 26 [(5, .int 0), (4, .int u2), (0, .ref a_this), (1, .ref a_p1), (2, .int i2), (3, .int i3)] X dX4_fill_26 hl (by decide) rfl (fun ls hl => ?_)
      refine l_X4_fill_28 l D cA a_this a_this_sums a_this_sums_cells a_p1 a_p1_numbers a_p1_numbers_cells v_length v_p1_length v_p1_blockSize v_p1_ones g_p1_numbers_cells i2 i3 u2 out X _ (fun g_sums_cells_11 H locs ls hw hl hF => ?_) zFuel g_sums_cells 0 H locs ls hw (lv_sub hl [2, 3, 4, 5, 1, 0] rfl) hF
      refine z_iinc2 79 1 [(3, .int (i3 + 1)), (0, .ref a_this), (1, .ref a_p1), (2, .int i2)] X dX4_fill_79 hl 3 rfl (by decide) (by decide) rfl (fun ls hl => ?_)
      refine z_goto 82 10 X dX4_fill_82 (by decide) ?_
      exact ih g_sums_cells_11 (i3 + 1) H locs ls hw (lv_sub hl [1, 2, 3, 0] rfl) hF
set_option maxHeartbeats 4000000 in
set_option maxRecDepth 100000 in
theorem m_X4_fill (l : Launch) (D : va_G) (cA : ClassId) (a_this a_this_sums a_this_sums_cells a_p1 a_p1_numbers a_p1_numbers_cells : Nat) (v_length : Int32) (g_sums_cells : Ar) (v_p1_length : Int32) (v_p1_blockSize : Int32) (v_p1_ones : Int32) (g_p1_numbers_cells : Ar) (i2 : Int32) (out : Int32 × Ar) (hF : F_X4_fill v_length g_sums_cells v_p1_length g_p1_numbers_cells i2 = some out) : zM l D cA yX4_fill cX4_fill 7 none 3 63 [.ref a_this, .ref a_p1, .int i2] (zw_7 cA 0 a_this a_this_sums a_this_sums_cells a_p1 a_p1_numbers a_p1_numbers_cells v_length g_sums_cells v_p1_length v_p1_blockSize v_p1_ones g_p1_numbers_cells) (zw_7 cA 0 a_this a_this_sums a_this_sums_cells a_p1 a_p1_numbers a_p1_numbers_cells out.1 out.2 v_p1_length v_p1_blockSize v_p1_ones g_p1_numbers_cells) none := by
  refine z_body (by decide) (Nat.le_of_ble_eq_true rfl) ?_
  intro p e s m args below meth c ls H locs A X hl hw
  have hl : lv_has ls 7 [(0, .ref a_this), (1, .ref a_p1), (2, .int i2)] := hl
  unfold F_X4_fill at hF
  refine z_aload_n 0 X dX4_fill_0 hl 0 rfl ?_
  refine z_aload_n 1 X dX4_fill_1 hl 1 rfl ?_
  refine z_getN 2 zc5 3 1 fl_4_24 X dX4_fill_2 hw rfl (by decide) rfl ?_
  refine z_put 5 zc4 0 1 (zw_7 cA 0 a_this a_this_sums a_this_sums_cells a_p1 a_p1_numbers a_p1_numbers_cells v_p1_length g_sums_cells v_p1_length v_p1_blockSize v_p1_ones g_p1_numbers_cells) fl_4_20 X dX4_fill_5 hw rfl (by decide) rfl rfl rfl (Nat.le_of_ble_eq_true rfl) rfl (fun H locs hw => ?_)
  refine z_iconst 8 0 X dX4_fill_8 (by decide) ?_
  refine z_istore_n 9 [(3, .int 0), (0, .ref a_this), (1, .ref a_p1), (2, .int i2)] X dX4_fill_9 hl (by decide) rfl (fun ls hl => ?_)
  refine l_X4_fill_10 l D cA a_this a_this_sums a_this_sums_cells a_p1 a_p1_numbers a_p1_numbers_cells v_p1_length v_p1_length v_p1_blockSize v_p1_ones g_p1_numbers_cells i2 out X _ (fun g_sums_cells_12 H locs ls hw hl hF => ?_) zFuel g_sums_cells 0 H locs ls hw (lv_sub hl [1, 2, 3, 0] rfl) hF
  cases hF
  exact z_vret 85 X dX4_fill_85 hw rfl rfl
theorem dX4_codesBits_0 : decode cX4_codesBits 0 = .ok (.aload_n 0, 1) := by decide +kernel
theorem dX4_codesBits_1 : decode cX4_codesBits 1 = .ok (.getfield 16, 3) := by decide +kernel
theorem dX4_codesBits_4 : decode cX4_codesBits 4 = .ok (.iload_n 1, 1) := by decide +kernel
theorem dX4_codesBits_5 : decode cX4_codesBits 5 = .ok (.bipush 65, 2) := by decide +kernel
theorem dX4_codesBits_7 : decode cX4_codesBits 7 = .ok (.imul, 1) := by decide +kernel
theorem dX4_codesBits_8 : decode cX4_codesBits 8 = .ok (.iload_n 3, 1) := by decide +kernel
theorem dX4_codesBits_9 : decode cX4_codesBits 9 = .ok (.iadd, 1) := by decide +kernel
theorem dX4_codesBits_10 : decode cX4_codesBits 10 = .ok (.invokevirtual 31, 3) := by decide +kernel
theorem dX4_codesBits_13 : decode cX4_codesBits 13 = .ok (.aload_n 0, 1) := by decide +kernel
theorem dX4_codesBits_14 : decode cX4_codesBits 14 = .ok (.getfield 16, 3) := by decide +kernel
theorem dX4_codesBits_17 : decode cX4_codesBits 17 = .ok (.iload_n 1, 1) := by decide +kernel
theorem dX4_codesBits_18 : decode cX4_codesBits 18 = .ok (.bipush 65, 2) := by decide +kernel
theorem dX4_codesBits_20 : decode cX4_codesBits 20 = .ok (.imul, 1) := by decide +kernel
theorem dX4_codesBits_21 : decode cX4_codesBits 21 = .ok (.iload_n 2, 1) := by decide +kernel
theorem dX4_codesBits_22 : decode cX4_codesBits 22 = .ok (.iadd, 1) := by decide +kernel
theorem dX4_codesBits_23 : decode cX4_codesBits 23 = .ok (.invokevirtual 31, 3) := by decide +kernel
theorem dX4_codesBits_26 : decode cX4_codesBits 26 = .ok (.isub, 1) := by decide +kernel
theorem dX4_codesBits_27 : decode cX4_codesBits 27 = .ok (.ireturn, 1) := by decide +kernel
set_option maxHeartbeats 4000000 in
set_option maxRecDepth 100000 in
theorem m_X4_codesBits (l : Launch) (D : va_G) (cA : ClassId) (a_this a_this_sums a_this_sums_cells : Nat) (v_length : Int32) (g_sums_cells : Ar) (i1 : Int32) (i2 : Int32) (i3 : Int32) (out : Int32) (hF : F_X4_codesBits g_sums_cells i1 i2 i3 = some out) : zM l D cA yX4_codesBits cX4_codesBits 4 (some .int) 1 21 [.ref a_this, .int i1, .int i2, .int i3] (zw_9 cA 0 a_this a_this_sums a_this_sums_cells v_length g_sums_cells) (zw_9 cA 0 a_this a_this_sums a_this_sums_cells v_length g_sums_cells) (some (.int out)) := by
  refine z_body (by decide) (Nat.le_of_ble_eq_true rfl) ?_
  intro p e s m args below meth c ls H locs A X hl hw
  have hl : lv_has ls 4 [(0, .ref a_this), (1, .int i1), (2, .int i2), (3, .int i3)] := hl
  unfold F_X4_codesBits at hF
  refine z_aload_n 0 X dX4_codesBits_0 hl 0 rfl ?_
  refine z_get 1 zc4 0 0 fl_4_16 X dX4_codesBits_1 hw rfl (by decide) rfl ?_
  refine z_iload_n 4 X dX4_codesBits_4 hl 1 rfl ?_
  refine z_bipush 5 65 X dX4_codesBits_5 (by decide) ?_
  refine z_imul 7 X dX4_codesBits_7 ?_
  refine z_iload_n 8 X dX4_codesBits_8 hl 3 rfl ?_
  refine z_iadd 9 X dX4_codesBits_9 ?_
  obtain ⟨u1, e2, hF⟩ := zbd hF
  refine z_callV 10 zc0 mv_X0_read ml_4_31 1 [1, 2] (zw_9 cA 0 a_this a_this_sums a_this_sums_cells v_length g_sums_cells) [] (m_X0_read l D cA 1040 a_this_sums a_this_sums_cells g_sums_cells ((i1 * 65) + i3) u1 e2) X dX4_codesBits_10 hw hl rfl rfl rfl (by decide) rfl rfl rfl (Nat.le_of_ble_eq_true rfl) ⟨Nat.le_of_ble_eq_true rfl, Nat.le_of_ble_eq_true rfl⟩ ⟨Nat.zero_le _, Nat.zero_le _⟩ (fun H locs hw => ?_)
  refine z_aload_n 13 X dX4_codesBits_13 hl 0 rfl ?_
  refine z_get 14 zc4 0 0 fl_4_16 X dX4_codesBits_14 hw rfl (by decide) rfl ?_
  refine z_iload_n 17 X dX4_codesBits_17 hl 1 rfl ?_
  refine z_bipush 18 65 X dX4_codesBits_18 (by decide) ?_
  refine z_imul 20 X dX4_codesBits_20 ?_
  refine z_iload_n 21 X dX4_codesBits_21 hl 2 rfl ?_
  refine z_iadd 22 X dX4_codesBits_22 ?_
  obtain ⟨u3, e4, hF⟩ := zbd hF
  refine z_callV 23 zc0 mv_X0_read ml_4_31 1 [1, 2] (zw_9 cA 0 a_this a_this_sums a_this_sums_cells v_length g_sums_cells) [.int u1] (m_X0_read l D cA 1040 a_this_sums a_this_sums_cells g_sums_cells ((i1 * 65) + i2) u3 e4) X dX4_codesBits_23 hw hl rfl rfl rfl (by decide) rfl rfl rfl (Nat.le_of_ble_eq_true rfl) ⟨Nat.le_of_ble_eq_true rfl, Nat.le_of_ble_eq_true rfl⟩ ⟨Nat.zero_le _, Nat.zero_le _⟩ (fun H locs hw => ?_)
  refine z_isub 26 X dX4_codesBits_26 ?_
  cases hF
  exact z_iret 27 X dX4_codesBits_27 hw rfl rfl
theorem dX4_bestExponent_0 : decode cX4_bestExponent 0 = .ok (.iconst 0, 1) := by decide +kernel
theorem dX4_bestExponent_1 : decode cX4_bestExponent 1 = .ok (.istore_n 3, 1) := by decide +kernel
theorem dX4_bestExponent_2 : decode cX4_bestExponent 2 = .ok (.aload_n 0, 1) := by decide +kernel
theorem dX4_bestExponent_3 : decode cX4_bestExponent 3 = .ok (.iconst 0, 1) := by decide +kernel
theorem dX4_bestExponent_4 : decode cX4_bestExponent 4 = .ok (.iload_n 1, 1) := by decide +kernel
theorem dX4_bestExponent_5 : decode cX4_bestExponent 5 = .ok (.iload_n 2, 1) := by decide +kernel
theorem dX4_bestExponent_6 : decode cX4_bestExponent 6 = .ok (.invokevirtual 42, 3) := by decide +kernel
theorem dX4_bestExponent_9 : decode cX4_bestExponent 9 = .ok (.istore 4, 2) := by decide +kernel
theorem dX4_bestExponent_11 : decode cX4_bestExponent 11 = .ok (.iconst 1, 1) := by decide +kernel
theorem dX4_bestExponent_12 : decode cX4_bestExponent 12 = .ok (.istore 5, 2) := by decide +kernel
theorem dX4_bestExponent_14 : decode cX4_bestExponent 14 = .ok (.iload 5, 2) := by decide +kernel
theorem dX4_bestExponent_16 : decode cX4_bestExponent 16 = .ok (.bipush 16, 2) := by decide +kernel
theorem dX4_bestExponent_18 : decode cX4_bestExponent 18 = .ok (.if_icmp .ge 33, 3) := by decide +kernel
theorem dX4_bestExponent_21 : decode cX4_bestExponent 21 = .ok (.aload_n 0, 1) := by decide +kernel
theorem dX4_bestExponent_22 : decode cX4_bestExponent 22 = .ok (.iload 5, 2) := by decide +kernel
theorem dX4_bestExponent_24 : decode cX4_bestExponent 24 = .ok (.iload_n 1, 1) := by decide +kernel
theorem dX4_bestExponent_25 : decode cX4_bestExponent 25 = .ok (.iload_n 2, 1) := by decide +kernel
theorem dX4_bestExponent_26 : decode cX4_bestExponent 26 = .ok (.invokevirtual 42, 3) := by decide +kernel
theorem dX4_bestExponent_29 : decode cX4_bestExponent 29 = .ok (.istore 6, 2) := by decide +kernel
theorem dX4_bestExponent_31 : decode cX4_bestExponent 31 = .ok (.iload 6, 2) := by decide +kernel
theorem dX4_bestExponent_33 : decode cX4_bestExponent 33 = .ok (.iload 4, 2) := by decide +kernel
theorem dX4_bestExponent_35 : decode cX4_bestExponent 35 = .ok (.if_icmp .ge 10, 3) := by decide +kernel
theorem dX4_bestExponent_38 : decode cX4_bestExponent 38 = .ok (.iload 5, 2) := by decide +kernel
theorem dX4_bestExponent_40 : decode cX4_bestExponent 40 = .ok (.istore_n 3, 1) := by decide +kernel
theorem dX4_bestExponent_41 : decode cX4_bestExponent 41 = .ok (.iload 6, 2) := by decide +kernel
theorem dX4_bestExponent_43 : decode cX4_bestExponent 43 = .ok (.istore 4, 2) := by decide +kernel
theorem dX4_bestExponent_45 : decode cX4_bestExponent 45 = .ok (.iinc 5 1, 3) := by decide +kernel
theorem dX4_bestExponent_48 : decode cX4_bestExponent 48 = .ok (.goto (-34), 3) := by decide +kernel
theorem dX4_bestExponent_51 : decode cX4_bestExponent 51 = .ok (.iload_n 3, 1) := by decide +kernel
theorem dX4_bestExponent_52 : decode cX4_bestExponent 52 = .ok (.ireturn, 1) := by decide +kernel
set_option maxHeartbeats 4000000 in
set_option maxRecDepth 100000 in
theorem l_X4_bestExponent_14 (l : Launch) (D : va_G) (cA : ClassId) (a_this a_this_sums a_this_sums_cells : Nat) (v_length : Int32) (g_sums_cells : Ar) (i1 : Int32) (i2 : Int32) (out : Int32) {p : Program} {e : Env} {s : State} {m : MethodId} {args : Array Value} {below : List Frame} {meth : Method} {c : Code} {A : Nat → Prop} (X : zX D cA p s m args meth c cX4_bestExponent 7 RX4 (some .int)) (k : Int32 → Option (Int32)) (hk : ∀ (i3 : Int32) (H : Heap) (locs : List Loc) (ls : Array Slot), zH D A s (zw_9 cA 0 a_this a_this_sums a_this_sums_cells v_length g_sums_cells) H locs → lv_has ls 7 [(3, .int i3)] → k i3 = some out → W p l e (zR 2 44) s m args below meth c H locs 0 0 (MQ below (zQ D (zw_9 cA 0 a_this a_this_sums a_this_sums_cells v_length g_sums_cells) (some (.int out)) A) args s 0 0 A) (F0 m 51 ls [])) :
    ∀ (fuel : Nat) (i3 : Int32) (i4 : Int32) (i5 : Int32) (H : Heap) (locs : List Loc) (ls : Array Slot), zH D A s (zw_9 cA 0 a_this a_this_sums a_this_sums_cells v_length g_sums_cells) H locs → lv_has ls 7 [(0, .ref a_this), (1, .int i1), (2, .int i2), (3, .int i3), (4, .int i4), (5, .int i5)] → F_X4_bestExponent_L14 g_sums_cells i1 i2 k fuel i3 i4 i5 = some out → W p l e (zR 2 44) s m args below meth c H locs 0 0 (MQ below (zQ D (zw_9 cA 0 a_this a_this_sums a_this_sums_cells v_length g_sums_cells) (some (.int out)) A) args s 0 0 A) (F0 m 14 ls []) := by
  intro fuel
  induction fuel with
  | zero => intro i3 i4 i5 H locs ls hw hl hF; exact nomatch (show (none : Option (Int32)) = some out from hF)
  | succ fuel ih =>
    intro i3 i4 i5 H locs ls hw hl hF
    rw [F_X4_bestExponent_L14] at hF
    refine z_iload 14 X dX4_bestExponent_14 hl 5 rfl ?_
    refine z_bipush 16 16 X dX4_bestExponent_16 (by decide) ?_
    refine z_icmp_ge 18 51 X dX4_bestExponent_18 (by decide) (fun c3 => ?_) (fun c3 => ?_)
    · replace hF := zpos c3 hF
      exact hk i3 H locs ls hw (lv_sub hl [3] rfl) hF
    · replace hF := zneg c3 hF
      refine z_aload_n 21 X dX4_bestExponent_21 hl 0 rfl ?_
      refine z_iload 22 X dX4_bestExponent_22 hl 5 rfl ?_
      refine z_iload_n 24 X dX4_bestExponent_24 hl 1 rfl ?_
      refine z_iload_n 25 X dX4_bestExponent_25 hl 2 rfl ?_
      obtain ⟨u4, e5, hF⟩ := zbd hF
      refine z_callV 26 zc4 mv_X4_codesBits ml_4_42 0 [0, 1, 2] (zw_9 cA 0 a_this a_this_sums a_this_sums_cells v_length g_sums_cells) [] (m_X4_codesBits l D cA a_this a_this_sums a_this_sums_cells v_length g_sums_cells i5 i1 i2 u4 e5) X dX4_bestExponent_26 hw hl rfl rfl rfl (by decide) rfl rfl rfl (Nat.le_of_ble_eq_true rfl) ⟨Nat.le_of_ble_eq_true rfl, Nat.le_of_ble_eq_true rfl⟩ ⟨Nat.zero_le _, Nat.zero_le _⟩ (fun H locs hw => ?_)
      refine z_istore 29 [(6, .int u4), (0, .ref a_this), (1, .int i1), (2, .int i2), (3, .int i3), (4, .int i4), (5, .int i5)] X dX4_bestExponent_29 hl (by decide) rfl (fun ls hl => ?_)
      refine z_iload 31 X dX4_bestExponent_31 hl 0 rfl ?_
      refine z_iload 33 X dX4_bestExponent_33 hl 5 rfl ?_
      refine z_icmp_ge 35 45 X dX4_bestExponent_35 (by decide) (fun c6 => ?_) (fun c6 => ?_)
      · replace hF := zpos c6 hF
        refine z_iinc2 45 1 [(5, .int (i5 + 1)), (6, .int u4), (0, .ref a_this), (1, .int i1), (2, .int i2), (3, .int i3), (4, .int i4)] X dX4_bestExponent_45 hl 6 rfl (by decide) (by decide) rfl (fun ls hl => ?_)
        refine z_goto 48 14 X dX4_bestExponent_48 (by decide) ?_
        exact ih i3 i4 (i5 + 1) H locs ls hw (lv_sub hl [2, 3, 4, 5, 6, 0] rfl) hF
      · replace hF := zneg c6 hF
        refine z_iload 38 X dX4_bestExponent_38 hl 6 rfl ?_
        refine z_istore_n 40 [(3, .int i5), (6, .int u4), (0, .ref a_this), (1, .int i1), (2, .int i2), (4, .int i4), (5, .int i5)] X dX4_bestExponent_40 hl (by decide) rfl (fun ls hl => ?_)
        refine z_iload 41 X dX4_bestExponent_41 hl 1 rfl ?_
        refine z_istore 43 [(4, .int u4), (3, .int i5), (6, .int u4), (0, .ref a_this), (1, .int i1), (2, .int i2), (5, .int i5)] X dX4_bestExponent_43 hl (by decide) rfl (fun ls hl => ?_)
        refine z_iinc2 45 1 [(5, .int (i5 + 1)), (4, .int u4), (3, .int i5), (6, .int u4), (0, .ref a_this), (1, .int i1), (2, .int i2)] X dX4_bestExponent_45 hl 6 rfl (by decide) (by decide) rfl (fun ls hl => ?_)
        refine z_goto 48 14 X dX4_bestExponent_48 (by decide) ?_
        exact ih i5 u4 (i5 + 1) H locs ls hw (lv_sub hl [4, 5, 6, 2, 1, 0] rfl) hF
set_option maxHeartbeats 4000000 in
set_option maxRecDepth 100000 in
theorem m_X4_bestExponent (l : Launch) (D : va_G) (cA : ClassId) (a_this a_this_sums a_this_sums_cells : Nat) (v_length : Int32) (g_sums_cells : Ar) (i1 : Int32) (i2 : Int32) (out : Int32) (hF : F_X4_bestExponent g_sums_cells i1 i2 = some out) : zM l D cA yX4_bestExponent cX4_bestExponent 7 (some .int) 2 44 [.ref a_this, .int i1, .int i2] (zw_9 cA 0 a_this a_this_sums a_this_sums_cells v_length g_sums_cells) (zw_9 cA 0 a_this a_this_sums a_this_sums_cells v_length g_sums_cells) (some (.int out)) := by
  refine z_body (by decide) (Nat.le_of_ble_eq_true rfl) ?_
  intro p e s m args below meth c ls H locs A X hl hw
  have hl : lv_has ls 7 [(0, .ref a_this), (1, .int i1), (2, .int i2)] := hl
  unfold F_X4_bestExponent at hF
  refine z_iconst 0 0 X dX4_bestExponent_0 (by decide) ?_
  refine z_istore_n 1 [(3, .int 0), (0, .ref a_this), (1, .int i1), (2, .int i2)] X dX4_bestExponent_1 hl (by decide) rfl (fun ls hl => ?_)
  refine z_aload_n 2 X dX4_bestExponent_2 hl 1 rfl ?_
  refine z_iconst 3 0 X dX4_bestExponent_3 (by decide) ?_
  refine z_iload_n 4 X dX4_bestExponent_4 hl 2 rfl ?_
  refine z_iload_n 5 X dX4_bestExponent_5 hl 3 rfl ?_
  obtain ⟨u1, e2, hF⟩ := zbd hF
  refine z_callV 6 zc4 mv_X4_codesBits ml_4_42 0 [0, 1, 2] (zw_9 cA 0 a_this a_this_sums a_this_sums_cells v_length g_sums_cells) [] (m_X4_codesBits l D cA a_this a_this_sums a_this_sums_cells v_length g_sums_cells 0 i1 i2 u1 e2) X dX4_bestExponent_6 hw hl rfl rfl rfl (by decide) rfl rfl rfl (Nat.le_of_ble_eq_true rfl) ⟨Nat.le_of_ble_eq_true rfl, Nat.le_of_ble_eq_true rfl⟩ ⟨Nat.zero_le _, Nat.zero_le _⟩ (fun H locs hw => ?_)
  refine z_istore 9 [(4, .int u1), (3, .int 0), (0, .ref a_this), (1, .int i1), (2, .int i2)] X dX4_bestExponent_9 hl (by decide) rfl (fun ls hl => ?_)
  refine z_iconst 11 1 X dX4_bestExponent_11 (by decide) ?_
  refine z_istore 12 [(5, .int 1), (4, .int u1), (3, .int 0), (0, .ref a_this), (1, .int i1), (2, .int i2)] X dX4_bestExponent_12 hl (by decide) rfl (fun ls hl => ?_)
  refine l_X4_bestExponent_14 l D cA a_this a_this_sums a_this_sums_cells v_length g_sums_cells i1 i2 out X _ (fun i3_7 H locs ls hw hl hF => ?_) zFuel 0 u1 1 H locs ls hw (lv_sub hl [3, 4, 5, 2, 1, 0] rfl) hF
  refine z_iload_n 51 X dX4_bestExponent_51 hl 0 rfl ?_
  cases hF
  exact z_iret 52 X dX4_bestExponent_52 hw rfl rfl
theorem dX7_append_0 : decode cX7_append 0 = .ok (.iload_n 2, 1) := by decide +kernel
theorem dX7_append_1 : decode cX7_append 1 = .ok (.iconst 1, 1) := by decide +kernel
theorem dX7_append_2 : decode cX7_append 2 = .ok (.isub, 1) := by decide +kernel
theorem dX7_append_3 : decode cX7_append 3 = .ok (.istore_n 3, 1) := by decide +kernel
theorem dX7_append_4 : decode cX7_append 4 = .ok (.iload_n 3, 1) := by decide +kernel
theorem dX7_append_5 : decode cX7_append 5 = .ok (.ifCond .lt 35, 3) := by decide +kernel
theorem dX7_append_8 : decode cX7_append 8 = .ok (.aload_n 0, 1) := by decide +kernel
theorem dX7_append_9 : decode cX7_append 9 = .ok (.getfield 14, 3) := by decide +kernel
theorem dX7_append_12 : decode cX7_append 12 = .ok (.aload_n 0, 1) := by decide +kernel
theorem dX7_append_13 : decode cX7_append 13 = .ok (.getfield 20, 3) := by decide +kernel
theorem dX7_append_16 : decode cX7_append 16 = .ok (.iload_n 1, 1) := by decide +kernel
theorem dX7_append_17 : decode cX7_append 17 = .ok (.iload_n 3, 1) := by decide +kernel
theorem dX7_append_18 : decode cX7_append 18 = .ok (.ishr, 1) := by decide +kernel
theorem dX7_append_19 : decode cX7_append 19 = .ok (.iconst 1, 1) := by decide +kernel
theorem dX7_append_20 : decode cX7_append 20 = .ok (.iand, 1) := by decide +kernel
theorem dX7_append_21 : decode cX7_append 21 = .ok (.invokevirtual 49, 3) := by decide +kernel
theorem dX7_append_24 : decode cX7_append 24 = .ok (.aload_n 0, 1) := by decide +kernel
theorem dX7_append_25 : decode cX7_append 25 = .ok (.dup, 1) := by decide +kernel
theorem dX7_append_26 : decode cX7_append 26 = .ok (.getfield 20, 3) := by decide +kernel
theorem dX7_append_29 : decode cX7_append 29 = .ok (.iconst 1, 1) := by decide +kernel
theorem dX7_append_30 : decode cX7_append 30 = .ok (.iadd, 1) := by decide +kernel
theorem dX7_append_31 : decode cX7_append 31 = .ok (.putfield 20, 3) := by decide +kernel
theorem dX7_append_34 : decode cX7_append 34 = .ok (.iinc 3 (-1), 3) := by decide +kernel
theorem dX7_append_37 : decode cX7_append 37 = .ok (.goto (-33), 3) := by decide +kernel
theorem dX7_append_40 : decode cX7_append 40 = .ok (.return_, 1) := by decide +kernel
set_option maxHeartbeats 4000000 in
set_option maxRecDepth 100000 in
theorem l_X7_append_4 (l : Launch) (D : va_G) (cA : ClassId) (a_this a_this_cells a_this_cells_cells : Nat) (v_start : Int32) (v_next : Int32) (v_exponent : Int32) (v_number : Int32) (i1 : Int32) (out : Int32 × Ar) {p : Program} {e : Env} {s : State} {m : MethodId} {args : Array Value} {below : List Frame} {meth : Method} {c : Code} {A : Nat → Prop} (X : zX D cA p s m args meth c cX7_append 4 RX7 none) (k : Int32 → Ar → Option (Int32 × Ar)) (hk : ∀ (v_length : Int32) (g_cells_cells : Ar) (H : Heap) (locs : List Loc) (ls : Array Slot), zH D A s (zw_10 cA 0 a_this a_this_cells a_this_cells_cells v_length v_start v_next v_exponent v_number g_cells_cells) H locs → lv_has ls 4 [] → k v_length g_cells_cells = some out → W p l e (zR 1 22) s m args below meth c H locs 0 0 (MQ below (zQ D (zw_10 cA 0 a_this a_this_cells a_this_cells_cells out.1 v_start v_next v_exponent v_number out.2) none A) args s 0 0 A) (F0 m 40 ls [])) :
    ∀ (fuel : Nat) (v_length : Int32) (g_cells_cells : Ar) (i3 : Int32) (H : Heap) (locs : List Loc) (ls : Array Slot), zH D A s (zw_10 cA 0 a_this a_this_cells a_this_cells_cells v_length v_start v_next v_exponent v_number g_cells_cells) H locs → lv_has ls 4 [(0, .ref a_this), (1, .int i1), (3, .int i3)] → F_X7_append_L4 i1 k fuel v_length g_cells_cells i3 = some out → W p l e (zR 1 22) s m args below meth c H locs 0 0 (MQ below (zQ D (zw_10 cA 0 a_this a_this_cells a_this_cells_cells out.1 v_start v_next v_exponent v_number out.2) none A) args s 0 0 A) (F0 m 4 ls []) := by
  intro fuel
  induction fuel with
  | zero => intro v_length g_cells_cells i3 H locs ls hw hl hF; exact nomatch (show (none : Option (Int32 × Ar)) = some out from hF)
  | succ fuel ih =>
    intro v_length g_cells_cells i3 H locs ls hw hl hF
    rw [F_X7_append_L4] at hF
    refine z_iload_n 4 X dX7_append_4 hl 2 rfl ?_
    refine z_if_lt 5 40 X dX7_append_5 (by decide) (fun c1 => ?_) (fun c1 => ?_)
    · replace hF := zpos c1 hF
      exact hk v_length g_cells_cells H locs ls hw (lv_sub hl [] rfl) hF
    · replace hF := zneg c1 hF
      refine z_aload_n 8 X dX7_append_8 hl 0 rfl ?_
      refine z_get 9 zc7 0 0 fl_7_14 X dX7_append_9 hw rfl (by decide) rfl ?_
      refine z_aload_n 12 X dX7_append_12 hl 0 rfl ?_
      refine z_get 13 zc7 0 1 fl_7_20 X dX7_append_13 hw rfl (by decide) rfl ?_
      refine z_iload_n 16 X dX7_append_16 hl 1 rfl ?_
      refine z_iload_n 17 X dX7_append_17 hl 2 rfl ?_
      refine z_ishr 18 X dX7_append_18 ?_
      refine z_iconst 19 1 X dX7_append_19 (by decide) ?_
      refine z_iand 20 X dX7_append_20 ?_
      obtain ⟨u2, e3, hF⟩ := zbd hF
      refine z_callV 21 zc0 mv_X0_write ml_7_49 1 [1, 2] (zw_10 cA 0 a_this a_this_cells a_this_cells_cells v_length v_start v_next v_exponent v_number u2) [] (m_X0_write l D cA 1344 a_this_cells a_this_cells_cells g_cells_cells v_length ((i1 >>> (i3 &&& 31)) &&& 1) u2 e3) X dX7_append_21 hw hl rfl rfl rfl (by decide) rfl rfl rfl (Nat.le_of_ble_eq_true rfl) ⟨Nat.le_of_ble_eq_true rfl, Nat.le_of_ble_eq_true rfl⟩ ⟨Nat.zero_le _, Nat.zero_le _⟩ (fun H locs hw => ?_)
      refine z_aload_n 24 X dX7_append_24 hl 0 rfl ?_
      refine z_dup 25 X dX7_append_25 rfl ?_
      refine z_get 26 zc7 0 1 fl_7_20 X dX7_append_26 hw rfl (by decide) rfl ?_
      refine z_iconst 29 1 X dX7_append_29 (by decide) ?_
      refine z_iadd 30 X dX7_append_30 ?_
      refine z_put 31 zc7 0 1 (zw_10 cA 0 a_this a_this_cells a_this_cells_cells (v_length + 1) v_start v_next v_exponent v_number u2) fl_7_20 X dX7_append_31 hw rfl (by decide) rfl rfl rfl (Nat.le_of_ble_eq_true rfl) rfl (fun H locs hw => ?_)
      refine z_iinc2 34 (-1) [(3, .int (i3 + (-1))), (0, .ref a_this), (1, .int i1)] X dX7_append_34 hl 2 rfl (by decide) (by decide) rfl (fun ls hl => ?_)
      refine z_goto 37 4 X dX7_append_37 (by decide) ?_
      exact ih (v_length + 1) u2 (i3 + (-1)) H locs ls hw (lv_sub hl [1, 2, 0] rfl) hF
set_option maxHeartbeats 4000000 in
set_option maxRecDepth 100000 in
theorem m_X7_append (l : Launch) (D : va_G) (cA : ClassId) (a_this a_this_cells a_this_cells_cells : Nat) (v_length : Int32) (v_start : Int32) (v_next : Int32) (v_exponent : Int32) (v_number : Int32) (g_cells_cells : Ar) (i1 : Int32) (i2 : Int32) (out : Int32 × Ar) (hF : F_X7_append v_length g_cells_cells i1 i2 = some out) : zM l D cA yX7_append cX7_append 4 none 1 22 [.ref a_this, .int i1, .int i2] (zw_10 cA 0 a_this a_this_cells a_this_cells_cells v_length v_start v_next v_exponent v_number g_cells_cells) (zw_10 cA 0 a_this a_this_cells a_this_cells_cells out.1 v_start v_next v_exponent v_number out.2) none := by
  refine z_body (by decide) (Nat.le_of_ble_eq_true rfl) ?_
  intro p e s m args below meth c ls H locs A X hl hw
  have hl : lv_has ls 4 [(0, .ref a_this), (1, .int i1), (2, .int i2)] := hl
  unfold F_X7_append at hF
  refine z_iload_n 0 X dX7_append_0 hl 2 rfl ?_
  refine z_iconst 1 1 X dX7_append_1 (by decide) ?_
  refine z_isub 2 X dX7_append_2 ?_
  refine z_istore_n 3 [(3, .int (i2 - 1)), (0, .ref a_this), (1, .int i1), (2, .int i2)] X dX7_append_3 hl (by decide) rfl (fun ls hl => ?_)
  refine l_X7_append_4 l D cA a_this a_this_cells a_this_cells_cells v_start v_next v_exponent v_number i1 out X _ (fun v_length_4 g_cells_cells_5 H locs ls hw hl hF => ?_) zFuel v_length g_cells_cells (i2 - 1) H locs ls hw (lv_sub hl [1, 2, 0] rfl) hF
  cases hF
  exact z_vret 40 X dX7_append_40 hw rfl rfl
theorem dX7_appendCode_0 : decode cX7_appendCode 0 = .ok (.iload_n 1, 1) := by decide +kernel
theorem dX7_appendCode_1 : decode cX7_appendCode 1 = .ok (.iload_n 2, 1) := by decide +kernel
theorem dX7_appendCode_2 : decode cX7_appendCode 2 = .ok (.iload_n 3, 1) := by decide +kernel
theorem dX7_appendCode_3 : decode cX7_appendCode 3 = .ok (.invokestatic 53, 3) := by decide +kernel
theorem dX7_appendCode_6 : decode cX7_appendCode 6 = .ok (.ifCond .eq 19, 3) := by decide +kernel
theorem dX7_appendCode_9 : decode cX7_appendCode 9 = .ok (.aload_n 0, 1) := by decide +kernel
theorem dX7_appendCode_10 : decode cX7_appendCode 10 = .ok (.iconst (-1), 1) := by decide +kernel
theorem dX7_appendCode_11 : decode cX7_appendCode 11 = .ok (.iload_n 3, 1) := by decide +kernel
theorem dX7_appendCode_12 : decode cX7_appendCode 12 = .ok (.invokevirtual 57, 3) := by decide +kernel
theorem dX7_appendCode_15 : decode cX7_appendCode 15 = .ok (.aload_n 0, 1) := by decide +kernel
theorem dX7_appendCode_16 : decode cX7_appendCode 16 = .ok (.iload_n 1, 1) := by decide +kernel
theorem dX7_appendCode_17 : decode cX7_appendCode 17 = .ok (.bipush 16, 2) := by decide +kernel
theorem dX7_appendCode_19 : decode cX7_appendCode 19 = .ok (.invokevirtual 57, 3) := by decide +kernel
theorem dX7_appendCode_22 : decode cX7_appendCode 22 = .ok (.goto 23, 3) := by decide +kernel
theorem dX7_appendCode_25 : decode cX7_appendCode 25 = .ok (.aload_n 0, 1) := by decide +kernel
theorem dX7_appendCode_26 : decode cX7_appendCode 26 = .ok (.iconst (-1), 1) := by decide +kernel
theorem dX7_appendCode_27 : decode cX7_appendCode 27 = .ok (.iload_n 1, 1) := by decide +kernel
theorem dX7_appendCode_28 : decode cX7_appendCode 28 = .ok (.iload_n 2, 1) := by decide +kernel
theorem dX7_appendCode_29 : decode cX7_appendCode 29 = .ok (.ishr, 1) := by decide +kernel
theorem dX7_appendCode_30 : decode cX7_appendCode 30 = .ok (.invokevirtual 57, 3) := by decide +kernel
theorem dX7_appendCode_33 : decode cX7_appendCode 33 = .ok (.aload_n 0, 1) := by decide +kernel
theorem dX7_appendCode_34 : decode cX7_appendCode 34 = .ok (.iconst 0, 1) := by decide +kernel
theorem dX7_appendCode_35 : decode cX7_appendCode 35 = .ok (.iconst 1, 1) := by decide +kernel
theorem dX7_appendCode_36 : decode cX7_appendCode 36 = .ok (.invokevirtual 57, 3) := by decide +kernel
theorem dX7_appendCode_39 : decode cX7_appendCode 39 = .ok (.aload_n 0, 1) := by decide +kernel
theorem dX7_appendCode_40 : decode cX7_appendCode 40 = .ok (.iload_n 1, 1) := by decide +kernel
theorem dX7_appendCode_41 : decode cX7_appendCode 41 = .ok (.iload_n 2, 1) := by decide +kernel
theorem dX7_appendCode_42 : decode cX7_appendCode 42 = .ok (.invokevirtual 57, 3) := by decide +kernel
theorem dX7_appendCode_45 : decode cX7_appendCode 45 = .ok (.return_, 1) := by decide +kernel
set_option maxHeartbeats 4000000 in
set_option maxRecDepth 100000 in
theorem m_X7_appendCode (l : Launch) (D : va_G) (cA : ClassId) (a_this a_this_cells a_this_cells_cells : Nat) (v_length : Int32) (v_start : Int32) (v_next : Int32) (v_exponent : Int32) (v_number : Int32) (g_cells_cells : Ar) (i1 : Int32) (i2 : Int32) (i3 : Int32) (out : Int32 × Ar) (hF : F_X7_appendCode v_length g_cells_cells i1 i2 i3 = some out) : zM l D cA yX7_appendCode cX7_appendCode 4 none 2 45 [.ref a_this, .int i1, .int i2, .int i3] (zw_10 cA 0 a_this a_this_cells a_this_cells_cells v_length v_start v_next v_exponent v_number g_cells_cells) (zw_10 cA 0 a_this a_this_cells a_this_cells_cells out.1 v_start v_next v_exponent v_number out.2) none := by
  refine z_body (by decide) (Nat.le_of_ble_eq_true rfl) ?_
  intro p e s m args below meth c ls H locs A X hl hw
  have hl : lv_has ls 4 [(0, .ref a_this), (1, .int i1), (2, .int i2), (3, .int i3)] := hl
  unfold F_X7_appendCode at hF
  refine z_iload_n 0 X dX7_appendCode_0 hl 1 rfl ?_
  refine z_iload_n 1 X dX7_appendCode_1 hl 2 rfl ?_
  refine z_iload_n 2 X dX7_appendCode_2 hl 3 rfl ?_
  obtain ⟨u1, e2, hF⟩ := zbd hF
  refine z_callSN 3 mv_X8_isEscape ml_7_53 [] (zw_10 cA 0 a_this a_this_cells a_this_cells_cells v_length v_start v_next v_exponent v_number g_cells_cells) [] (m_X8_isEscape l D cA i1 i2 i3 u1 e2) X dX7_appendCode_3 hw hl rfl rfl (by decide) rfl rfl rfl (Nat.le_of_ble_eq_true rfl) ⟨Nat.le_of_ble_eq_true rfl, Nat.le_of_ble_eq_true rfl⟩ ⟨Nat.zero_le _, Nat.zero_le _⟩ (fun H locs hw => ?_)
  refine z_if_eq 6 25 X dX7_appendCode_6 (by decide) (fun c3 => ?_) (fun c3 => ?_)
  · replace hF := zpos c3 hF
    refine z_aload_n 25 X dX7_appendCode_25 hl 0 rfl ?_
    refine z_iconst 26 (-1) X dX7_appendCode_26 (by decide) ?_
    refine z_iload_n 27 X dX7_appendCode_27 hl 1 rfl ?_
    refine z_iload_n 28 X dX7_appendCode_28 hl 2 rfl ?_
    refine z_ishr 29 X dX7_appendCode_29 ?_
    obtain ⟨u4, e5, hF⟩ := zbd hF
    refine z_callV 30 zc7 mv_X7_append ml_7_57 0 [0, 1, 2] (zw_10 cA 0 a_this a_this_cells a_this_cells_cells u4.1 v_start v_next v_exponent v_number u4.2) [] (m_X7_append l D cA a_this a_this_cells a_this_cells_cells v_length v_start v_next v_exponent v_number g_cells_cells (-1) (i1 >>> (i2 &&& 31)) u4 e5) X dX7_appendCode_30 hw hl rfl rfl rfl (by decide) rfl rfl rfl (Nat.le_of_ble_eq_true rfl) ⟨Nat.le_of_ble_eq_true rfl, Nat.le_of_ble_eq_true rfl⟩ ⟨Nat.zero_le _, Nat.zero_le _⟩ (fun H locs hw => ?_)
    refine z_aload_n 33 X dX7_appendCode_33 hl 0 rfl ?_
    refine z_iconst 34 0 X dX7_appendCode_34 (by decide) ?_
    refine z_iconst 35 1 X dX7_appendCode_35 (by decide) ?_
    obtain ⟨u6, e7, hF⟩ := zbd hF
    refine z_callV 36 zc7 mv_X7_append ml_7_57 0 [0, 1, 2] (zw_10 cA 0 a_this a_this_cells a_this_cells_cells u6.1 v_start v_next v_exponent v_number u6.2) [] (m_X7_append l D cA a_this a_this_cells a_this_cells_cells u4.1 v_start v_next v_exponent v_number u4.2 0 1 u6 e7) X dX7_appendCode_36 hw hl rfl rfl rfl (by decide) rfl rfl rfl (Nat.le_of_ble_eq_true rfl) ⟨Nat.le_of_ble_eq_true rfl, Nat.le_of_ble_eq_true rfl⟩ ⟨Nat.zero_le _, Nat.zero_le _⟩ (fun H locs hw => ?_)
    refine z_aload_n 39 X dX7_appendCode_39 hl 0 rfl ?_
    refine z_iload_n 40 X dX7_appendCode_40 hl 1 rfl ?_
    refine z_iload_n 41 X dX7_appendCode_41 hl 2 rfl ?_
    obtain ⟨u8, e9, hF⟩ := zbd hF
    refine z_callV 42 zc7 mv_X7_append ml_7_57 0 [0, 1, 2] (zw_10 cA 0 a_this a_this_cells a_this_cells_cells u8.1 v_start v_next v_exponent v_number u8.2) [] (m_X7_append l D cA a_this a_this_cells a_this_cells_cells u6.1 v_start v_next v_exponent v_number u6.2 i1 i2 u8 e9) X dX7_appendCode_42 hw hl rfl rfl rfl (by decide) rfl rfl rfl (Nat.le_of_ble_eq_true rfl) ⟨Nat.le_of_ble_eq_true rfl, Nat.le_of_ble_eq_true rfl⟩ ⟨Nat.zero_le _, Nat.zero_le _⟩ (fun H locs hw => ?_)
    cases hF
    exact z_vret 45 X dX7_appendCode_45 hw rfl rfl
  · replace hF := zneg c3 hF
    refine z_aload_n 9 X dX7_appendCode_9 hl 0 rfl ?_
    refine z_iconst 10 (-1) X dX7_appendCode_10 (by decide) ?_
    refine z_iload_n 11 X dX7_appendCode_11 hl 3 rfl ?_
    obtain ⟨u10, e11, hF⟩ := zbd hF
    refine z_callV 12 zc7 mv_X7_append ml_7_57 0 [0, 1, 2] (zw_10 cA 0 a_this a_this_cells a_this_cells_cells u10.1 v_start v_next v_exponent v_number u10.2) [] (m_X7_append l D cA a_this a_this_cells a_this_cells_cells v_length v_start v_next v_exponent v_number g_cells_cells (-1) i3 u10 e11) X dX7_appendCode_12 hw hl rfl rfl rfl (by decide) rfl rfl rfl (Nat.le_of_ble_eq_true rfl) ⟨Nat.le_of_ble_eq_true rfl, Nat.le_of_ble_eq_true rfl⟩ ⟨Nat.zero_le _, Nat.zero_le _⟩ (fun H locs hw => ?_)
    refine z_aload_n 15 X dX7_appendCode_15 hl 0 rfl ?_
    refine z_iload_n 16 X dX7_appendCode_16 hl 1 rfl ?_
    refine z_bipush 17 16 X dX7_appendCode_17 (by decide) ?_
    obtain ⟨u12, e13, hF⟩ := zbd hF
    refine z_callV 19 zc7 mv_X7_append ml_7_57 0 [0, 1, 2] (zw_10 cA 0 a_this a_this_cells a_this_cells_cells u12.1 v_start v_next v_exponent v_number u12.2) [] (m_X7_append l D cA a_this a_this_cells a_this_cells_cells u10.1 v_start v_next v_exponent v_number u10.2 i1 16 u12 e13) X dX7_appendCode_19 hw hl rfl rfl rfl (by decide) rfl rfl rfl (Nat.le_of_ble_eq_true rfl) ⟨Nat.le_of_ble_eq_true rfl, Nat.le_of_ble_eq_true rfl⟩ ⟨Nat.zero_le _, Nat.zero_le _⟩ (fun H locs hw => ?_)
    refine z_goto 22 45 X dX7_appendCode_22 (by decide) ?_
    cases hF
    exact z_vret 45 X dX7_appendCode_45 hw rfl rfl
theorem dX1_codeBlock_0 : decode cX1_codeBlock 0 = .ok (.aload_n 1, 1) := by decide +kernel
theorem dX1_codeBlock_1 : decode cX1_codeBlock 1 = .ok (.iload_n 2, 1) := by decide +kernel
theorem dX1_codeBlock_2 : decode cX1_codeBlock 2 = .ok (.invokevirtual 64, 3) := by decide +kernel
theorem dX1_codeBlock_5 : decode cX1_codeBlock 5 = .ok (.istore_n 3, 1) := by decide +kernel
theorem dX1_codeBlock_6 : decode cX1_codeBlock 6 = .ok (.aload_n 1, 1) := by decide +kernel
theorem dX1_codeBlock_7 : decode cX1_codeBlock 7 = .ok (.iload_n 2, 1) := by decide +kernel
theorem dX1_codeBlock_8 : decode cX1_codeBlock 8 = .ok (.invokevirtual 71, 3) := by decide +kernel
theorem dX1_codeBlock_11 : decode cX1_codeBlock 11 = .ok (.istore 4, 2) := by decide +kernel
theorem dX1_codeBlock_13 : decode cX1_codeBlock 13 = .ok (.aload_n 0, 1) := by decide +kernel
theorem dX1_codeBlock_14 : decode cX1_codeBlock 14 = .ok (.getfield 12, 3) := by decide +kernel
theorem dX1_codeBlock_17 : decode cX1_codeBlock 17 = .ok (.iload_n 3, 1) := by decide +kernel
theorem dX1_codeBlock_18 : decode cX1_codeBlock 18 = .ok (.iload 4, 2) := by decide +kernel
theorem dX1_codeBlock_20 : decode cX1_codeBlock 20 = .ok (.invokevirtual 74, 3) := by decide +kernel
theorem dX1_codeBlock_23 : decode cX1_codeBlock 23 = .ok (.istore 5, 2) := by decide +kernel
theorem dX1_codeBlock_25 : decode cX1_codeBlock 25 = .ok (.aload_n 0, 1) := by decide +kernel
theorem dX1_codeBlock_26 : decode cX1_codeBlock 26 = .ok (.getfield 30, 3) := by decide +kernel
theorem dX1_codeBlock_29 : decode cX1_codeBlock 29 = .ok (.iload_n 2, 1) := by decide +kernel
theorem dX1_codeBlock_30 : decode cX1_codeBlock 30 = .ok (.iload 5, 2) := by decide +kernel
theorem dX1_codeBlock_32 : decode cX1_codeBlock 32 = .ok (.invokevirtual 78, 3) := by decide +kernel
theorem dX1_codeBlock_35 : decode cX1_codeBlock 35 = .ok (.aload_n 0, 1) := by decide +kernel
theorem dX1_codeBlock_36 : decode cX1_codeBlock 36 = .ok (.getfield 34, 3) := by decide +kernel
theorem dX1_codeBlock_39 : decode cX1_codeBlock 39 = .ok (.iload_n 2, 1) := by decide +kernel
theorem dX1_codeBlock_40 : decode cX1_codeBlock 40 = .ok (.aload_n 0, 1) := by decide +kernel
theorem dX1_codeBlock_41 : decode cX1_codeBlock 41 = .ok (.getfield 21, 3) := by decide +kernel
theorem dX1_codeBlock_44 : decode cX1_codeBlock 44 = .ok (.getfield 47, 3) := by decide +kernel
theorem dX1_codeBlock_47 : decode cX1_codeBlock 47 = .ok (.invokevirtual 78, 3) := by decide +kernel
theorem dX1_codeBlock_50 : decode cX1_codeBlock 50 = .ok (.aload_n 0, 1) := by decide +kernel
theorem dX1_codeBlock_51 : decode cX1_codeBlock 51 = .ok (.getfield 21, 3) := by decide +kernel
theorem dX1_codeBlock_54 : decode cX1_codeBlock 54 = .ok (.iload 5, 2) := by decide +kernel
theorem dX1_codeBlock_56 : decode cX1_codeBlock 56 = .ok (.iconst 4, 1) := by decide +kernel
theorem dX1_codeBlock_57 : decode cX1_codeBlock 57 = .ok (.invokevirtual 82, 3) := by decide +kernel
theorem dX1_codeBlock_60 : decode cX1_codeBlock 60 = .ok (.iload_n 3, 1) := by decide +kernel
theorem dX1_codeBlock_61 : decode cX1_codeBlock 61 = .ok (.istore 6, 2) := by decide +kernel
theorem dX1_codeBlock_63 : decode cX1_codeBlock 63 = .ok (.iload 6, 2) := by decide +kernel
theorem dX1_codeBlock_65 : decode cX1_codeBlock 65 = .ok (.iload 4, 2) := by decide +kernel
theorem dX1_codeBlock_67 : decode cX1_codeBlock 67 = .ok (.if_icmp .ge 28, 3) := by decide +kernel
theorem dX1_codeBlock_70 : decode cX1_codeBlock 70 = .ok (.aload_n 0, 1) := by decide +kernel
theorem dX1_codeBlock_71 : decode cX1_codeBlock 71 = .ok (.getfield 21, 3) := by decide +kernel
theorem dX1_codeBlock_74 : decode cX1_codeBlock 74 = .ok (.aload_n 1, 1) := by decide +kernel
theorem dX1_codeBlock_75 : decode cX1_codeBlock 75 = .ok (.iload 6, 2) := by decide +kernel
theorem dX1_codeBlock_77 : decode cX1_codeBlock 77 = .ok (.invokevirtual 85, 3) := by decide +kernel
theorem dX1_codeBlock_80 : decode cX1_codeBlock 80 = .ok (.iload 5, 2) := by decide +kernel
theorem dX1_codeBlock_82 : decode cX1_codeBlock 82 = .ok (.aload_n 1, 1) := by decide +kernel
theorem dX1_codeBlock_83 : decode cX1_codeBlock 83 = .ok (.getfield 37, 3) := by decide +kernel
theorem dX1_codeBlock_86 : decode cX1_codeBlock 86 = .ok (.invokevirtual 88, 3) := by decide +kernel
theorem dX1_codeBlock_89 : decode cX1_codeBlock 89 = .ok (.iinc 6 1, 3) := by decide +kernel
theorem dX1_codeBlock_92 : decode cX1_codeBlock 92 = .ok (.goto (-29), 3) := by decide +kernel
theorem dX1_codeBlock_95 : decode cX1_codeBlock 95 = .ok (.return_, 1) := by decide +kernel
set_option maxHeartbeats 4000000 in
set_option maxRecDepth 100000 in
theorem l_X1_codeBlock_63 (l : Launch) (D : va_G) (cA : ClassId) (a_this a_this_prices a_this_stream a_this_exponents a_this_skips a_this_exponents_cells a_this_prices_sums a_this_prices_sums_cells a_this_skips_cells a_this_stream_cells a_this_stream_cells_cells a_p1 a_p1_numbers a_p1_numbers_cells : Nat) (g_exponents_cells : Ar) (v_prices_length : Int32) (g_prices_sums_cells : Ar) (g_skips_cells : Ar) (v_stream_start : Int32) (v_stream_next : Int32) (v_stream_exponent : Int32) (v_stream_number : Int32) (v_p1_length : Int32) (v_p1_blockSize : Int32) (v_p1_ones : Int32) (g_p1_numbers_cells : Ar) (i4 : Int32) (i5 : Int32) (out : Ar × Ar × Int32 × Ar) {p : Program} {e : Env} {s : State} {m : MethodId} {args : Array Value} {below : List Frame} {meth : Method} {c : Code} {A : Nat → Prop} (X : zX D cA p s m args meth c cX1_codeBlock 7 RX1 none) (k : Int32 → Ar → Option (Ar × Ar × Int32 × Ar)) (hk : ∀ (v_stream_length : Int32) (g_stream_cells_cells : Ar) (H : Heap) (locs : List Loc) (ls : Array Slot), zH D A s (zw_11 cA 0 a_this a_this_prices a_this_stream a_this_exponents a_this_skips a_this_exponents_cells a_this_prices_sums a_this_prices_sums_cells a_this_skips_cells a_this_stream_cells a_this_stream_cells_cells a_p1 a_p1_numbers a_p1_numbers_cells g_exponents_cells v_prices_length g_prices_sums_cells g_skips_cells v_stream_length v_stream_start v_stream_next v_stream_exponent v_stream_number g_stream_cells_cells v_p1_length v_p1_blockSize v_p1_ones g_p1_numbers_cells) H locs → lv_has ls 7 [] → k v_stream_length g_stream_cells_cells = some out → W p l e (zR 3 70) s m args below meth c H locs 0 0 (MQ below (zQ D (zw_11 cA 0 a_this a_this_prices a_this_stream a_this_exponents a_this_skips a_this_exponents_cells a_this_prices_sums a_this_prices_sums_cells a_this_skips_cells a_this_stream_cells a_this_stream_cells_cells a_p1 a_p1_numbers a_p1_numbers_cells out.1 v_prices_length g_prices_sums_cells out.2.1 out.2.2.1 v_stream_start v_stream_next v_stream_exponent v_stream_number out.2.2.2 v_p1_length v_p1_blockSize v_p1_ones g_p1_numbers_cells) none A) args s 0 0 A) (F0 m 95 ls [])) :
    ∀ (fuel : Nat) (v_stream_length : Int32) (g_stream_cells_cells : Ar) (i6 : Int32) (H : Heap) (locs : List Loc) (ls : Array Slot), zH D A s (zw_11 cA 0 a_this a_this_prices a_this_stream a_this_exponents a_this_skips a_this_exponents_cells a_this_prices_sums a_this_prices_sums_cells a_this_skips_cells a_this_stream_cells a_this_stream_cells_cells a_p1 a_p1_numbers a_p1_numbers_cells g_exponents_cells v_prices_length g_prices_sums_cells g_skips_cells v_stream_length v_stream_start v_stream_next v_stream_exponent v_stream_number g_stream_cells_cells v_p1_length v_p1_blockSize v_p1_ones g_p1_numbers_cells) H locs → lv_has ls 7 [(0, .ref a_this), (1, .ref a_p1), (4, .int i4), (5, .int i5), (6, .int i6)] → F_X1_codeBlock_L63 v_p1_ones g_p1_numbers_cells i4 i5 k fuel v_stream_length g_stream_cells_cells i6 = some out → W p l e (zR 3 70) s m args below meth c H locs 0 0 (MQ below (zQ D (zw_11 cA 0 a_this a_this_prices a_this_stream a_this_exponents a_this_skips a_this_exponents_cells a_this_prices_sums a_this_prices_sums_cells a_this_skips_cells a_this_stream_cells a_this_stream_cells_cells a_p1 a_p1_numbers a_p1_numbers_cells out.1 v_prices_length g_prices_sums_cells out.2.1 out.2.2.1 v_stream_start v_stream_next v_stream_exponent v_stream_number out.2.2.2 v_p1_length v_p1_blockSize v_p1_ones g_p1_numbers_cells) none A) args s 0 0 A) (F0 m 63 ls []) := by
  intro fuel
  induction fuel with
  | zero => intro v_stream_length g_stream_cells_cells i6 H locs ls hw hl hF; exact nomatch (show (none : Option (Ar × Ar × Int32 × Ar)) = some out from hF)
  | succ fuel ih =>
    intro v_stream_length g_stream_cells_cells i6 H locs ls hw hl hF
    rw [F_X1_codeBlock_L63] at hF
    refine z_iload 63 X dX1_codeBlock_63 hl 4 rfl ?_
    refine z_iload 65 X dX1_codeBlock_65 hl 2 rfl ?_
    refine z_icmp_ge 67 95 X dX1_codeBlock_67 (by decide) (fun c13 => ?_) (fun c13 => ?_)
    · replace hF := zpos c13 hF
      exact hk v_stream_length g_stream_cells_cells H locs ls hw (lv_sub hl [] rfl) hF
    · replace hF := zneg c13 hF
      refine z_aload_n 70 X dX1_codeBlock_70 hl 0 rfl ?_
      refine z_get 71 zc1 0 1 fl_1_21 X dX1_codeBlock_71 hw rfl (by decide) rfl ?_
      refine z_aload_n 74 X dX1_codeBlock_74 hl 1 rfl ?_
      refine z_iload 75 X dX1_codeBlock_75 hl 4 rfl ?_
      obtain ⟨u14, e15, hF⟩ := zbd hF
      refine z_callV 77 zc5 mv_X5_gapAhead ml_1_85 11 [11, 12, 13] (zw_11 cA 0 a_this a_this_prices a_this_stream a_this_exponents a_this_skips a_this_exponents_cells a_this_prices_sums a_this_prices_sums_cells a_this_skips_cells a_this_stream_cells a_this_stream_cells_cells a_p1 a_p1_numbers a_p1_numbers_cells g_exponents_cells v_prices_length g_prices_sums_cells g_skips_cells v_stream_length v_stream_start v_stream_next v_stream_exponent v_stream_number g_stream_cells_cells v_p1_length v_p1_blockSize v_p1_ones g_p1_numbers_cells) [.ref a_this_stream] (m_X5_gapAhead l D cA a_p1 a_p1_numbers a_p1_numbers_cells v_p1_length v_p1_blockSize v_p1_ones g_p1_numbers_cells i6 u14 e15) X dX1_codeBlock_77 hw hl rfl rfl rfl (by decide) rfl rfl rfl (Nat.le_of_ble_eq_true rfl) ⟨Nat.le_of_ble_eq_true rfl, Nat.le_of_ble_eq_true rfl⟩ ⟨Nat.zero_le _, Nat.zero_le _⟩ (fun H locs hw => ?_)
      refine z_iload 80 X dX1_codeBlock_80 hl 3 rfl ?_
      refine z_aload_n 82 X dX1_codeBlock_82 hl 1 rfl ?_
      refine z_getN 83 zc5 11 3 fl_1_37 X dX1_codeBlock_83 hw rfl (by decide) rfl ?_
      obtain ⟨u16, e17, hF⟩ := zbd hF
      refine z_callV 86 zc7 mv_X7_appendCode ml_1_88 8 [8, 9, 10] (zw_11 cA 0 a_this a_this_prices a_this_stream a_this_exponents a_this_skips a_this_exponents_cells a_this_prices_sums a_this_prices_sums_cells a_this_skips_cells a_this_stream_cells a_this_stream_cells_cells a_p1 a_p1_numbers a_p1_numbers_cells g_exponents_cells v_prices_length g_prices_sums_cells g_skips_cells u16.1 v_stream_start v_stream_next v_stream_exponent v_stream_number u16.2 v_p1_length v_p1_blockSize v_p1_ones g_p1_numbers_cells) [] (m_X7_appendCode l D cA a_this_stream a_this_stream_cells a_this_stream_cells_cells v_stream_length v_stream_start v_stream_next v_stream_exponent v_stream_number g_stream_cells_cells u14 i5 v_p1_ones u16 e17) X dX1_codeBlock_86 hw hl rfl rfl rfl (by decide) rfl rfl rfl (Nat.le_of_ble_eq_true rfl) ⟨Nat.le_of_ble_eq_true rfl, Nat.le_of_ble_eq_true rfl⟩ ⟨Nat.zero_le _, Nat.zero_le _⟩ (fun H locs hw => ?_)
      refine z_iinc2 89 1 [(6, .int (i6 + 1)), (0, .ref a_this), (1, .ref a_p1), (4, .int i4), (5, .int i5)] X dX1_codeBlock_89 hl 4 rfl (by decide) (by decide) rfl (fun ls hl => ?_)
      refine z_goto 92 63 X dX1_codeBlock_92 (by decide) ?_
      exact ih u16.1 u16.2 (i6 + 1) H locs ls hw (lv_sub hl [1, 2, 3, 4, 0] rfl) hF
set_option maxHeartbeats 4000000 in
set_option maxRecDepth 100000 in
theorem m_X1_codeBlock (l : Launch) (D : va_G) (cA : ClassId) (a_this a_this_prices a_this_stream a_this_exponents a_this_skips a_this_exponents_cells a_this_prices_sums a_this_prices_sums_cells a_this_skips_cells a_this_stream_cells a_this_stream_cells_cells a_p1 a_p1_numbers a_p1_numbers_cells : Nat) (g_exponents_cells : Ar) (v_prices_length : Int32) (g_prices_sums_cells : Ar) (g_skips_cells : Ar) (v_stream_length : Int32) (v_stream_start : Int32) (v_stream_next : Int32) (v_stream_exponent : Int32) (v_stream_number : Int32) (g_stream_cells_cells : Ar) (v_p1_length : Int32) (v_p1_blockSize : Int32) (v_p1_ones : Int32) (g_p1_numbers_cells : Ar) (i2 : Int32) (out : Ar × Ar × Int32 × Ar) (hF : F_X1_codeBlock g_exponents_cells g_prices_sums_cells g_skips_cells v_stream_length g_stream_cells_cells v_p1_length v_p1_blockSize v_p1_ones g_p1_numbers_cells i2 = some out) : zM l D cA yX1_codeBlock cX1_codeBlock 7 none 3 70 [.ref a_this, .ref a_p1, .int i2] (zw_11 cA 0 a_this a_this_prices a_this_stream a_this_exponents a_this_skips a_this_exponents_cells a_this_prices_sums a_this_prices_sums_cells a_this_skips_cells a_this_stream_cells a_this_stream_cells_cells a_p1 a_p1_numbers a_p1_numbers_cells g_exponents_cells v_prices_length g_prices_sums_cells g_skips_cells v_stream_length v_stream_start v_stream_next v_stream_exponent v_stream_number g_stream_cells_cells v_p1_length v_p1_blockSize v_p1_ones g_p1_numbers_cells) (zw_11 cA 0 a_this a_this_prices a_this_stream a_this_exponents a_this_skips a_this_exponents_cells a_this_prices_sums a_this_prices_sums_cells a_this_skips_cells a_this_stream_cells a_this_stream_cells_cells a_p1 a_p1_numbers a_p1_numbers_cells out.1 v_prices_length g_prices_sums_cells out.2.1 out.2.2.1 v_stream_start v_stream_next v_stream_exponent v_stream_number out.2.2.2 v_p1_length v_p1_blockSize v_p1_ones g_p1_numbers_cells) none := by
  refine z_body (by decide) (Nat.le_of_ble_eq_true rfl) ?_
  intro p e s m args below meth c ls H locs A X hl hw
  have hl : lv_has ls 7 [(0, .ref a_this), (1, .ref a_p1), (2, .int i2)] := hl
  unfold F_X1_codeBlock at hF
  refine z_aload_n 0 X dX1_codeBlock_0 hl 1 rfl ?_
  refine z_iload_n 1 X dX1_codeBlock_1 hl 2 rfl ?_
  obtain ⟨u1, e2, hF⟩ := zbd hF
  refine z_callV 2 zc5 mv_X5_firstOf ml_1_64 11 [11] (zw_11 cA 0 a_this a_this_prices a_this_stream a_this_exponents a_this_skips a_this_exponents_cells a_this_prices_sums a_this_prices_sums_cells a_this_skips_cells a_this_stream_cells a_this_stream_cells_cells a_p1 a_p1_numbers a_p1_numbers_cells g_exponents_cells v_prices_length g_prices_sums_cells g_skips_cells v_stream_length v_stream_start v_stream_next v_stream_exponent v_stream_number g_stream_cells_cells v_p1_length v_p1_blockSize v_p1_ones g_p1_numbers_cells) [] (m_X5_firstOf l D cA a_p1 a_p1_numbers v_p1_length v_p1_blockSize v_p1_ones i2 u1 e2) X dX1_codeBlock_2 hw hl rfl rfl rfl (by decide) rfl rfl rfl (Nat.le_of_ble_eq_true rfl) ⟨Nat.le_of_ble_eq_true rfl, Nat.le_of_ble_eq_true rfl⟩ ⟨Nat.zero_le _, Nat.zero_le _⟩ (fun H locs hw => ?_)
  refine z_istore_n 5 [(3, .int u1), (0, .ref a_this), (1, .ref a_p1), (2, .int i2)] X dX1_codeBlock_5 hl (by decide) rfl (fun ls hl => ?_)
  refine z_aload_n 6 X dX1_codeBlock_6 hl 2 rfl ?_
  refine z_iload_n 7 X dX1_codeBlock_7 hl 3 rfl ?_
  obtain ⟨u3, e4, hF⟩ := zbd hF
  refine z_callV 8 zc5 mv_X5_endOf ml_1_71 11 [11] (zw_11 cA 0 a_this a_this_prices a_this_stream a_this_exponents a_this_skips a_this_exponents_cells a_this_prices_sums a_this_prices_sums_cells a_this_skips_cells a_this_stream_cells a_this_stream_cells_cells a_p1 a_p1_numbers a_p1_numbers_cells g_exponents_cells v_prices_length g_prices_sums_cells g_skips_cells v_stream_length v_stream_start v_stream_next v_stream_exponent v_stream_number g_stream_cells_cells v_p1_length v_p1_blockSize v_p1_ones g_p1_numbers_cells) [] (m_X5_endOf l D cA a_p1 a_p1_numbers v_p1_length v_p1_blockSize v_p1_ones i2 u3 e4) X dX1_codeBlock_8 hw hl rfl rfl rfl (by decide) rfl rfl rfl (Nat.le_of_ble_eq_true rfl) ⟨Nat.le_of_ble_eq_true rfl, Nat.le_of_ble_eq_true rfl⟩ ⟨Nat.zero_le _, Nat.zero_le _⟩ (fun H locs hw => ?_)
  refine z_istore 11 [(4, .int u3), (3, .int u1), (0, .ref a_this), (1, .ref a_p1), (2, .int i2)] X dX1_codeBlock_11 hl (by decide) rfl (fun ls hl => ?_)
  refine z_aload_n 13 X dX1_codeBlock_13 hl 2 rfl ?_
  refine z_get 14 zc1 0 0 fl_1_12 X dX1_codeBlock_14 hw rfl (by decide) rfl ?_
  refine z_iload_n 17 X dX1_codeBlock_17 hl 1 rfl ?_
  refine z_iload 18 X dX1_codeBlock_18 hl 0 rfl ?_
  obtain ⟨u5, e6, hF⟩ := zbd hF
  refine z_callV 20 zc4 mv_X4_bestExponent ml_1_74 3 [3, 4, 5] (zw_11 cA 0 a_this a_this_prices a_this_stream a_this_exponents a_this_skips a_this_exponents_cells a_this_prices_sums a_this_prices_sums_cells a_this_skips_cells a_this_stream_cells a_this_stream_cells_cells a_p1 a_p1_numbers a_p1_numbers_cells g_exponents_cells v_prices_length g_prices_sums_cells g_skips_cells v_stream_length v_stream_start v_stream_next v_stream_exponent v_stream_number g_stream_cells_cells v_p1_length v_p1_blockSize v_p1_ones g_p1_numbers_cells) [] (m_X4_bestExponent l D cA a_this_prices a_this_prices_sums a_this_prices_sums_cells v_prices_length g_prices_sums_cells u1 u3 u5 e6) X dX1_codeBlock_20 hw hl rfl rfl rfl (by decide) rfl rfl rfl (Nat.le_of_ble_eq_true rfl) ⟨Nat.le_of_ble_eq_true rfl, Nat.le_of_ble_eq_true rfl⟩ ⟨Nat.zero_le _, Nat.zero_le _⟩ (fun H locs hw => ?_)
  refine z_istore 23 [(5, .int u5), (4, .int u3), (3, .int u1), (0, .ref a_this), (1, .ref a_p1), (2, .int i2)] X dX1_codeBlock_23 hl (by decide) rfl (fun ls hl => ?_)
  refine z_aload_n 25 X dX1_codeBlock_25 hl 3 rfl ?_
  refine z_get 26 zc1 0 2 fl_1_30 X dX1_codeBlock_26 hw rfl (by decide) rfl ?_
  refine z_iload_n 29 X dX1_codeBlock_29 hl 5 rfl ?_
  refine z_iload 30 X dX1_codeBlock_30 hl 0 rfl ?_
  obtain ⟨u7, e8, hF⟩ := zbd hF
  refine z_callV 32 zc0 mv_X0_write ml_1_78 1 [1, 2] (zw_11 cA 0 a_this a_this_prices a_this_stream a_this_exponents a_this_skips a_this_exponents_cells a_this_prices_sums a_this_prices_sums_cells a_this_skips_cells a_this_stream_cells a_this_stream_cells_cells a_p1 a_p1_numbers a_p1_numbers_cells u7 v_prices_length g_prices_sums_cells g_skips_cells v_stream_length v_stream_start v_stream_next v_stream_exponent v_stream_number g_stream_cells_cells v_p1_length v_p1_blockSize v_p1_ones g_p1_numbers_cells) [] (m_X0_write l D cA 64 a_this_exponents a_this_exponents_cells g_exponents_cells i2 u5 u7 e8) X dX1_codeBlock_32 hw hl rfl rfl rfl (by decide) rfl rfl rfl (Nat.le_of_ble_eq_true rfl) ⟨Nat.le_of_ble_eq_true rfl, Nat.le_of_ble_eq_true rfl⟩ ⟨Nat.zero_le _, Nat.zero_le _⟩ (fun H locs hw => ?_)
  refine z_aload_n 35 X dX1_codeBlock_35 hl 3 rfl ?_
  refine z_get 36 zc1 0 3 fl_1_34 X dX1_codeBlock_36 hw rfl (by decide) rfl ?_
  refine z_iload_n 39 X dX1_codeBlock_39 hl 5 rfl ?_
  refine z_aload_n 40 X dX1_codeBlock_40 hl 3 rfl ?_
  refine z_get 41 zc1 0 1 fl_1_21 X dX1_codeBlock_41 hw rfl (by decide) rfl ?_
  refine z_getN 44 zc7 8 1 fl_1_47 X dX1_codeBlock_44 hw rfl (by decide) rfl ?_
  obtain ⟨u9, e10, hF⟩ := zbd hF
  refine z_callV 47 zc0 mv_X0_write ml_1_78 6 [6, 7] (zw_11 cA 0 a_this a_this_prices a_this_stream a_this_exponents a_this_skips a_this_exponents_cells a_this_prices_sums a_this_prices_sums_cells a_this_skips_cells a_this_stream_cells a_this_stream_cells_cells a_p1 a_p1_numbers a_p1_numbers_cells u7 v_prices_length g_prices_sums_cells u9 v_stream_length v_stream_start v_stream_next v_stream_exponent v_stream_number g_stream_cells_cells v_p1_length v_p1_blockSize v_p1_ones g_p1_numbers_cells) [] (m_X0_write l D cA 64 a_this_skips a_this_skips_cells g_skips_cells i2 v_stream_length u9 e10) X dX1_codeBlock_47 hw hl rfl rfl rfl (by decide) rfl rfl rfl (Nat.le_of_ble_eq_true rfl) ⟨Nat.le_of_ble_eq_true rfl, Nat.le_of_ble_eq_true rfl⟩ ⟨Nat.zero_le _, Nat.zero_le _⟩ (fun H locs hw => ?_)
  refine z_aload_n 50 X dX1_codeBlock_50 hl 3 rfl ?_
  refine z_get 51 zc1 0 1 fl_1_21 X dX1_codeBlock_51 hw rfl (by decide) rfl ?_
  refine z_iload 54 X dX1_codeBlock_54 hl 0 rfl ?_
  refine z_iconst 56 4 X dX1_codeBlock_56 (by decide) ?_
  obtain ⟨u11, e12, hF⟩ := zbd hF
  refine z_callV 57 zc7 mv_X7_append ml_1_82 8 [8, 9, 10] (zw_11 cA 0 a_this a_this_prices a_this_stream a_this_exponents a_this_skips a_this_exponents_cells a_this_prices_sums a_this_prices_sums_cells a_this_skips_cells a_this_stream_cells a_this_stream_cells_cells a_p1 a_p1_numbers a_p1_numbers_cells u7 v_prices_length g_prices_sums_cells u9 u11.1 v_stream_start v_stream_next v_stream_exponent v_stream_number u11.2 v_p1_length v_p1_blockSize v_p1_ones g_p1_numbers_cells) [] (m_X7_append l D cA a_this_stream a_this_stream_cells a_this_stream_cells_cells v_stream_length v_stream_start v_stream_next v_stream_exponent v_stream_number g_stream_cells_cells u5 4 u11 e12) X dX1_codeBlock_57 hw hl rfl rfl rfl (by decide) rfl rfl rfl (Nat.le_of_ble_eq_true rfl) ⟨Nat.le_of_ble_eq_true rfl, Nat.le_of_ble_eq_true rfl⟩ ⟨Nat.zero_le _, Nat.zero_le _⟩ (fun H locs hw => ?_)
  refine z_iload_n 60 X dX1_codeBlock_60 hl 2 rfl ?_
  refine z_istore 61 [(6, .int u1), (5, .int u5), (4, .int u3), (3, .int u1), (0, .ref a_this), (1, .ref a_p1), (2, .int i2)] X dX1_codeBlock_61 hl (by decide) rfl (fun ls hl => ?_)
  refine l_X1_codeBlock_63 l D cA a_this a_this_prices a_this_stream a_this_exponents a_this_skips a_this_exponents_cells a_this_prices_sums a_this_prices_sums_cells a_this_skips_cells a_this_stream_cells a_this_stream_cells_cells a_p1 a_p1_numbers a_p1_numbers_cells u7 v_prices_length g_prices_sums_cells u9 v_stream_start v_stream_next v_stream_exponent v_stream_number v_p1_length v_p1_blockSize v_p1_ones g_p1_numbers_cells u3 u5 out X _ (fun v_stream_length_18 g_stream_cells_cells_19 H locs ls hw hl hF => ?_) zFuel u11.1 u11.2 u1 H locs ls hw (lv_sub hl [4, 5, 2, 1, 0] rfl) hF
  cases hF
  exact z_vret 95 X dX1_codeBlock_95 hw rfl rfl
theorem dX1_codeAnew_0 : decode cX1_codeAnew 0 = .ok (.aload_n 0, 1) := by decide +kernel
theorem dX1_codeAnew_1 : decode cX1_codeAnew 1 = .ok (.getfield 12, 3) := by decide +kernel
theorem dX1_codeAnew_4 : decode cX1_codeAnew 4 = .ok (.aload_n 1, 1) := by decide +kernel
theorem dX1_codeAnew_5 : decode cX1_codeAnew 5 = .ok (.aload_n 1, 1) := by decide +kernel
theorem dX1_codeAnew_6 : decode cX1_codeAnew 6 = .ok (.getfield 37, 3) := by decide +kernel
theorem dX1_codeAnew_9 : decode cX1_codeAnew 9 = .ok (.invokevirtual 43, 3) := by decide +kernel
theorem dX1_codeAnew_12 : decode cX1_codeAnew 12 = .ok (.aload_n 0, 1) := by decide +kernel
theorem dX1_codeAnew_13 : decode cX1_codeAnew 13 = .ok (.getfield 21, 3) := by decide +kernel
theorem dX1_codeAnew_16 : decode cX1_codeAnew 16 = .ok (.iconst 0, 1) := by decide +kernel
theorem dX1_codeAnew_17 : decode cX1_codeAnew 17 = .ok (.putfield 47, 3) := by decide +kernel
theorem dX1_codeAnew_20 : decode cX1_codeAnew 20 = .ok (.iconst 0, 1) := by decide +kernel
theorem dX1_codeAnew_21 : decode cX1_codeAnew 21 = .ok (.istore_n 2, 1) := by decide +kernel
theorem dX1_codeAnew_22 : decode cX1_codeAnew 22 = .ok (.iload_n 2, 1) := by decide +kernel
theorem dX1_codeAnew_23 : decode cX1_codeAnew 23 = .ok (.aload_n 1, 1) := by decide +kernel
theorem dX1_codeAnew_24 : decode cX1_codeAnew 24 = .ok (.invokevirtual 50, 3) := by decide +kernel
theorem dX1_codeAnew_27 : decode cX1_codeAnew 27 = .ok (.if_icmp .ge 15, 3) := by decide +kernel
theorem dX1_codeAnew_30 : decode cX1_codeAnew 30 = .ok (.aload_n 0, 1) := by decide +kernel
theorem dX1_codeAnew_31 : decode cX1_codeAnew 31 = .ok (.aload_n 1, 1) := by decide +kernel
theorem dX1_codeAnew_32 : decode cX1_codeAnew 32 = .ok (.iload_n 2, 1) := by decide +kernel
theorem dX1_codeAnew_33 : decode cX1_codeAnew 33 = .ok (.invokevirtual 54, 3) := by decide +kernel
theorem dX1_codeAnew_36 : decode cX1_codeAnew 36 = .ok (.iinc 2 1, 3) := by decide +kernel
theorem dX1_codeAnew_39 : decode cX1_codeAnew 39 = .ok (.goto (-17), 3) := by decide +kernel
theorem dX1_codeAnew_42 : decode cX1_codeAnew 42 = .ok (.return_, 1) := by decide +kernel
set_option maxHeartbeats 4000000 in
set_option maxRecDepth 100000 in
theorem l_X1_codeAnew_22 (l : Launch) (D : va_G) (cA : ClassId) (a_this a_this_prices a_this_stream a_this_exponents a_this_skips a_this_exponents_cells a_this_prices_sums a_this_prices_sums_cells a_this_skips_cells a_this_stream_cells a_this_stream_cells_cells a_p1 a_p1_numbers a_p1_numbers_cells : Nat) (v_prices_length : Int32) (g_prices_sums_cells : Ar) (v_stream_start : Int32) (v_stream_next : Int32) (v_stream_exponent : Int32) (v_stream_number : Int32) (v_p1_length : Int32) (v_p1_blockSize : Int32) (v_p1_ones : Int32) (g_p1_numbers_cells : Ar) (out : Ar × Int32 × Ar × Ar × Int32 × Ar) {p : Program} {e : Env} {s : State} {m : MethodId} {args : Array Value} {below : List Frame} {meth : Method} {c : Code} {A : Nat → Prop} (X : zX D cA p s m args meth c cX1_codeAnew 3 RX1 none) (k : Ar → Ar → Int32 → Ar → Option (Ar × Int32 × Ar × Ar × Int32 × Ar)) (hk : ∀ (g_exponents_cells : Ar) (g_skips_cells : Ar) (v_stream_length : Int32) (g_stream_cells_cells : Ar) (H : Heap) (locs : List Loc) (ls : Array Slot), zH D A s (zw_11 cA 0 a_this a_this_prices a_this_stream a_this_exponents a_this_skips a_this_exponents_cells a_this_prices_sums a_this_prices_sums_cells a_this_skips_cells a_this_stream_cells a_this_stream_cells_cells a_p1 a_p1_numbers a_p1_numbers_cells g_exponents_cells v_prices_length g_prices_sums_cells g_skips_cells v_stream_length v_stream_start v_stream_next v_stream_exponent v_stream_number g_stream_cells_cells v_p1_length v_p1_blockSize v_p1_ones g_p1_numbers_cells) H locs → lv_has ls 3 [] → k g_exponents_cells g_skips_cells v_stream_length g_stream_cells_cells = some out → W p l e (zR 4 96) s m args below meth c H locs 0 0 (MQ below (zQ D (zw_11 cA 0 a_this a_this_prices a_this_stream a_this_exponents a_this_skips a_this_exponents_cells a_this_prices_sums a_this_prices_sums_cells a_this_skips_cells a_this_stream_cells a_this_stream_cells_cells a_p1 a_p1_numbers a_p1_numbers_cells out.1 out.2.1 out.2.2.1 out.2.2.2.1 out.2.2.2.2.1 v_stream_start v_stream_next v_stream_exponent v_stream_number out.2.2.2.2.2 v_p1_length v_p1_blockSize v_p1_ones g_p1_numbers_cells) none A) args s 0 0 A) (F0 m 42 ls [])) :
    ∀ (fuel : Nat) (g_exponents_cells : Ar) (g_skips_cells : Ar) (v_stream_length : Int32) (g_stream_cells_cells : Ar) (i2 : Int32) (H : Heap) (locs : List Loc) (ls : Array Slot), zH D A s (zw_11 cA 0 a_this a_this_prices a_this_stream a_this_exponents a_this_skips a_this_exponents_cells a_this_prices_sums a_this_prices_sums_cells a_this_skips_cells a_this_stream_cells a_this_stream_cells_cells a_p1 a_p1_numbers a_p1_numbers_cells g_exponents_cells v_prices_length g_prices_sums_cells g_skips_cells v_stream_length v_stream_start v_stream_next v_stream_exponent v_stream_number g_stream_cells_cells v_p1_length v_p1_blockSize v_p1_ones g_p1_numbers_cells) H locs → lv_has ls 3 [(0, .ref a_this), (1, .ref a_p1), (2, .int i2)] → F_X1_codeAnew_L22 g_prices_sums_cells v_p1_length v_p1_blockSize v_p1_ones g_p1_numbers_cells k fuel g_exponents_cells g_skips_cells v_stream_length g_stream_cells_cells i2 = some out → W p l e (zR 4 96) s m args below meth c H locs 0 0 (MQ below (zQ D (zw_11 cA 0 a_this a_this_prices a_this_stream a_this_exponents a_this_skips a_this_exponents_cells a_this_prices_sums a_this_prices_sums_cells a_this_skips_cells a_this_stream_cells a_this_stream_cells_cells a_p1 a_p1_numbers a_p1_numbers_cells out.1 out.2.1 out.2.2.1 out.2.2.2.1 out.2.2.2.2.1 v_stream_start v_stream_next v_stream_exponent v_stream_number out.2.2.2.2.2 v_p1_length v_p1_blockSize v_p1_ones g_p1_numbers_cells) none A) args s 0 0 A) (F0 m 22 ls []) := by
  intro fuel
  induction fuel with
  | zero => intro g_exponents_cells g_skips_cells v_stream_length g_stream_cells_cells i2 H locs ls hw hl hF; exact nomatch (show (none : Option (Ar × Int32 × Ar × Ar × Int32 × Ar)) = some out from hF)
  | succ fuel ih =>
    intro g_exponents_cells g_skips_cells v_stream_length g_stream_cells_cells i2 H locs ls hw hl hF
    rw [F_X1_codeAnew_L22] at hF
    refine z_iload_n 22 X dX1_codeAnew_22 hl 2 rfl ?_
    refine z_aload_n 23 X dX1_codeAnew_23 hl 1 rfl ?_
    obtain ⟨u3, e4, hF⟩ := zbd hF
    refine z_callV 24 zc5 mv_X5_blocks ml_1_50 11 [11] (zw_11 cA 0 a_this a_this_prices a_this_stream a_this_exponents a_this_skips a_this_exponents_cells a_this_prices_sums a_this_prices_sums_cells a_this_skips_cells a_this_stream_cells a_this_stream_cells_cells a_p1 a_p1_numbers a_p1_numbers_cells g_exponents_cells v_prices_length g_prices_sums_cells g_skips_cells v_stream_length v_stream_start v_stream_next v_stream_exponent v_stream_number g_stream_cells_cells v_p1_length v_p1_blockSize v_p1_ones g_p1_numbers_cells) [.int i2] (m_X5_blocks l D cA a_p1 a_p1_numbers v_p1_length v_p1_blockSize v_p1_ones u3 e4) X dX1_codeAnew_24 hw hl rfl rfl rfl (by decide) rfl rfl rfl (Nat.le_of_ble_eq_true rfl) ⟨Nat.le_of_ble_eq_true rfl, Nat.le_of_ble_eq_true rfl⟩ ⟨Nat.zero_le _, Nat.zero_le _⟩ (fun H locs hw => ?_)
    refine z_icmp_ge 27 42 X dX1_codeAnew_27 (by decide) (fun c5 => ?_) (fun c5 => ?_)
    · replace hF := zpos c5 hF
      exact hk g_exponents_cells g_skips_cells v_stream_length g_stream_cells_cells H locs ls hw (lv_sub hl [] rfl) hF
    · replace hF := zneg c5 hF
      refine z_aload_n 30 X dX1_codeAnew_30 hl 0 rfl ?_
      refine z_aload_n 31 X dX1_codeAnew_31 hl 1 rfl ?_
      refine z_iload_n 32 X dX1_codeAnew_32 hl 2 rfl ?_
      obtain ⟨u6, e7, hF⟩ := zbd hF
      refine z_callV 33 zc1 mv_X1_codeBlock ml_1_54 0 [0, 1, 2, 3, 4, 5, 6, 7, 8, 9, 10, 11, 12, 13] (zw_11 cA 0 a_this a_this_prices a_this_stream a_this_exponents a_this_skips a_this_exponents_cells a_this_prices_sums a_this_prices_sums_cells a_this_skips_cells a_this_stream_cells a_this_stream_cells_cells a_p1 a_p1_numbers a_p1_numbers_cells u6.1 v_prices_length g_prices_sums_cells u6.2.1 u6.2.2.1 v_stream_start v_stream_next v_stream_exponent v_stream_number u6.2.2.2 v_p1_length v_p1_blockSize v_p1_ones g_p1_numbers_cells) [] (m_X1_codeBlock l D cA a_this a_this_prices a_this_stream a_this_exponents a_this_skips a_this_exponents_cells a_this_prices_sums a_this_prices_sums_cells a_this_skips_cells a_this_stream_cells a_this_stream_cells_cells a_p1 a_p1_numbers a_p1_numbers_cells g_exponents_cells v_prices_length g_prices_sums_cells g_skips_cells v_stream_length v_stream_start v_stream_next v_stream_exponent v_stream_number g_stream_cells_cells v_p1_length v_p1_blockSize v_p1_ones g_p1_numbers_cells i2 u6 e7) X dX1_codeAnew_33 hw hl rfl rfl rfl (by decide) rfl rfl rfl (Nat.le_of_ble_eq_true rfl) ⟨Nat.le_of_ble_eq_true rfl, Nat.le_of_ble_eq_true rfl⟩ ⟨Nat.zero_le _, Nat.zero_le _⟩ (fun H locs hw => ?_)
      refine z_iinc2 36 1 [(2, .int (i2 + 1)), (0, .ref a_this), (1, .ref a_p1)] X dX1_codeAnew_36 hl 2 rfl (by decide) (by decide) rfl (fun ls hl => ?_)
      refine z_goto 39 22 X dX1_codeAnew_39 (by decide) ?_
      exact ih u6.1 u6.2.1 u6.2.2.1 u6.2.2.2 (i2 + 1) H locs ls hw (lv_sub hl [1, 2, 0] rfl) hF
set_option maxHeartbeats 4000000 in
set_option maxRecDepth 100000 in
theorem m_X1_codeAnew (l : Launch) (D : va_G) (cA : ClassId) (a_this a_this_prices a_this_stream a_this_exponents a_this_skips a_this_exponents_cells a_this_prices_sums a_this_prices_sums_cells a_this_skips_cells a_this_stream_cells a_this_stream_cells_cells a_p1 a_p1_numbers a_p1_numbers_cells : Nat) (g_exponents_cells : Ar) (v_prices_length : Int32) (g_prices_sums_cells : Ar) (g_skips_cells : Ar) (v_stream_length : Int32) (v_stream_start : Int32) (v_stream_next : Int32) (v_stream_exponent : Int32) (v_stream_number : Int32) (g_stream_cells_cells : Ar) (v_p1_length : Int32) (v_p1_blockSize : Int32) (v_p1_ones : Int32) (g_p1_numbers_cells : Ar) (out : Ar × Int32 × Ar × Ar × Int32 × Ar) (hF : F_X1_codeAnew g_exponents_cells v_prices_length g_prices_sums_cells g_skips_cells v_stream_length g_stream_cells_cells v_p1_length v_p1_blockSize v_p1_ones g_p1_numbers_cells = some out) : zM l D cA yX1_codeAnew cX1_codeAnew 3 none 4 96 [.ref a_this, .ref a_p1] (zw_11 cA 0 a_this a_this_prices a_this_stream a_this_exponents a_this_skips a_this_exponents_cells a_this_prices_sums a_this_prices_sums_cells a_this_skips_cells a_this_stream_cells a_this_stream_cells_cells a_p1 a_p1_numbers a_p1_numbers_cells g_exponents_cells v_prices_length g_prices_sums_cells g_skips_cells v_stream_length v_stream_start v_stream_next v_stream_exponent v_stream_number g_stream_cells_cells v_p1_length v_p1_blockSize v_p1_ones g_p1_numbers_cells) (zw_11 cA 0 a_this a_this_prices a_this_stream a_this_exponents a_this_skips a_this_exponents_cells a_this_prices_sums a_this_prices_sums_cells a_this_skips_cells a_this_stream_cells a_this_stream_cells_cells a_p1 a_p1_numbers a_p1_numbers_cells out.1 out.2.1 out.2.2.1 out.2.2.2.1 out.2.2.2.2.1 v_stream_start v_stream_next v_stream_exponent v_stream_number out.2.2.2.2.2 v_p1_length v_p1_blockSize v_p1_ones g_p1_numbers_cells) none := by
  refine z_body (by decide) (Nat.le_of_ble_eq_true rfl) ?_
  intro p e s m args below meth c ls H locs A X hl hw
  have hl : lv_has ls 3 [(0, .ref a_this), (1, .ref a_p1)] := hl
  unfold F_X1_codeAnew at hF
  refine z_aload_n 0 X dX1_codeAnew_0 hl 0 rfl ?_
  refine z_get 1 zc1 0 0 fl_1_12 X dX1_codeAnew_1 hw rfl (by decide) rfl ?_
  refine z_aload_n 4 X dX1_codeAnew_4 hl 1 rfl ?_
  refine z_aload_n 5 X dX1_codeAnew_5 hl 1 rfl ?_
  refine z_getN 6 zc5 11 3 fl_1_37 X dX1_codeAnew_6 hw rfl (by decide) rfl ?_
  obtain ⟨u1, e2, hF⟩ := zbd hF
  refine z_callV 9 zc4 mv_X4_fill ml_1_43 3 [3, 4, 5, 11, 12, 13] (zw_11 cA 0 a_this a_this_prices a_this_stream a_this_exponents a_this_skips a_this_exponents_cells a_this_prices_sums a_this_prices_sums_cells a_this_skips_cells a_this_stream_cells a_this_stream_cells_cells a_p1 a_p1_numbers a_p1_numbers_cells g_exponents_cells u1.1 u1.2 g_skips_cells v_stream_length v_stream_start v_stream_next v_stream_exponent v_stream_number g_stream_cells_cells v_p1_length v_p1_blockSize v_p1_ones g_p1_numbers_cells) [] (m_X4_fill l D cA a_this_prices a_this_prices_sums a_this_prices_sums_cells a_p1 a_p1_numbers a_p1_numbers_cells v_prices_length g_prices_sums_cells v_p1_length v_p1_blockSize v_p1_ones g_p1_numbers_cells v_p1_ones u1 e2) X dX1_codeAnew_9 hw hl rfl rfl rfl (by decide) rfl rfl rfl (Nat.le_of_ble_eq_true rfl) ⟨Nat.le_of_ble_eq_true rfl, Nat.le_of_ble_eq_true rfl⟩ ⟨Nat.zero_le _, Nat.zero_le _⟩ (fun H locs hw => ?_)
  refine z_aload_n 12 X dX1_codeAnew_12 hl 0 rfl ?_
  refine z_get 13 zc1 0 1 fl_1_21 X dX1_codeAnew_13 hw rfl (by decide) rfl ?_
  refine z_iconst 16 0 X dX1_codeAnew_16 (by decide) ?_
  refine z_putN 17 zc7 8 1 (zw_11 cA 0 a_this a_this_prices a_this_stream a_this_exponents a_this_skips a_this_exponents_cells a_this_prices_sums a_this_prices_sums_cells a_this_skips_cells a_this_stream_cells a_this_stream_cells_cells a_p1 a_p1_numbers a_p1_numbers_cells g_exponents_cells u1.1 u1.2 g_skips_cells 0 v_stream_start v_stream_next v_stream_exponent v_stream_number g_stream_cells_cells v_p1_length v_p1_blockSize v_p1_ones g_p1_numbers_cells) fl_1_47 X dX1_codeAnew_17 hw rfl (by decide) rfl rfl rfl (Nat.le_of_ble_eq_true rfl) rfl (fun H locs hw => ?_)
  refine z_iconst 20 0 X dX1_codeAnew_20 (by decide) ?_
  refine z_istore_n 21 [(2, .int 0), (0, .ref a_this), (1, .ref a_p1)] X dX1_codeAnew_21 hl (by decide) rfl (fun ls hl => ?_)
  refine l_X1_codeAnew_22 l D cA a_this a_this_prices a_this_stream a_this_exponents a_this_skips a_this_exponents_cells a_this_prices_sums a_this_prices_sums_cells a_this_skips_cells a_this_stream_cells a_this_stream_cells_cells a_p1 a_p1_numbers a_p1_numbers_cells u1.1 u1.2 v_stream_start v_stream_next v_stream_exponent v_stream_number v_p1_length v_p1_blockSize v_p1_ones g_p1_numbers_cells out X _ (fun g_exponents_cells_8 g_skips_cells_9 v_stream_length_10 g_stream_cells_cells_11 H locs ls hw hl hF => ?_) zFuel g_exponents_cells g_skips_cells 0 g_stream_cells_cells 0 H locs ls hw (lv_sub hl [1, 2, 0] rfl) hF
  cases hF
  exact z_vret 42 X dX1_codeAnew_42 hw rfl rfl
theorem dX4_blockBits_0 : decode cX4_blockBits 0 = .ok (.iconst 4, 1) := by decide +kernel
theorem dX4_blockBits_1 : decode cX4_blockBits 1 = .ok (.aload_n 0, 1) := by decide +kernel
theorem dX4_blockBits_2 : decode cX4_blockBits 2 = .ok (.iload_n 1, 1) := by decide +kernel
theorem dX4_blockBits_3 : decode cX4_blockBits 3 = .ok (.iload_n 2, 1) := by decide +kernel
theorem dX4_blockBits_4 : decode cX4_blockBits 4 = .ok (.iload_n 3, 1) := by decide +kernel
theorem dX4_blockBits_5 : decode cX4_blockBits 5 = .ok (.invokevirtual 42, 3) := by decide +kernel
theorem dX4_blockBits_8 : decode cX4_blockBits 8 = .ok (.iadd, 1) := by decide +kernel
theorem dX4_blockBits_9 : decode cX4_blockBits 9 = .ok (.ireturn, 1) := by decide +kernel
set_option maxHeartbeats 4000000 in
set_option maxRecDepth 100000 in
theorem m_X4_blockBits (l : Launch) (D : va_G) (cA : ClassId) (a_this a_this_sums a_this_sums_cells : Nat) (v_length : Int32) (g_sums_cells : Ar) (i1 : Int32) (i2 : Int32) (i3 : Int32) (out : Int32) (hF : F_X4_blockBits g_sums_cells i1 i2 i3 = some out) : zM l D cA yX4_blockBits cX4_blockBits 4 (some .int) 2 44 [.ref a_this, .int i1, .int i2, .int i3] (zw_9 cA 0 a_this a_this_sums a_this_sums_cells v_length g_sums_cells) (zw_9 cA 0 a_this a_this_sums a_this_sums_cells v_length g_sums_cells) (some (.int out)) := by
  refine z_body (by decide) (Nat.le_of_ble_eq_true rfl) ?_
  intro p e s m args below meth c ls H locs A X hl hw
  have hl : lv_has ls 4 [(0, .ref a_this), (1, .int i1), (2, .int i2), (3, .int i3)] := hl
  unfold F_X4_blockBits at hF
  refine z_iconst 0 4 X dX4_blockBits_0 (by decide) ?_
  refine z_aload_n 1 X dX4_blockBits_1 hl 0 rfl ?_
  refine z_iload_n 2 X dX4_blockBits_2 hl 1 rfl ?_
  refine z_iload_n 3 X dX4_blockBits_3 hl 2 rfl ?_
  refine z_iload_n 4 X dX4_blockBits_4 hl 3 rfl ?_
  obtain ⟨u1, e2, hF⟩ := zbd hF
  refine z_callV 5 zc4 mv_X4_codesBits ml_4_42 0 [0, 1, 2] (zw_9 cA 0 a_this a_this_sums a_this_sums_cells v_length g_sums_cells) [.int 4] (m_X4_codesBits l D cA a_this a_this_sums a_this_sums_cells v_length g_sums_cells i1 i2 i3 u1 e2) X dX4_blockBits_5 hw hl rfl rfl rfl (by decide) rfl rfl rfl (Nat.le_of_ble_eq_true rfl) ⟨Nat.le_of_ble_eq_true rfl, Nat.le_of_ble_eq_true rfl⟩ ⟨Nat.zero_le _, Nat.zero_le _⟩ (fun H locs hw => ?_)
  refine z_iadd 8 X dX4_blockBits_8 ?_
  cases hF
  exact z_iret 9 X dX4_blockBits_9 hw rfl rfl
theorem dX1_codeStart_0 : decode cX1_codeStart 0 = .ok (.aload_n 1, 1) := by decide +kernel
theorem dX1_codeStart_1 : decode cX1_codeStart 1 = .ok (.iload_n 2, 1) := by decide +kernel
theorem dX1_codeStart_2 : decode cX1_codeStart 2 = .ok (.invokevirtual 57, 3) := by decide +kernel
theorem dX1_codeStart_5 : decode cX1_codeStart 5 = .ok (.istore_n 3, 1) := by decide +kernel
theorem dX1_codeStart_6 : decode cX1_codeStart 6 = .ok (.aload_n 0, 1) := by decide +kernel
theorem dX1_codeStart_7 : decode cX1_codeStart 7 = .ok (.getfield 12, 3) := by decide +kernel
theorem dX1_codeStart_10 : decode cX1_codeStart 10 = .ok (.aload_n 0, 1) := by decide +kernel
theorem dX1_codeStart_11 : decode cX1_codeStart 11 = .ok (.getfield 30, 3) := by decide +kernel
theorem dX1_codeStart_14 : decode cX1_codeStart 14 = .ok (.iload_n 3, 1) := by decide +kernel
theorem dX1_codeStart_15 : decode cX1_codeStart 15 = .ok (.invokevirtual 61, 3) := by decide +kernel
theorem dX1_codeStart_18 : decode cX1_codeStart 18 = .ok (.aload_n 1, 1) := by decide +kernel
theorem dX1_codeStart_19 : decode cX1_codeStart 19 = .ok (.iload_n 3, 1) := by decide +kernel
theorem dX1_codeStart_20 : decode cX1_codeStart 20 = .ok (.invokevirtual 64, 3) := by decide +kernel
theorem dX1_codeStart_23 : decode cX1_codeStart 23 = .ok (.iload_n 2, 1) := by decide +kernel
theorem dX1_codeStart_24 : decode cX1_codeStart 24 = .ok (.invokevirtual 67, 3) := by decide +kernel
theorem dX1_codeStart_27 : decode cX1_codeStart 27 = .ok (.istore 4, 2) := by decide +kernel
theorem dX1_codeStart_29 : decode cX1_codeStart 29 = .ok (.aload_n 0, 1) := by decide +kernel
theorem dX1_codeStart_30 : decode cX1_codeStart 30 = .ok (.getfield 34, 3) := by decide +kernel
theorem dX1_codeStart_33 : decode cX1_codeStart 33 = .ok (.iload_n 3, 1) := by decide +kernel
theorem dX1_codeStart_34 : decode cX1_codeStart 34 = .ok (.invokevirtual 61, 3) := by decide +kernel
theorem dX1_codeStart_37 : decode cX1_codeStart 37 = .ok (.iload 4, 2) := by decide +kernel
theorem dX1_codeStart_39 : decode cX1_codeStart 39 = .ok (.iadd, 1) := by decide +kernel
theorem dX1_codeStart_40 : decode cX1_codeStart 40 = .ok (.ireturn, 1) := by decide +kernel
set_option maxHeartbeats 4000000 in
set_option maxRecDepth 100000 in
theorem m_X1_codeStart (l : Launch) (D : va_G) (cA : ClassId) (a_this a_this_prices a_this_stream a_this_exponents a_this_skips a_this_exponents_cells a_this_prices_sums a_this_prices_sums_cells a_this_skips_cells a_p1 a_p1_numbers : Nat) (g_exponents_cells : Ar) (v_prices_length : Int32) (g_prices_sums_cells : Ar) (g_skips_cells : Ar) (v_p1_length : Int32) (v_p1_blockSize : Int32) (v_p1_ones : Int32) (i2 : Int32) (out : Int32) (hF : F_X1_codeStart g_exponents_cells g_prices_sums_cells g_skips_cells v_p1_blockSize i2 = some out) : zM l D cA yX1_codeStart cX1_codeStart 5 (some .int) 3 67 [.ref a_this, .ref a_p1, .int i2] (zw_15 cA 0 a_this a_this_prices a_this_stream a_this_exponents a_this_skips a_this_exponents_cells a_this_prices_sums a_this_prices_sums_cells a_this_skips_cells a_p1 a_p1_numbers g_exponents_cells v_prices_length g_prices_sums_cells g_skips_cells v_p1_length v_p1_blockSize v_p1_ones) (zw_15 cA 0 a_this a_this_prices a_this_stream a_this_exponents a_this_skips a_this_exponents_cells a_this_prices_sums a_this_prices_sums_cells a_this_skips_cells a_p1 a_p1_numbers g_exponents_cells v_prices_length g_prices_sums_cells g_skips_cells v_p1_length v_p1_blockSize v_p1_ones) (some (.int out)) := by
  refine z_body (by decide) (Nat.le_of_ble_eq_true rfl) ?_
  intro p e s m args below meth c ls H locs A X hl hw
  have hl : lv_has ls 5 [(0, .ref a_this), (1, .ref a_p1), (2, .int i2)] := hl
  unfold F_X1_codeStart at hF
  refine z_aload_n 0 X dX1_codeStart_0 hl 1 rfl ?_
  refine z_iload_n 1 X dX1_codeStart_1 hl 2 rfl ?_
  obtain ⟨u1, e2, hF⟩ := zbd hF
  refine z_callV 2 zc5 mv_X5_blockOf ml_1_57 8 [8] (zw_15 cA 0 a_this a_this_prices a_this_stream a_this_exponents a_this_skips a_this_exponents_cells a_this_prices_sums a_this_prices_sums_cells a_this_skips_cells a_p1 a_p1_numbers g_exponents_cells v_prices_length g_prices_sums_cells g_skips_cells v_p1_length v_p1_blockSize v_p1_ones) [] (m_X5_blockOf l D cA a_p1 a_p1_numbers v_p1_length v_p1_blockSize v_p1_ones i2 u1 e2) X dX1_codeStart_2 hw hl rfl rfl rfl (by decide) rfl rfl rfl (Nat.le_of_ble_eq_true rfl) ⟨Nat.le_of_ble_eq_true rfl, Nat.le_of_ble_eq_true rfl⟩ ⟨Nat.zero_le _, Nat.zero_le _⟩ (fun H locs hw => ?_)
  refine z_istore_n 5 [(3, .int u1), (0, .ref a_this), (1, .ref a_p1), (2, .int i2)] X dX1_codeStart_5 hl (by decide) rfl (fun ls hl => ?_)
  refine z_aload_n 6 X dX1_codeStart_6 hl 1 rfl ?_
  refine z_get 7 zc1 0 0 fl_1_12 X dX1_codeStart_7 hw rfl (by decide) rfl ?_
  refine z_aload_n 10 X dX1_codeStart_10 hl 1 rfl ?_
  refine z_get 11 zc1 0 2 fl_1_30 X dX1_codeStart_11 hw rfl (by decide) rfl ?_
  refine z_iload_n 14 X dX1_codeStart_14 hl 0 rfl ?_
  obtain ⟨u3, e4, hF⟩ := zbd hF
  refine z_callV 15 zc0 mv_X0_read ml_1_61 1 [1, 2] (zw_15 cA 0 a_this a_this_prices a_this_stream a_this_exponents a_this_skips a_this_exponents_cells a_this_prices_sums a_this_prices_sums_cells a_this_skips_cells a_p1 a_p1_numbers g_exponents_cells v_prices_length g_prices_sums_cells g_skips_cells v_p1_length v_p1_blockSize v_p1_ones) [.ref a_this_prices] (m_X0_read l D cA 64 a_this_exponents a_this_exponents_cells g_exponents_cells u1 u3 e4) X dX1_codeStart_15 hw hl rfl rfl rfl (by decide) rfl rfl rfl (Nat.le_of_ble_eq_true rfl) ⟨Nat.le_of_ble_eq_true rfl, Nat.le_of_ble_eq_true rfl⟩ ⟨Nat.zero_le _, Nat.zero_le _⟩ (fun H locs hw => ?_)
  refine z_aload_n 18 X dX1_codeStart_18 hl 2 rfl ?_
  refine z_iload_n 19 X dX1_codeStart_19 hl 0 rfl ?_
  obtain ⟨u5, e6, hF⟩ := zbd hF
  refine z_callV 20 zc5 mv_X5_firstOf ml_1_64 8 [8] (zw_15 cA 0 a_this a_this_prices a_this_stream a_this_exponents a_this_skips a_this_exponents_cells a_this_prices_sums a_this_prices_sums_cells a_this_skips_cells a_p1 a_p1_numbers g_exponents_cells v_prices_length g_prices_sums_cells g_skips_cells v_p1_length v_p1_blockSize v_p1_ones) [.int u3, .ref a_this_prices] (m_X5_firstOf l D cA a_p1 a_p1_numbers v_p1_length v_p1_blockSize v_p1_ones u1 u5 e6) X dX1_codeStart_20 hw hl rfl rfl rfl (by decide) rfl rfl rfl (Nat.le_of_ble_eq_true rfl) ⟨Nat.le_of_ble_eq_true rfl, Nat.le_of_ble_eq_true rfl⟩ ⟨Nat.zero_le _, Nat.zero_le _⟩ (fun H locs hw => ?_)
  refine z_iload_n 23 X dX1_codeStart_23 hl 3 rfl ?_
  obtain ⟨u7, e8, hF⟩ := zbd hF
  refine z_callV 24 zc4 mv_X4_blockBits ml_1_67 3 [3, 4, 5] (zw_15 cA 0 a_this a_this_prices a_this_stream a_this_exponents a_this_skips a_this_exponents_cells a_this_prices_sums a_this_prices_sums_cells a_this_skips_cells a_p1 a_p1_numbers g_exponents_cells v_prices_length g_prices_sums_cells g_skips_cells v_p1_length v_p1_blockSize v_p1_ones) [] (m_X4_blockBits l D cA a_this_prices a_this_prices_sums a_this_prices_sums_cells v_prices_length g_prices_sums_cells u3 u5 i2 u7 e8) X dX1_codeStart_24 hw hl rfl rfl rfl (by decide) rfl rfl rfl (Nat.le_of_ble_eq_true rfl) ⟨Nat.le_of_ble_eq_true rfl, Nat.le_of_ble_eq_true rfl⟩ ⟨Nat.zero_le _, Nat.zero_le _⟩ (fun H locs hw => ?_)
  refine z_istore 27 [(4, .int u7), (3, .int u1), (0, .ref a_this), (1, .ref a_p1), (2, .int i2)] X dX1_codeStart_27 hl (by decide) rfl (fun ls hl => ?_)
  refine z_aload_n 29 X dX1_codeStart_29 hl 2 rfl ?_
  refine z_get 30 zc1 0 3 fl_1_34 X dX1_codeStart_30 hw rfl (by decide) rfl ?_
  refine z_iload_n 33 X dX1_codeStart_33 hl 1 rfl ?_
  obtain ⟨u9, e10, hF⟩ := zbd hF
  refine z_callV 34 zc0 mv_X0_read ml_1_61 6 [6, 7] (zw_15 cA 0 a_this a_this_prices a_this_stream a_this_exponents a_this_skips a_this_exponents_cells a_this_prices_sums a_this_prices_sums_cells a_this_skips_cells a_p1 a_p1_numbers g_exponents_cells v_prices_length g_prices_sums_cells g_skips_cells v_p1_length v_p1_blockSize v_p1_ones) [] (m_X0_read l D cA 64 a_this_skips a_this_skips_cells g_skips_cells u1 u9 e10) X dX1_codeStart_34 hw hl rfl rfl rfl (by decide) rfl rfl rfl (Nat.le_of_ble_eq_true rfl) ⟨Nat.le_of_ble_eq_true rfl, Nat.le_of_ble_eq_true rfl⟩ ⟨Nat.zero_le _, Nat.zero_le _⟩ (fun H locs hw => ?_)
  refine z_iload 37 X dX1_codeStart_37 hl 0 rfl ?_
  refine z_iadd 39 X dX1_codeStart_39 ?_
  cases hF
  exact z_iret 40 X dX1_codeStart_40 hw rfl rfl
theorem dX7_hasPlace_0 : decode cX7_hasPlace 0 = .ok (.iload_n 1, 1) := by decide +kernel
theorem dX7_hasPlace_1 : decode cX7_hasPlace 1 = .ok (.ifCond .lt 15, 3) := by decide +kernel
theorem dX7_hasPlace_4 : decode cX7_hasPlace 4 = .ok (.iload_n 1, 1) := by decide +kernel
theorem dX7_hasPlace_5 : decode cX7_hasPlace 5 = .ok (.aload_n 0, 1) := by decide +kernel
theorem dX7_hasPlace_6 : decode cX7_hasPlace 6 = .ok (.getfield 20, 3) := by decide +kernel
theorem dX7_hasPlace_9 : decode cX7_hasPlace 9 = .ok (.if_icmp .ge 7, 3) := by decide +kernel
theorem dX7_hasPlace_12 : decode cX7_hasPlace 12 = .ok (.iconst 1, 1) := by decide +kernel
theorem dX7_hasPlace_13 : decode cX7_hasPlace 13 = .ok (.goto 4, 3) := by decide +kernel
theorem dX7_hasPlace_16 : decode cX7_hasPlace 16 = .ok (.iconst 0, 1) := by decide +kernel
theorem dX7_hasPlace_17 : decode cX7_hasPlace 17 = .ok (.ireturn, 1) := by decide +kernel
set_option maxHeartbeats 4000000 in
set_option maxRecDepth 100000 in
theorem m_X7_hasPlace (l : Launch) (D : va_G) (cA : ClassId) (a_this a_this_cells : Nat) (v_length : Int32) (v_start : Int32) (v_next : Int32) (v_exponent : Int32) (v_number : Int32) (i1 : Int32) (out : Int32) (hF : F_X7_hasPlace v_length i1 = some out) : zM l D cA yX7_hasPlace cX7_hasPlace 2 (some .boolean) 0 0 [.ref a_this, .int i1] (zw_17 cA 0 a_this a_this_cells v_length v_start v_next v_exponent v_number) (zw_17 cA 0 a_this a_this_cells v_length v_start v_next v_exponent v_number) (some (.int out)) := by
  refine z_body (by decide) (Nat.le_of_ble_eq_true rfl) ?_
  intro p e s m args below meth c ls H locs A X hl hw
  have hl : lv_has ls 2 [(0, .ref a_this), (1, .int i1)] := hl
  unfold F_X7_hasPlace at hF
  refine z_iload_n 0 X dX7_hasPlace_0 hl 1 rfl ?_
  refine z_if_lt 1 16 X dX7_hasPlace_1 (by decide) (fun c1 => ?_) (fun c1 => ?_)
  · replace hF := zpos c1 hF
    refine z_iconst 16 0 X dX7_hasPlace_16 (by decide) ?_
    cases hF
    exact z_zret 17 X dX7_hasPlace_17 hw (by decide) rfl rfl
  · replace hF := zneg c1 hF
    refine z_iload_n 4 X dX7_hasPlace_4 hl 1 rfl ?_
    refine z_aload_n 5 X dX7_hasPlace_5 hl 0 rfl ?_
    refine z_get 6 zc7 0 1 fl_7_20 X dX7_hasPlace_6 hw rfl (by decide) rfl ?_
    refine z_icmp_ge 9 16 X dX7_hasPlace_9 (by decide) (fun c2 => ?_) (fun c2 => ?_)
    · replace hF := zpos c2 hF
      refine z_iconst 16 0 X dX7_hasPlace_16 (by decide) ?_
      cases hF
      exact z_zret 17 X dX7_hasPlace_17 hw (by decide) rfl rfl
    · replace hF := zneg c2 hF
      refine z_iconst 12 1 X dX7_hasPlace_12 (by decide) ?_
      refine z_goto 13 17 X dX7_hasPlace_13 (by decide) ?_
      cases hF
      exact z_zret 17 X dX7_hasPlace_17 hw (by decide) rfl rfl
theorem dX7_bitOrZero_0 : decode cX7_bitOrZero 0 = .ok (.aload_n 0, 1) := by decide +kernel
theorem dX7_bitOrZero_1 : decode cX7_bitOrZero 1 = .ok (.iload_n 1, 1) := by decide +kernel
theorem dX7_bitOrZero_2 : decode cX7_bitOrZero 2 = .ok (.invokevirtual 36, 3) := by decide +kernel
theorem dX7_bitOrZero_5 : decode cX7_bitOrZero 5 = .ok (.ifCond .eq 14, 3) := by decide +kernel
theorem dX7_bitOrZero_8 : decode cX7_bitOrZero 8 = .ok (.aload_n 0, 1) := by decide +kernel
theorem dX7_bitOrZero_9 : decode cX7_bitOrZero 9 = .ok (.getfield 14, 3) := by decide +kernel
theorem dX7_bitOrZero_12 : decode cX7_bitOrZero 12 = .ok (.iload_n 1, 1) := by decide +kernel
theorem dX7_bitOrZero_13 : decode cX7_bitOrZero 13 = .ok (.invokevirtual 40, 3) := by decide +kernel
theorem dX7_bitOrZero_16 : decode cX7_bitOrZero 16 = .ok (.goto 4, 3) := by decide +kernel
theorem dX7_bitOrZero_19 : decode cX7_bitOrZero 19 = .ok (.iconst 0, 1) := by decide +kernel
theorem dX7_bitOrZero_20 : decode cX7_bitOrZero 20 = .ok (.ireturn, 1) := by decide +kernel
set_option maxHeartbeats 4000000 in
set_option maxRecDepth 100000 in
theorem m_X7_bitOrZero (l : Launch) (D : va_G) (cA : ClassId) (a_this a_this_cells a_this_cells_cells : Nat) (v_length : Int32) (v_start : Int32) (v_next : Int32) (v_exponent : Int32) (v_number : Int32) (g_cells_cells : Ar) (i1 : Int32) (out : Int32) (hF : F_X7_bitOrZero v_length g_cells_cells i1 = some out) : zM l D cA yX7_bitOrZero cX7_bitOrZero 2 (some .int) 1 21 [.ref a_this, .int i1] (zw_10 cA 0 a_this a_this_cells a_this_cells_cells v_length v_start v_next v_exponent v_number g_cells_cells) (zw_10 cA 0 a_this a_this_cells a_this_cells_cells v_length v_start v_next v_exponent v_number g_cells_cells) (some (.int out)) := by
  refine z_body (by decide) (Nat.le_of_ble_eq_true rfl) ?_
  intro p e s m args below meth c ls H locs A X hl hw
  have hl : lv_has ls 2 [(0, .ref a_this), (1, .int i1)] := hl
  unfold F_X7_bitOrZero at hF
  refine z_aload_n 0 X dX7_bitOrZero_0 hl 0 rfl ?_
  refine z_iload_n 1 X dX7_bitOrZero_1 hl 1 rfl ?_
  obtain ⟨u1, e2, hF⟩ := zbd hF
  refine z_callV 2 zc7 mv_X7_hasPlace ml_7_36 0 [0] (zw_10 cA 0 a_this a_this_cells a_this_cells_cells v_length v_start v_next v_exponent v_number g_cells_cells) [] (m_X7_hasPlace l D cA a_this a_this_cells v_length v_start v_next v_exponent v_number i1 u1 e2) X dX7_bitOrZero_2 hw hl rfl rfl rfl (by decide) rfl rfl rfl (Nat.le_of_ble_eq_true rfl) ⟨Nat.le_of_ble_eq_true rfl, Nat.le_of_ble_eq_true rfl⟩ ⟨Nat.zero_le _, Nat.zero_le _⟩ (fun H locs hw => ?_)
  refine z_if_eq 5 19 X dX7_bitOrZero_5 (by decide) (fun c3 => ?_) (fun c3 => ?_)
  · replace hF := zpos c3 hF
    refine z_iconst 19 0 X dX7_bitOrZero_19 (by decide) ?_
    cases hF
    exact z_iret 20 X dX7_bitOrZero_20 hw rfl rfl
  · replace hF := zneg c3 hF
    refine z_aload_n 8 X dX7_bitOrZero_8 hl 0 rfl ?_
    refine z_get 9 zc7 0 0 fl_7_14 X dX7_bitOrZero_9 hw rfl (by decide) rfl ?_
    refine z_iload_n 12 X dX7_bitOrZero_12 hl 1 rfl ?_
    obtain ⟨u4, e5, hF⟩ := zbd hF
    refine z_callV 13 zc0 mv_X0_read ml_7_40 1 [1, 2] (zw_10 cA 0 a_this a_this_cells a_this_cells_cells v_length v_start v_next v_exponent v_number g_cells_cells) [] (m_X0_read l D cA 1344 a_this_cells a_this_cells_cells g_cells_cells i1 u4 e5) X dX7_bitOrZero_13 hw hl rfl rfl rfl (by decide) rfl rfl rfl (Nat.le_of_ble_eq_true rfl) ⟨Nat.le_of_ble_eq_true rfl, Nat.le_of_ble_eq_true rfl⟩ ⟨Nat.zero_le _, Nat.zero_le _⟩ (fun H locs hw => ?_)
    refine z_goto 16 20 X dX7_bitOrZero_16 (by decide) ?_
    cases hF
    exact z_iret 20 X dX7_bitOrZero_20 hw rfl rfl
theorem dX7_wordFrom_0 : decode cX7_wordFrom 0 = .ok (.lconst 0, 1) := by decide +kernel
theorem dX7_wordFrom_1 : decode cX7_wordFrom 1 = .ok (.lstore_n 2, 1) := by decide +kernel
theorem dX7_wordFrom_2 : decode cX7_wordFrom 2 = .ok (.iconst 0, 1) := by decide +kernel
theorem dX7_wordFrom_3 : decode cX7_wordFrom 3 = .ok (.istore 4, 2) := by decide +kernel
theorem dX7_wordFrom_5 : decode cX7_wordFrom 5 = .ok (.iload 4, 2) := by decide +kernel
theorem dX7_wordFrom_7 : decode cX7_wordFrom 7 = .ok (.bipush 32, 2) := by decide +kernel
theorem dX7_wordFrom_9 : decode cX7_wordFrom 9 = .ok (.if_icmp .ge 25, 3) := by decide +kernel
theorem dX7_wordFrom_12 : decode cX7_wordFrom 12 = .ok (.lload_n 2, 1) := by decide +kernel
theorem dX7_wordFrom_13 : decode cX7_wordFrom 13 = .ok (.ldc2_w 44, 3) := by decide +kernel
theorem dX7_wordFrom_16 : decode cX7_wordFrom 16 = .ok (.lmul, 1) := by decide +kernel
theorem dX7_wordFrom_17 : decode cX7_wordFrom 17 = .ok (.aload_n 0, 1) := by decide +kernel
theorem dX7_wordFrom_18 : decode cX7_wordFrom 18 = .ok (.iload_n 1, 1) := by decide +kernel
theorem dX7_wordFrom_19 : decode cX7_wordFrom 19 = .ok (.iload 4, 2) := by decide +kernel
theorem dX7_wordFrom_21 : decode cX7_wordFrom 21 = .ok (.iadd, 1) := by decide +kernel
theorem dX7_wordFrom_22 : decode cX7_wordFrom 22 = .ok (.invokevirtual 46, 3) := by decide +kernel
theorem dX7_wordFrom_25 : decode cX7_wordFrom 25 = .ok (.i2l, 1) := by decide +kernel
theorem dX7_wordFrom_26 : decode cX7_wordFrom 26 = .ok (.ladd, 1) := by decide +kernel
theorem dX7_wordFrom_27 : decode cX7_wordFrom 27 = .ok (.lstore_n 2, 1) := by decide +kernel
theorem dX7_wordFrom_28 : decode cX7_wordFrom 28 = .ok (.iinc 4 1, 3) := by decide +kernel
theorem dX7_wordFrom_31 : decode cX7_wordFrom 31 = .ok (.goto (-26), 3) := by decide +kernel
theorem dX7_wordFrom_34 : decode cX7_wordFrom 34 = .ok (.lload_n 2, 1) := by decide +kernel
theorem dX7_wordFrom_35 : decode cX7_wordFrom 35 = .ok (.lreturn, 1) := by decide +kernel
set_option maxHeartbeats 4000000 in
set_option maxRecDepth 100000 in
theorem l_X7_wordFrom_5 (l : Launch) (D : va_G) (cA : ClassId) (a_this a_this_cells a_this_cells_cells : Nat) (v_length : Int32) (v_start : Int32) (v_next : Int32) (v_exponent : Int32) (v_number : Int32) (g_cells_cells : Ar) (i1 : Int32) (out : Int64) {p : Program} {e : Env} {s : State} {m : MethodId} {args : Array Value} {below : List Frame} {meth : Method} {c : Code} {A : Nat → Prop} (X : zX D cA p s m args meth c cX7_wordFrom 5 RX7 (some .long)) (k : Int64 → Option (Int64)) (hk : ∀ (j2 : Int64) (H : Heap) (locs : List Loc) (ls : Array Slot), zH D A s (zw_10 cA 0 a_this a_this_cells a_this_cells_cells v_length v_start v_next v_exponent v_number g_cells_cells) H locs → lv_has ls 5 [(2, .long j2)] → k j2 = some out → W p l e (zR 2 42) s m args below meth c H locs 0 0 (MQ below (zQ D (zw_10 cA 0 a_this a_this_cells a_this_cells_cells v_length v_start v_next v_exponent v_number g_cells_cells) (some (.long out)) A) args s 0 0 A) (F0 m 34 ls [])) :
    ∀ (fuel : Nat) (j2 : Int64) (i4 : Int32) (H : Heap) (locs : List Loc) (ls : Array Slot), zH D A s (zw_10 cA 0 a_this a_this_cells a_this_cells_cells v_length v_start v_next v_exponent v_number g_cells_cells) H locs → lv_has ls 5 [(0, .ref a_this), (1, .int i1), (2, .long j2), (4, .int i4)] → F_X7_wordFrom_L5 v_length g_cells_cells i1 k fuel j2 i4 = some out → W p l e (zR 2 42) s m args below meth c H locs 0 0 (MQ below (zQ D (zw_10 cA 0 a_this a_this_cells a_this_cells_cells v_length v_start v_next v_exponent v_number g_cells_cells) (some (.long out)) A) args s 0 0 A) (F0 m 5 ls []) := by
  intro fuel
  induction fuel with
  | zero => intro j2 i4 H locs ls hw hl hF; exact nomatch (show (none : Option (Int64)) = some out from hF)
  | succ fuel ih =>
    intro j2 i4 H locs ls hw hl hF
    rw [F_X7_wordFrom_L5] at hF
    refine z_iload 5 X dX7_wordFrom_5 hl 3 rfl ?_
    refine z_bipush 7 32 X dX7_wordFrom_7 (by decide) ?_
    refine z_icmp_ge 9 34 X dX7_wordFrom_9 (by decide) (fun c1 => ?_) (fun c1 => ?_)
    · replace hF := zpos c1 hF
      exact hk j2 H locs ls hw (lv_sub hl [2] rfl) hF
    · replace hF := zneg c1 hF
      refine z_lload_n 12 X dX7_wordFrom_12 hl 2 rfl ?_
      refine z_ldc2 13 2 X dX7_wordFrom_13 cl_7_44 ?_
      refine z_lmul 16 X dX7_wordFrom_16 ?_
      refine z_aload_n 17 X dX7_wordFrom_17 hl 0 rfl ?_
      refine z_iload_n 18 X dX7_wordFrom_18 hl 1 rfl ?_
      refine z_iload 19 X dX7_wordFrom_19 hl 3 rfl ?_
      refine z_iadd 21 X dX7_wordFrom_21 ?_
      obtain ⟨u2, e3, hF⟩ := zbd hF
      refine z_callV 22 zc7 mv_X7_bitOrZero ml_7_46 0 [0, 1, 2] (zw_10 cA 0 a_this a_this_cells a_this_cells_cells v_length v_start v_next v_exponent v_number g_cells_cells) [.long (j2 * 2)] (m_X7_bitOrZero l D cA a_this a_this_cells a_this_cells_cells v_length v_start v_next v_exponent v_number g_cells_cells (i1 + i4) u2 e3) X dX7_wordFrom_22 hw hl rfl rfl rfl (by decide) rfl rfl rfl (Nat.le_of_ble_eq_true rfl) ⟨Nat.le_of_ble_eq_true rfl, Nat.le_of_ble_eq_true rfl⟩ ⟨Nat.zero_le _, Nat.zero_le _⟩ (fun H locs hw => ?_)
      refine z_i2l 25 X dX7_wordFrom_25 ?_
      refine z_ladd 26 X dX7_wordFrom_26 ?_
      refine z_lstore_n 27 [(2, .long ((j2 * 2) + (u2.toInt64))), (0, .ref a_this), (1, .int i1), (4, .int i4)] X dX7_wordFrom_27 hl (by decide) rfl (fun ls hl => ?_)
      refine z_iinc2 28 1 [(4, .int (i4 + 1)), (2, .long ((j2 * 2) + (u2.toInt64))), (0, .ref a_this), (1, .int i1)] X dX7_wordFrom_28 hl 3 rfl (by decide) (by decide) rfl (fun ls hl => ?_)
      refine z_goto 31 5 X dX7_wordFrom_31 (by decide) ?_
      exact ih ((j2 * 2) + (u2.toInt64)) (i4 + 1) H locs ls hw (lv_sub hl [2, 3, 1, 0] rfl) hF
set_option maxHeartbeats 4000000 in
set_option maxRecDepth 100000 in
theorem m_X7_wordFrom (l : Launch) (D : va_G) (cA : ClassId) (a_this a_this_cells a_this_cells_cells : Nat) (v_length : Int32) (v_start : Int32) (v_next : Int32) (v_exponent : Int32) (v_number : Int32) (g_cells_cells : Ar) (i1 : Int32) (out : Int64) (hF : F_X7_wordFrom v_length g_cells_cells i1 = some out) : zM l D cA yX7_wordFrom cX7_wordFrom 5 (some .long) 2 42 [.ref a_this, .int i1] (zw_10 cA 0 a_this a_this_cells a_this_cells_cells v_length v_start v_next v_exponent v_number g_cells_cells) (zw_10 cA 0 a_this a_this_cells a_this_cells_cells v_length v_start v_next v_exponent v_number g_cells_cells) (some (.long out)) := by
  refine z_body (by decide) (Nat.le_of_ble_eq_true rfl) ?_
  intro p e s m args below meth c ls H locs A X hl hw
  have hl : lv_has ls 5 [(0, .ref a_this), (1, .int i1)] := hl
  unfold F_X7_wordFrom at hF
  refine z_lconst 0 0 X dX7_wordFrom_0 (by decide) ?_
  refine z_lstore_n 1 [(2, .long 0), (0, .ref a_this), (1, .int i1)] X dX7_wordFrom_1 hl (by decide) rfl (fun ls hl => ?_)
  refine z_iconst 2 0 X dX7_wordFrom_2 (by decide) ?_
  refine z_istore 3 [(4, .int 0), (2, .long 0), (0, .ref a_this), (1, .int i1)] X dX7_wordFrom_3 hl (by decide) rfl (fun ls hl => ?_)
  refine l_X7_wordFrom_5 l D cA a_this a_this_cells a_this_cells_cells v_length v_start v_next v_exponent v_number g_cells_cells i1 out X _ (fun j2_4 H locs ls hw hl hF => ?_) zFuel 0 0 H locs ls hw (lv_sub hl [2, 3, 1, 0] rfl) hF
  refine z_lload_n 34 X dX7_wordFrom_34 hl 0 rfl ?_
  cases hF
  exact z_lret 35 X dX7_wordFrom_35 hw rfl rfl
theorem dX7_startAt_0 : decode cX7_startAt 0 = .ok (.aload_n 0, 1) := by decide +kernel
theorem dX7_startAt_1 : decode cX7_startAt 1 = .ok (.iload_n 1, 1) := by decide +kernel
theorem dX7_startAt_2 : decode cX7_startAt 2 = .ok (.putfield 24, 3) := by decide +kernel
theorem dX7_startAt_5 : decode cX7_startAt 5 = .ok (.aload_n 0, 1) := by decide +kernel
theorem dX7_startAt_6 : decode cX7_startAt 6 = .ok (.iload_n 1, 1) := by decide +kernel
theorem dX7_startAt_7 : decode cX7_startAt 7 = .ok (.putfield 27, 3) := by decide +kernel
theorem dX7_startAt_10 : decode cX7_startAt 10 = .ok (.aload_n 0, 1) := by decide +kernel
theorem dX7_startAt_11 : decode cX7_startAt 11 = .ok (.iload_n 2, 1) := by decide +kernel
theorem dX7_startAt_12 : decode cX7_startAt 12 = .ok (.putfield 33, 3) := by decide +kernel
theorem dX7_startAt_15 : decode cX7_startAt 15 = .ok (.return_, 1) := by decide +kernel
set_option maxHeartbeats 4000000 in
set_option maxRecDepth 100000 in
theorem m_X7_startAt (l : Launch) (D : va_G) (cA : ClassId) (a_this a_this_cells : Nat) (v_length : Int32) (v_start : Int32) (v_next : Int32) (v_exponent : Int32) (v_number : Int32) (i1 : Int32) (i2 : Int32) (out : Int32 × Int32 × Int32) (hF : F_X7_startAt v_start v_next v_number i1 i2 = some out) : zM l D cA yX7_startAt cX7_startAt 3 none 0 0 [.ref a_this, .int i1, .int i2] (zw_17 cA 0 a_this a_this_cells v_length v_start v_next v_exponent v_number) (zw_17 cA 0 a_this a_this_cells v_length out.1 out.2.1 v_exponent out.2.2) none := by
  refine z_body (by decide) (Nat.le_of_ble_eq_true rfl) ?_
  intro p e s m args below meth c ls H locs A X hl hw
  have hl : lv_has ls 3 [(0, .ref a_this), (1, .int i1), (2, .int i2)] := hl
  unfold F_X7_startAt at hF
  refine z_aload_n 0 X dX7_startAt_0 hl 0 rfl ?_
  refine z_iload_n 1 X dX7_startAt_1 hl 1 rfl ?_
  refine z_put 2 zc7 0 2 (zw_17 cA 0 a_this a_this_cells v_length i1 v_next v_exponent v_number) fl_7_24 X dX7_startAt_2 hw rfl (by decide) rfl rfl rfl (Nat.le_of_ble_eq_true rfl) rfl (fun H locs hw => ?_)
  refine z_aload_n 5 X dX7_startAt_5 hl 0 rfl ?_
  refine z_iload_n 6 X dX7_startAt_6 hl 1 rfl ?_
  refine z_put 7 zc7 0 3 (zw_17 cA 0 a_this a_this_cells v_length i1 i1 v_exponent v_number) fl_7_27 X dX7_startAt_7 hw rfl (by decide) rfl rfl rfl (Nat.le_of_ble_eq_true rfl) rfl (fun H locs hw => ?_)
  refine z_aload_n 10 X dX7_startAt_10 hl 0 rfl ?_
  refine z_iload_n 11 X dX7_startAt_11 hl 2 rfl ?_
  refine z_put 12 zc7 0 5 (zw_17 cA 0 a_this a_this_cells v_length i1 i1 v_exponent i2) fl_7_33 X dX7_startAt_12 hw rfl (by decide) rfl rfl rfl (Nat.le_of_ble_eq_true rfl) rfl (fun H locs hw => ?_)
  cases hF
  exact z_vret 15 X dX7_startAt_15 hw rfl rfl
theorem dX7_readBits_0 : decode cX7_readBits 0 = .ok (.iconst 0, 1) := by decide +kernel
theorem dX7_readBits_1 : decode cX7_readBits 1 = .ok (.istore_n 2, 1) := by decide +kernel
theorem dX7_readBits_2 : decode cX7_readBits 2 = .ok (.iconst 0, 1) := by decide +kernel
theorem dX7_readBits_3 : decode cX7_readBits 3 = .ok (.istore_n 3, 1) := by decide +kernel
theorem dX7_readBits_4 : decode cX7_readBits 4 = .ok (.iload_n 3, 1) := by decide +kernel
theorem dX7_readBits_5 : decode cX7_readBits 5 = .ok (.iload_n 1, 1) := by decide +kernel
theorem dX7_readBits_6 : decode cX7_readBits 6 = .ok (.if_icmp .ge 32, 3) := by decide +kernel
theorem dX7_readBits_9 : decode cX7_readBits 9 = .ok (.iload_n 2, 1) := by decide +kernel
theorem dX7_readBits_10 : decode cX7_readBits 10 = .ok (.iconst 2, 1) := by decide +kernel
theorem dX7_readBits_11 : decode cX7_readBits 11 = .ok (.imul, 1) := by decide +kernel
theorem dX7_readBits_12 : decode cX7_readBits 12 = .ok (.aload_n 0, 1) := by decide +kernel
theorem dX7_readBits_13 : decode cX7_readBits 13 = .ok (.aload_n 0, 1) := by decide +kernel
theorem dX7_readBits_14 : decode cX7_readBits 14 = .ok (.getfield 27, 3) := by decide +kernel
theorem dX7_readBits_17 : decode cX7_readBits 17 = .ok (.invokevirtual 46, 3) := by decide +kernel
theorem dX7_readBits_20 : decode cX7_readBits 20 = .ok (.iadd, 1) := by decide +kernel
theorem dX7_readBits_21 : decode cX7_readBits 21 = .ok (.istore_n 2, 1) := by decide +kernel
theorem dX7_readBits_22 : decode cX7_readBits 22 = .ok (.aload_n 0, 1) := by decide +kernel
theorem dX7_readBits_23 : decode cX7_readBits 23 = .ok (.dup, 1) := by decide +kernel
theorem dX7_readBits_24 : decode cX7_readBits 24 = .ok (.getfield 27, 3) := by decide +kernel
theorem dX7_readBits_27 : decode cX7_readBits 27 = .ok (.iconst 1, 1) := by decide +kernel
theorem dX7_readBits_28 : decode cX7_readBits 28 = .ok (.iadd, 1) := by decide +kernel
theorem dX7_readBits_29 : decode cX7_readBits 29 = .ok (.putfield 27, 3) := by decide +kernel
theorem dX7_readBits_32 : decode cX7_readBits 32 = .ok (.iinc 3 1, 3) := by decide +kernel
theorem dX7_readBits_35 : decode cX7_readBits 35 = .ok (.goto (-31), 3) := by decide +kernel
theorem dX7_readBits_38 : decode cX7_readBits 38 = .ok (.iload_n 2, 1) := by decide +kernel
theorem dX7_readBits_39 : decode cX7_readBits 39 = .ok (.ireturn, 1) := by decide +kernel
set_option maxHeartbeats 4000000 in
set_option maxRecDepth 100000 in
theorem l_X7_readBits_4 (l : Launch) (D : va_G) (cA : ClassId) (a_this a_this_cells a_this_cells_cells : Nat) (v_length : Int32) (v_start : Int32) (v_exponent : Int32) (v_number : Int32) (g_cells_cells : Ar) (i1 : Int32) (out : Int32 × Int32) {p : Program} {e : Env} {s : State} {m : MethodId} {args : Array Value} {below : List Frame} {meth : Method} {c : Code} {A : Nat → Prop} (X : zX D cA p s m args meth c cX7_readBits 4 RX7 (some .int)) (k : Int32 → Int32 → Option (Int32 × Int32)) (hk : ∀ (v_next : Int32) (i2 : Int32) (H : Heap) (locs : List Loc) (ls : Array Slot), zH D A s (zw_10 cA 0 a_this a_this_cells a_this_cells_cells v_length v_start v_next v_exponent v_number g_cells_cells) H locs → lv_has ls 4 [(2, .int i2)] → k v_next i2 = some out → W p l e (zR 2 42) s m args below meth c H locs 0 0 (MQ below (zQ D (zw_10 cA 0 a_this a_this_cells a_this_cells_cells v_length v_start out.2 v_exponent v_number g_cells_cells) (some (.int out.1)) A) args s 0 0 A) (F0 m 38 ls [])) :
    ∀ (fuel : Nat) (v_next : Int32) (i2 : Int32) (i3 : Int32) (H : Heap) (locs : List Loc) (ls : Array Slot), zH D A s (zw_10 cA 0 a_this a_this_cells a_this_cells_cells v_length v_start v_next v_exponent v_number g_cells_cells) H locs → lv_has ls 4 [(0, .ref a_this), (1, .int i1), (2, .int i2), (3, .int i3)] → F_X7_readBits_L4 v_length g_cells_cells i1 k fuel v_next i2 i3 = some out → W p l e (zR 2 42) s m args below meth c H locs 0 0 (MQ below (zQ D (zw_10 cA 0 a_this a_this_cells a_this_cells_cells v_length v_start out.2 v_exponent v_number g_cells_cells) (some (.int out.1)) A) args s 0 0 A) (F0 m 4 ls []) := by
  intro fuel
  induction fuel with
  | zero => intro v_next i2 i3 H locs ls hw hl hF; exact nomatch (show (none : Option (Int32 × Int32)) = some out from hF)
  | succ fuel ih =>
    intro v_next i2 i3 H locs ls hw hl hF
    rw [F_X7_readBits_L4] at hF
    refine z_iload_n 4 X dX7_readBits_4 hl 3 rfl ?_
    refine z_iload_n 5 X dX7_readBits_5 hl 1 rfl ?_
    refine z_icmp_ge 6 38 X dX7_readBits_6 (by decide) (fun c1 => ?_) (fun c1 => ?_)
    · replace hF := zpos c1 hF
      exact hk v_next i2 H locs ls hw (lv_sub hl [2] rfl) hF
    · replace hF := zneg c1 hF
      refine z_iload_n 9 X dX7_readBits_9 hl 2 rfl ?_
      refine z_iconst 10 2 X dX7_readBits_10 (by decide) ?_
      refine z_imul 11 X dX7_readBits_11 ?_
      refine z_aload_n 12 X dX7_readBits_12 hl 0 rfl ?_
      refine z_aload_n 13 X dX7_readBits_13 hl 0 rfl ?_
      refine z_get 14 zc7 0 3 fl_7_27 X dX7_readBits_14 hw rfl (by decide) rfl ?_
      obtain ⟨u2, e3, hF⟩ := zbd hF
      refine z_callV 17 zc7 mv_X7_bitOrZero ml_7_46 0 [0, 1, 2] (zw_10 cA 0 a_this a_this_cells a_this_cells_cells v_length v_start v_next v_exponent v_number g_cells_cells) [.int (i2 * 2)] (m_X7_bitOrZero l D cA a_this a_this_cells a_this_cells_cells v_length v_start v_next v_exponent v_number g_cells_cells v_next u2 e3) X dX7_readBits_17 hw hl rfl rfl rfl (by decide) rfl rfl rfl (Nat.le_of_ble_eq_true rfl) ⟨Nat.le_of_ble_eq_true rfl, Nat.le_of_ble_eq_true rfl⟩ ⟨Nat.zero_le _, Nat.zero_le _⟩ (fun H locs hw => ?_)
      refine z_iadd 20 X dX7_readBits_20 ?_
      refine z_istore_n 21 [(2, .int ((i2 * 2) + u2)), (0, .ref a_this), (1, .int i1), (3, .int i3)] X dX7_readBits_21 hl (by decide) rfl (fun ls hl => ?_)
      refine z_aload_n 22 X dX7_readBits_22 hl 1 rfl ?_
      refine z_dup 23 X dX7_readBits_23 rfl ?_
      refine z_get 24 zc7 0 3 fl_7_27 X dX7_readBits_24 hw rfl (by decide) rfl ?_
      refine z_iconst 27 1 X dX7_readBits_27 (by decide) ?_
      refine z_iadd 28 X dX7_readBits_28 ?_
      refine z_put 29 zc7 0 3 (zw_10 cA 0 a_this a_this_cells a_this_cells_cells v_length v_start (v_next + 1) v_exponent v_number g_cells_cells) fl_7_27 X dX7_readBits_29 hw rfl (by decide) rfl rfl rfl (Nat.le_of_ble_eq_true rfl) rfl (fun H locs hw => ?_)
      refine z_iinc2 32 1 [(3, .int (i3 + 1)), (2, .int ((i2 * 2) + u2)), (0, .ref a_this), (1, .int i1)] X dX7_readBits_32 hl 3 rfl (by decide) (by decide) rfl (fun ls hl => ?_)
      refine z_goto 35 4 X dX7_readBits_35 (by decide) ?_
      exact ih (v_next + 1) ((i2 * 2) + u2) (i3 + 1) H locs ls hw (lv_sub hl [2, 3, 1, 0] rfl) hF
set_option maxHeartbeats 4000000 in
set_option maxRecDepth 100000 in
theorem m_X7_readBits (l : Launch) (D : va_G) (cA : ClassId) (a_this a_this_cells a_this_cells_cells : Nat) (v_length : Int32) (v_start : Int32) (v_next : Int32) (v_exponent : Int32) (v_number : Int32) (g_cells_cells : Ar) (i1 : Int32) (out : Int32 × Int32) (hF : F_X7_readBits v_length v_next g_cells_cells i1 = some out) : zM l D cA yX7_readBits cX7_readBits 4 (some .int) 2 42 [.ref a_this, .int i1] (zw_10 cA 0 a_this a_this_cells a_this_cells_cells v_length v_start v_next v_exponent v_number g_cells_cells) (zw_10 cA 0 a_this a_this_cells a_this_cells_cells v_length v_start out.2 v_exponent v_number g_cells_cells) (some (.int out.1)) := by
  refine z_body (by decide) (Nat.le_of_ble_eq_true rfl) ?_
  intro p e s m args below meth c ls H locs A X hl hw
  have hl : lv_has ls 4 [(0, .ref a_this), (1, .int i1)] := hl
  unfold F_X7_readBits at hF
  refine z_iconst 0 0 X dX7_readBits_0 (by decide) ?_
  refine z_istore_n 1 [(2, .int 0), (0, .ref a_this), (1, .int i1)] X dX7_readBits_1 hl (by decide) rfl (fun ls hl => ?_)
  refine z_iconst 2 0 X dX7_readBits_2 (by decide) ?_
  refine z_istore_n 3 [(3, .int 0), (2, .int 0), (0, .ref a_this), (1, .int i1)] X dX7_readBits_3 hl (by decide) rfl (fun ls hl => ?_)
  refine l_X7_readBits_4 l D cA a_this a_this_cells a_this_cells_cells v_length v_start v_exponent v_number g_cells_cells i1 out X _ (fun v_next_4 i2_5 H locs ls hw hl hF => ?_) zFuel v_next 0 0 H locs ls hw (lv_sub hl [2, 3, 1, 0] rfl) hF
  refine z_iload_n 38 X dX7_readBits_38 hl 0 rfl ?_
  cases hF
  exact z_iret 39 X dX7_readBits_39 hw rfl rfl
theorem dX7_readExponent_0 : decode cX7_readExponent 0 = .ok (.aload_n 0, 1) := by decide +kernel
theorem dX7_readExponent_1 : decode cX7_readExponent 1 = .ok (.aload_n 0, 1) := by decide +kernel
theorem dX7_readExponent_2 : decode cX7_readExponent 2 = .ok (.iconst 4, 1) := by decide +kernel
theorem dX7_readExponent_3 : decode cX7_readExponent 3 = .ok (.invokevirtual 60, 3) := by decide +kernel
theorem dX7_readExponent_6 : decode cX7_readExponent 6 = .ok (.putfield 30, 3) := by decide +kernel
theorem dX7_readExponent_9 : decode cX7_readExponent 9 = .ok (.return_, 1) := by decide +kernel
set_option maxHeartbeats 4000000 in
set_option maxRecDepth 100000 in
theorem m_X7_readExponent (l : Launch) (D : va_G) (cA : ClassId) (a_this a_this_cells a_this_cells_cells : Nat) (v_length : Int32) (v_start : Int32) (v_next : Int32) (v_exponent : Int32) (v_number : Int32) (g_cells_cells : Ar) (out : Int32 × Int32) (hF : F_X7_readExponent v_length v_next v_exponent g_cells_cells = some out) : zM l D cA yX7_readExponent cX7_readExponent 1 none 3 65 [.ref a_this] (zw_10 cA 0 a_this a_this_cells a_this_cells_cells v_length v_start v_next v_exponent v_number g_cells_cells) (zw_10 cA 0 a_this a_this_cells a_this_cells_cells v_length v_start out.1 out.2 v_number g_cells_cells) none := by
  refine z_body (by decide) (Nat.le_of_ble_eq_true rfl) ?_
  intro p e s m args below meth c ls H locs A X hl hw
  have hl : lv_has ls 1 [(0, .ref a_this)] := hl
  unfold F_X7_readExponent at hF
  refine z_aload_n 0 X dX7_readExponent_0 hl 0 rfl ?_
  refine z_aload_n 1 X dX7_readExponent_1 hl 0 rfl ?_
  refine z_iconst 2 4 X dX7_readExponent_2 (by decide) ?_
  obtain ⟨u1, e2, hF⟩ := zbd hF
  refine z_callV 3 zc7 mv_X7_readBits ml_7_60 0 [0, 1, 2] (zw_10 cA 0 a_this a_this_cells a_this_cells_cells v_length v_start u1.2 v_exponent v_number g_cells_cells) [.ref a_this] (m_X7_readBits l D cA a_this a_this_cells a_this_cells_cells v_length v_start v_next v_exponent v_number g_cells_cells 4 u1 e2) X dX7_readExponent_3 hw hl rfl rfl rfl (by decide) rfl rfl rfl (Nat.le_of_ble_eq_true rfl) ⟨Nat.le_of_ble_eq_true rfl, Nat.le_of_ble_eq_true rfl⟩ ⟨Nat.zero_le _, Nat.zero_le _⟩ (fun H locs hw => ?_)
  refine z_put 6 zc7 0 4 (zw_10 cA 0 a_this a_this_cells a_this_cells_cells v_length v_start u1.2 u1.1 v_number g_cells_cells) fl_7_30 X dX7_readExponent_6 hw rfl (by decide) rfl rfl rfl (Nat.le_of_ble_eq_true rfl) rfl (fun H locs hw => ?_)
  cases hF
  exact z_vret 9 X dX7_readExponent_9 hw rfl rfl
