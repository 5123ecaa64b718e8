theorem dX8_at_0 : decode cX8_at 0 = .ok (.aload_n 0, 1) := by decide +kernel
theorem dX8_at_1 : decode cX8_at 1 = .ok (.getfield 12, 3) := by decide +kernel
theorem dX8_at_4 : decode cX8_at 4 = .ok (.iload_n 1, 1) := by decide +kernel
theorem dX8_at_5 : decode cX8_at 5 = .ok (.invokevirtual 71, 3) := by decide +kernel
theorem dX8_at_8 : decode cX8_at 8 = .ok (.ifCond .ne 5, 3) := by decide +kernel
theorem dX8_at_11 : decode cX8_at 11 = .ok (.iconst (-1), 1) := by decide +kernel
theorem dX8_at_12 : decode cX8_at 12 = .ok (.ireturn, 1) := by decide +kernel
theorem dX8_at_13 : decode cX8_at 13 = .ok (.iload_n 2, 1) := by decide +kernel
theorem dX8_at_14 : decode cX8_at 14 = .ok (.ifCond .eq 11, 3) := by decide +kernel
theorem dX8_at_17 : decode cX8_at 17 = .ok (.iload_n 2, 1) := by decide +kernel
theorem dX8_at_18 : decode cX8_at 18 = .ok (.iconst 1, 1) := by decide +kernel
theorem dX8_at_19 : decode cX8_at 19 = .ok (.if_icmp .eq 6, 3) := by decide +kernel
theorem dX8_at_22 : decode cX8_at 22 = .ok (.bipush (-2), 2) := by decide +kernel
theorem dX8_at_24 : decode cX8_at 24 = .ok (.ireturn, 1) := by decide +kernel
theorem dX8_at_25 : decode cX8_at 25 = .ok (.aload_n 0, 1) := by decide +kernel
theorem dX8_at_26 : decode cX8_at 26 = .ok (.getfield 12, 3) := by decide +kernel
theorem dX8_at_29 : decode cX8_at 29 = .ok (.iload_n 1, 1) := by decide +kernel
theorem dX8_at_30 : decode cX8_at 30 = .ok (.invokevirtual 98, 3) := by decide +kernel
theorem dX8_at_33 : decode cX8_at 33 = .ok (.istore_n 3, 1) := by decide +kernel
theorem dX8_at_34 : decode cX8_at 34 = .ok (.aload_n 0, 1) := by decide +kernel
theorem dX8_at_35 : decode cX8_at 35 = .ok (.iload_n 3, 1) := by decide +kernel
theorem dX8_at_36 : decode cX8_at 36 = .ok (.invokevirtual 173, 3) := by decide +kernel
theorem dX8_at_39 : decode cX8_at 39 = .ok (.aload_n 0, 1) := by decide +kernel
theorem dX8_at_40 : decode cX8_at 40 = .ok (.getfield 12, 3) := by decide +kernel
theorem dX8_at_43 : decode cX8_at 43 = .ok (.iload_n 3, 1) := by decide +kernel
theorem dX8_at_44 : decode cX8_at 44 = .ok (.invokevirtual 130, 3) := by decide +kernel
theorem dX8_at_47 : decode cX8_at 47 = .ok (.istore 4, 2) := by decide +kernel
theorem dX8_at_49 : decode cX8_at 49 = .ok (.iload 4, 2) := by decide +kernel
theorem dX8_at_51 : decode cX8_at 51 = .ok (.iload_n 1, 1) := by decide +kernel
theorem dX8_at_52 : decode cX8_at 52 = .ok (.if_icmp .gt 26, 3) := by decide +kernel
theorem dX8_at_55 : decode cX8_at 55 = .ok (.aload_n 0, 1) := by decide +kernel
theorem dX8_at_56 : decode cX8_at 56 = .ok (.getfield 19, 3) := by decide +kernel
theorem dX8_at_59 : decode cX8_at 59 = .ok (.getfield 91, 3) := by decide +kernel
theorem dX8_at_62 : decode cX8_at 62 = .ok (.aload_n 0, 1) := by decide +kernel
theorem dX8_at_63 : decode cX8_at 63 = .ok (.getfield 12, 3) := by decide +kernel
theorem dX8_at_66 : decode cX8_at 66 = .ok (.getfield 113, 3) := by decide +kernel
theorem dX8_at_69 : decode cX8_at 69 = .ok (.invokevirtual 176, 3) := by decide +kernel
theorem dX8_at_72 : decode cX8_at 72 = .ok (.iinc 4 1, 3) := by decide +kernel
theorem dX8_at_75 : decode cX8_at 75 = .ok (.goto (-26), 3) := by decide +kernel
theorem dX8_at_78 : decode cX8_at 78 = .ok (.iload_n 2, 1) := by decide +kernel
theorem dX8_at_79 : decode cX8_at 79 = .ok (.ifCond .ne 16, 3) := by decide +kernel
theorem dX8_at_82 : decode cX8_at 82 = .ok (.aload_n 0, 1) := by decide +kernel
theorem dX8_at_83 : decode cX8_at 83 = .ok (.getfield 19, 3) := by decide +kernel
theorem dX8_at_86 : decode cX8_at 86 = .ok (.getfield 91, 3) := by decide +kernel
theorem dX8_at_89 : decode cX8_at 89 = .ok (.getfield 179, 3) := by decide +kernel
theorem dX8_at_92 : decode cX8_at 92 = .ok (.goto 13, 3) := by decide +kernel
theorem dX8_at_95 : decode cX8_at 95 = .ok (.aload_n 0, 1) := by decide +kernel
theorem dX8_at_96 : decode cX8_at 96 = .ok (.getfield 19, 3) := by decide +kernel
theorem dX8_at_99 : decode cX8_at 99 = .ok (.getfield 91, 3) := by decide +kernel
theorem dX8_at_102 : decode cX8_at 102 = .ok (.invokevirtual 181, 3) := by decide +kernel
theorem dX8_at_105 : decode cX8_at 105 = .ok (.ireturn, 1) := by decide +kernel
set_option maxHeartbeats 4000000 in
set_option maxRecDepth 100000 in
theorem l_X8_at_49 (l : Launch) (D : va_G) (cA : ClassId) (a_this a_this_row a_this_coding a_this_trial a_this_pad a_this_history a_this_slots a_this_coding_prices a_this_coding_stream a_this_coding_exponents a_this_coding_skips a_this_coding_skips_cells a_this_coding_stream_cells a_this_coding_stream_cells_cells a_this_row_numbers a_this_row_numbers_cells : Nat) (g_coding_skips_cells : Ar) (v_coding_stream_length : Int32) (v_coding_stream_start : Int32) (v_coding_stream_exponent : Int32) (g_coding_stream_cells_cells : Ar) (v_row_length : Int32) (v_row_blockSize : Int32) (v_row_ones : Int32) (g_row_numbers_cells : Ar) (i1 : Int32) (i2 : Int32) (out : Int32 × Int32 × Int32 × Int32 × Int32) {p : Program} {e : Env} {s : State} {m : MethodId} {args : Array Value} {below : List Frame} {meth : Method} {c : Code} {A : Nat → Prop} (X : zX D cA p s m args meth c cX8_at 5 RX8 (some .int)) (k : Int32 → Int32 → Option (Int32 × Int32 × Int32 × Int32 × Int32)) (hk : ∀ (v_coding_stream_next : Int32) (v_coding_stream_number : Int32) (H : Heap) (locs : List Loc) (ls : Array Slot), zH D A s (zw_22 cA 0 a_this a_this_row a_this_coding a_this_trial a_this_pad a_this_history a_this_slots a_this_coding_prices a_this_coding_stream a_this_coding_exponents a_this_coding_skips a_this_coding_skips_cells a_this_coding_stream_cells a_this_coding_stream_cells_cells a_this_row_numbers a_this_row_numbers_cells g_coding_skips_cells v_coding_stream_length v_coding_stream_start v_coding_stream_next v_coding_stream_exponent v_coding_stream_number g_coding_stream_cells_cells v_row_length v_row_blockSize v_row_ones g_row_numbers_cells) H locs → lv_has ls 5 [(0, .ref a_this), (2, .int i2)] → k v_coding_stream_next v_coding_stream_number = some out → W p l e (zR 5 108) s m args below meth c H locs 0 0 (MQ below (zQ D (zw_22 cA 0 a_this a_this_row a_this_coding a_this_trial a_this_pad a_this_history a_this_slots a_this_coding_prices a_this_coding_stream a_this_coding_exponents a_this_coding_skips a_this_coding_skips_cells a_this_coding_stream_cells a_this_coding_stream_cells_cells a_this_row_numbers a_this_row_numbers_cells g_coding_skips_cells v_coding_stream_length out.2.1 out.2.2.1 out.2.2.2.1 out.2.2.2.2 g_coding_stream_cells_cells v_row_length v_row_blockSize v_row_ones g_row_numbers_cells) (some (.int out.1)) A) args s 0 0 A) (F0 m 78 ls [])) :
    ∀ (fuel : Nat) (v_coding_stream_next : Int32) (v_coding_stream_number : Int32) (i4 : Int32) (H : Heap) (locs : List Loc) (ls : Array Slot), zH D A s (zw_22 cA 0 a_this a_this_row a_this_coding a_this_trial a_this_pad a_this_history a_this_slots a_this_coding_prices a_this_coding_stream a_this_coding_exponents a_this_coding_skips a_this_coding_skips_cells a_this_coding_stream_cells a_this_coding_stream_cells_cells a_this_row_numbers a_this_row_numbers_cells g_coding_skips_cells v_coding_stream_length v_coding_stream_start v_coding_stream_next v_coding_stream_exponent v_coding_stream_number g_coding_stream_cells_cells v_row_length v_row_blockSize v_row_ones g_row_numbers_cells) H locs → lv_has ls 5 [(0, .ref a_this), (1, .int i1), (2, .int i2), (4, .int i4)] → F_X8_at_L49 v_coding_stream_length v_coding_stream_exponent g_coding_stream_cells_cells v_row_ones i1 k fuel v_coding_stream_next v_coding_stream_number i4 = some out → W p l e (zR 5 108) s m args below meth c H locs 0 0 (MQ below (zQ D (zw_22 cA 0 a_this a_this_row a_this_coding a_this_trial a_this_pad a_this_history a_this_slots a_this_coding_prices a_this_coding_stream a_this_coding_exponents a_this_coding_skips a_this_coding_skips_cells a_this_coding_stream_cells a_this_coding_stream_cells_cells a_this_row_numbers a_this_row_numbers_cells g_coding_skips_cells v_coding_stream_length out.2.1 out.2.2.1 out.2.2.2.1 out.2.2.2.2 g_coding_stream_cells_cells v_row_length v_row_blockSize v_row_ones g_row_numbers_cells) (some (.int out.1)) A) args s 0 0 A) (F0 m 49 ls []) := by
  intro fuel
  induction fuel with
  | zero => intro v_coding_stream_next v_coding_stream_number i4 H locs ls hw hl hF; exact nomatch (show (none : Option (Int32 × Int32 × Int32 × Int32 × Int32)) = some out from hF)
  | succ fuel ih =>
    intro v_coding_stream_next v_coding_stream_number i4 H locs ls hw hl hF
    rw [F_X8_at_L49] at hF
    refine z_iload 49 X dX8_at_49 hl 3 rfl ?_
    refine z_iload_n 51 X dX8_at_51 hl 1 rfl ?_
    refine z_icmp_gt 52 78 X dX8_at_52 (by decide) (fun c11 => ?_) (fun c11 => ?_)
    · replace hF := zpos c11 hF
      exact hk v_coding_stream_next v_coding_stream_number H locs ls hw (lv_sub hl [0, 2] rfl) hF
    · replace hF := zneg c11 hF
      refine z_aload_n 55 X dX8_at_55 hl 0 rfl ?_
      refine z_get 56 zc8 0 1 fl_8_19 X dX8_at_56 hw rfl (by decide) rfl ?_
      refine z_getN 59 zc1 1 1 fl_8_91 X dX8_at_59 hw rfl (by decide) rfl ?_
      refine z_aload_n 62 X dX8_at_62 hl 0 rfl ?_
      refine z_get 63 zc8 0 0 fl_8_12 X dX8_at_63 hw rfl (by decide) rfl ?_
      refine z_getN 66 zc5 7 3 fl_8_113 X dX8_at_66 hw rfl (by decide) rfl ?_
      obtain ⟨u12, e13, hF⟩ := zbd hF
      refine z_callV 69 zc7 mv_X7_readNumber ml_8_176 4 [4, 5, 6] (zw_22 cA 0 a_this a_this_row a_this_coding a_this_trial a_this_pad a_this_history a_this_slots a_this_coding_prices a_this_coding_stream a_this_coding_exponents a_this_coding_skips a_this_coding_skips_cells a_this_coding_stream_cells a_this_coding_stream_cells_cells a_this_row_numbers a_this_row_numbers_cells g_coding_skips_cells v_coding_stream_length v_coding_stream_start u12.1 v_coding_stream_exponent u12.2 g_coding_stream_cells_cells v_row_length v_row_blockSize v_row_ones g_row_numbers_cells) [] (m_X7_readNumber l D cA a_this_coding_stream a_this_coding_stream_cells a_this_coding_stream_cells_cells v_coding_stream_length v_coding_stream_start v_coding_stream_next v_coding_stream_exponent v_coding_stream_number g_coding_stream_cells_cells v_row_ones u12 e13) X dX8_at_69 hw hl rfl rfl rfl (by decide) rfl rfl rfl (Nat.le_of_ble_eq_true rfl) ⟨Nat.le_of_ble_eq_true rfl, Nat.le_of_ble_eq_true rfl⟩ ⟨Nat.zero_le _, Nat.zero_le _⟩ (fun H locs hw => ?_)
      refine z_iinc2 72 1 [(4, .int (i4 + 1)), (0, .ref a_this), (1, .int i1), (2, .int i2)] X dX8_at_72 hl 3 rfl (by decide) (by decide) rfl (fun ls hl => ?_)
      refine z_goto 75 49 X dX8_at_75 (by decide) ?_
      exact ih u12.1 u12.2 (i4 + 1) H locs ls hw (lv_sub hl [1, 2, 3, 0] rfl) hF
set_option maxHeartbeats 4000000 in
set_option maxRecDepth 100000 in
theorem m_X8_at (l : Launch) (D : va_G) (cA : ClassId) (a_this a_this_row a_this_coding a_this_trial a_this_pad a_this_history a_this_slots a_this_coding_prices a_this_coding_stream a_this_coding_exponents a_this_coding_skips a_this_coding_skips_cells a_this_coding_stream_cells a_this_coding_stream_cells_cells a_this_row_numbers a_this_row_numbers_cells : Nat) (g_coding_skips_cells : Ar) (v_coding_stream_length : Int32) (v_coding_stream_start : Int32) (v_coding_stream_next : Int32) (v_coding_stream_exponent : Int32) (v_coding_stream_number : Int32) (g_coding_stream_cells_cells : Ar) (v_row_length : Int32) (v_row_blockSize : Int32) (v_row_ones : Int32) (g_row_numbers_cells : Ar) (i1 : Int32) (i2 : Int32) (out : Int32 × Int32 × Int32 × Int32 × Int32) (hF : F_X8_at g_coding_skips_cells v_coding_stream_length v_coding_stream_start v_coding_stream_next v_coding_stream_exponent v_coding_stream_number g_coding_stream_cells_cells v_row_length v_row_blockSize v_row_ones g_row_numbers_cells i1 i2 = some out) : zM l D cA yX8_at cX8_at 5 (some .int) 5 108 [.ref a_this, .int i1, .int i2] (zw_22 cA 0 a_this a_this_row a_this_coding a_this_trial a_this_pad a_this_history a_this_slots a_this_coding_prices a_this_coding_stream a_this_coding_exponents a_this_coding_skips a_this_coding_skips_cells a_this_coding_stream_cells a_this_coding_stream_cells_cells a_this_row_numbers a_this_row_numbers_cells g_coding_skips_cells v_coding_stream_length v_coding_stream_start v_coding_stream_next v_coding_stream_exponent v_coding_stream_number g_coding_stream_cells_cells v_row_length v_row_blockSize v_row_ones g_row_numbers_cells) (zw_22 cA 0 a_this a_this_row a_this_coding a_this_trial a_this_pad a_this_history a_this_slots a_this_coding_prices a_this_coding_stream a_this_coding_exponents a_this_coding_skips a_this_coding_skips_cells a_this_coding_stream_cells a_this_coding_stream_cells_cells a_this_row_numbers a_this_row_numbers_cells g_coding_skips_cells v_coding_stream_length out.2.1 out.2.2.1 out.2.2.2.1 out.2.2.2.2 g_coding_stream_cells_cells v_row_length v_row_blockSize v_row_ones g_row_numbers_cells) (some (.int out.1)) := by
  refine z_body (by decide) (Nat.le_of_ble_eq_true rfl) ?_
  intro p e s m args below meth c ls H locs A X hl hw
  have hl : lv_has ls 5 [(0, .ref a_this), (1, .int i1), (2, .int i2)] := hl
  unfold F_X8_at at hF
  refine z_aload_n 0 X dX8_at_0 hl 0 rfl ?_
  refine z_get 1 zc8 0 0 fl_8_12 X dX8_at_1 hw rfl (by decide) rfl ?_
  refine z_iload_n 4 X dX8_at_4 hl 1 rfl ?_
  obtain ⟨u1, e2, hF⟩ := zbd hF
  refine z_callV 5 zc5 mv_X5_hasPlace ml_8_71 7 [7] (zw_22 cA 0 a_this a_this_row a_this_coding a_this_trial a_this_pad a_this_history a_this_slots a_this_coding_prices a_this_coding_stream a_this_coding_exponents a_this_coding_skips a_this_coding_skips_cells a_this_coding_stream_cells a_this_coding_stream_cells_cells a_this_row_numbers a_this_row_numbers_cells g_coding_skips_cells v_coding_stream_length v_coding_stream_start v_coding_stream_next v_coding_stream_exponent v_coding_stream_number g_coding_stream_cells_cells v_row_length v_row_blockSize v_row_ones g_row_numbers_cells) [] (m_X5_hasPlace l D cA a_this_row a_this_row_numbers v_row_length v_row_blockSize v_row_ones i1 u1 e2) X dX8_at_5 hw hl rfl rfl rfl (by decide) rfl rfl rfl (Nat.le_of_ble_eq_true rfl) ⟨Nat.le_of_ble_eq_true rfl, Nat.le_of_ble_eq_true rfl⟩ ⟨Nat.zero_le _, Nat.zero_le _⟩ (fun H locs hw => ?_)
  refine z_if_ne 8 13 X dX8_at_8 (by decide) (fun c3 => ?_) (fun c3 => ?_)
  · replace hF := zneg c3 hF
    refine z_iload_n 13 X dX8_at_13 hl 2 rfl ?_
    refine z_if_eq 14 25 X dX8_at_14 (by decide) (fun c4 => ?_) (fun c4 => ?_)
    · replace hF := zpos c4 hF
      refine z_aload_n 25 X dX8_at_25 hl 0 rfl ?_
      refine z_get 26 zc8 0 0 fl_8_12 X dX8_at_26 hw rfl (by decide) rfl ?_
      refine z_iload_n 29 X dX8_at_29 hl 1 rfl ?_
      obtain ⟨u5, e6, hF⟩ := zbd hF
      refine z_callV 30 zc5 mv_X5_blockOf ml_8_98 7 [7] (zw_22 cA 0 a_this a_this_row a_this_coding a_this_trial a_this_pad a_this_history a_this_slots a_this_coding_prices a_this_coding_stream a_this_coding_exponents a_this_coding_skips a_this_coding_skips_cells a_this_coding_stream_cells a_this_coding_stream_cells_cells a_this_row_numbers a_this_row_numbers_cells g_coding_skips_cells v_coding_stream_length v_coding_stream_start v_coding_stream_next v_coding_stream_exponent v_coding_stream_number g_coding_stream_cells_cells v_row_length v_row_blockSize v_row_ones g_row_numbers_cells) [] (m_X5_blockOf l D cA a_this_row a_this_row_numbers v_row_length v_row_blockSize v_row_ones i1 u5 e6) X dX8_at_30 hw hl rfl rfl rfl (by decide) rfl rfl rfl (Nat.le_of_ble_eq_true rfl) ⟨Nat.le_of_ble_eq_true rfl, Nat.le_of_ble_eq_true rfl⟩ ⟨Nat.zero_le _, Nat.zero_le _⟩ (fun H locs hw => ?_)
      refine z_istore_n 33 [(3, .int u5), (0, .ref a_this), (1, .int i1), (2, .int i2)] X dX8_at_33 hl (by decide) rfl (fun ls hl => ?_)
      refine z_aload_n 34 X dX8_at_34 hl 1 rfl ?_
      refine z_iload_n 35 X dX8_at_35 hl 0 rfl ?_
      obtain ⟨u7, e8, hF⟩ := zbd hF
      refine z_callV 36 zc8 mv_X8_openBlock ml_8_173 0 [0, 1, 2, 3, 4, 5, 6, 7, 8, 9] (zw_22 cA 0 a_this a_this_row a_this_coding a_this_trial a_this_pad a_this_history a_this_slots a_this_coding_prices a_this_coding_stream a_this_coding_exponents a_this_coding_skips a_this_coding_skips_cells a_this_coding_stream_cells a_this_coding_stream_cells_cells a_this_row_numbers a_this_row_numbers_cells g_coding_skips_cells v_coding_stream_length u7.1 u7.2.1 u7.2.2.1 u7.2.2.2 g_coding_stream_cells_cells v_row_length v_row_blockSize v_row_ones g_row_numbers_cells) [] (m_X8_openBlock l D cA a_this a_this_row a_this_coding a_this_trial a_this_pad a_this_history a_this_slots a_this_coding_prices a_this_coding_stream a_this_coding_exponents a_this_coding_skips a_this_coding_skips_cells a_this_coding_stream_cells a_this_coding_stream_cells_cells a_this_row_numbers a_this_row_numbers_cells g_coding_skips_cells v_coding_stream_length v_coding_stream_start v_coding_stream_next v_coding_stream_exponent v_coding_stream_number g_coding_stream_cells_cells v_row_length v_row_blockSize v_row_ones g_row_numbers_cells u5 u7 e8) X dX8_at_36 hw hl rfl rfl rfl (by decide) rfl rfl rfl (Nat.le_of_ble_eq_true rfl) ⟨Nat.le_of_ble_eq_true rfl, Nat.le_of_ble_eq_true rfl⟩ ⟨Nat.zero_le _, Nat.zero_le _⟩ (fun H locs hw => ?_)
      refine z_aload_n 39 X dX8_at_39 hl 1 rfl ?_
      refine z_get 40 zc8 0 0 fl_8_12 X dX8_at_40 hw rfl (by decide) rfl ?_
      refine z_iload_n 43 X dX8_at_43 hl 0 rfl ?_
      obtain ⟨u9, e10, hF⟩ := zbd hF
      refine z_callV 44 zc5 mv_X5_firstOf ml_8_130 7 [7] (zw_22 cA 0 a_this a_this_row a_this_coding a_this_trial a_this_pad a_this_history a_this_slots a_this_coding_prices a_this_coding_stream a_this_coding_exponents a_this_coding_skips a_this_coding_skips_cells a_this_coding_stream_cells a_this_coding_stream_cells_cells a_this_row_numbers a_this_row_numbers_cells g_coding_skips_cells v_coding_stream_length u7.1 u7.2.1 u7.2.2.1 u7.2.2.2 g_coding_stream_cells_cells v_row_length v_row_blockSize v_row_ones g_row_numbers_cells) [] (m_X5_firstOf l D cA a_this_row a_this_row_numbers v_row_length v_row_blockSize v_row_ones u5 u9 e10) X dX8_at_44 hw hl rfl rfl rfl (by decide) rfl rfl rfl (Nat.le_of_ble_eq_true rfl) ⟨Nat.le_of_ble_eq_true rfl, Nat.le_of_ble_eq_true rfl⟩ ⟨Nat.zero_le _, Nat.zero_le _⟩ (fun H locs hw => ?_)
      refine z_istore 47 [(4, .int u9), (3, .int u5), (0, .ref a_this), (1, .int i1), (2, .int i2)] X dX8_at_47 hl (by decide) rfl (fun ls hl => ?_)
      refine l_X8_at_49 l D cA a_this a_this_row a_this_coding a_this_trial a_this_pad a_this_history a_this_slots a_this_coding_prices a_this_coding_stream a_this_coding_exponents a_this_coding_skips a_this_coding_skips_cells a_this_coding_stream_cells a_this_coding_stream_cells_cells a_this_row_numbers a_this_row_numbers_cells g_coding_skips_cells v_coding_stream_length u7.1 u7.2.2.1 g_coding_stream_cells_cells v_row_length v_row_blockSize v_row_ones g_row_numbers_cells i1 i2 out X _ (fun v_coding_stream_next_14 v_coding_stream_number_15 H locs ls hw hl hF => ?_) zFuel u7.2.1 u7.2.2.2 u9 H locs ls hw (lv_sub hl [2, 3, 4, 0] rfl) hF
      refine z_iload_n 78 X dX8_at_78 hl 1 rfl ?_
      refine z_if_ne 79 95 X dX8_at_79 (by decide) (fun c16 => ?_) (fun c16 => ?_)
      · replace hF := zneg c16 hF
        refine z_aload_n 95 X dX8_at_95 hl 0 rfl ?_
        refine z_get 96 zc8 0 1 fl_8_19 X dX8_at_96 hw rfl (by decide) rfl ?_
        refine z_getN 99 zc1 1 1 fl_8_91 X dX8_at_99 hw rfl (by decide) rfl ?_
        obtain ⟨u17, e18, hF⟩ := zbd hF
        refine z_callV 102 zc7 mv_X7_bitsRead ml_8_181 4 [4] (zw_22 cA 0 a_this a_this_row a_this_coding a_this_trial a_this_pad a_this_history a_this_slots a_this_coding_prices a_this_coding_stream a_this_coding_exponents a_this_coding_skips a_this_coding_skips_cells a_this_coding_stream_cells a_this_coding_stream_cells_cells a_this_row_numbers a_this_row_numbers_cells g_coding_skips_cells v_coding_stream_length u7.1 v_coding_stream_next_14 u7.2.2.1 v_coding_stream_number_15 g_coding_stream_cells_cells v_row_length v_row_blockSize v_row_ones g_row_numbers_cells) [] (m_X7_bitsRead l D cA a_this_coding_stream a_this_coding_stream_cells v_coding_stream_length u7.1 v_coding_stream_next_14 u7.2.2.1 v_coding_stream_number_15 u17 e18) X dX8_at_102 hw hl rfl rfl rfl (by decide) rfl rfl rfl (Nat.le_of_ble_eq_true rfl) ⟨Nat.le_of_ble_eq_true rfl, Nat.le_of_ble_eq_true rfl⟩ ⟨Nat.zero_le _, Nat.zero_le _⟩ (fun H locs hw => ?_)
        cases hF
        exact z_iret 105 X dX8_at_105 hw rfl rfl
      · replace hF := zpos c16 hF
        refine z_aload_n 82 X dX8_at_82 hl 0 rfl ?_
        refine z_get 83 zc8 0 1 fl_8_19 X dX8_at_83 hw rfl (by decide) rfl ?_
        refine z_getN 86 zc1 1 1 fl_8_91 X dX8_at_86 hw rfl (by decide) rfl ?_
        refine z_getN 89 zc7 4 5 fl_8_179 X dX8_at_89 hw rfl (by decide) rfl ?_
        refine z_goto 92 105 X dX8_at_92 (by decide) ?_
        cases hF
        exact z_iret 105 X dX8_at_105 hw rfl rfl
    · replace hF := zneg c4 hF
      refine z_iload_n 17 X dX8_at_17 hl 2 rfl ?_
      refine z_iconst 18 1 X dX8_at_18 (by decide) ?_
      refine z_icmp_eq 19 25 X dX8_at_19 (by decide) (fun c19 => ?_) (fun c19 => ?_)
      · replace hF := zpos c19 hF
        refine z_aload_n 25 X dX8_at_25 hl 0 rfl ?_
        refine z_get 26 zc8 0 0 fl_8_12 X dX8_at_26 hw rfl (by decide) rfl ?_
        refine z_iload_n 29 X dX8_at_29 hl 1 rfl ?_
        obtain ⟨u20, e21, hF⟩ := zbd hF
        refine z_callV 30 zc5 mv_X5_blockOf ml_8_98 7 [7] (zw_22 cA 0 a_this a_this_row a_this_coding a_this_trial a_this_pad a_this_history a_this_slots a_this_coding_prices a_this_coding_stream a_this_coding_exponents a_this_coding_skips a_this_coding_skips_cells a_this_coding_stream_cells a_this_coding_stream_cells_cells a_this_row_numbers a_this_row_numbers_cells g_coding_skips_cells v_coding_stream_length v_coding_stream_start v_coding_stream_next v_coding_stream_exponent v_coding_stream_number g_coding_stream_cells_cells v_row_length v_row_blockSize v_row_ones g_row_numbers_cells) [] (m_X5_blockOf l D cA a_this_row a_this_row_numbers v_row_length v_row_blockSize v_row_ones i1 u20 e21) X dX8_at_30 hw hl rfl rfl rfl (by decide) rfl rfl rfl (Nat.le_of_ble_eq_true rfl) ⟨Nat.le_of_ble_eq_true rfl, Nat.le_of_ble_eq_true rfl⟩ ⟨Nat.zero_le _, Nat.zero_le _⟩ (fun H locs hw => ?_)
        refine z_istore_n 33 [(3, .int u20), (0, .ref a_this), (1, .int i1), (2, .int i2)] X dX8_at_33 hl (by decide) rfl (fun ls hl => ?_)
        refine z_aload_n 34 X dX8_at_34 hl 1 rfl ?_
        refine z_iload_n 35 X dX8_at_35 hl 0 rfl ?_
        obtain ⟨u22, e23, hF⟩ := zbd hF
        refine z_callV 36 zc8 mv_X8_openBlock ml_8_173 0 [0, 1, 2, 3, 4, 5, 6, 7, 8, 9] (zw_22 cA 0 a_this a_this_row a_this_coding a_this_trial a_this_pad a_this_history a_this_slots a_this_coding_prices a_this_coding_stream a_this_coding_exponents a_this_coding_skips a_this_coding_skips_cells a_this_coding_stream_cells a_this_coding_stream_cells_cells a_this_row_numbers a_this_row_numbers_cells g_coding_skips_cells v_coding_stream_length u22.1 u22.2.1 u22.2.2.1 u22.2.2.2 g_coding_stream_cells_cells v_row_length v_row_blockSize v_row_ones g_row_numbers_cells) [] (m_X8_openBlock l D cA a_this a_this_row a_this_coding a_this_trial a_this_pad a_this_history a_this_slots a_this_coding_prices a_this_coding_stream a_this_coding_exponents a_this_coding_skips a_this_coding_skips_cells a_this_coding_stream_cells a_this_coding_stream_cells_cells a_this_row_numbers a_this_row_numbers_cells g_coding_skips_cells v_coding_stream_length v_coding_stream_start v_coding_stream_next v_coding_stream_exponent v_coding_stream_number g_coding_stream_cells_cells v_row_length v_row_blockSize v_row_ones g_row_numbers_cells u20 u22 e23) X dX8_at_36 hw hl rfl rfl rfl (by decide) rfl rfl rfl (Nat.le_of_ble_eq_true rfl) ⟨Nat.le_of_ble_eq_true rfl, Nat.le_of_ble_eq_true rfl⟩ ⟨Nat.zero_le _, Nat.zero_le _⟩ (fun H locs hw => ?_)
        refine z_aload_n 39 X dX8_at_39 hl 1 rfl ?_
        refine z_get 40 zc8 0 0 fl_8_12 X dX8_at_40 hw rfl (by decide) rfl ?_
        refine z_iload_n 43 X dX8_at_43 hl 0 rfl ?_
        obtain ⟨u24, e25, hF⟩ := zbd hF
        refine z_callV 44 zc5 mv_X5_firstOf ml_8_130 7 [7] (zw_22 cA 0 a_this a_this_row a_this_coding a_this_trial a_this_pad a_this_history a_this_slots a_this_coding_prices a_this_coding_stream a_this_coding_exponents a_this_coding_skips a_this_coding_skips_cells a_this_coding_stream_cells a_this_coding_stream_cells_cells a_this_row_numbers a_this_row_numbers_cells g_coding_skips_cells v_coding_stream_length u22.1 u22.2.1 u22.2.2.1 u22.2.2.2 g_coding_stream_cells_cells v_row_length v_row_blockSize v_row_ones g_row_numbers_cells) [] (m_X5_firstOf l D cA a_this_row a_this_row_numbers v_row_length v_row_blockSize v_row_ones u20 u24 e25) X dX8_at_44 hw hl rfl rfl rfl (by decide) rfl rfl rfl (Nat.le_of_ble_eq_true rfl) ⟨Nat.le_of_ble_eq_true rfl, Nat.le_of_ble_eq_true rfl⟩ ⟨Nat.zero_le _, Nat.zero_le _⟩ (fun H locs hw => ?_)
        refine z_istore 47 [(4, .int u24), (3, .int u20), (0, .ref a_this), (1, .int i1), (2, .int i2)] X dX8_at_47 hl (by decide) rfl (fun ls hl => ?_)
        refine l_X8_at_49 l D cA a_this a_this_row a_this_coding a_this_trial a_this_pad a_this_history a_this_slots a_this_coding_prices a_this_coding_stream a_this_coding_exponents a_this_coding_skips a_this_coding_skips_cells a_this_coding_stream_cells a_this_coding_stream_cells_cells a_this_row_numbers a_this_row_numbers_cells g_coding_skips_cells v_coding_stream_length u22.1 u22.2.2.1 g_coding_stream_cells_cells v_row_length v_row_blockSize v_row_ones g_row_numbers_cells i1 i2 out X _ (fun v_coding_stream_next_26 v_coding_stream_number_27 H locs ls hw hl hF => ?_) zFuel u22.2.1 u22.2.2.2 u24 H locs ls hw (lv_sub hl [2, 3, 4, 0] rfl) hF
        refine z_iload_n 78 X dX8_at_78 hl 1 rfl ?_
        refine z_if_ne 79 95 X dX8_at_79 (by decide) (fun c28 => ?_) (fun c28 => ?_)
        · replace hF := zneg c28 hF
          refine z_aload_n 95 X dX8_at_95 hl 0 rfl ?_
          refine z_get 96 zc8 0 1 fl_8_19 X dX8_at_96 hw rfl (by decide) rfl ?_
          refine z_getN 99 zc1 1 1 fl_8_91 X dX8_at_99 hw rfl (by decide) rfl ?_
          obtain ⟨u29, e30, hF⟩ := zbd hF
          refine z_callV 102 zc7 mv_X7_bitsRead ml_8_181 4 [4] (zw_22 cA 0 a_this a_this_row a_this_coding a_this_trial a_this_pad a_this_history a_this_slots a_this_coding_prices a_this_coding_stream a_this_coding_exponents a_this_coding_skips a_this_coding_skips_cells a_this_coding_stream_cells a_this_coding_stream_cells_cells a_this_row_numbers a_this_row_numbers_cells g_coding_skips_cells v_coding_stream_length u22.1 v_coding_stream_next_26 u22.2.2.1 v_coding_stream_number_27 g_coding_stream_cells_cells v_row_length v_row_blockSize v_row_ones g_row_numbers_cells) [] (m_X7_bitsRead l D cA a_this_coding_stream a_this_coding_stream_cells v_coding_stream_length u22.1 v_coding_stream_next_26 u22.2.2.1 v_coding_stream_number_27 u29 e30) X dX8_at_102 hw hl rfl rfl rfl (by decide) rfl rfl rfl (Nat.le_of_ble_eq_true rfl) ⟨Nat.le_of_ble_eq_true rfl, Nat.le_of_ble_eq_true rfl⟩ ⟨Nat.zero_le _, Nat.zero_le _⟩ (fun H locs hw => ?_)
          cases hF
          exact z_iret 105 X dX8_at_105 hw rfl rfl
        · replace hF := zpos c28 hF
          refine z_aload_n 82 X dX8_at_82 hl 0 rfl ?_
          refine z_get 83 zc8 0 1 fl_8_19 X dX8_at_83 hw rfl (by decide) rfl ?_
          refine z_getN 86 zc1 1 1 fl_8_91 X dX8_at_86 hw rfl (by decide) rfl ?_
          refine z_getN 89 zc7 4 5 fl_8_179 X dX8_at_89 hw rfl (by decide) rfl ?_
          refine z_goto 92 105 X dX8_at_92 (by decide) ?_
          cases hF
          exact z_iret 105 X dX8_at_105 hw rfl rfl
      · replace hF := zneg c19 hF
        refine z_bipush 22 (-2) X dX8_at_22 (by decide) ?_
        cases hF
        exact z_iret 24 X dX8_at_24 hw rfl rfl
  · replace hF := zpos c3 hF
    refine z_iconst 11 (-1) X dX8_at_11 (by decide) ?_
    cases hF
    exact z_iret 12 X dX8_at_12 hw rfl rfl
theorem dX8_readUpTo_0 : decode cX8_readUpTo 0 = .ok (.aload_n 0, 1) := by decide +kernel
theorem dX8_readUpTo_1 : decode cX8_readUpTo 1 = .ok (.getfield 12, 3) := by decide +kernel
theorem dX8_readUpTo_4 : decode cX8_readUpTo 4 = .ok (.iload_n 2, 1) := by decide +kernel
theorem dX8_readUpTo_5 : decode cX8_readUpTo 5 = .ok (.invokevirtual 133, 3) := by decide +kernel
theorem dX8_readUpTo_8 : decode cX8_readUpTo 8 = .ok (.istore_n 3, 1) := by decide +kernel
theorem dX8_readUpTo_9 : decode cX8_readUpTo 9 = .ok (.aload_n 0, 1) := by decide +kernel
theorem dX8_readUpTo_10 : decode cX8_readUpTo 10 = .ok (.iload_n 2, 1) := by decide +kernel
theorem dX8_readUpTo_11 : decode cX8_readUpTo 11 = .ok (.invokevirtual 173, 3) := by decide +kernel
theorem dX8_readUpTo_14 : decode cX8_readUpTo 14 = .ok (.aload_n 0, 1) := by decide +kernel
theorem dX8_readUpTo_15 : decode cX8_readUpTo 15 = .ok (.getfield 12, 3) := by decide +kernel
theorem dX8_readUpTo_18 : decode cX8_readUpTo 18 = .ok (.iload_n 2, 1) := by decide +kernel
theorem dX8_readUpTo_19 : decode cX8_readUpTo 19 = .ok (.invokevirtual 130, 3) := by decide +kernel
theorem dX8_readUpTo_22 : decode cX8_readUpTo 22 = .ok (.istore 4, 2) := by decide +kernel
theorem dX8_readUpTo_24 : decode cX8_readUpTo 24 = .ok (.iload 4, 2) := by decide +kernel
theorem dX8_readUpTo_26 : decode cX8_readUpTo 26 = .ok (.iload_n 3, 1) := by decide +kernel
theorem dX8_readUpTo_27 : decode cX8_readUpTo 27 = .ok (.if_icmp .ge 43, 3) := by decide +kernel
theorem dX8_readUpTo_30 : decode cX8_readUpTo 30 = .ok (.aload_n 0, 1) := by decide +kernel
theorem dX8_readUpTo_31 : decode cX8_readUpTo 31 = .ok (.getfield 19, 3) := by decide +kernel
theorem dX8_readUpTo_34 : decode cX8_readUpTo 34 = .ok (.getfield 91, 3) := by decide +kernel
theorem dX8_readUpTo_37 : decode cX8_readUpTo 37 = .ok (.aload_n 0, 1) := by decide +kernel
theorem dX8_readUpTo_38 : decode cX8_readUpTo 38 = .ok (.getfield 12, 3) := by decide +kernel
theorem dX8_readUpTo_41 : decode cX8_readUpTo 41 = .ok (.getfield 113, 3) := by decide +kernel
theorem dX8_readUpTo_44 : decode cX8_readUpTo 44 = .ok (.invokevirtual 176, 3) := by decide +kernel
theorem dX8_readUpTo_47 : decode cX8_readUpTo 47 = .ok (.aload_n 0, 1) := by decide +kernel
theorem dX8_readUpTo_48 : decode cX8_readUpTo 48 = .ok (.getfield 19, 3) := by decide +kernel
theorem dX8_readUpTo_51 : decode cX8_readUpTo 51 = .ok (.getfield 91, 3) := by decide +kernel
theorem dX8_readUpTo_54 : decode cX8_readUpTo 54 = .ok (.getfield 179, 3) := by decide +kernel
theorem dX8_readUpTo_57 : decode cX8_readUpTo 57 = .ok (.iload_n 1, 1) := by decide +kernel
theorem dX8_readUpTo_58 : decode cX8_readUpTo 58 = .ok (.if_icmp .lt 6, 3) := by decide +kernel
theorem dX8_readUpTo_61 : decode cX8_readUpTo 61 = .ok (.iload 4, 2) := by decide +kernel
theorem dX8_readUpTo_63 : decode cX8_readUpTo 63 = .ok (.ireturn, 1) := by decide +kernel
theorem dX8_readUpTo_64 : decode cX8_readUpTo 64 = .ok (.iinc 4 1, 3) := by decide +kernel
theorem dX8_readUpTo_67 : decode cX8_readUpTo 67 = .ok (.goto (-43), 3) := by decide +kernel
theorem dX8_readUpTo_70 : decode cX8_readUpTo 70 = .ok (.iload_n 3, 1) := by decide +kernel
theorem dX8_readUpTo_71 : decode cX8_readUpTo 71 = .ok (.ireturn, 1) := by decide +kernel
set_option maxHeartbeats 4000000 in
set_option maxRecDepth 100000 in
theorem l_X8_readUpTo_24 (l : Launch) (D : va_G) (cA : ClassId) (a_this a_this_row a_this_coding a_this_trial a_this_pad a_this_history a_this_slots a_this_coding_prices a_this_coding_stream a_this_coding_exponents a_this_coding_skips a_this_coding_skips_cells a_this_coding_stream_cells a_this_coding_stream_cells_cells a_this_row_numbers a_this_row_numbers_cells : Nat) (g_coding_skips_cells : Ar) (v_coding_stream_length : Int32) (v_coding_stream_start : Int32) (v_coding_stream_exponent : Int32) (g_coding_stream_cells_cells : Ar) (v_row_length : Int32) (v_row_blockSize : Int32) (v_row_ones : Int32) (g_row_numbers_cells : Ar) (i1 : Int32) (i3 : Int32) (out : Int32 × Int32 × Int32 × Int32 × Int32) {p : Program} {e : Env} {s : State} {m : MethodId} {args : Array Value} {below : List Frame} {meth : Method} {c : Code} {A : Nat → Prop} (X : zX D cA p s m args meth c cX8_readUpTo 5 RX8 (some .int)) (k : Int32 → Int32 → Option (Int32 × Int32 × Int32 × Int32 × Int32)) (hk : ∀ (v_coding_stream_next : Int32) (v_coding_stream_number : Int32) (H : Heap) (locs : List Loc) (ls : Array Slot), zH D A s (zw_22 cA 0 a_this a_this_row a_this_coding a_this_trial a_this_pad a_this_history a_this_slots a_this_coding_prices a_this_coding_stream a_this_coding_exponents a_this_coding_skips a_this_coding_skips_cells a_this_coding_stream_cells a_this_coding_stream_cells_cells a_this_row_numbers a_this_row_numbers_cells g_coding_skips_cells v_coding_stream_length v_coding_stream_start v_coding_stream_next v_coding_stream_exponent v_coding_stream_number g_coding_stream_cells_cells v_row_length v_row_blockSize v_row_ones g_row_numbers_cells) H locs → lv_has ls 5 [(3, .int i3)] → k v_coding_stream_next v_coding_stream_number = some out → W p l e (zR 5 108) s m args below meth c H locs 0 0 (MQ below (zQ D (zw_22 cA 0 a_this a_this_row a_this_coding a_this_trial a_this_pad a_this_history a_this_slots a_this_coding_prices a_this_coding_stream a_this_coding_exponents a_this_coding_skips a_this_coding_skips_cells a_this_coding_stream_cells a_this_coding_stream_cells_cells a_this_row_numbers a_this_row_numbers_cells g_coding_skips_cells v_coding_stream_length out.2.1 out.2.2.1 out.2.2.2.1 out.2.2.2.2 g_coding_stream_cells_cells v_row_length v_row_blockSize v_row_ones g_row_numbers_cells) (some (.int out.1)) A) args s 0 0 A) (F0 m 70 ls [])) :
    ∀ (fuel : Nat) (v_coding_stream_next : Int32) (v_coding_stream_number : Int32) (i4 : Int32) (H : Heap) (locs : List Loc) (ls : Array Slot), zH D A s (zw_22 cA 0 a_this a_this_row a_this_coding a_this_trial a_this_pad a_this_history a_this_slots a_this_coding_prices a_this_coding_stream a_this_coding_exponents a_this_coding_skips a_this_coding_skips_cells a_this_coding_stream_cells a_this_coding_stream_cells_cells a_this_row_numbers a_this_row_numbers_cells g_coding_skips_cells v_coding_stream_length v_coding_stream_start v_coding_stream_next v_coding_stream_exponent v_coding_stream_number g_coding_stream_cells_cells v_row_length v_row_blockSize v_row_ones g_row_numbers_cells) H locs → lv_has ls 5 [(0, .ref a_this), (1, .int i1), (3, .int i3), (4, .int i4)] → F_X8_readUpTo_L24 v_coding_stream_length v_coding_stream_start v_coding_stream_exponent g_coding_stream_cells_cells v_row_ones i1 i3 k fuel v_coding_stream_next v_coding_stream_number i4 = some out → W p l e (zR 5 108) s m args below meth c H locs 0 0 (MQ below (zQ D (zw_22 cA 0 a_this a_this_row a_this_coding a_this_trial a_this_pad a_this_history a_this_slots a_this_coding_prices a_this_coding_stream a_this_coding_exponents a_this_coding_skips a_this_coding_skips_cells a_this_coding_stream_cells a_this_coding_stream_cells_cells a_this_row_numbers a_this_row_numbers_cells g_coding_skips_cells v_coding_stream_length out.2.1 out.2.2.1 out.2.2.2.1 out.2.2.2.2 g_coding_stream_cells_cells v_row_length v_row_blockSize v_row_ones g_row_numbers_cells) (some (.int out.1)) A) args s 0 0 A) (F0 m 24 ls []) := by
  intro fuel
  induction fuel with
  | zero => intro v_coding_stream_next v_coding_stream_number i4 H locs ls hw hl hF; exact nomatch (show (none : Option (Int32 × Int32 × Int32 × Int32 × Int32)) = some out from hF)
  | succ fuel ih =>
    intro v_coding_stream_next v_coding_stream_number i4 H locs ls hw hl hF
    rw [F_X8_readUpTo_L24] at hF
    refine z_iload 24 X dX8_readUpTo_24 hl 3 rfl ?_
    refine z_iload_n 26 X dX8_readUpTo_26 hl 2 rfl ?_
    refine z_icmp_ge 27 70 X dX8_readUpTo_27 (by decide) (fun c7 => ?_) (fun c7 => ?_)
    · replace hF := zpos c7 hF
      exact hk v_coding_stream_next v_coding_stream_number H locs ls hw (lv_sub hl [2] rfl) hF
    · replace hF := zneg c7 hF
      refine z_aload_n 30 X dX8_readUpTo_30 hl 0 rfl ?_
      refine z_get 31 zc8 0 1 fl_8_19 X dX8_readUpTo_31 hw rfl (by decide) rfl ?_
      refine z_getN 34 zc1 1 1 fl_8_91 X dX8_readUpTo_34 hw rfl (by decide) rfl ?_
      refine z_aload_n 37 X dX8_readUpTo_37 hl 0 rfl ?_
      refine z_get 38 zc8 0 0 fl_8_12 X dX8_readUpTo_38 hw rfl (by decide) rfl ?_
      refine z_getN 41 zc5 7 3 fl_8_113 X dX8_readUpTo_41 hw rfl (by decide) rfl ?_
      obtain ⟨u8, e9, hF⟩ := zbd hF
      refine z_callV 44 zc7 mv_X7_readNumber ml_8_176 4 [4, 5, 6] (zw_22 cA 0 a_this a_this_row a_this_coding a_this_trial a_this_pad a_this_history a_this_slots a_this_coding_prices a_this_coding_stream a_this_coding_exponents a_this_coding_skips a_this_coding_skips_cells a_this_coding_stream_cells a_this_coding_stream_cells_cells a_this_row_numbers a_this_row_numbers_cells g_coding_skips_cells v_coding_stream_length v_coding_stream_start u8.1 v_coding_stream_exponent u8.2 g_coding_stream_cells_cells v_row_length v_row_blockSize v_row_ones g_row_numbers_cells) [] (m_X7_readNumber l D cA a_this_coding_stream a_this_coding_stream_cells a_this_coding_stream_cells_cells v_coding_stream_length v_coding_stream_start v_coding_stream_next v_coding_stream_exponent v_coding_stream_number g_coding_stream_cells_cells v_row_ones u8 e9) X dX8_readUpTo_44 hw hl rfl rfl rfl (by decide) rfl rfl rfl (Nat.le_of_ble_eq_true rfl) ⟨Nat.le_of_ble_eq_true rfl, Nat.le_of_ble_eq_true rfl⟩ ⟨Nat.zero_le _, Nat.zero_le _⟩ (fun H locs hw => ?_)
      refine z_aload_n 47 X dX8_readUpTo_47 hl 0 rfl ?_
      refine z_get 48 zc8 0 1 fl_8_19 X dX8_readUpTo_48 hw rfl (by decide) rfl ?_
      refine z_getN 51 zc1 1 1 fl_8_91 X dX8_readUpTo_51 hw rfl (by decide) rfl ?_
      refine z_getN 54 zc7 4 5 fl_8_179 X dX8_readUpTo_54 hw rfl (by decide) rfl ?_
      refine z_iload_n 57 X dX8_readUpTo_57 hl 1 rfl ?_
      refine z_icmp_lt 58 64 X dX8_readUpTo_58 (by decide) (fun c10 => ?_) (fun c10 => ?_)
      · replace hF := zpos c10 hF
        refine z_iinc2 64 1 [(4, .int (i4 + 1)), (0, .ref a_this), (1, .int i1), (3, .int i3)] X dX8_readUpTo_64 hl 3 rfl (by decide) (by decide) rfl (fun ls hl => ?_)
        refine z_goto 67 24 X dX8_readUpTo_67 (by decide) ?_
        exact ih u8.1 u8.2 (i4 + 1) H locs ls hw (lv_sub hl [1, 2, 3, 0] rfl) hF
      · replace hF := zneg c10 hF
        refine z_iload 61 X dX8_readUpTo_61 hl 3 rfl ?_
        cases hF
        exact z_iret 63 X dX8_readUpTo_63 hw rfl rfl
set_option maxHeartbeats 4000000 in
set_option maxRecDepth 100000 in
theorem m_X8_readUpTo (l : Launch) (D : va_G) (cA : ClassId) (a_this a_this_row a_this_coding a_this_trial a_this_pad a_this_history a_this_slots a_this_coding_prices a_this_coding_stream a_this_coding_exponents a_this_coding_skips a_this_coding_skips_cells a_this_coding_stream_cells a_this_coding_stream_cells_cells a_this_row_numbers a_this_row_numbers_cells : Nat) (g_coding_skips_cells : Ar) (v_coding_stream_length : Int32) (v_coding_stream_start : Int32) (v_coding_stream_next : Int32) (v_coding_stream_exponent : Int32) (v_coding_stream_number : Int32) (g_coding_stream_cells_cells : Ar) (v_row_length : Int32) (v_row_blockSize : Int32) (v_row_ones : Int32) (g_row_numbers_cells : Ar) (i1 : Int32) (i2 : Int32) (out : Int32 × Int32 × Int32 × Int32 × Int32) (hF : F_X8_readUpTo g_coding_skips_cells v_coding_stream_length v_coding_stream_start v_coding_stream_next v_coding_stream_exponent v_coding_stream_number g_coding_stream_cells_cells v_row_length v_row_blockSize v_row_ones g_row_numbers_cells i1 i2 = some out) : zM l D cA yX8_readUpTo cX8_readUpTo 5 (some .int) 5 108 [.ref a_this, .int i1, .int i2] (zw_22 cA 0 a_this a_this_row a_this_coding a_this_trial a_this_pad a_this_history a_this_slots a_this_coding_prices a_this_coding_stream a_this_coding_exponents a_this_coding_skips a_this_coding_skips_cells a_this_coding_stream_cells a_this_coding_stream_cells_cells a_this_row_numbers a_this_row_numbers_cells g_coding_skips_cells v_coding_stream_length v_coding_stream_start v_coding_stream_next v_coding_stream_exponent v_coding_stream_number g_coding_stream_cells_cells v_row_length v_row_blockSize v_row_ones g_row_numbers_cells) (zw_22 cA 0 a_this a_this_row a_this_coding a_this_trial a_this_pad a_this_history a_this_slots a_this_coding_prices a_this_coding_stream a_this_coding_exponents a_this_coding_skips a_this_coding_skips_cells a_this_coding_stream_cells a_this_coding_stream_cells_cells a_this_row_numbers a_this_row_numbers_cells g_coding_skips_cells v_coding_stream_length out.2.1 out.2.2.1 out.2.2.2.1 out.2.2.2.2 g_coding_stream_cells_cells v_row_length v_row_blockSize v_row_ones g_row_numbers_cells) (some (.int out.1)) := by
  refine z_body (by decide) (Nat.le_of_ble_eq_true rfl) ?_
  intro p e s m args below meth c ls H locs A X hl hw
  have hl : lv_has ls 5 [(0, .ref a_this), (1, .int i1), (2, .int i2)] := hl
  unfold F_X8_readUpTo at hF
  refine z_aload_n 0 X dX8_readUpTo_0 hl 0 rfl ?_
  refine z_get 1 zc8 0 0 fl_8_12 X dX8_readUpTo_1 hw rfl (by decide) rfl ?_
  refine z_iload_n 4 X dX8_readUpTo_4 hl 2 rfl ?_
  obtain ⟨u1, e2, hF⟩ := zbd hF
  refine z_callV 5 zc5 mv_X5_endOf ml_8_133 7 [7] (zw_22 cA 0 a_this a_this_row a_this_coding a_this_trial a_this_pad a_this_history a_this_slots a_this_coding_prices a_this_coding_stream a_this_coding_exponents a_this_coding_skips a_this_coding_skips_cells a_this_coding_stream_cells a_this_coding_stream_cells_cells a_this_row_numbers a_this_row_numbers_cells g_coding_skips_cells v_coding_stream_length v_coding_stream_start v_coding_stream_next v_coding_stream_exponent v_coding_stream_number g_coding_stream_cells_cells v_row_length v_row_blockSize v_row_ones g_row_numbers_cells) [] (m_X5_endOf l D cA a_this_row a_this_row_numbers v_row_length v_row_blockSize v_row_ones i2 u1 e2) X dX8_readUpTo_5 hw hl rfl rfl rfl (by decide) rfl rfl rfl (Nat.le_of_ble_eq_true rfl) ⟨Nat.le_of_ble_eq_true rfl, Nat.le_of_ble_eq_true rfl⟩ ⟨Nat.zero_le _, Nat.zero_le _⟩ (fun H locs hw => ?_)
  refine z_istore_n 8 [(3, .int u1), (0, .ref a_this), (1, .int i1), (2, .int i2)] X dX8_readUpTo_8 hl (by decide) rfl (fun ls hl => ?_)
  refine z_aload_n 9 X dX8_readUpTo_9 hl 1 rfl ?_
  refine z_iload_n 10 X dX8_readUpTo_10 hl 3 rfl ?_
  obtain ⟨u3, e4, hF⟩ := zbd hF
  refine z_callV 11 zc8 mv_X8_openBlock ml_8_173 0 [0, 1, 2, 3, 4, 5, 6, 7, 8, 9] (zw_22 cA 0 a_this a_this_row a_this_coding a_this_trial a_this_pad a_this_history a_this_slots a_this_coding_prices a_this_coding_stream a_this_coding_exponents a_this_coding_skips a_this_coding_skips_cells a_this_coding_stream_cells a_this_coding_stream_cells_cells a_this_row_numbers a_this_row_numbers_cells g_coding_skips_cells v_coding_stream_length u3.1 u3.2.1 u3.2.2.1 u3.2.2.2 g_coding_stream_cells_cells v_row_length v_row_blockSize v_row_ones g_row_numbers_cells) [] (m_X8_openBlock l D cA a_this a_this_row a_this_coding a_this_trial a_this_pad a_this_history a_this_slots a_this_coding_prices a_this_coding_stream a_this_coding_exponents a_this_coding_skips a_this_coding_skips_cells a_this_coding_stream_cells a_this_coding_stream_cells_cells a_this_row_numbers a_this_row_numbers_cells g_coding_skips_cells v_coding_stream_length v_coding_stream_start v_coding_stream_next v_coding_stream_exponent v_coding_stream_number g_coding_stream_cells_cells v_row_length v_row_blockSize v_row_ones g_row_numbers_cells i2 u3 e4) X dX8_readUpTo_11 hw hl rfl rfl rfl (by decide) rfl rfl rfl (Nat.le_of_ble_eq_true rfl) ⟨Nat.le_of_ble_eq_true rfl, Nat.le_of_ble_eq_true rfl⟩ ⟨Nat.zero_le _, Nat.zero_le _⟩ (fun H locs hw => ?_)
  refine z_aload_n 14 X dX8_readUpTo_14 hl 1 rfl ?_
  refine z_get 15 zc8 0 0 fl_8_12 X dX8_readUpTo_15 hw rfl (by decide) rfl ?_
  refine z_iload_n 18 X dX8_readUpTo_18 hl 3 rfl ?_
  obtain ⟨u5, e6, hF⟩ := zbd hF
  refine z_callV 19 zc5 mv_X5_firstOf ml_8_130 7 [7] (zw_22 cA 0 a_this a_this_row a_this_coding a_this_trial a_this_pad a_this_history a_this_slots a_this_coding_prices a_this_coding_stream a_this_coding_exponents a_this_coding_skips a_this_coding_skips_cells a_this_coding_stream_cells a_this_coding_stream_cells_cells a_this_row_numbers a_this_row_numbers_cells g_coding_skips_cells v_coding_stream_length u3.1 u3.2.1 u3.2.2.1 u3.2.2.2 g_coding_stream_cells_cells v_row_length v_row_blockSize v_row_ones g_row_numbers_cells) [] (m_X5_firstOf l D cA a_this_row a_this_row_numbers v_row_length v_row_blockSize v_row_ones i2 u5 e6) X dX8_readUpTo_19 hw hl rfl rfl rfl (by decide) rfl rfl rfl (Nat.le_of_ble_eq_true rfl) ⟨Nat.le_of_ble_eq_true rfl, Nat.le_of_ble_eq_true rfl⟩ ⟨Nat.zero_le _, Nat.zero_le _⟩ (fun H locs hw => ?_)
  refine z_istore 22 [(4, .int u5), (3, .int u1), (0, .ref a_this), (1, .int i1), (2, .int i2)] X dX8_readUpTo_22 hl (by decide) rfl (fun ls hl => ?_)
  refine l_X8_readUpTo_24 l D cA a_this a_this_row a_this_coding a_this_trial a_this_pad a_this_history a_this_slots a_this_coding_prices a_this_coding_stream a_this_coding_exponents a_this_coding_skips a_this_coding_skips_cells a_this_coding_stream_cells a_this_coding_stream_cells_cells a_this_row_numbers a_this_row_numbers_cells g_coding_skips_cells v_coding_stream_length u3.1 u3.2.2.1 g_coding_stream_cells_cells v_row_length v_row_blockSize v_row_ones g_row_numbers_cells i1 u1 out X _ (fun v_coding_stream_next_11 v_coding_stream_number_12 H locs ls hw hl hF => ?_) zFuel u3.2.1 u3.2.2.2 u5 H locs ls hw (lv_sub hl [2, 3, 1, 0] rfl) hF
  refine z_iload_n 70 X dX8_readUpTo_70 hl 0 rfl ?_
  cases hF
  exact z_iret 71 X dX8_readUpTo_71 hw rfl rfl
theorem dX8_find_0 : decode cX8_find 0 = .ok (.iload_n 1, 1) := by decide +kernel
theorem dX8_find_1 : decode cX8_find 1 = .ok (.invokestatic 184, 3) := by decide +kernel
theorem dX8_find_4 : decode cX8_find 4 = .ok (.ifCond .eq 12, 3) := by decide +kernel
theorem dX8_find_7 : decode cX8_find 7 = .ok (.iload_n 2, 1) := by decide +kernel
theorem dX8_find_8 : decode cX8_find 8 = .ok (.ifCond .lt 8, 3) := by decide +kernel
theorem dX8_find_11 : decode cX8_find 11 = .ok (.iload_n 2, 1) := by decide +kernel
theorem dX8_find_12 : decode cX8_find 12 = .ok (.iconst 3, 1) := by decide +kernel
theorem dX8_find_13 : decode cX8_find 13 = .ok (.if_icmp .le 6, 3) := by decide +kernel
theorem dX8_find_16 : decode cX8_find 16 = .ok (.bipush (-2), 2) := by decide +kernel
theorem dX8_find_18 : decode cX8_find 18 = .ok (.ireturn, 1) := by decide +kernel
theorem dX8_find_19 : decode cX8_find 19 = .ok (.aload_n 0, 1) := by decide +kernel
theorem dX8_find_20 : decode cX8_find 20 = .ok (.getfield 12, 3) := by decide +kernel
theorem dX8_find_23 : decode cX8_find 23 = .ok (.iload_n 1, 1) := by decide +kernel
theorem dX8_find_24 : decode cX8_find 24 = .ok (.invokevirtual 187, 3) := by decide +kernel
theorem dX8_find_27 : decode cX8_find 27 = .ok (.istore_n 3, 1) := by decide +kernel
theorem dX8_find_28 : decode cX8_find 28 = .ok (.iload_n 3, 1) := by decide +kernel
theorem dX8_find_29 : decode cX8_find 29 = .ok (.bipush (-6), 2) := by decide +kernel
theorem dX8_find_31 : decode cX8_find 31 = .ok (.if_icmp .ne 15, 3) := by decide +kernel
theorem dX8_find_34 : decode cX8_find 34 = .ok (.iload_n 2, 1) := by decide +kernel
theorem dX8_find_35 : decode cX8_find 35 = .ok (.iconst 2, 1) := by decide +kernel
theorem dX8_find_36 : decode cX8_find 36 = .ok (.if_icmp .ne 8, 3) := by decide +kernel
theorem dX8_find_39 : decode cX8_find 39 = .ok (.bipush (-6), 2) := by decide +kernel
theorem dX8_find_41 : decode cX8_find 41 = .ok (.goto 4, 3) := by decide +kernel
theorem dX8_find_44 : decode cX8_find 44 = .ok (.iconst 0, 1) := by decide +kernel
theorem dX8_find_45 : decode cX8_find 45 = .ok (.ireturn, 1) := by decide +kernel
theorem dX8_find_46 : decode cX8_find 46 = .ok (.aload_n 0, 1) := by decide +kernel
theorem dX8_find_47 : decode cX8_find 47 = .ok (.iload_n 1, 1) := by decide +kernel
theorem dX8_find_48 : decode cX8_find 48 = .ok (.iload_n 3, 1) := by decide +kernel
theorem dX8_find_49 : decode cX8_find 49 = .ok (.invokevirtual 190, 3) := by decide +kernel
theorem dX8_find_52 : decode cX8_find 52 = .ok (.istore 4, 2) := by decide +kernel
theorem dX8_find_54 : decode cX8_find 54 = .ok (.iload_n 2, 1) := by decide +kernel
theorem dX8_find_55 : decode cX8_find 55 = .ok (.tableswitch 50 0 2 #[25, 28, 48], 25) := by decide +kernel
theorem dX8_find_80 : decode cX8_find 80 = .ok (.iload 4, 2) := by decide +kernel
theorem dX8_find_82 : decode cX8_find 82 = .ok (.ireturn, 1) := by decide +kernel
theorem dX8_find_83 : decode cX8_find 83 = .ok (.aload_n 0, 1) := by decide +kernel
theorem dX8_find_84 : decode cX8_find 84 = .ok (.getfield 19, 3) := by decide +kernel
theorem dX8_find_87 : decode cX8_find 87 = .ok (.getfield 91, 3) := by decide +kernel
theorem dX8_find_90 : decode cX8_find 90 = .ok (.getfield 179, 3) := by decide +kernel
theorem dX8_find_93 : decode cX8_find 93 = .ok (.iload_n 1, 1) := by decide +kernel
theorem dX8_find_94 : decode cX8_find 94 = .ok (.if_icmp .ne 7, 3) := by decide +kernel
theorem dX8_find_97 : decode cX8_find 97 = .ok (.iconst 1, 1) := by decide +kernel
theorem dX8_find_98 : decode cX8_find 98 = .ok (.goto 4, 3) := by decide +kernel
theorem dX8_find_101 : decode cX8_find 101 = .ok (.iconst 0, 1) := by decide +kernel
theorem dX8_find_102 : decode cX8_find 102 = .ok (.ireturn, 1) := by decide +kernel
theorem dX8_find_103 : decode cX8_find 103 = .ok (.iload_n 3, 1) := by decide +kernel
theorem dX8_find_104 : decode cX8_find 104 = .ok (.ireturn, 1) := by decide +kernel
theorem dX8_find_105 : decode cX8_find 105 = .ok (.aload_n 0, 1) := by decide +kernel
theorem dX8_find_106 : decode cX8_find 106 = .ok (.getfield 19, 3) := by decide +kernel
theorem dX8_find_109 : decode cX8_find 109 = .ok (.getfield 91, 3) := by decide +kernel
theorem dX8_find_112 : decode cX8_find 112 = .ok (.invokevirtual 181, 3) := by decide +kernel
theorem dX8_find_115 : decode cX8_find 115 = .ok (.ireturn, 1) := by decide +kernel
set_option maxHeartbeats 4000000 in
set_option maxRecDepth 100000 in
theorem m_X8_find (l : Launch) (D : va_G) (cA : ClassId) (a_this a_this_row a_this_coding a_this_trial a_this_pad a_this_history a_this_slots a_this_coding_prices a_this_coding_stream a_this_coding_exponents a_this_coding_skips a_this_coding_skips_cells a_this_coding_stream_cells a_this_coding_stream_cells_cells a_this_row_numbers a_this_row_numbers_cells : Nat) (g_coding_skips_cells : Ar) (v_coding_stream_length : Int32) (v_coding_stream_start : Int32) (v_coding_stream_next : Int32) (v_coding_stream_exponent : Int32) (v_coding_stream_number : Int32) (g_coding_stream_cells_cells : Ar) (v_row_length : Int32) (v_row_blockSize : Int32) (v_row_ones : Int32) (g_row_numbers_cells : Ar) (i1 : Int32) (i2 : Int32) (out : Int32 × Int32 × Int32 × Int32 × Int32) (hF : F_X8_find g_coding_skips_cells v_coding_stream_length v_coding_stream_start v_coding_stream_next v_coding_stream_exponent v_coding_stream_number g_coding_stream_cells_cells v_row_length v_row_blockSize v_row_ones g_row_numbers_cells i1 i2 = some out) : zM l D cA yX8_find cX8_find 5 (some .int) 6 132 [.ref a_this, .int i1, .int i2] (zw_22 cA 0 a_this a_this_row a_this_coding a_this_trial a_this_pad a_this_history a_this_slots a_this_coding_prices a_this_coding_stream a_this_coding_exponents a_this_coding_skips a_this_coding_skips_cells a_this_coding_stream_cells a_this_coding_stream_cells_cells a_this_row_numbers a_this_row_numbers_cells g_coding_skips_cells v_coding_stream_length v_coding_stream_start v_coding_stream_next v_coding_stream_exponent v_coding_stream_number g_coding_stream_cells_cells v_row_length v_row_blockSize v_row_ones g_row_numbers_cells) (zw_22 cA 0 a_this a_this_row a_this_coding a_this_trial a_this_pad a_this_history a_this_slots a_this_coding_prices a_this_coding_stream a_this_coding_exponents a_this_coding_skips a_this_coding_skips_cells a_this_coding_stream_cells a_this_coding_stream_cells_cells a_this_row_numbers a_this_row_numbers_cells g_coding_skips_cells v_coding_stream_length out.2.1 out.2.2.1 out.2.2.2.1 out.2.2.2.2 g_coding_stream_cells_cells v_row_length v_row_blockSize v_row_ones g_row_numbers_cells) (some (.int out.1)) := by
  refine z_body (by decide) (Nat.le_of_ble_eq_true rfl) ?_
  intro p e s m args below meth c ls H locs A X hl hw
  have hl : lv_has ls 5 [(0, .ref a_this), (1, .int i1), (2, .int i2)] := hl
  unfold F_X8_find at hF
  refine z_iload_n 0 X dX8_find_0 hl 1 rfl ?_
  obtain ⟨u1, e2, hF⟩ := zbd hF
  refine z_callS 1 mv_X8_isNumber ml_8_184 [] (zw_22 cA 0 a_this a_this_row a_this_coding a_this_trial a_this_pad a_this_history a_this_slots a_this_coding_prices a_this_coding_stream a_this_coding_exponents a_this_coding_skips a_this_coding_skips_cells a_this_coding_stream_cells a_this_coding_stream_cells_cells a_this_row_numbers a_this_row_numbers_cells g_coding_skips_cells v_coding_stream_length v_coding_stream_start v_coding_stream_next v_coding_stream_exponent v_coding_stream_number g_coding_stream_cells_cells v_row_length v_row_blockSize v_row_ones g_row_numbers_cells) [] (m_X8_isNumber l D cA i1 u1 e2) X dX8_find_1 hw hl rfl rfl (by decide) rfl rfl rfl (Nat.le_of_ble_eq_true rfl) ⟨Nat.le_of_ble_eq_true rfl, Nat.le_of_ble_eq_true rfl⟩ ⟨Nat.zero_le _, Nat.zero_le _⟩ (fun H locs hw => ?_)
  refine z_if_eq 4 16 X dX8_find_4 (by decide) (fun c3 => ?_) (fun c3 => ?_)
  · replace hF := zpos c3 hF
    refine z_bipush 16 (-2) X dX8_find_16 (by decide) ?_
    cases hF
    exact z_iret 18 X dX8_find_18 hw rfl rfl
  · replace hF := zneg c3 hF
    refine z_iload_n 7 X dX8_find_7 hl 2 rfl ?_
    refine z_if_lt 8 16 X dX8_find_8 (by decide) (fun c4 => ?_) (fun c4 => ?_)
    · replace hF := zpos c4 hF
      refine z_bipush 16 (-2) X dX8_find_16 (by decide) ?_
      cases hF
      exact z_iret 18 X dX8_find_18 hw rfl rfl
    · replace hF := zneg c4 hF
      refine z_iload_n 11 X dX8_find_11 hl 2 rfl ?_
      refine z_iconst 12 3 X dX8_find_12 (by decide) ?_
      refine z_icmp_le 13 19 X dX8_find_13 (by decide) (fun c5 => ?_) (fun c5 => ?_)
      · replace hF := zpos c5 hF
        refine z_aload_n 19 X dX8_find_19 hl 0 rfl ?_
        refine z_get 20 zc8 0 0 fl_8_12 X dX8_find_20 hw rfl (by decide) rfl ?_
        refine z_iload_n 23 X dX8_find_23 hl 1 rfl ?_
        obtain ⟨u6, e7, hF⟩ := zbd hF
        refine z_callV 24 zc5 mv_X5_blockAround ml_8_187 7 [7, 8, 9] (zw_22 cA 0 a_this a_this_row a_this_coding a_this_trial a_this_pad a_this_history a_this_slots a_this_coding_prices a_this_coding_stream a_this_coding_exponents a_this_coding_skips a_this_coding_skips_cells a_this_coding_stream_cells a_this_coding_stream_cells_cells a_this_row_numbers a_this_row_numbers_cells g_coding_skips_cells v_coding_stream_length v_coding_stream_start v_coding_stream_next v_coding_stream_exponent v_coding_stream_number g_coding_stream_cells_cells v_row_length v_row_blockSize v_row_ones g_row_numbers_cells) [] (m_X5_blockAround l D cA a_this_row a_this_row_numbers a_this_row_numbers_cells v_row_length v_row_blockSize v_row_ones g_row_numbers_cells i1 u6 e7) X dX8_find_24 hw hl rfl rfl rfl (by decide) rfl rfl rfl (Nat.le_of_ble_eq_true rfl) ⟨Nat.le_of_ble_eq_true rfl, Nat.le_of_ble_eq_true rfl⟩ ⟨Nat.zero_le _, Nat.zero_le _⟩ (fun H locs hw => ?_)
        refine z_istore_n 27 [(3, .int u6), (0, .ref a_this), (1, .int i1), (2, .int i2)] X dX8_find_27 hl (by decide) rfl (fun ls hl => ?_)
        refine z_iload_n 28 X dX8_find_28 hl 0 rfl ?_
        refine z_bipush 29 (-6) X dX8_find_29 (by decide) ?_
        refine z_icmp_ne 31 46 X dX8_find_31 (by decide) (fun c8 => ?_) (fun c8 => ?_)
        · replace hF := zneg c8 hF
          refine z_aload_n 46 X dX8_find_46 hl 1 rfl ?_
          refine z_iload_n 47 X dX8_find_47 hl 2 rfl ?_
          refine z_iload_n 48 X dX8_find_48 hl 0 rfl ?_
          obtain ⟨u9, e10, hF⟩ := zbd hF
          refine z_callV 49 zc8 mv_X8_readUpTo ml_8_190 0 [0, 1, 2, 3, 4, 5, 6, 7, 8, 9] (zw_22 cA 0 a_this a_this_row a_this_coding a_this_trial a_this_pad a_this_history a_this_slots a_this_coding_prices a_this_coding_stream a_this_coding_exponents a_this_coding_skips a_this_coding_skips_cells a_this_coding_stream_cells a_this_coding_stream_cells_cells a_this_row_numbers a_this_row_numbers_cells g_coding_skips_cells v_coding_stream_length u9.2.1 u9.2.2.1 u9.2.2.2.1 u9.2.2.2.2 g_coding_stream_cells_cells v_row_length v_row_blockSize v_row_ones g_row_numbers_cells) [] (m_X8_readUpTo l D cA a_this a_this_row a_this_coding a_this_trial a_this_pad a_this_history a_this_slots a_this_coding_prices a_this_coding_stream a_this_coding_exponents a_this_coding_skips a_this_coding_skips_cells a_this_coding_stream_cells a_this_coding_stream_cells_cells a_this_row_numbers a_this_row_numbers_cells g_coding_skips_cells v_coding_stream_length v_coding_stream_start v_coding_stream_next v_coding_stream_exponent v_coding_stream_number g_coding_stream_cells_cells v_row_length v_row_blockSize v_row_ones g_row_numbers_cells i1 u6 u9 e10) X dX8_find_49 hw hl rfl rfl rfl (by decide) rfl rfl rfl (Nat.le_of_ble_eq_true rfl) ⟨Nat.le_of_ble_eq_true rfl, Nat.le_of_ble_eq_true rfl⟩ ⟨Nat.zero_le _, Nat.zero_le _⟩ (fun H locs hw => ?_)
          refine z_istore 52 [(4, .int u9.1), (3, .int u6), (0, .ref a_this), (1, .int i1), (2, .int i2)] X dX8_find_52 hl (by decide) rfl (fun ls hl => ?_)
          refine z_iload_n 54 X dX8_find_54 hl 4 rfl ?_
          by_cases c11 : i2 = 0
          · replace hF := zpos c11 hF
            refine z_swIn 55 80 0 X dX8_find_55 c11 ⟨by decide, by decide, rfl⟩ (by decide) ?_
            refine z_iload 80 X dX8_find_80 hl 0 rfl ?_
            cases hF
            exact z_iret 82 X dX8_find_82 hw rfl rfl
          · replace hF := zneg c11 hF
            by_cases c12 : i2 = 1
            · replace hF := zpos c12 hF
              refine z_swIn 55 83 1 X dX8_find_55 c12 ⟨by decide, by decide, rfl⟩ (by decide) ?_
              refine z_aload_n 83 X dX8_find_83 hl 2 rfl ?_
              refine z_get 84 zc8 0 1 fl_8_19 X dX8_find_84 hw rfl (by decide) rfl ?_
              refine z_getN 87 zc1 1 1 fl_8_91 X dX8_find_87 hw rfl (by decide) rfl ?_
              refine z_getN 90 zc7 4 5 fl_8_179 X dX8_find_90 hw rfl (by decide) rfl ?_
              refine z_iload_n 93 X dX8_find_93 hl 3 rfl ?_
              refine z_icmp_ne 94 101 X dX8_find_94 (by decide) (fun c13 => ?_) (fun c13 => ?_)
              · replace hF := zneg c13 hF
                refine z_iconst 101 0 X dX8_find_101 (by decide) ?_
                cases hF
                exact z_iret 102 X dX8_find_102 hw rfl rfl
              · replace hF := zpos c13 hF
                refine z_iconst 97 1 X dX8_find_97 (by decide) ?_
                refine z_goto 98 102 X dX8_find_98 (by decide) ?_
                cases hF
                exact z_iret 102 X dX8_find_102 hw rfl rfl
            · replace hF := zneg c12 hF
              by_cases c14 : i2 = 2
              · replace hF := zpos c14 hF
                refine z_swIn 55 103 2 X dX8_find_55 c14 ⟨by decide, by decide, rfl⟩ (by decide) ?_
                refine z_iload_n 103 X dX8_find_103 hl 1 rfl ?_
                cases hF
                exact z_iret 104 X dX8_find_104 hw rfl rfl
              · replace hF := zneg c14 hF
                refine z_swOut 55 105 3 X dX8_find_55 (by decide) ⟨⟨⟨trivial, c11⟩, c12⟩, c14⟩ (by decide) ?_
                refine z_aload_n 105 X dX8_find_105 hl 2 rfl ?_
                refine z_get 106 zc8 0 1 fl_8_19 X dX8_find_106 hw rfl (by decide) rfl ?_
                refine z_getN 109 zc1 1 1 fl_8_91 X dX8_find_109 hw rfl (by decide) rfl ?_
                obtain ⟨u15, e16, hF⟩ := zbd hF
                refine z_callV 112 zc7 mv_X7_bitsRead ml_8_181 4 [4] (zw_22 cA 0 a_this a_this_row a_this_coding a_this_trial a_this_pad a_this_history a_this_slots a_this_coding_prices a_this_coding_stream a_this_coding_exponents a_this_coding_skips a_this_coding_skips_cells a_this_coding_stream_cells a_this_coding_stream_cells_cells a_this_row_numbers a_this_row_numbers_cells g_coding_skips_cells v_coding_stream_length u9.2.1 u9.2.2.1 u9.2.2.2.1 u9.2.2.2.2 g_coding_stream_cells_cells v_row_length v_row_blockSize v_row_ones g_row_numbers_cells) [] (m_X7_bitsRead l D cA a_this_coding_stream a_this_coding_stream_cells v_coding_stream_length u9.2.1 u9.2.2.1 u9.2.2.2.1 u9.2.2.2.2 u15 e16) X dX8_find_112 hw hl rfl rfl rfl (by decide) rfl rfl rfl (Nat.le_of_ble_eq_true rfl) ⟨Nat.le_of_ble_eq_true rfl, Nat.le_of_ble_eq_true rfl⟩ ⟨Nat.zero_le _, Nat.zero_le _⟩ (fun H locs hw => ?_)
                cases hF
                exact z_iret 115 X dX8_find_115 hw rfl rfl
        · replace hF := zpos c8 hF
          refine z_iload_n 34 X dX8_find_34 hl 3 rfl ?_
          refine z_iconst 35 2 X dX8_find_35 (by decide) ?_
          refine z_icmp_ne 36 44 X dX8_find_36 (by decide) (fun c17 => ?_) (fun c17 => ?_)
          · replace hF := zneg c17 hF
            refine z_iconst 44 0 X dX8_find_44 (by decide) ?_
            cases hF
            exact z_iret 45 X dX8_find_45 hw rfl rfl
          · replace hF := zpos c17 hF
            refine z_bipush 39 (-6) X dX8_find_39 (by decide) ?_
            refine z_goto 41 45 X dX8_find_41 (by decide) ?_
            cases hF
            exact z_iret 45 X dX8_find_45 hw rfl rfl
      · replace hF := zneg c5 hF
        refine z_bipush 16 (-2) X dX8_find_16 (by decide) ?_
        cases hF
        exact z_iret 18 X dX8_find_18 hw rfl rfl
theorem dX8_cost_0 : decode cX8_cost 0 = .ok (.aload_n 0, 1) := by decide +kernel
theorem dX8_cost_1 : decode cX8_cost 1 = .ok (.getfield 12, 3) := by decide +kernel
theorem dX8_cost_4 : decode cX8_cost 4 = .ok (.iload_n 1, 1) := by decide +kernel
theorem dX8_cost_5 : decode cX8_cost 5 = .ok (.invokevirtual 127, 3) := by decide +kernel
theorem dX8_cost_8 : decode cX8_cost 8 = .ok (.ifCond .ne 5, 3) := by decide +kernel
theorem dX8_cost_11 : decode cX8_cost 11 = .ok (.iconst (-1), 1) := by decide +kernel
theorem dX8_cost_12 : decode cX8_cost 12 = .ok (.ireturn, 1) := by decide +kernel
theorem dX8_cost_13 : decode cX8_cost 13 = .ok (.iload_n 2, 1) := by decide +kernel
theorem dX8_cost_14 : decode cX8_cost 14 = .ok (.ifCond .lt 9, 3) := by decide +kernel
theorem dX8_cost_17 : decode cX8_cost 17 = .ok (.iload_n 2, 1) := by decide +kernel
theorem dX8_cost_18 : decode cX8_cost 18 = .ok (.bipush 16, 2) := by decide +kernel
theorem dX8_cost_20 : decode cX8_cost 20 = .ok (.if_icmp .lt 6, 3) := by decide +kernel
theorem dX8_cost_23 : decode cX8_cost 23 = .ok (.bipush (-2), 2) := by decide +kernel
theorem dX8_cost_25 : decode cX8_cost 25 = .ok (.ireturn, 1) := by decide +kernel
theorem dX8_cost_26 : decode cX8_cost 26 = .ok (.aload_n 0, 1) := by decide +kernel
theorem dX8_cost_27 : decode cX8_cost 27 = .ok (.getfield 19, 3) := by decide +kernel
theorem dX8_cost_30 : decode cX8_cost 30 = .ok (.getfield 136, 3) := by decide +kernel
theorem dX8_cost_33 : decode cX8_cost 33 = .ok (.iload_n 2, 1) := by decide +kernel
theorem dX8_cost_34 : decode cX8_cost 34 = .ok (.aload_n 0, 1) := by decide +kernel
theorem dX8_cost_35 : decode cX8_cost 35 = .ok (.getfield 12, 3) := by decide +kernel
theorem dX8_cost_38 : decode cX8_cost 38 = .ok (.iload_n 1, 1) := by decide +kernel
theorem dX8_cost_39 : decode cX8_cost 39 = .ok (.invokevirtual 130, 3) := by decide +kernel
theorem dX8_cost_42 : decode cX8_cost 42 = .ok (.aload_n 0, 1) := by decide +kernel
theorem dX8_cost_43 : decode cX8_cost 43 = .ok (.getfield 12, 3) := by decide +kernel
theorem dX8_cost_46 : decode cX8_cost 46 = .ok (.iload_n 1, 1) := by decide +kernel
theorem dX8_cost_47 : decode cX8_cost 47 = .ok (.invokevirtual 133, 3) := by decide +kernel
theorem dX8_cost_50 : decode cX8_cost 50 = .ok (.invokevirtual 139, 3) := by decide +kernel
theorem dX8_cost_53 : decode cX8_cost 53 = .ok (.ireturn, 1) := by decide +kernel
set_option maxHeartbeats 4000000 in
set_option maxRecDepth 100000 in
theorem m_X8_cost (l : Launch) (D : va_G) (cA : ClassId) (a_this a_this_row a_this_coding a_this_trial a_this_pad a_this_history a_this_slots a_this_coding_prices a_this_coding_stream a_this_coding_exponents a_this_coding_skips a_this_coding_prices_sums a_this_coding_prices_sums_cells a_this_row_numbers : Nat) (v_coding_prices_length : Int32) (g_coding_prices_sums_cells : Ar) (v_row_length : Int32) (v_row_blockSize : Int32) (v_row_ones : Int32) (i1 : Int32) (i2 : Int32) (out : Int32) (hF : F_X8_cost g_coding_prices_sums_cells v_row_length v_row_blockSize i1 i2 = some out) : zM l D cA yX8_cost cX8_cost 3 (some .int) 3 67 [.ref a_this, .int i1, .int i2] (zw_23 cA 0 a_this a_this_row a_this_coding a_this_trial a_this_pad a_this_history a_this_slots a_this_coding_prices a_this_coding_stream a_this_coding_exponents a_this_coding_skips a_this_coding_prices_sums a_this_coding_prices_sums_cells a_this_row_numbers v_coding_prices_length g_coding_prices_sums_cells v_row_length v_row_blockSize v_row_ones) (zw_23 cA 0 a_this a_this_row a_this_coding a_this_trial a_this_pad a_this_history a_this_slots a_this_coding_prices a_this_coding_stream a_this_coding_exponents a_this_coding_skips a_this_coding_prices_sums a_this_coding_prices_sums_cells a_this_row_numbers v_coding_prices_length g_coding_prices_sums_cells v_row_length v_row_blockSize v_row_ones) (some (.int out)) := by
  refine z_body (by decide) (Nat.le_of_ble_eq_true rfl) ?_
  intro p e s m args below meth c ls H locs A X hl hw
  have hl : lv_has ls 3 [(0, .ref a_this), (1, .int i1), (2, .int i2)] := hl
  unfold F_X8_cost at hF
  refine z_aload_n 0 X dX8_cost_0 hl 0 rfl ?_
  refine z_get 1 zc8 0 0 fl_8_12 X dX8_cost_1 hw rfl (by decide) rfl ?_
  refine z_iload_n 4 X dX8_cost_4 hl 1 rfl ?_
  obtain ⟨u1, e2, hF⟩ := zbd hF
  refine z_callV 5 zc5 mv_X5_hasBlock ml_8_127 5 [5] (zw_23 cA 0 a_this a_this_row a_this_coding a_this_trial a_this_pad a_this_history a_this_slots a_this_coding_prices a_this_coding_stream a_this_coding_exponents a_this_coding_skips a_this_coding_prices_sums a_this_coding_prices_sums_cells a_this_row_numbers v_coding_prices_length g_coding_prices_sums_cells v_row_length v_row_blockSize v_row_ones) [] (m_X5_hasBlock l D cA a_this_row a_this_row_numbers v_row_length v_row_blockSize v_row_ones i1 u1 e2) X dX8_cost_5 hw hl rfl rfl rfl (by decide) rfl rfl rfl (Nat.le_of_ble_eq_true rfl) ⟨Nat.le_of_ble_eq_true rfl, Nat.le_of_ble_eq_true rfl⟩ ⟨Nat.zero_le _, Nat.zero_le _⟩ (fun H locs hw => ?_)
  refine z_if_ne 8 13 X dX8_cost_8 (by decide) (fun c3 => ?_) (fun c3 => ?_)
  · replace hF := zneg c3 hF
    refine z_iload_n 13 X dX8_cost_13 hl 2 rfl ?_
    refine z_if_lt 14 23 X dX8_cost_14 (by decide) (fun c4 => ?_) (fun c4 => ?_)
    · replace hF := zpos c4 hF
      refine z_bipush 23 (-2) X dX8_cost_23 (by decide) ?_
      cases hF
      exact z_iret 25 X dX8_cost_25 hw rfl rfl
    · replace hF := zneg c4 hF
      refine z_iload_n 17 X dX8_cost_17 hl 2 rfl ?_
      refine z_bipush 18 16 X dX8_cost_18 (by decide) ?_
      refine z_icmp_lt 20 26 X dX8_cost_20 (by decide) (fun c5 => ?_) (fun c5 => ?_)
      · replace hF := zpos c5 hF
        refine z_aload_n 26 X dX8_cost_26 hl 0 rfl ?_
        refine z_get 27 zc8 0 1 fl_8_19 X dX8_cost_27 hw rfl (by decide) rfl ?_
        refine z_getN 30 zc1 1 0 fl_8_136 X dX8_cost_30 hw rfl (by decide) rfl ?_
        refine z_iload_n 33 X dX8_cost_33 hl 2 rfl ?_
        refine z_aload_n 34 X dX8_cost_34 hl 0 rfl ?_
        refine z_get 35 zc8 0 0 fl_8_12 X dX8_cost_35 hw rfl (by decide) rfl ?_
        refine z_iload_n 38 X dX8_cost_38 hl 1 rfl ?_
        obtain ⟨u6, e7, hF⟩ := zbd hF
        refine z_callV 39 zc5 mv_X5_firstOf ml_8_130 5 [5] (zw_23 cA 0 a_this a_this_row a_this_coding a_this_trial a_this_pad a_this_history a_this_slots a_this_coding_prices a_this_coding_stream a_this_coding_exponents a_this_coding_skips a_this_coding_prices_sums a_this_coding_prices_sums_cells a_this_row_numbers v_coding_prices_length g_coding_prices_sums_cells v_row_length v_row_blockSize v_row_ones) [.int i2, .ref a_this_coding_prices] (m_X5_firstOf l D cA a_this_row a_this_row_numbers v_row_length v_row_blockSize v_row_ones i1 u6 e7) X dX8_cost_39 hw hl rfl rfl rfl (by decide) rfl rfl rfl (Nat.le_of_ble_eq_true rfl) ⟨Nat.le_of_ble_eq_true rfl, Nat.le_of_ble_eq_true rfl⟩ ⟨Nat.zero_le _, Nat.zero_le _⟩ (fun H locs hw => ?_)
        refine z_aload_n 42 X dX8_cost_42 hl 0 rfl ?_
        refine z_get 43 zc8 0 0 fl_8_12 X dX8_cost_43 hw rfl (by decide) rfl ?_
        refine z_iload_n 46 X dX8_cost_46 hl 1 rfl ?_
        obtain ⟨u8, e9, hF⟩ := zbd hF
        refine z_callV 47 zc5 mv_X5_endOf ml_8_133 5 [5] (zw_23 cA 0 a_this a_this_row a_this_coding a_this_trial a_this_pad a_this_history a_this_slots a_this_coding_prices a_this_coding_stream a_this_coding_exponents a_this_coding_skips a_this_coding_prices_sums a_this_coding_prices_sums_cells a_this_row_numbers v_coding_prices_length g_coding_prices_sums_cells v_row_length v_row_blockSize v_row_ones) [.int u6, .int i2, .ref a_this_coding_prices] (m_X5_endOf l D cA a_this_row a_this_row_numbers v_row_length v_row_blockSize v_row_ones i1 u8 e9) X dX8_cost_47 hw hl rfl rfl rfl (by decide) rfl rfl rfl (Nat.le_of_ble_eq_true rfl) ⟨Nat.le_of_ble_eq_true rfl, Nat.le_of_ble_eq_true rfl⟩ ⟨Nat.zero_le _, Nat.zero_le _⟩ (fun H locs hw => ?_)
        obtain ⟨u10, e11, hF⟩ := zbd hF
        refine z_callV 50 zc4 mv_X4_blockBits ml_8_139 2 [2, 3, 4] (zw_23 cA 0 a_this a_this_row a_this_coding a_this_trial a_this_pad a_this_history a_this_slots a_this_coding_prices a_this_coding_stream a_this_coding_exponents a_this_coding_skips a_this_coding_prices_sums a_this_coding_prices_sums_cells a_this_row_numbers v_coding_prices_length g_coding_prices_sums_cells v_row_length v_row_blockSize v_row_ones) [] (m_X4_blockBits l D cA a_this_coding_prices a_this_coding_prices_sums a_this_coding_prices_sums_cells v_coding_prices_length g_coding_prices_sums_cells i2 u6 u8 u10 e11) X dX8_cost_50 hw hl rfl rfl rfl (by decide) rfl rfl rfl (Nat.le_of_ble_eq_true rfl) ⟨Nat.le_of_ble_eq_true rfl, Nat.le_of_ble_eq_true rfl⟩ ⟨Nat.zero_le _, Nat.zero_le _⟩ (fun H locs hw => ?_)
        cases hF
        exact z_iret 53 X dX8_cost_53 hw rfl rfl
      · replace hF := zneg c5 hF
        refine z_bipush 23 (-2) X dX8_cost_23 (by decide) ?_
        cases hF
        exact z_iret 25 X dX8_cost_25 hw rfl rfl
  · replace hF := zpos c3 hF
    refine z_iconst 11 (-1) X dX8_cost_11 (by decide) ?_
    cases hF
    exact z_iret 12 X dX8_cost_12 hw rfl rfl
theorem dX8_with_0 : decode cX8_with 0 = .ok (.iload_n 1, 1) := by decide +kernel
theorem dX8_with_1 : decode cX8_with 1 = .ok (.iload_n 2, 1) := by decide +kernel
theorem dX8_with_2 : decode cX8_with 2 = .ok (.invokestatic 193, 3) := by decide +kernel
theorem dX8_with_5 : decode cX8_with 5 = .ok (.ifCond .ne 6, 3) := by decide +kernel
theorem dX8_with_8 : decode cX8_with 8 = .ok (.bipush (-2), 2) := by decide +kernel
theorem dX8_with_10 : decode cX8_with 10 = .ok (.ireturn, 1) := by decide +kernel
theorem dX8_with_11 : decode cX8_with 11 = .ok (.iload_n 1, 1) := by decide +kernel
theorem dX8_with_12 : decode cX8_with 12 = .ok (.ifCond .ne 15, 3) := by decide +kernel
theorem dX8_with_15 : decode cX8_with 15 = .ok (.aload_n 0, 1) := by decide +kernel
theorem dX8_with_16 : decode cX8_with 16 = .ok (.getfield 19, 3) := by decide +kernel
theorem dX8_with_19 : decode cX8_with 19 = .ok (.getfield 136, 3) := by decide +kernel
theorem dX8_with_22 : decode cX8_with 22 = .ok (.iload_n 2, 1) := by decide +kernel
theorem dX8_with_23 : decode cX8_with 23 = .ok (.invokevirtual 197, 3) := by decide +kernel
theorem dX8_with_26 : decode cX8_with 26 = .ok (.ireturn, 1) := by decide +kernel
theorem dX8_with_27 : decode cX8_with 27 = .ok (.aload_n 0, 1) := by decide +kernel
theorem dX8_with_28 : decode cX8_with 28 = .ok (.getfield 26, 3) := by decide +kernel
theorem dX8_with_31 : decode cX8_with 31 = .ok (.aload_n 0, 1) := by decide +kernel
theorem dX8_with_32 : decode cX8_with 32 = .ok (.getfield 12, 3) := by decide +kernel
theorem dX8_with_35 : decode cX8_with 35 = .ok (.iload_n 2, 1) := by decide +kernel
theorem dX8_with_36 : decode cX8_with 36 = .ok (.invokevirtual 200, 3) := by decide +kernel
theorem dX8_with_39 : decode cX8_with 39 = .ok (.aload_n 0, 1) := by decide +kernel
theorem dX8_with_40 : decode cX8_with 40 = .ok (.getfield 26, 3) := by decide +kernel
theorem dX8_with_43 : decode cX8_with 43 = .ok (.aload_n 0, 1) := by decide +kernel
theorem dX8_with_44 : decode cX8_with 44 = .ok (.getfield 12, 3) := by decide +kernel
theorem dX8_with_47 : decode cX8_with 47 = .ok (.getfield 168, 3) := by decide +kernel
theorem dX8_with_50 : decode cX8_with 50 = .ok (.invokevirtual 197, 3) := by decide +kernel
theorem dX8_with_53 : decode cX8_with 53 = .ok (.ireturn, 1) := by decide +kernel
set_option maxHeartbeats 4000000 in
set_option maxRecDepth 100000 in
theorem m_X8_with (l : Launch) (D : va_G) (cA : ClassId) (a_this a_this_row a_this_coding a_this_trial a_this_pad a_this_history a_this_slots a_this_coding_prices a_this_coding_stream a_this_coding_exponents a_this_coding_skips a_this_coding_prices_sums a_this_coding_prices_sums_cells a_this_row_numbers a_this_row_numbers_cells a_this_trial_sums a_this_trial_sums_cells : Nat) (v_coding_prices_length : Int32) (g_coding_prices_sums_cells : Ar) (v_row_length : Int32) (v_row_blockSize : Int32) (v_row_ones : Int32) (g_row_numbers_cells : Ar) (v_trial_length : Int32) (g_trial_sums_cells : Ar) (i1 : Int32) (i2 : Int32) (out : Int32 × Int32 × Ar) (hF : F_X8_with v_coding_prices_length g_coding_prices_sums_cells v_row_length v_row_blockSize g_row_numbers_cells v_trial_length g_trial_sums_cells i1 i2 = some out) : zM l D cA yX8_with cX8_with 3 (some .int) 4 95 [.ref a_this, .int i1, .int i2] (zw_24 cA 0 a_this a_this_row a_this_coding a_this_trial a_this_pad a_this_history a_this_slots a_this_coding_prices a_this_coding_stream a_this_coding_exponents a_this_coding_skips a_this_coding_prices_sums a_this_coding_prices_sums_cells a_this_row_numbers a_this_row_numbers_cells a_this_trial_sums a_this_trial_sums_cells v_coding_prices_length g_coding_prices_sums_cells v_row_length v_row_blockSize v_row_ones g_row_numbers_cells v_trial_length g_trial_sums_cells) (zw_24 cA 0 a_this a_this_row a_this_coding a_this_trial a_this_pad a_this_history a_this_slots a_this_coding_prices a_this_coding_stream a_this_coding_exponents a_this_coding_skips a_this_coding_prices_sums a_this_coding_prices_sums_cells a_this_row_numbers a_this_row_numbers_cells a_this_trial_sums a_this_trial_sums_cells v_coding_prices_length g_coding_prices_sums_cells v_row_length v_row_blockSize v_row_ones g_row_numbers_cells out.2.1 out.2.2) (some (.int out.1)) := by
  refine z_body (by decide) (Nat.le_of_ble_eq_true rfl) ?_
  intro p e s m args below meth c ls H locs A X hl hw
  have hl : lv_has ls 3 [(0, .ref a_this), (1, .int i1), (2, .int i2)] := hl
  unfold F_X8_with at hF
  refine z_iload_n 0 X dX8_with_0 hl 1 rfl ?_
  refine z_iload_n 1 X dX8_with_1 hl 2 rfl ?_
  obtain ⟨u1, e2, hF⟩ := zbd hF
  refine z_callS 2 mv_X8_isSetting ml_8_193 [] (zw_24 cA 0 a_this a_this_row a_this_coding a_this_trial a_this_pad a_this_history a_this_slots a_this_coding_prices a_this_coding_stream a_this_coding_exponents a_this_coding_skips a_this_coding_prices_sums a_this_coding_prices_sums_cells a_this_row_numbers a_this_row_numbers_cells a_this_trial_sums a_this_trial_sums_cells v_coding_prices_length g_coding_prices_sums_cells v_row_length v_row_blockSize v_row_ones g_row_numbers_cells v_trial_length g_trial_sums_cells) [] (m_X8_isSetting l D cA i1 i2 u1 e2) X dX8_with_2 hw hl rfl rfl (by decide) rfl rfl rfl (Nat.le_of_ble_eq_true rfl) ⟨Nat.le_of_ble_eq_true rfl, Nat.le_of_ble_eq_true rfl⟩ ⟨Nat.zero_le _, Nat.zero_le _⟩ (fun H locs hw => ?_)
  refine z_if_ne 5 11 X dX8_with_5 (by decide) (fun c3 => ?_) (fun c3 => ?_)
  · replace hF := zneg c3 hF
    refine z_iload_n 11 X dX8_with_11 hl 1 rfl ?_
    refine z_if_ne 12 27 X dX8_with_12 (by decide) (fun c4 => ?_) (fun c4 => ?_)
    · replace hF := zneg c4 hF
      refine z_aload_n 27 X dX8_with_27 hl 0 rfl ?_
      refine z_get 28 zc8 0 2 fl_8_26 X dX8_with_28 hw rfl (by decide) rfl ?_
      refine z_aload_n 31 X dX8_with_31 hl 0 rfl ?_
      refine z_get 32 zc8 0 0 fl_8_12 X dX8_with_32 hw rfl (by decide) rfl ?_
      refine z_iload_n 35 X dX8_with_35 hl 2 rfl ?_
      obtain ⟨u5, e6, hF⟩ := zbd hF
      refine z_callV 36 zc4 mv_X4_fill ml_8_200 8 [8, 9, 10, 5, 6, 7] (zw_24 cA 0 a_this a_this_row a_this_coding a_this_trial a_this_pad a_this_history a_this_slots a_this_coding_prices a_this_coding_stream a_this_coding_exponents a_this_coding_skips a_this_coding_prices_sums a_this_coding_prices_sums_cells a_this_row_numbers a_this_row_numbers_cells a_this_trial_sums a_this_trial_sums_cells v_coding_prices_length g_coding_prices_sums_cells v_row_length v_row_blockSize v_row_ones g_row_numbers_cells u5.1 u5.2) [] (m_X4_fill l D cA a_this_trial a_this_trial_sums a_this_trial_sums_cells a_this_row a_this_row_numbers a_this_row_numbers_cells v_trial_length g_trial_sums_cells v_row_length v_row_blockSize v_row_ones g_row_numbers_cells i2 u5 e6) X dX8_with_36 hw hl rfl rfl rfl (by decide) rfl rfl rfl (Nat.le_of_ble_eq_true rfl) ⟨Nat.le_of_ble_eq_true rfl, Nat.le_of_ble_eq_true rfl⟩ ⟨Nat.zero_le _, Nat.zero_le _⟩ (fun H locs hw => ?_)
      refine z_aload_n 39 X dX8_with_39 hl 0 rfl ?_
      refine z_get 40 zc8 0 2 fl_8_26 X dX8_with_40 hw rfl (by decide) rfl ?_
      refine z_aload_n 43 X dX8_with_43 hl 0 rfl ?_
      refine z_get 44 zc8 0 0 fl_8_12 X dX8_with_44 hw rfl (by decide) rfl ?_
      refine z_getN 47 zc5 5 2 fl_8_168 X dX8_with_47 hw rfl (by decide) rfl ?_
      obtain ⟨u7, e8, hF⟩ := zbd hF
      refine z_callV 50 zc4 mv_X4_streamBits ml_8_197 8 [8, 9, 10] (zw_24 cA 0 a_this a_this_row a_this_coding a_this_trial a_this_pad a_this_history a_this_slots a_this_coding_prices a_this_coding_stream a_this_coding_exponents a_this_coding_skips a_this_coding_prices_sums a_this_coding_prices_sums_cells a_this_row_numbers a_this_row_numbers_cells a_this_trial_sums a_this_trial_sums_cells v_coding_prices_length g_coding_prices_sums_cells v_row_length v_row_blockSize v_row_ones g_row_numbers_cells u5.1 u5.2) [] (m_X4_streamBits l D cA a_this_trial a_this_trial_sums a_this_trial_sums_cells u5.1 u5.2 v_row_blockSize u7 e8) X dX8_with_50 hw hl rfl rfl rfl (by decide) rfl rfl rfl (Nat.le_of_ble_eq_true rfl) ⟨Nat.le_of_ble_eq_true rfl, Nat.le_of_ble_eq_true rfl⟩ ⟨Nat.zero_le _, Nat.zero_le _⟩ (fun H locs hw => ?_)
      cases hF
      exact z_iret 53 X dX8_with_53 hw rfl rfl
    · replace hF := zpos c4 hF
      refine z_aload_n 15 X dX8_with_15 hl 0 rfl ?_
      refine z_get 16 zc8 0 1 fl_8_19 X dX8_with_16 hw rfl (by decide) rfl ?_
      refine z_getN 19 zc1 1 0 fl_8_136 X dX8_with_19 hw rfl (by decide) rfl ?_
      refine z_iload_n 22 X dX8_with_22 hl 2 rfl ?_
      obtain ⟨u9, e10, hF⟩ := zbd hF
      refine z_callV 23 zc4 mv_X4_streamBits ml_8_197 2 [2, 3, 4] (zw_24 cA 0 a_this a_this_row a_this_coding a_this_trial a_this_pad a_this_history a_this_slots a_this_coding_prices a_this_coding_stream a_this_coding_exponents a_this_coding_skips a_this_coding_prices_sums a_this_coding_prices_sums_cells a_this_row_numbers a_this_row_numbers_cells a_this_trial_sums a_this_trial_sums_cells v_coding_prices_length g_coding_prices_sums_cells v_row_length v_row_blockSize v_row_ones g_row_numbers_cells v_trial_length g_trial_sums_cells) [] (m_X4_streamBits l D cA a_this_coding_prices a_this_coding_prices_sums a_this_coding_prices_sums_cells v_coding_prices_length g_coding_prices_sums_cells i2 u9 e10) X dX8_with_23 hw hl rfl rfl rfl (by decide) rfl rfl rfl (Nat.le_of_ble_eq_true rfl) ⟨Nat.le_of_ble_eq_true rfl, Nat.le_of_ble_eq_true rfl⟩ ⟨Nat.zero_le _, Nat.zero_le _⟩ (fun H locs hw => ?_)
      cases hF
      exact z_iret 26 X dX8_with_26 hw rfl rfl
  · replace hF := zpos c3 hF
    refine z_bipush 8 (-2) X dX8_with_8 (by decide) ?_
    cases hF
    exact z_iret 10 X dX8_with_10 hw rfl rfl
theorem dX8_best_0 : decode cX8_best 0 = .ok (.iload_n 1, 1) := by decide +kernel
theorem dX8_best_1 : decode cX8_best 1 = .ok (.ifCond .eq 11, 3) := by decide +kernel
theorem dX8_best_4 : decode cX8_best 4 = .ok (.iload_n 1, 1) := by decide +kernel
theorem dX8_best_5 : decode cX8_best 5 = .ok (.iconst 1, 1) := by decide +kernel
theorem dX8_best_6 : decode cX8_best 6 = .ok (.if_icmp .eq 6, 3) := by decide +kernel
theorem dX8_best_9 : decode cX8_best 9 = .ok (.bipush (-2), 2) := by decide +kernel
theorem dX8_best_11 : decode cX8_best 11 = .ok (.ireturn, 1) := by decide +kernel
theorem dX8_best_12 : decode cX8_best 12 = .ok (.iconst 1, 1) := by decide +kernel
theorem dX8_best_13 : decode cX8_best 13 = .ok (.istore_n 2, 1) := by decide +kernel
theorem dX8_best_14 : decode cX8_best 14 = .ok (.aload_n 0, 1) := by decide +kernel
theorem dX8_best_15 : decode cX8_best 15 = .ok (.getfield 19, 3) := by decide +kernel
theorem dX8_best_18 : decode cX8_best 18 = .ok (.getfield 136, 3) := by decide +kernel
theorem dX8_best_21 : decode cX8_best 21 = .ok (.iconst 1, 1) := by decide +kernel
theorem dX8_best_22 : decode cX8_best 22 = .ok (.invokevirtual 197, 3) := by decide +kernel
theorem dX8_best_25 : decode cX8_best 25 = .ok (.istore_n 3, 1) := by decide +kernel
theorem dX8_best_26 : decode cX8_best 26 = .ok (.iconst 2, 1) := by decide +kernel
theorem dX8_best_27 : decode cX8_best 27 = .ok (.istore 4, 2) := by decide +kernel
theorem dX8_best_29 : decode cX8_best 29 = .ok (.iload 4, 2) := by decide +kernel
theorem dX8_best_31 : decode cX8_best 31 = .ok (.bipush 16, 2) := by decide +kernel
theorem dX8_best_33 : decode cX8_best 33 = .ok (.if_icmp .gt 35, 3) := by decide +kernel
theorem dX8_best_36 : decode cX8_best 36 = .ok (.aload_n 0, 1) := by decide +kernel
theorem dX8_best_37 : decode cX8_best 37 = .ok (.getfield 19, 3) := by decide +kernel
theorem dX8_best_40 : decode cX8_best 40 = .ok (.getfield 136, 3) := by decide +kernel
theorem dX8_best_43 : decode cX8_best 43 = .ok (.iload 4, 2) := by decide +kernel
theorem dX8_best_45 : decode cX8_best 45 = .ok (.invokevirtual 197, 3) := by decide +kernel
theorem dX8_best_48 : decode cX8_best 48 = .ok (.istore 5, 2) := by decide +kernel
theorem dX8_best_50 : decode cX8_best 50 = .ok (.iload 5, 2) := by decide +kernel
theorem dX8_best_52 : decode cX8_best 52 = .ok (.iload_n 3, 1) := by decide +kernel
theorem dX8_best_53 : decode cX8_best 53 = .ok (.if_icmp .gt 9, 3) := by decide +kernel
theorem dX8_best_56 : decode cX8_best 56 = .ok (.iload 4, 2) := by decide +kernel
theorem dX8_best_58 : decode cX8_best 58 = .ok (.istore_n 2, 1) := by decide +kernel
theorem dX8_best_59 : decode cX8_best 59 = .ok (.iload 5, 2) := by decide +kernel
theorem dX8_best_61 : decode cX8_best 61 = .ok (.istore_n 3, 1) := by decide +kernel
theorem dX8_best_62 : decode cX8_best 62 = .ok (.iinc 4 1, 3) := by decide +kernel
theorem dX8_best_65 : decode cX8_best 65 = .ok (.goto (-36), 3) := by decide +kernel
theorem dX8_best_68 : decode cX8_best 68 = .ok (.iload_n 1, 1) := by decide +kernel
theorem dX8_best_69 : decode cX8_best 69 = .ok (.ifCond .ne 7, 3) := by decide +kernel
theorem dX8_best_72 : decode cX8_best 72 = .ok (.iload_n 2, 1) := by decide +kernel
theorem dX8_best_73 : decode cX8_best 73 = .ok (.goto 4, 3) := by decide +kernel
theorem dX8_best_76 : decode cX8_best 76 = .ok (.iload_n 3, 1) := by decide +kernel
theorem dX8_best_77 : decode cX8_best 77 = .ok (.ireturn, 1) := by decide +kernel
set_option maxHeartbeats 4000000 in
set_option maxRecDepth 100000 in
theorem l_X8_best_29 (l : Launch) (D : va_G) (cA : ClassId) (a_this a_this_row a_this_coding a_this_trial a_this_pad a_this_history a_this_slots a_this_coding_prices a_this_coding_stream a_this_coding_exponents a_this_coding_skips a_this_coding_prices_sums a_this_coding_prices_sums_cells : Nat) (v_coding_prices_length : Int32) (g_coding_prices_sums_cells : Ar) (i1 : Int32) (out : Int32) {p : Program} {e : Env} {s : State} {m : MethodId} {args : Array Value} {below : List Frame} {meth : Method} {c : Code} {A : Nat → Prop} (X : zX D cA p s m args meth c cX8_best 6 RX8 (some .int)) (k : Int32 → Int32 → Option (Int32)) (hk : ∀ (i2 : Int32) (i3 : Int32) (H : Heap) (locs : List Loc) (ls : Array Slot), zH D A s (zw_25 cA 0 a_this a_this_row a_this_coding a_this_trial a_this_pad a_this_history a_this_slots a_this_coding_prices a_this_coding_stream a_this_coding_exponents a_this_coding_skips a_this_coding_prices_sums a_this_coding_prices_sums_cells v_coding_prices_length g_coding_prices_sums_cells) H locs → lv_has ls 6 [(1, .int i1), (2, .int i2), (3, .int i3)] → k i2 i3 = some out → W p l e (zR 4 95) s m args below meth c H locs 0 0 (MQ below (zQ D (zw_25 cA 0 a_this a_this_row a_this_coding a_this_trial a_this_pad a_this_history a_this_slots a_this_coding_prices a_this_coding_stream a_this_coding_exponents a_this_coding_skips a_this_coding_prices_sums a_this_coding_prices_sums_cells v_coding_prices_length g_coding_prices_sums_cells) (some (.int out)) A) args s 0 0 A) (F0 m 68 ls [])) :
    ∀ (fuel : Nat) (i2 : Int32) (i3 : Int32) (i4 : Int32) (H : Heap) (locs : List Loc) (ls : Array Slot), zH D A s (zw_25 cA 0 a_this a_this_row a_this_coding a_this_trial a_this_pad a_this_history a_this_slots a_this_coding_prices a_this_coding_stream a_this_coding_exponents a_this_coding_skips a_this_coding_prices_sums a_this_coding_prices_sums_cells v_coding_prices_length g_coding_prices_sums_cells) H locs → lv_has ls 6 [(0, .ref a_this), (1, .int i1), (2, .int i2), (3, .int i3), (4, .int i4)] → F_X8_best_L29 v_coding_prices_length g_coding_prices_sums_cells k fuel i2 i3 i4 = some out → W p l e (zR 4 95) s m args below meth c H locs 0 0 (MQ below (zQ D (zw_25 cA 0 a_this a_this_row a_this_coding a_this_trial a_this_pad a_this_history a_this_slots a_this_coding_prices a_this_coding_stream a_this_coding_exponents a_this_coding_skips a_this_coding_prices_sums a_this_coding_prices_sums_cells v_coding_prices_length g_coding_prices_sums_cells) (some (.int out)) A) args s 0 0 A) (F0 m 29 ls []) := by
  intro fuel
  induction fuel with
  | zero => intro i2 i3 i4 H locs ls hw hl hF; exact nomatch (show (none : Option (Int32)) = some out from hF)
  | succ fuel ih =>
    intro i2 i3 i4 H locs ls hw hl hF
    rw [F_X8_best_L29] at hF
    refine z_iload 29 X dX8_best_29 hl 4 rfl ?_
    refine z_bipush 31 16 X dX8_best_31 (by decide) ?_
    refine z_icmp_gt 33 68 X dX8_best_33 (by decide) (fun c4 => ?_) (fun c4 => ?_)
    · replace hF := zpos c4 hF
      exact hk i2 i3 H locs ls hw (lv_sub hl [1, 2, 3] rfl) hF
    · replace hF := zneg c4 hF
      refine z_aload_n 36 X dX8_best_36 hl 0 rfl ?_
      refine z_get 37 zc8 0 1 fl_8_19 X dX8_best_37 hw rfl (by decide) rfl ?_
      refine z_getN 40 zc1 1 0 fl_8_136 X dX8_best_40 hw rfl (by decide) rfl ?_
      refine z_iload 43 X dX8_best_43 hl 4 rfl ?_
      obtain ⟨u5, e6, hF⟩ := zbd hF
      refine z_callV 45 zc4 mv_X4_streamBits ml_8_197 2 [2, 3, 4] (zw_25 cA 0 a_this a_this_row a_this_coding a_this_trial a_this_pad a_this_history a_this_slots a_this_coding_prices a_this_coding_stream a_this_coding_exponents a_this_coding_skips a_this_coding_prices_sums a_this_coding_prices_sums_cells v_coding_prices_length g_coding_prices_sums_cells) [] (m_X4_streamBits l D cA a_this_coding_prices a_this_coding_prices_sums a_this_coding_prices_sums_cells v_coding_prices_length g_coding_prices_sums_cells i4 u5 e6) X dX8_best_45 hw hl rfl rfl rfl (by decide) rfl rfl rfl (Nat.le_of_ble_eq_true rfl) ⟨Nat.le_of_ble_eq_true rfl, Nat.le_of_ble_eq_true rfl⟩ ⟨Nat.zero_le _, Nat.zero_le _⟩ (fun H locs hw => ?_)
      refine z_istore 48 [(5, .int u5), (0, .ref a_this), (1, .int i1), (2, .int i2), (3, .int i3), (4, .int i4)] X dX8_best_48 hl (by decide) rfl (fun ls hl => ?_)
      refine z_iload 50 X dX8_best_50 hl 0 rfl ?_
      refine z_iload_n 52 X dX8_best_52 hl 4 rfl ?_
      refine z_icmp_gt 53 62 X dX8_best_53 (by decide) (fun c7 => ?_) (fun c7 => ?_)
      · replace hF := zpos c7 hF
        refine z_iinc2 62 1 [(4, .int (i4 + 1)), (5, .int u5), (0, .ref a_this), (1, .int i1), (2, .int i2), (3, .int i3)] X dX8_best_62 hl 5 rfl (by decide) (by decide) rfl (fun ls hl => ?_)
        refine z_goto 65 29 X dX8_best_65 (by decide) ?_
        exact ih i2 i3 (i4 + 1) H locs ls hw (lv_sub hl [2, 3, 4, 5, 0] rfl) hF
      · replace hF := zneg c7 hF
        refine z_iload 56 X dX8_best_56 hl 5 rfl ?_
        refine z_istore_n 58 [(2, .int i4), (5, .int u5), (0, .ref a_this), (1, .int i1), (3, .int i3), (4, .int i4)] X dX8_best_58 hl (by decide) rfl (fun ls hl => ?_)
        refine z_iload 59 X dX8_best_59 hl 1 rfl ?_
        refine z_istore_n 61 [(3, .int u5), (2, .int i4), (5, .int u5), (0, .ref a_this), (1, .int i1), (4, .int i4)] X dX8_best_61 hl (by decide) rfl (fun ls hl => ?_)
        refine z_iinc2 62 1 [(4, .int (i4 + 1)), (3, .int u5), (2, .int i4), (5, .int u5), (0, .ref a_this), (1, .int i1)] X dX8_best_62 hl 5 rfl (by decide) (by decide) rfl (fun ls hl => ?_)
        refine z_goto 65 29 X dX8_best_65 (by decide) ?_
        exact ih i4 u5 (i4 + 1) H locs ls hw (lv_sub hl [4, 5, 2, 1, 0] rfl) hF
set_option maxHeartbeats 4000000 in
set_option maxRecDepth 100000 in
theorem m_X8_best (l : Launch) (D : va_G) (cA : ClassId) (a_this a_this_row a_this_coding a_this_trial a_this_pad a_this_history a_this_slots a_this_coding_prices a_this_coding_stream a_this_coding_exponents a_this_coding_skips a_this_coding_prices_sums a_this_coding_prices_sums_cells : Nat) (v_coding_prices_length : Int32) (g_coding_prices_sums_cells : Ar) (i1 : Int32) (out : Int32) (hF : F_X8_best v_coding_prices_length g_coding_prices_sums_cells i1 = some out) : zM l D cA yX8_best cX8_best 6 (some .int) 4 95 [.ref a_this, .int i1] (zw_25 cA 0 a_this a_this_row a_this_coding a_this_trial a_this_pad a_this_history a_this_slots a_this_coding_prices a_this_coding_stream a_this_coding_exponents a_this_coding_skips a_this_coding_prices_sums a_this_coding_prices_sums_cells v_coding_prices_length g_coding_prices_sums_cells) (zw_25 cA 0 a_this a_this_row a_this_coding a_this_trial a_this_pad a_this_history a_this_slots a_this_coding_prices a_this_coding_stream a_this_coding_exponents a_this_coding_skips a_this_coding_prices_sums a_this_coding_prices_sums_cells v_coding_prices_length g_coding_prices_sums_cells) (some (.int out)) := by
  refine z_body (by decide) (Nat.le_of_ble_eq_true rfl) ?_
  intro p e s m args below meth c ls H locs A X hl hw
  have hl : lv_has ls 6 [(0, .ref a_this), (1, .int i1)] := hl
  unfold F_X8_best at hF
  refine z_iload_n 0 X dX8_best_0 hl 1 rfl ?_
  refine z_if_eq 1 12 X dX8_best_1 (by decide) (fun c1 => ?_) (fun c1 => ?_)
  · replace hF := zpos c1 hF
    refine z_iconst 12 1 X dX8_best_12 (by decide) ?_
    refine z_istore_n 13 [(2, .int 1), (0, .ref a_this), (1, .int i1)] X dX8_best_13 hl (by decide) rfl (fun ls hl => ?_)
    refine z_aload_n 14 X dX8_best_14 hl 1 rfl ?_
    refine z_get 15 zc8 0 1 fl_8_19 X dX8_best_15 hw rfl (by decide) rfl ?_
    refine z_getN 18 zc1 1 0 fl_8_136 X dX8_best_18 hw rfl (by decide) rfl ?_
    refine z_iconst 21 1 X dX8_best_21 (by decide) ?_
    obtain ⟨u2, e3, hF⟩ := zbd hF
    refine z_callV 22 zc4 mv_X4_streamBits ml_8_197 2 [2, 3, 4] (zw_25 cA 0 a_this a_this_row a_this_coding a_this_trial a_this_pad a_this_history a_this_slots a_this_coding_prices a_this_coding_stream a_this_coding_exponents a_this_coding_skips a_this_coding_prices_sums a_this_coding_prices_sums_cells v_coding_prices_length g_coding_prices_sums_cells) [] (m_X4_streamBits l D cA a_this_coding_prices a_this_coding_prices_sums a_this_coding_prices_sums_cells v_coding_prices_length g_coding_prices_sums_cells 1 u2 e3) X dX8_best_22 hw hl rfl rfl rfl (by decide) rfl rfl rfl (Nat.le_of_ble_eq_true rfl) ⟨Nat.le_of_ble_eq_true rfl, Nat.le_of_ble_eq_true rfl⟩ ⟨Nat.zero_le _, Nat.zero_le _⟩ (fun H locs hw => ?_)
    refine z_istore_n 25 [(3, .int u2), (2, .int 1), (0, .ref a_this), (1, .int i1)] X dX8_best_25 hl (by decide) rfl (fun ls hl => ?_)
    refine z_iconst 26 2 X dX8_best_26 (by decide) ?_
    refine z_istore 27 [(4, .int 2), (3, .int u2), (2, .int 1), (0, .ref a_this), (1, .int i1)] X dX8_best_27 hl (by decide) rfl (fun ls hl => ?_)
    refine l_X8_best_29 l D cA a_this a_this_row a_this_coding a_this_trial a_this_pad a_this_history a_this_slots a_this_coding_prices a_this_coding_stream a_this_coding_exponents a_this_coding_skips a_this_coding_prices_sums a_this_coding_prices_sums_cells v_coding_prices_length g_coding_prices_sums_cells i1 out X _ (fun i2_8 i3_9 H locs ls hw hl hF => ?_) zFuel 1 u2 2 H locs ls hw (lv_sub hl [3, 4, 2, 1, 0] rfl) hF
    refine z_iload_n 68 X dX8_best_68 hl 0 rfl ?_
    refine z_if_ne 69 76 X dX8_best_69 (by decide) (fun c10 => ?_) (fun c10 => ?_)
    · replace hF := zneg c10 hF
      refine z_iload_n 76 X dX8_best_76 hl 2 rfl ?_
      cases hF
      exact z_iret 77 X dX8_best_77 hw rfl rfl
    · replace hF := zpos c10 hF
      refine z_iload_n 72 X dX8_best_72 hl 1 rfl ?_
      refine z_goto 73 77 X dX8_best_73 (by decide) ?_
      cases hF
      exact z_iret 77 X dX8_best_77 hw rfl rfl
  · replace hF := zneg c1 hF
    refine z_iload_n 4 X dX8_best_4 hl 1 rfl ?_
    refine z_iconst 5 1 X dX8_best_5 (by decide) ?_
    refine z_icmp_eq 6 12 X dX8_best_6 (by decide) (fun c11 => ?_) (fun c11 => ?_)
    · replace hF := zpos c11 hF
      refine z_iconst 12 1 X dX8_best_12 (by decide) ?_
      refine z_istore_n 13 [(2, .int 1), (0, .ref a_this), (1, .int i1)] X dX8_best_13 hl (by decide) rfl (fun ls hl => ?_)
      refine z_aload_n 14 X dX8_best_14 hl 1 rfl ?_
      refine z_get 15 zc8 0 1 fl_8_19 X dX8_best_15 hw rfl (by decide) rfl ?_
      refine z_getN 18 zc1 1 0 fl_8_136 X dX8_best_18 hw rfl (by decide) rfl ?_
      refine z_iconst 21 1 X dX8_best_21 (by decide) ?_
      obtain ⟨u12, e13, hF⟩ := zbd hF
      refine z_callV 22 zc4 mv_X4_streamBits ml_8_197 2 [2, 3, 4] (zw_25 cA 0 a_this a_this_row a_this_coding a_this_trial a_this_pad a_this_history a_this_slots a_this_coding_prices a_this_coding_stream a_this_coding_exponents a_this_coding_skips a_this_coding_prices_sums a_this_coding_prices_sums_cells v_coding_prices_length g_coding_prices_sums_cells) [] (m_X4_streamBits l D cA a_this_coding_prices a_this_coding_prices_sums a_this_coding_prices_sums_cells v_coding_prices_length g_coding_prices_sums_cells 1 u12 e13) X dX8_best_22 hw hl rfl rfl rfl (by decide) rfl rfl rfl (Nat.le_of_ble_eq_true rfl) ⟨Nat.le_of_ble_eq_true rfl, Nat.le_of_ble_eq_true rfl⟩ ⟨Nat.zero_le _, Nat.zero_le _⟩ (fun H locs hw => ?_)
      refine z_istore_n 25 [(3, .int u12), (2, .int 1), (0, .ref a_this), (1, .int i1)] X dX8_best_25 hl (by decide) rfl (fun ls hl => ?_)
      refine z_iconst 26 2 X dX8_best_26 (by decide) ?_
      refine z_istore 27 [(4, .int 2), (3, .int u12), (2, .int 1), (0, .ref a_this), (1, .int i1)] X dX8_best_27 hl (by decide) rfl (fun ls hl => ?_)
      refine l_X8_best_29 l D cA a_this a_this_row a_this_coding a_this_trial a_this_pad a_this_history a_this_slots a_this_coding_prices a_this_coding_stream a_this_coding_exponents a_this_coding_skips a_this_coding_prices_sums a_this_coding_prices_sums_cells v_coding_prices_length g_coding_prices_sums_cells i1 out X _ (fun i2_14 i3_15 H locs ls hw hl hF => ?_) zFuel 1 u12 2 H locs ls hw (lv_sub hl [3, 4, 2, 1, 0] rfl) hF
      refine z_iload_n 68 X dX8_best_68 hl 0 rfl ?_
      refine z_if_ne 69 76 X dX8_best_69 (by decide) (fun c16 => ?_) (fun c16 => ?_)
      · replace hF := zneg c16 hF
        refine z_iload_n 76 X dX8_best_76 hl 2 rfl ?_
        cases hF
        exact z_iret 77 X dX8_best_77 hw rfl rfl
      · replace hF := zpos c16 hF
        refine z_iload_n 72 X dX8_best_72 hl 1 rfl ?_
        refine z_goto 73 77 X dX8_best_73 (by decide) ?_
        cases hF
        exact z_iret 77 X dX8_best_77 hw rfl rfl
    · replace hF := zneg c11 hF
      refine z_bipush 9 (-2) X dX8_best_9 (by decide) ?_
      cases hF
      exact z_iret 11 X dX8_best_11 hw rfl rfl
