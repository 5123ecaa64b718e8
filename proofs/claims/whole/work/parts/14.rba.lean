theorem dX8_changeSetting_0 : decode cX8_changeSetting 0 = .ok (.iload_n 1, 1) := by decide +kernel
theorem dX8_changeSetting_1 : decode cX8_changeSetting 1 = .ok (.iload_n 2, 1) := by decide +kernel
theorem dX8_changeSetting_2 : decode cX8_changeSetting 2 = .ok (.invokestatic 193, 3) := by decide +kernel
theorem dX8_changeSetting_5 : decode cX8_changeSetting 5 = .ok (.ifCond .ne 6, 3) := by decide +kernel
theorem dX8_changeSetting_8 : decode cX8_changeSetting 8 = .ok (.bipush (-2), 2) := by decide +kernel
theorem dX8_changeSetting_10 : decode cX8_changeSetting 10 = .ok (.ireturn, 1) := by decide +kernel
theorem dX8_changeSetting_11 : decode cX8_changeSetting 11 = .ok (.iload_n 1, 1) := by decide +kernel
theorem dX8_changeSetting_12 : decode cX8_changeSetting 12 = .ok (.ifCond .ne 13, 3) := by decide +kernel
theorem dX8_changeSetting_15 : decode cX8_changeSetting 15 = .ok (.aload_n 0, 1) := by decide +kernel
theorem dX8_changeSetting_16 : decode cX8_changeSetting 16 = .ok (.getfield 12, 3) := by decide +kernel
theorem dX8_changeSetting_19 : decode cX8_changeSetting 19 = .ok (.getfield 168, 3) := by decide +kernel
theorem dX8_changeSetting_22 : decode cX8_changeSetting 22 = .ok (.goto 10, 3) := by decide +kernel
theorem dX8_changeSetting_25 : decode cX8_changeSetting 25 = .ok (.aload_n 0, 1) := by decide +kernel
theorem dX8_changeSetting_26 : decode cX8_changeSetting 26 = .ok (.getfield 12, 3) := by decide +kernel
theorem dX8_changeSetting_29 : decode cX8_changeSetting 29 = .ok (.getfield 113, 3) := by decide +kernel
theorem dX8_changeSetting_32 : decode cX8_changeSetting 32 = .ok (.istore_n 3, 1) := by decide +kernel
theorem dX8_changeSetting_33 : decode cX8_changeSetting 33 = .ok (.iload_n 1, 1) := by decide +kernel
theorem dX8_changeSetting_34 : decode cX8_changeSetting 34 = .ok (.ifCond .ne 14, 3) := by decide +kernel
theorem dX8_changeSetting_37 : decode cX8_changeSetting 37 = .ok (.aload_n 0, 1) := by decide +kernel
theorem dX8_changeSetting_38 : decode cX8_changeSetting 38 = .ok (.getfield 12, 3) := by decide +kernel
theorem dX8_changeSetting_41 : decode cX8_changeSetting 41 = .ok (.iload_n 2, 1) := by decide +kernel
theorem dX8_changeSetting_42 : decode cX8_changeSetting 42 = .ok (.putfield 168, 3) := by decide +kernel
theorem dX8_changeSetting_45 : decode cX8_changeSetting 45 = .ok (.goto 11, 3) := by decide +kernel
theorem dX8_changeSetting_48 : decode cX8_changeSetting 48 = .ok (.aload_n 0, 1) := by decide +kernel
theorem dX8_changeSetting_49 : decode cX8_changeSetting 49 = .ok (.getfield 12, 3) := by decide +kernel
theorem dX8_changeSetting_52 : decode cX8_changeSetting 52 = .ok (.iload_n 2, 1) := by decide +kernel
theorem dX8_changeSetting_53 : decode cX8_changeSetting 53 = .ok (.putfield 113, 3) := by decide +kernel
theorem dX8_changeSetting_56 : decode cX8_changeSetting 56 = .ok (.iload_n 3, 1) := by decide +kernel
theorem dX8_changeSetting_57 : decode cX8_changeSetting 57 = .ok (.ireturn, 1) := by decide +kernel
set_option maxHeartbeats 4000000 in
set_option maxRecDepth 100000 in
theorem m_X8_changeSetting (l : Launch) (D : va_G) (cA : ClassId) (a_this a_this_row a_this_coding a_this_trial a_this_pad a_this_history a_this_slots a_this_row_numbers : Nat) (v_row_length : Int32) (v_row_blockSize : Int32) (v_row_ones : Int32) (i1 : Int32) (i2 : Int32) (out : Int32 × Int32 × Int32) (hF : F_X8_changeSetting v_row_blockSize v_row_ones i1 i2 = some out) : zM l D cA yX8_changeSetting cX8_changeSetting 4 (some .int) 1 21 [.ref a_this, .int i1, .int i2] (zw_5 cA 0 a_this a_this_row a_this_coding a_this_trial a_this_pad a_this_history a_this_slots a_this_row_numbers v_row_length v_row_blockSize v_row_ones) (zw_5 cA 0 a_this a_this_row a_this_coding a_this_trial a_this_pad a_this_history a_this_slots a_this_row_numbers v_row_length out.2.1 out.2.2) (some (.int out.1)) := by
  refine z_body (by decide) (Nat.le_of_ble_eq_true rfl) ?_
  intro p e s m args below meth c ls H locs A X hl hw
  have hl : lv_has ls 4 [(0, .ref a_this), (1, .int i1), (2, .int i2)] := hl
  unfold F_X8_changeSetting at hF
  refine z_iload_n 0 X dX8_changeSetting_0 hl 1 rfl ?_
  refine z_iload_n 1 X dX8_changeSetting_1 hl 2 rfl ?_
  obtain ⟨u1, e2, hF⟩ := zbd hF
  refine z_callS 2 mv_X8_isSetting ml_8_193 [] (zw_5 cA 0 a_this a_this_row a_this_coding a_this_trial a_this_pad a_this_history a_this_slots a_this_row_numbers v_row_length v_row_blockSize v_row_ones) [] (m_X8_isSetting l D cA i1 i2 u1 e2) X dX8_changeSetting_2 hw hl rfl rfl (by decide) rfl rfl rfl (Nat.le_of_ble_eq_true rfl) ⟨Nat.le_of_ble_eq_true rfl, Nat.le_of_ble_eq_true rfl⟩ ⟨Nat.zero_le _, Nat.zero_le _⟩ (fun H locs hw => ?_)
  refine z_if_ne 5 11 X dX8_changeSetting_5 (by decide) (fun c3 => ?_) (fun c3 => ?_)
  · replace hF := zneg c3 hF
    refine z_iload_n 11 X dX8_changeSetting_11 hl 1 rfl ?_
    refine z_if_ne 12 25 X dX8_changeSetting_12 (by decide) (fun c4 => ?_) (fun c4 => ?_)
    · replace hF := zneg c4 hF
      refine z_aload_n 25 X dX8_changeSetting_25 hl 0 rfl ?_
      refine z_get 26 zc8 0 0 fl_8_12 X dX8_changeSetting_26 hw rfl (by decide) rfl ?_
      refine z_getN 29 zc5 1 3 fl_8_113 X dX8_changeSetting_29 hw rfl (by decide) rfl ?_
      refine z_istore_n 32 [(3, .int v_row_ones), (0, .ref a_this), (1, .int i1), (2, .int i2)] X dX8_changeSetting_32 hl (by decide) rfl (fun ls hl => ?_)
      refine z_iload_n 33 X dX8_changeSetting_33 hl 2 rfl ?_
      refine z_if_ne 34 48 X dX8_changeSetting_34 (by decide) (fun c5 => ?_) (fun c5 => ?_)
      · replace hF := zneg c5 hF
        refine z_aload_n 48 X dX8_changeSetting_48 hl 1 rfl ?_
        refine z_get 49 zc8 0 0 fl_8_12 X dX8_changeSetting_49 hw rfl (by decide) rfl ?_
        refine z_iload_n 52 X dX8_changeSetting_52 hl 3 rfl ?_
        refine z_putN 53 zc5 1 3 (zw_5 cA 0 a_this a_this_row a_this_coding a_this_trial a_this_pad a_this_history a_this_slots a_this_row_numbers v_row_length v_row_blockSize i2) fl_8_113 X dX8_changeSetting_53 hw rfl (by decide) rfl rfl rfl (Nat.le_of_ble_eq_true rfl) rfl (fun H locs hw => ?_)
        refine z_iload_n 56 X dX8_changeSetting_56 hl 0 rfl ?_
        cases hF
        exact z_iret 57 X dX8_changeSetting_57 hw rfl rfl
      · replace hF := zpos c5 hF
        refine z_aload_n 37 X dX8_changeSetting_37 hl 1 rfl ?_
        refine z_get 38 zc8 0 0 fl_8_12 X dX8_changeSetting_38 hw rfl (by decide) rfl ?_
        refine z_iload_n 41 X dX8_changeSetting_41 hl 3 rfl ?_
        refine z_putN 42 zc5 1 2 (zw_5 cA 0 a_this a_this_row a_this_coding a_this_trial a_this_pad a_this_history a_this_slots a_this_row_numbers v_row_length i2 v_row_ones) fl_8_168 X dX8_changeSetting_42 hw rfl (by decide) rfl rfl rfl (Nat.le_of_ble_eq_true rfl) rfl (fun H locs hw => ?_)
        refine z_goto 45 56 X dX8_changeSetting_45 (by decide) ?_
        refine z_iload_n 56 X dX8_changeSetting_56 hl 0 rfl ?_
        cases hF
        exact z_iret 57 X dX8_changeSetting_57 hw rfl rfl
    · replace hF := zpos c4 hF
      refine z_aload_n 15 X dX8_changeSetting_15 hl 0 rfl ?_
      refine z_get 16 zc8 0 0 fl_8_12 X dX8_changeSetting_16 hw rfl (by decide) rfl ?_
      refine z_getN 19 zc5 1 2 fl_8_168 X dX8_changeSetting_19 hw rfl (by decide) rfl ?_
      refine z_goto 22 32 X dX8_changeSetting_22 (by decide) ?_
      refine z_istore_n 32 [(3, .int v_row_blockSize), (0, .ref a_this), (1, .int i1), (2, .int i2)] X dX8_changeSetting_32 hl (by decide) rfl (fun ls hl => ?_)
      refine z_iload_n 33 X dX8_changeSetting_33 hl 2 rfl ?_
      refine z_if_ne 34 48 X dX8_changeSetting_34 (by decide) (fun c6 => ?_) (fun c6 => ?_)
      · replace hF := zneg c6 hF
        refine z_aload_n 48 X dX8_changeSetting_48 hl 1 rfl ?_
        refine z_get 49 zc8 0 0 fl_8_12 X dX8_changeSetting_49 hw rfl (by decide) rfl ?_
        refine z_iload_n 52 X dX8_changeSetting_52 hl 3 rfl ?_
        refine z_putN 53 zc5 1 3 (zw_5 cA 0 a_this a_this_row a_this_coding a_this_trial a_this_pad a_this_history a_this_slots a_this_row_numbers v_row_length v_row_blockSize i2) fl_8_113 X dX8_changeSetting_53 hw rfl (by decide) rfl rfl rfl (Nat.le_of_ble_eq_true rfl) rfl (fun H locs hw => ?_)
        refine z_iload_n 56 X dX8_changeSetting_56 hl 0 rfl ?_
        cases hF
        exact z_iret 57 X dX8_changeSetting_57 hw rfl rfl
      · replace hF := zpos c6 hF
        refine z_aload_n 37 X dX8_changeSetting_37 hl 1 rfl ?_
        refine z_get 38 zc8 0 0 fl_8_12 X dX8_changeSetting_38 hw rfl (by decide) rfl ?_
        refine z_iload_n 41 X dX8_changeSetting_41 hl 3 rfl ?_
        refine z_putN 42 zc5 1 2 (zw_5 cA 0 a_this a_this_row a_this_coding a_this_trial a_this_pad a_this_history a_this_slots a_this_row_numbers v_row_length i2 v_row_ones) fl_8_168 X dX8_changeSetting_42 hw rfl (by decide) rfl rfl rfl (Nat.le_of_ble_eq_true rfl) rfl (fun H locs hw => ?_)
        refine z_goto 45 56 X dX8_changeSetting_45 (by decide) ?_
        refine z_iload_n 56 X dX8_changeSetting_56 hl 0 rfl ?_
        cases hF
        exact z_iret 57 X dX8_changeSetting_57 hw rfl rfl
  · replace hF := zpos c3 hF
    refine z_bipush 8 (-2) X dX8_changeSetting_8 (by decide) ?_
    cases hF
    exact z_iret 10 X dX8_changeSetting_10 hw rfl rfl
theorem dX8_settle_0 : decode cX8_settle 0 = .ok (.iload_n 1, 1) := by decide +kernel
theorem dX8_settle_1 : decode cX8_settle 1 = .ok (.ifCond .lt 21, 3) := by decide +kernel
theorem dX8_settle_4 : decode cX8_settle 4 = .ok (.aload_n 0, 1) := by decide +kernel
theorem dX8_settle_5 : decode cX8_settle 5 = .ok (.getfield 40, 3) := by decide +kernel
theorem dX8_settle_8 : decode cX8_settle 8 = .ok (.invokevirtual 246, 3) := by decide +kernel
theorem dX8_settle_11 : decode cX8_settle 11 = .ok (.aload_n 0, 1) := by decide +kernel
theorem dX8_settle_12 : decode cX8_settle 12 = .ok (.getfield 19, 3) := by decide +kernel
theorem dX8_settle_15 : decode cX8_settle 15 = .ok (.aload_n 0, 1) := by decide +kernel
theorem dX8_settle_16 : decode cX8_settle 16 = .ok (.getfield 12, 3) := by decide +kernel
theorem dX8_settle_19 : decode cX8_settle 19 = .ok (.invokevirtual 230, 3) := by decide +kernel
theorem dX8_settle_22 : decode cX8_settle 22 = .ok (.iload_n 1, 1) := by decide +kernel
theorem dX8_settle_23 : decode cX8_settle 23 = .ok (.ireturn, 1) := by decide +kernel
set_option maxHeartbeats 4000000 in
set_option maxRecDepth 100000 in
theorem m_X8_settle (l : Launch) (D : va_G) (cA : ClassId) (a_this a_this_row a_this_coding a_this_trial a_this_pad a_this_history a_this_slots a_this_coding_prices a_this_coding_stream a_this_coding_exponents a_this_coding_skips a_this_coding_exponents_cells a_this_coding_prices_sums a_this_coding_prices_sums_cells a_this_coding_skips_cells a_this_coding_stream_cells a_this_coding_stream_cells_cells a_this_history_states a_this_row_numbers a_this_row_numbers_cells : Nat) (g_coding_exponents_cells : Ar) (v_coding_prices_length : Int32) (g_coding_prices_sums_cells : Ar) (g_coding_skips_cells : Ar) (v_coding_stream_length : Int32) (v_coding_stream_start : Int32) (v_coding_stream_next : Int32) (v_coding_stream_exponent : Int32) (v_coding_stream_number : Int32) (g_coding_stream_cells_cells : Ar) (v_history_free : Int32) (v_history_length : Int32) (v_row_length : Int32) (v_row_blockSize : Int32) (v_row_ones : Int32) (g_row_numbers_cells : Ar) (i1 : Int32) (out : Int32 × Ar × Int32 × Ar × Ar × Int32 × Ar × Int32 × Int32) (hF : F_X8_settle g_coding_exponents_cells v_coding_prices_length g_coding_prices_sums_cells g_coding_skips_cells v_coding_stream_length g_coding_stream_cells_cells v_history_free v_history_length v_row_length v_row_blockSize v_row_ones g_row_numbers_cells i1 = some out) : zM l D cA yX8_settle cX8_settle 2 (some .int) 5 118 [.ref a_this, .int i1] (zw_12 cA 0 a_this a_this_row a_this_coding a_this_trial a_this_pad a_this_history a_this_slots a_this_coding_prices a_this_coding_stream a_this_coding_exponents a_this_coding_skips a_this_coding_exponents_cells a_this_coding_prices_sums a_this_coding_prices_sums_cells a_this_coding_skips_cells a_this_coding_stream_cells a_this_coding_stream_cells_cells a_this_history_states a_this_row_numbers a_this_row_numbers_cells g_coding_exponents_cells v_coding_prices_length g_coding_prices_sums_cells g_coding_skips_cells v_coding_stream_length v_coding_stream_start v_coding_stream_next v_coding_stream_exponent v_coding_stream_number g_coding_stream_cells_cells v_history_free v_history_length v_row_length v_row_blockSize v_row_ones g_row_numbers_cells) (zw_12 cA 0 a_this a_this_row a_this_coding a_this_trial a_this_pad a_this_history a_this_slots a_this_coding_prices a_this_coding_stream a_this_coding_exponents a_this_coding_skips a_this_coding_exponents_cells a_this_coding_prices_sums a_this_coding_prices_sums_cells a_this_coding_skips_cells a_this_coding_stream_cells a_this_coding_stream_cells_cells a_this_history_states a_this_row_numbers a_this_row_numbers_cells out.2.1 out.2.2.1 out.2.2.2.1 out.2.2.2.2.1 out.2.2.2.2.2.1 v_coding_stream_start v_coding_stream_next v_coding_stream_exponent v_coding_stream_number out.2.2.2.2.2.2.1 out.2.2.2.2.2.2.2.1 out.2.2.2.2.2.2.2.2 v_row_length v_row_blockSize v_row_ones g_row_numbers_cells) (some (.int out.1)) := by
  refine z_body (by decide) (Nat.le_of_ble_eq_true rfl) ?_
  intro p e s m args below meth c ls H locs A X hl hw
  have hl : lv_has ls 2 [(0, .ref a_this), (1, .int i1)] := hl
  unfold F_X8_settle at hF
  refine z_iload_n 0 X dX8_settle_0 hl 1 rfl ?_
  refine z_if_lt 1 22 X dX8_settle_1 (by decide) (fun c1 => ?_) (fun c1 => ?_)
  · replace hF := zpos c1 hF
    refine z_iload_n 22 X dX8_settle_22 hl 1 rfl ?_
    cases hF
    exact z_iret 23 X dX8_settle_23 hw rfl rfl
  · replace hF := zneg c1 hF
    refine z_aload_n 4 X dX8_settle_4 hl 0 rfl ?_
    refine z_get 5 zc8 0 4 fl_8_40 X dX8_settle_5 hw rfl (by decide) rfl ?_
    obtain ⟨u2, e3, hF⟩ := zbd hF
    refine z_callV 8 zc2 mv_X2_keepNoted ml_8_246 12 [12] (zw_12 cA 0 a_this a_this_row a_this_coding a_this_trial a_this_pad a_this_history a_this_slots a_this_coding_prices a_this_coding_stream a_this_coding_exponents a_this_coding_skips a_this_coding_exponents_cells a_this_coding_prices_sums a_this_coding_prices_sums_cells a_this_coding_skips_cells a_this_coding_stream_cells a_this_coding_stream_cells_cells a_this_history_states a_this_row_numbers a_this_row_numbers_cells g_coding_exponents_cells v_coding_prices_length g_coding_prices_sums_cells g_coding_skips_cells v_coding_stream_length v_coding_stream_start v_coding_stream_next v_coding_stream_exponent v_coding_stream_number g_coding_stream_cells_cells u2.1 u2.2 v_row_length v_row_blockSize v_row_ones g_row_numbers_cells) [] (m_X2_keepNoted l D cA a_this_history a_this_history_states v_history_free v_history_length u2 e3) X dX8_settle_8 hw hl rfl rfl rfl (by decide) rfl rfl rfl (Nat.le_of_ble_eq_true rfl) ⟨Nat.le_of_ble_eq_true rfl, Nat.le_of_ble_eq_true rfl⟩ ⟨Nat.zero_le _, Nat.zero_le _⟩ (fun H locs hw => ?_)
    refine z_aload_n 11 X dX8_settle_11 hl 0 rfl ?_
    refine z_get 12 zc8 0 1 fl_8_19 X dX8_settle_12 hw rfl (by decide) rfl ?_
    refine z_aload_n 15 X dX8_settle_15 hl 0 rfl ?_
    refine z_get 16 zc8 0 0 fl_8_12 X dX8_settle_16 hw rfl (by decide) rfl ?_
    obtain ⟨u4, e5, hF⟩ := zbd hF
    refine z_callV 19 zc1 mv_X1_codeAnew ml_8_230 1 [1, 2, 3, 4, 5, 6, 7, 8, 9, 10, 11, 13, 14, 15] (zw_12 cA 0 a_this a_this_row a_this_coding a_this_trial a_this_pad a_this_history a_this_slots a_this_coding_prices a_this_coding_stream a_this_coding_exponents a_this_coding_skips a_this_coding_exponents_cells a_this_coding_prices_sums a_this_coding_prices_sums_cells a_this_coding_skips_cells a_this_coding_stream_cells a_this_coding_stream_cells_cells a_this_history_states a_this_row_numbers a_this_row_numbers_cells u4.1 u4.2.1 u4.2.2.1 u4.2.2.2.1 u4.2.2.2.2.1 v_coding_stream_start v_coding_stream_next v_coding_stream_exponent v_coding_stream_number u4.2.2.2.2.2 u2.1 u2.2 v_row_length v_row_blockSize v_row_ones g_row_numbers_cells) [] (m_X1_codeAnew l D cA a_this_coding a_this_coding_prices a_this_coding_stream a_this_coding_exponents a_this_coding_skips a_this_coding_exponents_cells a_this_coding_prices_sums a_this_coding_prices_sums_cells a_this_coding_skips_cells a_this_coding_stream_cells a_this_coding_stream_cells_cells a_this_row a_this_row_numbers a_this_row_numbers_cells g_coding_exponents_cells v_coding_prices_length g_coding_prices_sums_cells g_coding_skips_cells v_coding_stream_length v_coding_stream_start v_coding_stream_next v_coding_stream_exponent v_coding_stream_number g_coding_stream_cells_cells v_row_length v_row_blockSize v_row_ones g_row_numbers_cells u4 e5) X dX8_settle_19 hw hl rfl rfl rfl (by decide) rfl rfl rfl (Nat.le_of_ble_eq_true rfl) ⟨Nat.le_of_ble_eq_true rfl, Nat.le_of_ble_eq_true rfl⟩ ⟨Nat.zero_le _, Nat.zero_le _⟩ (fun H locs hw => ?_)
    refine z_iload_n 22 X dX8_settle_22 hl 1 rfl ?_
    cases hF
    exact z_iret 23 X dX8_settle_23 hw rfl rfl
theorem dX8_set_0 : decode cX8_set 0 = .ok (.aload_n 0, 1) := by decide +kernel
theorem dX8_set_1 : decode cX8_set 1 = .ok (.getfield 40, 3) := by decide +kernel
theorem dX8_set_4 : decode cX8_set 4 = .ok (.aload_n 0, 1) := by decide +kernel
theorem dX8_set_5 : decode cX8_set 5 = .ok (.getfield 12, 3) := by decide +kernel
theorem dX8_set_8 : decode cX8_set 8 = .ok (.invokevirtual 53, 3) := by decide +kernel
theorem dX8_set_11 : decode cX8_set 11 = .ok (.aload_n 0, 1) := by decide +kernel
theorem dX8_set_12 : decode cX8_set 12 = .ok (.aload_n 0, 1) := by decide +kernel
theorem dX8_set_13 : decode cX8_set 13 = .ok (.iload_n 1, 1) := by decide +kernel
theorem dX8_set_14 : decode cX8_set 14 = .ok (.iload_n 2, 1) := by decide +kernel
theorem dX8_set_15 : decode cX8_set 15 = .ok (.invokevirtual 57, 3) := by decide +kernel
theorem dX8_set_18 : decode cX8_set 18 = .ok (.invokevirtual 61, 3) := by decide +kernel
theorem dX8_set_21 : decode cX8_set 21 = .ok (.ireturn, 1) := by decide +kernel
set_option maxHeartbeats 4000000 in
set_option maxRecDepth 100000 in
theorem m_X8_set (l : Launch) (D : va_G) (cA : ClassId) (a_this a_this_row a_this_coding a_this_trial a_this_pad a_this_history a_this_slots a_this_coding_prices a_this_coding_stream a_this_coding_exponents a_this_coding_skips a_this_coding_exponents_cells a_this_coding_prices_sums a_this_coding_prices_sums_cells a_this_coding_skips_cells a_this_coding_stream_cells a_this_coding_stream_cells_cells a_this_history_states a_this_history_states_cells a_this_history_states_cells_cells a_this_row_numbers a_this_row_numbers_cells : Nat) (g_coding_exponents_cells : Ar) (v_coding_prices_length : Int32) (g_coding_prices_sums_cells : Ar) (g_coding_skips_cells : Ar) (v_coding_stream_length : Int32) (v_coding_stream_start : Int32) (v_coding_stream_next : Int32) (v_coding_stream_exponent : Int32) (v_coding_stream_number : Int32) (g_coding_stream_cells_cells : Ar) (v_history_free : Int32) (v_history_length : Int32) (g_history_states_cells_cells : Ar) (v_row_length : Int32) (v_row_blockSize : Int32) (v_row_ones : Int32) (g_row_numbers_cells : Ar) (i1 : Int32) (i2 : Int32) (out : Int32 × Ar × Int32 × Ar × Ar × Int32 × Ar × Int32 × Int32 × Ar × Int32 × Int32) (hF : F_X8_set g_coding_exponents_cells v_coding_prices_length g_coding_prices_sums_cells g_coding_skips_cells v_coding_stream_length g_coding_stream_cells_cells v_history_free v_history_length g_history_states_cells_cells v_row_length v_row_blockSize v_row_ones g_row_numbers_cells i1 i2 = some out) : zM l D cA yX8_set cX8_set 3 (some .int) 6 139 [.ref a_this, .int i1, .int i2] (zw_13 cA 0 a_this a_this_row a_this_coding a_this_trial a_this_pad a_this_history a_this_slots a_this_coding_prices a_this_coding_stream a_this_coding_exponents a_this_coding_skips a_this_coding_exponents_cells a_this_coding_prices_sums a_this_coding_prices_sums_cells a_this_coding_skips_cells a_this_coding_stream_cells a_this_coding_stream_cells_cells a_this_history_states a_this_history_states_cells a_this_history_states_cells_cells a_this_row_numbers a_this_row_numbers_cells g_coding_exponents_cells v_coding_prices_length g_coding_prices_sums_cells g_coding_skips_cells v_coding_stream_length v_coding_stream_start v_coding_stream_next v_coding_stream_exponent v_coding_stream_number g_coding_stream_cells_cells v_history_free v_history_length g_history_states_cells_cells v_row_length v_row_blockSize v_row_ones g_row_numbers_cells) (zw_13 cA 0 a_this a_this_row a_this_coding a_this_trial a_this_pad a_this_history a_this_slots a_this_coding_prices a_this_coding_stream a_this_coding_exponents a_this_coding_skips a_this_coding_exponents_cells a_this_coding_prices_sums a_this_coding_prices_sums_cells a_this_coding_skips_cells a_this_coding_stream_cells a_this_coding_stream_cells_cells a_this_history_states a_this_history_states_cells a_this_history_states_cells_cells a_this_row_numbers a_this_row_numbers_cells out.2.1 out.2.2.1 out.2.2.2.1 out.2.2.2.2.1 out.2.2.2.2.2.1 v_coding_stream_start v_coding_stream_next v_coding_stream_exponent v_coding_stream_number out.2.2.2.2.2.2.1 out.2.2.2.2.2.2.2.1 out.2.2.2.2.2.2.2.2.1 out.2.2.2.2.2.2.2.2.2.1 v_row_length out.2.2.2.2.2.2.2.2.2.2.1 out.2.2.2.2.2.2.2.2.2.2.2 g_row_numbers_cells) (some (.int out.1)) := by
  refine z_body (by decide) (Nat.le_of_ble_eq_true rfl) ?_
  intro p e s m args below meth c ls H locs A X hl hw
  have hl : lv_has ls 3 [(0, .ref a_this), (1, .int i1), (2, .int i2)] := hl
  unfold F_X8_set at hF
  refine z_aload_n 0 X dX8_set_0 hl 0 rfl ?_
  refine z_get 1 zc8 0 4 fl_8_40 X dX8_set_1 hw rfl (by decide) rfl ?_
  refine z_aload_n 4 X dX8_set_4 hl 0 rfl ?_
  refine z_get 5 zc8 0 0 fl_8_12 X dX8_set_5 hw rfl (by decide) rfl ?_
  obtain ⟨u1, e2, hF⟩ := zbd hF
  refine z_callV 8 zc2 mv_X2_note ml_8_53 12 [12, 13, 14, 15, 16, 17, 18] (zw_13 cA 0 a_this a_this_row a_this_coding a_this_trial a_this_pad a_this_history a_this_slots a_this_coding_prices a_this_coding_stream a_this_coding_exponents a_this_coding_skips a_this_coding_exponents_cells a_this_coding_prices_sums a_this_coding_prices_sums_cells a_this_coding_skips_cells a_this_coding_stream_cells a_this_coding_stream_cells_cells a_this_history_states a_this_history_states_cells a_this_history_states_cells_cells a_this_row_numbers a_this_row_numbers_cells g_coding_exponents_cells v_coding_prices_length g_coding_prices_sums_cells g_coding_skips_cells v_coding_stream_length v_coding_stream_start v_coding_stream_next v_coding_stream_exponent v_coding_stream_number g_coding_stream_cells_cells v_history_free v_history_length u1 v_row_length v_row_blockSize v_row_ones g_row_numbers_cells) [] (m_X2_note l D cA a_this_history a_this_history_states a_this_history_states_cells a_this_history_states_cells_cells a_this_row a_this_row_numbers a_this_row_numbers_cells v_history_free v_history_length g_history_states_cells_cells v_row_length v_row_blockSize v_row_ones g_row_numbers_cells u1 e2) X dX8_set_8 hw hl rfl rfl rfl (by decide) rfl rfl rfl (Nat.le_of_ble_eq_true rfl) ⟨Nat.le_of_ble_eq_true rfl, Nat.le_of_ble_eq_true rfl⟩ ⟨Nat.zero_le _, Nat.zero_le _⟩ (fun H locs hw => ?_)
  refine z_aload_n 11 X dX8_set_11 hl 0 rfl ?_
  refine z_aload_n 12 X dX8_set_12 hl 0 rfl ?_
  refine z_iload_n 13 X dX8_set_13 hl 1 rfl ?_
  refine z_iload_n 14 X dX8_set_14 hl 2 rfl ?_
  obtain ⟨u3, e4, hF⟩ := zbd hF
  refine z_callV 15 zc8 mv_X8_changeSetting ml_8_57 0 [0, 16] (zw_13 cA 0 a_this a_this_row a_this_coding a_this_trial a_this_pad a_this_history a_this_slots a_this_coding_prices a_this_coding_stream a_this_coding_exponents a_this_coding_skips a_this_coding_exponents_cells a_this_coding_prices_sums a_this_coding_prices_sums_cells a_this_coding_skips_cells a_this_coding_stream_cells a_this_coding_stream_cells_cells a_this_history_states a_this_history_states_cells a_this_history_states_cells_cells a_this_row_numbers a_this_row_numbers_cells g_coding_exponents_cells v_coding_prices_length g_coding_prices_sums_cells g_coding_skips_cells v_coding_stream_length v_coding_stream_start v_coding_stream_next v_coding_stream_exponent v_coding_stream_number g_coding_stream_cells_cells v_history_free v_history_length u1 v_row_length u3.2.1 u3.2.2 g_row_numbers_cells) [.ref a_this] (m_X8_changeSetting l D cA a_this a_this_row a_this_coding a_this_trial a_this_pad a_this_history a_this_slots a_this_row_numbers v_row_length v_row_blockSize v_row_ones i1 i2 u3 e4) X dX8_set_15 hw hl rfl rfl rfl (by decide) rfl rfl rfl (Nat.le_of_ble_eq_true rfl) ⟨Nat.le_of_ble_eq_true rfl, Nat.le_of_ble_eq_true rfl⟩ ⟨Nat.zero_le _, Nat.zero_le _⟩ (fun H locs hw => ?_)
  obtain ⟨u5, e6, hF⟩ := zbd hF
  refine z_callV 18 zc8 mv_X8_settle ml_8_61 0 [0, 1, 2, 3, 4, 5, 6, 7, 8, 9, 10, 11, 12, 16, 17, 18] (zw_13 cA 0 a_this a_this_row a_this_coding a_this_trial a_this_pad a_this_history a_this_slots a_this_coding_prices a_this_coding_stream a_this_coding_exponents a_this_coding_skips a_this_coding_exponents_cells a_this_coding_prices_sums a_this_coding_prices_sums_cells a_this_coding_skips_cells a_this_coding_stream_cells a_this_coding_stream_cells_cells a_this_history_states a_this_history_states_cells a_this_history_states_cells_cells a_this_row_numbers a_this_row_numbers_cells u5.2.1 u5.2.2.1 u5.2.2.2.1 u5.2.2.2.2.1 u5.2.2.2.2.2.1 v_coding_stream_start v_coding_stream_next v_coding_stream_exponent v_coding_stream_number u5.2.2.2.2.2.2.1 u5.2.2.2.2.2.2.2.1 u5.2.2.2.2.2.2.2.2 u1 v_row_length u3.2.1 u3.2.2 g_row_numbers_cells) [] (m_X8_settle l D cA a_this a_this_row a_this_coding a_this_trial a_this_pad a_this_history a_this_slots a_this_coding_prices a_this_coding_stream a_this_coding_exponents a_this_coding_skips a_this_coding_exponents_cells a_this_coding_prices_sums a_this_coding_prices_sums_cells a_this_coding_skips_cells a_this_coding_stream_cells a_this_coding_stream_cells_cells a_this_history_states a_this_row_numbers a_this_row_numbers_cells g_coding_exponents_cells v_coding_prices_length g_coding_prices_sums_cells g_coding_skips_cells v_coding_stream_length v_coding_stream_start v_coding_stream_next v_coding_stream_exponent v_coding_stream_number g_coding_stream_cells_cells v_history_free v_history_length v_row_length u3.2.1 u3.2.2 g_row_numbers_cells u3.1 u5 e6) X dX8_set_18 hw hl rfl rfl rfl (by decide) rfl rfl rfl (Nat.le_of_ble_eq_true rfl) ⟨Nat.le_of_ble_eq_true rfl, Nat.le_of_ble_eq_true rfl⟩ ⟨Nat.zero_le _, Nat.zero_le _⟩ (fun H locs hw => ?_)
  cases hF
  exact z_iret 21 X dX8_set_21 hw rfl rfl
theorem dX8_addNumber_0 : decode cX8_addNumber 0 = .ok (.iload_n 1, 1) := by decide +kernel
theorem dX8_addNumber_1 : decode cX8_addNumber 1 = .ok (.invokestatic 184, 3) := by decide +kernel
theorem dX8_addNumber_4 : decode cX8_addNumber 4 = .ok (.ifCond .ne 6, 3) := by decide +kernel
theorem dX8_addNumber_7 : decode cX8_addNumber 7 = .ok (.bipush (-2), 2) := by decide +kernel
theorem dX8_addNumber_9 : decode cX8_addNumber 9 = .ok (.ireturn, 1) := by decide +kernel
theorem dX8_addNumber_10 : decode cX8_addNumber 10 = .ok (.aload_n 0, 1) := by decide +kernel
theorem dX8_addNumber_11 : decode cX8_addNumber 11 = .ok (.getfield 12, 3) := by decide +kernel
theorem dX8_addNumber_14 : decode cX8_addNumber 14 = .ok (.getfield 80, 3) := by decide +kernel
theorem dX8_addNumber_17 : decode cX8_addNumber 17 = .ok (.bipush 64, 2) := by decide +kernel
theorem dX8_addNumber_19 : decode cX8_addNumber 19 = .ok (.if_icmp .lt 6, 3) := by decide +kernel
theorem dX8_addNumber_22 : decode cX8_addNumber 22 = .ok (.bipush (-4), 2) := by decide +kernel
theorem dX8_addNumber_24 : decode cX8_addNumber 24 = .ok (.ireturn, 1) := by decide +kernel
theorem dX8_addNumber_25 : decode cX8_addNumber 25 = .ok (.aload_n 0, 1) := by decide +kernel
theorem dX8_addNumber_26 : decode cX8_addNumber 26 = .ok (.getfield 12, 3) := by decide +kernel
theorem dX8_addNumber_29 : decode cX8_addNumber 29 = .ok (.iload_n 1, 1) := by decide +kernel
theorem dX8_addNumber_30 : decode cX8_addNumber 30 = .ok (.invokevirtual 249, 3) := by decide +kernel
theorem dX8_addNumber_33 : decode cX8_addNumber 33 = .ok (.istore_n 2, 1) := by decide +kernel
theorem dX8_addNumber_34 : decode cX8_addNumber 34 = .ok (.aload_n 0, 1) := by decide +kernel
theorem dX8_addNumber_35 : decode cX8_addNumber 35 = .ok (.getfield 12, 3) := by decide +kernel
theorem dX8_addNumber_38 : decode cX8_addNumber 38 = .ok (.iload_n 1, 1) := by decide +kernel
theorem dX8_addNumber_39 : decode cX8_addNumber 39 = .ok (.iload_n 2, 1) := by decide +kernel
theorem dX8_addNumber_40 : decode cX8_addNumber 40 = .ok (.invokevirtual 252, 3) := by decide +kernel
theorem dX8_addNumber_43 : decode cX8_addNumber 43 = .ok (.ifCond .eq 6, 3) := by decide +kernel
theorem dX8_addNumber_46 : decode cX8_addNumber 46 = .ok (.bipush (-5), 2) := by decide +kernel
theorem dX8_addNumber_48 : decode cX8_addNumber 48 = .ok (.ireturn, 1) := by decide +kernel
theorem dX8_addNumber_49 : decode cX8_addNumber 49 = .ok (.aload_n 0, 1) := by decide +kernel
theorem dX8_addNumber_50 : decode cX8_addNumber 50 = .ok (.getfield 12, 3) := by decide +kernel
theorem dX8_addNumber_53 : decode cX8_addNumber 53 = .ok (.iload_n 2, 1) := by decide +kernel
theorem dX8_addNumber_54 : decode cX8_addNumber 54 = .ok (.iload_n 1, 1) := by decide +kernel
theorem dX8_addNumber_55 : decode cX8_addNumber 55 = .ok (.invokevirtual 255, 3) := by decide +kernel
theorem dX8_addNumber_58 : decode cX8_addNumber 58 = .ok (.iload_n 2, 1) := by decide +kernel
theorem dX8_addNumber_59 : decode cX8_addNumber 59 = .ok (.ireturn, 1) := by decide +kernel
set_option maxHeartbeats 4000000 in
set_option maxRecDepth 100000 in
theorem m_X8_addNumber (l : Launch) (D : va_G) (cA : ClassId) (a_this a_this_row a_this_coding a_this_trial a_this_pad a_this_history a_this_slots a_this_row_numbers a_this_row_numbers_cells : Nat) (v_row_length : Int32) (v_row_blockSize : Int32) (v_row_ones : Int32) (g_row_numbers_cells : Ar) (i1 : Int32) (out : Int32 × Int32 × Ar) (hF : F_X8_addNumber v_row_length g_row_numbers_cells i1 = some out) : zM l D cA yX8_addNumber cX8_addNumber 3 (some .int) 3 65 [.ref a_this, .int i1] (zw_14 cA 0 a_this a_this_row a_this_coding a_this_trial a_this_pad a_this_history a_this_slots a_this_row_numbers a_this_row_numbers_cells v_row_length v_row_blockSize v_row_ones g_row_numbers_cells) (zw_14 cA 0 a_this a_this_row a_this_coding a_this_trial a_this_pad a_this_history a_this_slots a_this_row_numbers a_this_row_numbers_cells out.2.1 v_row_blockSize v_row_ones out.2.2) (some (.int out.1)) := by
  refine z_body (by decide) (Nat.le_of_ble_eq_true rfl) ?_
  intro p e s m args below meth c ls H locs A X hl hw
  have hl : lv_has ls 3 [(0, .ref a_this), (1, .int i1)] := hl
  unfold F_X8_addNumber at hF
  refine z_iload_n 0 X dX8_addNumber_0 hl 1 rfl ?_
  obtain ⟨u1, e2, hF⟩ := zbd hF
  refine z_callS 1 mv_X8_isNumber ml_8_184 [] (zw_14 cA 0 a_this a_this_row a_this_coding a_this_trial a_this_pad a_this_history a_this_slots a_this_row_numbers a_this_row_numbers_cells v_row_length v_row_blockSize v_row_ones g_row_numbers_cells) [] (m_X8_isNumber l D cA i1 u1 e2) X dX8_addNumber_1 hw hl rfl rfl (by decide) rfl rfl rfl (Nat.le_of_ble_eq_true rfl) ⟨Nat.le_of_ble_eq_true rfl, Nat.le_of_ble_eq_true rfl⟩ ⟨Nat.zero_le _, Nat.zero_le _⟩ (fun H locs hw => ?_)
  refine z_if_ne 4 10 X dX8_addNumber_4 (by decide) (fun c3 => ?_) (fun c3 => ?_)
  · replace hF := zneg c3 hF
    refine z_aload_n 10 X dX8_addNumber_10 hl 0 rfl ?_
    refine z_get 11 zc8 0 0 fl_8_12 X dX8_addNumber_11 hw rfl (by decide) rfl ?_
    refine z_getN 14 zc5 1 1 fl_8_80 X dX8_addNumber_14 hw rfl (by decide) rfl ?_
    refine z_bipush 17 64 X dX8_addNumber_17 (by decide) ?_
    refine z_icmp_lt 19 25 X dX8_addNumber_19 (by decide) (fun c4 => ?_) (fun c4 => ?_)
    · replace hF := zpos c4 hF
      refine z_aload_n 25 X dX8_addNumber_25 hl 0 rfl ?_
      refine z_get 26 zc8 0 0 fl_8_12 X dX8_addNumber_26 hw rfl (by decide) rfl ?_
      refine z_iload_n 29 X dX8_addNumber_29 hl 1 rfl ?_
      obtain ⟨u5, e6, hF⟩ := zbd hF
      refine z_callV 30 zc5 mv_X5_placeOf ml_8_249 1 [1, 2, 3] (zw_14 cA 0 a_this a_this_row a_this_coding a_this_trial a_this_pad a_this_history a_this_slots a_this_row_numbers a_this_row_numbers_cells v_row_length v_row_blockSize v_row_ones g_row_numbers_cells) [] (m_X5_placeOf l D cA a_this_row a_this_row_numbers a_this_row_numbers_cells v_row_length v_row_blockSize v_row_ones g_row_numbers_cells i1 u5 e6) X dX8_addNumber_30 hw hl rfl rfl rfl (by decide) rfl rfl rfl (Nat.le_of_ble_eq_true rfl) ⟨Nat.le_of_ble_eq_true rfl, Nat.le_of_ble_eq_true rfl⟩ ⟨Nat.zero_le _, Nat.zero_le _⟩ (fun H locs hw => ?_)
      refine z_istore_n 33 [(2, .int u5), (0, .ref a_this), (1, .int i1)] X dX8_addNumber_33 hl (by decide) rfl (fun ls hl => ?_)
      refine z_aload_n 34 X dX8_addNumber_34 hl 1 rfl ?_
      refine z_get 35 zc8 0 0 fl_8_12 X dX8_addNumber_35 hw rfl (by decide) rfl ?_
      refine z_iload_n 38 X dX8_addNumber_38 hl 2 rfl ?_
      refine z_iload_n 39 X dX8_addNumber_39 hl 0 rfl ?_
      obtain ⟨u7, e8, hF⟩ := zbd hF
      refine z_callV 40 zc5 mv_X5_holds ml_8_252 1 [1, 2, 3] (zw_14 cA 0 a_this a_this_row a_this_coding a_this_trial a_this_pad a_this_history a_this_slots a_this_row_numbers a_this_row_numbers_cells v_row_length v_row_blockSize v_row_ones g_row_numbers_cells) [] (m_X5_holds l D cA a_this_row a_this_row_numbers a_this_row_numbers_cells v_row_length v_row_blockSize v_row_ones g_row_numbers_cells i1 u5 u7 e8) X dX8_addNumber_40 hw hl rfl rfl rfl (by decide) rfl rfl rfl (Nat.le_of_ble_eq_true rfl) ⟨Nat.le_of_ble_eq_true rfl, Nat.le_of_ble_eq_true rfl⟩ ⟨Nat.zero_le _, Nat.zero_le _⟩ (fun H locs hw => ?_)
      refine z_if_eq 43 49 X dX8_addNumber_43 (by decide) (fun c9 => ?_) (fun c9 => ?_)
      · replace hF := zpos c9 hF
        refine z_aload_n 49 X dX8_addNumber_49 hl 1 rfl ?_
        refine z_get 50 zc8 0 0 fl_8_12 X dX8_addNumber_50 hw rfl (by decide) rfl ?_
        refine z_iload_n 53 X dX8_addNumber_53 hl 0 rfl ?_
        refine z_iload_n 54 X dX8_addNumber_54 hl 2 rfl ?_
        obtain ⟨u10, e11, hF⟩ := zbd hF
        refine z_callV 55 zc5 mv_X5_insert ml_8_255 1 [1, 2, 3] (zw_14 cA 0 a_this a_this_row a_this_coding a_this_trial a_this_pad a_this_history a_this_slots a_this_row_numbers a_this_row_numbers_cells u10.1 v_row_blockSize v_row_ones u10.2) [] (m_X5_insert l D cA a_this_row a_this_row_numbers a_this_row_numbers_cells v_row_length v_row_blockSize v_row_ones g_row_numbers_cells u5 i1 u10 e11) X dX8_addNumber_55 hw hl rfl rfl rfl (by decide) rfl rfl rfl (Nat.le_of_ble_eq_true rfl) ⟨Nat.le_of_ble_eq_true rfl, Nat.le_of_ble_eq_true rfl⟩ ⟨Nat.zero_le _, Nat.zero_le _⟩ (fun H locs hw => ?_)
        refine z_iload_n 58 X dX8_addNumber_58 hl 0 rfl ?_
        cases hF
        exact z_iret 59 X dX8_addNumber_59 hw rfl rfl
      · replace hF := zneg c9 hF
        refine z_bipush 46 (-5) X dX8_addNumber_46 (by decide) ?_
        cases hF
        exact z_iret 48 X dX8_addNumber_48 hw rfl rfl
    · replace hF := zneg c4 hF
      refine z_bipush 22 (-4) X dX8_addNumber_22 (by decide) ?_
      cases hF
      exact z_iret 24 X dX8_addNumber_24 hw rfl rfl
  · replace hF := zpos c3 hF
    refine z_bipush 7 (-2) X dX8_addNumber_7 (by decide) ?_
    cases hF
    exact z_iret 9 X dX8_addNumber_9 hw rfl rfl
theorem dX8_putIn_0 : decode cX8_putIn 0 = .ok (.aload_n 0, 1) := by decide +kernel
theorem dX8_putIn_1 : decode cX8_putIn 1 = .ok (.getfield 40, 3) := by decide +kernel
theorem dX8_putIn_4 : decode cX8_putIn 4 = .ok (.aload_n 0, 1) := by decide +kernel
theorem dX8_putIn_5 : decode cX8_putIn 5 = .ok (.getfield 12, 3) := by decide +kernel
theorem dX8_putIn_8 : decode cX8_putIn 8 = .ok (.invokevirtual 53, 3) := by decide +kernel
theorem dX8_putIn_11 : decode cX8_putIn 11 = .ok (.aload_n 0, 1) := by decide +kernel
theorem dX8_putIn_12 : decode cX8_putIn 12 = .ok (.aload_n 0, 1) := by decide +kernel
theorem dX8_putIn_13 : decode cX8_putIn 13 = .ok (.iload_n 1, 1) := by decide +kernel
theorem dX8_putIn_14 : decode cX8_putIn 14 = .ok (.invokevirtual 65, 3) := by decide +kernel
theorem dX8_putIn_17 : decode cX8_putIn 17 = .ok (.invokevirtual 61, 3) := by decide +kernel
theorem dX8_putIn_20 : decode cX8_putIn 20 = .ok (.ireturn, 1) := by decide +kernel
set_option maxHeartbeats 4000000 in
set_option maxRecDepth 100000 in
theorem m_X8_putIn (l : Launch) (D : va_G) (cA : ClassId) (a_this a_this_row a_this_coding a_this_trial a_this_pad a_this_history a_this_slots a_this_coding_prices a_this_coding_stream a_this_coding_exponents a_this_coding_skips a_this_coding_exponents_cells a_this_coding_prices_sums a_this_coding_prices_sums_cells a_this_coding_skips_cells a_this_coding_stream_cells a_this_coding_stream_cells_cells a_this_history_states a_this_history_states_cells a_this_history_states_cells_cells a_this_row_numbers a_this_row_numbers_cells : Nat) (g_coding_exponents_cells : Ar) (v_coding_prices_length : Int32) (g_coding_prices_sums_cells : Ar) (g_coding_skips_cells : Ar) (v_coding_stream_length : Int32) (v_coding_stream_start : Int32) (v_coding_stream_next : Int32) (v_coding_stream_exponent : Int32) (v_coding_stream_number : Int32) (g_coding_stream_cells_cells : Ar) (v_history_free : Int32) (v_history_length : Int32) (g_history_states_cells_cells : Ar) (v_row_length : Int32) (v_row_blockSize : Int32) (v_row_ones : Int32) (g_row_numbers_cells : Ar) (i1 : Int32) (out : Int32 × Ar × Int32 × Ar × Ar × Int32 × Ar × Int32 × Int32 × Ar × Int32 × Ar) (hF : F_X8_putIn g_coding_exponents_cells v_coding_prices_length g_coding_prices_sums_cells g_coding_skips_cells v_coding_stream_length g_coding_stream_cells_cells v_history_free v_history_length g_history_states_cells_cells v_row_length v_row_blockSize v_row_ones g_row_numbers_cells i1 = some out) : zM l D cA yX8_putIn cX8_putIn 2 (some .int) 6 139 [.ref a_this, .int i1] (zw_13 cA 0 a_this a_this_row a_this_coding a_this_trial a_this_pad a_this_history a_this_slots a_this_coding_prices a_this_coding_stream a_this_coding_exponents a_this_coding_skips a_this_coding_exponents_cells a_this_coding_prices_sums a_this_coding_prices_sums_cells a_this_coding_skips_cells a_this_coding_stream_cells a_this_coding_stream_cells_cells a_this_history_states a_this_history_states_cells a_this_history_states_cells_cells a_this_row_numbers a_this_row_numbers_cells g_coding_exponents_cells v_coding_prices_length g_coding_prices_sums_cells g_coding_skips_cells v_coding_stream_length v_coding_stream_start v_coding_stream_next v_coding_stream_exponent v_coding_stream_number g_coding_stream_cells_cells v_history_free v_history_length g_history_states_cells_cells v_row_length v_row_blockSize v_row_ones g_row_numbers_cells) (zw_13 cA 0 a_this a_this_row a_this_coding a_this_trial a_this_pad a_this_history a_this_slots a_this_coding_prices a_this_coding_stream a_this_coding_exponents a_this_coding_skips a_this_coding_exponents_cells a_this_coding_prices_sums a_this_coding_prices_sums_cells a_this_coding_skips_cells a_this_coding_stream_cells a_this_coding_stream_cells_cells a_this_history_states a_this_history_states_cells a_this_history_states_cells_cells a_this_row_numbers a_this_row_numbers_cells out.2.1 out.2.2.1 out.2.2.2.1 out.2.2.2.2.1 out.2.2.2.2.2.1 v_coding_stream_start v_coding_stream_next v_coding_stream_exponent v_coding_stream_number out.2.2.2.2.2.2.1 out.2.2.2.2.2.2.2.1 out.2.2.2.2.2.2.2.2.1 out.2.2.2.2.2.2.2.2.2.1 out.2.2.2.2.2.2.2.2.2.2.1 v_row_blockSize v_row_ones out.2.2.2.2.2.2.2.2.2.2.2) (some (.int out.1)) := by
  refine z_body (by decide) (Nat.le_of_ble_eq_true rfl) ?_
  intro p e s m args below meth c ls H locs A X hl hw
  have hl : lv_has ls 2 [(0, .ref a_this), (1, .int i1)] := hl
  unfold F_X8_putIn at hF
  refine z_aload_n 0 X dX8_putIn_0 hl 0 rfl ?_
  refine z_get 1 zc8 0 4 fl_8_40 X dX8_putIn_1 hw rfl (by decide) rfl ?_
  refine z_aload_n 4 X dX8_putIn_4 hl 0 rfl ?_
  refine z_get 5 zc8 0 0 fl_8_12 X dX8_putIn_5 hw rfl (by decide) rfl ?_
  obtain ⟨u1, e2, hF⟩ := zbd hF
  refine z_callV 8 zc2 mv_X2_note ml_8_53 12 [12, 13, 14, 15, 16, 17, 18] (zw_13 cA 0 a_this a_this_row a_this_coding a_this_trial a_this_pad a_this_history a_this_slots a_this_coding_prices a_this_coding_stream a_this_coding_exponents a_this_coding_skips a_this_coding_exponents_cells a_this_coding_prices_sums a_this_coding_prices_sums_cells a_this_coding_skips_cells a_this_coding_stream_cells a_this_coding_stream_cells_cells a_this_history_states a_this_history_states_cells a_this_history_states_cells_cells a_this_row_numbers a_this_row_numbers_cells g_coding_exponents_cells v_coding_prices_length g_coding_prices_sums_cells g_coding_skips_cells v_coding_stream_length v_coding_stream_start v_coding_stream_next v_coding_stream_exponent v_coding_stream_number g_coding_stream_cells_cells v_history_free v_history_length u1 v_row_length v_row_blockSize v_row_ones g_row_numbers_cells) [] (m_X2_note l D cA a_this_history a_this_history_states a_this_history_states_cells a_this_history_states_cells_cells a_this_row a_this_row_numbers a_this_row_numbers_cells v_history_free v_history_length g_history_states_cells_cells v_row_length v_row_blockSize v_row_ones g_row_numbers_cells u1 e2) X dX8_putIn_8 hw hl rfl rfl rfl (by decide) rfl rfl rfl (Nat.le_of_ble_eq_true rfl) ⟨Nat.le_of_ble_eq_true rfl, Nat.le_of_ble_eq_true rfl⟩ ⟨Nat.zero_le _, Nat.zero_le _⟩ (fun H locs hw => ?_)
  refine z_aload_n 11 X dX8_putIn_11 hl 0 rfl ?_
  refine z_aload_n 12 X dX8_putIn_12 hl 0 rfl ?_
  refine z_iload_n 13 X dX8_putIn_13 hl 1 rfl ?_
  obtain ⟨u3, e4, hF⟩ := zbd hF
  refine z_callV 14 zc8 mv_X8_addNumber ml_8_65 0 [0, 16, 17, 18] (zw_13 cA 0 a_this a_this_row a_this_coding a_this_trial a_this_pad a_this_history a_this_slots a_this_coding_prices a_this_coding_stream a_this_coding_exponents a_this_coding_skips a_this_coding_exponents_cells a_this_coding_prices_sums a_this_coding_prices_sums_cells a_this_coding_skips_cells a_this_coding_stream_cells a_this_coding_stream_cells_cells a_this_history_states a_this_history_states_cells a_this_history_states_cells_cells a_this_row_numbers a_this_row_numbers_cells g_coding_exponents_cells v_coding_prices_length g_coding_prices_sums_cells g_coding_skips_cells v_coding_stream_length v_coding_stream_start v_coding_stream_next v_coding_stream_exponent v_coding_stream_number g_coding_stream_cells_cells v_history_free v_history_length u1 u3.2.1 v_row_blockSize v_row_ones u3.2.2) [.ref a_this] (m_X8_addNumber l D cA a_this a_this_row a_this_coding a_this_trial a_this_pad a_this_history a_this_slots a_this_row_numbers a_this_row_numbers_cells v_row_length v_row_blockSize v_row_ones g_row_numbers_cells i1 u3 e4) X dX8_putIn_14 hw hl rfl rfl rfl (by decide) rfl rfl rfl (Nat.le_of_ble_eq_true rfl) ⟨Nat.le_of_ble_eq_true rfl, Nat.le_of_ble_eq_true rfl⟩ ⟨Nat.zero_le _, Nat.zero_le _⟩ (fun H locs hw => ?_)
  obtain ⟨u5, e6, hF⟩ := zbd hF
  refine z_callV 17 zc8 mv_X8_settle ml_8_61 0 [0, 1, 2, 3, 4, 5, 6, 7, 8, 9, 10, 11, 12, 16, 17, 18] (zw_13 cA 0 a_this a_this_row a_this_coding a_this_trial a_this_pad a_this_history a_this_slots a_this_coding_prices a_this_coding_stream a_this_coding_exponents a_this_coding_skips a_this_coding_exponents_cells a_this_coding_prices_sums a_this_coding_prices_sums_cells a_this_coding_skips_cells a_this_coding_stream_cells a_this_coding_stream_cells_cells a_this_history_states a_this_history_states_cells a_this_history_states_cells_cells a_this_row_numbers a_this_row_numbers_cells u5.2.1 u5.2.2.1 u5.2.2.2.1 u5.2.2.2.2.1 u5.2.2.2.2.2.1 v_coding_stream_start v_coding_stream_next v_coding_stream_exponent v_coding_stream_number u5.2.2.2.2.2.2.1 u5.2.2.2.2.2.2.2.1 u5.2.2.2.2.2.2.2.2 u1 u3.2.1 v_row_blockSize v_row_ones u3.2.2) [] (m_X8_settle l D cA a_this a_this_row a_this_coding a_this_trial a_this_pad a_this_history a_this_slots a_this_coding_prices a_this_coding_stream a_this_coding_exponents a_this_coding_skips a_this_coding_exponents_cells a_this_coding_prices_sums a_this_coding_prices_sums_cells a_this_coding_skips_cells a_this_coding_stream_cells a_this_coding_stream_cells_cells a_this_history_states a_this_row_numbers a_this_row_numbers_cells g_coding_exponents_cells v_coding_prices_length g_coding_prices_sums_cells g_coding_skips_cells v_coding_stream_length v_coding_stream_start v_coding_stream_next v_coding_stream_exponent v_coding_stream_number g_coding_stream_cells_cells v_history_free v_history_length u3.2.1 v_row_blockSize v_row_ones u3.2.2 u3.1 u5 e6) X dX8_putIn_17 hw hl rfl rfl rfl (by decide) rfl rfl rfl (Nat.le_of_ble_eq_true rfl) ⟨Nat.le_of_ble_eq_true rfl, Nat.le_of_ble_eq_true rfl⟩ ⟨Nat.zero_le _, Nat.zero_le _⟩ (fun H locs hw => ?_)
  cases hF
  exact z_iret 20 X dX8_putIn_20 hw rfl rfl
theorem dX8_dropNumber_0 : decode cX8_dropNumber 0 = .ok (.iload_n 1, 1) := by decide +kernel
theorem dX8_dropNumber_1 : decode cX8_dropNumber 1 = .ok (.invokestatic 184, 3) := by decide +kernel
theorem dX8_dropNumber_4 : decode cX8_dropNumber 4 = .ok (.ifCond .ne 6, 3) := by decide +kernel
theorem dX8_dropNumber_7 : decode cX8_dropNumber 7 = .ok (.bipush (-2), 2) := by decide +kernel
theorem dX8_dropNumber_9 : decode cX8_dropNumber 9 = .ok (.ireturn, 1) := by decide +kernel
theorem dX8_dropNumber_10 : decode cX8_dropNumber 10 = .ok (.aload_n 0, 1) := by decide +kernel
theorem dX8_dropNumber_11 : decode cX8_dropNumber 11 = .ok (.getfield 12, 3) := by decide +kernel
theorem dX8_dropNumber_14 : decode cX8_dropNumber 14 = .ok (.iload_n 1, 1) := by decide +kernel
theorem dX8_dropNumber_15 : decode cX8_dropNumber 15 = .ok (.invokevirtual 249, 3) := by decide +kernel
theorem dX8_dropNumber_18 : decode cX8_dropNumber 18 = .ok (.istore_n 2, 1) := by decide +kernel
theorem dX8_dropNumber_19 : decode cX8_dropNumber 19 = .ok (.aload_n 0, 1) := by decide +kernel
theorem dX8_dropNumber_20 : decode cX8_dropNumber 20 = .ok (.getfield 12, 3) := by decide +kernel
theorem dX8_dropNumber_23 : decode cX8_dropNumber 23 = .ok (.iload_n 1, 1) := by decide +kernel
theorem dX8_dropNumber_24 : decode cX8_dropNumber 24 = .ok (.iload_n 2, 1) := by decide +kernel
theorem dX8_dropNumber_25 : decode cX8_dropNumber 25 = .ok (.invokevirtual 252, 3) := by decide +kernel
theorem dX8_dropNumber_28 : decode cX8_dropNumber 28 = .ok (.ifCond .ne 5, 3) := by decide +kernel
theorem dX8_dropNumber_31 : decode cX8_dropNumber 31 = .ok (.iconst (-1), 1) := by decide +kernel
theorem dX8_dropNumber_32 : decode cX8_dropNumber 32 = .ok (.ireturn, 1) := by decide +kernel
theorem dX8_dropNumber_33 : decode cX8_dropNumber 33 = .ok (.aload_n 0, 1) := by decide +kernel
theorem dX8_dropNumber_34 : decode cX8_dropNumber 34 = .ok (.getfield 12, 3) := by decide +kernel
theorem dX8_dropNumber_37 : decode cX8_dropNumber 37 = .ok (.iload_n 2, 1) := by decide +kernel
theorem dX8_dropNumber_38 : decode cX8_dropNumber 38 = .ok (.invokevirtual 258, 3) := by decide +kernel
theorem dX8_dropNumber_41 : decode cX8_dropNumber 41 = .ok (.iload_n 2, 1) := by decide +kernel
theorem dX8_dropNumber_42 : decode cX8_dropNumber 42 = .ok (.ireturn, 1) := by decide +kernel
set_option maxHeartbeats 4000000 in
set_option maxRecDepth 100000 in
theorem m_X8_dropNumber (l : Launch) (D : va_G) (cA : ClassId) (a_this a_this_row a_this_coding a_this_trial a_this_pad a_this_history a_this_slots a_this_row_numbers a_this_row_numbers_cells : Nat) (v_row_length : Int32) (v_row_blockSize : Int32) (v_row_ones : Int32) (g_row_numbers_cells : Ar) (i1 : Int32) (out : Int32 × Int32 × Ar) (hF : F_X8_dropNumber v_row_length g_row_numbers_cells i1 = some out) : zM l D cA yX8_dropNumber cX8_dropNumber 3 (some .int) 3 64 [.ref a_this, .int i1] (zw_14 cA 0 a_this a_this_row a_this_coding a_this_trial a_this_pad a_this_history a_this_slots a_this_row_numbers a_this_row_numbers_cells v_row_length v_row_blockSize v_row_ones g_row_numbers_cells) (zw_14 cA 0 a_this a_this_row a_this_coding a_this_trial a_this_pad a_this_history a_this_slots a_this_row_numbers a_this_row_numbers_cells out.2.1 v_row_blockSize v_row_ones out.2.2) (some (.int out.1)) := by
  refine z_body (by decide) (Nat.le_of_ble_eq_true rfl) ?_
  intro p e s m args below meth c ls H locs A X hl hw
  have hl : lv_has ls 3 [(0, .ref a_this), (1, .int i1)] := hl
  unfold F_X8_dropNumber at hF
  refine z_iload_n 0 X dX8_dropNumber_0 hl 1 rfl ?_
  obtain ⟨u1, e2, hF⟩ := zbd hF
  refine z_callS 1 mv_X8_isNumber ml_8_184 [] (zw_14 cA 0 a_this a_this_row a_this_coding a_this_trial a_this_pad a_this_history a_this_slots a_this_row_numbers a_this_row_numbers_cells v_row_length v_row_blockSize v_row_ones g_row_numbers_cells) [] (m_X8_isNumber l D cA i1 u1 e2) X dX8_dropNumber_1 hw hl rfl rfl (by decide) rfl rfl rfl (Nat.le_of_ble_eq_true rfl) ⟨Nat.le_of_ble_eq_true rfl, Nat.le_of_ble_eq_true rfl⟩ ⟨Nat.zero_le _, Nat.zero_le _⟩ (fun H locs hw => ?_)
  refine z_if_ne 4 10 X dX8_dropNumber_4 (by decide) (fun c3 => ?_) (fun c3 => ?_)
  · replace hF := zneg c3 hF
    refine z_aload_n 10 X dX8_dropNumber_10 hl 0 rfl ?_
    refine z_get 11 zc8 0 0 fl_8_12 X dX8_dropNumber_11 hw rfl (by decide) rfl ?_
    refine z_iload_n 14 X dX8_dropNumber_14 hl 1 rfl ?_
    obtain ⟨u4, e5, hF⟩ := zbd hF
    refine z_callV 15 zc5 mv_X5_placeOf ml_8_249 1 [1, 2, 3] (zw_14 cA 0 a_this a_this_row a_this_coding a_this_trial a_this_pad a_this_history a_this_slots a_this_row_numbers a_this_row_numbers_cells v_row_length v_row_blockSize v_row_ones g_row_numbers_cells) [] (m_X5_placeOf l D cA a_this_row a_this_row_numbers a_this_row_numbers_cells v_row_length v_row_blockSize v_row_ones g_row_numbers_cells i1 u4 e5) X dX8_dropNumber_15 hw hl rfl rfl rfl (by decide) rfl rfl rfl (Nat.le_of_ble_eq_true rfl) ⟨Nat.le_of_ble_eq_true rfl, Nat.le_of_ble_eq_true rfl⟩ ⟨Nat.zero_le _, Nat.zero_le _⟩ (fun H locs hw => ?_)
    refine z_istore_n 18 [(2, .int u4), (0, .ref a_this), (1, .int i1)] X dX8_dropNumber_18 hl (by decide) rfl (fun ls hl => ?_)
    refine z_aload_n 19 X dX8_dropNumber_19 hl 1 rfl ?_
    refine z_get 20 zc8 0 0 fl_8_12 X dX8_dropNumber_20 hw rfl (by decide) rfl ?_
    refine z_iload_n 23 X dX8_dropNumber_23 hl 2 rfl ?_
    refine z_iload_n 24 X dX8_dropNumber_24 hl 0 rfl ?_
    obtain ⟨u6, e7, hF⟩ := zbd hF
    refine z_callV 25 zc5 mv_X5_holds ml_8_252 1 [1, 2, 3] (zw_14 cA 0 a_this a_this_row a_this_coding a_this_trial a_this_pad a_this_history a_this_slots a_this_row_numbers a_this_row_numbers_cells v_row_length v_row_blockSize v_row_ones g_row_numbers_cells) [] (m_X5_holds l D cA a_this_row a_this_row_numbers a_this_row_numbers_cells v_row_length v_row_blockSize v_row_ones g_row_numbers_cells i1 u4 u6 e7) X dX8_dropNumber_25 hw hl rfl rfl rfl (by decide) rfl rfl rfl (Nat.le_of_ble_eq_true rfl) ⟨Nat.le_of_ble_eq_true rfl, Nat.le_of_ble_eq_true rfl⟩ ⟨Nat.zero_le _, Nat.zero_le _⟩ (fun H locs hw => ?_)
    refine z_if_ne 28 33 X dX8_dropNumber_28 (by decide) (fun c8 => ?_) (fun c8 => ?_)
    · replace hF := zneg c8 hF
      refine z_aload_n 33 X dX8_dropNumber_33 hl 1 rfl ?_
      refine z_get 34 zc8 0 0 fl_8_12 X dX8_dropNumber_34 hw rfl (by decide) rfl ?_
      refine z_iload_n 37 X dX8_dropNumber_37 hl 0 rfl ?_
      obtain ⟨u9, e10, hF⟩ := zbd hF
      refine z_callV 38 zc5 mv_X5_remove ml_8_258 1 [1, 2, 3] (zw_14 cA 0 a_this a_this_row a_this_coding a_this_trial a_this_pad a_this_history a_this_slots a_this_row_numbers a_this_row_numbers_cells u9.1 v_row_blockSize v_row_ones u9.2) [] (m_X5_remove l D cA a_this_row a_this_row_numbers a_this_row_numbers_cells v_row_length v_row_blockSize v_row_ones g_row_numbers_cells u4 u9 e10) X dX8_dropNumber_38 hw hl rfl rfl rfl (by decide) rfl rfl rfl (Nat.le_of_ble_eq_true rfl) ⟨Nat.le_of_ble_eq_true rfl, Nat.le_of_ble_eq_true rfl⟩ ⟨Nat.zero_le _, Nat.zero_le _⟩ (fun H locs hw => ?_)
      refine z_iload_n 41 X dX8_dropNumber_41 hl 0 rfl ?_
      cases hF
      exact z_iret 42 X dX8_dropNumber_42 hw rfl rfl
    · replace hF := zpos c8 hF
      refine z_iconst 31 (-1) X dX8_dropNumber_31 (by decide) ?_
      cases hF
      exact z_iret 32 X dX8_dropNumber_32 hw rfl rfl
  · replace hF := zpos c3 hF
    refine z_bipush 7 (-2) X dX8_dropNumber_7 (by decide) ?_
    cases hF
    exact z_iret 9 X dX8_dropNumber_9 hw rfl rfl
theorem dX8_takeOut_0 : decode cX8_takeOut 0 = .ok (.aload_n 0, 1) := by decide +kernel
theorem dX8_takeOut_1 : decode cX8_takeOut 1 = .ok (.getfield 40, 3) := by decide +kernel
theorem dX8_takeOut_4 : decode cX8_takeOut 4 = .ok (.aload_n 0, 1) := by decide +kernel
theorem dX8_takeOut_5 : decode cX8_takeOut 5 = .ok (.getfield 12, 3) := by decide +kernel
theorem dX8_takeOut_8 : decode cX8_takeOut 8 = .ok (.invokevirtual 53, 3) := by decide +kernel
theorem dX8_takeOut_11 : decode cX8_takeOut 11 = .ok (.aload_n 0, 1) := by decide +kernel
theorem dX8_takeOut_12 : decode cX8_takeOut 12 = .ok (.aload_n 0, 1) := by decide +kernel
theorem dX8_takeOut_13 : decode cX8_takeOut 13 = .ok (.iload_n 1, 1) := by decide +kernel
theorem dX8_takeOut_14 : decode cX8_takeOut 14 = .ok (.invokevirtual 68, 3) := by decide +kernel
theorem dX8_takeOut_17 : decode cX8_takeOut 17 = .ok (.invokevirtual 61, 3) := by decide +kernel
theorem dX8_takeOut_20 : decode cX8_takeOut 20 = .ok (.ireturn, 1) := by decide +kernel
set_option maxHeartbeats 4000000 in
set_option maxRecDepth 100000 in
theorem m_X8_takeOut (l : Launch) (D : va_G) (cA : ClassId) (a_this a_this_row a_this_coding a_this_trial a_this_pad a_this_history a_this_slots a_this_coding_prices a_this_coding_stream a_this_coding_exponents a_this_coding_skips a_this_coding_exponents_cells a_this_coding_prices_sums a_this_coding_prices_sums_cells a_this_coding_skips_cells a_this_coding_stream_cells a_this_coding_stream_cells_cells a_this_history_states a_this_history_states_cells a_this_history_states_cells_cells a_this_row_numbers a_this_row_numbers_cells : Nat) (g_coding_exponents_cells : Ar) (v_coding_prices_length : Int32) (g_coding_prices_sums_cells : Ar) (g_coding_skips_cells : Ar) (v_coding_stream_length : Int32) (v_coding_stream_start : Int32) (v_coding_stream_next : Int32) (v_coding_stream_exponent : Int32) (v_coding_stream_number : Int32) (g_coding_stream_cells_cells : Ar) (v_history_free : Int32) (v_history_length : Int32) (g_history_states_cells_cells : Ar) (v_row_length : Int32) (v_row_blockSize : Int32) (v_row_ones : Int32) (g_row_numbers_cells : Ar) (i1 : Int32) (out : Int32 × Ar × Int32 × Ar × Ar × Int32 × Ar × Int32 × Int32 × Ar × Int32 × Ar) (hF : F_X8_takeOut g_coding_exponents_cells v_coding_prices_length g_coding_prices_sums_cells g_coding_skips_cells v_coding_stream_length g_coding_stream_cells_cells v_history_free v_history_length g_history_states_cells_cells v_row_length v_row_blockSize v_row_ones g_row_numbers_cells i1 = some out) : zM l D cA yX8_takeOut cX8_takeOut 2 (some .int) 6 139 [.ref a_this, .int i1] (zw_13 cA 0 a_this a_this_row a_this_coding a_this_trial a_this_pad a_this_history a_this_slots a_this_coding_prices a_this_coding_stream a_this_coding_exponents a_this_coding_skips a_this_coding_exponents_cells a_this_coding_prices_sums a_this_coding_prices_sums_cells a_this_coding_skips_cells a_this_coding_stream_cells a_this_coding_stream_cells_cells a_this_history_states a_this_history_states_cells a_this_history_states_cells_cells a_this_row_numbers a_this_row_numbers_cells g_coding_exponents_cells v_coding_prices_length g_coding_prices_sums_cells g_coding_skips_cells v_coding_stream_length v_coding_stream_start v_coding_stream_next v_coding_stream_exponent v_coding_stream_number g_coding_stream_cells_cells v_history_free v_history_length g_history_states_cells_cells v_row_length v_row_blockSize v_row_ones g_row_numbers_cells) (zw_13 cA 0 a_this a_this_row a_this_coding a_this_trial a_this_pad a_this_history a_this_slots a_this_coding_prices a_this_coding_stream a_this_coding_exponents a_this_coding_skips a_this_coding_exponents_cells a_this_coding_prices_sums a_this_coding_prices_sums_cells a_this_coding_skips_cells a_this_coding_stream_cells a_this_coding_stream_cells_cells a_this_history_states a_this_history_states_cells a_this_history_states_cells_cells a_this_row_numbers a_this_row_numbers_cells out.2.1 out.2.2.1 out.2.2.2.1 out.2.2.2.2.1 out.2.2.2.2.2.1 v_coding_stream_start v_coding_stream_next v_coding_stream_exponent v_coding_stream_number out.2.2.2.2.2.2.1 out.2.2.2.2.2.2.2.1 out.2.2.2.2.2.2.2.2.1 out.2.2.2.2.2.2.2.2.2.1 out.2.2.2.2.2.2.2.2.2.2.1 v_row_blockSize v_row_ones out.2.2.2.2.2.2.2.2.2.2.2) (some (.int out.1)) := by
  refine z_body (by decide) (Nat.le_of_ble_eq_true rfl) ?_
  intro p e s m args below meth c ls H locs A X hl hw
  have hl : lv_has ls 2 [(0, .ref a_this), (1, .int i1)] := hl
  unfold F_X8_takeOut at hF
  refine z_aload_n 0 X dX8_takeOut_0 hl 0 rfl ?_
  refine z_get 1 zc8 0 4 fl_8_40 X dX8_takeOut_1 hw rfl (by decide) rfl ?_
  refine z_aload_n 4 X dX8_takeOut_4 hl 0 rfl ?_
  refine z_get 5 zc8 0 0 fl_8_12 X dX8_takeOut_5 hw rfl (by decide) rfl ?_
  obtain ⟨u1, e2, hF⟩ := zbd hF
  refine z_callV 8 zc2 mv_X2_note ml_8_53 12 [12, 13, 14, 15, 16, 17, 18] (zw_13 cA 0 a_this a_this_row a_this_coding a_this_trial a_this_pad a_this_history a_this_slots a_this_coding_prices a_this_coding_stream a_this_coding_exponents a_this_coding_skips a_this_coding_exponents_cells a_this_coding_prices_sums a_this_coding_prices_sums_cells a_this_coding_skips_cells a_this_coding_stream_cells a_this_coding_stream_cells_cells a_this_history_states a_this_history_states_cells a_this_history_states_cells_cells a_this_row_numbers a_this_row_numbers_cells g_coding_exponents_cells v_coding_prices_length g_coding_prices_sums_cells g_coding_skips_cells v_coding_stream_length v_coding_stream_start v_coding_stream_next v_coding_stream_exponent v_coding_stream_number g_coding_stream_cells_cells v_history_free v_history_length u1 v_row_length v_row_blockSize v_row_ones g_row_numbers_cells) [] (m_X2_note l D cA a_this_history a_this_history_states a_this_history_states_cells a_this_history_states_cells_cells a_this_row a_this_row_numbers a_this_row_numbers_cells v_history_free v_history_length g_history_states_cells_cells v_row_length v_row_blockSize v_row_ones g_row_numbers_cells u1 e2) X dX8_takeOut_8 hw hl rfl rfl rfl (by decide) rfl rfl rfl (Nat.le_of_ble_eq_true rfl) ⟨Nat.le_of_ble_eq_true rfl, Nat.le_of_ble_eq_true rfl⟩ ⟨Nat.zero_le _, Nat.zero_le _⟩ (fun H locs hw => ?_)
  refine z_aload_n 11 X dX8_takeOut_11 hl 0 rfl ?_
  refine z_aload_n 12 X dX8_takeOut_12 hl 0 rfl ?_
  refine z_iload_n 13 X dX8_takeOut_13 hl 1 rfl ?_
  obtain ⟨u3, e4, hF⟩ := zbd hF
  refine z_callV 14 zc8 mv_X8_dropNumber ml_8_68 0 [0, 16, 17, 18] (zw_13 cA 0 a_this a_this_row a_this_coding a_this_trial a_this_pad a_this_history a_this_slots a_this_coding_prices a_this_coding_stream a_this_coding_exponents a_this_coding_skips a_this_coding_exponents_cells a_this_coding_prices_sums a_this_coding_prices_sums_cells a_this_coding_skips_cells a_this_coding_stream_cells a_this_coding_stream_cells_cells a_this_history_states a_this_history_states_cells a_this_history_states_cells_cells a_this_row_numbers a_this_row_numbers_cells g_coding_exponents_cells v_coding_prices_length g_coding_prices_sums_cells g_coding_skips_cells v_coding_stream_length v_coding_stream_start v_coding_stream_next v_coding_stream_exponent v_coding_stream_number g_coding_stream_cells_cells v_history_free v_history_length u1 u3.2.1 v_row_blockSize v_row_ones u3.2.2) [.ref a_this] (m_X8_dropNumber l D cA a_this a_this_row a_this_coding a_this_trial a_this_pad a_this_history a_this_slots a_this_row_numbers a_this_row_numbers_cells v_row_length v_row_blockSize v_row_ones g_row_numbers_cells i1 u3 e4) X dX8_takeOut_14 hw hl rfl rfl rfl (by decide) rfl rfl rfl (Nat.le_of_ble_eq_true rfl) ⟨Nat.le_of_ble_eq_true rfl, Nat.le_of_ble_eq_true rfl⟩ ⟨Nat.zero_le _, Nat.zero_le _⟩ (fun H locs hw => ?_)
  obtain ⟨u5, e6, hF⟩ := zbd hF
  refine z_callV 17 zc8 mv_X8_settle ml_8_61 0 [0, 1, 2, 3, 4, 5, 6, 7, 8, 9, 10, 11, 12, 16, 17, 18] (zw_13 cA 0 a_this a_this_row a_this_coding a_this_trial a_this_pad a_this_history a_this_slots a_this_coding_prices a_this_coding_stream a_this_coding_exponents a_this_coding_skips a_this_coding_exponents_cells a_this_coding_prices_sums a_this_coding_prices_sums_cells a_this_coding_skips_cells a_this_coding_stream_cells a_this_coding_stream_cells_cells a_this_history_states a_this_history_states_cells a_this_history_states_cells_cells a_this_row_numbers a_this_row_numbers_cells u5.2.1 u5.2.2.1 u5.2.2.2.1 u5.2.2.2.2.1 u5.2.2.2.2.2.1 v_coding_stream_start v_coding_stream_next v_coding_stream_exponent v_coding_stream_number u5.2.2.2.2.2.2.1 u5.2.2.2.2.2.2.2.1 u5.2.2.2.2.2.2.2.2 u1 u3.2.1 v_row_blockSize v_row_ones u3.2.2) [] (m_X8_settle l D cA a_this a_this_row a_this_coding a_this_trial a_this_pad a_this_history a_this_slots a_this_coding_prices a_this_coding_stream a_this_coding_exponents a_this_coding_skips a_this_coding_exponents_cells a_this_coding_prices_sums a_this_coding_prices_sums_cells a_this_coding_skips_cells a_this_coding_stream_cells a_this_coding_stream_cells_cells a_this_history_states a_this_row_numbers a_this_row_numbers_cells g_coding_exponents_cells v_coding_prices_length g_coding_prices_sums_cells g_coding_skips_cells v_coding_stream_length v_coding_stream_start v_coding_stream_next v_coding_stream_exponent v_coding_stream_number g_coding_stream_cells_cells v_history_free v_history_length u3.2.1 v_row_blockSize v_row_ones u3.2.2 u3.1 u5 e6) X dX8_takeOut_17 hw hl rfl rfl rfl (by decide) rfl rfl rfl (Nat.le_of_ble_eq_true rfl) ⟨Nat.le_of_ble_eq_true rfl, Nat.le_of_ble_eq_true rfl⟩ ⟨Nat.zero_le _, Nat.zero_le _⟩ (fun H locs hw => ?_)
  cases hF
  exact z_iret 20 X dX8_takeOut_20 hw rfl rfl
theorem dX8_shift_0 : decode cX8_shift 0 = .ok (.aload_n 0, 1) := by decide +kernel
theorem dX8_shift_1 : decode cX8_shift 1 = .ok (.getfield 12, 3) := by decide +kernel
theorem dX8_shift_4 : decode cX8_shift 4 = .ok (.iload_n 1, 1) := by decide +kernel
theorem dX8_shift_5 : decode cX8_shift 5 = .ok (.invokevirtual 71, 3) := by decide +kernel
theorem dX8_shift_8 : decode cX8_shift 8 = .ok (.ifCond .ne 5, 3) := by decide +kernel
theorem dX8_shift_11 : decode cX8_shift 11 = .ok (.iconst (-1), 1) := by decide +kernel
theorem dX8_shift_12 : decode cX8_shift 12 = .ok (.ireturn, 1) := by decide +kernel
theorem dX8_shift_13 : decode cX8_shift 13 = .ok (.iload_n 2, 1) := by decide +kernel
theorem dX8_shift_14 : decode cX8_shift 14 = .ok (.ldc 75, 2) := by decide +kernel
theorem dX8_shift_16 : decode cX8_shift 16 = .ok (.if_icmp .lt 9, 3) := by decide +kernel
theorem dX8_shift_19 : decode cX8_shift 19 = .ok (.iload_n 2, 1) := by decide +kernel
theorem dX8_shift_20 : decode cX8_shift 20 = .ok (.ldc 76, 2) := by decide +kernel
theorem dX8_shift_22 : decode cX8_shift 22 = .ok (.if_icmp .le 6, 3) := by decide +kernel
theorem dX8_shift_25 : decode cX8_shift 25 = .ok (.bipush (-2), 2) := by decide +kernel
theorem dX8_shift_27 : decode cX8_shift 27 = .ok (.ireturn, 1) := by decide +kernel
theorem dX8_shift_28 : decode cX8_shift 28 = .ok (.aload_n 0, 1) := by decide +kernel
theorem dX8_shift_29 : decode cX8_shift 29 = .ok (.getfield 12, 3) := by decide +kernel
theorem dX8_shift_32 : decode cX8_shift 32 = .ok (.iload_n 1, 1) := by decide +kernel
theorem dX8_shift_33 : decode cX8_shift 33 = .ok (.invokevirtual 77, 3) := by decide +kernel
theorem dX8_shift_36 : decode cX8_shift 36 = .ok (.iload_n 2, 1) := by decide +kernel
theorem dX8_shift_37 : decode cX8_shift 37 = .ok (.iadd, 1) := by decide +kernel
theorem dX8_shift_38 : decode cX8_shift 38 = .ok (.istore_n 3, 1) := by decide +kernel
theorem dX8_shift_39 : decode cX8_shift 39 = .ok (.aload_n 0, 1) := by decide +kernel
theorem dX8_shift_40 : decode cX8_shift 40 = .ok (.getfield 12, 3) := by decide +kernel
theorem dX8_shift_43 : decode cX8_shift 43 = .ok (.aload_n 0, 1) := by decide +kernel
theorem dX8_shift_44 : decode cX8_shift 44 = .ok (.getfield 12, 3) := by decide +kernel
theorem dX8_shift_47 : decode cX8_shift 47 = .ok (.getfield 80, 3) := by decide +kernel
theorem dX8_shift_50 : decode cX8_shift 50 = .ok (.iconst 1, 1) := by decide +kernel
theorem dX8_shift_51 : decode cX8_shift 51 = .ok (.isub, 1) := by decide +kernel
theorem dX8_shift_52 : decode cX8_shift 52 = .ok (.invokevirtual 77, 3) := by decide +kernel
theorem dX8_shift_55 : decode cX8_shift 55 = .ok (.iload_n 2, 1) := by decide +kernel
theorem dX8_shift_56 : decode cX8_shift 56 = .ok (.iadd, 1) := by decide +kernel
theorem dX8_shift_57 : decode cX8_shift 57 = .ok (.istore 4, 2) := by decide +kernel
theorem dX8_shift_59 : decode cX8_shift 59 = .ok (.iload_n 3, 1) := by decide +kernel
theorem dX8_shift_60 : decode cX8_shift 60 = .ok (.aload_n 0, 1) := by decide +kernel
theorem dX8_shift_61 : decode cX8_shift 61 = .ok (.getfield 12, 3) := by decide +kernel
theorem dX8_shift_64 : decode cX8_shift 64 = .ok (.iload_n 1, 1) := by decide +kernel
theorem dX8_shift_65 : decode cX8_shift 65 = .ok (.invokevirtual 84, 3) := by decide +kernel
theorem dX8_shift_68 : decode cX8_shift 68 = .ok (.if_icmp .le 10, 3) := by decide +kernel
theorem dX8_shift_71 : decode cX8_shift 71 = .ok (.iload 4, 2) := by decide +kernel
theorem dX8_shift_73 : decode cX8_shift 73 = .ok (.ldc 76, 2) := by decide +kernel
theorem dX8_shift_75 : decode cX8_shift 75 = .ok (.if_icmp .le 6, 3) := by decide +kernel
theorem dX8_shift_78 : decode cX8_shift 78 = .ok (.bipush (-5), 2) := by decide +kernel
theorem dX8_shift_80 : decode cX8_shift 80 = .ok (.ireturn, 1) := by decide +kernel
theorem dX8_shift_81 : decode cX8_shift 81 = .ok (.aload_n 0, 1) := by decide +kernel
theorem dX8_shift_82 : decode cX8_shift 82 = .ok (.getfield 40, 3) := by decide +kernel
theorem dX8_shift_85 : decode cX8_shift 85 = .ok (.aload_n 0, 1) := by decide +kernel
theorem dX8_shift_86 : decode cX8_shift 86 = .ok (.getfield 12, 3) := by decide +kernel
theorem dX8_shift_89 : decode cX8_shift 89 = .ok (.invokevirtual 53, 3) := by decide +kernel
theorem dX8_shift_92 : decode cX8_shift 92 = .ok (.aload_n 0, 1) := by decide +kernel
theorem dX8_shift_93 : decode cX8_shift 93 = .ok (.getfield 12, 3) := by decide +kernel
theorem dX8_shift_96 : decode cX8_shift 96 = .ok (.iload_n 1, 1) := by decide +kernel
theorem dX8_shift_97 : decode cX8_shift 97 = .ok (.iload_n 2, 1) := by decide +kernel
theorem dX8_shift_98 : decode cX8_shift 98 = .ok (.invokevirtual 87, 3) := by decide +kernel
theorem dX8_shift_101 : decode cX8_shift 101 = .ok (.aload_n 0, 1) := by decide +kernel
theorem dX8_shift_102 : decode cX8_shift 102 = .ok (.iconst 0, 1) := by decide +kernel
theorem dX8_shift_103 : decode cX8_shift 103 = .ok (.invokevirtual 61, 3) := by decide +kernel
theorem dX8_shift_106 : decode cX8_shift 106 = .ok (.pop, 1) := by decide +kernel
theorem dX8_shift_107 : decode cX8_shift 107 = .ok (.aload_n 0, 1) := by decide +kernel
theorem dX8_shift_108 : decode cX8_shift 108 = .ok (.getfield 19, 3) := by decide +kernel
theorem dX8_shift_111 : decode cX8_shift 111 = .ok (.getfield 91, 3) := by decide +kernel
theorem dX8_shift_114 : decode cX8_shift 114 = .ok (.getfield 95, 3) := by decide +kernel
theorem dX8_shift_117 : decode cX8_shift 117 = .ok (.ireturn, 1) := by decide +kernel
set_option maxHeartbeats 4000000 in
set_option maxRecDepth 100000 in
theorem m_X8_shift (l : Launch) (D : va_G) (cA : ClassId) (a_this a_this_row a_this_coding a_this_trial a_this_pad a_this_history a_this_slots a_this_coding_prices a_this_coding_stream a_this_coding_exponents a_this_coding_skips a_this_coding_exponents_cells a_this_coding_prices_sums a_this_coding_prices_sums_cells a_this_coding_skips_cells a_this_coding_stream_cells a_this_coding_stream_cells_cells a_this_history_states a_this_history_states_cells a_this_history_states_cells_cells a_this_row_numbers a_this_row_numbers_cells : Nat) (g_coding_exponents_cells : Ar) (v_coding_prices_length : Int32) (g_coding_prices_sums_cells : Ar) (g_coding_skips_cells : Ar) (v_coding_stream_length : Int32) (v_coding_stream_start : Int32) (v_coding_stream_next : Int32) (v_coding_stream_exponent : Int32) (v_coding_stream_number : Int32) (g_coding_stream_cells_cells : Ar) (v_history_free : Int32) (v_history_length : Int32) (g_history_states_cells_cells : Ar) (v_row_length : Int32) (v_row_blockSize : Int32) (v_row_ones : Int32) (g_row_numbers_cells : Ar) (i1 : Int32) (i2 : Int32) (out : Int32 × Ar × Int32 × Ar × Ar × Int32 × Ar × Int32 × Int32 × Ar × Ar) (hF : F_X8_shift g_coding_exponents_cells v_coding_prices_length g_coding_prices_sums_cells g_coding_skips_cells v_coding_stream_length g_coding_stream_cells_cells v_history_free v_history_length g_history_states_cells_cells v_row_length v_row_blockSize v_row_ones g_row_numbers_cells i1 i2 = some out) : zM l D cA yX8_shift cX8_shift 5 (some .int) 6 139 [.ref a_this, .int i1, .int i2] (zw_13 cA 0 a_this a_this_row a_this_coding a_this_trial a_this_pad a_this_history a_this_slots a_this_coding_prices a_this_coding_stream a_this_coding_exponents a_this_coding_skips a_this_coding_exponents_cells a_this_coding_prices_sums a_this_coding_prices_sums_cells a_this_coding_skips_cells a_this_coding_stream_cells a_this_coding_stream_cells_cells a_this_history_states a_this_history_states_cells a_this_history_states_cells_cells a_this_row_numbers a_this_row_numbers_cells g_coding_exponents_cells v_coding_prices_length g_coding_prices_sums_cells g_coding_skips_cells v_coding_stream_length v_coding_stream_start v_coding_stream_next v_coding_stream_exponent v_coding_stream_number g_coding_stream_cells_cells v_history_free v_history_length g_history_states_cells_cells v_row_length v_row_blockSize v_row_ones g_row_numbers_cells) (zw_13 cA 0 a_this a_this_row a_this_coding a_this_trial a_this_pad a_this_history a_this_slots a_this_coding_prices a_this_coding_stream a_this_coding_exponents a_this_coding_skips a_this_coding_exponents_cells a_this_coding_prices_sums a_this_coding_prices_sums_cells a_this_coding_skips_cells a_this_coding_stream_cells a_this_coding_stream_cells_cells a_this_history_states a_this_history_states_cells a_this_history_states_cells_cells a_this_row_numbers a_this_row_numbers_cells out.2.1 out.2.2.1 out.2.2.2.1 out.2.2.2.2.1 out.2.2.2.2.2.1 v_coding_stream_start v_coding_stream_next v_coding_stream_exponent v_coding_stream_number out.2.2.2.2.2.2.1 out.2.2.2.2.2.2.2.1 out.2.2.2.2.2.2.2.2.1 out.2.2.2.2.2.2.2.2.2.1 v_row_length v_row_blockSize v_row_ones out.2.2.2.2.2.2.2.2.2.2) (some (.int out.1)) := by
  refine z_body (by decide) (Nat.le_of_ble_eq_true rfl) ?_
  intro p e s m args below meth c ls H locs A X hl hw
  have hl : lv_has ls 5 [(0, .ref a_this), (1, .int i1), (2, .int i2)] := hl
  unfold F_X8_shift at hF
  refine z_aload_n 0 X dX8_shift_0 hl 0 rfl ?_
  refine z_get 1 zc8 0 0 fl_8_12 X dX8_shift_1 hw rfl (by decide) rfl ?_
  refine z_iload_n 4 X dX8_shift_4 hl 1 rfl ?_
  obtain ⟨u1, e2, hF⟩ := zbd hF
  refine z_callV 5 zc5 mv_X5_hasPlace ml_8_71 16 [16] (zw_13 cA 0 a_this a_this_row a_this_coding a_this_trial a_this_pad a_this_history a_this_slots a_this_coding_prices a_this_coding_stream a_this_coding_exponents a_this_coding_skips a_this_coding_exponents_cells a_this_coding_prices_sums a_this_coding_prices_sums_cells a_this_coding_skips_cells a_this_coding_stream_cells a_this_coding_stream_cells_cells a_this_history_states a_this_history_states_cells a_this_history_states_cells_cells a_this_row_numbers a_this_row_numbers_cells g_coding_exponents_cells v_coding_prices_length g_coding_prices_sums_cells g_coding_skips_cells v_coding_stream_length v_coding_stream_start v_coding_stream_next v_coding_stream_exponent v_coding_stream_number g_coding_stream_cells_cells v_history_free v_history_length g_history_states_cells_cells v_row_length v_row_blockSize v_row_ones g_row_numbers_cells) [] (m_X5_hasPlace l D cA a_this_row a_this_row_numbers v_row_length v_row_blockSize v_row_ones i1 u1 e2) X dX8_shift_5 hw hl rfl rfl rfl (by decide) rfl rfl rfl (Nat.le_of_ble_eq_true rfl) ⟨Nat.le_of_ble_eq_true rfl, Nat.le_of_ble_eq_true rfl⟩ ⟨Nat.zero_le _, Nat.zero_le _⟩ (fun H locs hw => ?_)
  refine z_if_ne 8 13 X dX8_shift_8 (by decide) (fun c3 => ?_) (fun c3 => ?_)
  · replace hF := zneg c3 hF
    refine z_iload_n 13 X dX8_shift_13 hl 2 rfl ?_
    refine z_ldc 14 (-65535) X dX8_shift_14 cl_8_75 ?_
    refine z_icmp_lt 16 25 X dX8_shift_16 (by decide) (fun c4 => ?_) (fun c4 => ?_)
    · replace hF := zpos c4 hF
      refine z_bipush 25 (-2) X dX8_shift_25 (by decide) ?_
      cases hF
      exact z_iret 27 X dX8_shift_27 hw rfl rfl
    · replace hF := zneg c4 hF
      refine z_iload_n 19 X dX8_shift_19 hl 2 rfl ?_
      refine z_ldc 20 65535 X dX8_shift_20 cl_8_76 ?_
      refine z_icmp_le 22 28 X dX8_shift_22 (by decide) (fun c5 => ?_) (fun c5 => ?_)
      · replace hF := zpos c5 hF
        refine z_aload_n 28 X dX8_shift_28 hl 0 rfl ?_
        refine z_get 29 zc8 0 0 fl_8_12 X dX8_shift_29 hw rfl (by decide) rfl ?_
        refine z_iload_n 32 X dX8_shift_32 hl 1 rfl ?_
        obtain ⟨u6, e7, hF⟩ := zbd hF
        refine z_callV 33 zc5 mv_X5_number ml_8_77 16 [16, 17, 18] (zw_13 cA 0 a_this a_this_row a_this_coding a_this_trial a_this_pad a_this_history a_this_slots a_this_coding_prices a_this_coding_stream a_this_coding_exponents a_this_coding_skips a_this_coding_exponents_cells a_this_coding_prices_sums a_this_coding_prices_sums_cells a_this_coding_skips_cells a_this_coding_stream_cells a_this_coding_stream_cells_cells a_this_history_states a_this_history_states_cells a_this_history_states_cells_cells a_this_row_numbers a_this_row_numbers_cells g_coding_exponents_cells v_coding_prices_length g_coding_prices_sums_cells g_coding_skips_cells v_coding_stream_length v_coding_stream_start v_coding_stream_next v_coding_stream_exponent v_coding_stream_number g_coding_stream_cells_cells v_history_free v_history_length g_history_states_cells_cells v_row_length v_row_blockSize v_row_ones g_row_numbers_cells) [] (m_X5_number l D cA a_this_row a_this_row_numbers a_this_row_numbers_cells v_row_length v_row_blockSize v_row_ones g_row_numbers_cells i1 u6 e7) X dX8_shift_33 hw hl rfl rfl rfl (by decide) rfl rfl rfl (Nat.le_of_ble_eq_true rfl) ⟨Nat.le_of_ble_eq_true rfl, Nat.le_of_ble_eq_true rfl⟩ ⟨Nat.zero_le _, Nat.zero_le _⟩ (fun H locs hw => ?_)
        refine z_iload_n 36 X dX8_shift_36 hl 2 rfl ?_
        refine z_iadd 37 X dX8_shift_37 ?_
        refine z_istore_n 38 [(3, .int (u6 + i2)), (0, .ref a_this), (1, .int i1), (2, .int i2)] X dX8_shift_38 hl (by decide) rfl (fun ls hl => ?_)
        refine z_aload_n 39 X dX8_shift_39 hl 1 rfl ?_
        refine z_get 40 zc8 0 0 fl_8_12 X dX8_shift_40 hw rfl (by decide) rfl ?_
        refine z_aload_n 43 X dX8_shift_43 hl 1 rfl ?_
        refine z_get 44 zc8 0 0 fl_8_12 X dX8_shift_44 hw rfl (by decide) rfl ?_
        refine z_getN 47 zc5 16 1 fl_8_80 X dX8_shift_47 hw rfl (by decide) rfl ?_
        refine z_iconst 50 1 X dX8_shift_50 (by decide) ?_
        refine z_isub 51 X dX8_shift_51 ?_
        obtain ⟨u8, e9, hF⟩ := zbd hF
        refine z_callV 52 zc5 mv_X5_number ml_8_77 16 [16, 17, 18] (zw_13 cA 0 a_this a_this_row a_this_coding a_this_trial a_this_pad a_this_history a_this_slots a_this_coding_prices a_this_coding_stream a_this_coding_exponents a_this_coding_skips a_this_coding_exponents_cells a_this_coding_prices_sums a_this_coding_prices_sums_cells a_this_coding_skips_cells a_this_coding_stream_cells a_this_coding_stream_cells_cells a_this_history_states a_this_history_states_cells a_this_history_states_cells_cells a_this_row_numbers a_this_row_numbers_cells g_coding_exponents_cells v_coding_prices_length g_coding_prices_sums_cells g_coding_skips_cells v_coding_stream_length v_coding_stream_start v_coding_stream_next v_coding_stream_exponent v_coding_stream_number g_coding_stream_cells_cells v_history_free v_history_length g_history_states_cells_cells v_row_length v_row_blockSize v_row_ones g_row_numbers_cells) [] (m_X5_number l D cA a_this_row a_this_row_numbers a_this_row_numbers_cells v_row_length v_row_blockSize v_row_ones g_row_numbers_cells (v_row_length - 1) u8 e9) X dX8_shift_52 hw hl rfl rfl rfl (by decide) rfl rfl rfl (Nat.le_of_ble_eq_true rfl) ⟨Nat.le_of_ble_eq_true rfl, Nat.le_of_ble_eq_true rfl⟩ ⟨Nat.zero_le _, Nat.zero_le _⟩ (fun H locs hw => ?_)
        refine z_iload_n 55 X dX8_shift_55 hl 3 rfl ?_
        refine z_iadd 56 X dX8_shift_56 ?_
        refine z_istore 57 [(4, .int (u8 + i2)), (3, .int (u6 + i2)), (0, .ref a_this), (1, .int i1), (2, .int i2)] X dX8_shift_57 hl (by decide) rfl (fun ls hl => ?_)
        refine z_iload_n 59 X dX8_shift_59 hl 1 rfl ?_
        refine z_aload_n 60 X dX8_shift_60 hl 2 rfl ?_
        refine z_get 61 zc8 0 0 fl_8_12 X dX8_shift_61 hw rfl (by decide) rfl ?_
        refine z_iload_n 64 X dX8_shift_64 hl 3 rfl ?_
        obtain ⟨u10, e11, hF⟩ := zbd hF
        refine z_callV 65 zc5 mv_X5_numberAhead ml_8_84 16 [16, 17, 18] (zw_13 cA 0 a_this a_this_row a_this_coding a_this_trial a_this_pad a_this_history a_this_slots a_this_coding_prices a_this_coding_stream a_this_coding_exponents a_this_coding_skips a_this_coding_exponents_cells a_this_coding_prices_sums a_this_coding_prices_sums_cells a_this_coding_skips_cells a_this_coding_stream_cells a_this_coding_stream_cells_cells a_this_history_states a_this_history_states_cells a_this_history_states_cells_cells a_this_row_numbers a_this_row_numbers_cells g_coding_exponents_cells v_coding_prices_length g_coding_prices_sums_cells g_coding_skips_cells v_coding_stream_length v_coding_stream_start v_coding_stream_next v_coding_stream_exponent v_coding_stream_number g_coding_stream_cells_cells v_history_free v_history_length g_history_states_cells_cells v_row_length v_row_blockSize v_row_ones g_row_numbers_cells) [.int (u6 + i2)] (m_X5_numberAhead l D cA a_this_row a_this_row_numbers a_this_row_numbers_cells v_row_length v_row_blockSize v_row_ones g_row_numbers_cells i1 u10 e11) X dX8_shift_65 hw hl rfl rfl rfl (by decide) rfl rfl rfl (Nat.le_of_ble_eq_true rfl) ⟨Nat.le_of_ble_eq_true rfl, Nat.le_of_ble_eq_true rfl⟩ ⟨Nat.zero_le _, Nat.zero_le _⟩ (fun H locs hw => ?_)
        refine z_icmp_le 68 78 X dX8_shift_68 (by decide) (fun c12 => ?_) (fun c12 => ?_)
        · replace hF := zpos c12 hF
          refine z_bipush 78 (-5) X dX8_shift_78 (by decide) ?_
          cases hF
          exact z_iret 80 X dX8_shift_80 hw rfl rfl
        · replace hF := zneg c12 hF
          refine z_iload 71 X dX8_shift_71 hl 0 rfl ?_
          refine z_ldc 73 65535 X dX8_shift_73 cl_8_76 ?_
          refine z_icmp_le 75 81 X dX8_shift_75 (by decide) (fun c13 => ?_) (fun c13 => ?_)
          · replace hF := zpos c13 hF
            refine z_aload_n 81 X dX8_shift_81 hl 2 rfl ?_
            refine z_get 82 zc8 0 4 fl_8_40 X dX8_shift_82 hw rfl (by decide) rfl ?_
            refine z_aload_n 85 X dX8_shift_85 hl 2 rfl ?_
            refine z_get 86 zc8 0 0 fl_8_12 X dX8_shift_86 hw rfl (by decide) rfl ?_
            obtain ⟨u14, e15, hF⟩ := zbd hF
            refine z_callV 89 zc2 mv_X2_note ml_8_53 12 [12, 13, 14, 15, 16, 17, 18] (zw_13 cA 0 a_this a_this_row a_this_coding a_this_trial a_this_pad a_this_history a_this_slots a_this_coding_prices a_this_coding_stream a_this_coding_exponents a_this_coding_skips a_this_coding_exponents_cells a_this_coding_prices_sums a_this_coding_prices_sums_cells a_this_coding_skips_cells a_this_coding_stream_cells a_this_coding_stream_cells_cells a_this_history_states a_this_history_states_cells a_this_history_states_cells_cells a_this_row_numbers a_this_row_numbers_cells g_coding_exponents_cells v_coding_prices_length g_coding_prices_sums_cells g_coding_skips_cells v_coding_stream_length v_coding_stream_start v_coding_stream_next v_coding_stream_exponent v_coding_stream_number g_coding_stream_cells_cells v_history_free v_history_length u14 v_row_length v_row_blockSize v_row_ones g_row_numbers_cells) [] (m_X2_note l D cA a_this_history a_this_history_states a_this_history_states_cells a_this_history_states_cells_cells a_this_row a_this_row_numbers a_this_row_numbers_cells v_history_free v_history_length g_history_states_cells_cells v_row_length v_row_blockSize v_row_ones g_row_numbers_cells u14 e15) X dX8_shift_89 hw hl rfl rfl rfl (by decide) rfl rfl rfl (Nat.le_of_ble_eq_true rfl) ⟨Nat.le_of_ble_eq_true rfl, Nat.le_of_ble_eq_true rfl⟩ ⟨Nat.zero_le _, Nat.zero_le _⟩ (fun H locs hw => ?_)
            refine z_aload_n 92 X dX8_shift_92 hl 2 rfl ?_
            refine z_get 93 zc8 0 0 fl_8_12 X dX8_shift_93 hw rfl (by decide) rfl ?_
            refine z_iload_n 96 X dX8_shift_96 hl 3 rfl ?_
            refine z_iload_n 97 X dX8_shift_97 hl 4 rfl ?_
            obtain ⟨u16, e17, hF⟩ := zbd hF
            refine z_callV 98 zc5 mv_X5_raiseFrom ml_8_87 16 [16, 17, 18] (zw_13 cA 0 a_this a_this_row a_this_coding a_this_trial a_this_pad a_this_history a_this_slots a_this_coding_prices a_this_coding_stream a_this_coding_exponents a_this_coding_skips a_this_coding_exponents_cells a_this_coding_prices_sums a_this_coding_prices_sums_cells a_this_coding_skips_cells a_this_coding_stream_cells a_this_coding_stream_cells_cells a_this_history_states a_this_history_states_cells a_this_history_states_cells_cells a_this_row_numbers a_this_row_numbers_cells g_coding_exponents_cells v_coding_prices_length g_coding_prices_sums_cells g_coding_skips_cells v_coding_stream_length v_coding_stream_start v_coding_stream_next v_coding_stream_exponent v_coding_stream_number g_coding_stream_cells_cells v_history_free v_history_length u14 v_row_length v_row_blockSize v_row_ones u16) [] (m_X5_raiseFrom l D cA a_this_row a_this_row_numbers a_this_row_numbers_cells v_row_length v_row_blockSize v_row_ones g_row_numbers_cells i1 i2 u16 e17) X dX8_shift_98 hw hl rfl rfl rfl (by decide) rfl rfl rfl (Nat.le_of_ble_eq_true rfl) ⟨Nat.le_of_ble_eq_true rfl, Nat.le_of_ble_eq_true rfl⟩ ⟨Nat.zero_le _, Nat.zero_le _⟩ (fun H locs hw => ?_)
            refine z_aload_n 101 X dX8_shift_101 hl 2 rfl ?_
            refine z_iconst 102 0 X dX8_shift_102 (by decide) ?_
            obtain ⟨u18, e19, hF⟩ := zbd hF
            refine z_callV 103 zc8 mv_X8_settle ml_8_61 0 [0, 1, 2, 3, 4, 5, 6, 7, 8, 9, 10, 11, 12, 16, 17, 18] (zw_13 cA 0 a_this a_this_row a_this_coding a_this_trial a_this_pad a_this_history a_this_slots a_this_coding_prices a_this_coding_stream a_this_coding_exponents a_this_coding_skips a_this_coding_exponents_cells a_this_coding_prices_sums a_this_coding_prices_sums_cells a_this_coding_skips_cells a_this_coding_stream_cells a_this_coding_stream_cells_cells a_this_history_states a_this_history_states_cells a_this_history_states_cells_cells a_this_row_numbers a_this_row_numbers_cells u18.2.1 u18.2.2.1 u18.2.2.2.1 u18.2.2.2.2.1 u18.2.2.2.2.2.1 v_coding_stream_start v_coding_stream_next v_coding_stream_exponent v_coding_stream_number u18.2.2.2.2.2.2.1 u18.2.2.2.2.2.2.2.1 u18.2.2.2.2.2.2.2.2 u14 v_row_length v_row_blockSize v_row_ones u16) [] (m_X8_settle l D cA a_this a_this_row a_this_coding a_this_trial a_this_pad a_this_history a_this_slots a_this_coding_prices a_this_coding_stream a_this_coding_exponents a_this_coding_skips a_this_coding_exponents_cells a_this_coding_prices_sums a_this_coding_prices_sums_cells a_this_coding_skips_cells a_this_coding_stream_cells a_this_coding_stream_cells_cells a_this_history_states a_this_row_numbers a_this_row_numbers_cells g_coding_exponents_cells v_coding_prices_length g_coding_prices_sums_cells g_coding_skips_cells v_coding_stream_length v_coding_stream_start v_coding_stream_next v_coding_stream_exponent v_coding_stream_number g_coding_stream_cells_cells v_history_free v_history_length v_row_length v_row_blockSize v_row_ones u16 0 u18 e19) X dX8_shift_103 hw hl rfl rfl rfl (by decide) rfl rfl rfl (Nat.le_of_ble_eq_true rfl) ⟨Nat.le_of_ble_eq_true rfl, Nat.le_of_ble_eq_true rfl⟩ ⟨Nat.zero_le _, Nat.zero_le _⟩ (fun H locs hw => ?_)
            refine z_pop 106 X dX8_shift_106 rfl ?_
            refine z_aload_n 107 X dX8_shift_107 hl 2 rfl ?_
            refine z_get 108 zc8 0 1 fl_8_19 X dX8_shift_108 hw rfl (by decide) rfl ?_
            refine z_getN 111 zc1 1 1 fl_8_91 X dX8_shift_111 hw rfl (by decide) rfl ?_
            refine z_getN 114 zc7 9 1 fl_8_95 X dX8_shift_114 hw rfl (by decide) rfl ?_
            cases hF
            exact z_iret 117 X dX8_shift_117 hw rfl rfl
          · replace hF := zneg c13 hF
            refine z_bipush 78 (-5) X dX8_shift_78 (by decide) ?_
            cases hF
            exact z_iret 80 X dX8_shift_80 hw rfl rfl
      · replace hF := zneg c5 hF
        refine z_bipush 25 (-2) X dX8_shift_25 (by decide) ?_
        cases hF
        exact z_iret 27 X dX8_shift_27 hw rfl rfl
  · replace hF := zpos c3 hF
    refine z_iconst 11 (-1) X dX8_shift_11 (by decide) ?_
    cases hF
    exact z_iret 12 X dX8_shift_12 hw rfl rfl
theorem dX8_escapesIn_0 : decode cX8_escapesIn 0 = .ok (.iconst 0, 1) := by decide +kernel
theorem dX8_escapesIn_1 : decode cX8_escapesIn 1 = .ok (.istore 4, 2) := by decide +kernel
theorem dX8_escapesIn_3 : decode cX8_escapesIn 3 = .ok (.iload_n 1, 1) := by decide +kernel
theorem dX8_escapesIn_4 : decode cX8_escapesIn 4 = .ok (.istore 5, 2) := by decide +kernel
theorem dX8_escapesIn_6 : decode cX8_escapesIn 6 = .ok (.iload 5, 2) := by decide +kernel
theorem dX8_escapesIn_8 : decode cX8_escapesIn 8 = .ok (.iload_n 2, 1) := by decide +kernel
theorem dX8_escapesIn_9 : decode cX8_escapesIn 9 = .ok (.if_icmp .ge 42, 3) := by decide +kernel
theorem dX8_escapesIn_12 : decode cX8_escapesIn 12 = .ok (.iload 4, 2) := by decide +kernel
theorem dX8_escapesIn_14 : decode cX8_escapesIn 14 = .ok (.aload_n 0, 1) := by decide +kernel
theorem dX8_escapesIn_15 : decode cX8_escapesIn 15 = .ok (.getfield 12, 3) := by decide +kernel
theorem dX8_escapesIn_18 : decode cX8_escapesIn 18 = .ok (.iload 5, 2) := by decide +kernel
theorem dX8_escapesIn_20 : decode cX8_escapesIn 20 = .ok (.invokevirtual 110, 3) := by decide +kernel
theorem dX8_escapesIn_23 : decode cX8_escapesIn 23 = .ok (.iload_n 3, 1) := by decide +kernel
theorem dX8_escapesIn_24 : decode cX8_escapesIn 24 = .ok (.aload_n 0, 1) := by decide +kernel
theorem dX8_escapesIn_25 : decode cX8_escapesIn 25 = .ok (.getfield 12, 3) := by decide +kernel
theorem dX8_escapesIn_28 : decode cX8_escapesIn 28 = .ok (.getfield 113, 3) := by decide +kernel
theorem dX8_escapesIn_31 : decode cX8_escapesIn 31 = .ok (.invokestatic 270, 3) := by decide +kernel
theorem dX8_escapesIn_34 : decode cX8_escapesIn 34 = .ok (.ifCond .eq 7, 3) := by decide +kernel
theorem dX8_escapesIn_37 : decode cX8_escapesIn 37 = .ok (.iconst 1, 1) := by decide +kernel
theorem dX8_escapesIn_38 : decode cX8_escapesIn 38 = .ok (.goto 4, 3) := by decide +kernel
theorem dX8_escapesIn_41 : decode cX8_escapesIn 41 = .ok (.iconst 0, 1) := by decide +kernel
theorem dX8_escapesIn_42 : decode cX8_escapesIn 42 = .ok (.iadd, 1) := by decide +kernel
theorem dX8_escapesIn_43 : decode cX8_escapesIn 43 = .ok (.istore 4, 2) := by decide +kernel
theorem dX8_escapesIn_45 : decode cX8_escapesIn 45 = .ok (.iinc 5 1, 3) := by decide +kernel
theorem dX8_escapesIn_48 : decode cX8_escapesIn 48 = .ok (.goto (-42), 3) := by decide +kernel
theorem dX8_escapesIn_51 : decode cX8_escapesIn 51 = .ok (.iload 4, 2) := by decide +kernel
theorem dX8_escapesIn_53 : decode cX8_escapesIn 53 = .ok (.ireturn, 1) := by decide +kernel
set_option maxHeartbeats 4000000 in
set_option maxRecDepth 100000 in
theorem l_X8_escapesIn_6 (l : Launch) (D : va_G) (cA : ClassId) (a_this a_this_row a_this_coding a_this_trial a_this_pad a_this_history a_this_slots a_this_row_numbers a_this_row_numbers_cells : Nat) (v_row_length : Int32) (v_row_blockSize : Int32) (v_row_ones : Int32) (g_row_numbers_cells : Ar) (i2 : Int32) (i3 : Int32) (out : Int32) {p : Program} {e : Env} {s : State} {m : MethodId} {args : Array Value} {below : List Frame} {meth : Method} {c : Code} {A : Nat → Prop} (X : zX D cA p s m args meth c cX8_escapesIn 6 RX8 (some .int)) (k : Int32 → Option (Int32)) (hk : ∀ (i4 : Int32) (H : Heap) (locs : List Loc) (ls : Array Slot), zH D A s (zw_14 cA 0 a_this a_this_row a_this_coding a_this_trial a_this_pad a_this_history a_this_slots a_this_row_numbers a_this_row_numbers_cells v_row_length v_row_blockSize v_row_ones g_row_numbers_cells) H locs → lv_has ls 6 [(4, .int i4)] → k i4 = some out → W p l e (zR 3 63) s m args below meth c H locs 0 0 (MQ below (zQ D (zw_14 cA 0 a_this a_this_row a_this_coding a_this_trial a_this_pad a_this_history a_this_slots a_this_row_numbers a_this_row_numbers_cells v_row_length v_row_blockSize v_row_ones g_row_numbers_cells) (some (.int out)) A) args s 0 0 A) (F0 m 51 ls [])) :
    ∀ (fuel : Nat) (i4 : Int32) (i5 : Int32) (H : Heap) (locs : List Loc) (ls : Array Slot), zH D A s (zw_14 cA 0 a_this a_this_row a_this_coding a_this_trial a_this_pad a_this_history a_this_slots a_this_row_numbers a_this_row_numbers_cells v_row_length v_row_blockSize v_row_ones g_row_numbers_cells) H locs → lv_has ls 6 [(0, .ref a_this), (2, .int i2), (3, .int i3), (4, .int i4), (5, .int i5)] → F_X8_escapesIn_L6 v_row_ones g_row_numbers_cells i2 i3 k fuel i4 i5 = some out → W p l e (zR 3 63) s m args below meth c H locs 0 0 (MQ below (zQ D (zw_14 cA 0 a_this a_this_row a_this_coding a_this_trial a_this_pad a_this_history a_this_slots a_this_row_numbers a_this_row_numbers_cells v_row_length v_row_blockSize v_row_ones g_row_numbers_cells) (some (.int out)) A) args s 0 0 A) (F0 m 6 ls []) := by
  intro fuel
  induction fuel with
  | zero => intro i4 i5 H locs ls hw hl hF; exact nomatch (show (none : Option (Int32)) = some out from hF)
  | succ fuel ih =>
    intro i4 i5 H locs ls hw hl hF
    rw [F_X8_escapesIn_L6] at hF
    refine z_iload 6 X dX8_escapesIn_6 hl 4 rfl ?_
    refine z_iload_n 8 X dX8_escapesIn_8 hl 1 rfl ?_
    refine z_icmp_ge 9 51 X dX8_escapesIn_9 (by decide) (fun c1 => ?_) (fun c1 => ?_)
    · replace hF := zpos c1 hF
      exact hk i4 H locs ls hw (lv_sub hl [3] rfl) hF
    · replace hF := zneg c1 hF
      refine z_iload 12 X dX8_escapesIn_12 hl 3 rfl ?_
      refine z_aload_n 14 X dX8_escapesIn_14 hl 0 rfl ?_
      refine z_get 15 zc8 0 0 fl_8_12 X dX8_escapesIn_15 hw rfl (by decide) rfl ?_
      refine z_iload 18 X dX8_escapesIn_18 hl 4 rfl ?_
      obtain ⟨u2, e3, hF⟩ := zbd hF
      refine z_callV 20 zc5 mv_X5_gapAhead ml_8_110 1 [1, 2, 3] (zw_14 cA 0 a_this a_this_row a_this_coding a_this_trial a_this_pad a_this_history a_this_slots a_this_row_numbers a_this_row_numbers_cells v_row_length v_row_blockSize v_row_ones g_row_numbers_cells) [.int i4] (m_X5_gapAhead l D cA a_this_row a_this_row_numbers a_this_row_numbers_cells v_row_length v_row_blockSize v_row_ones g_row_numbers_cells i5 u2 e3) X dX8_escapesIn_20 hw hl rfl rfl rfl (by decide) rfl rfl rfl (Nat.le_of_ble_eq_true rfl) ⟨Nat.le_of_ble_eq_true rfl, Nat.le_of_ble_eq_true rfl⟩ ⟨Nat.zero_le _, Nat.zero_le _⟩ (fun H locs hw => ?_)
      refine z_iload_n 23 X dX8_escapesIn_23 hl 2 rfl ?_
      refine z_aload_n 24 X dX8_escapesIn_24 hl 0 rfl ?_
      refine z_get 25 zc8 0 0 fl_8_12 X dX8_escapesIn_25 hw rfl (by decide) rfl ?_
      refine z_getN 28 zc5 1 3 fl_8_113 X dX8_escapesIn_28 hw rfl (by decide) rfl ?_
      obtain ⟨u4, e5, hF⟩ := zbd hF
      refine z_callS 31 mv_X8_isEscape ml_8_270 [] (zw_14 cA 0 a_this a_this_row a_this_coding a_this_trial a_this_pad a_this_history a_this_slots a_this_row_numbers a_this_row_numbers_cells v_row_length v_row_blockSize v_row_ones g_row_numbers_cells) [.int i4] (m_X8_isEscape l D cA u2 i3 v_row_ones u4 e5) X dX8_escapesIn_31 hw hl rfl rfl (by decide) rfl rfl rfl (Nat.le_of_ble_eq_true rfl) ⟨Nat.le_of_ble_eq_true rfl, Nat.le_of_ble_eq_true rfl⟩ ⟨Nat.zero_le _, Nat.zero_le _⟩ (fun H locs hw => ?_)
      refine z_if_eq 34 41 X dX8_escapesIn_34 (by decide) (fun c6 => ?_) (fun c6 => ?_)
      · replace hF := zpos c6 hF
        refine z_iconst 41 0 X dX8_escapesIn_41 (by decide) ?_
        refine z_iadd 42 X dX8_escapesIn_42 ?_
        refine z_istore 43 [(4, .int (i4 + 0)), (0, .ref a_this), (2, .int i2), (3, .int i3), (5, .int i5)] X dX8_escapesIn_43 hl (by decide) rfl (fun ls hl => ?_)
        refine z_iinc2 45 1 [(5, .int (i5 + 1)), (4, .int (i4 + 0)), (0, .ref a_this), (2, .int i2), (3, .int i3)] X dX8_escapesIn_45 hl 4 rfl (by decide) (by decide) rfl (fun ls hl => ?_)
        refine z_goto 48 6 X dX8_escapesIn_48 (by decide) ?_
        exact ih (i4 + 0) (i5 + 1) H locs ls hw (lv_sub hl [2, 3, 4, 1, 0] rfl) hF
      · replace hF := zneg c6 hF
        refine z_iconst 37 1 X dX8_escapesIn_37 (by decide) ?_
        refine z_goto 38 42 X dX8_escapesIn_38 (by decide) ?_
        refine z_iadd 42 X dX8_escapesIn_42 ?_
        refine z_istore 43 [(4, .int (i4 + 1)), (0, .ref a_this), (2, .int i2), (3, .int i3), (5, .int i5)] X dX8_escapesIn_43 hl (by decide) rfl (fun ls hl => ?_)
        refine z_iinc2 45 1 [(5, .int (i5 + 1)), (4, .int (i4 + 1)), (0, .ref a_this), (2, .int i2), (3, .int i3)] X dX8_escapesIn_45 hl 4 rfl (by decide) (by decide) rfl (fun ls hl => ?_)
        refine z_goto 48 6 X dX8_escapesIn_48 (by decide) ?_
        exact ih (i4 + 1) (i5 + 1) H locs ls hw (lv_sub hl [2, 3, 4, 1, 0] rfl) hF
set_option maxHeartbeats 4000000 in
set_option maxRecDepth 100000 in
theorem m_X8_escapesIn (l : Launch) (D : va_G) (cA : ClassId) (a_this a_this_row a_this_coding a_this_trial a_this_pad a_this_history a_this_slots a_this_row_numbers a_this_row_numbers_cells : Nat) (v_row_length : Int32) (v_row_blockSize : Int32) (v_row_ones : Int32) (g_row_numbers_cells : Ar) (i1 : Int32) (i2 : Int32) (i3 : Int32) (out : Int32) (hF : F_X8_escapesIn v_row_ones g_row_numbers_cells i1 i2 i3 = some out) : zM l D cA yX8_escapesIn cX8_escapesIn 6 (some .int) 3 63 [.ref a_this, .int i1, .int i2, .int i3] (zw_14 cA 0 a_this a_this_row a_this_coding a_this_trial a_this_pad a_this_history a_this_slots a_this_row_numbers a_this_row_numbers_cells v_row_length v_row_blockSize v_row_ones g_row_numbers_cells) (zw_14 cA 0 a_this a_this_row a_this_coding a_this_trial a_this_pad a_this_history a_this_slots a_this_row_numbers a_this_row_numbers_cells v_row_length v_row_blockSize v_row_ones g_row_numbers_cells) (some (.int out)) := by
  refine z_body (by decide) (Nat.le_of_ble_eq_true rfl) ?_
  intro p e s m args below meth c ls H locs A X hl hw
  have hl : lv_has ls 6 [(0, .ref a_this), (1, .int i1), (2, .int i2), (3, .int i3)] := hl
  unfold F_X8_escapesIn at hF
  refine z_iconst 0 0 X dX8_escapesIn_0 (by decide) ?_
  refine z_istore 1 [(4, .int 0), (0, .ref a_this), (1, .int i1), (2, .int i2), (3, .int i3)] X dX8_escapesIn_1 hl (by decide) rfl (fun ls hl => ?_)
  refine z_iload_n 3 X dX8_escapesIn_3 hl 2 rfl ?_
  refine z_istore 4 [(5, .int i1), (4, .int 0), (0, .ref a_this), (1, .int i1), (2, .int i2), (3, .int i3)] X dX8_escapesIn_4 hl (by decide) rfl (fun ls hl => ?_)
  refine l_X8_escapesIn_6 l D cA a_this a_this_row a_this_coding a_this_trial a_this_pad a_this_history a_this_slots a_this_row_numbers a_this_row_numbers_cells v_row_length v_row_blockSize v_row_ones g_row_numbers_cells i2 i3 out X _ (fun i4_7 H locs ls hw hl hF => ?_) zFuel 0 i1 H locs ls hw (lv_sub hl [2, 4, 5, 1, 0] rfl) hF
  refine z_iload 51 X dX8_escapesIn_51 hl 0 rfl ?_
  cases hF
  exact z_iret 53 X dX8_escapesIn_53 hw rfl rfl
theorem dX8_gap_0 : decode cX8_gap 0 = .ok (.aload_n 0, 1) := by decide +kernel
theorem dX8_gap_1 : decode cX8_gap 1 = .ok (.getfield 12, 3) := by decide +kernel
theorem dX8_gap_4 : decode cX8_gap 4 = .ok (.iload_n 1, 1) := by decide +kernel
theorem dX8_gap_5 : decode cX8_gap 5 = .ok (.invokevirtual 71, 3) := by decide +kernel
theorem dX8_gap_8 : decode cX8_gap 8 = .ok (.ifCond .ne 5, 3) := by decide +kernel
theorem dX8_gap_11 : decode cX8_gap 11 = .ok (.iconst (-1), 1) := by decide +kernel
theorem dX8_gap_12 : decode cX8_gap 12 = .ok (.ireturn, 1) := by decide +kernel
theorem dX8_gap_13 : decode cX8_gap 13 = .ok (.aload_n 0, 1) := by decide +kernel
theorem dX8_gap_14 : decode cX8_gap 14 = .ok (.getfield 12, 3) := by decide +kernel
theorem dX8_gap_17 : decode cX8_gap 17 = .ok (.iload_n 1, 1) := by decide +kernel
theorem dX8_gap_18 : decode cX8_gap 18 = .ok (.invokevirtual 98, 3) := by decide +kernel
theorem dX8_gap_21 : decode cX8_gap 21 = .ok (.istore_n 3, 1) := by decide +kernel
theorem dX8_gap_22 : decode cX8_gap 22 = .ok (.aload_n 0, 1) := by decide +kernel
theorem dX8_gap_23 : decode cX8_gap 23 = .ok (.getfield 19, 3) := by decide +kernel
theorem dX8_gap_26 : decode cX8_gap 26 = .ok (.getfield 101, 3) := by decide +kernel
theorem dX8_gap_29 : decode cX8_gap 29 = .ok (.iload_n 3, 1) := by decide +kernel
theorem dX8_gap_30 : decode cX8_gap 30 = .ok (.invokevirtual 105, 3) := by decide +kernel
theorem dX8_gap_33 : decode cX8_gap 33 = .ok (.istore 4, 2) := by decide +kernel
theorem dX8_gap_35 : decode cX8_gap 35 = .ok (.iload_n 2, 1) := by decide +kernel
theorem dX8_gap_36 : decode cX8_gap 36 = .ok (.tableswitch 92 0 4 #[36, 45, 47, 68, 79], 36) := by decide +kernel
theorem dX8_gap_72 : decode cX8_gap 72 = .ok (.aload_n 0, 1) := by decide +kernel
theorem dX8_gap_73 : decode cX8_gap 73 = .ok (.getfield 12, 3) := by decide +kernel
theorem dX8_gap_76 : decode cX8_gap 76 = .ok (.iload_n 1, 1) := by decide +kernel
theorem dX8_gap_77 : decode cX8_gap 77 = .ok (.invokevirtual 110, 3) := by decide +kernel
theorem dX8_gap_80 : decode cX8_gap 80 = .ok (.ireturn, 1) := by decide +kernel
theorem dX8_gap_81 : decode cX8_gap 81 = .ok (.iload_n 3, 1) := by decide +kernel
theorem dX8_gap_82 : decode cX8_gap 82 = .ok (.ireturn, 1) := by decide +kernel
theorem dX8_gap_83 : decode cX8_gap 83 = .ok (.aload_n 0, 1) := by decide +kernel
theorem dX8_gap_84 : decode cX8_gap 84 = .ok (.getfield 12, 3) := by decide +kernel
theorem dX8_gap_87 : decode cX8_gap 87 = .ok (.iload_n 1, 1) := by decide +kernel
theorem dX8_gap_88 : decode cX8_gap 88 = .ok (.invokevirtual 110, 3) := by decide +kernel
theorem dX8_gap_91 : decode cX8_gap 91 = .ok (.iload 4, 2) := by decide +kernel
theorem dX8_gap_93 : decode cX8_gap 93 = .ok (.aload_n 0, 1) := by decide +kernel
theorem dX8_gap_94 : decode cX8_gap 94 = .ok (.getfield 12, 3) := by decide +kernel
theorem dX8_gap_97 : decode cX8_gap 97 = .ok (.getfield 113, 3) := by decide +kernel
theorem dX8_gap_100 : decode cX8_gap 100 = .ok (.invokestatic 116, 3) := by decide +kernel
theorem dX8_gap_103 : decode cX8_gap 103 = .ok (.ireturn, 1) := by decide +kernel
theorem dX8_gap_104 : decode cX8_gap 104 = .ok (.aload_n 0, 1) := by decide +kernel
theorem dX8_gap_105 : decode cX8_gap 105 = .ok (.iload_n 1, 1) := by decide +kernel
theorem dX8_gap_106 : decode cX8_gap 106 = .ok (.iload_n 1, 1) := by decide +kernel
theorem dX8_gap_107 : decode cX8_gap 107 = .ok (.iconst 1, 1) := by decide +kernel
theorem dX8_gap_108 : decode cX8_gap 108 = .ok (.iadd, 1) := by decide +kernel
theorem dX8_gap_109 : decode cX8_gap 109 = .ok (.iload 4, 2) := by decide +kernel
theorem dX8_gap_111 : decode cX8_gap 111 = .ok (.invokevirtual 120, 3) := by decide +kernel
theorem dX8_gap_114 : decode cX8_gap 114 = .ok (.ireturn, 1) := by decide +kernel
theorem dX8_gap_115 : decode cX8_gap 115 = .ok (.aload_n 0, 1) := by decide +kernel
theorem dX8_gap_116 : decode cX8_gap 116 = .ok (.getfield 19, 3) := by decide +kernel
theorem dX8_gap_119 : decode cX8_gap 119 = .ok (.aload_n 0, 1) := by decide +kernel
theorem dX8_gap_120 : decode cX8_gap 120 = .ok (.getfield 12, 3) := by decide +kernel
theorem dX8_gap_123 : decode cX8_gap 123 = .ok (.iload_n 1, 1) := by decide +kernel
theorem dX8_gap_124 : decode cX8_gap 124 = .ok (.invokevirtual 123, 3) := by decide +kernel
theorem dX8_gap_127 : decode cX8_gap 127 = .ok (.ireturn, 1) := by decide +kernel
theorem dX8_gap_128 : decode cX8_gap 128 = .ok (.bipush (-2), 2) := by decide +kernel
theorem dX8_gap_130 : decode cX8_gap 130 = .ok (.ireturn, 1) := by decide +kernel
set_option maxHeartbeats 4000000 in
set_option maxRecDepth 100000 in
theorem m_X8_gap (l : Launch) (D : va_G) (cA : ClassId) (a_this a_this_row a_this_coding a_this_trial a_this_pad a_this_history a_this_slots a_this_coding_prices a_this_coding_stream a_this_coding_exponents a_this_coding_skips a_this_coding_exponents_cells a_this_coding_prices_sums a_this_coding_prices_sums_cells a_this_coding_skips_cells a_this_row_numbers a_this_row_numbers_cells : Nat) (g_coding_exponents_cells : Ar) (v_coding_prices_length : Int32) (g_coding_prices_sums_cells : Ar) (g_coding_skips_cells : Ar) (v_row_length : Int32) (v_row_blockSize : Int32) (v_row_ones : Int32) (g_row_numbers_cells : Ar) (i1 : Int32) (i2 : Int32) (out : Int32) (hF : F_X8_gap g_coding_exponents_cells g_coding_prices_sums_cells g_coding_skips_cells v_row_length v_row_blockSize v_row_ones g_row_numbers_cells i1 i2 = some out) : zM l D cA yX8_gap cX8_gap 5 (some .int) 4 91 [.ref a_this, .int i1, .int i2] (zw_16 cA 0 a_this a_this_row a_this_coding a_this_trial a_this_pad a_this_history a_this_slots a_this_coding_prices a_this_coding_stream a_this_coding_exponents a_this_coding_skips a_this_coding_exponents_cells a_this_coding_prices_sums a_this_coding_prices_sums_cells a_this_coding_skips_cells a_this_row_numbers a_this_row_numbers_cells g_coding_exponents_cells v_coding_prices_length g_coding_prices_sums_cells g_coding_skips_cells v_row_length v_row_blockSize v_row_ones g_row_numbers_cells) (zw_16 cA 0 a_this a_this_row a_this_coding a_this_trial a_this_pad a_this_history a_this_slots a_this_coding_prices a_this_coding_stream a_this_coding_exponents a_this_coding_skips a_this_coding_exponents_cells a_this_coding_prices_sums a_this_coding_prices_sums_cells a_this_coding_skips_cells a_this_row_numbers a_this_row_numbers_cells g_coding_exponents_cells v_coding_prices_length g_coding_prices_sums_cells g_coding_skips_cells v_row_length v_row_blockSize v_row_ones g_row_numbers_cells) (some (.int out)) := by
  refine z_body (by decide) (Nat.le_of_ble_eq_true rfl) ?_
  intro p e s m args below meth c ls H locs A X hl hw
  have hl : lv_has ls 5 [(0, .ref a_this), (1, .int i1), (2, .int i2)] := hl
  unfold F_X8_gap at hF
  refine z_aload_n 0 X dX8_gap_0 hl 0 rfl ?_
  refine z_get 1 zc8 0 0 fl_8_12 X dX8_gap_1 hw rfl (by decide) rfl ?_
  refine z_iload_n 4 X dX8_gap_4 hl 1 rfl ?_
  obtain ⟨u1, e2, hF⟩ := zbd hF
  refine z_callV 5 zc5 mv_X5_hasPlace ml_8_71 9 [9] (zw_16 cA 0 a_this a_this_row a_this_coding a_this_trial a_this_pad a_this_history a_this_slots a_this_coding_prices a_this_coding_stream a_this_coding_exponents a_this_coding_skips a_this_coding_exponents_cells a_this_coding_prices_sums a_this_coding_prices_sums_cells a_this_coding_skips_cells a_this_row_numbers a_this_row_numbers_cells g_coding_exponents_cells v_coding_prices_length g_coding_prices_sums_cells g_coding_skips_cells v_row_length v_row_blockSize v_row_ones g_row_numbers_cells) [] (m_X5_hasPlace l D cA a_this_row a_this_row_numbers v_row_length v_row_blockSize v_row_ones i1 u1 e2) X dX8_gap_5 hw hl rfl rfl rfl (by decide) rfl rfl rfl (Nat.le_of_ble_eq_true rfl) ⟨Nat.le_of_ble_eq_true rfl, Nat.le_of_ble_eq_true rfl⟩ ⟨Nat.zero_le _, Nat.zero_le _⟩ (fun H locs hw => ?_)
  refine z_if_ne 8 13 X dX8_gap_8 (by decide) (fun c3 => ?_) (fun c3 => ?_)
  · replace hF := zneg c3 hF
    refine z_aload_n 13 X dX8_gap_13 hl 0 rfl ?_
    refine z_get 14 zc8 0 0 fl_8_12 X dX8_gap_14 hw rfl (by decide) rfl ?_
    refine z_iload_n 17 X dX8_gap_17 hl 1 rfl ?_
    obtain ⟨u4, e5, hF⟩ := zbd hF
    refine z_callV 18 zc5 mv_X5_blockOf ml_8_98 9 [9] (zw_16 cA 0 a_this a_this_row a_this_coding a_this_trial a_this_pad a_this_history a_this_slots a_this_coding_prices a_this_coding_stream a_this_coding_exponents a_this_coding_skips a_this_coding_exponents_cells a_this_coding_prices_sums a_this_coding_prices_sums_cells a_this_coding_skips_cells a_this_row_numbers a_this_row_numbers_cells g_coding_exponents_cells v_coding_prices_length g_coding_prices_sums_cells g_coding_skips_cells v_row_length v_row_blockSize v_row_ones g_row_numbers_cells) [] (m_X5_blockOf l D cA a_this_row a_this_row_numbers v_row_length v_row_blockSize v_row_ones i1 u4 e5) X dX8_gap_18 hw hl rfl rfl rfl (by decide) rfl rfl rfl (Nat.le_of_ble_eq_true rfl) ⟨Nat.le_of_ble_eq_true rfl, Nat.le_of_ble_eq_true rfl⟩ ⟨Nat.zero_le _, Nat.zero_le _⟩ (fun H locs hw => ?_)
    refine z_istore_n 21 [(3, .int u4), (0, .ref a_this), (1, .int i1), (2, .int i2)] X dX8_gap_21 hl (by decide) rfl (fun ls hl => ?_)
    refine z_aload_n 22 X dX8_gap_22 hl 1 rfl ?_
    refine z_get 23 zc8 0 1 fl_8_19 X dX8_gap_23 hw rfl (by decide) rfl ?_
    refine z_getN 26 zc1 1 2 fl_8_101 X dX8_gap_26 hw rfl (by decide) rfl ?_
    refine z_iload_n 29 X dX8_gap_29 hl 0 rfl ?_
    obtain ⟨u6, e7, hF⟩ := zbd hF
    refine z_callV 30 zc0 mv_X0_read ml_8_105 2 [2, 3] (zw_16 cA 0 a_this a_this_row a_this_coding a_this_trial a_this_pad a_this_history a_this_slots a_this_coding_prices a_this_coding_stream a_this_coding_exponents a_this_coding_skips a_this_coding_exponents_cells a_this_coding_prices_sums a_this_coding_prices_sums_cells a_this_coding_skips_cells a_this_row_numbers a_this_row_numbers_cells g_coding_exponents_cells v_coding_prices_length g_coding_prices_sums_cells g_coding_skips_cells v_row_length v_row_blockSize v_row_ones g_row_numbers_cells) [] (m_X0_read l D cA 64 a_this_coding_exponents a_this_coding_exponents_cells g_coding_exponents_cells u4 u6 e7) X dX8_gap_30 hw hl rfl rfl rfl (by decide) rfl rfl rfl (Nat.le_of_ble_eq_true rfl) ⟨Nat.le_of_ble_eq_true rfl, Nat.le_of_ble_eq_true rfl⟩ ⟨Nat.zero_le _, Nat.zero_le _⟩ (fun H locs hw => ?_)
    refine z_istore 33 [(4, .int u6), (3, .int u4), (0, .ref a_this), (1, .int i1), (2, .int i2)] X dX8_gap_33 hl (by decide) rfl (fun ls hl => ?_)
    refine z_iload_n 35 X dX8_gap_35 hl 4 rfl ?_
    by_cases c8 : i2 = 0
    · replace hF := zpos c8 hF
      refine z_swIn 36 72 0 X dX8_gap_36 c8 ⟨by decide, by decide, rfl⟩ (by decide) ?_
      refine z_aload_n 72 X dX8_gap_72 hl 2 rfl ?_
      refine z_get 73 zc8 0 0 fl_8_12 X dX8_gap_73 hw rfl (by decide) rfl ?_
      refine z_iload_n 76 X dX8_gap_76 hl 3 rfl ?_
      obtain ⟨u9, e10, hF⟩ := zbd hF
      refine z_callV 77 zc5 mv_X5_gapAhead ml_8_110 9 [9, 10, 11] (zw_16 cA 0 a_this a_this_row a_this_coding a_this_trial a_this_pad a_this_history a_this_slots a_this_coding_prices a_this_coding_stream a_this_coding_exponents a_this_coding_skips a_this_coding_exponents_cells a_this_coding_prices_sums a_this_coding_prices_sums_cells a_this_coding_skips_cells a_this_row_numbers a_this_row_numbers_cells g_coding_exponents_cells v_coding_prices_length g_coding_prices_sums_cells g_coding_skips_cells v_row_length v_row_blockSize v_row_ones g_row_numbers_cells) [] (m_X5_gapAhead l D cA a_this_row a_this_row_numbers a_this_row_numbers_cells v_row_length v_row_blockSize v_row_ones g_row_numbers_cells i1 u9 e10) X dX8_gap_77 hw hl rfl rfl rfl (by decide) rfl rfl rfl (Nat.le_of_ble_eq_true rfl) ⟨Nat.le_of_ble_eq_true rfl, Nat.le_of_ble_eq_true rfl⟩ ⟨Nat.zero_le _, Nat.zero_le _⟩ (fun H locs hw => ?_)
      cases hF
      exact z_iret 80 X dX8_gap_80 hw rfl rfl
    · replace hF := zneg c8 hF
      by_cases c11 : i2 = 1
      · replace hF := zpos c11 hF
        refine z_swIn 36 81 1 X dX8_gap_36 c11 ⟨by decide, by decide, rfl⟩ (by decide) ?_
        refine z_iload_n 81 X dX8_gap_81 hl 1 rfl ?_
        cases hF
        exact z_iret 82 X dX8_gap_82 hw rfl rfl
      · replace hF := zneg c11 hF
        by_cases c12 : i2 = 2
        · replace hF := zpos c12 hF
          refine z_swIn 36 83 2 X dX8_gap_36 c12 ⟨by decide, by decide, rfl⟩ (by decide) ?_
          refine z_aload_n 83 X dX8_gap_83 hl 2 rfl ?_
          refine z_get 84 zc8 0 0 fl_8_12 X dX8_gap_84 hw rfl (by decide) rfl ?_
          refine z_iload_n 87 X dX8_gap_87 hl 3 rfl ?_
          obtain ⟨u13, e14, hF⟩ := zbd hF
          refine z_callV 88 zc5 mv_X5_gapAhead ml_8_110 9 [9, 10, 11] (zw_16 cA 0 a_this a_this_row a_this_coding a_this_trial a_this_pad a_this_history a_this_slots a_this_coding_prices a_this_coding_stream a_this_coding_exponents a_this_coding_skips a_this_coding_exponents_cells a_this_coding_prices_sums a_this_coding_prices_sums_cells a_this_coding_skips_cells a_this_row_numbers a_this_row_numbers_cells g_coding_exponents_cells v_coding_prices_length g_coding_prices_sums_cells g_coding_skips_cells v_row_length v_row_blockSize v_row_ones g_row_numbers_cells) [] (m_X5_gapAhead l D cA a_this_row a_this_row_numbers a_this_row_numbers_cells v_row_length v_row_blockSize v_row_ones g_row_numbers_cells i1 u13 e14) X dX8_gap_88 hw hl rfl rfl rfl (by decide) rfl rfl rfl (Nat.le_of_ble_eq_true rfl) ⟨Nat.le_of_ble_eq_true rfl, Nat.le_of_ble_eq_true rfl⟩ ⟨Nat.zero_le _, Nat.zero_le _⟩ (fun H locs hw => ?_)
          refine z_iload 91 X dX8_gap_91 hl 0 rfl ?_
          refine z_aload_n 93 X dX8_gap_93 hl 2 rfl ?_
          refine z_get 94 zc8 0 0 fl_8_12 X dX8_gap_94 hw rfl (by decide) rfl ?_
          refine z_getN 97 zc5 9 3 fl_8_113 X dX8_gap_97 hw rfl (by decide) rfl ?_
          obtain ⟨u15, e16, hF⟩ := zbd hF
          refine z_callS 100 mv_X8_codeBits ml_8_116 [] (zw_16 cA 0 a_this a_this_row a_this_coding a_this_trial a_this_pad a_this_history a_this_slots a_this_coding_prices a_this_coding_stream a_this_coding_exponents a_this_coding_skips a_this_coding_exponents_cells a_this_coding_prices_sums a_this_coding_prices_sums_cells a_this_coding_skips_cells a_this_row_numbers a_this_row_numbers_cells g_coding_exponents_cells v_coding_prices_length g_coding_prices_sums_cells g_coding_skips_cells v_row_length v_row_blockSize v_row_ones g_row_numbers_cells) [] (m_X8_codeBits l D cA u13 u6 v_row_ones u15 e16) X dX8_gap_100 hw hl rfl rfl (by decide) rfl rfl rfl (Nat.le_of_ble_eq_true rfl) ⟨Nat.le_of_ble_eq_true rfl, Nat.le_of_ble_eq_true rfl⟩ ⟨Nat.zero_le _, Nat.zero_le _⟩ (fun H locs hw => ?_)
          cases hF
          exact z_iret 103 X dX8_gap_103 hw rfl rfl
        · replace hF := zneg c12 hF
          by_cases c17 : i2 = 3
          · replace hF := zpos c17 hF
            refine z_swIn 36 104 3 X dX8_gap_36 c17 ⟨by decide, by decide, rfl⟩ (by decide) ?_
            refine z_aload_n 104 X dX8_gap_104 hl 2 rfl ?_
            refine z_iload_n 105 X dX8_gap_105 hl 3 rfl ?_
            refine z_iload_n 106 X dX8_gap_106 hl 3 rfl ?_
            refine z_iconst 107 1 X dX8_gap_107 (by decide) ?_
            refine z_iadd 108 X dX8_gap_108 ?_
            refine z_iload 109 X dX8_gap_109 hl 0 rfl ?_
            obtain ⟨u18, e19, hF⟩ := zbd hF
            refine z_callV 111 zc8 mv_X8_escapesIn ml_8_120 0 [0, 9, 10, 11] (zw_16 cA 0 a_this a_this_row a_this_coding a_this_trial a_this_pad a_this_history a_this_slots a_this_coding_prices a_this_coding_stream a_this_coding_exponents a_this_coding_skips a_this_coding_exponents_cells a_this_coding_prices_sums a_this_coding_prices_sums_cells a_this_coding_skips_cells a_this_row_numbers a_this_row_numbers_cells g_coding_exponents_cells v_coding_prices_length g_coding_prices_sums_cells g_coding_skips_cells v_row_length v_row_blockSize v_row_ones g_row_numbers_cells) [] (m_X8_escapesIn l D cA a_this a_this_row a_this_coding a_this_trial a_this_pad a_this_history a_this_slots a_this_row_numbers a_this_row_numbers_cells v_row_length v_row_blockSize v_row_ones g_row_numbers_cells i1 (i1 + 1) u6 u18 e19) X dX8_gap_111 hw hl rfl rfl rfl (by decide) rfl rfl rfl (Nat.le_of_ble_eq_true rfl) ⟨Nat.le_of_ble_eq_true rfl, Nat.le_of_ble_eq_true rfl⟩ ⟨Nat.zero_le _, Nat.zero_le _⟩ (fun H locs hw => ?_)
            cases hF
            exact z_iret 114 X dX8_gap_114 hw rfl rfl
          · replace hF := zneg c17 hF
            by_cases c20 : i2 = 4
            · replace hF := zpos c20 hF
              refine z_swIn 36 115 4 X dX8_gap_36 c20 ⟨by decide, by decide, rfl⟩ (by decide) ?_
              refine z_aload_n 115 X dX8_gap_115 hl 2 rfl ?_
              refine z_get 116 zc8 0 1 fl_8_19 X dX8_gap_116 hw rfl (by decide) rfl ?_
              refine z_aload_n 119 X dX8_gap_119 hl 2 rfl ?_
              refine z_get 120 zc8 0 0 fl_8_12 X dX8_gap_120 hw rfl (by decide) rfl ?_
              refine z_iload_n 123 X dX8_gap_123 hl 3 rfl ?_
              obtain ⟨u21, e22, hF⟩ := zbd hF
              refine z_callV 124 zc1 mv_X1_codeStart ml_8_123 1 [1, 2, 3, 4, 5, 6, 7, 8, 9] (zw_16 cA 0 a_this a_this_row a_this_coding a_this_trial a_this_pad a_this_history a_this_slots a_this_coding_prices a_this_coding_stream a_this_coding_exponents a_this_coding_skips a_this_coding_exponents_cells a_this_coding_prices_sums a_this_coding_prices_sums_cells a_this_coding_skips_cells a_this_row_numbers a_this_row_numbers_cells g_coding_exponents_cells v_coding_prices_length g_coding_prices_sums_cells g_coding_skips_cells v_row_length v_row_blockSize v_row_ones g_row_numbers_cells) [] (m_X1_codeStart l D cA a_this_coding a_this_coding_prices a_this_coding_stream a_this_coding_exponents a_this_coding_skips a_this_coding_exponents_cells a_this_coding_prices_sums a_this_coding_prices_sums_cells a_this_coding_skips_cells a_this_row a_this_row_numbers g_coding_exponents_cells v_coding_prices_length g_coding_prices_sums_cells g_coding_skips_cells v_row_length v_row_blockSize v_row_ones i1 u21 e22) X dX8_gap_124 hw hl rfl rfl rfl (by decide) rfl rfl rfl (Nat.le_of_ble_eq_true rfl) ⟨Nat.le_of_ble_eq_true rfl, Nat.le_of_ble_eq_true rfl⟩ ⟨Nat.zero_le _, Nat.zero_le _⟩ (fun H locs hw => ?_)
              cases hF
              exact z_iret 127 X dX8_gap_127 hw rfl rfl
            · replace hF := zneg c20 hF
              refine z_swOut 36 128 5 X dX8_gap_36 (by decide) ⟨⟨⟨⟨⟨trivial, c8⟩, c11⟩, c12⟩, c17⟩, c20⟩ (by decide) ?_
              refine z_bipush 128 (-2) X dX8_gap_128 (by decide) ?_
              cases hF
              exact z_iret 130 X dX8_gap_130 hw rfl rfl
  · replace hF := zpos c3 hF
    refine z_iconst 11 (-1) X dX8_gap_11 (by decide) ?_
    cases hF
    exact z_iret 12 X dX8_gap_12 hw rfl rfl
