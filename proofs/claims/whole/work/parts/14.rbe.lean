theorem dX8_restore_0 : decode cX8_restore 0 = .ok (.iload_n 1, 1) := by decide +kernel
theorem dX8_restore_1 : decode cX8_restore 1 = .ok (.invokestatic 233, 3) := by decide +kernel
theorem dX8_restore_4 : decode cX8_restore 4 = .ok (.ifCond .ne 6, 3) := by decide +kernel
theorem dX8_restore_7 : decode cX8_restore 7 = .ok (.bipush (-2), 2) := by decide +kernel
theorem dX8_restore_9 : decode cX8_restore 9 = .ok (.ireturn, 1) := by decide +kernel
theorem dX8_restore_10 : decode cX8_restore 10 = .ok (.aload_n 0, 1) := by decide +kernel
theorem dX8_restore_11 : decode cX8_restore 11 = .ok (.getfield 49, 3) := by decide +kernel
theorem dX8_restore_14 : decode cX8_restore 14 = .ok (.iload_n 1, 1) := by decide +kernel
theorem dX8_restore_15 : decode cX8_restore 15 = .ok (.invokevirtual 240, 3) := by decide +kernel
theorem dX8_restore_18 : decode cX8_restore 18 = .ok (.ifCond .ne 6, 3) := by decide +kernel
theorem dX8_restore_21 : decode cX8_restore 21 = .ok (.bipush (-5), 2) := by decide +kernel
theorem dX8_restore_23 : decode cX8_restore 23 = .ok (.ireturn, 1) := by decide +kernel
theorem dX8_restore_24 : decode cX8_restore 24 = .ok (.aload_n 0, 1) := by decide +kernel
theorem dX8_restore_25 : decode cX8_restore 25 = .ok (.getfield 40, 3) := by decide +kernel
theorem dX8_restore_28 : decode cX8_restore 28 = .ok (.aload_n 0, 1) := by decide +kernel
theorem dX8_restore_29 : decode cX8_restore 29 = .ok (.getfield 12, 3) := by decide +kernel
theorem dX8_restore_32 : decode cX8_restore 32 = .ok (.invokevirtual 53, 3) := by decide +kernel
theorem dX8_restore_35 : decode cX8_restore 35 = .ok (.aload_n 0, 1) := by decide +kernel
theorem dX8_restore_36 : decode cX8_restore 36 = .ok (.getfield 49, 3) := by decide +kernel
theorem dX8_restore_39 : decode cX8_restore 39 = .ok (.iload_n 1, 1) := by decide +kernel
theorem dX8_restore_40 : decode cX8_restore 40 = .ok (.aload_n 0, 1) := by decide +kernel
theorem dX8_restore_41 : decode cX8_restore 41 = .ok (.getfield 12, 3) := by decide +kernel
theorem dX8_restore_44 : decode cX8_restore 44 = .ok (.invokevirtual 243, 3) := by decide +kernel
theorem dX8_restore_47 : decode cX8_restore 47 = .ok (.aload_n 0, 1) := by decide +kernel
theorem dX8_restore_48 : decode cX8_restore 48 = .ok (.aload_n 0, 1) := by decide +kernel
theorem dX8_restore_49 : decode cX8_restore 49 = .ok (.getfield 12, 3) := by decide +kernel
theorem dX8_restore_52 : decode cX8_restore 52 = .ok (.getfield 80, 3) := by decide +kernel
theorem dX8_restore_55 : decode cX8_restore 55 = .ok (.invokevirtual 61, 3) := by decide +kernel
theorem dX8_restore_58 : decode cX8_restore 58 = .ok (.ireturn, 1) := by decide +kernel
set_option maxHeartbeats 4000000 in
set_option maxRecDepth 100000 in
theorem m_X8_restore (l : Launch) (D : va_G) (cA : ClassId) (a_this a_this_row a_this_coding a_this_trial a_this_pad a_this_history a_this_slots a_this_coding_prices a_this_coding_stream a_this_coding_exponents a_this_coding_skips a_this_coding_exponents_cells a_this_coding_prices_sums a_this_coding_prices_sums_cells a_this_coding_skips_cells a_this_coding_stream_cells a_this_coding_stream_cells_cells a_this_history_states a_this_history_states_cells a_this_history_states_cells_cells a_this_row_numbers a_this_row_numbers_cells a_this_slots_cells a_this_slots_cells_cells : Nat) (g_coding_exponents_cells : Ar) (v_coding_prices_length : Int32) (g_coding_prices_sums_cells : Ar) (g_coding_skips_cells : Ar) (v_coding_stream_length : Int32) (v_coding_stream_start : Int32) (v_coding_stream_next : Int32) (v_coding_stream_exponent : Int32) (v_coding_stream_number : Int32) (g_coding_stream_cells_cells : Ar) (v_history_free : Int32) (v_history_length : Int32) (g_history_states_cells_cells : Ar) (v_row_length : Int32) (v_row_blockSize : Int32) (v_row_ones : Int32) (g_row_numbers_cells : Ar) (g_slots_cells_cells : Ar) (i1 : Int32) (out : Int32 × Ar × Int32 × Ar × Ar × Int32 × Ar × Int32 × Int32 × Ar × Int32 × Int32 × Int32 × Ar) (hF : F_X8_restore g_coding_exponents_cells v_coding_prices_length g_coding_prices_sums_cells g_coding_skips_cells v_coding_stream_length g_coding_stream_cells_cells v_history_free v_history_length g_history_states_cells_cells v_row_length v_row_blockSize v_row_ones g_row_numbers_cells g_slots_cells_cells i1 = some out) : zM l D cA yX8_restore cX8_restore 2 (some .int) 6 139 [.ref a_this, .int i1] (zw_34 cA 0 a_this a_this_row a_this_coding a_this_trial a_this_pad a_this_history a_this_slots a_this_coding_prices a_this_coding_stream a_this_coding_exponents a_this_coding_skips a_this_coding_exponents_cells a_this_coding_prices_sums a_this_coding_prices_sums_cells a_this_coding_skips_cells a_this_coding_stream_cells a_this_coding_stream_cells_cells a_this_history_states a_this_history_states_cells a_this_history_states_cells_cells a_this_row_numbers a_this_row_numbers_cells a_this_slots_cells a_this_slots_cells_cells g_coding_exponents_cells v_coding_prices_length g_coding_prices_sums_cells g_coding_skips_cells v_coding_stream_length v_coding_stream_start v_coding_stream_next v_coding_stream_exponent v_coding_stream_number g_coding_stream_cells_cells v_history_free v_history_length g_history_states_cells_cells v_row_length v_row_blockSize v_row_ones g_row_numbers_cells g_slots_cells_cells) (zw_34 cA 0 a_this a_this_row a_this_coding a_this_trial a_this_pad a_this_history a_this_slots a_this_coding_prices a_this_coding_stream a_this_coding_exponents a_this_coding_skips a_this_coding_exponents_cells a_this_coding_prices_sums a_this_coding_prices_sums_cells a_this_coding_skips_cells a_this_coding_stream_cells a_this_coding_stream_cells_cells a_this_history_states a_this_history_states_cells a_this_history_states_cells_cells a_this_row_numbers a_this_row_numbers_cells a_this_slots_cells a_this_slots_cells_cells out.2.1 out.2.2.1 out.2.2.2.1 out.2.2.2.2.1 out.2.2.2.2.2.1 v_coding_stream_start v_coding_stream_next v_coding_stream_exponent v_coding_stream_number out.2.2.2.2.2.2.1 out.2.2.2.2.2.2.2.1 out.2.2.2.2.2.2.2.2.1 out.2.2.2.2.2.2.2.2.2.1 out.2.2.2.2.2.2.2.2.2.2.1 out.2.2.2.2.2.2.2.2.2.2.2.1 out.2.2.2.2.2.2.2.2.2.2.2.2.1 out.2.2.2.2.2.2.2.2.2.2.2.2.2 g_slots_cells_cells) (some (.int out.1)) := by
  refine z_body (by decide) (Nat.le_of_ble_eq_true rfl) ?_
  intro p e s m args below meth c ls H locs A X hl hw
  have hl : lv_has ls 2 [(0, .ref a_this), (1, .int i1)] := hl
  unfold F_X8_restore at hF
  refine z_iload_n 0 X dX8_restore_0 hl 1 rfl ?_
  obtain ⟨u1, e2, hF⟩ := zbd hF
  refine z_callS 1 mv_X8_isSlot ml_8_233 [] (zw_34 cA 0 a_this a_this_row a_this_coding a_this_trial a_this_pad a_this_history a_this_slots a_this_coding_prices a_this_coding_stream a_this_coding_exponents a_this_coding_skips a_this_coding_exponents_cells a_this_coding_prices_sums a_this_coding_prices_sums_cells a_this_coding_skips_cells a_this_coding_stream_cells a_this_coding_stream_cells_cells a_this_history_states a_this_history_states_cells a_this_history_states_cells_cells a_this_row_numbers a_this_row_numbers_cells a_this_slots_cells a_this_slots_cells_cells g_coding_exponents_cells v_coding_prices_length g_coding_prices_sums_cells g_coding_skips_cells v_coding_stream_length v_coding_stream_start v_coding_stream_next v_coding_stream_exponent v_coding_stream_number g_coding_stream_cells_cells v_history_free v_history_length g_history_states_cells_cells v_row_length v_row_blockSize v_row_ones g_row_numbers_cells g_slots_cells_cells) [] (m_X8_isSlot l D cA i1 u1 e2) X dX8_restore_1 hw hl rfl rfl (by decide) rfl rfl rfl (Nat.le_of_ble_eq_true rfl) ⟨Nat.le_of_ble_eq_true rfl, Nat.le_of_ble_eq_true rfl⟩ ⟨Nat.zero_le _, Nat.zero_le _⟩ (fun H locs hw => ?_)
  refine z_if_ne 4 10 X dX8_restore_4 (by decide) (fun c3 => ?_) (fun c3 => ?_)
  · replace hF := zneg c3 hF
    refine z_aload_n 10 X dX8_restore_10 hl 0 rfl ?_
    refine z_get 11 zc8 0 5 fl_8_49 X dX8_restore_11 hw rfl (by decide) rfl ?_
    refine z_iload_n 14 X dX8_restore_14 hl 1 rfl ?_
    obtain ⟨u4, e5, hF⟩ := zbd hF
    refine z_callV 15 zc6 mv_X6_isStored ml_8_240 19 [19, 20, 21] (zw_34 cA 0 a_this a_this_row a_this_coding a_this_trial a_this_pad a_this_history a_this_slots a_this_coding_prices a_this_coding_stream a_this_coding_exponents a_this_coding_skips a_this_coding_exponents_cells a_this_coding_prices_sums a_this_coding_prices_sums_cells a_this_coding_skips_cells a_this_coding_stream_cells a_this_coding_stream_cells_cells a_this_history_states a_this_history_states_cells a_this_history_states_cells_cells a_this_row_numbers a_this_row_numbers_cells a_this_slots_cells a_this_slots_cells_cells g_coding_exponents_cells v_coding_prices_length g_coding_prices_sums_cells g_coding_skips_cells v_coding_stream_length v_coding_stream_start v_coding_stream_next v_coding_stream_exponent v_coding_stream_number g_coding_stream_cells_cells v_history_free v_history_length g_history_states_cells_cells v_row_length v_row_blockSize v_row_ones g_row_numbers_cells g_slots_cells_cells) [] (m_X6_isStored l D cA 136 a_this_slots a_this_slots_cells a_this_slots_cells_cells g_slots_cells_cells i1 u4 e5) X dX8_restore_15 hw hl rfl rfl rfl (by decide) rfl rfl rfl (Nat.le_of_ble_eq_true rfl) ⟨Nat.le_of_ble_eq_true rfl, Nat.le_of_ble_eq_true rfl⟩ ⟨Nat.zero_le _, Nat.zero_le _⟩ (fun H locs hw => ?_)
    refine z_if_ne 18 24 X dX8_restore_18 (by decide) (fun c6 => ?_) (fun c6 => ?_)
    · replace hF := zneg c6 hF
      refine z_aload_n 24 X dX8_restore_24 hl 0 rfl ?_
      refine z_get 25 zc8 0 4 fl_8_40 X dX8_restore_25 hw rfl (by decide) rfl ?_
      refine z_aload_n 28 X dX8_restore_28 hl 0 rfl ?_
      refine z_get 29 zc8 0 0 fl_8_12 X dX8_restore_29 hw rfl (by decide) rfl ?_
      obtain ⟨u7, e8, hF⟩ := zbd hF
      refine z_callV 32 zc2 mv_X2_note ml_8_53 12 [12, 13, 14, 15, 16, 17, 18] (zw_34 cA 0 a_this a_this_row a_this_coding a_this_trial a_this_pad a_this_history a_this_slots a_this_coding_prices a_this_coding_stream a_this_coding_exponents a_this_coding_skips a_this_coding_exponents_cells a_this_coding_prices_sums a_this_coding_prices_sums_cells a_this_coding_skips_cells a_this_coding_stream_cells a_this_coding_stream_cells_cells a_this_history_states a_this_history_states_cells a_this_history_states_cells_cells a_this_row_numbers a_this_row_numbers_cells a_this_slots_cells a_this_slots_cells_cells g_coding_exponents_cells v_coding_prices_length g_coding_prices_sums_cells g_coding_skips_cells v_coding_stream_length v_coding_stream_start v_coding_stream_next v_coding_stream_exponent v_coding_stream_number g_coding_stream_cells_cells v_history_free v_history_length u7 v_row_length v_row_blockSize v_row_ones g_row_numbers_cells g_slots_cells_cells) [] (m_X2_note l D cA a_this_history a_this_history_states a_this_history_states_cells a_this_history_states_cells_cells a_this_row a_this_row_numbers a_this_row_numbers_cells v_history_free v_history_length g_history_states_cells_cells v_row_length v_row_blockSize v_row_ones g_row_numbers_cells u7 e8) X dX8_restore_32 hw hl rfl rfl rfl (by decide) rfl rfl rfl (Nat.le_of_ble_eq_true rfl) ⟨Nat.le_of_ble_eq_true rfl, Nat.le_of_ble_eq_true rfl⟩ ⟨Nat.zero_le _, Nat.zero_le _⟩ (fun H locs hw => ?_)
      refine z_aload_n 35 X dX8_restore_35 hl 0 rfl ?_
      refine z_get 36 zc8 0 5 fl_8_49 X dX8_restore_36 hw rfl (by decide) rfl ?_
      refine z_iload_n 39 X dX8_restore_39 hl 1 rfl ?_
      refine z_aload_n 40 X dX8_restore_40 hl 0 rfl ?_
      refine z_get 41 zc8 0 0 fl_8_12 X dX8_restore_41 hw rfl (by decide) rfl ?_
      obtain ⟨u9, e10, hF⟩ := zbd hF
      refine z_callV 44 zc6 mv_X6_load ml_8_243 19 [19, 20, 21, 16, 17, 18] (zw_34 cA 0 a_this a_this_row a_this_coding a_this_trial a_this_pad a_this_history a_this_slots a_this_coding_prices a_this_coding_stream a_this_coding_exponents a_this_coding_skips a_this_coding_exponents_cells a_this_coding_prices_sums a_this_coding_prices_sums_cells a_this_coding_skips_cells a_this_coding_stream_cells a_this_coding_stream_cells_cells a_this_history_states a_this_history_states_cells a_this_history_states_cells_cells a_this_row_numbers a_this_row_numbers_cells a_this_slots_cells a_this_slots_cells_cells g_coding_exponents_cells v_coding_prices_length g_coding_prices_sums_cells g_coding_skips_cells v_coding_stream_length v_coding_stream_start v_coding_stream_next v_coding_stream_exponent v_coding_stream_number g_coding_stream_cells_cells v_history_free v_history_length u7 u9.1 u9.2.1 u9.2.2.1 u9.2.2.2 g_slots_cells_cells) [] (m_X6_load l D cA 136 a_this_slots a_this_slots_cells a_this_slots_cells_cells a_this_row a_this_row_numbers a_this_row_numbers_cells g_slots_cells_cells v_row_length v_row_blockSize v_row_ones g_row_numbers_cells i1 u9 e10) X dX8_restore_44 hw hl rfl rfl rfl (by decide) rfl rfl rfl (Nat.le_of_ble_eq_true rfl) ⟨Nat.le_of_ble_eq_true rfl, Nat.le_of_ble_eq_true rfl⟩ ⟨Nat.zero_le _, Nat.zero_le _⟩ (fun H locs hw => ?_)
      refine z_aload_n 47 X dX8_restore_47 hl 0 rfl ?_
      refine z_aload_n 48 X dX8_restore_48 hl 0 rfl ?_
      refine z_get 49 zc8 0 0 fl_8_12 X dX8_restore_49 hw rfl (by decide) rfl ?_
      refine z_getN 52 zc5 16 1 fl_8_80 X dX8_restore_52 hw rfl (by decide) rfl ?_
      obtain ⟨u11, e12, hF⟩ := zbd hF
      refine z_callV 55 zc8 mv_X8_settle ml_8_61 0 [0, 1, 2, 3, 4, 5, 6, 7, 8, 9, 10, 11, 12, 16, 17, 18] (zw_34 cA 0 a_this a_this_row a_this_coding a_this_trial a_this_pad a_this_history a_this_slots a_this_coding_prices a_this_coding_stream a_this_coding_exponents a_this_coding_skips a_this_coding_exponents_cells a_this_coding_prices_sums a_this_coding_prices_sums_cells a_this_coding_skips_cells a_this_coding_stream_cells a_this_coding_stream_cells_cells a_this_history_states a_this_history_states_cells a_this_history_states_cells_cells a_this_row_numbers a_this_row_numbers_cells a_this_slots_cells a_this_slots_cells_cells u11.2.1 u11.2.2.1 u11.2.2.2.1 u11.2.2.2.2.1 u11.2.2.2.2.2.1 v_coding_stream_start v_coding_stream_next v_coding_stream_exponent v_coding_stream_number u11.2.2.2.2.2.2.1 u11.2.2.2.2.2.2.2.1 u11.2.2.2.2.2.2.2.2 u7 u9.1 u9.2.1 u9.2.2.1 u9.2.2.2 g_slots_cells_cells) [] (m_X8_settle l D cA a_this a_this_row a_this_coding a_this_trial a_this_pad a_this_history a_this_slots a_this_coding_prices a_this_coding_stream a_this_coding_exponents a_this_coding_skips a_this_coding_exponents_cells a_this_coding_prices_sums a_this_coding_prices_sums_cells a_this_coding_skips_cells a_this_coding_stream_cells a_this_coding_stream_cells_cells a_this_history_states a_this_row_numbers a_this_row_numbers_cells g_coding_exponents_cells v_coding_prices_length g_coding_prices_sums_cells g_coding_skips_cells v_coding_stream_length v_coding_stream_start v_coding_stream_next v_coding_stream_exponent v_coding_stream_number g_coding_stream_cells_cells v_history_free v_history_length u9.1 u9.2.1 u9.2.2.1 u9.2.2.2 u9.1 u11 e12) X dX8_restore_55 hw hl rfl rfl rfl (by decide) rfl rfl rfl (Nat.le_of_ble_eq_true rfl) ⟨Nat.le_of_ble_eq_true rfl, Nat.le_of_ble_eq_true rfl⟩ ⟨Nat.zero_le _, Nat.zero_le _⟩ (fun H locs hw => ?_)
      cases hF
      exact z_iret 58 X dX8_restore_58 hw rfl rfl
    · replace hF := zpos c6 hF
      refine z_bipush 21 (-5) X dX8_restore_21 (by decide) ?_
      cases hF
      exact z_iret 23 X dX8_restore_23 hw rfl rfl
  · replace hF := zpos c3 hF
    refine z_bipush 7 (-2) X dX8_restore_7 (by decide) ?_
    cases hF
    exact z_iret 9 X dX8_restore_9 hw rfl rfl
