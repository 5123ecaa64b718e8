theorem dX9_readFor_0 : decode cX9_readFor 0 = .ok (.aload_n 0, 1) := by decide +kernel
theorem dX9_readFor_1 : decode cX9_readFor 1 = .ok (.iload_n 1, 1) := by decide +kernel
theorem dX9_readFor_2 : decode cX9_readFor 2 = .ok (.invokevirtual 169, 3) := by decide +kernel
theorem dX9_readFor_5 : decode cX9_readFor 5 = .ok (.istore_n 2, 1) := by decide +kernel
theorem dX9_readFor_6 : decode cX9_readFor 6 = .ok (.aload_n 0, 1) := by decide +kernel
theorem dX9_readFor_7 : decode cX9_readFor 7 = .ok (.iload_n 1, 1) := by decide +kernel
theorem dX9_readFor_8 : decode cX9_readFor 8 = .ok (.invokevirtual 102, 3) := by decide +kernel
theorem dX9_readFor_11 : decode cX9_readFor 11 = .ok (.iconst 1, 1) := by decide +kernel
theorem dX9_readFor_12 : decode cX9_readFor 12 = .ok (.iadd, 1) := by decide +kernel
theorem dX9_readFor_13 : decode cX9_readFor 13 = .ok (.istore_n 3, 1) := by decide +kernel
theorem dX9_readFor_14 : decode cX9_readFor 14 = .ok (.aload_n 0, 1) := by decide +kernel
theorem dX9_readFor_15 : decode cX9_readFor 15 = .ok (.iload_n 2, 1) := by decide +kernel
theorem dX9_readFor_16 : decode cX9_readFor 16 = .ok (.iload_n 3, 1) := by decide +kernel
theorem dX9_readFor_17 : decode cX9_readFor 17 = .ok (.aload_n 0, 1) := by decide +kernel
theorem dX9_readFor_18 : decode cX9_readFor 18 = .ok (.iload_n 2, 1) := by decide +kernel
theorem dX9_readFor_19 : decode cX9_readFor 19 = .ok (.invokevirtual 46, 3) := by decide +kernel
theorem dX9_readFor_22 : decode cX9_readFor 22 = .ok (.if_icmp .ge 7, 3) := by decide +kernel
theorem dX9_readFor_25 : decode cX9_readFor 25 = .ok (.iload_n 3, 1) := by decide +kernel
theorem dX9_readFor_26 : decode cX9_readFor 26 = .ok (.goto 8, 3) := by decide +kernel
theorem dX9_readFor_29 : decode cX9_readFor 29 = .ok (.aload_n 0, 1) := by decide +kernel
theorem dX9_readFor_30 : decode cX9_readFor 30 = .ok (.iload_n 2, 1) := by decide +kernel
theorem dX9_readFor_31 : decode cX9_readFor 31 = .ok (.invokevirtual 46, 3) := by decide +kernel
theorem dX9_readFor_34 : decode cX9_readFor 34 = .ok (.invokevirtual 138, 3) := by decide +kernel
theorem dX9_readFor_37 : decode cX9_readFor 37 = .ok (.ireturn, 1) := by decide +kernel
set_option maxHeartbeats 4000000 in
set_option maxRecDepth 100000 in
theorem m_X9_readFor (l : Launch) (D : va_G) (cA : ClassId) (a_this a_this_all a_this_kept a_this_history a_this_slots a_this_isSaved a_this_stream a_this_pad : Nat) (v_historyLong : Int32) (v_streamLong : Int32) (v_spot : Int32) (v_padLong : Int32) (v_padSpot : Int32) (v_readNumber : Int32) (g_all : Ar) (i1 : Int32) (out : Int32) (hF : F_X9_readFor g_all i1 = some out) : zM l D cA yX9_readFor cX9_readFor 4 (some .int) 5 116 [.ref a_this, .int i1] (zw_36 cA 0 a_this a_this_all a_this_kept a_this_history a_this_slots a_this_isSaved a_this_stream a_this_pad v_historyLong v_streamLong v_spot v_padLong v_padSpot v_readNumber g_all) (zw_36 cA 0 a_this a_this_all a_this_kept a_this_history a_this_slots a_this_isSaved a_this_stream a_this_pad v_historyLong v_streamLong v_spot v_padLong v_padSpot v_readNumber g_all) (some (.int out)) := by
  refine z_body (by decide) (Nat.le_of_ble_eq_true rfl) ?_
  intro p e s m args below meth c ls H locs A X hl hw
  have hl : lv_has ls 4 [(0, .ref a_this), (1, .int i1)] := hl
  unfold F_X9_readFor at hF
  refine z_aload_n 0 X dX9_readFor_0 hl 0 rfl ?_
  refine z_iload_n 1 X dX9_readFor_1 hl 1 rfl ?_
  obtain ⟨u1, e2, hF⟩ := zbd hF
  refine z_callV 2 zc9 mv_X9_blockFor ml_9_169 0 [] (zk_118 cA 0 a_this a_this_all a_this_kept a_this_history a_this_slots a_this_isSaved a_this_stream a_this_pad v_historyLong v_streamLong v_spot v_padLong v_padSpot v_readNumber g_all) (m_X9_blockFor l D cA a_this a_this_all a_this_kept a_this_history a_this_slots a_this_isSaved a_this_stream a_this_pad v_historyLong v_streamLong v_spot v_padLong v_padSpot v_readNumber g_all i1 u1 e2) X dX9_readFor_2 hw hl rfl rfl rfl (Nat.le_of_ble_eq_true rfl) ⟨Nat.le_of_ble_eq_true rfl, Nat.le_of_ble_eq_true rfl⟩ ⟨Nat.zero_le _, Nat.zero_le _⟩ (fun H locs hw => ?_)
  refine z_istore_n 5 [(2, .int u1), (0, .ref a_this), (1, .int i1)] X dX9_readFor_5 hl (by decide) rfl (fun ls hl => ?_)
  refine z_aload_n 6 X dX9_readFor_6 hl 1 rfl ?_
  refine z_iload_n 7 X dX9_readFor_7 hl 2 rfl ?_
  obtain ⟨u3, e4, hF⟩ := zbd hF
  refine z_callV 8 zc9 mv_X9_lowest ml_9_102 0 [] (zk_118 cA 0 a_this a_this_all a_this_kept a_this_history a_this_slots a_this_isSaved a_this_stream a_this_pad v_historyLong v_streamLong v_spot v_padLong v_padSpot v_readNumber g_all) (m_X9_lowest l D cA a_this a_this_all a_this_kept a_this_history a_this_slots a_this_isSaved a_this_stream a_this_pad v_historyLong v_streamLong v_spot v_padLong v_padSpot v_readNumber g_all i1 u3 e4) X dX9_readFor_8 hw hl rfl rfl rfl (Nat.le_of_ble_eq_true rfl) ⟨Nat.le_of_ble_eq_true rfl, Nat.le_of_ble_eq_true rfl⟩ ⟨Nat.zero_le _, Nat.zero_le _⟩ (fun H locs hw => ?_)
  refine z_iconst 11 1 X dX9_readFor_11 (by decide) ?_
  refine z_iadd 12 X dX9_readFor_12 ?_
  refine z_istore_n 13 [(3, .int (u3 + 1)), (2, .int u1), (0, .ref a_this), (1, .int i1)] X dX9_readFor_13 hl (by decide) rfl (fun ls hl => ?_)
  refine z_aload_n 14 X dX9_readFor_14 hl 2 rfl ?_
  refine z_iload_n 15 X dX9_readFor_15 hl 1 rfl ?_
  refine z_iload_n 16 X dX9_readFor_16 hl 0 rfl ?_
  refine z_aload_n 17 X dX9_readFor_17 hl 2 rfl ?_
  refine z_iload_n 18 X dX9_readFor_18 hl 1 rfl ?_
  obtain ⟨u5, e6, hF⟩ := zbd hF
  refine z_callV 19 zc9 mv_X9_end ml_9_46 0 [.int (u3 + 1), .int u1, .ref a_this] (zk_118 cA 0 a_this a_this_all a_this_kept a_this_history a_this_slots a_this_isSaved a_this_stream a_this_pad v_historyLong v_streamLong v_spot v_padLong v_padSpot v_readNumber g_all) (m_X9_end l D cA a_this a_this_all a_this_kept a_this_history a_this_slots a_this_isSaved a_this_stream a_this_pad v_historyLong v_streamLong v_spot v_padLong v_padSpot v_readNumber g_all u1 u5 e6) X dX9_readFor_19 hw hl rfl rfl rfl (Nat.le_of_ble_eq_true rfl) ⟨Nat.le_of_ble_eq_true rfl, Nat.le_of_ble_eq_true rfl⟩ ⟨Nat.zero_le _, Nat.zero_le _⟩ (fun H locs hw => ?_)
  refine z_icmp_ge 22 29 X dX9_readFor_22 (by decide) (fun c7 => ?_) (fun c7 => ?_)
  · replace hF := zpos c7 hF
    refine z_aload_n 29 X dX9_readFor_29 hl 2 rfl ?_
    refine z_iload_n 30 X dX9_readFor_30 hl 1 rfl ?_
    obtain ⟨u8, e9, hF⟩ := zbd hF
    refine z_callV 31 zc9 mv_X9_end ml_9_46 0 [.int u1, .ref a_this] (zk_118 cA 0 a_this a_this_all a_this_kept a_this_history a_this_slots a_this_isSaved a_this_stream a_this_pad v_historyLong v_streamLong v_spot v_padLong v_padSpot v_readNumber g_all) (m_X9_end l D cA a_this a_this_all a_this_kept a_this_history a_this_slots a_this_isSaved a_this_stream a_this_pad v_historyLong v_streamLong v_spot v_padLong v_padSpot v_readNumber g_all u1 u8 e9) X dX9_readFor_31 hw hl rfl rfl rfl (Nat.le_of_ble_eq_true rfl) ⟨Nat.le_of_ble_eq_true rfl, Nat.le_of_ble_eq_true rfl⟩ ⟨Nat.zero_le _, Nat.zero_le _⟩ (fun H locs hw => ?_)
    obtain ⟨u10, e11, hF⟩ := zbd hF
    refine z_callV 34 zc9 mv_X9_bitsAhead ml_9_138 0 [] (zk_118 cA 0 a_this a_this_all a_this_kept a_this_history a_this_slots a_this_isSaved a_this_stream a_this_pad v_historyLong v_streamLong v_spot v_padLong v_padSpot v_readNumber g_all) (m_X9_bitsAhead l D cA a_this a_this_all a_this_kept a_this_history a_this_slots a_this_isSaved a_this_stream a_this_pad v_historyLong v_streamLong v_spot v_padLong v_padSpot v_readNumber g_all u1 u8 u10 e11) X dX9_readFor_34 hw hl rfl rfl rfl (Nat.le_of_ble_eq_true rfl) ⟨Nat.le_of_ble_eq_true rfl, Nat.le_of_ble_eq_true rfl⟩ ⟨Nat.zero_le _, Nat.zero_le _⟩ (fun H locs hw => ?_)
    cases hF
    exact z_iret 37 X dX9_readFor_37 hw rfl rfl
  · replace hF := zneg c7 hF
    refine z_iload_n 25 X dX9_readFor_25 hl 0 rfl ?_
    refine z_goto 26 34 X dX9_readFor_26 (by decide) ?_
    obtain ⟨u12, e13, hF⟩ := zbd hF
    refine z_callV 34 zc9 mv_X9_bitsAhead ml_9_138 0 [] (zk_118 cA 0 a_this a_this_all a_this_kept a_this_history a_this_slots a_this_isSaved a_this_stream a_this_pad v_historyLong v_streamLong v_spot v_padLong v_padSpot v_readNumber g_all) (m_X9_bitsAhead l D cA a_this a_this_all a_this_kept a_this_history a_this_slots a_this_isSaved a_this_stream a_this_pad v_historyLong v_streamLong v_spot v_padLong v_padSpot v_readNumber g_all u1 (u3 + 1) u12 e13) X dX9_readFor_34 hw hl rfl rfl rfl (Nat.le_of_ble_eq_true rfl) ⟨Nat.le_of_ble_eq_true rfl, Nat.le_of_ble_eq_true rfl⟩ ⟨Nat.zero_le _, Nat.zero_le _⟩ (fun H locs hw => ?_)
    cases hF
    exact z_iret 37 X dX9_readFor_37 hw rfl rfl
theorem dX9_find_0 : decode cX9_find 0 = .ok (.iload_n 1, 1) := by decide +kernel
theorem dX9_find_1 : decode cX9_find 1 = .ok (.invokestatic 105, 3) := by decide +kernel
theorem dX9_find_4 : decode cX9_find 4 = .ok (.ifCond .eq 15, 3) := by decide +kernel
theorem dX9_find_7 : decode cX9_find 7 = .ok (.iload_n 2, 1) := by decide +kernel
theorem dX9_find_8 : decode cX9_find 8 = .ok (.i2l, 1) := by decide +kernel
theorem dX9_find_9 : decode cX9_find 9 = .ok (.lconst 0, 1) := by decide +kernel
theorem dX9_find_10 : decode cX9_find 10 = .ok (.ldc2_w 172, 3) := by decide +kernel
theorem dX9_find_13 : decode cX9_find 13 = .ok (.invokestatic 91, 3) := by decide +kernel
theorem dX9_find_16 : decode cX9_find 16 = .ok (.ifCond .ne 6, 3) := by decide +kernel
theorem dX9_find_19 : decode cX9_find 19 = .ok (.bipush (-2), 2) := by decide +kernel
theorem dX9_find_21 : decode cX9_find 21 = .ok (.ireturn, 1) := by decide +kernel
theorem dX9_find_22 : decode cX9_find 22 = .ok (.iload_n 2, 1) := by decide +kernel
theorem dX9_find_23 : decode cX9_find 23 = .ok (.tableswitch 51 0 2 #[25, 31, 45], 25) := by decide +kernel
theorem dX9_find_48 : decode cX9_find 48 = .ok (.aload_n 0, 1) := by decide +kernel
theorem dX9_find_49 : decode cX9_find 49 = .ok (.iload_n 1, 1) := by decide +kernel
theorem dX9_find_50 : decode cX9_find 50 = .ok (.invokevirtual 102, 3) := by decide +kernel
theorem dX9_find_53 : decode cX9_find 53 = .ok (.ireturn, 1) := by decide +kernel
theorem dX9_find_54 : decode cX9_find 54 = .ok (.aload_n 0, 1) := by decide +kernel
theorem dX9_find_55 : decode cX9_find 55 = .ok (.iload_n 1, 1) := by decide +kernel
theorem dX9_find_56 : decode cX9_find 56 = .ok (.invokevirtual 109, 3) := by decide +kernel
theorem dX9_find_59 : decode cX9_find 59 = .ok (.ifCond .eq 7, 3) := by decide +kernel
theorem dX9_find_62 : decode cX9_find 62 = .ok (.iconst 1, 1) := by decide +kernel
theorem dX9_find_63 : decode cX9_find 63 = .ok (.goto 4, 3) := by decide +kernel
theorem dX9_find_66 : decode cX9_find 66 = .ok (.iconst 0, 1) := by decide +kernel
theorem dX9_find_67 : decode cX9_find 67 = .ok (.ireturn, 1) := by decide +kernel
theorem dX9_find_68 : decode cX9_find 68 = .ok (.aload_n 0, 1) := by decide +kernel
theorem dX9_find_69 : decode cX9_find 69 = .ok (.iload_n 1, 1) := by decide +kernel
theorem dX9_find_70 : decode cX9_find 70 = .ok (.invokevirtual 169, 3) := by decide +kernel
theorem dX9_find_73 : decode cX9_find 73 = .ok (.ireturn, 1) := by decide +kernel
theorem dX9_find_74 : decode cX9_find 74 = .ok (.aload_n 0, 1) := by decide +kernel
theorem dX9_find_75 : decode cX9_find 75 = .ok (.getfield 7, 3) := by decide +kernel
theorem dX9_find_78 : decode cX9_find 78 = .ok (.iconst 2, 1) := by decide +kernel
theorem dX9_find_79 : decode cX9_find 79 = .ok (.iaload, 1) := by decide +kernel
theorem dX9_find_80 : decode cX9_find 80 = .ok (.ifCond .ne 7, 3) := by decide +kernel
theorem dX9_find_83 : decode cX9_find 83 = .ok (.iconst 0, 1) := by decide +kernel
theorem dX9_find_84 : decode cX9_find 84 = .ok (.goto 8, 3) := by decide +kernel
theorem dX9_find_87 : decode cX9_find 87 = .ok (.aload_n 0, 1) := by decide +kernel
theorem dX9_find_88 : decode cX9_find 88 = .ok (.iload_n 1, 1) := by decide +kernel
theorem dX9_find_89 : decode cX9_find 89 = .ok (.invokevirtual 174, 3) := by decide +kernel
theorem dX9_find_92 : decode cX9_find 92 = .ok (.ireturn, 1) := by decide +kernel
set_option maxHeartbeats 4000000 in
set_option maxRecDepth 100000 in
theorem m_X9_find (l : Launch) (D : va_G) (cA : ClassId) (a_this a_this_all a_this_kept a_this_history a_this_slots a_this_isSaved a_this_stream a_this_pad : Nat) (v_historyLong : Int32) (v_streamLong : Int32) (v_spot : Int32) (v_padLong : Int32) (v_padSpot : Int32) (v_readNumber : Int32) (g_all : Ar) (i1 : Int32) (i2 : Int32) (out : Int32) (hF : F_X9_find g_all i1 i2 = some out) : zM l D cA yX9_find cX9_find 3 (some .int) 6 139 [.ref a_this, .int i1, .int i2] (zw_36 cA 0 a_this a_this_all a_this_kept a_this_history a_this_slots a_this_isSaved a_this_stream a_this_pad v_historyLong v_streamLong v_spot v_padLong v_padSpot v_readNumber g_all) (zw_36 cA 0 a_this a_this_all a_this_kept a_this_history a_this_slots a_this_isSaved a_this_stream a_this_pad v_historyLong v_streamLong v_spot v_padLong v_padSpot v_readNumber g_all) (some (.int out)) := by
  refine z_body (by decide) (Nat.le_of_ble_eq_true rfl) ?_
  intro p e s m args below meth c ls H locs A X hl hw
  have hl : lv_has ls 3 [(0, .ref a_this), (1, .int i1), (2, .int i2)] := hl
  unfold F_X9_find at hF
  refine z_iload_n 0 X dX9_find_0 hl 1 rfl ?_
  obtain ⟨u1, e2, hF⟩ := zbd hF
  refine z_callS 1 mv_X9_isNumber ml_9_105 [] (zk_114 cA 0 a_this a_this_all a_this_kept a_this_history a_this_slots a_this_isSaved a_this_stream a_this_pad v_historyLong v_streamLong v_spot v_padLong v_padSpot v_readNumber g_all) (m_X9_isNumber l D cA i1 u1 e2) X dX9_find_1 hw hl rfl rfl (Nat.le_of_ble_eq_true rfl) ⟨Nat.le_of_ble_eq_true rfl, Nat.le_of_ble_eq_true rfl⟩ ⟨Nat.zero_le _, Nat.zero_le _⟩ (fun H locs hw => ?_)
  refine z_if_eq 4 19 X dX9_find_4 (by decide) (fun c3 => ?_) (fun c3 => ?_)
  · replace hF := zpos c3 hF
    refine z_bipush 19 (-2) X dX9_find_19 (by decide) ?_
    cases hF
    exact z_iret 21 X dX9_find_21 hw rfl rfl
  · replace hF := zneg c3 hF
    refine z_iload_n 7 X dX9_find_7 hl 2 rfl ?_
    refine z_i2l 8 X dX9_find_8 ?_
    refine z_lconst 9 0 X dX9_find_9 (by decide) ?_
    refine z_ldc2 10 3 X dX9_find_10 cl_9_172 ?_
    obtain ⟨u4, e5, hF⟩ := zbd hF
    refine z_callS 13 mv_X9_in ml_9_91 [] (zk_114 cA 0 a_this a_this_all a_this_kept a_this_history a_this_slots a_this_isSaved a_this_stream a_this_pad v_historyLong v_streamLong v_spot v_padLong v_padSpot v_readNumber g_all) (m_X9_in l D cA (i2.toInt64) 0 3 u4 e5) X dX9_find_13 hw hl rfl rfl (Nat.le_of_ble_eq_true rfl) ⟨Nat.le_of_ble_eq_true rfl, Nat.le_of_ble_eq_true rfl⟩ ⟨Nat.zero_le _, Nat.zero_le _⟩ (fun H locs hw => ?_)
    refine z_if_ne 16 22 X dX9_find_16 (by decide) (fun c6 => ?_) (fun c6 => ?_)
    · replace hF := zneg c6 hF
      refine z_iload_n 22 X dX9_find_22 hl 2 rfl ?_
      by_cases c7 : i2 = 0
      · replace hF := zpos c7 hF
        refine z_swIn 23 48 0 X dX9_find_23 c7 ⟨by decide, by decide, rfl⟩ (by decide) ?_
        refine z_aload_n 48 X dX9_find_48 hl 0 rfl ?_
        refine z_iload_n 49 X dX9_find_49 hl 1 rfl ?_
        obtain ⟨u8, e9, hF⟩ := zbd hF
        refine z_callV 50 zc9 mv_X9_lowest ml_9_102 0 [] (zk_118 cA 0 a_this a_this_all a_this_kept a_this_history a_this_slots a_this_isSaved a_this_stream a_this_pad v_historyLong v_streamLong v_spot v_padLong v_padSpot v_readNumber g_all) (m_X9_lowest l D cA a_this a_this_all a_this_kept a_this_history a_this_slots a_this_isSaved a_this_stream a_this_pad v_historyLong v_streamLong v_spot v_padLong v_padSpot v_readNumber g_all i1 u8 e9) X dX9_find_50 hw hl rfl rfl rfl (Nat.le_of_ble_eq_true rfl) ⟨Nat.le_of_ble_eq_true rfl, Nat.le_of_ble_eq_true rfl⟩ ⟨Nat.zero_le _, Nat.zero_le _⟩ (fun H locs hw => ?_)
        cases hF
        exact z_iret 53 X dX9_find_53 hw rfl rfl
      · replace hF := zneg c7 hF
        by_cases c10 : i2 = 1
        · replace hF := zpos c10 hF
          refine z_swIn 23 54 1 X dX9_find_23 c10 ⟨by decide, by decide, rfl⟩ (by decide) ?_
          refine z_aload_n 54 X dX9_find_54 hl 0 rfl ?_
          refine z_iload_n 55 X dX9_find_55 hl 1 rfl ?_
          obtain ⟨u11, e12, hF⟩ := zbd hF
          refine z_callV 56 zc9 mv_X9_isThere ml_9_109 0 [] (zk_118 cA 0 a_this a_this_all a_this_kept a_this_history a_this_slots a_this_isSaved a_this_stream a_this_pad v_historyLong v_streamLong v_spot v_padLong v_padSpot v_readNumber g_all) (m_X9_isThere l D cA a_this a_this_all a_this_kept a_this_history a_this_slots a_this_isSaved a_this_stream a_this_pad v_historyLong v_streamLong v_spot v_padLong v_padSpot v_readNumber g_all i1 u11 e12) X dX9_find_56 hw hl rfl rfl rfl (Nat.le_of_ble_eq_true rfl) ⟨Nat.le_of_ble_eq_true rfl, Nat.le_of_ble_eq_true rfl⟩ ⟨Nat.zero_le _, Nat.zero_le _⟩ (fun H locs hw => ?_)
          refine z_if_eq 59 66 X dX9_find_59 (by decide) (fun c13 => ?_) (fun c13 => ?_)
          · replace hF := zpos c13 hF
            refine z_iconst 66 0 X dX9_find_66 (by decide) ?_
            cases hF
            exact z_iret 67 X dX9_find_67 hw rfl rfl
          · replace hF := zneg c13 hF
            refine z_iconst 62 1 X dX9_find_62 (by decide) ?_
            refine z_goto 63 67 X dX9_find_63 (by decide) ?_
            cases hF
            exact z_iret 67 X dX9_find_67 hw rfl rfl
        · replace hF := zneg c10 hF
          by_cases c14 : i2 = 2
          · replace hF := zpos c14 hF
            refine z_swIn 23 68 2 X dX9_find_23 c14 ⟨by decide, by decide, rfl⟩ (by decide) ?_
            refine z_aload_n 68 X dX9_find_68 hl 0 rfl ?_
            refine z_iload_n 69 X dX9_find_69 hl 1 rfl ?_
            obtain ⟨u15, e16, hF⟩ := zbd hF
            refine z_callV 70 zc9 mv_X9_blockFor ml_9_169 0 [] (zk_118 cA 0 a_this a_this_all a_this_kept a_this_history a_this_slots a_this_isSaved a_this_stream a_this_pad v_historyLong v_streamLong v_spot v_padLong v_padSpot v_readNumber g_all) (m_X9_blockFor l D cA a_this a_this_all a_this_kept a_this_history a_this_slots a_this_isSaved a_this_stream a_this_pad v_historyLong v_streamLong v_spot v_padLong v_padSpot v_readNumber g_all i1 u15 e16) X dX9_find_70 hw hl rfl rfl rfl (Nat.le_of_ble_eq_true rfl) ⟨Nat.le_of_ble_eq_true rfl, Nat.le_of_ble_eq_true rfl⟩ ⟨Nat.zero_le _, Nat.zero_le _⟩ (fun H locs hw => ?_)
            cases hF
            exact z_iret 73 X dX9_find_73 hw rfl rfl
          · replace hF := zneg c14 hF
            refine z_swOut 23 74 3 X dX9_find_23 (by decide) ⟨⟨⟨trivial, c7⟩, c10⟩, c14⟩ (by decide) ?_
            refine z_aload_n 74 X dX9_find_74 hl 0 rfl ?_
            refine z_get 75 zc9 0 0 fl_9_7 X dX9_find_75 hw rfl (by decide) rfl ?_
            refine z_iconst 78 2 X dX9_find_78 (by decide) ?_
            refine z_iald 79 1 (g_all 2) X dX9_find_79 hw rfl (by decide) rfl ?_
            refine z_if_ne 80 87 X dX9_find_80 (by decide) (fun c17 => ?_) (fun c17 => ?_)
            · replace hF := zneg c17 hF
              refine z_aload_n 87 X dX9_find_87 hl 0 rfl ?_
              refine z_iload_n 88 X dX9_find_88 hl 1 rfl ?_
              obtain ⟨u18, e19, hF⟩ := zbd hF
              refine z_callV 89 zc9 mv_X9_readFor ml_9_174 0 [] (zk_118 cA 0 a_this a_this_all a_this_kept a_this_history a_this_slots a_this_isSaved a_this_stream a_this_pad v_historyLong v_streamLong v_spot v_padLong v_padSpot v_readNumber g_all) (m_X9_readFor l D cA a_this a_this_all a_this_kept a_this_history a_this_slots a_this_isSaved a_this_stream a_this_pad v_historyLong v_streamLong v_spot v_padLong v_padSpot v_readNumber g_all i1 u18 e19) X dX9_find_89 hw hl rfl rfl rfl (Nat.le_of_ble_eq_true rfl) ⟨Nat.le_of_ble_eq_true rfl, Nat.le_of_ble_eq_true rfl⟩ ⟨Nat.zero_le _, Nat.zero_le _⟩ (fun H locs hw => ?_)
              cases hF
              exact z_iret 92 X dX9_find_92 hw rfl rfl
            · replace hF := zpos c17 hF
              refine z_iconst 83 0 X dX9_find_83 (by decide) ?_
              refine z_goto 84 92 X dX9_find_84 (by decide) ?_
              cases hF
              exact z_iret 92 X dX9_find_92 hw rfl rfl
    · replace hF := zpos c6 hF
      refine z_bipush 19 (-2) X dX9_find_19 (by decide) ?_
      cases hF
      exact z_iret 21 X dX9_find_21 hw rfl rfl
theorem dX9_cost_0 : decode cX9_cost 0 = .ok (.aload_n 0, 1) := by decide +kernel
theorem dX9_cost_1 : decode cX9_cost 1 = .ok (.iload_n 1, 1) := by decide +kernel
theorem dX9_cost_2 : decode cX9_cost 2 = .ok (.invokevirtual 141, 3) := by decide +kernel
theorem dX9_cost_5 : decode cX9_cost 5 = .ok (.ifCond .ne 5, 3) := by decide +kernel
theorem dX9_cost_8 : decode cX9_cost 8 = .ok (.iconst (-1), 1) := by decide +kernel
theorem dX9_cost_9 : decode cX9_cost 9 = .ok (.ireturn, 1) := by decide +kernel
theorem dX9_cost_10 : decode cX9_cost 10 = .ok (.iload_n 2, 1) := by decide +kernel
theorem dX9_cost_11 : decode cX9_cost 11 = .ok (.i2l, 1) := by decide +kernel
theorem dX9_cost_12 : decode cX9_cost 12 = .ok (.lconst 0, 1) := by decide +kernel
theorem dX9_cost_13 : decode cX9_cost 13 = .ok (.ldc2_w 177, 3) := by decide +kernel
theorem dX9_cost_16 : decode cX9_cost 16 = .ok (.invokestatic 91, 3) := by decide +kernel
theorem dX9_cost_19 : decode cX9_cost 19 = .ok (.ifCond .eq 12, 3) := by decide +kernel
theorem dX9_cost_22 : decode cX9_cost 22 = .ok (.aload_n 0, 1) := by decide +kernel
theorem dX9_cost_23 : decode cX9_cost 23 = .ok (.iload_n 1, 1) := by decide +kernel
theorem dX9_cost_24 : decode cX9_cost 24 = .ok (.iload_n 2, 1) := by decide +kernel
theorem dX9_cost_25 : decode cX9_cost 25 = .ok (.invokevirtual 56, 3) := by decide +kernel
theorem dX9_cost_28 : decode cX9_cost 28 = .ok (.goto 5, 3) := by decide +kernel
theorem dX9_cost_31 : decode cX9_cost 31 = .ok (.bipush (-2), 2) := by decide +kernel
theorem dX9_cost_33 : decode cX9_cost 33 = .ok (.ireturn, 1) := by decide +kernel
set_option maxHeartbeats 4000000 in
set_option maxRecDepth 100000 in
theorem m_X9_cost (l : Launch) (D : va_G) (cA : ClassId) (a_this a_this_all a_this_kept a_this_history a_this_slots a_this_isSaved a_this_stream a_this_pad : Nat) (v_historyLong : Int32) (v_streamLong : Int32) (v_spot : Int32) (v_padLong : Int32) (v_padSpot : Int32) (v_readNumber : Int32) (g_all : Ar) (i1 : Int32) (i2 : Int32) (out : Int32) (hF : F_X9_cost g_all i1 i2 = some out) : zM l D cA yX9_cost cX9_cost 3 (some .int) 3 68 [.ref a_this, .int i1, .int i2] (zw_36 cA 0 a_this a_this_all a_this_kept a_this_history a_this_slots a_this_isSaved a_this_stream a_this_pad v_historyLong v_streamLong v_spot v_padLong v_padSpot v_readNumber g_all) (zw_36 cA 0 a_this a_this_all a_this_kept a_this_history a_this_slots a_this_isSaved a_this_stream a_this_pad v_historyLong v_streamLong v_spot v_padLong v_padSpot v_readNumber g_all) (some (.int out)) := by
  refine z_body (by decide) (Nat.le_of_ble_eq_true rfl) ?_
  intro p e s m args below meth c ls H locs A X hl hw
  have hl : lv_has ls 3 [(0, .ref a_this), (1, .int i1), (2, .int i2)] := hl
  unfold F_X9_cost at hF
  refine z_aload_n 0 X dX9_cost_0 hl 0 rfl ?_
  refine z_iload_n 1 X dX9_cost_1 hl 1 rfl ?_
  obtain ⟨u1, e2, hF⟩ := zbd hF
  refine z_callV 2 zc9 mv_X9_isBlock ml_9_141 0 [] (zk_118 cA 0 a_this a_this_all a_this_kept a_this_history a_this_slots a_this_isSaved a_this_stream a_this_pad v_historyLong v_streamLong v_spot v_padLong v_padSpot v_readNumber g_all) (m_X9_isBlock l D cA a_this a_this_all a_this_kept a_this_history a_this_slots a_this_isSaved a_this_stream a_this_pad v_historyLong v_streamLong v_spot v_padLong v_padSpot v_readNumber g_all i1 u1 e2) X dX9_cost_2 hw hl rfl rfl rfl (Nat.le_of_ble_eq_true rfl) ⟨Nat.le_of_ble_eq_true rfl, Nat.le_of_ble_eq_true rfl⟩ ⟨Nat.zero_le _, Nat.zero_le _⟩ (fun H locs hw => ?_)
  refine z_if_ne 5 10 X dX9_cost_5 (by decide) (fun c3 => ?_) (fun c3 => ?_)
  · replace hF := zneg c3 hF
    refine z_iload_n 10 X dX9_cost_10 hl 2 rfl ?_
    refine z_i2l 11 X dX9_cost_11 ?_
    refine z_lconst 12 0 X dX9_cost_12 (by decide) ?_
    refine z_ldc2 13 15 X dX9_cost_13 cl_9_177 ?_
    obtain ⟨u4, e5, hF⟩ := zbd hF
    refine z_callS 16 mv_X9_in ml_9_91 [] (zk_114 cA 0 a_this a_this_all a_this_kept a_this_history a_this_slots a_this_isSaved a_this_stream a_this_pad v_historyLong v_streamLong v_spot v_padLong v_padSpot v_readNumber g_all) (m_X9_in l D cA (i2.toInt64) 0 15 u4 e5) X dX9_cost_16 hw hl rfl rfl (Nat.le_of_ble_eq_true rfl) ⟨Nat.le_of_ble_eq_true rfl, Nat.le_of_ble_eq_true rfl⟩ ⟨Nat.zero_le _, Nat.zero_le _⟩ (fun H locs hw => ?_)
    refine z_if_eq 19 31 X dX9_cost_19 (by decide) (fun c6 => ?_) (fun c6 => ?_)
    · replace hF := zpos c6 hF
      refine z_bipush 31 (-2) X dX9_cost_31 (by decide) ?_
      cases hF
      exact z_iret 33 X dX9_cost_33 hw rfl rfl
    · replace hF := zneg c6 hF
      refine z_aload_n 22 X dX9_cost_22 hl 0 rfl ?_
      refine z_iload_n 23 X dX9_cost_23 hl 1 rfl ?_
      refine z_iload_n 24 X dX9_cost_24 hl 2 rfl ?_
      obtain ⟨u7, e8, hF⟩ := zbd hF
      refine z_callV 25 zc9 mv_X9_costOf ml_9_56 0 [] (zk_118 cA 0 a_this a_this_all a_this_kept a_this_history a_this_slots a_this_isSaved a_this_stream a_this_pad v_historyLong v_streamLong v_spot v_padLong v_padSpot v_readNumber g_all) (m_X9_costOf l D cA a_this a_this_all a_this_kept a_this_history a_this_slots a_this_isSaved a_this_stream a_this_pad v_historyLong v_streamLong v_spot v_padLong v_padSpot v_readNumber g_all i1 i2 u7 e8) X dX9_cost_25 hw hl rfl rfl rfl (Nat.le_of_ble_eq_true rfl) ⟨Nat.le_of_ble_eq_true rfl, Nat.le_of_ble_eq_true rfl⟩ ⟨Nat.zero_le _, Nat.zero_le _⟩ (fun H locs hw => ?_)
      refine z_goto 28 33 X dX9_cost_28 (by decide) ?_
      cases hF
      exact z_iret 33 X dX9_cost_33 hw rfl rfl
  · replace hF := zpos c3 hF
    refine z_iconst 8 (-1) X dX9_cost_8 (by decide) ?_
    cases hF
    exact z_iret 9 X dX9_cost_9 hw rfl rfl
theorem dX9_bitsWith_0 : decode cX9_bitsWith 0 = .ok (.aload_n 0, 1) := by decide +kernel
theorem dX9_bitsWith_1 : decode cX9_bitsWith 1 = .ok (.getfield 7, 3) := by decide +kernel
theorem dX9_bitsWith_4 : decode cX9_bitsWith 4 = .ok (.iload_n 1, 1) := by decide +kernel
theorem dX9_bitsWith_5 : decode cX9_bitsWith 5 = .ok (.iaload, 1) := by decide +kernel
theorem dX9_bitsWith_6 : decode cX9_bitsWith 6 = .ok (.istore_n 3, 1) := by decide +kernel
theorem dX9_bitsWith_7 : decode cX9_bitsWith 7 = .ok (.aload_n 0, 1) := by decide +kernel
theorem dX9_bitsWith_8 : decode cX9_bitsWith 8 = .ok (.getfield 7, 3) := by decide +kernel
theorem dX9_bitsWith_11 : decode cX9_bitsWith 11 = .ok (.iload_n 1, 1) := by decide +kernel
theorem dX9_bitsWith_12 : decode cX9_bitsWith 12 = .ok (.iload_n 2, 1) := by decide +kernel
theorem dX9_bitsWith_13 : decode cX9_bitsWith 13 = .ok (.iastore, 1) := by decide +kernel
theorem dX9_bitsWith_14 : decode cX9_bitsWith 14 = .ok (.aload_n 0, 1) := by decide +kernel
theorem dX9_bitsWith_15 : decode cX9_bitsWith 15 = .ok (.invokevirtual 117, 3) := by decide +kernel
theorem dX9_bitsWith_18 : decode cX9_bitsWith 18 = .ok (.istore 4, 2) := by decide +kernel
theorem dX9_bitsWith_20 : decode cX9_bitsWith 20 = .ok (.aload_n 0, 1) := by decide +kernel
theorem dX9_bitsWith_21 : decode cX9_bitsWith 21 = .ok (.getfield 7, 3) := by decide +kernel
theorem dX9_bitsWith_24 : decode cX9_bitsWith 24 = .ok (.iload_n 1, 1) := by decide +kernel
theorem dX9_bitsWith_25 : decode cX9_bitsWith 25 = .ok (.iload_n 3, 1) := by decide +kernel
theorem dX9_bitsWith_26 : decode cX9_bitsWith 26 = .ok (.iastore, 1) := by decide +kernel
theorem dX9_bitsWith_27 : decode cX9_bitsWith 27 = .ok (.iload 4, 2) := by decide +kernel
theorem dX9_bitsWith_29 : decode cX9_bitsWith 29 = .ok (.ireturn, 1) := by decide +kernel
set_option maxHeartbeats 4000000 in
set_option maxRecDepth 100000 in
theorem m_X9_bitsWith (l : Launch) (D : va_G) (cA : ClassId) (a_this a_this_all a_this_kept a_this_history a_this_slots a_this_isSaved a_this_stream a_this_pad : Nat) (v_historyLong : Int32) (v_streamLong : Int32) (v_spot : Int32) (v_padLong : Int32) (v_padSpot : Int32) (v_readNumber : Int32) (g_all : Ar) (i1 : Int32) (i2 : Int32) (out : Int32 × Ar) (hF : F_X9_bitsWith g_all i1 i2 = some out) : zM l D cA yX9_bitsWith cX9_bitsWith 5 (some .int) 7 155 [.ref a_this, .int i1, .int i2] (zw_36 cA 0 a_this a_this_all a_this_kept a_this_history a_this_slots a_this_isSaved a_this_stream a_this_pad v_historyLong v_streamLong v_spot v_padLong v_padSpot v_readNumber g_all) (zw_36 cA 0 a_this a_this_all a_this_kept a_this_history a_this_slots a_this_isSaved a_this_stream a_this_pad v_historyLong v_streamLong v_spot v_padLong v_padSpot v_readNumber out.2) (some (.int out.1)) := by
  refine z_body (by decide) (Nat.le_of_ble_eq_true rfl) ?_
  intro p e s m args below meth c ls H locs A X hl hw
  have hl : lv_has ls 5 [(0, .ref a_this), (1, .int i1), (2, .int i2)] := hl
  unfold F_X9_bitsWith at hF
  refine z_aload_n 0 X dX9_bitsWith_0 hl 0 rfl ?_
  refine z_get 1 zc9 0 0 fl_9_7 X dX9_bitsWith_1 hw rfl (by decide) rfl ?_
  refine z_iload_n 4 X dX9_bitsWith_4 hl 1 rfl ?_
  obtain ⟨gd1, hF⟩ := zgd hF
  refine z_iald 5 1 (g_all i1.toNatClampNeg) X dX9_bitsWith_5 hw rfl gd1 rfl ?_
  refine z_istore_n 6 [(3, .int (g_all i1.toNatClampNeg)), (0, .ref a_this), (1, .int i1), (2, .int i2)] X dX9_bitsWith_6 hl (by decide) rfl (fun ls hl => ?_)
  refine z_aload_n 7 X dX9_bitsWith_7 hl 1 rfl ?_
  refine z_get 8 zc9 0 0 fl_9_7 X dX9_bitsWith_8 hw rfl (by decide) rfl ?_
  refine z_iload_n 11 X dX9_bitsWith_11 hl 2 rfl ?_
  refine z_iload_n 12 X dX9_bitsWith_12 hl 3 rfl ?_
  obtain ⟨gd2, hF⟩ := zgd hF
  refine z_iast 13 1 (zw_36 cA 0 a_this a_this_all a_this_kept a_this_history a_this_slots a_this_isSaved a_this_stream a_this_pad v_historyLong v_streamLong v_spot v_padLong v_padSpot v_readNumber (upd g_all (i1.toNatClampNeg) i2)) X dX9_bitsWith_13 hw rfl gd2 rfl (fun H locs hw => ?_)
  refine z_aload_n 14 X dX9_bitsWith_14 hl 1 rfl ?_
  obtain ⟨u3, e4, hF⟩ := zbd hF
  refine z_callV 15 zc9 mv_X9_streamBits ml_9_117 0 [] (zk_118 cA 0 a_this a_this_all a_this_kept a_this_history a_this_slots a_this_isSaved a_this_stream a_this_pad v_historyLong v_streamLong v_spot v_padLong v_padSpot v_readNumber (upd g_all (i1.toNatClampNeg) i2)) (m_X9_streamBits l D cA a_this a_this_all a_this_kept a_this_history a_this_slots a_this_isSaved a_this_stream a_this_pad v_historyLong v_streamLong v_spot v_padLong v_padSpot v_readNumber (upd g_all (i1.toNatClampNeg) i2) u3 e4) X dX9_bitsWith_15 hw hl rfl rfl rfl (Nat.le_of_ble_eq_true rfl) ⟨Nat.le_of_ble_eq_true rfl, Nat.le_of_ble_eq_true rfl⟩ ⟨Nat.zero_le _, Nat.zero_le _⟩ (fun H locs hw => ?_)
  refine z_istore 18 [(4, .int u3), (3, .int (g_all i1.toNatClampNeg)), (0, .ref a_this), (1, .int i1), (2, .int i2)] X dX9_bitsWith_18 hl (by decide) rfl (fun ls hl => ?_)
  refine z_aload_n 20 X dX9_bitsWith_20 hl 2 rfl ?_
  refine z_get 21 zc9 0 0 fl_9_7 X dX9_bitsWith_21 hw rfl (by decide) rfl ?_
  refine z_iload_n 24 X dX9_bitsWith_24 hl 3 rfl ?_
  refine z_iload_n 25 X dX9_bitsWith_25 hl 1 rfl ?_
  obtain ⟨gd5, hF⟩ := zgd hF
  refine z_iast 26 1 (zw_36 cA 0 a_this a_this_all a_this_kept a_this_history a_this_slots a_this_isSaved a_this_stream a_this_pad v_historyLong v_streamLong v_spot v_padLong v_padSpot v_readNumber (upd (upd g_all (i1.toNatClampNeg) i2) (i1.toNatClampNeg) (g_all i1.toNatClampNeg))) X dX9_bitsWith_26 hw rfl gd5 rfl (fun H locs hw => ?_)
  refine z_iload 27 X dX9_bitsWith_27 hl 0 rfl ?_
  cases hF
  exact z_iret 29 X dX9_bitsWith_29 hw rfl rfl
theorem dX9_with_0 : decode cX9_with 0 = .ok (.iload_n 1, 1) := by decide +kernel
theorem dX9_with_1 : decode cX9_with 1 = .ok (.iload_n 2, 1) := by decide +kernel
theorem dX9_with_2 : decode cX9_with 2 = .ok (.invokestatic 99, 3) := by decide +kernel
theorem dX9_with_5 : decode cX9_with 5 = .ok (.ifCond .eq 12, 3) := by decide +kernel
theorem dX9_with_8 : decode cX9_with 8 = .ok (.aload_n 0, 1) := by decide +kernel
theorem dX9_with_9 : decode cX9_with 9 = .ok (.iload_n 1, 1) := by decide +kernel
theorem dX9_with_10 : decode cX9_with 10 = .ok (.iload_n 2, 1) := by decide +kernel
theorem dX9_with_11 : decode cX9_with 11 = .ok (.invokevirtual 179, 3) := by decide +kernel
theorem dX9_with_14 : decode cX9_with 14 = .ok (.goto 5, 3) := by decide +kernel
theorem dX9_with_17 : decode cX9_with 17 = .ok (.bipush (-2), 2) := by decide +kernel
theorem dX9_with_19 : decode cX9_with 19 = .ok (.ireturn, 1) := by decide +kernel
set_option maxHeartbeats 4000000 in
set_option maxRecDepth 100000 in
theorem zk_124 (cA : ClassId) (n : Nat) (a_this a_this_all a_this_kept a_this_history a_this_slots a_this_isSaved a_this_stream a_this_pad : Nat) (v_historyLong : Int32) (v_streamLong : Int32) (v_spot : Int32) (v_padLong : Int32) (v_padSpot : Int32) (v_readNumber : Int32) (g_all : Ar) (g_all' : Ar) : zCW (zw_36 cA n a_this a_this_all a_this_kept a_this_history a_this_slots a_this_isSaved a_this_stream a_this_pad v_historyLong v_streamLong v_spot v_padLong v_padSpot v_readNumber g_all) (zw_36 cA n a_this a_this_all a_this_kept a_this_history a_this_slots a_this_isSaved a_this_stream a_this_pad v_historyLong v_streamLong v_spot v_padLong v_padSpot v_readNumber g_all') [0, 1] [] (zw_36 cA 0 a_this a_this_all a_this_kept a_this_history a_this_slots a_this_isSaved a_this_stream a_this_pad v_historyLong v_streamLong v_spot v_padLong v_padSpot v_readNumber g_all) (zw_36 cA 0 a_this a_this_all a_this_kept a_this_history a_this_slots a_this_isSaved a_this_stream a_this_pad v_historyLong v_streamLong v_spot v_padLong v_padSpot v_readNumber g_all') := ⟨rfl, (show (zw_36 cA 0 a_this a_this_all a_this_kept a_this_history a_this_slots a_this_isSaved a_this_stream a_this_pad v_historyLong v_streamLong v_spot v_padLong v_padSpot v_readNumber g_all').map Prod.fst = ([a_this, a_this_all] : List Nat) from rfl).trans (show (zw_36 cA 0 a_this a_this_all a_this_kept a_this_history a_this_slots a_this_isSaved a_this_stream a_this_pad v_historyLong v_streamLong v_spot v_padLong v_padSpot v_readNumber g_all).map Prod.fst = ([a_this, a_this_all] : List Nat) from rfl).symm, by decide +kernel, (show (zw_36 cA n a_this a_this_all a_this_kept a_this_history a_this_slots a_this_isSaved a_this_stream a_this_pad v_historyLong v_streamLong v_spot v_padLong v_padSpot v_readNumber g_all').map Prod.fst = ([a_this, a_this_all] : List Nat) from rfl).trans (show (zw_36 cA n a_this a_this_all a_this_kept a_this_history a_this_slots a_this_isSaved a_this_stream a_this_pad v_historyLong v_streamLong v_spot v_padLong v_padSpot v_readNumber g_all).map Prod.fst = ([a_this, a_this_all] : List Nat) from rfl).symm, rfl, rfl, by decide +kernel, rfl⟩
set_option maxHeartbeats 4000000 in
set_option maxRecDepth 100000 in
theorem m_X9_with (l : Launch) (D : va_G) (cA : ClassId) (a_this a_this_all a_this_kept a_this_history a_this_slots a_this_isSaved a_this_stream a_this_pad : Nat) (v_historyLong : Int32) (v_streamLong : Int32) (v_spot : Int32) (v_padLong : Int32) (v_padSpot : Int32) (v_readNumber : Int32) (g_all : Ar) (i1 : Int32) (i2 : Int32) (out : Int32 × Ar) (hF : F_X9_with g_all i1 i2 = some out) : zM l D cA yX9_with cX9_with 3 (some .int) 8 179 [.ref a_this, .int i1, .int i2] (zw_36 cA 0 a_this a_this_all a_this_kept a_this_history a_this_slots a_this_isSaved a_this_stream a_this_pad v_historyLong v_streamLong v_spot v_padLong v_padSpot v_readNumber g_all) (zw_36 cA 0 a_this a_this_all a_this_kept a_this_history a_this_slots a_this_isSaved a_this_stream a_this_pad v_historyLong v_streamLong v_spot v_padLong v_padSpot v_readNumber out.2) (some (.int out.1)) := by
  refine z_body (by decide) (Nat.le_of_ble_eq_true rfl) ?_
  intro p e s m args below meth c ls H locs A X hl hw
  have hl : lv_has ls 3 [(0, .ref a_this), (1, .int i1), (2, .int i2)] := hl
  unfold F_X9_with at hF
  refine z_iload_n 0 X dX9_with_0 hl 1 rfl ?_
  refine z_iload_n 1 X dX9_with_1 hl 2 rfl ?_
  obtain ⟨u1, e2, hF⟩ := zbd hF
  refine z_callS 2 mv_X9_isSetting ml_9_99 [] (zk_114 cA 0 a_this a_this_all a_this_kept a_this_history a_this_slots a_this_isSaved a_this_stream a_this_pad v_historyLong v_streamLong v_spot v_padLong v_padSpot v_readNumber g_all) (m_X9_isSetting l D cA i1 i2 u1 e2) X dX9_with_2 hw hl rfl rfl (Nat.le_of_ble_eq_true rfl) ⟨Nat.le_of_ble_eq_true rfl, Nat.le_of_ble_eq_true rfl⟩ ⟨Nat.zero_le _, Nat.zero_le _⟩ (fun H locs hw => ?_)
  refine z_if_eq 5 17 X dX9_with_5 (by decide) (fun c3 => ?_) (fun c3 => ?_)
  · replace hF := zpos c3 hF
    refine z_bipush 17 (-2) X dX9_with_17 (by decide) ?_
    cases hF
    exact z_iret 19 X dX9_with_19 hw rfl rfl
  · replace hF := zneg c3 hF
    refine z_aload_n 8 X dX9_with_8 hl 0 rfl ?_
    refine z_iload_n 9 X dX9_with_9 hl 1 rfl ?_
    refine z_iload_n 10 X dX9_with_10 hl 2 rfl ?_
    obtain ⟨u4, e5, hF⟩ := zbd hF
    refine z_callV 11 zc9 mv_X9_bitsWith ml_9_179 0 [] (zk_124 cA 0 a_this a_this_all a_this_kept a_this_history a_this_slots a_this_isSaved a_this_stream a_this_pad v_historyLong v_streamLong v_spot v_padLong v_padSpot v_readNumber g_all u4.2) (m_X9_bitsWith l D cA a_this a_this_all a_this_kept a_this_history a_this_slots a_this_isSaved a_this_stream a_this_pad v_historyLong v_streamLong v_spot v_padLong v_padSpot v_readNumber g_all i1 i2 u4 e5) X dX9_with_11 hw hl rfl rfl rfl (Nat.le_of_ble_eq_true rfl) ⟨Nat.le_of_ble_eq_true rfl, Nat.le_of_ble_eq_true rfl⟩ ⟨Nat.zero_le _, Nat.zero_le _⟩ (fun H locs hw => ?_)
    refine z_goto 14 19 X dX9_with_14 (by decide) ?_
    cases hF
    exact z_iret 19 X dX9_with_19 hw rfl rfl
theorem dX9_best_0 : decode cX9_best 0 = .ok (.iload_n 1, 1) := by decide +kernel
theorem dX9_best_1 : decode cX9_best 1 = .ok (.i2l, 1) := by decide +kernel
theorem dX9_best_2 : decode cX9_best 2 = .ok (.lconst 0, 1) := by decide +kernel
theorem dX9_best_3 : decode cX9_best 3 = .ok (.lconst 1, 1) := by decide +kernel
theorem dX9_best_4 : decode cX9_best 4 = .ok (.invokestatic 91, 3) := by decide +kernel
theorem dX9_best_7 : decode cX9_best 7 = .ok (.ifCond .ne 6, 3) := by decide +kernel
theorem dX9_best_10 : decode cX9_best 10 = .ok (.bipush (-2), 2) := by decide +kernel
theorem dX9_best_12 : decode cX9_best 12 = .ok (.ireturn, 1) := by decide +kernel
theorem dX9_best_13 : decode cX9_best 13 = .ok (.bipush 16, 2) := by decide +kernel
theorem dX9_best_15 : decode cX9_best 15 = .ok (.istore_n 2, 1) := by decide +kernel
theorem dX9_best_16 : decode cX9_best 16 = .ok (.aload_n 0, 1) := by decide +kernel
theorem dX9_best_17 : decode cX9_best 17 = .ok (.iconst 0, 1) := by decide +kernel
theorem dX9_best_18 : decode cX9_best 18 = .ok (.bipush 16, 2) := by decide +kernel
theorem dX9_best_20 : decode cX9_best 20 = .ok (.invokevirtual 179, 3) := by decide +kernel
theorem dX9_best_23 : decode cX9_best 23 = .ok (.istore_n 3, 1) := by decide +kernel
theorem dX9_best_24 : decode cX9_best 24 = .ok (.bipush 15, 2) := by decide +kernel
theorem dX9_best_26 : decode cX9_best 26 = .ok (.istore 4, 2) := by decide +kernel
theorem dX9_best_28 : decode cX9_best 28 = .ok (.iload 4, 2) := by decide +kernel
theorem dX9_best_30 : decode cX9_best 30 = .ok (.ifCond .le 44, 3) := by decide +kernel
theorem dX9_best_33 : decode cX9_best 33 = .ok (.aload_n 0, 1) := by decide +kernel
theorem dX9_best_34 : decode cX9_best 34 = .ok (.iconst 0, 1) := by decide +kernel
theorem dX9_best_35 : decode cX9_best 35 = .ok (.iload 4, 2) := by decide +kernel
theorem dX9_best_37 : decode cX9_best 37 = .ok (.invokevirtual 179, 3) := by decide +kernel
theorem dX9_best_40 : decode cX9_best 40 = .ok (.istore 5, 2) := by decide +kernel
theorem dX9_best_42 : decode cX9_best 42 = .ok (.iload 5, 2) := by decide +kernel
theorem dX9_best_44 : decode cX9_best 44 = .ok (.iload_n 3, 1) := by decide +kernel
theorem dX9_best_45 : decode cX9_best 45 = .ok (.if_icmp .ge 8, 3) := by decide +kernel
theorem dX9_best_48 : decode cX9_best 48 = .ok (.iload 4, 2) := by decide +kernel
theorem dX9_best_50 : decode cX9_best 50 = .ok (.goto 4, 3) := by decide +kernel
theorem dX9_best_53 : decode cX9_best 53 = .ok (.iload_n 2, 1) := by decide +kernel
theorem dX9_best_54 : decode cX9_best 54 = .ok (.istore_n 2, 1) := by decide +kernel
theorem dX9_best_55 : decode cX9_best 55 = .ok (.iload 5, 2) := by decide +kernel
theorem dX9_best_57 : decode cX9_best 57 = .ok (.iload_n 3, 1) := by decide +kernel
theorem dX9_best_58 : decode cX9_best 58 = .ok (.if_icmp .ge 8, 3) := by decide +kernel
theorem dX9_best_61 : decode cX9_best 61 = .ok (.iload 5, 2) := by decide +kernel
theorem dX9_best_63 : decode cX9_best 63 = .ok (.goto 4, 3) := by decide +kernel
theorem dX9_best_66 : decode cX9_best 66 = .ok (.iload_n 3, 1) := by decide +kernel
theorem dX9_best_67 : decode cX9_best 67 = .ok (.istore_n 3, 1) := by decide +kernel
theorem dX9_best_68 : decode cX9_best 68 = .ok (.iinc 4 (-1), 3) := by decide +kernel
theorem dX9_best_71 : decode cX9_best 71 = .ok (.goto (-43), 3) := by decide +kernel
theorem dX9_best_74 : decode cX9_best 74 = .ok (.iload_n 1, 1) := by decide +kernel
theorem dX9_best_75 : decode cX9_best 75 = .ok (.ifCond .ne 7, 3) := by decide +kernel
theorem dX9_best_78 : decode cX9_best 78 = .ok (.iload_n 2, 1) := by decide +kernel
theorem dX9_best_79 : decode cX9_best 79 = .ok (.goto 4, 3) := by decide +kernel
theorem dX9_best_82 : decode cX9_best 82 = .ok (.iload_n 3, 1) := by decide +kernel
theorem dX9_best_83 : decode cX9_best 83 = .ok (.ireturn, 1) := by decide +kernel
set_option maxHeartbeats 4000000 in
set_option maxRecDepth 100000 in
theorem l_X9_best_28 (l : Launch) (D : va_G) (cA : ClassId) (a_this a_this_all a_this_kept a_this_history a_this_slots a_this_isSaved a_this_stream a_this_pad : Nat) (v_historyLong : Int32) (v_streamLong : Int32) (v_spot : Int32) (v_padLong : Int32) (v_padSpot : Int32) (v_readNumber : Int32) (i1 : Int32) (out : Int32 × Ar) {p : Program} {e : Env} {s : State} {m : MethodId} {args : Array Value} {below : List Frame} {meth : Method} {c : Code} {A : Nat → Prop} (X : zX D cA p s m args meth c cX9_best 6 RX9 (some .int)) (k : Ar → Int32 → Int32 → Option (Int32 × Ar)) (hk : ∀ (g_all : Ar) (i2 : Int32) (i3 : Int32) (H : Heap) (locs : List Loc) (ls : Array Slot), zH D A s (zw_36 cA 0 a_this a_this_all a_this_kept a_this_history a_this_slots a_this_isSaved a_this_stream a_this_pad v_historyLong v_streamLong v_spot v_padLong v_padSpot v_readNumber g_all) H locs → lv_has ls 6 [(1, .int i1), (2, .int i2), (3, .int i3)] → k g_all i2 i3 = some out → W p l e (zR 8 179) s m args below meth c H locs 0 0 (MQ below (zQ D (zw_36 cA 0 a_this a_this_all a_this_kept a_this_history a_this_slots a_this_isSaved a_this_stream a_this_pad v_historyLong v_streamLong v_spot v_padLong v_padSpot v_readNumber out.2) (some (.int out.1)) A) args s 0 0 A) (F0 m 74 ls [])) :
    ∀ (fuel : Nat) (g_all : Ar) (i2 : Int32) (i3 : Int32) (i4 : Int32) (H : Heap) (locs : List Loc) (ls : Array Slot), zH D A s (zw_36 cA 0 a_this a_this_all a_this_kept a_this_history a_this_slots a_this_isSaved a_this_stream a_this_pad v_historyLong v_streamLong v_spot v_padLong v_padSpot v_readNumber g_all) H locs → lv_has ls 6 [(0, .ref a_this), (1, .int i1), (2, .int i2), (3, .int i3), (4, .int i4)] → F_X9_best_L28 k fuel g_all i2 i3 i4 = some out → W p l e (zR 8 179) s m args below meth c H locs 0 0 (MQ below (zQ D (zw_36 cA 0 a_this a_this_all a_this_kept a_this_history a_this_slots a_this_isSaved a_this_stream a_this_pad v_historyLong v_streamLong v_spot v_padLong v_padSpot v_readNumber out.2) (some (.int out.1)) A) args s 0 0 A) (F0 m 28 ls []) := by
  intro fuel
  induction fuel with
  | zero => intro g_all i2 i3 i4 H locs ls hw hl hF; exact nomatch (show (none : Option (Int32 × Ar)) = some out from hF)
  | succ fuel ih =>
    intro g_all i2 i3 i4 H locs ls hw hl hF
    rw [F_X9_best_L28] at hF
    refine z_iload 28 X dX9_best_28 hl 4 rfl ?_
    refine z_if_le 30 74 X dX9_best_30 (by decide) (fun c6 => ?_) (fun c6 => ?_)
    · replace hF := zpos c6 hF
      exact hk g_all i2 i3 H locs ls hw (lv_sub hl [1, 2, 3] rfl) hF
    · replace hF := zneg c6 hF
      refine z_aload_n 33 X dX9_best_33 hl 0 rfl ?_
      refine z_iconst 34 0 X dX9_best_34 (by decide) ?_
      refine z_iload 35 X dX9_best_35 hl 4 rfl ?_
      obtain ⟨u7, e8, hF⟩ := zbd hF
      refine z_callV 37 zc9 mv_X9_bitsWith ml_9_179 0 [] (zk_124 cA 0 a_this a_this_all a_this_kept a_this_history a_this_slots a_this_isSaved a_this_stream a_this_pad v_historyLong v_streamLong v_spot v_padLong v_padSpot v_readNumber g_all u7.2) (m_X9_bitsWith l D cA a_this a_this_all a_this_kept a_this_history a_this_slots a_this_isSaved a_this_stream a_this_pad v_historyLong v_streamLong v_spot v_padLong v_padSpot v_readNumber g_all 0 i4 u7 e8) X dX9_best_37 hw hl rfl rfl rfl (Nat.le_of_ble_eq_true rfl) ⟨Nat.le_of_ble_eq_true rfl, Nat.le_of_ble_eq_true rfl⟩ ⟨Nat.zero_le _, Nat.zero_le _⟩ (fun H locs hw => ?_)
      refine z_istore 40 [(5, .int u7.1), (0, .ref a_this), (1, .int i1), (2, .int i2), (3, .int i3), (4, .int i4)] X dX9_best_40 hl (by decide) rfl (fun ls hl => ?_)
      refine z_iload 42 X dX9_best_42 hl 0 rfl ?_
      refine z_iload_n 44 X dX9_best_44 hl 4 rfl ?_
      refine z_icmp_ge 45 53 X dX9_best_45 (by decide) (fun c9 => ?_) (fun c9 => ?_)
      · replace hF := zpos c9 hF
        refine z_iload_n 53 X dX9_best_53 hl 3 rfl ?_
        refine z_istore_n 54 [(2, .int i2), (5, .int u7.1), (0, .ref a_this), (1, .int i1), (3, .int i3), (4, .int i4)] X dX9_best_54 hl (by decide) rfl (fun ls hl => ?_)
        refine z_iload 55 X dX9_best_55 hl 1 rfl ?_
        refine z_iload_n 57 X dX9_best_57 hl 4 rfl ?_
        refine z_icmp_ge 58 66 X dX9_best_58 (by decide) (fun c10 => ?_) (fun c10 => ?_)
        · replace hF := zpos c10 hF
          refine z_iload_n 66 X dX9_best_66 hl 4 rfl ?_
          refine z_istore_n 67 [(3, .int i3), (2, .int i2), (5, .int u7.1), (0, .ref a_this), (1, .int i1), (4, .int i4)] X dX9_best_67 hl (by decide) rfl (fun ls hl => ?_)
          refine z_iinc2 68 (-1) [(4, .int (i4 + (-1))), (3, .int i3), (2, .int i2), (5, .int u7.1), (0, .ref a_this), (1, .int i1)] X dX9_best_68 hl 5 rfl (by decide) (by decide) rfl (fun ls hl => ?_)
          refine z_goto 71 28 X dX9_best_71 (by decide) ?_
          exact ih u7.2 i2 i3 (i4 + (-1)) H locs ls hw (lv_sub hl [4, 5, 2, 1, 0] rfl) hF
        · replace hF := zneg c10 hF
          refine z_iload 61 X dX9_best_61 hl 1 rfl ?_
          refine z_goto 63 67 X dX9_best_63 (by decide) ?_
          refine z_istore_n 67 [(3, .int u7.1), (2, .int i2), (5, .int u7.1), (0, .ref a_this), (1, .int i1), (4, .int i4)] X dX9_best_67 hl (by decide) rfl (fun ls hl => ?_)
          refine z_iinc2 68 (-1) [(4, .int (i4 + (-1))), (3, .int u7.1), (2, .int i2), (5, .int u7.1), (0, .ref a_this), (1, .int i1)] X dX9_best_68 hl 5 rfl (by decide) (by decide) rfl (fun ls hl => ?_)
          refine z_goto 71 28 X dX9_best_71 (by decide) ?_
          exact ih u7.2 i2 u7.1 (i4 + (-1)) H locs ls hw (lv_sub hl [4, 5, 2, 1, 0] rfl) hF
      · replace hF := zneg c9 hF
        refine z_iload 48 X dX9_best_48 hl 5 rfl ?_
        refine z_goto 50 54 X dX9_best_50 (by decide) ?_
        refine z_istore_n 54 [(2, .int i4), (5, .int u7.1), (0, .ref a_this), (1, .int i1), (3, .int i3), (4, .int i4)] X dX9_best_54 hl (by decide) rfl (fun ls hl => ?_)
        refine z_iload 55 X dX9_best_55 hl 1 rfl ?_
        refine z_iload_n 57 X dX9_best_57 hl 4 rfl ?_
        refine z_icmp_ge 58 66 X dX9_best_58 (by decide) (fun c11 => ?_) (fun c11 => ?_)
        · replace hF := zpos c11 hF
          refine z_iload_n 66 X dX9_best_66 hl 4 rfl ?_
          refine z_istore_n 67 [(3, .int i3), (2, .int i4), (5, .int u7.1), (0, .ref a_this), (1, .int i1), (4, .int i4)] X dX9_best_67 hl (by decide) rfl (fun ls hl => ?_)
          refine z_iinc2 68 (-1) [(4, .int (i4 + (-1))), (3, .int i3), (2, .int i4), (5, .int u7.1), (0, .ref a_this), (1, .int i1)] X dX9_best_68 hl 5 rfl (by decide) (by decide) rfl (fun ls hl => ?_)
          refine z_goto 71 28 X dX9_best_71 (by decide) ?_
          exact ih u7.2 i4 i3 (i4 + (-1)) H locs ls hw (lv_sub hl [4, 5, 2, 1, 0] rfl) hF
        · replace hF := zneg c11 hF
          refine z_iload 61 X dX9_best_61 hl 1 rfl ?_
          refine z_goto 63 67 X dX9_best_63 (by decide) ?_
          refine z_istore_n 67 [(3, .int u7.1), (2, .int i4), (5, .int u7.1), (0, .ref a_this), (1, .int i1), (4, .int i4)] X dX9_best_67 hl (by decide) rfl (fun ls hl => ?_)
          refine z_iinc2 68 (-1) [(4, .int (i4 + (-1))), (3, .int u7.1), (2, .int i4), (5, .int u7.1), (0, .ref a_this), (1, .int i1)] X dX9_best_68 hl 5 rfl (by decide) (by decide) rfl (fun ls hl => ?_)
          refine z_goto 71 28 X dX9_best_71 (by decide) ?_
          exact ih u7.2 i4 u7.1 (i4 + (-1)) H locs ls hw (lv_sub hl [4, 5, 2, 1, 0] rfl) hF
set_option maxHeartbeats 4000000 in
set_option maxRecDepth 100000 in
theorem m_X9_best (l : Launch) (D : va_G) (cA : ClassId) (a_this a_this_all a_this_kept a_this_history a_this_slots a_this_isSaved a_this_stream a_this_pad : Nat) (v_historyLong : Int32) (v_streamLong : Int32) (v_spot : Int32) (v_padLong : Int32) (v_padSpot : Int32) (v_readNumber : Int32) (g_all : Ar) (i1 : Int32) (out : Int32 × Ar) (hF : F_X9_best g_all i1 = some out) : zM l D cA yX9_best cX9_best 6 (some .int) 8 179 [.ref a_this, .int i1] (zw_36 cA 0 a_this a_this_all a_this_kept a_this_history a_this_slots a_this_isSaved a_this_stream a_this_pad v_historyLong v_streamLong v_spot v_padLong v_padSpot v_readNumber g_all) (zw_36 cA 0 a_this a_this_all a_this_kept a_this_history a_this_slots a_this_isSaved a_this_stream a_this_pad v_historyLong v_streamLong v_spot v_padLong v_padSpot v_readNumber out.2) (some (.int out.1)) := by
  refine z_body (by decide) (Nat.le_of_ble_eq_true rfl) ?_
  intro p e s m args below meth c ls H locs A X hl hw
  have hl : lv_has ls 6 [(0, .ref a_this), (1, .int i1)] := hl
  unfold F_X9_best at hF
  refine z_iload_n 0 X dX9_best_0 hl 1 rfl ?_
  refine z_i2l 1 X dX9_best_1 ?_
  refine z_lconst 2 0 X dX9_best_2 (by decide) ?_
  refine z_lconst 3 1 X dX9_best_3 (by decide) ?_
  obtain ⟨u1, e2, hF⟩ := zbd hF
  refine z_callS 4 mv_X9_in ml_9_91 [] (zk_114 cA 0 a_this a_this_all a_this_kept a_this_history a_this_slots a_this_isSaved a_this_stream a_this_pad v_historyLong v_streamLong v_spot v_padLong v_padSpot v_readNumber g_all) (m_X9_in l D cA (i1.toInt64) 0 1 u1 e2) X dX9_best_4 hw hl rfl rfl (Nat.le_of_ble_eq_true rfl) ⟨Nat.le_of_ble_eq_true rfl, Nat.le_of_ble_eq_true rfl⟩ ⟨Nat.zero_le _, Nat.zero_le _⟩ (fun H locs hw => ?_)
  refine z_if_ne 7 13 X dX9_best_7 (by decide) (fun c3 => ?_) (fun c3 => ?_)
  · replace hF := zneg c3 hF
    refine z_bipush 13 16 X dX9_best_13 (by decide) ?_
    refine z_istore_n 15 [(2, .int 16), (0, .ref a_this), (1, .int i1)] X dX9_best_15 hl (by decide) rfl (fun ls hl => ?_)
    refine z_aload_n 16 X dX9_best_16 hl 1 rfl ?_
    refine z_iconst 17 0 X dX9_best_17 (by decide) ?_
    refine z_bipush 18 16 X dX9_best_18 (by decide) ?_
    obtain ⟨u4, e5, hF⟩ := zbd hF
    refine z_callV 20 zc9 mv_X9_bitsWith ml_9_179 0 [] (zk_124 cA 0 a_this a_this_all a_this_kept a_this_history a_this_slots a_this_isSaved a_this_stream a_this_pad v_historyLong v_streamLong v_spot v_padLong v_padSpot v_readNumber g_all u4.2) (m_X9_bitsWith l D cA a_this a_this_all a_this_kept a_this_history a_this_slots a_this_isSaved a_this_stream a_this_pad v_historyLong v_streamLong v_spot v_padLong v_padSpot v_readNumber g_all 0 16 u4 e5) X dX9_best_20 hw hl rfl rfl rfl (Nat.le_of_ble_eq_true rfl) ⟨Nat.le_of_ble_eq_true rfl, Nat.le_of_ble_eq_true rfl⟩ ⟨Nat.zero_le _, Nat.zero_le _⟩ (fun H locs hw => ?_)
    refine z_istore_n 23 [(3, .int u4.1), (2, .int 16), (0, .ref a_this), (1, .int i1)] X dX9_best_23 hl (by decide) rfl (fun ls hl => ?_)
    refine z_bipush 24 15 X dX9_best_24 (by decide) ?_
    refine z_istore 26 [(4, .int 15), (3, .int u4.1), (2, .int 16), (0, .ref a_this), (1, .int i1)] X dX9_best_26 hl (by decide) rfl (fun ls hl => ?_)
    refine l_X9_best_28 l D cA a_this a_this_all a_this_kept a_this_history a_this_slots a_this_isSaved a_this_stream a_this_pad v_historyLong v_streamLong v_spot v_padLong v_padSpot v_readNumber i1 out X _ (fun g_all_12 i2_13 i3_14 H locs ls hw hl hF => ?_) zFuel u4.2 16 u4.1 15 H locs ls hw (lv_sub hl [3, 4, 2, 1, 0] rfl) hF
    refine z_iload_n 74 X dX9_best_74 hl 0 rfl ?_
    refine z_if_ne 75 82 X dX9_best_75 (by decide) (fun c15 => ?_) (fun c15 => ?_)
    · replace hF := zneg c15 hF
      refine z_iload_n 82 X dX9_best_82 hl 2 rfl ?_
      cases hF
      exact z_iret 83 X dX9_best_83 hw rfl rfl
    · replace hF := zpos c15 hF
      refine z_iload_n 78 X dX9_best_78 hl 1 rfl ?_
      refine z_goto 79 83 X dX9_best_79 (by decide) ?_
      cases hF
      exact z_iret 83 X dX9_best_83 hw rfl rfl
  · replace hF := zpos c3 hF
    refine z_bipush 10 (-2) X dX9_best_10 (by decide) ?_
    cases hF
    exact z_iret 12 X dX9_best_12 hw rfl rfl
theorem dX9_reads_0 : decode cX9_reads 0 = .ok (.iconst 0, 1) := by decide +kernel
theorem dX9_reads_1 : decode cX9_reads 1 = .ok (.istore_n 2, 1) := by decide +kernel
theorem dX9_reads_2 : decode cX9_reads 2 = .ok (.iconst 0, 1) := by decide +kernel
theorem dX9_reads_3 : decode cX9_reads 3 = .ok (.istore_n 3, 1) := by decide +kernel
theorem dX9_reads_4 : decode cX9_reads 4 = .ok (.iload_n 3, 1) := by decide +kernel
theorem dX9_reads_5 : decode cX9_reads 5 = .ok (.iload_n 1, 1) := by decide +kernel
theorem dX9_reads_6 : decode cX9_reads 6 = .ok (.if_icmp .ge 33, 3) := by decide +kernel
theorem dX9_reads_9 : decode cX9_reads 9 = .ok (.iconst 2, 1) := by decide +kernel
theorem dX9_reads_10 : decode cX9_reads 10 = .ok (.iload_n 2, 1) := by decide +kernel
theorem dX9_reads_11 : decode cX9_reads 11 = .ok (.imul, 1) := by decide +kernel
theorem dX9_reads_12 : decode cX9_reads 12 = .ok (.aload_n 0, 1) := by decide +kernel
theorem dX9_reads_13 : decode cX9_reads 13 = .ok (.getfield 25, 3) := by decide +kernel
theorem dX9_reads_16 : decode cX9_reads 16 = .ok (.aload_n 0, 1) := by decide +kernel
theorem dX9_reads_17 : decode cX9_reads 17 = .ok (.getfield 83, 3) := by decide +kernel
theorem dX9_reads_20 : decode cX9_reads 20 = .ok (.iaload, 1) := by decide +kernel
theorem dX9_reads_21 : decode cX9_reads 21 = .ok (.iadd, 1) := by decide +kernel
theorem dX9_reads_22 : decode cX9_reads 22 = .ok (.istore_n 2, 1) := by decide +kernel
theorem dX9_reads_23 : decode cX9_reads 23 = .ok (.aload_n 0, 1) := by decide +kernel
theorem dX9_reads_24 : decode cX9_reads 24 = .ok (.dup, 1) := by decide +kernel
theorem dX9_reads_25 : decode cX9_reads 25 = .ok (.getfield 83, 3) := by decide +kernel
theorem dX9_reads_28 : decode cX9_reads 28 = .ok (.iconst 1, 1) := by decide +kernel
theorem dX9_reads_29 : decode cX9_reads 29 = .ok (.iadd, 1) := by decide +kernel
theorem dX9_reads_30 : decode cX9_reads 30 = .ok (.putfield 83, 3) := by decide +kernel
theorem dX9_reads_33 : decode cX9_reads 33 = .ok (.iinc 3 1, 3) := by decide +kernel
theorem dX9_reads_36 : decode cX9_reads 36 = .ok (.goto (-32), 3) := by decide +kernel
theorem dX9_reads_39 : decode cX9_reads 39 = .ok (.iload_n 2, 1) := by decide +kernel
theorem dX9_reads_40 : decode cX9_reads 40 = .ok (.ireturn, 1) := by decide +kernel
set_option maxHeartbeats 4000000 in
set_option maxRecDepth 100000 in
theorem l_X9_reads_4 (l : Launch) (D : va_G) (cA : ClassId) (a_this a_this_all a_this_kept a_this_history a_this_slots a_this_isSaved a_this_stream a_this_pad : Nat) (v_historyLong : Int32) (v_streamLong : Int32) (v_padLong : Int32) (v_padSpot : Int32) (v_readNumber : Int32) (g_stream : Ar) (i1 : Int32) (out : Int32 × Int32) {p : Program} {e : Env} {s : State} {m : MethodId} {args : Array Value} {below : List Frame} {meth : Method} {c : Code} {A : Nat → Prop} (X : zX D cA p s m args meth c cX9_reads 4 RX9 (some .int)) (k : Int32 → Int32 → Option (Int32 × Int32)) (hk : ∀ (v_spot : Int32) (i2 : Int32) (H : Heap) (locs : List Loc) (ls : Array Slot), zH D A s (zw_39 cA 0 a_this a_this_all a_this_kept a_this_history a_this_slots a_this_isSaved a_this_stream a_this_pad v_historyLong v_streamLong v_spot v_padLong v_padSpot v_readNumber g_stream) H locs → lv_has ls 4 [(2, .int i2)] → k v_spot i2 = some out → W p l e (zR 0 0) s m args below meth c H locs 0 0 (MQ below (zQ D (zw_39 cA 0 a_this a_this_all a_this_kept a_this_history a_this_slots a_this_isSaved a_this_stream a_this_pad v_historyLong v_streamLong out.2 v_padLong v_padSpot v_readNumber g_stream) (some (.int out.1)) A) args s 0 0 A) (F0 m 39 ls [])) :
    ∀ (fuel : Nat) (v_spot : Int32) (i2 : Int32) (i3 : Int32) (H : Heap) (locs : List Loc) (ls : Array Slot), zH D A s (zw_39 cA 0 a_this a_this_all a_this_kept a_this_history a_this_slots a_this_isSaved a_this_stream a_this_pad v_historyLong v_streamLong v_spot v_padLong v_padSpot v_readNumber g_stream) H locs → lv_has ls 4 [(0, .ref a_this), (1, .int i1), (2, .int i2), (3, .int i3)] → F_X9_reads_L4 g_stream i1 k fuel v_spot i2 i3 = some out → W p l e (zR 0 0) s m args below meth c H locs 0 0 (MQ below (zQ D (zw_39 cA 0 a_this a_this_all a_this_kept a_this_history a_this_slots a_this_isSaved a_this_stream a_this_pad v_historyLong v_streamLong out.2 v_padLong v_padSpot v_readNumber g_stream) (some (.int out.1)) A) args s 0 0 A) (F0 m 4 ls []) := by
  intro fuel
  induction fuel with
  | zero => intro v_spot i2 i3 H locs ls hw hl hF; exact nomatch (show (none : Option (Int32 × Int32)) = some out from hF)
  | succ fuel ih =>
    intro v_spot i2 i3 H locs ls hw hl hF
    rw [F_X9_reads_L4] at hF
    refine z_iload_n 4 X dX9_reads_4 hl 3 rfl ?_
    refine z_iload_n 5 X dX9_reads_5 hl 1 rfl ?_
    refine z_icmp_ge 6 39 X dX9_reads_6 (by decide) (fun c1 => ?_) (fun c1 => ?_)
    · replace hF := zpos c1 hF
      exact hk v_spot i2 H locs ls hw (lv_sub hl [2] rfl) hF
    · replace hF := zneg c1 hF
      refine z_iconst 9 2 X dX9_reads_9 (by decide) ?_
      refine z_iload_n 10 X dX9_reads_10 hl 2 rfl ?_
      refine z_imul 11 X dX9_reads_11 ?_
      refine z_aload_n 12 X dX9_reads_12 hl 0 rfl ?_
      refine z_get 13 zc9 0 6 fl_9_25 X dX9_reads_13 hw rfl (by decide) rfl ?_
      refine z_aload_n 16 X dX9_reads_16 hl 0 rfl ?_
      refine z_get 17 zc9 0 8 fl_9_83 X dX9_reads_17 hw rfl (by decide) rfl ?_
      obtain ⟨gd2, hF⟩ := zgd hF
      refine z_iald 20 1 (g_stream v_spot.toNatClampNeg) X dX9_reads_20 hw rfl gd2 rfl ?_
      refine z_iadd 21 X dX9_reads_21 ?_
      refine z_istore_n 22 [(2, .int ((2 * i2) + (g_stream v_spot.toNatClampNeg))), (0, .ref a_this), (1, .int i1), (3, .int i3)] X dX9_reads_22 hl (by decide) rfl (fun ls hl => ?_)
      refine z_aload_n 23 X dX9_reads_23 hl 1 rfl ?_
      refine z_dup 24 X dX9_reads_24 rfl ?_
      refine z_get 25 zc9 0 8 fl_9_83 X dX9_reads_25 hw rfl (by decide) rfl ?_
      refine z_iconst 28 1 X dX9_reads_28 (by decide) ?_
      refine z_iadd 29 X dX9_reads_29 ?_
      refine z_put 30 zc9 0 8 (zw_39 cA 0 a_this a_this_all a_this_kept a_this_history a_this_slots a_this_isSaved a_this_stream a_this_pad v_historyLong v_streamLong (v_spot + 1) v_padLong v_padSpot v_readNumber g_stream) fl_9_83 X dX9_reads_30 hw rfl (by decide) rfl rfl rfl (Nat.le_of_ble_eq_true rfl) rfl (fun H locs hw => ?_)
      refine z_iinc2 33 1 [(3, .int (i3 + 1)), (2, .int ((2 * i2) + (g_stream v_spot.toNatClampNeg))), (0, .ref a_this), (1, .int i1)] X dX9_reads_33 hl 3 rfl (by decide) (by decide) rfl (fun ls hl => ?_)
      refine z_goto 36 4 X dX9_reads_36 (by decide) ?_
      exact ih (v_spot + 1) ((2 * i2) + (g_stream v_spot.toNatClampNeg)) (i3 + 1) H locs ls hw (lv_sub hl [2, 3, 1, 0] rfl) hF
set_option maxHeartbeats 4000000 in
set_option maxRecDepth 100000 in
theorem m_X9_reads (l : Launch) (D : va_G) (cA : ClassId) (a_this a_this_all a_this_kept a_this_history a_this_slots a_this_isSaved a_this_stream a_this_pad : Nat) (v_historyLong : Int32) (v_streamLong : Int32) (v_spot : Int32) (v_padLong : Int32) (v_padSpot : Int32) (v_readNumber : Int32) (g_stream : Ar) (i1 : Int32) (out : Int32 × Int32) (hF : F_X9_reads v_spot g_stream i1 = some out) : zM l D cA yX9_reads cX9_reads 4 (some .int) 0 0 [.ref a_this, .int i1] (zw_39 cA 0 a_this a_this_all a_this_kept a_this_history a_this_slots a_this_isSaved a_this_stream a_this_pad v_historyLong v_streamLong v_spot v_padLong v_padSpot v_readNumber g_stream) (zw_39 cA 0 a_this a_this_all a_this_kept a_this_history a_this_slots a_this_isSaved a_this_stream a_this_pad v_historyLong v_streamLong out.2 v_padLong v_padSpot v_readNumber g_stream) (some (.int out.1)) := by
  refine z_body (by decide) (Nat.le_of_ble_eq_true rfl) ?_
  intro p e s m args below meth c ls H locs A X hl hw
  have hl : lv_has ls 4 [(0, .ref a_this), (1, .int i1)] := hl
  unfold F_X9_reads at hF
  refine z_iconst 0 0 X dX9_reads_0 (by decide) ?_
  refine z_istore_n 1 [(2, .int 0), (0, .ref a_this), (1, .int i1)] X dX9_reads_1 hl (by decide) rfl (fun ls hl => ?_)
  refine z_iconst 2 0 X dX9_reads_2 (by decide) ?_
  refine z_istore_n 3 [(3, .int 0), (2, .int 0), (0, .ref a_this), (1, .int i1)] X dX9_reads_3 hl (by decide) rfl (fun ls hl => ?_)
  refine l_X9_reads_4 l D cA a_this a_this_all a_this_kept a_this_history a_this_slots a_this_isSaved a_this_stream a_this_pad v_historyLong v_streamLong v_padLong v_padSpot v_readNumber g_stream i1 out X _ (fun v_spot_3 i2_4 H locs ls hw hl hF => ?_) zFuel v_spot 0 0 H locs ls hw (lv_sub hl [2, 3, 1, 0] rfl) hF
  refine z_iload_n 39 X dX9_reads_39 hl 0 rfl ?_
  cases hF
  exact z_iret 40 X dX9_reads_40 hw rfl rfl
theorem dX9_readsGap_0 : decode cX9_readsGap 0 = .ok (.iconst 0, 1) := by decide +kernel
theorem dX9_readsGap_1 : decode cX9_readsGap 1 = .ok (.istore_n 2, 1) := by decide +kernel
theorem dX9_readsGap_2 : decode cX9_readsGap 2 = .ok (.iload_n 2, 1) := by decide +kernel
theorem dX9_readsGap_3 : decode cX9_readsGap 3 = .ok (.aload_n 0, 1) := by decide +kernel
theorem dX9_readsGap_4 : decode cX9_readsGap 4 = .ok (.getfield 7, 3) := by decide +kernel
theorem dX9_readsGap_7 : decode cX9_readsGap 7 = .ok (.iconst 1, 1) := by decide +kernel
theorem dX9_readsGap_8 : decode cX9_readsGap 8 = .ok (.iaload, 1) := by decide +kernel
theorem dX9_readsGap_9 : decode cX9_readsGap 9 = .ok (.if_icmp .ge 32, 3) := by decide +kernel
theorem dX9_readsGap_12 : decode cX9_readsGap 12 = .ok (.aload_n 0, 1) := by decide +kernel
theorem dX9_readsGap_13 : decode cX9_readsGap 13 = .ok (.getfield 25, 3) := by decide +kernel
theorem dX9_readsGap_16 : decode cX9_readsGap 16 = .ok (.aload_n 0, 1) := by decide +kernel
theorem dX9_readsGap_17 : decode cX9_readsGap 17 = .ok (.getfield 83, 3) := by decide +kernel
theorem dX9_readsGap_20 : decode cX9_readsGap 20 = .ok (.iaload, 1) := by decide +kernel
theorem dX9_readsGap_21 : decode cX9_readsGap 21 = .ok (.iconst 1, 1) := by decide +kernel
theorem dX9_readsGap_22 : decode cX9_readsGap 22 = .ok (.if_icmp .ne 19, 3) := by decide +kernel
theorem dX9_readsGap_25 : decode cX9_readsGap 25 = .ok (.iinc 2 1, 3) := by decide +kernel
theorem dX9_readsGap_28 : decode cX9_readsGap 28 = .ok (.aload_n 0, 1) := by decide +kernel
theorem dX9_readsGap_29 : decode cX9_readsGap 29 = .ok (.dup, 1) := by decide +kernel
theorem dX9_readsGap_30 : decode cX9_readsGap 30 = .ok (.getfield 83, 3) := by decide +kernel
theorem dX9_readsGap_33 : decode cX9_readsGap 33 = .ok (.iconst 1, 1) := by decide +kernel
theorem dX9_readsGap_34 : decode cX9_readsGap 34 = .ok (.iadd, 1) := by decide +kernel
theorem dX9_readsGap_35 : decode cX9_readsGap 35 = .ok (.putfield 83, 3) := by decide +kernel
theorem dX9_readsGap_38 : decode cX9_readsGap 38 = .ok (.goto (-36), 3) := by decide +kernel
theorem dX9_readsGap_41 : decode cX9_readsGap 41 = .ok (.iload_n 2, 1) := by decide +kernel
theorem dX9_readsGap_42 : decode cX9_readsGap 42 = .ok (.aload_n 0, 1) := by decide +kernel
theorem dX9_readsGap_43 : decode cX9_readsGap 43 = .ok (.getfield 7, 3) := by decide +kernel
theorem dX9_readsGap_46 : decode cX9_readsGap 46 = .ok (.iconst 1, 1) := by decide +kernel
theorem dX9_readsGap_47 : decode cX9_readsGap 47 = .ok (.iaload, 1) := by decide +kernel
theorem dX9_readsGap_48 : decode cX9_readsGap 48 = .ok (.if_icmp .ne 10, 3) := by decide +kernel
theorem dX9_readsGap_51 : decode cX9_readsGap 51 = .ok (.aload_n 0, 1) := by decide +kernel
theorem dX9_readsGap_52 : decode cX9_readsGap 52 = .ok (.bipush 16, 2) := by decide +kernel
theorem dX9_readsGap_54 : decode cX9_readsGap 54 = .ok (.invokevirtual 86, 3) := by decide +kernel
theorem dX9_readsGap_57 : decode cX9_readsGap 57 = .ok (.ireturn, 1) := by decide +kernel
theorem dX9_readsGap_58 : decode cX9_readsGap 58 = .ok (.aload_n 0, 1) := by decide +kernel
theorem dX9_readsGap_59 : decode cX9_readsGap 59 = .ok (.dup, 1) := by decide +kernel
theorem dX9_readsGap_60 : decode cX9_readsGap 60 = .ok (.getfield 83, 3) := by decide +kernel
theorem dX9_readsGap_63 : decode cX9_readsGap 63 = .ok (.iconst 1, 1) := by decide +kernel
theorem dX9_readsGap_64 : decode cX9_readsGap 64 = .ok (.iadd, 1) := by decide +kernel
theorem dX9_readsGap_65 : decode cX9_readsGap 65 = .ok (.putfield 83, 3) := by decide +kernel
theorem dX9_readsGap_68 : decode cX9_readsGap 68 = .ok (.iload_n 2, 1) := by decide +kernel
theorem dX9_readsGap_69 : decode cX9_readsGap 69 = .ok (.iload_n 1, 1) := by decide +kernel
theorem dX9_readsGap_70 : decode cX9_readsGap 70 = .ok (.ishl, 1) := by decide +kernel
theorem dX9_readsGap_71 : decode cX9_readsGap 71 = .ok (.aload_n 0, 1) := by decide +kernel
theorem dX9_readsGap_72 : decode cX9_readsGap 72 = .ok (.iload_n 1, 1) := by decide +kernel
theorem dX9_readsGap_73 : decode cX9_readsGap 73 = .ok (.invokevirtual 86, 3) := by decide +kernel
theorem dX9_readsGap_76 : decode cX9_readsGap 76 = .ok (.iadd, 1) := by decide +kernel
theorem dX9_readsGap_77 : decode cX9_readsGap 77 = .ok (.ireturn, 1) := by decide +kernel
set_option maxHeartbeats 4000000 in
set_option maxRecDepth 100000 in
theorem zk_125 (cA : ClassId) (n : Nat) (a_this a_this_all a_this_kept a_this_history a_this_slots a_this_isSaved a_this_stream a_this_pad : Nat) (v_historyLong : Int32) (v_streamLong : Int32) (v_spot : Int32) (v_padLong : Int32) (v_padSpot : Int32) (v_readNumber : Int32) (g_all : Ar) (g_stream : Ar) (v_spot' : Int32) : zCW (zw_40 cA n a_this a_this_all a_this_kept a_this_history a_this_slots a_this_isSaved a_this_stream a_this_pad v_historyLong v_streamLong v_spot v_padLong v_padSpot v_readNumber g_all g_stream) (zw_40 cA n a_this a_this_all a_this_kept a_this_history a_this_slots a_this_isSaved a_this_stream a_this_pad v_historyLong v_streamLong v_spot' v_padLong v_padSpot v_readNumber g_all g_stream) [0, 2] [1] (zw_39 cA 0 a_this a_this_all a_this_kept a_this_history a_this_slots a_this_isSaved a_this_stream a_this_pad v_historyLong v_streamLong v_spot v_padLong v_padSpot v_readNumber g_stream) (zw_39 cA 0 a_this a_this_all a_this_kept a_this_history a_this_slots a_this_isSaved a_this_stream a_this_pad v_historyLong v_streamLong v_spot' v_padLong v_padSpot v_readNumber g_stream) := ⟨rfl, (show (zw_39 cA 0 a_this a_this_all a_this_kept a_this_history a_this_slots a_this_isSaved a_this_stream a_this_pad v_historyLong v_streamLong v_spot' v_padLong v_padSpot v_readNumber g_stream).map Prod.fst = ([a_this, a_this_stream] : List Nat) from rfl).trans (show (zw_39 cA 0 a_this a_this_all a_this_kept a_this_history a_this_slots a_this_isSaved a_this_stream a_this_pad v_historyLong v_streamLong v_spot v_padLong v_padSpot v_readNumber g_stream).map Prod.fst = ([a_this, a_this_stream] : List Nat) from rfl).symm, by decide +kernel, (show (zw_40 cA n a_this a_this_all a_this_kept a_this_history a_this_slots a_this_isSaved a_this_stream a_this_pad v_historyLong v_streamLong v_spot' v_padLong v_padSpot v_readNumber g_all g_stream).map Prod.fst = ([a_this, a_this_all, a_this_stream] : List Nat) from rfl).trans (show (zw_40 cA n a_this a_this_all a_this_kept a_this_history a_this_slots a_this_isSaved a_this_stream a_this_pad v_historyLong v_streamLong v_spot v_padLong v_padSpot v_readNumber g_all g_stream).map Prod.fst = ([a_this, a_this_all, a_this_stream] : List Nat) from rfl).symm, rfl, (show ([1] : List Nat).map (fun i => (zw_40 cA n a_this a_this_all a_this_kept a_this_history a_this_slots a_this_isSaved a_this_stream a_this_pad v_historyLong v_streamLong v_spot' v_padLong v_padSpot v_readNumber g_all g_stream)[i]?) = ([(a_this_all, .inl (cA, 67, .inl g_all))] : va_W).map some from rfl).trans (show ([1] : List Nat).map (fun i => (zw_40 cA n a_this a_this_all a_this_kept a_this_history a_this_slots a_this_isSaved a_this_stream a_this_pad v_historyLong v_streamLong v_spot v_padLong v_padSpot v_readNumber g_all g_stream)[i]?) = ([(a_this_all, .inl (cA, 67, .inl g_all))] : va_W).map some from rfl).symm, by decide +kernel, rfl⟩
set_option maxHeartbeats 4000000 in
set_option maxRecDepth 100000 in
theorem l_X9_readsGap_2 (l : Launch) (D : va_G) (cA : ClassId) (a_this a_this_all a_this_kept a_this_history a_this_slots a_this_isSaved a_this_stream a_this_pad : Nat) (v_historyLong : Int32) (v_streamLong : Int32) (v_padLong : Int32) (v_padSpot : Int32) (v_readNumber : Int32) (g_all : Ar) (g_stream : Ar) (i1 : Int32) (out : Int32 × Int32) {p : Program} {e : Env} {s : State} {m : MethodId} {args : Array Value} {below : List Frame} {meth : Method} {c : Code} {A : Nat → Prop} (X : zX D cA p s m args meth c cX9_readsGap 3 RX9 (some .int)) (k : Int32 → Int32 → Option (Int32 × Int32)) (hk : ∀ (v_spot : Int32) (i2 : Int32) (H : Heap) (locs : List Loc) (ls : Array Slot), zH D A s (zw_40 cA 0 a_this a_this_all a_this_kept a_this_history a_this_slots a_this_isSaved a_this_stream a_this_pad v_historyLong v_streamLong v_spot v_padLong v_padSpot v_readNumber g_all g_stream) H locs → lv_has ls 3 [(0, .ref a_this), (1, .int i1), (2, .int i2)] → k v_spot i2 = some out → W p l e (zR 1 23) s m args below meth c H locs 0 0 (MQ below (zQ D (zw_40 cA 0 a_this a_this_all a_this_kept a_this_history a_this_slots a_this_isSaved a_this_stream a_this_pad v_historyLong v_streamLong out.2 v_padLong v_padSpot v_readNumber g_all g_stream) (some (.int out.1)) A) args s 0 0 A) (F0 m 41 ls [])) :
    ∀ (fuel : Nat) (v_spot : Int32) (i2 : Int32) (H : Heap) (locs : List Loc) (ls : Array Slot), zH D A s (zw_40 cA 0 a_this a_this_all a_this_kept a_this_history a_this_slots a_this_isSaved a_this_stream a_this_pad v_historyLong v_streamLong v_spot v_padLong v_padSpot v_readNumber g_all g_stream) H locs → lv_has ls 3 [(0, .ref a_this), (1, .int i1), (2, .int i2)] → F_X9_readsGap_L2 g_all g_stream k fuel v_spot i2 = some out → W p l e (zR 1 23) s m args below meth c H locs 0 0 (MQ below (zQ D (zw_40 cA 0 a_this a_this_all a_this_kept a_this_history a_this_slots a_this_isSaved a_this_stream a_this_pad v_historyLong v_streamLong out.2 v_padLong v_padSpot v_readNumber g_all g_stream) (some (.int out.1)) A) args s 0 0 A) (F0 m 2 ls []) := by
  intro fuel
  induction fuel with
  | zero => intro v_spot i2 H locs ls hw hl hF; exact nomatch (show (none : Option (Int32 × Int32)) = some out from hF)
  | succ fuel ih =>
    intro v_spot i2 H locs ls hw hl hF
    rw [F_X9_readsGap_L2] at hF
    refine z_iload_n 2 X dX9_readsGap_2 hl 2 rfl ?_
    refine z_aload_n 3 X dX9_readsGap_3 hl 0 rfl ?_
    refine z_get 4 zc9 0 0 fl_9_7 X dX9_readsGap_4 hw rfl (by decide) rfl ?_
    refine z_iconst 7 1 X dX9_readsGap_7 (by decide) ?_
    refine z_iald 8 1 (g_all 1) X dX9_readsGap_8 hw rfl (by decide) rfl ?_
    refine z_icmp_ge 9 41 X dX9_readsGap_9 (by decide) (fun c1 => ?_) (fun c1 => ?_)
    · replace hF := zpos c1 hF
      exact hk v_spot i2 H locs ls hw (lv_sub hl [0, 1, 2] rfl) hF
    · replace hF := zneg c1 hF
      refine z_aload_n 12 X dX9_readsGap_12 hl 0 rfl ?_
      refine z_get 13 zc9 0 6 fl_9_25 X dX9_readsGap_13 hw rfl (by decide) rfl ?_
      refine z_aload_n 16 X dX9_readsGap_16 hl 0 rfl ?_
      refine z_get 17 zc9 0 8 fl_9_83 X dX9_readsGap_17 hw rfl (by decide) rfl ?_
      obtain ⟨gd2, hF⟩ := zgd hF
      refine z_iald 20 2 (g_stream v_spot.toNatClampNeg) X dX9_readsGap_20 hw rfl gd2 rfl ?_
      refine z_iconst 21 1 X dX9_readsGap_21 (by decide) ?_
      refine z_icmp_ne 22 41 X dX9_readsGap_22 (by decide) (fun c3 => ?_) (fun c3 => ?_)
      · replace hF := zneg c3 hF
        exact hk v_spot i2 H locs ls hw (lv_sub hl [0, 1, 2] rfl) hF
      · replace hF := zpos c3 hF
        refine z_iinc2 25 1 [(2, .int (i2 + 1)), (0, .ref a_this), (1, .int i1)] X dX9_readsGap_25 hl 2 rfl (by decide) (by decide) rfl (fun ls hl => ?_)
        refine z_aload_n 28 X dX9_readsGap_28 hl 1 rfl ?_
        refine z_dup 29 X dX9_readsGap_29 rfl ?_
        refine z_get 30 zc9 0 8 fl_9_83 X dX9_readsGap_30 hw rfl (by decide) rfl ?_
        refine z_iconst 33 1 X dX9_readsGap_33 (by decide) ?_
        refine z_iadd 34 X dX9_readsGap_34 ?_
        refine z_put 35 zc9 0 8 (zw_40 cA 0 a_this a_this_all a_this_kept a_this_history a_this_slots a_this_isSaved a_this_stream a_this_pad v_historyLong v_streamLong (v_spot + 1) v_padLong v_padSpot v_readNumber g_all g_stream) fl_9_83 X dX9_readsGap_35 hw rfl (by decide) rfl rfl rfl (Nat.le_of_ble_eq_true rfl) rfl (fun H locs hw => ?_)
        refine z_goto 38 2 X dX9_readsGap_38 (by decide) ?_
        exact ih (v_spot + 1) (i2 + 1) H locs ls hw (lv_sub hl [1, 2, 0] rfl) hF
set_option maxHeartbeats 4000000 in
set_option maxRecDepth 100000 in
theorem m_X9_readsGap (l : Launch) (D : va_G) (cA : ClassId) (a_this a_this_all a_this_kept a_this_history a_this_slots a_this_isSaved a_this_stream a_this_pad : Nat) (v_historyLong : Int32) (v_streamLong : Int32) (v_spot : Int32) (v_padLong : Int32) (v_padSpot : Int32) (v_readNumber : Int32) (g_all : Ar) (g_stream : Ar) (i1 : Int32) (out : Int32 × Int32) (hF : F_X9_readsGap v_spot g_all g_stream i1 = some out) : zM l D cA yX9_readsGap cX9_readsGap 3 (some .int) 1 23 [.ref a_this, .int i1] (zw_40 cA 0 a_this a_this_all a_this_kept a_this_history a_this_slots a_this_isSaved a_this_stream a_this_pad v_historyLong v_streamLong v_spot v_padLong v_padSpot v_readNumber g_all g_stream) (zw_40 cA 0 a_this a_this_all a_this_kept a_this_history a_this_slots a_this_isSaved a_this_stream a_this_pad v_historyLong v_streamLong out.2 v_padLong v_padSpot v_readNumber g_all g_stream) (some (.int out.1)) := by
  refine z_body (by decide) (Nat.le_of_ble_eq_true rfl) ?_
  intro p e s m args below meth c ls H locs A X hl hw
  have hl : lv_has ls 3 [(0, .ref a_this), (1, .int i1)] := hl
  unfold F_X9_readsGap at hF
  refine z_iconst 0 0 X dX9_readsGap_0 (by decide) ?_
  refine z_istore_n 1 [(2, .int 0), (0, .ref a_this), (1, .int i1)] X dX9_readsGap_1 hl (by decide) rfl (fun ls hl => ?_)
  refine l_X9_readsGap_2 l D cA a_this a_this_all a_this_kept a_this_history a_this_slots a_this_isSaved a_this_stream a_this_pad v_historyLong v_streamLong v_padLong v_padSpot v_readNumber g_all g_stream i1 out X _ (fun v_spot_4 i2_5 H locs ls hw hl hF => ?_) zFuel v_spot 0 H locs ls hw (lv_sub hl [1, 2, 0] rfl) hF
  refine z_iload_n 41 X dX9_readsGap_41 hl 2 rfl ?_
  refine z_aload_n 42 X dX9_readsGap_42 hl 0 rfl ?_
  refine z_get 43 zc9 0 0 fl_9_7 X dX9_readsGap_43 hw rfl (by decide) rfl ?_
  refine z_iconst 46 1 X dX9_readsGap_46 (by decide) ?_
  refine z_iald 47 1 (g_all 1) X dX9_readsGap_47 hw rfl (by decide) rfl ?_
  refine z_icmp_ne 48 58 X dX9_readsGap_48 (by decide) (fun c6 => ?_) (fun c6 => ?_)
  · replace hF := zneg c6 hF
    refine z_aload_n 58 X dX9_readsGap_58 hl 0 rfl ?_
    refine z_dup 59 X dX9_readsGap_59 rfl ?_
    refine z_get 60 zc9 0 8 fl_9_83 X dX9_readsGap_60 hw rfl (by decide) rfl ?_
    refine z_iconst 63 1 X dX9_readsGap_63 (by decide) ?_
    refine z_iadd 64 X dX9_readsGap_64 ?_
    refine z_put 65 zc9 0 8 (zw_40 cA 0 a_this a_this_all a_this_kept a_this_history a_this_slots a_this_isSaved a_this_stream a_this_pad v_historyLong v_streamLong (v_spot_4 + 1) v_padLong v_padSpot v_readNumber g_all g_stream) fl_9_83 X dX9_readsGap_65 hw rfl (by decide) rfl rfl rfl (Nat.le_of_ble_eq_true rfl) rfl (fun H locs hw => ?_)
    refine z_iload_n 68 X dX9_readsGap_68 hl 2 rfl ?_
    refine z_iload_n 69 X dX9_readsGap_69 hl 1 rfl ?_
    refine z_ishl 70 X dX9_readsGap_70 ?_
    refine z_aload_n 71 X dX9_readsGap_71 hl 0 rfl ?_
    refine z_iload_n 72 X dX9_readsGap_72 hl 1 rfl ?_
    obtain ⟨u7, e8, hF⟩ := zbd hF
    refine z_callV 73 zc9 mv_X9_reads ml_9_86 0 [.int (i2_5 <<< (i1 &&& 31))] (zk_125 cA 0 a_this a_this_all a_this_kept a_this_history a_this_slots a_this_isSaved a_this_stream a_this_pad v_historyLong v_streamLong (v_spot_4 + 1) v_padLong v_padSpot v_readNumber g_all g_stream u7.2) (m_X9_reads l D cA a_this a_this_all a_this_kept a_this_history a_this_slots a_this_isSaved a_this_stream a_this_pad v_historyLong v_streamLong (v_spot_4 + 1) v_padLong v_padSpot v_readNumber g_stream i1 u7 e8) X dX9_readsGap_73 hw hl rfl rfl rfl (Nat.le_of_ble_eq_true rfl) ⟨Nat.le_of_ble_eq_true rfl, Nat.le_of_ble_eq_true rfl⟩ ⟨Nat.zero_le _, Nat.zero_le _⟩ (fun H locs hw => ?_)
    refine z_iadd 76 X dX9_readsGap_76 ?_
    cases hF
    exact z_iret 77 X dX9_readsGap_77 hw rfl rfl
  · replace hF := zpos c6 hF
    refine z_aload_n 51 X dX9_readsGap_51 hl 0 rfl ?_
    refine z_bipush 52 16 X dX9_readsGap_52 (by decide) ?_
    obtain ⟨u9, e10, hF⟩ := zbd hF
    refine z_callV 54 zc9 mv_X9_reads ml_9_86 0 [] (zk_125 cA 0 a_this a_this_all a_this_kept a_this_history a_this_slots a_this_isSaved a_this_stream a_this_pad v_historyLong v_streamLong v_spot_4 v_padLong v_padSpot v_readNumber g_all g_stream u9.2) (m_X9_reads l D cA a_this a_this_all a_this_kept a_this_history a_this_slots a_this_isSaved a_this_stream a_this_pad v_historyLong v_streamLong v_spot_4 v_padLong v_padSpot v_readNumber g_stream 16 u9 e10) X dX9_readsGap_54 hw hl rfl rfl rfl (Nat.le_of_ble_eq_true rfl) ⟨Nat.le_of_ble_eq_true rfl, Nat.le_of_ble_eq_true rfl⟩ ⟨Nat.zero_le _, Nat.zero_le _⟩ (fun H locs hw => ?_)
    cases hF
    exact z_iret 57 X dX9_readsGap_57 hw rfl rfl
theorem dX9_check_0 : decode cX9_check 0 = .ok (.aload_n 0, 1) := by decide +kernel
theorem dX9_check_1 : decode cX9_check 1 = .ok (.invokevirtual 153, 3) := by decide +kernel
theorem dX9_check_4 : decode cX9_check 4 = .ok (.aload_n 0, 1) := by decide +kernel
theorem dX9_check_5 : decode cX9_check 5 = .ok (.iconst 0, 1) := by decide +kernel
theorem dX9_check_6 : decode cX9_check 6 = .ok (.putfield 83, 3) := by decide +kernel
theorem dX9_check_9 : decode cX9_check 9 = .ok (.iconst (-1), 1) := by decide +kernel
theorem dX9_check_10 : decode cX9_check 10 = .ok (.istore_n 1, 1) := by decide +kernel
theorem dX9_check_11 : decode cX9_check 11 = .ok (.iconst 0, 1) := by decide +kernel
theorem dX9_check_12 : decode cX9_check 12 = .ok (.istore_n 2, 1) := by decide +kernel
theorem dX9_check_13 : decode cX9_check 13 = .ok (.iload_n 2, 1) := by decide +kernel
theorem dX9_check_14 : decode cX9_check 14 = .ok (.aload_n 0, 1) := by decide +kernel
theorem dX9_check_15 : decode cX9_check 15 = .ok (.invokevirtual 65, 3) := by decide +kernel
theorem dX9_check_18 : decode cX9_check 18 = .ok (.if_icmp .ge 63, 3) := by decide +kernel
theorem dX9_check_21 : decode cX9_check 21 = .ok (.aload_n 0, 1) := by decide +kernel
theorem dX9_check_22 : decode cX9_check 22 = .ok (.iconst 4, 1) := by decide +kernel
theorem dX9_check_23 : decode cX9_check 23 = .ok (.invokevirtual 86, 3) := by decide +kernel
theorem dX9_check_26 : decode cX9_check 26 = .ok (.istore_n 3, 1) := by decide +kernel
theorem dX9_check_27 : decode cX9_check 27 = .ok (.aload_n 0, 1) := by decide +kernel
theorem dX9_check_28 : decode cX9_check 28 = .ok (.iload_n 2, 1) := by decide +kernel
theorem dX9_check_29 : decode cX9_check 29 = .ok (.invokevirtual 43, 3) := by decide +kernel
theorem dX9_check_32 : decode cX9_check 32 = .ok (.istore 4, 2) := by decide +kernel
theorem dX9_check_34 : decode cX9_check 34 = .ok (.iload 4, 2) := by decide +kernel
theorem dX9_check_36 : decode cX9_check 36 = .ok (.aload_n 0, 1) := by decide +kernel
theorem dX9_check_37 : decode cX9_check 37 = .ok (.iload_n 2, 1) := by decide +kernel
theorem dX9_check_38 : decode cX9_check 38 = .ok (.invokevirtual 46, 3) := by decide +kernel
theorem dX9_check_41 : decode cX9_check 41 = .ok (.if_icmp .ge 34, 3) := by decide +kernel
theorem dX9_check_44 : decode cX9_check 44 = .ok (.iload_n 1, 1) := by decide +kernel
theorem dX9_check_45 : decode cX9_check 45 = .ok (.aload_n 0, 1) := by decide +kernel
theorem dX9_check_46 : decode cX9_check 46 = .ok (.iload_n 3, 1) := by decide +kernel
theorem dX9_check_47 : decode cX9_check 47 = .ok (.invokevirtual 182, 3) := by decide +kernel
theorem dX9_check_50 : decode cX9_check 50 = .ok (.iconst 1, 1) := by decide +kernel
theorem dX9_check_51 : decode cX9_check 51 = .ok (.iadd, 1) := by decide +kernel
theorem dX9_check_52 : decode cX9_check 52 = .ok (.iadd, 1) := by decide +kernel
theorem dX9_check_53 : decode cX9_check 53 = .ok (.istore_n 1, 1) := by decide +kernel
theorem dX9_check_54 : decode cX9_check 54 = .ok (.iload_n 1, 1) := by decide +kernel
theorem dX9_check_55 : decode cX9_check 55 = .ok (.aload_n 0, 1) := by decide +kernel
theorem dX9_check_56 : decode cX9_check 56 = .ok (.iload 4, 2) := by decide +kernel
theorem dX9_check_58 : decode cX9_check 58 = .ok (.invokevirtual 35, 3) := by decide +kernel
theorem dX9_check_61 : decode cX9_check 61 = .ok (.if_icmp .eq 8, 3) := by decide +kernel
theorem dX9_check_64 : decode cX9_check 64 = .ok (.iload 4, 2) := by decide +kernel
theorem dX9_check_66 : decode cX9_check 66 = .ok (.iconst 2, 1) := by decide +kernel
theorem dX9_check_67 : decode cX9_check 67 = .ok (.iadd, 1) := by decide +kernel
theorem dX9_check_68 : decode cX9_check 68 = .ok (.ireturn, 1) := by decide +kernel
theorem dX9_check_69 : decode cX9_check 69 = .ok (.iinc 4 1, 3) := by decide +kernel
theorem dX9_check_72 : decode cX9_check 72 = .ok (.goto (-38), 3) := by decide +kernel
theorem dX9_check_75 : decode cX9_check 75 = .ok (.iinc 2 1, 3) := by decide +kernel
theorem dX9_check_78 : decode cX9_check 78 = .ok (.goto (-65), 3) := by decide +kernel
theorem dX9_check_81 : decode cX9_check 81 = .ok (.iconst 1, 1) := by decide +kernel
theorem dX9_check_82 : decode cX9_check 82 = .ok (.ireturn, 1) := by decide +kernel
set_option maxHeartbeats 4000000 in
set_option maxRecDepth 100000 in
theorem zk_126 (cA : ClassId) (n : Nat) (a_this a_this_all a_this_kept a_this_history a_this_slots a_this_isSaved a_this_stream a_this_pad : Nat) (v_historyLong : Int32) (v_streamLong : Int32) (v_spot : Int32) (v_padLong : Int32) (v_padSpot : Int32) (v_readNumber : Int32) (g_all : Ar) (g_stream : Ar) (v_spot' : Int32) : zCW (zw_40 cA n a_this a_this_all a_this_kept a_this_history a_this_slots a_this_isSaved a_this_stream a_this_pad v_historyLong v_streamLong v_spot v_padLong v_padSpot v_readNumber g_all g_stream) (zw_40 cA n a_this a_this_all a_this_kept a_this_history a_this_slots a_this_isSaved a_this_stream a_this_pad v_historyLong v_streamLong v_spot' v_padLong v_padSpot v_readNumber g_all g_stream) [0, 1, 2] [] (zw_40 cA 0 a_this a_this_all a_this_kept a_this_history a_this_slots a_this_isSaved a_this_stream a_this_pad v_historyLong v_streamLong v_spot v_padLong v_padSpot v_readNumber g_all g_stream) (zw_40 cA 0 a_this a_this_all a_this_kept a_this_history a_this_slots a_this_isSaved a_this_stream a_this_pad v_historyLong v_streamLong v_spot' v_padLong v_padSpot v_readNumber g_all g_stream) := ⟨rfl, (show (zw_40 cA 0 a_this a_this_all a_this_kept a_this_history a_this_slots a_this_isSaved a_this_stream a_this_pad v_historyLong v_streamLong v_spot' v_padLong v_padSpot v_readNumber g_all g_stream).map Prod.fst = ([a_this, a_this_all, a_this_stream] : List Nat) from rfl).trans (show (zw_40 cA 0 a_this a_this_all a_this_kept a_this_history a_this_slots a_this_isSaved a_this_stream a_this_pad v_historyLong v_streamLong v_spot v_padLong v_padSpot v_readNumber g_all g_stream).map Prod.fst = ([a_this, a_this_all, a_this_stream] : List Nat) from rfl).symm, by decide +kernel, (show (zw_40 cA n a_this a_this_all a_this_kept a_this_history a_this_slots a_this_isSaved a_this_stream a_this_pad v_historyLong v_streamLong v_spot' v_padLong v_padSpot v_readNumber g_all g_stream).map Prod.fst = ([a_this, a_this_all, a_this_stream] : List Nat) from rfl).trans (show (zw_40 cA n a_this a_this_all a_this_kept a_this_history a_this_slots a_this_isSaved a_this_stream a_this_pad v_historyLong v_streamLong v_spot v_padLong v_padSpot v_readNumber g_all g_stream).map Prod.fst = ([a_this, a_this_all, a_this_stream] : List Nat) from rfl).symm, rfl, rfl, by decide +kernel, rfl⟩
set_option maxHeartbeats 4000000 in
set_option maxRecDepth 100000 in
theorem l_X9_check_34 (l : Launch) (D : va_G) (cA : ClassId) (a_this a_this_all a_this_kept a_this_history a_this_slots a_this_isSaved a_this_stream a_this_pad : Nat) (v_historyLong : Int32) (v_streamLong : Int32) (v_padLong : Int32) (v_padSpot : Int32) (v_readNumber : Int32) (g_all : Ar) (g_stream : Ar) (i2 : Int32) (i3 : Int32) (out : Int32 × Int32 × Int32 × Ar) {p : Program} {e : Env} {s : State} {m : MethodId} {args : Array Value} {below : List Frame} {meth : Method} {c : Code} {A : Nat → Prop} (X : zX D cA p s m args meth c cX9_check 5 RX9 (some .int)) (k : Int32 → Int32 → Option (Int32 × Int32 × Int32 × Ar)) (hk : ∀ (v_spot : Int32) (i1 : Int32) (H : Heap) (locs : List Loc) (ls : Array Slot), zH D A s (zw_40 cA 0 a_this a_this_all a_this_kept a_this_history a_this_slots a_this_isSaved a_this_stream a_this_pad v_historyLong v_streamLong v_spot v_padLong v_padSpot v_readNumber g_all g_stream) H locs → lv_has ls 5 [(0, .ref a_this), (1, .int i1), (2, .int i2)] → k v_spot i1 = some out → W p l e (zR 5 115) s m args below meth c H locs 0 0 (MQ below (zQ D (zw_40 cA 0 a_this a_this_all a_this_kept a_this_history a_this_slots a_this_isSaved a_this_stream a_this_pad v_historyLong out.2.1 out.2.2.1 v_padLong v_padSpot v_readNumber g_all out.2.2.2) (some (.int out.1)) A) args s 0 0 A) (F0 m 75 ls [])) :
    ∀ (fuel : Nat) (v_spot : Int32) (i1 : Int32) (i4 : Int32) (H : Heap) (locs : List Loc) (ls : Array Slot), zH D A s (zw_40 cA 0 a_this a_this_all a_this_kept a_this_history a_this_slots a_this_isSaved a_this_stream a_this_pad v_historyLong v_streamLong v_spot v_padLong v_padSpot v_readNumber g_all g_stream) H locs → lv_has ls 5 [(0, .ref a_this), (1, .int i1), (2, .int i2), (3, .int i3), (4, .int i4)] → F_X9_check_L34 v_streamLong g_all g_stream i2 i3 k fuel v_spot i1 i4 = some out → W p l e (zR 5 115) s m args below meth c H locs 0 0 (MQ below (zQ D (zw_40 cA 0 a_this a_this_all a_this_kept a_this_history a_this_slots a_this_isSaved a_this_stream a_this_pad v_historyLong out.2.1 out.2.2.1 v_padLong v_padSpot v_readNumber g_all out.2.2.2) (some (.int out.1)) A) args s 0 0 A) (F0 m 34 ls []) := by
  intro fuel
  induction fuel with
  | zero => intro v_spot i1 i4 H locs ls hw hl hF; exact nomatch (show (none : Option (Int32 × Int32 × Int32 × Ar)) = some out from hF)
  | succ fuel ih =>
    intro v_spot i1 i4 H locs ls hw hl hF
    rw [F_X9_check_L34] at hF
    refine z_iload 34 X dX9_check_34 hl 4 rfl ?_
    refine z_aload_n 36 X dX9_check_36 hl 0 rfl ?_
    refine z_iload_n 37 X dX9_check_37 hl 2 rfl ?_
    obtain ⟨u10, e11, hF⟩ := zbd hF
    refine z_callV 38 zc9 mv_X9_end ml_9_46 0 [.int i4] (zk_120 cA 0 a_this a_this_all a_this_kept a_this_history a_this_slots a_this_isSaved a_this_stream a_this_pad v_historyLong v_streamLong v_spot v_padLong v_padSpot v_readNumber g_all g_stream) (m_X9_end l D cA a_this a_this_all a_this_kept a_this_history a_this_slots a_this_isSaved a_this_stream a_this_pad v_historyLong v_streamLong v_spot v_padLong v_padSpot v_readNumber g_all i2 u10 e11) X dX9_check_38 hw hl rfl rfl rfl (Nat.le_of_ble_eq_true rfl) ⟨Nat.le_of_ble_eq_true rfl, Nat.le_of_ble_eq_true rfl⟩ ⟨Nat.zero_le _, Nat.zero_le _⟩ (fun H locs hw => ?_)
    refine z_icmp_ge 41 75 X dX9_check_41 (by decide) (fun c12 => ?_) (fun c12 => ?_)
    · replace hF := zpos c12 hF
      exact hk v_spot i1 H locs ls hw (lv_sub hl [0, 1, 2] rfl) hF
    · replace hF := zneg c12 hF
      refine z_iload_n 44 X dX9_check_44 hl 1 rfl ?_
      refine z_aload_n 45 X dX9_check_45 hl 0 rfl ?_
      refine z_iload_n 46 X dX9_check_46 hl 3 rfl ?_
      obtain ⟨u13, e14, hF⟩ := zbd hF
      refine z_callV 47 zc9 mv_X9_readsGap ml_9_182 0 [.int i1] (zk_126 cA 0 a_this a_this_all a_this_kept a_this_history a_this_slots a_this_isSaved a_this_stream a_this_pad v_historyLong v_streamLong v_spot v_padLong v_padSpot v_readNumber g_all g_stream u13.2) (m_X9_readsGap l D cA a_this a_this_all a_this_kept a_this_history a_this_slots a_this_isSaved a_this_stream a_this_pad v_historyLong v_streamLong v_spot v_padLong v_padSpot v_readNumber g_all g_stream i3 u13 e14) X dX9_check_47 hw hl rfl rfl rfl (Nat.le_of_ble_eq_true rfl) ⟨Nat.le_of_ble_eq_true rfl, Nat.le_of_ble_eq_true rfl⟩ ⟨Nat.zero_le _, Nat.zero_le _⟩ (fun H locs hw => ?_)
      refine z_iconst 50 1 X dX9_check_50 (by decide) ?_
      refine z_iadd 51 X dX9_check_51 ?_
      refine z_iadd 52 X dX9_check_52 ?_
      refine z_istore_n 53 [(1, .int (i1 + (u13.1 + 1))), (0, .ref a_this), (2, .int i2), (3, .int i3), (4, .int i4)] X dX9_check_53 hl (by decide) rfl (fun ls hl => ?_)
      refine z_iload_n 54 X dX9_check_54 hl 0 rfl ?_
      refine z_aload_n 55 X dX9_check_55 hl 1 rfl ?_
      refine z_iload 56 X dX9_check_56 hl 4 rfl ?_
      obtain ⟨u15, e16, hF⟩ := zbd hF
      refine z_callV 58 zc9 mv_X9_number ml_9_35 0 [.int (i1 + (u13.1 + 1))] (zk_120 cA 0 a_this a_this_all a_this_kept a_this_history a_this_slots a_this_isSaved a_this_stream a_this_pad v_historyLong v_streamLong u13.2 v_padLong v_padSpot v_readNumber g_all g_stream) (m_X9_number l D cA a_this a_this_all a_this_kept a_this_history a_this_slots a_this_isSaved a_this_stream a_this_pad v_historyLong v_streamLong u13.2 v_padLong v_padSpot v_readNumber g_all i4 u15 e16) X dX9_check_58 hw hl rfl rfl rfl (Nat.le_of_ble_eq_true rfl) ⟨Nat.le_of_ble_eq_true rfl, Nat.le_of_ble_eq_true rfl⟩ ⟨Nat.zero_le _, Nat.zero_le _⟩ (fun H locs hw => ?_)
      refine z_icmp_eq 61 69 X dX9_check_61 (by decide) (fun c17 => ?_) (fun c17 => ?_)
      · replace hF := zpos c17 hF
        refine z_iinc2 69 1 [(4, .int (i4 + 1)), (1, .int (i1 + (u13.1 + 1))), (0, .ref a_this), (2, .int i2), (3, .int i3)] X dX9_check_69 hl 4 rfl (by decide) (by decide) rfl (fun ls hl => ?_)
        refine z_goto 72 34 X dX9_check_72 (by decide) ?_
        exact ih u13.2 (i1 + (u13.1 + 1)) (i4 + 1) H locs ls hw (lv_sub hl [2, 1, 3, 4, 0] rfl) hF
      · replace hF := zneg c17 hF
        refine z_iload 64 X dX9_check_64 hl 4 rfl ?_
        refine z_iconst 66 2 X dX9_check_66 (by decide) ?_
        refine z_iadd 67 X dX9_check_67 ?_
        cases hF
        exact z_iret 68 X dX9_check_68 hw rfl rfl
set_option maxHeartbeats 4000000 in
set_option maxRecDepth 100000 in
theorem l_X9_check_13 (l : Launch) (D : va_G) (cA : ClassId) (a_this a_this_all a_this_kept a_this_history a_this_slots a_this_isSaved a_this_stream a_this_pad : Nat) (v_historyLong : Int32) (v_streamLong : Int32) (v_padLong : Int32) (v_padSpot : Int32) (v_readNumber : Int32) (g_all : Ar) (g_stream : Ar) (out : Int32 × Int32 × Int32 × Ar) {p : Program} {e : Env} {s : State} {m : MethodId} {args : Array Value} {below : List Frame} {meth : Method} {c : Code} {A : Nat → Prop} (X : zX D cA p s m args meth c cX9_check 5 RX9 (some .int)) (k : Int32 → Option (Int32 × Int32 × Int32 × Ar)) (hk : ∀ (v_spot : Int32) (H : Heap) (locs : List Loc) (ls : Array Slot), zH D A s (zw_40 cA 0 a_this a_this_all a_this_kept a_this_history a_this_slots a_this_isSaved a_this_stream a_this_pad v_historyLong v_streamLong v_spot v_padLong v_padSpot v_readNumber g_all g_stream) H locs → lv_has ls 5 [] → k v_spot = some out → W p l e (zR 5 115) s m args below meth c H locs 0 0 (MQ below (zQ D (zw_40 cA 0 a_this a_this_all a_this_kept a_this_history a_this_slots a_this_isSaved a_this_stream a_this_pad v_historyLong out.2.1 out.2.2.1 v_padLong v_padSpot v_readNumber g_all out.2.2.2) (some (.int out.1)) A) args s 0 0 A) (F0 m 81 ls [])) :
    ∀ (fuel : Nat) (v_spot : Int32) (i1 : Int32) (i2 : Int32) (H : Heap) (locs : List Loc) (ls : Array Slot), zH D A s (zw_40 cA 0 a_this a_this_all a_this_kept a_this_history a_this_slots a_this_isSaved a_this_stream a_this_pad v_historyLong v_streamLong v_spot v_padLong v_padSpot v_readNumber g_all g_stream) H locs → lv_has ls 5 [(0, .ref a_this), (1, .int i1), (2, .int i2)] → F_X9_check_L13 v_streamLong g_all g_stream k fuel v_spot i1 i2 = some out → W p l e (zR 5 115) s m args below meth c H locs 0 0 (MQ below (zQ D (zw_40 cA 0 a_this a_this_all a_this_kept a_this_history a_this_slots a_this_isSaved a_this_stream a_this_pad v_historyLong out.2.1 out.2.2.1 v_padLong v_padSpot v_readNumber g_all out.2.2.2) (some (.int out.1)) A) args s 0 0 A) (F0 m 13 ls []) := by
  intro fuel
  induction fuel with
  | zero => intro v_spot i1 i2 H locs ls hw hl hF; exact nomatch (show (none : Option (Int32 × Int32 × Int32 × Ar)) = some out from hF)
  | succ fuel ih =>
    intro v_spot i1 i2 H locs ls hw hl hF
    rw [F_X9_check_L13] at hF
    refine z_iload_n 13 X dX9_check_13 hl 2 rfl ?_
    refine z_aload_n 14 X dX9_check_14 hl 0 rfl ?_
    obtain ⟨u3, e4, hF⟩ := zbd hF
    refine z_callV 15 zc9 mv_X9_blocks ml_9_65 0 [.int i2] (zk_120 cA 0 a_this a_this_all a_this_kept a_this_history a_this_slots a_this_isSaved a_this_stream a_this_pad v_historyLong v_streamLong v_spot v_padLong v_padSpot v_readNumber g_all g_stream) (m_X9_blocks l D cA a_this a_this_all a_this_kept a_this_history a_this_slots a_this_isSaved a_this_stream a_this_pad v_historyLong v_streamLong v_spot v_padLong v_padSpot v_readNumber g_all u3 e4) X dX9_check_15 hw hl rfl rfl rfl (Nat.le_of_ble_eq_true rfl) ⟨Nat.le_of_ble_eq_true rfl, Nat.le_of_ble_eq_true rfl⟩ ⟨Nat.zero_le _, Nat.zero_le _⟩ (fun H locs hw => ?_)
    refine z_icmp_ge 18 81 X dX9_check_18 (by decide) (fun c5 => ?_) (fun c5 => ?_)
    · replace hF := zpos c5 hF
      exact hk v_spot H locs ls hw (lv_sub hl [] rfl) hF
    · replace hF := zneg c5 hF
      refine z_aload_n 21 X dX9_check_21 hl 0 rfl ?_
      refine z_iconst 22 4 X dX9_check_22 (by decide) ?_
      obtain ⟨u6, e7, hF⟩ := zbd hF
      refine z_callV 23 zc9 mv_X9_reads ml_9_86 0 [] (zk_125 cA 0 a_this a_this_all a_this_kept a_this_history a_this_slots a_this_isSaved a_this_stream a_this_pad v_historyLong v_streamLong v_spot v_padLong v_padSpot v_readNumber g_all g_stream u6.2) (m_X9_reads l D cA a_this a_this_all a_this_kept a_this_history a_this_slots a_this_isSaved a_this_stream a_this_pad v_historyLong v_streamLong v_spot v_padLong v_padSpot v_readNumber g_stream 4 u6 e7) X dX9_check_23 hw hl rfl rfl rfl (Nat.le_of_ble_eq_true rfl) ⟨Nat.le_of_ble_eq_true rfl, Nat.le_of_ble_eq_true rfl⟩ ⟨Nat.zero_le _, Nat.zero_le _⟩ (fun H locs hw => ?_)
      refine z_istore_n 26 [(3, .int u6.1), (0, .ref a_this), (1, .int i1), (2, .int i2)] X dX9_check_26 hl (by decide) rfl (fun ls hl => ?_)
      refine z_aload_n 27 X dX9_check_27 hl 1 rfl ?_
      refine z_iload_n 28 X dX9_check_28 hl 3 rfl ?_
      obtain ⟨u8, e9, hF⟩ := zbd hF
      refine z_callV 29 zc9 mv_X9_first ml_9_43 0 [] (zk_120 cA 0 a_this a_this_all a_this_kept a_this_history a_this_slots a_this_isSaved a_this_stream a_this_pad v_historyLong v_streamLong u6.2 v_padLong v_padSpot v_readNumber g_all g_stream) (m_X9_first l D cA a_this a_this_all a_this_kept a_this_history a_this_slots a_this_isSaved a_this_stream a_this_pad v_historyLong v_streamLong u6.2 v_padLong v_padSpot v_readNumber g_all i2 u8 e9) X dX9_check_29 hw hl rfl rfl rfl (Nat.le_of_ble_eq_true rfl) ⟨Nat.le_of_ble_eq_true rfl, Nat.le_of_ble_eq_true rfl⟩ ⟨Nat.zero_le _, Nat.zero_le _⟩ (fun H locs hw => ?_)
      refine z_istore 32 [(4, .int u8), (3, .int u6.1), (0, .ref a_this), (1, .int i1), (2, .int i2)] X dX9_check_32 hl (by decide) rfl (fun ls hl => ?_)
      refine l_X9_check_34 l D cA a_this a_this_all a_this_kept a_this_history a_this_slots a_this_isSaved a_this_stream a_this_pad v_historyLong v_streamLong v_padLong v_padSpot v_readNumber g_all g_stream i2 u6.1 out X _ (fun v_spot_18 i1_19 H locs ls hw hl hF => ?_) zFuel u6.2 i1 u8 H locs ls hw (lv_sub hl [2, 3, 4, 1, 0] rfl) hF
      refine z_iinc2 75 1 [(2, .int (i2 + 1)), (0, .ref a_this), (1, .int i1_19)] X dX9_check_75 hl 2 rfl (by decide) (by decide) rfl (fun ls hl => ?_)
      refine z_goto 78 13 X dX9_check_78 (by decide) ?_
      exact ih v_spot_18 i1_19 (i2 + 1) H locs ls hw (lv_sub hl [1, 2, 0] rfl) hF
set_option maxHeartbeats 4000000 in
set_option maxRecDepth 100000 in
theorem m_X9_check (l : Launch) (D : va_G) (cA : ClassId) (a_this a_this_all a_this_kept a_this_history a_this_slots a_this_isSaved a_this_stream a_this_pad : Nat) (v_historyLong : Int32) (v_streamLong : Int32) (v_spot : Int32) (v_padLong : Int32) (v_padSpot : Int32) (v_readNumber : Int32) (g_all : Ar) (g_stream : Ar) (out : Int32 × Int32 × Int32 × Ar) (hF : F_X9_check v_streamLong v_spot g_all g_stream = some out) : zM l D cA yX9_check cX9_check 5 (some .int) 5 115 [.ref a_this] (zw_40 cA 0 a_this a_this_all a_this_kept a_this_history a_this_slots a_this_isSaved a_this_stream a_this_pad v_historyLong v_streamLong v_spot v_padLong v_padSpot v_readNumber g_all g_stream) (zw_40 cA 0 a_this a_this_all a_this_kept a_this_history a_this_slots a_this_isSaved a_this_stream a_this_pad v_historyLong out.2.1 out.2.2.1 v_padLong v_padSpot v_readNumber g_all out.2.2.2) (some (.int out.1)) := by
  refine z_body (by decide) (Nat.le_of_ble_eq_true rfl) ?_
  intro p e s m args below meth c ls H locs A X hl hw
  have hl : lv_has ls 5 [(0, .ref a_this)] := hl
  unfold F_X9_check at hF
  refine z_aload_n 0 X dX9_check_0 hl 0 rfl ?_
  obtain ⟨u1, e2, hF⟩ := zbd hF
  refine z_callV 1 zc9 mv_X9_lays ml_9_153 0 [] (zk_122 cA 0 a_this a_this_all a_this_kept a_this_history a_this_slots a_this_isSaved a_this_stream a_this_pad v_historyLong v_streamLong v_spot v_padLong v_padSpot v_readNumber g_all g_stream u1.1 u1.2) (m_X9_lays l D cA a_this a_this_all a_this_kept a_this_history a_this_slots a_this_isSaved a_this_stream a_this_pad v_historyLong v_streamLong v_spot v_padLong v_padSpot v_readNumber g_all g_stream u1 e2) X dX9_check_1 hw hl rfl rfl rfl (Nat.le_of_ble_eq_true rfl) ⟨Nat.le_of_ble_eq_true rfl, Nat.le_of_ble_eq_true rfl⟩ ⟨Nat.zero_le _, Nat.zero_le _⟩ (fun H locs hw => ?_)
  refine z_aload_n 4 X dX9_check_4 hl 0 rfl ?_
  refine z_iconst 5 0 X dX9_check_5 (by decide) ?_
  refine z_put 6 zc9 0 8 (zw_40 cA 0 a_this a_this_all a_this_kept a_this_history a_this_slots a_this_isSaved a_this_stream a_this_pad v_historyLong u1.1 0 v_padLong v_padSpot v_readNumber g_all u1.2) fl_9_83 X dX9_check_6 hw rfl (by decide) rfl rfl rfl (Nat.le_of_ble_eq_true rfl) rfl (fun H locs hw => ?_)
  refine z_iconst 9 (-1) X dX9_check_9 (by decide) ?_
  refine z_istore_n 10 [(1, .int (-1)), (0, .ref a_this)] X dX9_check_10 hl (by decide) rfl (fun ls hl => ?_)
  refine z_iconst 11 0 X dX9_check_11 (by decide) ?_
  refine z_istore_n 12 [(2, .int 0), (1, .int (-1)), (0, .ref a_this)] X dX9_check_12 hl (by decide) rfl (fun ls hl => ?_)
  refine l_X9_check_13 l D cA a_this a_this_all a_this_kept a_this_history a_this_slots a_this_isSaved a_this_stream a_this_pad v_historyLong u1.1 v_padLong v_padSpot v_readNumber g_all u1.2 out X _ (fun v_spot_20 H locs ls hw hl hF => ?_) zFuel 0 (-1) 0 H locs ls hw (lv_sub hl [2, 1, 0] rfl) hF
  refine z_iconst 81 1 X dX9_check_81 (by decide) ?_
  cases hF
  exact z_iret 82 X dX9_check_82 hw rfl rfl
theorem dX9_put_0 : decode cX9_put 0 = .ok (.iconst 0, 1) := by decide +kernel
theorem dX9_put_1 : decode cX9_put 1 = .ok (.istore_n 3, 1) := by decide +kernel
theorem dX9_put_2 : decode cX9_put 2 = .ok (.iconst 1, 1) := by decide +kernel
theorem dX9_put_3 : decode cX9_put 3 = .ok (.istore 4, 2) := by decide +kernel
theorem dX9_put_5 : decode cX9_put 5 = .ok (.lload_n 1, 1) := by decide +kernel
theorem dX9_put_6 : decode cX9_put 6 = .ok (.lstore 5, 2) := by decide +kernel
theorem dX9_put_8 : decode cX9_put 8 = .ok (.iload_n 3, 1) := by decide +kernel
theorem dX9_put_9 : decode cX9_put 9 = .ok (.bipush 8, 2) := by decide +kernel
theorem dX9_put_11 : decode cX9_put 11 = .ok (.if_icmp .ge 57, 3) := by decide +kernel
theorem dX9_put_14 : decode cX9_put 14 = .ok (.lload 5, 2) := by decide +kernel
theorem dX9_put_16 : decode cX9_put 16 = .ok (.ldc2_w 185, 3) := by decide +kernel
theorem dX9_put_19 : decode cX9_put 19 = .ok (.land, 1) := by decide +kernel
theorem dX9_put_20 : decode cX9_put 20 = .ok (.lconst 0, 1) := by decide +kernel
theorem dX9_put_21 : decode cX9_put 21 = .ok (.lcmp, 1) := by decide +kernel
theorem dX9_put_22 : decode cX9_put 22 = .ok (.ifCond .eq 46, 3) := by decide +kernel
theorem dX9_put_25 : decode cX9_put 25 = .ok (.iload 4, 2) := by decide +kernel
theorem dX9_put_27 : decode cX9_put 27 = .ok (.ifCond .eq 25, 3) := by decide +kernel
theorem dX9_put_30 : decode cX9_put 30 = .ok (.lload 5, 2) := by decide +kernel
theorem dX9_put_32 : decode cX9_put 32 = .ok (.ldc2_w 185, 3) := by decide +kernel
theorem dX9_put_35 : decode cX9_put 35 = .ok (.land, 1) := by decide +kernel
theorem dX9_put_36 : decode cX9_put 36 = .ok (.ldc2_w 187, 3) := by decide +kernel
theorem dX9_put_39 : decode cX9_put 39 = .ok (.ldc2_w 189, 3) := by decide +kernel
theorem dX9_put_42 : decode cX9_put 42 = .ok (.invokestatic 91, 3) := by decide +kernel
theorem dX9_put_45 : decode cX9_put 45 = .ok (.ifCond .eq 7, 3) := by decide +kernel
theorem dX9_put_48 : decode cX9_put 48 = .ok (.iconst 1, 1) := by decide +kernel
theorem dX9_put_49 : decode cX9_put 49 = .ok (.goto 4, 3) := by decide +kernel
theorem dX9_put_52 : decode cX9_put 52 = .ok (.iconst 0, 1) := by decide +kernel
theorem dX9_put_53 : decode cX9_put 53 = .ok (.istore 4, 2) := by decide +kernel
theorem dX9_put_55 : decode cX9_put 55 = .ok (.lload 5, 2) := by decide +kernel
theorem dX9_put_57 : decode cX9_put 57 = .ok (.bipush 8, 2) := by decide +kernel
theorem dX9_put_59 : decode cX9_put 59 = .ok (.lushr, 1) := by decide +kernel
theorem dX9_put_60 : decode cX9_put 60 = .ok (.lstore 5, 2) := by decide +kernel
theorem dX9_put_62 : decode cX9_put 62 = .ok (.iinc 3 1, 3) := by decide +kernel
theorem dX9_put_65 : decode cX9_put 65 = .ok (.goto (-57), 3) := by decide +kernel
theorem dX9_put_68 : decode cX9_put 68 = .ok (.iload_n 3, 1) := by decide +kernel
theorem dX9_put_69 : decode cX9_put 69 = .ok (.ifCond .eq 15, 3) := by decide +kernel
theorem dX9_put_72 : decode cX9_put 72 = .ok (.lload 5, 2) := by decide +kernel
theorem dX9_put_74 : decode cX9_put 74 = .ok (.lconst 0, 1) := by decide +kernel
theorem dX9_put_75 : decode cX9_put 75 = .ok (.lcmp, 1) := by decide +kernel
theorem dX9_put_76 : decode cX9_put 76 = .ok (.ifCond .ne 8, 3) := by decide +kernel
theorem dX9_put_79 : decode cX9_put 79 = .ok (.iload 4, 2) := by decide +kernel
theorem dX9_put_81 : decode cX9_put 81 = .ok (.ifCond .ne 6, 3) := by decide +kernel
theorem dX9_put_84 : decode cX9_put 84 = .ok (.bipush (-2), 2) := by decide +kernel
theorem dX9_put_86 : decode cX9_put 86 = .ok (.ireturn, 1) := by decide +kernel
theorem dX9_put_87 : decode cX9_put 87 = .ok (.aload_n 0, 1) := by decide +kernel
theorem dX9_put_88 : decode cX9_put 88 = .ok (.getfield 166, 3) := by decide +kernel
theorem dX9_put_91 : decode cX9_put 91 = .ok (.iload_n 3, 1) := by decide +kernel
theorem dX9_put_92 : decode cX9_put 92 = .ok (.iadd, 1) := by decide +kernel
theorem dX9_put_93 : decode cX9_put 93 = .ok (.bipush 80, 2) := by decide +kernel
theorem dX9_put_95 : decode cX9_put 95 = .ok (.if_icmp .le 6, 3) := by decide +kernel
theorem dX9_put_98 : decode cX9_put 98 = .ok (.bipush (-4), 2) := by decide +kernel
theorem dX9_put_100 : decode cX9_put 100 = .ok (.ireturn, 1) := by decide +kernel
theorem dX9_put_101 : decode cX9_put 101 = .ok (.iload_n 3, 1) := by decide +kernel
theorem dX9_put_102 : decode cX9_put 102 = .ok (.iconst 1, 1) := by decide +kernel
theorem dX9_put_103 : decode cX9_put 103 = .ok (.isub, 1) := by decide +kernel
theorem dX9_put_104 : decode cX9_put 104 = .ok (.istore 7, 2) := by decide +kernel
theorem dX9_put_106 : decode cX9_put 106 = .ok (.iload 7, 2) := by decide +kernel
theorem dX9_put_108 : decode cX9_put 108 = .ok (.ifCond .lt 40, 3) := by decide +kernel
theorem dX9_put_111 : decode cX9_put 111 = .ok (.aload_n 0, 1) := by decide +kernel
theorem dX9_put_112 : decode cX9_put 112 = .ok (.getfield 28, 3) := by decide +kernel
theorem dX9_put_115 : decode cX9_put 115 = .ok (.aload_n 0, 1) := by decide +kernel
theorem dX9_put_116 : decode cX9_put 116 = .ok (.getfield 166, 3) := by decide +kernel
theorem dX9_put_119 : decode cX9_put 119 = .ok (.lload_n 1, 1) := by decide +kernel
theorem dX9_put_120 : decode cX9_put 120 = .ok (.bipush 8, 2) := by decide +kernel
theorem dX9_put_122 : decode cX9_put 122 = .ok (.iload 7, 2) := by decide +kernel
theorem dX9_put_124 : decode cX9_put 124 = .ok (.imul, 1) := by decide +kernel
theorem dX9_put_125 : decode cX9_put 125 = .ok (.lushr, 1) := by decide +kernel
theorem dX9_put_126 : decode cX9_put 126 = .ok (.ldc2_w 185, 3) := by decide +kernel
theorem dX9_put_129 : decode cX9_put 129 = .ok (.land, 1) := by decide +kernel
theorem dX9_put_130 : decode cX9_put 130 = .ok (.l2i, 1) := by decide +kernel
theorem dX9_put_131 : decode cX9_put 131 = .ok (.iastore, 1) := by decide +kernel
theorem dX9_put_132 : decode cX9_put 132 = .ok (.aload_n 0, 1) := by decide +kernel
theorem dX9_put_133 : decode cX9_put 133 = .ok (.dup, 1) := by decide +kernel
theorem dX9_put_134 : decode cX9_put 134 = .ok (.getfield 166, 3) := by decide +kernel
theorem dX9_put_137 : decode cX9_put 137 = .ok (.iconst 1, 1) := by decide +kernel
theorem dX9_put_138 : decode cX9_put 138 = .ok (.iadd, 1) := by decide +kernel
theorem dX9_put_139 : decode cX9_put 139 = .ok (.putfield 166, 3) := by decide +kernel
theorem dX9_put_142 : decode cX9_put 142 = .ok (.iinc 7 (-1), 3) := by decide +kernel
theorem dX9_put_145 : decode cX9_put 145 = .ok (.goto (-39), 3) := by decide +kernel
theorem dX9_put_148 : decode cX9_put 148 = .ok (.aload_n 0, 1) := by decide +kernel
theorem dX9_put_149 : decode cX9_put 149 = .ok (.getfield 166, 3) := by decide +kernel
theorem dX9_put_152 : decode cX9_put 152 = .ok (.ireturn, 1) := by decide +kernel
set_option maxHeartbeats 4000000 in
set_option maxRecDepth 100000 in
theorem zk_127 (cA : ClassId) (n : Nat) (a_this a_this_all a_this_kept a_this_history a_this_slots a_this_isSaved a_this_stream a_this_pad : Nat) (v_historyLong : Int32) (v_streamLong : Int32) (v_spot : Int32) (v_padLong : Int32) (v_padSpot : Int32) (v_readNumber : Int32) (g_pad : Ar)  : zCW (zw_41 cA n a_this a_this_all a_this_kept a_this_history a_this_slots a_this_isSaved a_this_stream a_this_pad v_historyLong v_streamLong v_spot v_padLong v_padSpot v_readNumber g_pad) (zw_41 cA n a_this a_this_all a_this_kept a_this_history a_this_slots a_this_isSaved a_this_stream a_this_pad v_historyLong v_streamLong v_spot v_padLong v_padSpot v_readNumber g_pad) [] [0, 1] (zw_4 cA 0  ) (zw_4 cA 0  ) := ⟨rfl, (show (zw_4 cA 0  ).map Prod.fst = ([] : List Nat) from rfl).trans (show (zw_4 cA 0  ).map Prod.fst = ([] : List Nat) from rfl).symm, by decide +kernel, (show (zw_41 cA n a_this a_this_all a_this_kept a_this_history a_this_slots a_this_isSaved a_this_stream a_this_pad v_historyLong v_streamLong v_spot v_padLong v_padSpot v_readNumber g_pad).map Prod.fst = ([a_this, a_this_pad] : List Nat) from rfl).trans (show (zw_41 cA n a_this a_this_all a_this_kept a_this_history a_this_slots a_this_isSaved a_this_stream a_this_pad v_historyLong v_streamLong v_spot v_padLong v_padSpot v_readNumber g_pad).map Prod.fst = ([a_this, a_this_pad] : List Nat) from rfl).symm, rfl, (show ([0, 1] : List Nat).map (fun i => (zw_41 cA n a_this a_this_all a_this_kept a_this_history a_this_slots a_this_isSaved a_this_stream a_this_pad v_historyLong v_streamLong v_spot v_padLong v_padSpot v_readNumber g_pad)[i]?) = ([(a_this, .inr (9, [.ref a_this_all, .ref a_this_kept, .ref a_this_history, .int v_historyLong, .ref a_this_slots, .ref a_this_isSaved, .ref a_this_stream, .int v_streamLong, .int v_spot, .ref a_this_pad, .int v_padLong, .int v_padSpot, .int v_readNumber])), (a_this_pad, .inl (cA, 80, .inl g_pad))] : va_W).map some from rfl).trans (show ([0, 1] : List Nat).map (fun i => (zw_41 cA n a_this a_this_all a_this_kept a_this_history a_this_slots a_this_isSaved a_this_stream a_this_pad v_historyLong v_streamLong v_spot v_padLong v_padSpot v_readNumber g_pad)[i]?) = ([(a_this, .inr (9, [.ref a_this_all, .ref a_this_kept, .ref a_this_history, .int v_historyLong, .ref a_this_slots, .ref a_this_isSaved, .ref a_this_stream, .int v_streamLong, .int v_spot, .ref a_this_pad, .int v_padLong, .int v_padSpot, .int v_readNumber])), (a_this_pad, .inl (cA, 80, .inl g_pad))] : va_W).map some from rfl).symm, by decide +kernel, rfl⟩
set_option maxHeartbeats 4000000 in
set_option maxRecDepth 100000 in
theorem l_X9_put_8 (l : Launch) (D : va_G) (cA : ClassId) (a_this a_this_all a_this_kept a_this_history a_this_slots a_this_isSaved a_this_stream a_this_pad : Nat) (v_historyLong : Int32) (v_streamLong : Int32) (v_spot : Int32) (v_padLong : Int32) (v_padSpot : Int32) (v_readNumber : Int32) (g_pad : Ar) (j1 : Int64) (out : Int32 × Int32 × Ar) {p : Program} {e : Env} {s : State} {m : MethodId} {args : Array Value} {below : List Frame} {meth : Method} {c : Code} {A : Nat → Prop} (X : zX D cA p s m args meth c cX9_put 8 RX9 (some .int)) (k : Int32 → Int32 → Int64 → Option (Int32 × Int32 × Ar)) (hk : ∀ (i3 : Int32) (i4 : Int32) (j5 : Int64) (H : Heap) (locs : List Loc) (ls : Array Slot), zH D A s (zw_41 cA 0 a_this a_this_all a_this_kept a_this_history a_this_slots a_this_isSaved a_this_stream a_this_pad v_historyLong v_streamLong v_spot v_padLong v_padSpot v_readNumber g_pad) H locs → lv_has ls 8 [(0, .ref a_this), (1, .long j1), (3, .int i3), (4, .int i4), (5, .long j5)] → k i3 i4 j5 = some out → W p l e (zR 1 25) s m args below meth c H locs 0 0 (MQ below (zQ D (zw_41 cA 0 a_this a_this_all a_this_kept a_this_history a_this_slots a_this_isSaved a_this_stream a_this_pad v_historyLong v_streamLong v_spot out.2.1 v_padSpot v_readNumber out.2.2) (some (.int out.1)) A) args s 0 0 A) (F0 m 68 ls [])) :
    ∀ (fuel : Nat) (i3 : Int32) (i4 : Int32) (j5 : Int64) (H : Heap) (locs : List Loc) (ls : Array Slot), zH D A s (zw_41 cA 0 a_this a_this_all a_this_kept a_this_history a_this_slots a_this_isSaved a_this_stream a_this_pad v_historyLong v_streamLong v_spot v_padLong v_padSpot v_readNumber g_pad) H locs → lv_has ls 8 [(0, .ref a_this), (1, .long j1), (3, .int i3), (4, .int i4), (5, .long j5)] → F_X9_put_L8 k fuel i3 i4 j5 = some out → W p l e (zR 1 25) s m args below meth c H locs 0 0 (MQ below (zQ D (zw_41 cA 0 a_this a_this_all a_this_kept a_this_history a_this_slots a_this_isSaved a_this_stream a_this_pad v_historyLong v_streamLong v_spot out.2.1 v_padSpot v_readNumber out.2.2) (some (.int out.1)) A) args s 0 0 A) (F0 m 8 ls []) := by
  intro fuel
  induction fuel with
  | zero => intro i3 i4 j5 H locs ls hw hl hF; exact nomatch (show (none : Option (Int32 × Int32 × Ar)) = some out from hF)
  | succ fuel ih =>
    intro i3 i4 j5 H locs ls hw hl hF
    rw [F_X9_put_L8] at hF
    refine z_iload_n 8 X dX9_put_8 hl 2 rfl ?_
    refine z_bipush 9 8 X dX9_put_9 (by decide) ?_
    refine z_icmp_ge 11 68 X dX9_put_11 (by decide) (fun c1 => ?_) (fun c1 => ?_)
    · replace hF := zpos c1 hF
      exact hk i3 i4 j5 H locs ls hw (lv_sub hl [0, 1, 2, 3, 4] rfl) hF
    · replace hF := zneg c1 hF
      refine z_lload 14 X dX9_put_14 hl 4 rfl ?_
      refine z_ldc2 16 255 X dX9_put_16 cl_9_185 ?_
      refine z_land 19 X dX9_put_19 ?_
      refine z_lconst 20 0 X dX9_put_20 (by decide) ?_
      refine z_lcmp 21 X dX9_put_21 ?_
      refine z_if_eq 22 68 X dX9_put_22 (by decide) (fun c2 => ?_) (fun c2 => ?_)
      · replace hF := zpos c2 hF
        exact hk i3 i4 j5 H locs ls hw (lv_sub hl [0, 1, 2, 3, 4] rfl) hF
      · replace hF := zneg c2 hF
        refine z_iload 25 X dX9_put_25 hl 3 rfl ?_
        refine z_if_eq 27 52 X dX9_put_27 (by decide) (fun c3 => ?_) (fun c3 => ?_)
        · replace hF := zpos c3 hF
          refine z_iconst 52 0 X dX9_put_52 (by decide) ?_
          refine z_istore 53 [(4, .int 0), (0, .ref a_this), (1, .long j1), (3, .int i3), (5, .long j5)] X dX9_put_53 hl (by decide) rfl (fun ls hl => ?_)
          refine z_lload 55 X dX9_put_55 hl 4 rfl ?_
          refine z_bipush 57 8 X dX9_put_57 (by decide) ?_
          refine z_lushr 59 X dX9_put_59 ?_
          refine z_lstore 60 [(5, .long (zushr j5 8)), (4, .int 0), (0, .ref a_this), (1, .long j1), (3, .int i3)] X dX9_put_60 hl (by decide) rfl (fun ls hl => ?_)
          refine z_iinc2 62 1 [(3, .int (i3 + 1)), (5, .long (zushr j5 8)), (4, .int 0), (0, .ref a_this), (1, .long j1)] X dX9_put_62 hl 4 rfl (by decide) (by decide) rfl (fun ls hl => ?_)
          refine z_goto 65 8 X dX9_put_65 (by decide) ?_
          exact ih (i3 + 1) 0 (zushr j5 8) H locs ls hw (lv_sub hl [3, 4, 0, 2, 1] rfl) hF
        · replace hF := zneg c3 hF
          refine z_lload 30 X dX9_put_30 hl 4 rfl ?_
          refine z_ldc2 32 255 X dX9_put_32 cl_9_185 ?_
          refine z_land 35 X dX9_put_35 ?_
          refine z_ldc2 36 33 X dX9_put_36 cl_9_187 ?_
          refine z_ldc2 39 126 X dX9_put_39 cl_9_189 ?_
          obtain ⟨u4, e5, hF⟩ := zbd hF
          refine z_callS 42 mv_X9_in ml_9_91 [] (zk_127 cA 0 a_this a_this_all a_this_kept a_this_history a_this_slots a_this_isSaved a_this_stream a_this_pad v_historyLong v_streamLong v_spot v_padLong v_padSpot v_readNumber g_pad) (m_X9_in l D cA (j5 &&& 255) 33 126 u4 e5) X dX9_put_42 hw hl rfl rfl (Nat.le_of_ble_eq_true rfl) ⟨Nat.le_of_ble_eq_true rfl, Nat.le_of_ble_eq_true rfl⟩ ⟨Nat.zero_le _, Nat.zero_le _⟩ (fun H locs hw => ?_)
          refine z_if_eq 45 52 X dX9_put_45 (by decide) (fun c6 => ?_) (fun c6 => ?_)
          · replace hF := zpos c6 hF
            refine z_iconst 52 0 X dX9_put_52 (by decide) ?_
            refine z_istore 53 [(4, .int 0), (0, .ref a_this), (1, .long j1), (3, .int i3), (5, .long j5)] X dX9_put_53 hl (by decide) rfl (fun ls hl => ?_)
            refine z_lload 55 X dX9_put_55 hl 4 rfl ?_
            refine z_bipush 57 8 X dX9_put_57 (by decide) ?_
            refine z_lushr 59 X dX9_put_59 ?_
            refine z_lstore 60 [(5, .long (zushr j5 8)), (4, .int 0), (0, .ref a_this), (1, .long j1), (3, .int i3)] X dX9_put_60 hl (by decide) rfl (fun ls hl => ?_)
            refine z_iinc2 62 1 [(3, .int (i3 + 1)), (5, .long (zushr j5 8)), (4, .int 0), (0, .ref a_this), (1, .long j1)] X dX9_put_62 hl 4 rfl (by decide) (by decide) rfl (fun ls hl => ?_)
            refine z_goto 65 8 X dX9_put_65 (by decide) ?_
            exact ih (i3 + 1) 0 (zushr j5 8) H locs ls hw (lv_sub hl [3, 4, 0, 2, 1] rfl) hF
          · replace hF := zneg c6 hF
            refine z_iconst 48 1 X dX9_put_48 (by decide) ?_
            refine z_goto 49 53 X dX9_put_49 (by decide) ?_
            refine z_istore 53 [(4, .int 1), (0, .ref a_this), (1, .long j1), (3, .int i3), (5, .long j5)] X dX9_put_53 hl (by decide) rfl (fun ls hl => ?_)
            refine z_lload 55 X dX9_put_55 hl 4 rfl ?_
            refine z_bipush 57 8 X dX9_put_57 (by decide) ?_
            refine z_lushr 59 X dX9_put_59 ?_
            refine z_lstore 60 [(5, .long (zushr j5 8)), (4, .int 1), (0, .ref a_this), (1, .long j1), (3, .int i3)] X dX9_put_60 hl (by decide) rfl (fun ls hl => ?_)
            refine z_iinc2 62 1 [(3, .int (i3 + 1)), (5, .long (zushr j5 8)), (4, .int 1), (0, .ref a_this), (1, .long j1)] X dX9_put_62 hl 4 rfl (by decide) (by decide) rfl (fun ls hl => ?_)
            refine z_goto 65 8 X dX9_put_65 (by decide) ?_
            exact ih (i3 + 1) 1 (zushr j5 8) H locs ls hw (lv_sub hl [3, 4, 0, 2, 1] rfl) hF
set_option maxHeartbeats 4000000 in
set_option maxRecDepth 100000 in
theorem l_X9_put_106 (l : Launch) (D : va_G) (cA : ClassId) (a_this a_this_all a_this_kept a_this_history a_this_slots a_this_isSaved a_this_stream a_this_pad : Nat) (v_historyLong : Int32) (v_streamLong : Int32) (v_spot : Int32) (v_padSpot : Int32) (v_readNumber : Int32) (j1 : Int64) (out : Int32 × Int32 × Ar) {p : Program} {e : Env} {s : State} {m : MethodId} {args : Array Value} {below : List Frame} {meth : Method} {c : Code} {A : Nat → Prop} (X : zX D cA p s m args meth c cX9_put 8 RX9 (some .int)) (k : Int32 → Ar → Option (Int32 × Int32 × Ar)) (hk : ∀ (v_padLong : Int32) (g_pad : Ar) (H : Heap) (locs : List Loc) (ls : Array Slot), zH D A s (zw_41 cA 0 a_this a_this_all a_this_kept a_this_history a_this_slots a_this_isSaved a_this_stream a_this_pad v_historyLong v_streamLong v_spot v_padLong v_padSpot v_readNumber g_pad) H locs → lv_has ls 8 [(0, .ref a_this)] → k v_padLong g_pad = some out → W p l e (zR 1 25) s m args below meth c H locs 0 0 (MQ below (zQ D (zw_41 cA 0 a_this a_this_all a_this_kept a_this_history a_this_slots a_this_isSaved a_this_stream a_this_pad v_historyLong v_streamLong v_spot out.2.1 v_padSpot v_readNumber out.2.2) (some (.int out.1)) A) args s 0 0 A) (F0 m 148 ls [])) :
    ∀ (fuel : Nat) (v_padLong : Int32) (g_pad : Ar) (i7 : Int32) (H : Heap) (locs : List Loc) (ls : Array Slot), zH D A s (zw_41 cA 0 a_this a_this_all a_this_kept a_this_history a_this_slots a_this_isSaved a_this_stream a_this_pad v_historyLong v_streamLong v_spot v_padLong v_padSpot v_readNumber g_pad) H locs → lv_has ls 8 [(0, .ref a_this), (1, .long j1), (7, .int i7)] → F_X9_put_L106 j1 k fuel v_padLong g_pad i7 = some out → W p l e (zR 1 25) s m args below meth c H locs 0 0 (MQ below (zQ D (zw_41 cA 0 a_this a_this_all a_this_kept a_this_history a_this_slots a_this_isSaved a_this_stream a_this_pad v_historyLong v_streamLong v_spot out.2.1 v_padSpot v_readNumber out.2.2) (some (.int out.1)) A) args s 0 0 A) (F0 m 106 ls []) := by
  intro fuel
  induction fuel with
  | zero => intro v_padLong g_pad i7 H locs ls hw hl hF; exact nomatch (show (none : Option (Int32 × Int32 × Ar)) = some out from hF)
  | succ fuel ih =>
    intro v_padLong g_pad i7 H locs ls hw hl hF
    rw [F_X9_put_L106] at hF
    refine z_iload 106 X dX9_put_106 hl 2 rfl ?_
    refine z_if_lt 108 148 X dX9_put_108 (by decide) (fun c14 => ?_) (fun c14 => ?_)
    · replace hF := zpos c14 hF
      exact hk v_padLong g_pad H locs ls hw (lv_sub hl [0] rfl) hF
    · replace hF := zneg c14 hF
      refine z_aload_n 111 X dX9_put_111 hl 0 rfl ?_
      refine z_get 112 zc9 0 9 fl_9_28 X dX9_put_112 hw rfl (by decide) rfl ?_
      refine z_aload_n 115 X dX9_put_115 hl 0 rfl ?_
      refine z_get 116 zc9 0 10 fl_9_166 X dX9_put_116 hw rfl (by decide) rfl ?_
      refine z_lload_n 119 X dX9_put_119 hl 1 rfl ?_
      refine z_bipush 120 8 X dX9_put_120 (by decide) ?_
      refine z_iload 122 X dX9_put_122 hl 2 rfl ?_
      refine z_imul 124 X dX9_put_124 ?_
      refine z_lushr 125 X dX9_put_125 ?_
      refine z_ldc2 126 255 X dX9_put_126 cl_9_185 ?_
      refine z_land 129 X dX9_put_129 ?_
      refine z_l2i 130 X dX9_put_130 ?_
      obtain ⟨gd15, hF⟩ := zgd hF
      refine z_iast 131 1 (zw_41 cA 0 a_this a_this_all a_this_kept a_this_history a_this_slots a_this_isSaved a_this_stream a_this_pad v_historyLong v_streamLong v_spot v_padLong v_padSpot v_readNumber (upd g_pad (v_padLong.toNatClampNeg) (((zushr j1 (8 * i7)) &&& 255).toInt32))) X dX9_put_131 hw rfl gd15 rfl (fun H locs hw => ?_)
      refine z_aload_n 132 X dX9_put_132 hl 0 rfl ?_
      refine z_dup 133 X dX9_put_133 rfl ?_
      refine z_get 134 zc9 0 10 fl_9_166 X dX9_put_134 hw rfl (by decide) rfl ?_
      refine z_iconst 137 1 X dX9_put_137 (by decide) ?_
      refine z_iadd 138 X dX9_put_138 ?_
      refine z_put 139 zc9 0 10 (zw_41 cA 0 a_this a_this_all a_this_kept a_this_history a_this_slots a_this_isSaved a_this_stream a_this_pad v_historyLong v_streamLong v_spot (v_padLong + 1) v_padSpot v_readNumber (upd g_pad (v_padLong.toNatClampNeg) (((zushr j1 (8 * i7)) &&& 255).toInt32))) fl_9_166 X dX9_put_139 hw rfl (by decide) rfl rfl rfl (Nat.le_of_ble_eq_true rfl) rfl (fun H locs hw => ?_)
      refine z_iinc2 142 (-1) [(7, .int (i7 + (-1))), (0, .ref a_this), (1, .long j1)] X dX9_put_142 hl 2 rfl (by decide) (by decide) rfl (fun ls hl => ?_)
      refine z_goto 145 106 X dX9_put_145 (by decide) ?_
      exact ih (v_padLong + 1) (upd g_pad (v_padLong.toNatClampNeg) (((zushr j1 (8 * i7)) &&& 255).toInt32)) (i7 + (-1)) H locs ls hw (lv_sub hl [1, 2, 0] rfl) hF
set_option maxHeartbeats 4000000 in
set_option maxRecDepth 100000 in
theorem m_X9_put (l : Launch) (D : va_G) (cA : ClassId) (a_this a_this_all a_this_kept a_this_history a_this_slots a_this_isSaved a_this_stream a_this_pad : Nat) (v_historyLong : Int32) (v_streamLong : Int32) (v_spot : Int32) (v_padLong : Int32) (v_padSpot : Int32) (v_readNumber : Int32) (g_pad : Ar) (j1 : Int64) (out : Int32 × Int32 × Ar) (hF : F_X9_put v_padLong g_pad j1 = some out) : zM l D cA yX9_put cX9_put 8 (some .int) 1 25 [.ref a_this, .long j1] (zw_41 cA 0 a_this a_this_all a_this_kept a_this_history a_this_slots a_this_isSaved a_this_stream a_this_pad v_historyLong v_streamLong v_spot v_padLong v_padSpot v_readNumber g_pad) (zw_41 cA 0 a_this a_this_all a_this_kept a_this_history a_this_slots a_this_isSaved a_this_stream a_this_pad v_historyLong v_streamLong v_spot out.2.1 v_padSpot v_readNumber out.2.2) (some (.int out.1)) := by
  refine z_body (by decide) (Nat.le_of_ble_eq_true rfl) ?_
  intro p e s m args below meth c ls H locs A X hl hw
  have hl : lv_has ls 8 [(0, .ref a_this), (1, .long j1)] := hl
  unfold F_X9_put at hF
  refine z_iconst 0 0 X dX9_put_0 (by decide) ?_
  refine z_istore_n 1 [(3, .int 0), (0, .ref a_this), (1, .long j1)] X dX9_put_1 hl (by decide) rfl (fun ls hl => ?_)
  refine z_iconst 2 1 X dX9_put_2 (by decide) ?_
  refine z_istore 3 [(4, .int 1), (3, .int 0), (0, .ref a_this), (1, .long j1)] X dX9_put_3 hl (by decide) rfl (fun ls hl => ?_)
  refine z_lload_n 5 X dX9_put_5 hl 3 rfl ?_
  refine z_lstore 6 [(5, .long j1), (4, .int 1), (3, .int 0), (0, .ref a_this), (1, .long j1)] X dX9_put_6 hl (by decide) rfl (fun ls hl => ?_)
  refine l_X9_put_8 l D cA a_this a_this_all a_this_kept a_this_history a_this_slots a_this_isSaved a_this_stream a_this_pad v_historyLong v_streamLong v_spot v_padLong v_padSpot v_readNumber g_pad j1 out X _ (fun i3_7 i4_8 j5_9 H locs ls hw hl hF => ?_) zFuel 0 1 j1 H locs ls hw (lv_sub hl [3, 4, 2, 1, 0] rfl) hF
  refine z_iload_n 68 X dX9_put_68 hl 2 rfl ?_
  refine z_if_eq 69 84 X dX9_put_69 (by decide) (fun c10 => ?_) (fun c10 => ?_)
  · replace hF := zpos c10 hF
    refine z_bipush 84 (-2) X dX9_put_84 (by decide) ?_
    cases hF
    exact z_iret 86 X dX9_put_86 hw rfl rfl
  · replace hF := zneg c10 hF
    refine z_lload 72 X dX9_put_72 hl 4 rfl ?_
    refine z_lconst 74 0 X dX9_put_74 (by decide) ?_
    refine z_lcmp 75 X dX9_put_75 ?_
    refine z_if_ne 76 84 X dX9_put_76 (by decide) (fun c11 => ?_) (fun c11 => ?_)
    · replace hF := zneg c11 hF
      refine z_bipush 84 (-2) X dX9_put_84 (by decide) ?_
      cases hF
      exact z_iret 86 X dX9_put_86 hw rfl rfl
    · replace hF := zpos c11 hF
      refine z_iload 79 X dX9_put_79 hl 3 rfl ?_
      refine z_if_ne 81 87 X dX9_put_81 (by decide) (fun c12 => ?_) (fun c12 => ?_)
      · replace hF := zneg c12 hF
        refine z_aload_n 87 X dX9_put_87 hl 0 rfl ?_
        refine z_get 88 zc9 0 10 fl_9_166 X dX9_put_88 hw rfl (by decide) rfl ?_
        refine z_iload_n 91 X dX9_put_91 hl 2 rfl ?_
        refine z_iadd 92 X dX9_put_92 ?_
        refine z_bipush 93 80 X dX9_put_93 (by decide) ?_
        refine z_icmp_le 95 101 X dX9_put_95 (by decide) (fun c13 => ?_) (fun c13 => ?_)
        · replace hF := zpos c13 hF
          refine z_iload_n 101 X dX9_put_101 hl 2 rfl ?_
          refine z_iconst 102 1 X dX9_put_102 (by decide) ?_
          refine z_isub 103 X dX9_put_103 ?_
          refine z_istore 104 [(7, .int (i3_7 - 1)), (0, .ref a_this), (1, .long j1), (3, .int i3_7), (4, .int i4_8), (5, .long j5_9)] X dX9_put_104 hl (by decide) rfl (fun ls hl => ?_)
          refine l_X9_put_106 l D cA a_this a_this_all a_this_kept a_this_history a_this_slots a_this_isSaved a_this_stream a_this_pad v_historyLong v_streamLong v_spot v_padSpot v_readNumber j1 out X _ (fun v_padLong_16 g_pad_17 H locs ls hw hl hF => ?_) zFuel v_padLong g_pad (i3_7 - 1) H locs ls hw (lv_sub hl [1, 2, 0] rfl) hF
          refine z_aload_n 148 X dX9_put_148 hl 0 rfl ?_
          refine z_get 149 zc9 0 10 fl_9_166 X dX9_put_149 hw rfl (by decide) rfl ?_
          cases hF
          exact z_iret 152 X dX9_put_152 hw rfl rfl
        · replace hF := zneg c13 hF
          refine z_bipush 98 (-4) X dX9_put_98 (by decide) ?_
          cases hF
          exact z_iret 100 X dX9_put_100 hw rfl rfl
      · replace hF := zpos c12 hF
        refine z_bipush 84 (-2) X dX9_put_84 (by decide) ?_
        cases hF
        exact z_iret 86 X dX9_put_86 hw rfl rfl
theorem dX9_wipe_0 : decode cX9_wipe 0 = .ok (.aload_n 0, 1) := by decide +kernel
theorem dX9_wipe_1 : decode cX9_wipe 1 = .ok (.getfield 166, 3) := by decide +kernel
theorem dX9_wipe_4 : decode cX9_wipe 4 = .ok (.istore_n 1, 1) := by decide +kernel
theorem dX9_wipe_5 : decode cX9_wipe 5 = .ok (.aload_n 0, 1) := by decide +kernel
theorem dX9_wipe_6 : decode cX9_wipe 6 = .ok (.iconst 0, 1) := by decide +kernel
theorem dX9_wipe_7 : decode cX9_wipe 7 = .ok (.putfield 166, 3) := by decide +kernel
theorem dX9_wipe_10 : decode cX9_wipe 10 = .ok (.iload_n 1, 1) := by decide +kernel
theorem dX9_wipe_11 : decode cX9_wipe 11 = .ok (.ireturn, 1) := by decide +kernel
set_option maxHeartbeats 4000000 in
set_option maxRecDepth 100000 in
theorem m_X9_wipe (l : Launch) (D : va_G) (cA : ClassId) (a_this a_this_all a_this_kept a_this_history a_this_slots a_this_isSaved a_this_stream a_this_pad : Nat) (v_historyLong : Int32) (v_streamLong : Int32) (v_spot : Int32) (v_padLong : Int32) (v_padSpot : Int32) (v_readNumber : Int32) (out : Int32 × Int32) (hF : F_X9_wipe v_padLong = some out) : zM l D cA yX9_wipe cX9_wipe 2 (some .int) 0 0 [.ref a_this] (zw_42 cA 0 a_this a_this_all a_this_kept a_this_history a_this_slots a_this_isSaved a_this_stream a_this_pad v_historyLong v_streamLong v_spot v_padLong v_padSpot v_readNumber) (zw_42 cA 0 a_this a_this_all a_this_kept a_this_history a_this_slots a_this_isSaved a_this_stream a_this_pad v_historyLong v_streamLong v_spot out.2 v_padSpot v_readNumber) (some (.int out.1)) := by
  refine z_body (by decide) (Nat.le_of_ble_eq_true rfl) ?_
  intro p e s m args below meth c ls H locs A X hl hw
  have hl : lv_has ls 2 [(0, .ref a_this)] := hl
  unfold F_X9_wipe at hF
  refine z_aload_n 0 X dX9_wipe_0 hl 0 rfl ?_
  refine z_get 1 zc9 0 10 fl_9_166 X dX9_wipe_1 hw rfl (by decide) rfl ?_
  refine z_istore_n 4 [(1, .int v_padLong), (0, .ref a_this)] X dX9_wipe_4 hl (by decide) rfl (fun ls hl => ?_)
  refine z_aload_n 5 X dX9_wipe_5 hl 1 rfl ?_
  refine z_iconst 6 0 X dX9_wipe_6 (by decide) ?_
  refine z_put 7 zc9 0 10 (zw_42 cA 0 a_this a_this_all a_this_kept a_this_history a_this_slots a_this_isSaved a_this_stream a_this_pad v_historyLong v_streamLong v_spot 0 v_padSpot v_readNumber) fl_9_166 X dX9_wipe_7 hw rfl (by decide) rfl rfl rfl (Nat.le_of_ble_eq_true rfl) rfl (fun H locs hw => ?_)
  refine z_iload_n 10 X dX9_wipe_10 hl 0 rfl ?_
  cases hF
  exact z_iret 11 X dX9_wipe_11 hw rfl rfl
