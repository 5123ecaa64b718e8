theorem dX9_block_0 : decode cX9_block 0 = .ok (.aload_n 0, 1) := by decide +kernel
theorem dX9_block_1 : decode cX9_block 1 = .ok (.iload_n 1, 1) := by decide +kernel
theorem dX9_block_2 : decode cX9_block 2 = .ok (.invokevirtual 141, 3) := by decide +kernel
theorem dX9_block_5 : decode cX9_block 5 = .ok (.ifCond .ne 5, 3) := by decide +kernel
theorem dX9_block_8 : decode cX9_block 8 = .ok (.iconst (-1), 1) := by decide +kernel
theorem dX9_block_9 : decode cX9_block 9 = .ok (.ireturn, 1) := by decide +kernel
theorem dX9_block_10 : decode cX9_block 10 = .ok (.iload_n 2, 1) := by decide +kernel
theorem dX9_block_11 : decode cX9_block 11 = .ok (.tableswitch 91 0 6 #[41, 47, 59, 65, 71, 79, 85], 41) := by decide +kernel
theorem dX9_block_52 : decode cX9_block 52 = .ok (.aload_n 0, 1) := by decide +kernel
theorem dX9_block_53 : decode cX9_block 53 = .ok (.iload_n 1, 1) := by decide +kernel
theorem dX9_block_54 : decode cX9_block 54 = .ok (.invokevirtual 59, 3) := by decide +kernel
theorem dX9_block_57 : decode cX9_block 57 = .ok (.ireturn, 1) := by decide +kernel
theorem dX9_block_58 : decode cX9_block 58 = .ok (.aload_n 0, 1) := by decide +kernel
theorem dX9_block_59 : decode cX9_block 59 = .ok (.iload_n 1, 1) := by decide +kernel
theorem dX9_block_60 : decode cX9_block 60 = .ok (.invokevirtual 46, 3) := by decide +kernel
theorem dX9_block_63 : decode cX9_block 63 = .ok (.aload_n 0, 1) := by decide +kernel
theorem dX9_block_64 : decode cX9_block 64 = .ok (.iload_n 1, 1) := by decide +kernel
theorem dX9_block_65 : decode cX9_block 65 = .ok (.invokevirtual 43, 3) := by decide +kernel
theorem dX9_block_68 : decode cX9_block 68 = .ok (.isub, 1) := by decide +kernel
theorem dX9_block_69 : decode cX9_block 69 = .ok (.ireturn, 1) := by decide +kernel
theorem dX9_block_70 : decode cX9_block 70 = .ok (.aload_n 0, 1) := by decide +kernel
theorem dX9_block_71 : decode cX9_block 71 = .ok (.iload_n 1, 1) := by decide +kernel
theorem dX9_block_72 : decode cX9_block 72 = .ok (.invokevirtual 62, 3) := by decide +kernel
theorem dX9_block_75 : decode cX9_block 75 = .ok (.ireturn, 1) := by decide +kernel
theorem dX9_block_76 : decode cX9_block 76 = .ok (.aload_n 0, 1) := by decide +kernel
theorem dX9_block_77 : decode cX9_block 77 = .ok (.iload_n 1, 1) := by decide +kernel
theorem dX9_block_78 : decode cX9_block 78 = .ok (.invokevirtual 69, 3) := by decide +kernel
theorem dX9_block_81 : decode cX9_block 81 = .ok (.ireturn, 1) := by decide +kernel
theorem dX9_block_82 : decode cX9_block 82 = .ok (.aload_n 0, 1) := by decide +kernel
theorem dX9_block_83 : decode cX9_block 83 = .ok (.iload_n 1, 1) := by decide +kernel
theorem dX9_block_84 : decode cX9_block 84 = .ok (.invokevirtual 144, 3) := by decide +kernel
theorem dX9_block_87 : decode cX9_block 87 = .ok (.iconst 1, 1) := by decide +kernel
theorem dX9_block_88 : decode cX9_block 88 = .ok (.iadd, 1) := by decide +kernel
theorem dX9_block_89 : decode cX9_block 89 = .ok (.ireturn, 1) := by decide +kernel
theorem dX9_block_90 : decode cX9_block 90 = .ok (.aload_n 0, 1) := by decide +kernel
theorem dX9_block_91 : decode cX9_block 91 = .ok (.iload_n 1, 1) := by decide +kernel
theorem dX9_block_92 : decode cX9_block 92 = .ok (.invokevirtual 147, 3) := by decide +kernel
theorem dX9_block_95 : decode cX9_block 95 = .ok (.ireturn, 1) := by decide +kernel
theorem dX9_block_96 : decode cX9_block 96 = .ok (.aload_n 0, 1) := by decide +kernel
theorem dX9_block_97 : decode cX9_block 97 = .ok (.iload_n 1, 1) := by decide +kernel
theorem dX9_block_98 : decode cX9_block 98 = .ok (.invokevirtual 150, 3) := by decide +kernel
theorem dX9_block_101 : decode cX9_block 101 = .ok (.ireturn, 1) := by decide +kernel
theorem dX9_block_102 : decode cX9_block 102 = .ok (.bipush (-2), 2) := by decide +kernel
theorem dX9_block_104 : decode cX9_block 104 = .ok (.ireturn, 1) := by decide +kernel
set_option maxHeartbeats 4000000 in
set_option maxRecDepth 100000 in
theorem m_X9_block (l : Launch) (D : va_G) (cA : ClassId) (a_this a_this_all a_this_kept a_this_history a_this_slots a_this_isSaved a_this_stream a_this_pad : Nat) (v_historyLong : Int32) (v_streamLong : Int32) (v_spot : Int32) (v_padLong : Int32) (v_padSpot : Int32) (v_readNumber : Int32) (g_all : Ar) (i1 : Int32) (i2 : Int32) (out : Int32) (hF : F_X9_block g_all i1 i2 = some out) : zM l D cA yX9_block cX9_block 3 (some .int) 6 135 [.ref a_this, .int i1, .int i2] (zw_36 cA 0 a_this a_this_all a_this_kept a_this_history a_this_slots a_this_isSaved a_this_stream a_this_pad v_historyLong v_streamLong v_spot v_padLong v_padSpot v_readNumber g_all) (zw_36 cA 0 a_this a_this_all a_this_kept a_this_history a_this_slots a_this_isSaved a_this_stream a_this_pad v_historyLong v_streamLong v_spot v_padLong v_padSpot v_readNumber g_all) (some (.int out)) := by
  refine z_body (by decide) (Nat.le_of_ble_eq_true rfl) ?_
  intro p e s m args below meth c ls H locs A X hl hw
  have hl : lv_has ls 3 [(0, .ref a_this), (1, .int i1), (2, .int i2)] := hl
  unfold F_X9_block at hF
  refine z_aload_n 0 X dX9_block_0 hl 0 rfl ?_
  refine z_iload_n 1 X dX9_block_1 hl 1 rfl ?_
  obtain ⟨u1, e2, hF⟩ := zbd hF
  refine z_callV 2 zc9 mv_X9_isBlock ml_9_141 0 [] (zk_118 cA 0 a_this a_this_all a_this_kept a_this_history a_this_slots a_this_isSaved a_this_stream a_this_pad v_historyLong v_streamLong v_spot v_padLong v_padSpot v_readNumber g_all) (m_X9_isBlock l D cA a_this a_this_all a_this_kept a_this_history a_this_slots a_this_isSaved a_this_stream a_this_pad v_historyLong v_streamLong v_spot v_padLong v_padSpot v_readNumber g_all i1 u1 e2) X dX9_block_2 hw hl rfl rfl rfl (Nat.le_of_ble_eq_true rfl) ⟨Nat.le_of_ble_eq_true rfl, Nat.le_of_ble_eq_true rfl⟩ ⟨Nat.zero_le _, Nat.zero_le _⟩ (fun H locs hw => ?_)
  refine z_if_ne 5 10 X dX9_block_5 (by decide) (fun c3 => ?_) (fun c3 => ?_)
  · replace hF := zneg c3 hF
    refine z_iload_n 10 X dX9_block_10 hl 2 rfl ?_
    by_cases c4 : i2 = 0
    · replace hF := zpos c4 hF
      refine z_swIn 11 52 0 X dX9_block_11 c4 ⟨by decide, by decide, rfl⟩ (by decide) ?_
      refine z_aload_n 52 X dX9_block_52 hl 0 rfl ?_
      refine z_iload_n 53 X dX9_block_53 hl 1 rfl ?_
      obtain ⟨u5, e6, hF⟩ := zbd hF
      refine z_callV 54 zc9 mv_X9_exponentOf ml_9_59 0 [] (zk_118 cA 0 a_this a_this_all a_this_kept a_this_history a_this_slots a_this_isSaved a_this_stream a_this_pad v_historyLong v_streamLong v_spot v_padLong v_padSpot v_readNumber g_all) (m_X9_exponentOf l D cA a_this a_this_all a_this_kept a_this_history a_this_slots a_this_isSaved a_this_stream a_this_pad v_historyLong v_streamLong v_spot v_padLong v_padSpot v_readNumber g_all i1 u5 e6) X dX9_block_54 hw hl rfl rfl rfl (Nat.le_of_ble_eq_true rfl) ⟨Nat.le_of_ble_eq_true rfl, Nat.le_of_ble_eq_true rfl⟩ ⟨Nat.zero_le _, Nat.zero_le _⟩ (fun H locs hw => ?_)
      cases hF
      exact z_iret 57 X dX9_block_57 hw rfl rfl
    · replace hF := zneg c4 hF
      by_cases c7 : i2 = 1
      · replace hF := zpos c7 hF
        refine z_swIn 11 58 1 X dX9_block_11 c7 ⟨by decide, by decide, rfl⟩ (by decide) ?_
        refine z_aload_n 58 X dX9_block_58 hl 0 rfl ?_
        refine z_iload_n 59 X dX9_block_59 hl 1 rfl ?_
        obtain ⟨u8, e9, hF⟩ := zbd hF
        refine z_callV 60 zc9 mv_X9_end ml_9_46 0 [] (zk_118 cA 0 a_this a_this_all a_this_kept a_this_history a_this_slots a_this_isSaved a_this_stream a_this_pad v_historyLong v_streamLong v_spot v_padLong v_padSpot v_readNumber g_all) (m_X9_end l D cA a_this a_this_all a_this_kept a_this_history a_this_slots a_this_isSaved a_this_stream a_this_pad v_historyLong v_streamLong v_spot v_padLong v_padSpot v_readNumber g_all i1 u8 e9) X dX9_block_60 hw hl rfl rfl rfl (Nat.le_of_ble_eq_true rfl) ⟨Nat.le_of_ble_eq_true rfl, Nat.le_of_ble_eq_true rfl⟩ ⟨Nat.zero_le _, Nat.zero_le _⟩ (fun H locs hw => ?_)
        refine z_aload_n 63 X dX9_block_63 hl 0 rfl ?_
        refine z_iload_n 64 X dX9_block_64 hl 1 rfl ?_
        obtain ⟨u10, e11, hF⟩ := zbd hF
        refine z_callV 65 zc9 mv_X9_first ml_9_43 0 [.int u8] (zk_118 cA 0 a_this a_this_all a_this_kept a_this_history a_this_slots a_this_isSaved a_this_stream a_this_pad v_historyLong v_streamLong v_spot v_padLong v_padSpot v_readNumber g_all) (m_X9_first l D cA a_this a_this_all a_this_kept a_this_history a_this_slots a_this_isSaved a_this_stream a_this_pad v_historyLong v_streamLong v_spot v_padLong v_padSpot v_readNumber g_all i1 u10 e11) X dX9_block_65 hw hl rfl rfl rfl (Nat.le_of_ble_eq_true rfl) ⟨Nat.le_of_ble_eq_true rfl, Nat.le_of_ble_eq_true rfl⟩ ⟨Nat.zero_le _, Nat.zero_le _⟩ (fun H locs hw => ?_)
        refine z_isub 68 X dX9_block_68 ?_
        cases hF
        exact z_iret 69 X dX9_block_69 hw rfl rfl
      · replace hF := zneg c7 hF
        by_cases c12 : i2 = 2
        · replace hF := zpos c12 hF
          refine z_swIn 11 70 2 X dX9_block_11 c12 ⟨by decide, by decide, rfl⟩ (by decide) ?_
          refine z_aload_n 70 X dX9_block_70 hl 0 rfl ?_
          refine z_iload_n 71 X dX9_block_71 hl 1 rfl ?_
          obtain ⟨u13, e14, hF⟩ := zbd hF
          refine z_callV 72 zc9 mv_X9_blockBits ml_9_62 0 [] (zk_118 cA 0 a_this a_this_all a_this_kept a_this_history a_this_slots a_this_isSaved a_this_stream a_this_pad v_historyLong v_streamLong v_spot v_padLong v_padSpot v_readNumber g_all) (m_X9_blockBits l D cA a_this a_this_all a_this_kept a_this_history a_this_slots a_this_isSaved a_this_stream a_this_pad v_historyLong v_streamLong v_spot v_padLong v_padSpot v_readNumber g_all i1 u13 e14) X dX9_block_72 hw hl rfl rfl rfl (Nat.le_of_ble_eq_true rfl) ⟨Nat.le_of_ble_eq_true rfl, Nat.le_of_ble_eq_true rfl⟩ ⟨Nat.zero_le _, Nat.zero_le _⟩ (fun H locs hw => ?_)
          cases hF
          exact z_iret 75 X dX9_block_75 hw rfl rfl
        · replace hF := zneg c12 hF
          by_cases c15 : i2 = 3
          · replace hF := zpos c15 hF
            refine z_swIn 11 76 3 X dX9_block_11 c15 ⟨by decide, by decide, rfl⟩ (by decide) ?_
            refine z_aload_n 76 X dX9_block_76 hl 0 rfl ?_
            refine z_iload_n 77 X dX9_block_77 hl 1 rfl ?_
            obtain ⟨u16, e17, hF⟩ := zbd hF
            refine z_callV 78 zc9 mv_X9_skip ml_9_69 0 [] (zk_118 cA 0 a_this a_this_all a_this_kept a_this_history a_this_slots a_this_isSaved a_this_stream a_this_pad v_historyLong v_streamLong v_spot v_padLong v_padSpot v_readNumber g_all) (m_X9_skip l D cA a_this a_this_all a_this_kept a_this_history a_this_slots a_this_isSaved a_this_stream a_this_pad v_historyLong v_streamLong v_spot v_padLong v_padSpot v_readNumber g_all i1 u16 e17) X dX9_block_78 hw hl rfl rfl rfl (Nat.le_of_ble_eq_true rfl) ⟨Nat.le_of_ble_eq_true rfl, Nat.le_of_ble_eq_true rfl⟩ ⟨Nat.zero_le _, Nat.zero_le _⟩ (fun H locs hw => ?_)
            cases hF
            exact z_iret 81 X dX9_block_81 hw rfl rfl
          · replace hF := zneg c15 hF
            by_cases c18 : i2 = 4
            · replace hF := zpos c18 hF
              refine z_swIn 11 82 4 X dX9_block_11 c18 ⟨by decide, by decide, rfl⟩ (by decide) ?_
              refine z_aload_n 82 X dX9_block_82 hl 0 rfl ?_
              refine z_iload_n 83 X dX9_block_83 hl 1 rfl ?_
              obtain ⟨u19, e20, hF⟩ := zbd hF
              refine z_callV 84 zc9 mv_X9_base ml_9_144 0 [] (zk_118 cA 0 a_this a_this_all a_this_kept a_this_history a_this_slots a_this_isSaved a_this_stream a_this_pad v_historyLong v_streamLong v_spot v_padLong v_padSpot v_readNumber g_all) (m_X9_base l D cA a_this a_this_all a_this_kept a_this_history a_this_slots a_this_isSaved a_this_stream a_this_pad v_historyLong v_streamLong v_spot v_padLong v_padSpot v_readNumber g_all i1 u19 e20) X dX9_block_84 hw hl rfl rfl rfl (Nat.le_of_ble_eq_true rfl) ⟨Nat.le_of_ble_eq_true rfl, Nat.le_of_ble_eq_true rfl⟩ ⟨Nat.zero_le _, Nat.zero_le _⟩ (fun H locs hw => ?_)
              refine z_iconst 87 1 X dX9_block_87 (by decide) ?_
              refine z_iadd 88 X dX9_block_88 ?_
              cases hF
              exact z_iret 89 X dX9_block_89 hw rfl rfl
            · replace hF := zneg c18 hF
              by_cases c21 : i2 = 5
              · replace hF := zpos c21 hF
                refine z_swIn 11 90 5 X dX9_block_11 c21 ⟨by decide, by decide, rfl⟩ (by decide) ?_
                refine z_aload_n 90 X dX9_block_90 hl 0 rfl ?_
                refine z_iload_n 91 X dX9_block_91 hl 1 rfl ?_
                obtain ⟨u22, e23, hF⟩ := zbd hF
                refine z_callV 92 zc9 mv_X9_escapes ml_9_147 0 [] (zk_118 cA 0 a_this a_this_all a_this_kept a_this_history a_this_slots a_this_isSaved a_this_stream a_this_pad v_historyLong v_streamLong v_spot v_padLong v_padSpot v_readNumber g_all) (m_X9_escapes l D cA a_this a_this_all a_this_kept a_this_history a_this_slots a_this_isSaved a_this_stream a_this_pad v_historyLong v_streamLong v_spot v_padLong v_padSpot v_readNumber g_all i1 u22 e23) X dX9_block_92 hw hl rfl rfl rfl (Nat.le_of_ble_eq_true rfl) ⟨Nat.le_of_ble_eq_true rfl, Nat.le_of_ble_eq_true rfl⟩ ⟨Nat.zero_le _, Nat.zero_le _⟩ (fun H locs hw => ?_)
                cases hF
                exact z_iret 95 X dX9_block_95 hw rfl rfl
              · replace hF := zneg c21 hF
                by_cases c24 : i2 = 6
                · replace hF := zpos c24 hF
                  refine z_swIn 11 96 6 X dX9_block_11 c24 ⟨by decide, by decide, rfl⟩ (by decide) ?_
                  refine z_aload_n 96 X dX9_block_96 hl 0 rfl ?_
                  refine z_iload_n 97 X dX9_block_97 hl 1 rfl ?_
                  obtain ⟨u25, e26, hF⟩ := zbd hF
                  refine z_callV 98 zc9 mv_X9_greatestGap ml_9_150 0 [] (zk_118 cA 0 a_this a_this_all a_this_kept a_this_history a_this_slots a_this_isSaved a_this_stream a_this_pad v_historyLong v_streamLong v_spot v_padLong v_padSpot v_readNumber g_all) (m_X9_greatestGap l D cA a_this a_this_all a_this_kept a_this_history a_this_slots a_this_isSaved a_this_stream a_this_pad v_historyLong v_streamLong v_spot v_padLong v_padSpot v_readNumber g_all i1 u25 e26) X dX9_block_98 hw hl rfl rfl rfl (Nat.le_of_ble_eq_true rfl) ⟨Nat.le_of_ble_eq_true rfl, Nat.le_of_ble_eq_true rfl⟩ ⟨Nat.zero_le _, Nat.zero_le _⟩ (fun H locs hw => ?_)
                  cases hF
                  exact z_iret 101 X dX9_block_101 hw rfl rfl
                · replace hF := zneg c24 hF
                  refine z_swOut 11 102 7 X dX9_block_11 (by decide) ⟨⟨⟨⟨⟨⟨⟨trivial, c4⟩, c7⟩, c12⟩, c15⟩, c18⟩, c21⟩, c24⟩ (by decide) ?_
                  refine z_bipush 102 (-2) X dX9_block_102 (by decide) ?_
                  cases hF
                  exact z_iret 104 X dX9_block_104 hw rfl rfl
  · replace hF := zpos c3 hF
    refine z_iconst 8 (-1) X dX9_block_8 (by decide) ?_
    cases hF
    exact z_iret 9 X dX9_block_9 hw rfl rfl
theorem dX9_writes_0 : decode cX9_writes 0 = .ok (.iload_n 2, 1) := by decide +kernel
theorem dX9_writes_1 : decode cX9_writes 1 = .ok (.iconst 1, 1) := by decide +kernel
theorem dX9_writes_2 : decode cX9_writes 2 = .ok (.isub, 1) := by decide +kernel
theorem dX9_writes_3 : decode cX9_writes 3 = .ok (.istore_n 3, 1) := by decide +kernel
theorem dX9_writes_4 : decode cX9_writes 4 = .ok (.iload_n 3, 1) := by decide +kernel
theorem dX9_writes_5 : decode cX9_writes 5 = .ok (.ifCond .lt 33, 3) := by decide +kernel
theorem dX9_writes_8 : decode cX9_writes 8 = .ok (.aload_n 0, 1) := by decide +kernel
theorem dX9_writes_9 : decode cX9_writes 9 = .ok (.getfield 25, 3) := by decide +kernel
theorem dX9_writes_12 : decode cX9_writes 12 = .ok (.aload_n 0, 1) := by decide +kernel
theorem dX9_writes_13 : decode cX9_writes 13 = .ok (.getfield 72, 3) := by decide +kernel
theorem dX9_writes_16 : decode cX9_writes 16 = .ok (.iload_n 1, 1) := by decide +kernel
theorem dX9_writes_17 : decode cX9_writes 17 = .ok (.iload_n 3, 1) := by decide +kernel
theorem dX9_writes_18 : decode cX9_writes 18 = .ok (.ishr, 1) := by decide +kernel
theorem dX9_writes_19 : decode cX9_writes 19 = .ok (.iconst 1, 1) := by decide +kernel
theorem dX9_writes_20 : decode cX9_writes 20 = .ok (.iand, 1) := by decide +kernel
theorem dX9_writes_21 : decode cX9_writes 21 = .ok (.iastore, 1) := by decide +kernel
theorem dX9_writes_22 : decode cX9_writes 22 = .ok (.aload_n 0, 1) := by decide +kernel
theorem dX9_writes_23 : decode cX9_writes 23 = .ok (.dup, 1) := by decide +kernel
theorem dX9_writes_24 : decode cX9_writes 24 = .ok (.getfield 72, 3) := by decide +kernel
theorem dX9_writes_27 : decode cX9_writes 27 = .ok (.iconst 1, 1) := by decide +kernel
theorem dX9_writes_28 : decode cX9_writes 28 = .ok (.iadd, 1) := by decide +kernel
theorem dX9_writes_29 : decode cX9_writes 29 = .ok (.putfield 72, 3) := by decide +kernel
theorem dX9_writes_32 : decode cX9_writes 32 = .ok (.iinc 3 (-1), 3) := by decide +kernel
theorem dX9_writes_35 : decode cX9_writes 35 = .ok (.goto (-31), 3) := by decide +kernel
theorem dX9_writes_38 : decode cX9_writes 38 = .ok (.return_, 1) := by decide +kernel
set_option maxHeartbeats 4000000 in
set_option maxRecDepth 100000 in
theorem l_X9_writes_4 (l : Launch) (D : va_G) (cA : ClassId) (a_this a_this_all a_this_kept a_this_history a_this_slots a_this_isSaved a_this_stream a_this_pad : Nat) (v_historyLong : Int32) (v_spot : Int32) (v_padLong : Int32) (v_padSpot : Int32) (v_readNumber : Int32) (i1 : Int32) (out : Int32 × Ar) {p : Program} {e : Env} {s : State} {m : MethodId} {args : Array Value} {below : List Frame} {meth : Method} {c : Code} {A : Nat → Prop} (X : zX D cA p s m args meth c cX9_writes 4 RX9 none) (k : Int32 → Ar → Option (Int32 × Ar)) (hk : ∀ (v_streamLong : Int32) (g_stream : Ar) (H : Heap) (locs : List Loc) (ls : Array Slot), zH D A s (zw_39 cA 0 a_this a_this_all a_this_kept a_this_history a_this_slots a_this_isSaved a_this_stream a_this_pad v_historyLong v_streamLong v_spot v_padLong v_padSpot v_readNumber g_stream) H locs → lv_has ls 4 [] → k v_streamLong g_stream = some out → W p l e (zR 0 0) s m args below meth c H locs 0 0 (MQ below (zQ D (zw_39 cA 0 a_this a_this_all a_this_kept a_this_history a_this_slots a_this_isSaved a_this_stream a_this_pad v_historyLong out.1 v_spot v_padLong v_padSpot v_readNumber out.2) none A) args s 0 0 A) (F0 m 38 ls [])) :
    ∀ (fuel : Nat) (v_streamLong : Int32) (g_stream : Ar) (i3 : Int32) (H : Heap) (locs : List Loc) (ls : Array Slot), zH D A s (zw_39 cA 0 a_this a_this_all a_this_kept a_this_history a_this_slots a_this_isSaved a_this_stream a_this_pad v_historyLong v_streamLong v_spot v_padLong v_padSpot v_readNumber g_stream) H locs → lv_has ls 4 [(0, .ref a_this), (1, .int i1), (3, .int i3)] → F_X9_writes_L4 i1 k fuel v_streamLong g_stream i3 = some out → W p l e (zR 0 0) s m args below meth c H locs 0 0 (MQ below (zQ D (zw_39 cA 0 a_this a_this_all a_this_kept a_this_history a_this_slots a_this_isSaved a_this_stream a_this_pad v_historyLong out.1 v_spot v_padLong v_padSpot v_readNumber out.2) none A) args s 0 0 A) (F0 m 4 ls []) := by
  intro fuel
  induction fuel with
  | zero => intro v_streamLong g_stream i3 H locs ls hw hl hF; exact nomatch (show (none : Option (Int32 × Ar)) = some out from hF)
  | succ fuel ih =>
    intro v_streamLong g_stream i3 H locs ls hw hl hF
    rw [F_X9_writes_L4] at hF
    refine z_iload_n 4 X dX9_writes_4 hl 2 rfl ?_
    refine z_if_lt 5 38 X dX9_writes_5 (by decide) (fun c1 => ?_) (fun c1 => ?_)
    · replace hF := zpos c1 hF
      exact hk v_streamLong g_stream H locs ls hw (lv_sub hl [] rfl) hF
    · replace hF := zneg c1 hF
      refine z_aload_n 8 X dX9_writes_8 hl 0 rfl ?_
      refine z_get 9 zc9 0 6 fl_9_25 X dX9_writes_9 hw rfl (by decide) rfl ?_
      refine z_aload_n 12 X dX9_writes_12 hl 0 rfl ?_
      refine z_get 13 zc9 0 7 fl_9_72 X dX9_writes_13 hw rfl (by decide) rfl ?_
      refine z_iload_n 16 X dX9_writes_16 hl 1 rfl ?_
      refine z_iload_n 17 X dX9_writes_17 hl 2 rfl ?_
      refine z_ishr 18 X dX9_writes_18 ?_
      refine z_iconst 19 1 X dX9_writes_19 (by decide) ?_
      refine z_iand 20 X dX9_writes_20 ?_
      obtain ⟨gd2, hF⟩ := zgd hF
      refine z_iast 21 1 (zw_39 cA 0 a_this a_this_all a_this_kept a_this_history a_this_slots a_this_isSaved a_this_stream a_this_pad v_historyLong v_streamLong v_spot v_padLong v_padSpot v_readNumber (upd g_stream (v_streamLong.toNatClampNeg) ((i1 >>> (i3 &&& 31)) &&& 1))) X dX9_writes_21 hw rfl gd2 rfl (fun H locs hw => ?_)
      refine z_aload_n 22 X dX9_writes_22 hl 0 rfl ?_
      refine z_dup 23 X dX9_writes_23 rfl ?_
      refine z_get 24 zc9 0 7 fl_9_72 X dX9_writes_24 hw rfl (by decide) rfl ?_
      refine z_iconst 27 1 X dX9_writes_27 (by decide) ?_
      refine z_iadd 28 X dX9_writes_28 ?_
      refine z_put 29 zc9 0 7 (zw_39 cA 0 a_this a_this_all a_this_kept a_this_history a_this_slots a_this_isSaved a_this_stream a_this_pad v_historyLong (v_streamLong + 1) v_spot v_padLong v_padSpot v_readNumber (upd g_stream (v_streamLong.toNatClampNeg) ((i1 >>> (i3 &&& 31)) &&& 1))) fl_9_72 X dX9_writes_29 hw rfl (by decide) rfl rfl rfl (Nat.le_of_ble_eq_true rfl) rfl (fun H locs hw => ?_)
      refine z_iinc2 32 (-1) [(3, .int (i3 + (-1))), (0, .ref a_this), (1, .int i1)] X dX9_writes_32 hl 2 rfl (by decide) (by decide) rfl (fun ls hl => ?_)
      refine z_goto 35 4 X dX9_writes_35 (by decide) ?_
      exact ih (v_streamLong + 1) (upd g_stream (v_streamLong.toNatClampNeg) ((i1 >>> (i3 &&& 31)) &&& 1)) (i3 + (-1)) H locs ls hw (lv_sub hl [1, 2, 0] rfl) hF
set_option maxHeartbeats 4000000 in
set_option maxRecDepth 100000 in
theorem m_X9_writes (l : Launch) (D : va_G) (cA : ClassId) (a_this a_this_all a_this_kept a_this_history a_this_slots a_this_isSaved a_this_stream a_this_pad : Nat) (v_historyLong : Int32) (v_streamLong : Int32) (v_spot : Int32) (v_padLong : Int32) (v_padSpot : Int32) (v_readNumber : Int32) (g_stream : Ar) (i1 : Int32) (i2 : Int32) (out : Int32 × Ar) (hF : F_X9_writes v_streamLong g_stream i1 i2 = some out) : zM l D cA yX9_writes cX9_writes 4 none 0 0 [.ref a_this, .int i1, .int i2] (zw_39 cA 0 a_this a_this_all a_this_kept a_this_history a_this_slots a_this_isSaved a_this_stream a_this_pad v_historyLong v_streamLong v_spot v_padLong v_padSpot v_readNumber g_stream) (zw_39 cA 0 a_this a_this_all a_this_kept a_this_history a_this_slots a_this_isSaved a_this_stream a_this_pad v_historyLong out.1 v_spot v_padLong v_padSpot v_readNumber out.2) none := by
  refine z_body (by decide) (Nat.le_of_ble_eq_true rfl) ?_
  intro p e s m args below meth c ls H locs A X hl hw
  have hl : lv_has ls 4 [(0, .ref a_this), (1, .int i1), (2, .int i2)] := hl
  unfold F_X9_writes at hF
  refine z_iload_n 0 X dX9_writes_0 hl 2 rfl ?_
  refine z_iconst 1 1 X dX9_writes_1 (by decide) ?_
  refine z_isub 2 X dX9_writes_2 ?_
  refine z_istore_n 3 [(3, .int (i2 - 1)), (0, .ref a_this), (1, .int i1), (2, .int i2)] X dX9_writes_3 hl (by decide) rfl (fun ls hl => ?_)
  refine l_X9_writes_4 l D cA a_this a_this_all a_this_kept a_this_history a_this_slots a_this_isSaved a_this_stream a_this_pad v_historyLong v_spot v_padLong v_padSpot v_readNumber i1 out X _ (fun v_streamLong_3 g_stream_4 H locs ls hw hl hF => ?_) zFuel v_streamLong g_stream (i2 - 1) H locs ls hw (lv_sub hl [1, 2, 0] rfl) hF
  cases hF
  exact z_vret 38 X dX9_writes_38 hw rfl rfl
theorem dX9_writesOnes_0 : decode cX9_writesOnes 0 = .ok (.iconst 0, 1) := by decide +kernel
theorem dX9_writesOnes_1 : decode cX9_writesOnes 1 = .ok (.istore_n 2, 1) := by decide +kernel
theorem dX9_writesOnes_2 : decode cX9_writesOnes 2 = .ok (.iload_n 2, 1) := by decide +kernel
theorem dX9_writesOnes_3 : decode cX9_writesOnes 3 = .ok (.iload_n 1, 1) := by decide +kernel
theorem dX9_writesOnes_4 : decode cX9_writesOnes 4 = .ok (.if_icmp .ge 15, 3) := by decide +kernel
theorem dX9_writesOnes_7 : decode cX9_writesOnes 7 = .ok (.aload_n 0, 1) := by decide +kernel
theorem dX9_writesOnes_8 : decode cX9_writesOnes 8 = .ok (.iconst 1, 1) := by decide +kernel
theorem dX9_writesOnes_9 : decode cX9_writesOnes 9 = .ok (.iconst 1, 1) := by decide +kernel
theorem dX9_writesOnes_10 : decode cX9_writesOnes 10 = .ok (.invokevirtual 75, 3) := by decide +kernel
theorem dX9_writesOnes_13 : decode cX9_writesOnes 13 = .ok (.iinc 2 1, 3) := by decide +kernel
theorem dX9_writesOnes_16 : decode cX9_writesOnes 16 = .ok (.goto (-14), 3) := by decide +kernel
theorem dX9_writesOnes_19 : decode cX9_writesOnes 19 = .ok (.return_, 1) := by decide +kernel
set_option maxHeartbeats 4000000 in
set_option maxRecDepth 100000 in
theorem zk_119 (cA : ClassId) (n : Nat) (a_this a_this_all a_this_kept a_this_history a_this_slots a_this_isSaved a_this_stream a_this_pad : Nat) (v_historyLong : Int32) (v_streamLong : Int32) (v_spot : Int32) (v_padLong : Int32) (v_padSpot : Int32) (v_readNumber : Int32) (g_stream : Ar) (v_streamLong' : Int32) (g_stream' : Ar) : zCW (zw_39 cA n a_this a_this_all a_this_kept a_this_history a_this_slots a_this_isSaved a_this_stream a_this_pad v_historyLong v_streamLong v_spot v_padLong v_padSpot v_readNumber g_stream) (zw_39 cA n a_this a_this_all a_this_kept a_this_history a_this_slots a_this_isSaved a_this_stream a_this_pad v_historyLong v_streamLong' v_spot v_padLong v_padSpot v_readNumber g_stream') [0, 1] [] (zw_39 cA 0 a_this a_this_all a_this_kept a_this_history a_this_slots a_this_isSaved a_this_stream a_this_pad v_historyLong v_streamLong v_spot v_padLong v_padSpot v_readNumber g_stream) (zw_39 cA 0 a_this a_this_all a_this_kept a_this_history a_this_slots a_this_isSaved a_this_stream a_this_pad v_historyLong v_streamLong' v_spot v_padLong v_padSpot v_readNumber g_stream') := ⟨rfl, (show (zw_39 cA 0 a_this a_this_all a_this_kept a_this_history a_this_slots a_this_isSaved a_this_stream a_this_pad v_historyLong v_streamLong' v_spot v_padLong v_padSpot v_readNumber g_stream').map Prod.fst = ([a_this, a_this_stream] : List Nat) from rfl).trans (show (zw_39 cA 0 a_this a_this_all a_this_kept a_this_history a_this_slots a_this_isSaved a_this_stream a_this_pad v_historyLong v_streamLong v_spot v_padLong v_padSpot v_readNumber g_stream).map Prod.fst = ([a_this, a_this_stream] : List Nat) from rfl).symm, by decide +kernel, (show (zw_39 cA n a_this a_this_all a_this_kept a_this_history a_this_slots a_this_isSaved a_this_stream a_this_pad v_historyLong v_streamLong' v_spot v_padLong v_padSpot v_readNumber g_stream').map Prod.fst = ([a_this, a_this_stream] : List Nat) from rfl).trans (show (zw_39 cA n a_this a_this_all a_this_kept a_this_history a_this_slots a_this_isSaved a_this_stream a_this_pad v_historyLong v_streamLong v_spot v_padLong v_padSpot v_readNumber g_stream).map Prod.fst = ([a_this, a_this_stream] : List Nat) from rfl).symm, rfl, rfl, by decide +kernel, rfl⟩
set_option maxHeartbeats 4000000 in
set_option maxRecDepth 100000 in
theorem l_X9_writesOnes_2 (l : Launch) (D : va_G) (cA : ClassId) (a_this a_this_all a_this_kept a_this_history a_this_slots a_this_isSaved a_this_stream a_this_pad : Nat) (v_historyLong : Int32) (v_spot : Int32) (v_padLong : Int32) (v_padSpot : Int32) (v_readNumber : Int32) (i1 : Int32) (out : Int32 × Ar) {p : Program} {e : Env} {s : State} {m : MethodId} {args : Array Value} {below : List Frame} {meth : Method} {c : Code} {A : Nat → Prop} (X : zX D cA p s m args meth c cX9_writesOnes 3 RX9 none) (k : Int32 → Ar → Option (Int32 × Ar)) (hk : ∀ (v_streamLong : Int32) (g_stream : Ar) (H : Heap) (locs : List Loc) (ls : Array Slot), zH D A s (zw_39 cA 0 a_this a_this_all a_this_kept a_this_history a_this_slots a_this_isSaved a_this_stream a_this_pad v_historyLong v_streamLong v_spot v_padLong v_padSpot v_readNumber g_stream) H locs → lv_has ls 3 [] → k v_streamLong g_stream = some out → W p l e (zR 1 23) s m args below meth c H locs 0 0 (MQ below (zQ D (zw_39 cA 0 a_this a_this_all a_this_kept a_this_history a_this_slots a_this_isSaved a_this_stream a_this_pad v_historyLong out.1 v_spot v_padLong v_padSpot v_readNumber out.2) none A) args s 0 0 A) (F0 m 19 ls [])) :
    ∀ (fuel : Nat) (v_streamLong : Int32) (g_stream : Ar) (i2 : Int32) (H : Heap) (locs : List Loc) (ls : Array Slot), zH D A s (zw_39 cA 0 a_this a_this_all a_this_kept a_this_history a_this_slots a_this_isSaved a_this_stream a_this_pad v_historyLong v_streamLong v_spot v_padLong v_padSpot v_readNumber g_stream) H locs → lv_has ls 3 [(0, .ref a_this), (1, .int i1), (2, .int i2)] → F_X9_writesOnes_L2 i1 k fuel v_streamLong g_stream i2 = some out → W p l e (zR 1 23) s m args below meth c H locs 0 0 (MQ below (zQ D (zw_39 cA 0 a_this a_this_all a_this_kept a_this_history a_this_slots a_this_isSaved a_this_stream a_this_pad v_historyLong out.1 v_spot v_padLong v_padSpot v_readNumber out.2) none A) args s 0 0 A) (F0 m 2 ls []) := by
  intro fuel
  induction fuel with
  | zero => intro v_streamLong g_stream i2 H locs ls hw hl hF; exact nomatch (show (none : Option (Int32 × Ar)) = some out from hF)
  | succ fuel ih =>
    intro v_streamLong g_stream i2 H locs ls hw hl hF
    rw [F_X9_writesOnes_L2] at hF
    refine z_iload_n 2 X dX9_writesOnes_2 hl 2 rfl ?_
    refine z_iload_n 3 X dX9_writesOnes_3 hl 1 rfl ?_
    refine z_icmp_ge 4 19 X dX9_writesOnes_4 (by decide) (fun c1 => ?_) (fun c1 => ?_)
    · replace hF := zpos c1 hF
      exact hk v_streamLong g_stream H locs ls hw (lv_sub hl [] rfl) hF
    · replace hF := zneg c1 hF
      refine z_aload_n 7 X dX9_writesOnes_7 hl 0 rfl ?_
      refine z_iconst 8 1 X dX9_writesOnes_8 (by decide) ?_
      refine z_iconst 9 1 X dX9_writesOnes_9 (by decide) ?_
      obtain ⟨u2, e3, hF⟩ := zbd hF
      refine z_callV 10 zc9 mv_X9_writes ml_9_75 0 [] (zk_119 cA 0 a_this a_this_all a_this_kept a_this_history a_this_slots a_this_isSaved a_this_stream a_this_pad v_historyLong v_streamLong v_spot v_padLong v_padSpot v_readNumber g_stream u2.1 u2.2) (m_X9_writes l D cA a_this a_this_all a_this_kept a_this_history a_this_slots a_this_isSaved a_this_stream a_this_pad v_historyLong v_streamLong v_spot v_padLong v_padSpot v_readNumber g_stream 1 1 u2 e3) X dX9_writesOnes_10 hw hl rfl rfl rfl (Nat.le_of_ble_eq_true rfl) ⟨Nat.le_of_ble_eq_true rfl, Nat.le_of_ble_eq_true rfl⟩ ⟨Nat.zero_le _, Nat.zero_le _⟩ (fun H locs hw => ?_)
      refine z_iinc2 13 1 [(2, .int (i2 + 1)), (0, .ref a_this), (1, .int i1)] X dX9_writesOnes_13 hl 2 rfl (by decide) (by decide) rfl (fun ls hl => ?_)
      refine z_goto 16 2 X dX9_writesOnes_16 (by decide) ?_
      exact ih u2.1 u2.2 (i2 + 1) H locs ls hw (lv_sub hl [1, 2, 0] rfl) hF
set_option maxHeartbeats 4000000 in
set_option maxRecDepth 100000 in
theorem m_X9_writesOnes (l : Launch) (D : va_G) (cA : ClassId) (a_this a_this_all a_this_kept a_this_history a_this_slots a_this_isSaved a_this_stream a_this_pad : Nat) (v_historyLong : Int32) (v_streamLong : Int32) (v_spot : Int32) (v_padLong : Int32) (v_padSpot : Int32) (v_readNumber : Int32) (g_stream : Ar) (i1 : Int32) (out : Int32 × Ar) (hF : F_X9_writesOnes v_streamLong g_stream i1 = some out) : zM l D cA yX9_writesOnes cX9_writesOnes 3 none 1 23 [.ref a_this, .int i1] (zw_39 cA 0 a_this a_this_all a_this_kept a_this_history a_this_slots a_this_isSaved a_this_stream a_this_pad v_historyLong v_streamLong v_spot v_padLong v_padSpot v_readNumber g_stream) (zw_39 cA 0 a_this a_this_all a_this_kept a_this_history a_this_slots a_this_isSaved a_this_stream a_this_pad v_historyLong out.1 v_spot v_padLong v_padSpot v_readNumber out.2) none := by
  refine z_body (by decide) (Nat.le_of_ble_eq_true rfl) ?_
  intro p e s m args below meth c ls H locs A X hl hw
  have hl : lv_has ls 3 [(0, .ref a_this), (1, .int i1)] := hl
  unfold F_X9_writesOnes at hF
  refine z_iconst 0 0 X dX9_writesOnes_0 (by decide) ?_
  refine z_istore_n 1 [(2, .int 0), (0, .ref a_this), (1, .int i1)] X dX9_writesOnes_1 hl (by decide) rfl (fun ls hl => ?_)
  refine l_X9_writesOnes_2 l D cA a_this a_this_all a_this_kept a_this_history a_this_slots a_this_isSaved a_this_stream a_this_pad v_historyLong v_spot v_padLong v_padSpot v_readNumber i1 out X _ (fun v_streamLong_4 g_stream_5 H locs ls hw hl hF => ?_) zFuel v_streamLong g_stream 0 H locs ls hw (lv_sub hl [1, 2, 0] rfl) hF
  cases hF
  exact z_vret 19 X dX9_writesOnes_19 hw rfl rfl
theorem dX9_lays_0 : decode cX9_lays 0 = .ok (.aload_n 0, 1) := by decide +kernel
theorem dX9_lays_1 : decode cX9_lays 1 = .ok (.iconst 0, 1) := by decide +kernel
theorem dX9_lays_2 : decode cX9_lays 2 = .ok (.putfield 72, 3) := by decide +kernel
theorem dX9_lays_5 : decode cX9_lays 5 = .ok (.iconst 0, 1) := by decide +kernel
theorem dX9_lays_6 : decode cX9_lays 6 = .ok (.istore_n 1, 1) := by decide +kernel
theorem dX9_lays_7 : decode cX9_lays 7 = .ok (.iload_n 1, 1) := by decide +kernel
theorem dX9_lays_8 : decode cX9_lays 8 = .ok (.aload_n 0, 1) := by decide +kernel
theorem dX9_lays_9 : decode cX9_lays 9 = .ok (.invokevirtual 65, 3) := by decide +kernel
theorem dX9_lays_12 : decode cX9_lays 12 = .ok (.if_icmp .ge 101, 3) := by decide +kernel
theorem dX9_lays_15 : decode cX9_lays 15 = .ok (.aload_n 0, 1) := by decide +kernel
theorem dX9_lays_16 : decode cX9_lays 16 = .ok (.iload_n 1, 1) := by decide +kernel
theorem dX9_lays_17 : decode cX9_lays 17 = .ok (.invokevirtual 59, 3) := by decide +kernel
theorem dX9_lays_20 : decode cX9_lays 20 = .ok (.istore_n 2, 1) := by decide +kernel
theorem dX9_lays_21 : decode cX9_lays 21 = .ok (.aload_n 0, 1) := by decide +kernel
theorem dX9_lays_22 : decode cX9_lays 22 = .ok (.iload_n 2, 1) := by decide +kernel
theorem dX9_lays_23 : decode cX9_lays 23 = .ok (.iconst 4, 1) := by decide +kernel
theorem dX9_lays_24 : decode cX9_lays 24 = .ok (.invokevirtual 75, 3) := by decide +kernel
theorem dX9_lays_27 : decode cX9_lays 27 = .ok (.aload_n 0, 1) := by decide +kernel
theorem dX9_lays_28 : decode cX9_lays 28 = .ok (.iload_n 1, 1) := by decide +kernel
theorem dX9_lays_29 : decode cX9_lays 29 = .ok (.invokevirtual 43, 3) := by decide +kernel
theorem dX9_lays_32 : decode cX9_lays 32 = .ok (.istore_n 3, 1) := by decide +kernel
theorem dX9_lays_33 : decode cX9_lays 33 = .ok (.iload_n 3, 1) := by decide +kernel
theorem dX9_lays_34 : decode cX9_lays 34 = .ok (.aload_n 0, 1) := by decide +kernel
theorem dX9_lays_35 : decode cX9_lays 35 = .ok (.iload_n 1, 1) := by decide +kernel
theorem dX9_lays_36 : decode cX9_lays 36 = .ok (.invokevirtual 46, 3) := by decide +kernel
theorem dX9_lays_39 : decode cX9_lays 39 = .ok (.if_icmp .ge 68, 3) := by decide +kernel
theorem dX9_lays_42 : decode cX9_lays 42 = .ok (.aload_n 0, 1) := by decide +kernel
theorem dX9_lays_43 : decode cX9_lays 43 = .ok (.iload_n 3, 1) := by decide +kernel
theorem dX9_lays_44 : decode cX9_lays 44 = .ok (.invokevirtual 49, 3) := by decide +kernel
theorem dX9_lays_47 : decode cX9_lays 47 = .ok (.istore 4, 2) := by decide +kernel
theorem dX9_lays_49 : decode cX9_lays 49 = .ok (.aload_n 0, 1) := by decide +kernel
theorem dX9_lays_50 : decode cX9_lays 50 = .ok (.iload 4, 2) := by decide +kernel
theorem dX9_lays_52 : decode cX9_lays 52 = .ok (.iload_n 2, 1) := by decide +kernel
theorem dX9_lays_53 : decode cX9_lays 53 = .ok (.invokevirtual 39, 3) := by decide +kernel
theorem dX9_lays_56 : decode cX9_lays 56 = .ok (.ifCond .eq 24, 3) := by decide +kernel
theorem dX9_lays_59 : decode cX9_lays 59 = .ok (.aload_n 0, 1) := by decide +kernel
theorem dX9_lays_60 : decode cX9_lays 60 = .ok (.aload_n 0, 1) := by decide +kernel
theorem dX9_lays_61 : decode cX9_lays 61 = .ok (.getfield 7, 3) := by decide +kernel
theorem dX9_lays_64 : decode cX9_lays 64 = .ok (.iconst 1, 1) := by decide +kernel
theorem dX9_lays_65 : decode cX9_lays 65 = .ok (.iaload, 1) := by decide +kernel
theorem dX9_lays_66 : decode cX9_lays 66 = .ok (.invokevirtual 79, 3) := by decide +kernel
theorem dX9_lays_69 : decode cX9_lays 69 = .ok (.aload_n 0, 1) := by decide +kernel
theorem dX9_lays_70 : decode cX9_lays 70 = .ok (.iload 4, 2) := by decide +kernel
theorem dX9_lays_72 : decode cX9_lays 72 = .ok (.bipush 16, 2) := by decide +kernel
theorem dX9_lays_74 : decode cX9_lays 74 = .ok (.invokevirtual 75, 3) := by decide +kernel
theorem dX9_lays_77 : decode cX9_lays 77 = .ok (.goto 24, 3) := by decide +kernel
theorem dX9_lays_80 : decode cX9_lays 80 = .ok (.aload_n 0, 1) := by decide +kernel
theorem dX9_lays_81 : decode cX9_lays 81 = .ok (.iload 4, 2) := by decide +kernel
theorem dX9_lays_83 : decode cX9_lays 83 = .ok (.iload_n 2, 1) := by decide +kernel
theorem dX9_lays_84 : decode cX9_lays 84 = .ok (.ishr, 1) := by decide +kernel
theorem dX9_lays_85 : decode cX9_lays 85 = .ok (.invokevirtual 79, 3) := by decide +kernel
theorem dX9_lays_88 : decode cX9_lays 88 = .ok (.aload_n 0, 1) := by decide +kernel
theorem dX9_lays_89 : decode cX9_lays 89 = .ok (.iconst 0, 1) := by decide +kernel
theorem dX9_lays_90 : decode cX9_lays 90 = .ok (.iconst 1, 1) := by decide +kernel
theorem dX9_lays_91 : decode cX9_lays 91 = .ok (.invokevirtual 75, 3) := by decide +kernel
theorem dX9_lays_94 : decode cX9_lays 94 = .ok (.aload_n 0, 1) := by decide +kernel
theorem dX9_lays_95 : decode cX9_lays 95 = .ok (.iload 4, 2) := by decide +kernel
theorem dX9_lays_97 : decode cX9_lays 97 = .ok (.iload_n 2, 1) := by decide +kernel
theorem dX9_lays_98 : decode cX9_lays 98 = .ok (.invokevirtual 75, 3) := by decide +kernel
theorem dX9_lays_101 : decode cX9_lays 101 = .ok (.iinc 3 1, 3) := by decide +kernel
theorem dX9_lays_104 : decode cX9_lays 104 = .ok (.goto (-71), 3) := by decide +kernel
theorem dX9_lays_107 : decode cX9_lays 107 = .ok (.iinc 1 1, 3) := by decide +kernel
theorem dX9_lays_110 : decode cX9_lays 110 = .ok (.goto (-103), 3) := by decide +kernel
theorem dX9_lays_113 : decode cX9_lays 113 = .ok (.return_, 1) := by decide +kernel
set_option maxHeartbeats 4000000 in
set_option maxRecDepth 100000 in
theorem zk_120 (cA : ClassId) (n : Nat) (a_this a_this_all a_this_kept a_this_history a_this_slots a_this_isSaved a_this_stream a_this_pad : Nat) (v_historyLong : Int32) (v_streamLong : Int32) (v_spot : Int32) (v_padLong : Int32) (v_padSpot : Int32) (v_readNumber : Int32) (g_all : Ar) (g_stream : Ar)  : zCW (zw_40 cA n a_this a_this_all a_this_kept a_this_history a_this_slots a_this_isSaved a_this_stream a_this_pad v_historyLong v_streamLong v_spot v_padLong v_padSpot v_readNumber g_all g_stream) (zw_40 cA n a_this a_this_all a_this_kept a_this_history a_this_slots a_this_isSaved a_this_stream a_this_pad v_historyLong v_streamLong v_spot v_padLong v_padSpot v_readNumber g_all g_stream) [0, 1] [2] (zw_36 cA 0 a_this a_this_all a_this_kept a_this_history a_this_slots a_this_isSaved a_this_stream a_this_pad v_historyLong v_streamLong v_spot v_padLong v_padSpot v_readNumber g_all) (zw_36 cA 0 a_this a_this_all a_this_kept a_this_history a_this_slots a_this_isSaved a_this_stream a_this_pad v_historyLong v_streamLong v_spot v_padLong v_padSpot v_readNumber g_all) := ⟨rfl, (show (zw_36 cA 0 a_this a_this_all a_this_kept a_this_history a_this_slots a_this_isSaved a_this_stream a_this_pad v_historyLong v_streamLong v_spot v_padLong v_padSpot v_readNumber g_all).map Prod.fst = ([a_this, a_this_all] : List Nat) from rfl).trans (show (zw_36 cA 0 a_this a_this_all a_this_kept a_this_history a_this_slots a_this_isSaved a_this_stream a_this_pad v_historyLong v_streamLong v_spot v_padLong v_padSpot v_readNumber g_all).map Prod.fst = ([a_this, a_this_all] : List Nat) from rfl).symm, by decide +kernel, (show (zw_40 cA n a_this a_this_all a_this_kept a_this_history a_this_slots a_this_isSaved a_this_stream a_this_pad v_historyLong v_streamLong v_spot v_padLong v_padSpot v_readNumber g_all g_stream).map Prod.fst = ([a_this, a_this_all, a_this_stream] : List Nat) from rfl).trans (show (zw_40 cA n a_this a_this_all a_this_kept a_this_history a_this_slots a_this_isSaved a_this_stream a_this_pad v_historyLong v_streamLong v_spot v_padLong v_padSpot v_readNumber g_all g_stream).map Prod.fst = ([a_this, a_this_all, a_this_stream] : List Nat) from rfl).symm, rfl, (show ([2] : List Nat).map (fun i => (zw_40 cA n a_this a_this_all a_this_kept a_this_history a_this_slots a_this_isSaved a_this_stream a_this_pad v_historyLong v_streamLong v_spot v_padLong v_padSpot v_readNumber g_all g_stream)[i]?) = ([(a_this_stream, .inl (cA, 3300, .inl g_stream))] : va_W).map some from rfl).trans (show ([2] : List Nat).map (fun i => (zw_40 cA n a_this a_this_all a_this_kept a_this_history a_this_slots a_this_isSaved a_this_stream a_this_pad v_historyLong v_streamLong v_spot v_padLong v_padSpot v_readNumber g_all g_stream)[i]?) = ([(a_this_stream, .inl (cA, 3300, .inl g_stream))] : va_W).map some from rfl).symm, by decide +kernel, rfl⟩
set_option maxHeartbeats 4000000 in
set_option maxRecDepth 100000 in
theorem zk_121 (cA : ClassId) (n : Nat) (a_this a_this_all a_this_kept a_this_history a_this_slots a_this_isSaved a_this_stream a_this_pad : Nat) (v_historyLong : Int32) (v_streamLong : Int32) (v_spot : Int32) (v_padLong : Int32) (v_padSpot : Int32) (v_readNumber : Int32) (g_all : Ar) (g_stream : Ar) (v_streamLong' : Int32) (g_stream' : Ar) : zCW (zw_40 cA n a_this a_this_all a_this_kept a_this_history a_this_slots a_this_isSaved a_this_stream a_this_pad v_historyLong v_streamLong v_spot v_padLong v_padSpot v_readNumber g_all g_stream) (zw_40 cA n a_this a_this_all a_this_kept a_this_history a_this_slots a_this_isSaved a_this_stream a_this_pad v_historyLong v_streamLong' v_spot v_padLong v_padSpot v_readNumber g_all g_stream') [0, 2] [1] (zw_39 cA 0 a_this a_this_all a_this_kept a_this_history a_this_slots a_this_isSaved a_this_stream a_this_pad v_historyLong v_streamLong v_spot v_padLong v_padSpot v_readNumber g_stream) (zw_39 cA 0 a_this a_this_all a_this_kept a_this_history a_this_slots a_this_isSaved a_this_stream a_this_pad v_historyLong v_streamLong' v_spot v_padLong v_padSpot v_readNumber g_stream') := ⟨rfl, (show (zw_39 cA 0 a_this a_this_all a_this_kept a_this_history a_this_slots a_this_isSaved a_this_stream a_this_pad v_historyLong v_streamLong' v_spot v_padLong v_padSpot v_readNumber g_stream').map Prod.fst = ([a_this, a_this_stream] : List Nat) from rfl).trans (show (zw_39 cA 0 a_this a_this_all a_this_kept a_this_history a_this_slots a_this_isSaved a_this_stream a_this_pad v_historyLong v_streamLong v_spot v_padLong v_padSpot v_readNumber g_stream).map Prod.fst = ([a_this, a_this_stream] : List Nat) from rfl).symm, by decide +kernel, (show (zw_40 cA n a_this a_this_all a_this_kept a_this_history a_this_slots a_this_isSaved a_this_stream a_this_pad v_historyLong v_streamLong' v_spot v_padLong v_padSpot v_readNumber g_all g_stream').map Prod.fst = ([a_this, a_this_all, a_this_stream] : List Nat) from rfl).trans (show (zw_40 cA n a_this a_this_all a_this_kept a_this_history a_this_slots a_this_isSaved a_this_stream a_this_pad v_historyLong v_streamLong v_spot v_padLong v_padSpot v_readNumber g_all g_stream).map Prod.fst = ([a_this, a_this_all, a_this_stream] : List Nat) from rfl).symm, rfl, (show ([1] : List Nat).map (fun i => (zw_40 cA n a_this a_this_all a_this_kept a_this_history a_this_slots a_this_isSaved a_this_stream a_this_pad v_historyLong v_streamLong' v_spot v_padLong v_padSpot v_readNumber g_all g_stream')[i]?) = ([(a_this_all, .inl (cA, 67, .inl g_all))] : va_W).map some from rfl).trans (show ([1] : List Nat).map (fun i => (zw_40 cA n a_this a_this_all a_this_kept a_this_history a_this_slots a_this_isSaved a_this_stream a_this_pad v_historyLong v_streamLong v_spot v_padLong v_padSpot v_readNumber g_all g_stream)[i]?) = ([(a_this_all, .inl (cA, 67, .inl g_all))] : va_W).map some from rfl).symm, by decide +kernel, rfl⟩
set_option maxHeartbeats 4000000 in
set_option maxRecDepth 100000 in
theorem l_X9_lays_33 (l : Launch) (D : va_G) (cA : ClassId) (a_this a_this_all a_this_kept a_this_history a_this_slots a_this_isSaved a_this_stream a_this_pad : Nat) (v_historyLong : Int32) (v_spot : Int32) (v_padLong : Int32) (v_padSpot : Int32) (v_readNumber : Int32) (g_all : Ar) (i1 : Int32) (i2 : Int32) (out : Int32 × Ar) {p : Program} {e : Env} {s : State} {m : MethodId} {args : Array Value} {below : List Frame} {meth : Method} {c : Code} {A : Nat → Prop} (X : zX D cA p s m args meth c cX9_lays 5 RX9 none) (k : Int32 → Ar → Option (Int32 × Ar)) (hk : ∀ (v_streamLong : Int32) (g_stream : Ar) (H : Heap) (locs : List Loc) (ls : Array Slot), zH D A s (zw_40 cA 0 a_this a_this_all a_this_kept a_this_history a_this_slots a_this_isSaved a_this_stream a_this_pad v_historyLong v_streamLong v_spot v_padLong v_padSpot v_readNumber g_all g_stream) H locs → lv_has ls 5 [(0, .ref a_this), (1, .int i1)] → k v_streamLong g_stream = some out → W p l e (zR 4 91) s m args below meth c H locs 0 0 (MQ below (zQ D (zw_40 cA 0 a_this a_this_all a_this_kept a_this_history a_this_slots a_this_isSaved a_this_stream a_this_pad v_historyLong out.1 v_spot v_padLong v_padSpot v_readNumber g_all out.2) none A) args s 0 0 A) (F0 m 107 ls [])) :
    ∀ (fuel : Nat) (v_streamLong : Int32) (g_stream : Ar) (i3 : Int32) (H : Heap) (locs : List Loc) (ls : Array Slot), zH D A s (zw_40 cA 0 a_this a_this_all a_this_kept a_this_history a_this_slots a_this_isSaved a_this_stream a_this_pad v_historyLong v_streamLong v_spot v_padLong v_padSpot v_readNumber g_all g_stream) H locs → lv_has ls 5 [(0, .ref a_this), (1, .int i1), (2, .int i2), (3, .int i3)] → F_X9_lays_L33 g_all i1 i2 k fuel v_streamLong g_stream i3 = some out → W p l e (zR 4 91) s m args below meth c H locs 0 0 (MQ below (zQ D (zw_40 cA 0 a_this a_this_all a_this_kept a_this_history a_this_slots a_this_isSaved a_this_stream a_this_pad v_historyLong out.1 v_spot v_padLong v_padSpot v_readNumber g_all out.2) none A) args s 0 0 A) (F0 m 33 ls []) := by
  intro fuel
  induction fuel with
  | zero => intro v_streamLong g_stream i3 H locs ls hw hl hF; exact nomatch (show (none : Option (Int32 × Ar)) = some out from hF)
  | succ fuel ih =>
    intro v_streamLong g_stream i3 H locs ls hw hl hF
    rw [F_X9_lays_L33] at hF
    refine z_iload_n 33 X dX9_lays_33 hl 3 rfl ?_
    refine z_aload_n 34 X dX9_lays_34 hl 0 rfl ?_
    refine z_iload_n 35 X dX9_lays_35 hl 1 rfl ?_
    obtain ⟨u10, e11, hF⟩ := zbd hF
    refine z_callV 36 zc9 mv_X9_end ml_9_46 0 [.int i3] (zk_120 cA 0 a_this a_this_all a_this_kept a_this_history a_this_slots a_this_isSaved a_this_stream a_this_pad v_historyLong v_streamLong v_spot v_padLong v_padSpot v_readNumber g_all g_stream) (m_X9_end l D cA a_this a_this_all a_this_kept a_this_history a_this_slots a_this_isSaved a_this_stream a_this_pad v_historyLong v_streamLong v_spot v_padLong v_padSpot v_readNumber g_all i1 u10 e11) X dX9_lays_36 hw hl rfl rfl rfl (Nat.le_of_ble_eq_true rfl) ⟨Nat.le_of_ble_eq_true rfl, Nat.le_of_ble_eq_true rfl⟩ ⟨Nat.zero_le _, Nat.zero_le _⟩ (fun H locs hw => ?_)
    refine z_icmp_ge 39 107 X dX9_lays_39 (by decide) (fun c12 => ?_) (fun c12 => ?_)
    · replace hF := zpos c12 hF
      exact hk v_streamLong g_stream H locs ls hw (lv_sub hl [0, 1] rfl) hF
    · replace hF := zneg c12 hF
      refine z_aload_n 42 X dX9_lays_42 hl 0 rfl ?_
      refine z_iload_n 43 X dX9_lays_43 hl 3 rfl ?_
      obtain ⟨u13, e14, hF⟩ := zbd hF
      refine z_callV 44 zc9 mv_X9_gapOf ml_9_49 0 [] (zk_120 cA 0 a_this a_this_all a_this_kept a_this_history a_this_slots a_this_isSaved a_this_stream a_this_pad v_historyLong v_streamLong v_spot v_padLong v_padSpot v_readNumber g_all g_stream) (m_X9_gapOf l D cA a_this a_this_all a_this_kept a_this_history a_this_slots a_this_isSaved a_this_stream a_this_pad v_historyLong v_streamLong v_spot v_padLong v_padSpot v_readNumber g_all i3 u13 e14) X dX9_lays_44 hw hl rfl rfl rfl (Nat.le_of_ble_eq_true rfl) ⟨Nat.le_of_ble_eq_true rfl, Nat.le_of_ble_eq_true rfl⟩ ⟨Nat.zero_le _, Nat.zero_le _⟩ (fun H locs hw => ?_)
      refine z_istore 47 [(4, .int u13), (0, .ref a_this), (1, .int i1), (2, .int i2), (3, .int i3)] X dX9_lays_47 hl (by decide) rfl (fun ls hl => ?_)
      refine z_aload_n 49 X dX9_lays_49 hl 1 rfl ?_
      refine z_iload 50 X dX9_lays_50 hl 0 rfl ?_
      refine z_iload_n 52 X dX9_lays_52 hl 3 rfl ?_
      obtain ⟨u15, e16, hF⟩ := zbd hF
      refine z_callV 53 zc9 mv_X9_isEscape ml_9_39 0 [] (zk_120 cA 0 a_this a_this_all a_this_kept a_this_history a_this_slots a_this_isSaved a_this_stream a_this_pad v_historyLong v_streamLong v_spot v_padLong v_padSpot v_readNumber g_all g_stream) (m_X9_isEscape l D cA a_this a_this_all a_this_kept a_this_history a_this_slots a_this_isSaved a_this_stream a_this_pad v_historyLong v_streamLong v_spot v_padLong v_padSpot v_readNumber g_all u13 i2 u15 e16) X dX9_lays_53 hw hl rfl rfl rfl (Nat.le_of_ble_eq_true rfl) ⟨Nat.le_of_ble_eq_true rfl, Nat.le_of_ble_eq_true rfl⟩ ⟨Nat.zero_le _, Nat.zero_le _⟩ (fun H locs hw => ?_)
      refine z_if_eq 56 80 X dX9_lays_56 (by decide) (fun c17 => ?_) (fun c17 => ?_)
      · replace hF := zpos c17 hF
        refine z_aload_n 80 X dX9_lays_80 hl 1 rfl ?_
        refine z_iload 81 X dX9_lays_81 hl 0 rfl ?_
        refine z_iload_n 83 X dX9_lays_83 hl 3 rfl ?_
        refine z_ishr 84 X dX9_lays_84 ?_
        obtain ⟨u18, e19, hF⟩ := zbd hF
        refine z_callV 85 zc9 mv_X9_writesOnes ml_9_79 0 [] (zk_121 cA 0 a_this a_this_all a_this_kept a_this_history a_this_slots a_this_isSaved a_this_stream a_this_pad v_historyLong v_streamLong v_spot v_padLong v_padSpot v_readNumber g_all g_stream u18.1 u18.2) (m_X9_writesOnes l D cA a_this a_this_all a_this_kept a_this_history a_this_slots a_this_isSaved a_this_stream a_this_pad v_historyLong v_streamLong v_spot v_padLong v_padSpot v_readNumber g_stream (u13 >>> (i2 &&& 31)) u18 e19) X dX9_lays_85 hw hl rfl rfl rfl (Nat.le_of_ble_eq_true rfl) ⟨Nat.le_of_ble_eq_true rfl, Nat.le_of_ble_eq_true rfl⟩ ⟨Nat.zero_le _, Nat.zero_le _⟩ (fun H locs hw => ?_)
        refine z_aload_n 88 X dX9_lays_88 hl 1 rfl ?_
        refine z_iconst 89 0 X dX9_lays_89 (by decide) ?_
        refine z_iconst 90 1 X dX9_lays_90 (by decide) ?_
        obtain ⟨u20, e21, hF⟩ := zbd hF
        refine z_callV 91 zc9 mv_X9_writes ml_9_75 0 [] (zk_121 cA 0 a_this a_this_all a_this_kept a_this_history a_this_slots a_this_isSaved a_this_stream a_this_pad v_historyLong u18.1 v_spot v_padLong v_padSpot v_readNumber g_all u18.2 u20.1 u20.2) (m_X9_writes l D cA a_this a_this_all a_this_kept a_this_history a_this_slots a_this_isSaved a_this_stream a_this_pad v_historyLong u18.1 v_spot v_padLong v_padSpot v_readNumber u18.2 0 1 u20 e21) X dX9_lays_91 hw hl rfl rfl rfl (Nat.le_of_ble_eq_true rfl) ⟨Nat.le_of_ble_eq_true rfl, Nat.le_of_ble_eq_true rfl⟩ ⟨Nat.zero_le _, Nat.zero_le _⟩ (fun H locs hw => ?_)
        refine z_aload_n 94 X dX9_lays_94 hl 1 rfl ?_
        refine z_iload 95 X dX9_lays_95 hl 0 rfl ?_
        refine z_iload_n 97 X dX9_lays_97 hl 3 rfl ?_
        obtain ⟨u22, e23, hF⟩ := zbd hF
        refine z_callV 98 zc9 mv_X9_writes ml_9_75 0 [] (zk_121 cA 0 a_this a_this_all a_this_kept a_this_history a_this_slots a_this_isSaved a_this_stream a_this_pad v_historyLong u20.1 v_spot v_padLong v_padSpot v_readNumber g_all u20.2 u22.1 u22.2) (m_X9_writes l D cA a_this a_this_all a_this_kept a_this_history a_this_slots a_this_isSaved a_this_stream a_this_pad v_historyLong u20.1 v_spot v_padLong v_padSpot v_readNumber u20.2 u13 i2 u22 e23) X dX9_lays_98 hw hl rfl rfl rfl (Nat.le_of_ble_eq_true rfl) ⟨Nat.le_of_ble_eq_true rfl, Nat.le_of_ble_eq_true rfl⟩ ⟨Nat.zero_le _, Nat.zero_le _⟩ (fun H locs hw => ?_)
        refine z_iinc2 101 1 [(3, .int (i3 + 1)), (4, .int u13), (0, .ref a_this), (1, .int i1), (2, .int i2)] X dX9_lays_101 hl 4 rfl (by decide) (by decide) rfl (fun ls hl => ?_)
        refine z_goto 104 33 X dX9_lays_104 (by decide) ?_
        exact ih u22.1 u22.2 (i3 + 1) H locs ls hw (lv_sub hl [2, 3, 4, 0] rfl) hF
      · replace hF := zneg c17 hF
        refine z_aload_n 59 X dX9_lays_59 hl 1 rfl ?_
        refine z_aload_n 60 X dX9_lays_60 hl 1 rfl ?_
        refine z_get 61 zc9 0 0 fl_9_7 X dX9_lays_61 hw rfl (by decide) rfl ?_
        refine z_iconst 64 1 X dX9_lays_64 (by decide) ?_
        refine z_iald 65 1 (g_all 1) X dX9_lays_65 hw rfl (by decide) rfl ?_
        obtain ⟨u24, e25, hF⟩ := zbd hF
        refine z_callV 66 zc9 mv_X9_writesOnes ml_9_79 0 [] (zk_121 cA 0 a_this a_this_all a_this_kept a_this_history a_this_slots a_this_isSaved a_this_stream a_this_pad v_historyLong v_streamLong v_spot v_padLong v_padSpot v_readNumber g_all g_stream u24.1 u24.2) (m_X9_writesOnes l D cA a_this a_this_all a_this_kept a_this_history a_this_slots a_this_isSaved a_this_stream a_this_pad v_historyLong v_streamLong v_spot v_padLong v_padSpot v_readNumber g_stream (g_all 1) u24 e25) X dX9_lays_66 hw hl rfl rfl rfl (Nat.le_of_ble_eq_true rfl) ⟨Nat.le_of_ble_eq_true rfl, Nat.le_of_ble_eq_true rfl⟩ ⟨Nat.zero_le _, Nat.zero_le _⟩ (fun H locs hw => ?_)
        refine z_aload_n 69 X dX9_lays_69 hl 1 rfl ?_
        refine z_iload 70 X dX9_lays_70 hl 0 rfl ?_
        refine z_bipush 72 16 X dX9_lays_72 (by decide) ?_
        obtain ⟨u26, e27, hF⟩ := zbd hF
        refine z_callV 74 zc9 mv_X9_writes ml_9_75 0 [] (zk_121 cA 0 a_this a_this_all a_this_kept a_this_history a_this_slots a_this_isSaved a_this_stream a_this_pad v_historyLong u24.1 v_spot v_padLong v_padSpot v_readNumber g_all u24.2 u26.1 u26.2) (m_X9_writes l D cA a_this a_this_all a_this_kept a_this_history a_this_slots a_this_isSaved a_this_stream a_this_pad v_historyLong u24.1 v_spot v_padLong v_padSpot v_readNumber u24.2 u13 16 u26 e27) X dX9_lays_74 hw hl rfl rfl rfl (Nat.le_of_ble_eq_true rfl) ⟨Nat.le_of_ble_eq_true rfl, Nat.le_of_ble_eq_true rfl⟩ ⟨Nat.zero_le _, Nat.zero_le _⟩ (fun H locs hw => ?_)
        refine z_goto 77 101 X dX9_lays_77 (by decide) ?_
        refine z_iinc2 101 1 [(3, .int (i3 + 1)), (4, .int u13), (0, .ref a_this), (1, .int i1), (2, .int i2)] X dX9_lays_101 hl 4 rfl (by decide) (by decide) rfl (fun ls hl => ?_)
        refine z_goto 104 33 X dX9_lays_104 (by decide) ?_
        exact ih u26.1 u26.2 (i3 + 1) H locs ls hw (lv_sub hl [2, 3, 4, 0] rfl) hF
set_option maxHeartbeats 4000000 in
set_option maxRecDepth 100000 in
theorem l_X9_lays_7 (l : Launch) (D : va_G) (cA : ClassId) (a_this a_this_all a_this_kept a_this_history a_this_slots a_this_isSaved a_this_stream a_this_pad : Nat) (v_historyLong : Int32) (v_spot : Int32) (v_padLong : Int32) (v_padSpot : Int32) (v_readNumber : Int32) (g_all : Ar) (out : Int32 × Ar) {p : Program} {e : Env} {s : State} {m : MethodId} {args : Array Value} {below : List Frame} {meth : Method} {c : Code} {A : Nat → Prop} (X : zX D cA p s m args meth c cX9_lays 5 RX9 none) (k : Int32 → Ar → Option (Int32 × Ar)) (hk : ∀ (v_streamLong : Int32) (g_stream : Ar) (H : Heap) (locs : List Loc) (ls : Array Slot), zH D A s (zw_40 cA 0 a_this a_this_all a_this_kept a_this_history a_this_slots a_this_isSaved a_this_stream a_this_pad v_historyLong v_streamLong v_spot v_padLong v_padSpot v_readNumber g_all g_stream) H locs → lv_has ls 5 [] → k v_streamLong g_stream = some out → W p l e (zR 4 91) s m args below meth c H locs 0 0 (MQ below (zQ D (zw_40 cA 0 a_this a_this_all a_this_kept a_this_history a_this_slots a_this_isSaved a_this_stream a_this_pad v_historyLong out.1 v_spot v_padLong v_padSpot v_readNumber g_all out.2) none A) args s 0 0 A) (F0 m 113 ls [])) :
    ∀ (fuel : Nat) (v_streamLong : Int32) (g_stream : Ar) (i1 : Int32) (H : Heap) (locs : List Loc) (ls : Array Slot), zH D A s (zw_40 cA 0 a_this a_this_all a_this_kept a_this_history a_this_slots a_this_isSaved a_this_stream a_this_pad v_historyLong v_streamLong v_spot v_padLong v_padSpot v_readNumber g_all g_stream) H locs → lv_has ls 5 [(0, .ref a_this), (1, .int i1)] → F_X9_lays_L7 g_all k fuel v_streamLong g_stream i1 = some out → W p l e (zR 4 91) s m args below meth c H locs 0 0 (MQ below (zQ D (zw_40 cA 0 a_this a_this_all a_this_kept a_this_history a_this_slots a_this_isSaved a_this_stream a_this_pad v_historyLong out.1 v_spot v_padLong v_padSpot v_readNumber g_all out.2) none A) args s 0 0 A) (F0 m 7 ls []) := by
  intro fuel
  induction fuel with
  | zero => intro v_streamLong g_stream i1 H locs ls hw hl hF; exact nomatch (show (none : Option (Int32 × Ar)) = some out from hF)
  | succ fuel ih =>
    intro v_streamLong g_stream i1 H locs ls hw hl hF
    rw [F_X9_lays_L7] at hF
    refine z_iload_n 7 X dX9_lays_7 hl 1 rfl ?_
    refine z_aload_n 8 X dX9_lays_8 hl 0 rfl ?_
    obtain ⟨u1, e2, hF⟩ := zbd hF
    refine z_callV 9 zc9 mv_X9_blocks ml_9_65 0 [.int i1] (zk_120 cA 0 a_this a_this_all a_this_kept a_this_history a_this_slots a_this_isSaved a_this_stream a_this_pad v_historyLong v_streamLong v_spot v_padLong v_padSpot v_readNumber g_all g_stream) (m_X9_blocks l D cA a_this a_this_all a_this_kept a_this_history a_this_slots a_this_isSaved a_this_stream a_this_pad v_historyLong v_streamLong v_spot v_padLong v_padSpot v_readNumber g_all u1 e2) X dX9_lays_9 hw hl rfl rfl rfl (Nat.le_of_ble_eq_true rfl) ⟨Nat.le_of_ble_eq_true rfl, Nat.le_of_ble_eq_true rfl⟩ ⟨Nat.zero_le _, Nat.zero_le _⟩ (fun H locs hw => ?_)
    refine z_icmp_ge 12 113 X dX9_lays_12 (by decide) (fun c3 => ?_) (fun c3 => ?_)
    · replace hF := zpos c3 hF
      exact hk v_streamLong g_stream H locs ls hw (lv_sub hl [] rfl) hF
    · replace hF := zneg c3 hF
      refine z_aload_n 15 X dX9_lays_15 hl 0 rfl ?_
      refine z_iload_n 16 X dX9_lays_16 hl 1 rfl ?_
      obtain ⟨u4, e5, hF⟩ := zbd hF
      refine z_callV 17 zc9 mv_X9_exponentOf ml_9_59 0 [] (zk_120 cA 0 a_this a_this_all a_this_kept a_this_history a_this_slots a_this_isSaved a_this_stream a_this_pad v_historyLong v_streamLong v_spot v_padLong v_padSpot v_readNumber g_all g_stream) (m_X9_exponentOf l D cA a_this a_this_all a_this_kept a_this_history a_this_slots a_this_isSaved a_this_stream a_this_pad v_historyLong v_streamLong v_spot v_padLong v_padSpot v_readNumber g_all i1 u4 e5) X dX9_lays_17 hw hl rfl rfl rfl (Nat.le_of_ble_eq_true rfl) ⟨Nat.le_of_ble_eq_true rfl, Nat.le_of_ble_eq_true rfl⟩ ⟨Nat.zero_le _, Nat.zero_le _⟩ (fun H locs hw => ?_)
      refine z_istore_n 20 [(2, .int u4), (0, .ref a_this), (1, .int i1)] X dX9_lays_20 hl (by decide) rfl (fun ls hl => ?_)
      refine z_aload_n 21 X dX9_lays_21 hl 1 rfl ?_
      refine z_iload_n 22 X dX9_lays_22 hl 0 rfl ?_
      refine z_iconst 23 4 X dX9_lays_23 (by decide) ?_
      obtain ⟨u6, e7, hF⟩ := zbd hF
      refine z_callV 24 zc9 mv_X9_writes ml_9_75 0 [] (zk_121 cA 0 a_this a_this_all a_this_kept a_this_history a_this_slots a_this_isSaved a_this_stream a_this_pad v_historyLong v_streamLong v_spot v_padLong v_padSpot v_readNumber g_all g_stream u6.1 u6.2) (m_X9_writes l D cA a_this a_this_all a_this_kept a_this_history a_this_slots a_this_isSaved a_this_stream a_this_pad v_historyLong v_streamLong v_spot v_padLong v_padSpot v_readNumber g_stream u4 4 u6 e7) X dX9_lays_24 hw hl rfl rfl rfl (Nat.le_of_ble_eq_true rfl) ⟨Nat.le_of_ble_eq_true rfl, Nat.le_of_ble_eq_true rfl⟩ ⟨Nat.zero_le _, Nat.zero_le _⟩ (fun H locs hw => ?_)
      refine z_aload_n 27 X dX9_lays_27 hl 1 rfl ?_
      refine z_iload_n 28 X dX9_lays_28 hl 2 rfl ?_
      obtain ⟨u8, e9, hF⟩ := zbd hF
      refine z_callV 29 zc9 mv_X9_first ml_9_43 0 [] (zk_120 cA 0 a_this a_this_all a_this_kept a_this_history a_this_slots a_this_isSaved a_this_stream a_this_pad v_historyLong u6.1 v_spot v_padLong v_padSpot v_readNumber g_all u6.2) (m_X9_first l D cA a_this a_this_all a_this_kept a_this_history a_this_slots a_this_isSaved a_this_stream a_this_pad v_historyLong u6.1 v_spot v_padLong v_padSpot v_readNumber g_all i1 u8 e9) X dX9_lays_29 hw hl rfl rfl rfl (Nat.le_of_ble_eq_true rfl) ⟨Nat.le_of_ble_eq_true rfl, Nat.le_of_ble_eq_true rfl⟩ ⟨Nat.zero_le _, Nat.zero_le _⟩ (fun H locs hw => ?_)
      refine z_istore_n 32 [(3, .int u8), (2, .int u4), (0, .ref a_this), (1, .int i1)] X dX9_lays_32 hl (by decide) rfl (fun ls hl => ?_)
      refine l_X9_lays_33 l D cA a_this a_this_all a_this_kept a_this_history a_this_slots a_this_isSaved a_this_stream a_this_pad v_historyLong v_spot v_padLong v_padSpot v_readNumber g_all i1 u4 out X _ (fun v_streamLong_28 g_stream_29 H locs ls hw hl hF => ?_) zFuel u6.1 u6.2 u8 H locs ls hw (lv_sub hl [2, 3, 1, 0] rfl) hF
      refine z_iinc2 107 1 [(1, .int (i1 + 1)), (0, .ref a_this)] X dX9_lays_107 hl 1 rfl (by decide) (by decide) rfl (fun ls hl => ?_)
      refine z_goto 110 7 X dX9_lays_110 (by decide) ?_
      exact ih v_streamLong_28 g_stream_29 (i1 + 1) H locs ls hw (lv_sub hl [1, 0] rfl) hF
set_option maxHeartbeats 4000000 in
set_option maxRecDepth 100000 in
theorem m_X9_lays (l : Launch) (D : va_G) (cA : ClassId) (a_this a_this_all a_this_kept a_this_history a_this_slots a_this_isSaved a_this_stream a_this_pad : Nat) (v_historyLong : Int32) (v_streamLong : Int32) (v_spot : Int32) (v_padLong : Int32) (v_padSpot : Int32) (v_readNumber : Int32) (g_all : Ar) (g_stream : Ar) (out : Int32 × Ar) (hF : F_X9_lays v_streamLong g_all g_stream = some out) : zM l D cA yX9_lays cX9_lays 5 none 4 91 [.ref a_this] (zw_40 cA 0 a_this a_this_all a_this_kept a_this_history a_this_slots a_this_isSaved a_this_stream a_this_pad v_historyLong v_streamLong v_spot v_padLong v_padSpot v_readNumber g_all g_stream) (zw_40 cA 0 a_this a_this_all a_this_kept a_this_history a_this_slots a_this_isSaved a_this_stream a_this_pad v_historyLong out.1 v_spot v_padLong v_padSpot v_readNumber g_all out.2) none := by
  refine z_body (by decide) (Nat.le_of_ble_eq_true rfl) ?_
  intro p e s m args below meth c ls H locs A X hl hw
  have hl : lv_has ls 5 [(0, .ref a_this)] := hl
  unfold F_X9_lays at hF
  refine z_aload_n 0 X dX9_lays_0 hl 0 rfl ?_
  refine z_iconst 1 0 X dX9_lays_1 (by decide) ?_
  refine z_put 2 zc9 0 7 (zw_40 cA 0 a_this a_this_all a_this_kept a_this_history a_this_slots a_this_isSaved a_this_stream a_this_pad v_historyLong 0 v_spot v_padLong v_padSpot v_readNumber g_all g_stream) fl_9_72 X dX9_lays_2 hw rfl (by decide) rfl rfl rfl (Nat.le_of_ble_eq_true rfl) rfl (fun H locs hw => ?_)
  refine z_iconst 5 0 X dX9_lays_5 (by decide) ?_
  refine z_istore_n 6 [(1, .int 0), (0, .ref a_this)] X dX9_lays_6 hl (by decide) rfl (fun ls hl => ?_)
  refine l_X9_lays_7 l D cA a_this a_this_all a_this_kept a_this_history a_this_slots a_this_isSaved a_this_stream a_this_pad v_historyLong v_spot v_padLong v_padSpot v_readNumber g_all out X _ (fun v_streamLong_30 g_stream_31 H locs ls hw hl hF => ?_) zFuel 0 g_stream 0 H locs ls hw (lv_sub hl [1, 0] rfl) hF
  cases hF
  exact z_vret 113 X dX9_lays_113 hw rfl rfl
theorem dX9_bit_0 : decode cX9_bit 0 = .ok (.aload_n 0, 1) := by decide +kernel
theorem dX9_bit_1 : decode cX9_bit 1 = .ok (.invokevirtual 153, 3) := by decide +kernel
theorem dX9_bit_4 : decode cX9_bit 4 = .ok (.iload_n 1, 1) := by decide +kernel
theorem dX9_bit_5 : decode cX9_bit 5 = .ok (.i2l, 1) := by decide +kernel
theorem dX9_bit_6 : decode cX9_bit 6 = .ok (.lconst 0, 1) := by decide +kernel
theorem dX9_bit_7 : decode cX9_bit 7 = .ok (.aload_n 0, 1) := by decide +kernel
theorem dX9_bit_8 : decode cX9_bit 8 = .ok (.getfield 72, 3) := by decide +kernel
theorem dX9_bit_11 : decode cX9_bit 11 = .ok (.i2l, 1) := by decide +kernel
theorem dX9_bit_12 : decode cX9_bit 12 = .ok (.lconst 1, 1) := by decide +kernel
theorem dX9_bit_13 : decode cX9_bit 13 = .ok (.lsub, 1) := by decide +kernel
theorem dX9_bit_14 : decode cX9_bit 14 = .ok (.invokestatic 91, 3) := by decide +kernel
theorem dX9_bit_17 : decode cX9_bit 17 = .ok (.ifCond .eq 12, 3) := by decide +kernel
theorem dX9_bit_20 : decode cX9_bit 20 = .ok (.aload_n 0, 1) := by decide +kernel
theorem dX9_bit_21 : decode cX9_bit 21 = .ok (.getfield 25, 3) := by decide +kernel
theorem dX9_bit_24 : decode cX9_bit 24 = .ok (.iload_n 1, 1) := by decide +kernel
theorem dX9_bit_25 : decode cX9_bit 25 = .ok (.iaload, 1) := by decide +kernel
theorem dX9_bit_26 : decode cX9_bit 26 = .ok (.goto 4, 3) := by decide +kernel
theorem dX9_bit_29 : decode cX9_bit 29 = .ok (.iconst (-1), 1) := by decide +kernel
theorem dX9_bit_30 : decode cX9_bit 30 = .ok (.ireturn, 1) := by decide +kernel
set_option maxHeartbeats 4000000 in
set_option maxRecDepth 100000 in
theorem zk_122 (cA : ClassId) (n : Nat) (a_this a_this_all a_this_kept a_this_history a_this_slots a_this_isSaved a_this_stream a_this_pad : Nat) (v_historyLong : Int32) (v_streamLong : Int32) (v_spot : Int32) (v_padLong : Int32) (v_padSpot : Int32) (v_readNumber : Int32) (g_all : Ar) (g_stream : Ar) (v_streamLong' : Int32) (g_stream' : Ar) : zCW (zw_40 cA n a_this a_this_all a_this_kept a_this_history a_this_slots a_this_isSaved a_this_stream a_this_pad v_historyLong v_streamLong v_spot v_padLong v_padSpot v_readNumber g_all g_stream) (zw_40 cA n a_this a_this_all a_this_kept a_this_history a_this_slots a_this_isSaved a_this_stream a_this_pad v_historyLong v_streamLong' v_spot v_padLong v_padSpot v_readNumber g_all g_stream') [0, 1, 2] [] (zw_40 cA 0 a_this a_this_all a_this_kept a_this_history a_this_slots a_this_isSaved a_this_stream a_this_pad v_historyLong v_streamLong v_spot v_padLong v_padSpot v_readNumber g_all g_stream) (zw_40 cA 0 a_this a_this_all a_this_kept a_this_history a_this_slots a_this_isSaved a_this_stream a_this_pad v_historyLong v_streamLong' v_spot v_padLong v_padSpot v_readNumber g_all g_stream') := ⟨rfl, (show (zw_40 cA 0 a_this a_this_all a_this_kept a_this_history a_this_slots a_this_isSaved a_this_stream a_this_pad v_historyLong v_streamLong' v_spot v_padLong v_padSpot v_readNumber g_all g_stream').map Prod.fst = ([a_this, a_this_all, a_this_stream] : List Nat) from rfl).trans (show (zw_40 cA 0 a_this a_this_all a_this_kept a_this_history a_this_slots a_this_isSaved a_this_stream a_this_pad v_historyLong v_streamLong v_spot v_padLong v_padSpot v_readNumber g_all g_stream).map Prod.fst = ([a_this, a_this_all, a_this_stream] : List Nat) from rfl).symm, by decide +kernel, (show (zw_40 cA n a_this a_this_all a_this_kept a_this_history a_this_slots a_this_isSaved a_this_stream a_this_pad v_historyLong v_streamLong' v_spot v_padLong v_padSpot v_readNumber g_all g_stream').map Prod.fst = ([a_this, a_this_all, a_this_stream] : List Nat) from rfl).trans (show (zw_40 cA n a_this a_this_all a_this_kept a_this_history a_this_slots a_this_isSaved a_this_stream a_this_pad v_historyLong v_streamLong v_spot v_padLong v_padSpot v_readNumber g_all g_stream).map Prod.fst = ([a_this, a_this_all, a_this_stream] : List Nat) from rfl).symm, rfl, rfl, by decide +kernel, rfl⟩
set_option maxHeartbeats 4000000 in
set_option maxRecDepth 100000 in
theorem zk_123 (cA : ClassId) (n : Nat) (a_this a_this_all a_this_kept a_this_history a_this_slots a_this_isSaved a_this_stream a_this_pad : Nat) (v_historyLong : Int32) (v_streamLong : Int32) (v_spot : Int32) (v_padLong : Int32) (v_padSpot : Int32) (v_readNumber : Int32) (g_all : Ar) (g_stream : Ar)  : zCW (zw_40 cA n a_this a_this_all a_this_kept a_this_history a_this_slots a_this_isSaved a_this_stream a_this_pad v_historyLong v_streamLong v_spot v_padLong v_padSpot v_readNumber g_all g_stream) (zw_40 cA n a_this a_this_all a_this_kept a_this_history a_this_slots a_this_isSaved a_this_stream a_this_pad v_historyLong v_streamLong v_spot v_padLong v_padSpot v_readNumber g_all g_stream) [] [0, 1, 2] (zw_4 cA 0  ) (zw_4 cA 0  ) := ⟨rfl, (show (zw_4 cA 0  ).map Prod.fst = ([] : List Nat) from rfl).trans (show (zw_4 cA 0  ).map Prod.fst = ([] : List Nat) from rfl).symm, by decide +kernel, (show (zw_40 cA n a_this a_this_all a_this_kept a_this_history a_this_slots a_this_isSaved a_this_stream a_this_pad v_historyLong v_streamLong v_spot v_padLong v_padSpot v_readNumber g_all g_stream).map Prod.fst = ([a_this, a_this_all, a_this_stream] : List Nat) from rfl).trans (show (zw_40 cA n a_this a_this_all a_this_kept a_this_history a_this_slots a_this_isSaved a_this_stream a_this_pad v_historyLong v_streamLong v_spot v_padLong v_padSpot v_readNumber g_all g_stream).map Prod.fst = ([a_this, a_this_all, a_this_stream] : List Nat) from rfl).symm, rfl, (show ([0, 1, 2] : List Nat).map (fun i => (zw_40 cA n a_this a_this_all a_this_kept a_this_history a_this_slots a_this_isSaved a_this_stream a_this_pad v_historyLong v_streamLong v_spot v_padLong v_padSpot v_readNumber g_all g_stream)[i]?) = ([(a_this, .inr (9, [.ref a_this_all, .ref a_this_kept, .ref a_this_history, .int v_historyLong, .ref a_this_slots, .ref a_this_isSaved, .ref a_this_stream, .int v_streamLong, .int v_spot, .ref a_this_pad, .int v_padLong, .int v_padSpot, .int v_readNumber])), (a_this_all, .inl (cA, 67, .inl g_all)), (a_this_stream, .inl (cA, 3300, .inl g_stream))] : va_W).map some from rfl).trans (show ([0, 1, 2] : List Nat).map (fun i => (zw_40 cA n a_this a_this_all a_this_kept a_this_history a_this_slots a_this_isSaved a_this_stream a_this_pad v_historyLong v_streamLong v_spot v_padLong v_padSpot v_readNumber g_all g_stream)[i]?) = ([(a_this, .inr (9, [.ref a_this_all, .ref a_this_kept, .ref a_this_history, .int v_historyLong, .ref a_this_slots, .ref a_this_isSaved, .ref a_this_stream, .int v_streamLong, .int v_spot, .ref a_this_pad, .int v_padLong, .int v_padSpot, .int v_readNumber])), (a_this_all, .inl (cA, 67, .inl g_all)), (a_this_stream, .inl (cA, 3300, .inl g_stream))] : va_W).map some from rfl).symm, by decide +kernel, rfl⟩
set_option maxHeartbeats 4000000 in
set_option maxRecDepth 100000 in
theorem m_X9_bit (l : Launch) (D : va_G) (cA : ClassId) (a_this a_this_all a_this_kept a_this_history a_this_slots a_this_isSaved a_this_stream a_this_pad : Nat) (v_historyLong : Int32) (v_streamLong : Int32) (v_spot : Int32) (v_padLong : Int32) (v_padSpot : Int32) (v_readNumber : Int32) (g_all : Ar) (g_stream : Ar) (i1 : Int32) (out : Int32 × Int32 × Ar) (hF : F_X9_bit v_streamLong g_all g_stream i1 = some out) : zM l D cA yX9_bit cX9_bit 2 (some .int) 5 115 [.ref a_this, .int i1] (zw_40 cA 0 a_this a_this_all a_this_kept a_this_history a_this_slots a_this_isSaved a_this_stream a_this_pad v_historyLong v_streamLong v_spot v_padLong v_padSpot v_readNumber g_all g_stream) (zw_40 cA 0 a_this a_this_all a_this_kept a_this_history a_this_slots a_this_isSaved a_this_stream a_this_pad v_historyLong out.2.1 v_spot v_padLong v_padSpot v_readNumber g_all out.2.2) (some (.int out.1)) := by
  refine z_body (by decide) (Nat.le_of_ble_eq_true rfl) ?_
  intro p e s m args below meth c ls H locs A X hl hw
  have hl : lv_has ls 2 [(0, .ref a_this), (1, .int i1)] := hl
  unfold F_X9_bit at hF
  refine z_aload_n 0 X dX9_bit_0 hl 0 rfl ?_
  obtain ⟨u1, e2, hF⟩ := zbd hF
  refine z_callV 1 zc9 mv_X9_lays ml_9_153 0 [] (zk_122 cA 0 a_this a_this_all a_this_kept a_this_history a_this_slots a_this_isSaved a_this_stream a_this_pad v_historyLong v_streamLong v_spot v_padLong v_padSpot v_readNumber g_all g_stream u1.1 u1.2) (m_X9_lays l D cA a_this a_this_all a_this_kept a_this_history a_this_slots a_this_isSaved a_this_stream a_this_pad v_historyLong v_streamLong v_spot v_padLong v_padSpot v_readNumber g_all g_stream u1 e2) X dX9_bit_1 hw hl rfl rfl rfl (Nat.le_of_ble_eq_true rfl) ⟨Nat.le_of_ble_eq_true rfl, Nat.le_of_ble_eq_true rfl⟩ ⟨Nat.zero_le _, Nat.zero_le _⟩ (fun H locs hw => ?_)
  refine z_iload_n 4 X dX9_bit_4 hl 1 rfl ?_
  refine z_i2l 5 X dX9_bit_5 ?_
  refine z_lconst 6 0 X dX9_bit_6 (by decide) ?_
  refine z_aload_n 7 X dX9_bit_7 hl 0 rfl ?_
  refine z_get 8 zc9 0 7 fl_9_72 X dX9_bit_8 hw rfl (by decide) rfl ?_
  refine z_i2l 11 X dX9_bit_11 ?_
  refine z_lconst 12 1 X dX9_bit_12 (by decide) ?_
  refine z_lsub 13 X dX9_bit_13 ?_
  obtain ⟨u3, e4, hF⟩ := zbd hF
  refine z_callS 14 mv_X9_in ml_9_91 [] (zk_123 cA 0 a_this a_this_all a_this_kept a_this_history a_this_slots a_this_isSaved a_this_stream a_this_pad v_historyLong u1.1 v_spot v_padLong v_padSpot v_readNumber g_all u1.2) (m_X9_in l D cA (i1.toInt64) 0 ((u1.1.toInt64) - 1) u3 e4) X dX9_bit_14 hw hl rfl rfl (Nat.le_of_ble_eq_true rfl) ⟨Nat.le_of_ble_eq_true rfl, Nat.le_of_ble_eq_true rfl⟩ ⟨Nat.zero_le _, Nat.zero_le _⟩ (fun H locs hw => ?_)
  refine z_if_eq 17 29 X dX9_bit_17 (by decide) (fun c5 => ?_) (fun c5 => ?_)
  · replace hF := zpos c5 hF
    refine z_iconst 29 (-1) X dX9_bit_29 (by decide) ?_
    cases hF
    exact z_iret 30 X dX9_bit_30 hw rfl rfl
  · replace hF := zneg c5 hF
    refine z_aload_n 20 X dX9_bit_20 hl 0 rfl ?_
    refine z_get 21 zc9 0 6 fl_9_25 X dX9_bit_21 hw rfl (by decide) rfl ?_
    refine z_iload_n 24 X dX9_bit_24 hl 1 rfl ?_
    obtain ⟨gd6, hF⟩ := zgd hF
    refine z_iald 25 2 (u1.2 i1.toNatClampNeg) X dX9_bit_25 hw rfl gd6 rfl ?_
    refine z_goto 26 30 X dX9_bit_26 (by decide) ?_
    cases hF
    exact z_iret 30 X dX9_bit_30 hw rfl rfl
theorem dX9_bits_0 : decode cX9_bits 0 = .ok (.aload_n 0, 1) := by decide +kernel
theorem dX9_bits_1 : decode cX9_bits 1 = .ok (.invokevirtual 153, 3) := by decide +kernel
theorem dX9_bits_4 : decode cX9_bits 4 = .ok (.iload_n 1, 1) := by decide +kernel
theorem dX9_bits_5 : decode cX9_bits 5 = .ok (.i2l, 1) := by decide +kernel
theorem dX9_bits_6 : decode cX9_bits 6 = .ok (.lconst 0, 1) := by decide +kernel
theorem dX9_bits_7 : decode cX9_bits 7 = .ok (.aload_n 0, 1) := by decide +kernel
theorem dX9_bits_8 : decode cX9_bits 8 = .ok (.getfield 72, 3) := by decide +kernel
theorem dX9_bits_11 : decode cX9_bits 11 = .ok (.i2l, 1) := by decide +kernel
theorem dX9_bits_12 : decode cX9_bits 12 = .ok (.lconst 1, 1) := by decide +kernel
theorem dX9_bits_13 : decode cX9_bits 13 = .ok (.lsub, 1) := by decide +kernel
theorem dX9_bits_14 : decode cX9_bits 14 = .ok (.invokestatic 91, 3) := by decide +kernel
theorem dX9_bits_17 : decode cX9_bits 17 = .ok (.ifCond .ne 7, 3) := by decide +kernel
theorem dX9_bits_20 : decode cX9_bits 20 = .ok (.ldc2_w 156, 3) := by decide +kernel
theorem dX9_bits_23 : decode cX9_bits 23 = .ok (.lreturn, 1) := by decide +kernel
theorem dX9_bits_24 : decode cX9_bits 24 = .ok (.lconst 0, 1) := by decide +kernel
theorem dX9_bits_25 : decode cX9_bits 25 = .ok (.lstore_n 2, 1) := by decide +kernel
theorem dX9_bits_26 : decode cX9_bits 26 = .ok (.iconst 0, 1) := by decide +kernel
theorem dX9_bits_27 : decode cX9_bits 27 = .ok (.istore 4, 2) := by decide +kernel
theorem dX9_bits_29 : decode cX9_bits 29 = .ok (.iload 4, 2) := by decide +kernel
theorem dX9_bits_31 : decode cX9_bits 31 = .ok (.bipush 32, 2) := by decide +kernel
theorem dX9_bits_33 : decode cX9_bits 33 = .ok (.if_icmp .ge 41, 3) := by decide +kernel
theorem dX9_bits_36 : decode cX9_bits 36 = .ok (.ldc2_w 158, 3) := by decide +kernel
theorem dX9_bits_39 : decode cX9_bits 39 = .ok (.lload_n 2, 1) := by decide +kernel
theorem dX9_bits_40 : decode cX9_bits 40 = .ok (.lmul, 1) := by decide +kernel
theorem dX9_bits_41 : decode cX9_bits 41 = .ok (.iload_n 1, 1) := by decide +kernel
theorem dX9_bits_42 : decode cX9_bits 42 = .ok (.iload 4, 2) := by decide +kernel
theorem dX9_bits_44 : decode cX9_bits 44 = .ok (.iadd, 1) := by decide +kernel
theorem dX9_bits_45 : decode cX9_bits 45 = .ok (.aload_n 0, 1) := by decide +kernel
theorem dX9_bits_46 : decode cX9_bits 46 = .ok (.getfield 72, 3) := by decide +kernel
theorem dX9_bits_49 : decode cX9_bits 49 = .ok (.if_icmp .ge 15, 3) := by decide +kernel
theorem dX9_bits_52 : decode cX9_bits 52 = .ok (.aload_n 0, 1) := by decide +kernel
theorem dX9_bits_53 : decode cX9_bits 53 = .ok (.getfield 25, 3) := by decide +kernel
theorem dX9_bits_56 : decode cX9_bits 56 = .ok (.iload_n 1, 1) := by decide +kernel
theorem dX9_bits_57 : decode cX9_bits 57 = .ok (.iload 4, 2) := by decide +kernel
theorem dX9_bits_59 : decode cX9_bits 59 = .ok (.iadd, 1) := by decide +kernel
theorem dX9_bits_60 : decode cX9_bits 60 = .ok (.iaload, 1) := by decide +kernel
theorem dX9_bits_61 : decode cX9_bits 61 = .ok (.goto 4, 3) := by decide +kernel
theorem dX9_bits_64 : decode cX9_bits 64 = .ok (.iconst 0, 1) := by decide +kernel
theorem dX9_bits_65 : decode cX9_bits 65 = .ok (.i2l, 1) := by decide +kernel
theorem dX9_bits_66 : decode cX9_bits 66 = .ok (.ladd, 1) := by decide +kernel
theorem dX9_bits_67 : decode cX9_bits 67 = .ok (.lstore_n 2, 1) := by decide +kernel
theorem dX9_bits_68 : decode cX9_bits 68 = .ok (.iinc 4 1, 3) := by decide +kernel
theorem dX9_bits_71 : decode cX9_bits 71 = .ok (.goto (-42), 3) := by decide +kernel
theorem dX9_bits_74 : decode cX9_bits 74 = .ok (.lload_n 2, 1) := by decide +kernel
theorem dX9_bits_75 : decode cX9_bits 75 = .ok (.lreturn, 1) := by decide +kernel
set_option maxHeartbeats 4000000 in
set_option maxRecDepth 100000 in
theorem l_X9_bits_29 (l : Launch) (D : va_G) (cA : ClassId) (a_this a_this_all a_this_kept a_this_history a_this_slots a_this_isSaved a_this_stream a_this_pad : Nat) (v_historyLong : Int32) (v_streamLong : Int32) (v_spot : Int32) (v_padLong : Int32) (v_padSpot : Int32) (v_readNumber : Int32) (g_all : Ar) (g_stream : Ar) (i1 : Int32) (out : Int64 × Int32 × Ar) {p : Program} {e : Env} {s : State} {m : MethodId} {args : Array Value} {below : List Frame} {meth : Method} {c : Code} {A : Nat → Prop} (X : zX D cA p s m args meth c cX9_bits 5 RX9 (some .long)) (k : Int64 → Option (Int64 × Int32 × Ar)) (hk : ∀ (j2 : Int64) (H : Heap) (locs : List Loc) (ls : Array Slot), zH D A s (zw_40 cA 0 a_this a_this_all a_this_kept a_this_history a_this_slots a_this_isSaved a_this_stream a_this_pad v_historyLong v_streamLong v_spot v_padLong v_padSpot v_readNumber g_all g_stream) H locs → lv_has ls 5 [(2, .long j2)] → k j2 = some out → W p l e (zR 5 115) s m args below meth c H locs 0 0 (MQ below (zQ D (zw_40 cA 0 a_this a_this_all a_this_kept a_this_history a_this_slots a_this_isSaved a_this_stream a_this_pad v_historyLong out.2.1 v_spot v_padLong v_padSpot v_readNumber g_all out.2.2) (some (.long out.1)) A) args s 0 0 A) (F0 m 74 ls [])) :
    ∀ (fuel : Nat) (j2 : Int64) (i4 : Int32) (H : Heap) (locs : List Loc) (ls : Array Slot), zH D A s (zw_40 cA 0 a_this a_this_all a_this_kept a_this_history a_this_slots a_this_isSaved a_this_stream a_this_pad v_historyLong v_streamLong v_spot v_padLong v_padSpot v_readNumber g_all g_stream) H locs → lv_has ls 5 [(0, .ref a_this), (1, .int i1), (2, .long j2), (4, .int i4)] → F_X9_bits_L29 v_streamLong g_stream i1 k fuel j2 i4 = some out → W p l e (zR 5 115) s m args below meth c H locs 0 0 (MQ below (zQ D (zw_40 cA 0 a_this a_this_all a_this_kept a_this_history a_this_slots a_this_isSaved a_this_stream a_this_pad v_historyLong out.2.1 v_spot v_padLong v_padSpot v_readNumber g_all out.2.2) (some (.long out.1)) A) args s 0 0 A) (F0 m 29 ls []) := by
  intro fuel
  induction fuel with
  | zero => intro j2 i4 H locs ls hw hl hF; exact nomatch (show (none : Option (Int64 × Int32 × Ar)) = some out from hF)
  | succ fuel ih =>
    intro j2 i4 H locs ls hw hl hF
    rw [F_X9_bits_L29] at hF
    refine z_iload 29 X dX9_bits_29 hl 3 rfl ?_
    refine z_bipush 31 32 X dX9_bits_31 (by decide) ?_
    refine z_icmp_ge 33 74 X dX9_bits_33 (by decide) (fun c6 => ?_) (fun c6 => ?_)
    · replace hF := zpos c6 hF
      exact hk j2 H locs ls hw (lv_sub hl [2] rfl) hF
    · replace hF := zneg c6 hF
      refine z_ldc2 36 2 X dX9_bits_36 cl_9_158 ?_
      refine z_lload_n 39 X dX9_bits_39 hl 2 rfl ?_
      refine z_lmul 40 X dX9_bits_40 ?_
      refine z_iload_n 41 X dX9_bits_41 hl 1 rfl ?_
      refine z_iload 42 X dX9_bits_42 hl 3 rfl ?_
      refine z_iadd 44 X dX9_bits_44 ?_
      refine z_aload_n 45 X dX9_bits_45 hl 0 rfl ?_
      refine z_get 46 zc9 0 7 fl_9_72 X dX9_bits_46 hw rfl (by decide) rfl ?_
      refine z_icmp_ge 49 64 X dX9_bits_49 (by decide) (fun c7 => ?_) (fun c7 => ?_)
      · replace hF := zpos c7 hF
        refine z_iconst 64 0 X dX9_bits_64 (by decide) ?_
        refine z_i2l 65 X dX9_bits_65 ?_
        refine z_ladd 66 X dX9_bits_66 ?_
        refine z_lstore_n 67 [(2, .long ((2 * j2) + ((0 : Int32).toInt64))), (0, .ref a_this), (1, .int i1), (4, .int i4)] X dX9_bits_67 hl (by decide) rfl (fun ls hl => ?_)
        refine z_iinc2 68 1 [(4, .int (i4 + 1)), (2, .long ((2 * j2) + ((0 : Int32).toInt64))), (0, .ref a_this), (1, .int i1)] X dX9_bits_68 hl 3 rfl (by decide) (by decide) rfl (fun ls hl => ?_)
        refine z_goto 71 29 X dX9_bits_71 (by decide) ?_
        exact ih ((2 * j2) + ((0 : Int32).toInt64)) (i4 + 1) H locs ls hw (lv_sub hl [2, 3, 1, 0] rfl) hF
      · replace hF := zneg c7 hF
        refine z_aload_n 52 X dX9_bits_52 hl 0 rfl ?_
        refine z_get 53 zc9 0 6 fl_9_25 X dX9_bits_53 hw rfl (by decide) rfl ?_
        refine z_iload_n 56 X dX9_bits_56 hl 1 rfl ?_
        refine z_iload 57 X dX9_bits_57 hl 3 rfl ?_
        refine z_iadd 59 X dX9_bits_59 ?_
        obtain ⟨gd8, hF⟩ := zgd hF
        refine z_iald 60 2 (g_stream (i1 + i4).toNatClampNeg) X dX9_bits_60 hw rfl gd8 rfl ?_
        refine z_goto 61 65 X dX9_bits_61 (by decide) ?_
        refine z_i2l 65 X dX9_bits_65 ?_
        refine z_ladd 66 X dX9_bits_66 ?_
        refine z_lstore_n 67 [(2, .long ((2 * j2) + ((g_stream (i1 + i4).toNatClampNeg).toInt64))), (0, .ref a_this), (1, .int i1), (4, .int i4)] X dX9_bits_67 hl (by decide) rfl (fun ls hl => ?_)
        refine z_iinc2 68 1 [(4, .int (i4 + 1)), (2, .long ((2 * j2) + ((g_stream (i1 + i4).toNatClampNeg).toInt64))), (0, .ref a_this), (1, .int i1)] X dX9_bits_68 hl 3 rfl (by decide) (by decide) rfl (fun ls hl => ?_)
        refine z_goto 71 29 X dX9_bits_71 (by decide) ?_
        exact ih ((2 * j2) + ((g_stream (i1 + i4).toNatClampNeg).toInt64)) (i4 + 1) H locs ls hw (lv_sub hl [2, 3, 1, 0] rfl) hF
set_option maxHeartbeats 4000000 in
set_option maxRecDepth 100000 in
theorem m_X9_bits (l : Launch) (D : va_G) (cA : ClassId) (a_this a_this_all a_this_kept a_this_history a_this_slots a_this_isSaved a_this_stream a_this_pad : Nat) (v_historyLong : Int32) (v_streamLong : Int32) (v_spot : Int32) (v_padLong : Int32) (v_padSpot : Int32) (v_readNumber : Int32) (g_all : Ar) (g_stream : Ar) (i1 : Int32) (out : Int64 × Int32 × Ar) (hF : F_X9_bits v_streamLong g_all g_stream i1 = some out) : zM l D cA yX9_bits cX9_bits 5 (some .long) 5 115 [.ref a_this, .int i1] (zw_40 cA 0 a_this a_this_all a_this_kept a_this_history a_this_slots a_this_isSaved a_this_stream a_this_pad v_historyLong v_streamLong v_spot v_padLong v_padSpot v_readNumber g_all g_stream) (zw_40 cA 0 a_this a_this_all a_this_kept a_this_history a_this_slots a_this_isSaved a_this_stream a_this_pad v_historyLong out.2.1 v_spot v_padLong v_padSpot v_readNumber g_all out.2.2) (some (.long out.1)) := by
  refine z_body (by decide) (Nat.le_of_ble_eq_true rfl) ?_
  intro p e s m args below meth c ls H locs A X hl hw
  have hl : lv_has ls 5 [(0, .ref a_this), (1, .int i1)] := hl
  unfold F_X9_bits at hF
  refine z_aload_n 0 X dX9_bits_0 hl 0 rfl ?_
  obtain ⟨u1, e2, hF⟩ := zbd hF
  refine z_callV 1 zc9 mv_X9_lays ml_9_153 0 [] (zk_122 cA 0 a_this a_this_all a_this_kept a_this_history a_this_slots a_this_isSaved a_this_stream a_this_pad v_historyLong v_streamLong v_spot v_padLong v_padSpot v_readNumber g_all g_stream u1.1 u1.2) (m_X9_lays l D cA a_this a_this_all a_this_kept a_this_history a_this_slots a_this_isSaved a_this_stream a_this_pad v_historyLong v_streamLong v_spot v_padLong v_padSpot v_readNumber g_all g_stream u1 e2) X dX9_bits_1 hw hl rfl rfl rfl (Nat.le_of_ble_eq_true rfl) ⟨Nat.le_of_ble_eq_true rfl, Nat.le_of_ble_eq_true rfl⟩ ⟨Nat.zero_le _, Nat.zero_le _⟩ (fun H locs hw => ?_)
  refine z_iload_n 4 X dX9_bits_4 hl 1 rfl ?_
  refine z_i2l 5 X dX9_bits_5 ?_
  refine z_lconst 6 0 X dX9_bits_6 (by decide) ?_
  refine z_aload_n 7 X dX9_bits_7 hl 0 rfl ?_
  refine z_get 8 zc9 0 7 fl_9_72 X dX9_bits_8 hw rfl (by decide) rfl ?_
  refine z_i2l 11 X dX9_bits_11 ?_
  refine z_lconst 12 1 X dX9_bits_12 (by decide) ?_
  refine z_lsub 13 X dX9_bits_13 ?_
  obtain ⟨u3, e4, hF⟩ := zbd hF
  refine z_callS 14 mv_X9_in ml_9_91 [] (zk_123 cA 0 a_this a_this_all a_this_kept a_this_history a_this_slots a_this_isSaved a_this_stream a_this_pad v_historyLong u1.1 v_spot v_padLong v_padSpot v_readNumber g_all u1.2) (m_X9_in l D cA (i1.toInt64) 0 ((u1.1.toInt64) - 1) u3 e4) X dX9_bits_14 hw hl rfl rfl (Nat.le_of_ble_eq_true rfl) ⟨Nat.le_of_ble_eq_true rfl, Nat.le_of_ble_eq_true rfl⟩ ⟨Nat.zero_le _, Nat.zero_le _⟩ (fun H locs hw => ?_)
  refine z_if_ne 17 24 X dX9_bits_17 (by decide) (fun c5 => ?_) (fun c5 => ?_)
  · replace hF := zneg c5 hF
    refine z_lconst 24 0 X dX9_bits_24 (by decide) ?_
    refine z_lstore_n 25 [(2, .long 0), (0, .ref a_this), (1, .int i1)] X dX9_bits_25 hl (by decide) rfl (fun ls hl => ?_)
    refine z_iconst 26 0 X dX9_bits_26 (by decide) ?_
    refine z_istore 27 [(4, .int 0), (2, .long 0), (0, .ref a_this), (1, .int i1)] X dX9_bits_27 hl (by decide) rfl (fun ls hl => ?_)
    refine l_X9_bits_29 l D cA a_this a_this_all a_this_kept a_this_history a_this_slots a_this_isSaved a_this_stream a_this_pad v_historyLong u1.1 v_spot v_padLong v_padSpot v_readNumber g_all u1.2 i1 out X _ (fun j2_9 H locs ls hw hl hF => ?_) zFuel 0 0 H locs ls hw (lv_sub hl [2, 3, 1, 0] rfl) hF
    refine z_lload_n 74 X dX9_bits_74 hl 0 rfl ?_
    cases hF
    exact z_lret 75 X dX9_bits_75 hw rfl rfl
  · replace hF := zpos c5 hF
    refine z_ldc2 20 (-1) X dX9_bits_20 cl_9_156 ?_
    cases hF
    exact z_lret 23 X dX9_bits_23 hw rfl rfl
theorem dX9_escapesOfAll_0 : decode cX9_escapesOfAll 0 = .ok (.iconst 0, 1) := by decide +kernel
theorem dX9_escapesOfAll_1 : decode cX9_escapesOfAll 1 = .ok (.istore_n 1, 1) := by decide +kernel
theorem dX9_escapesOfAll_2 : decode cX9_escapesOfAll 2 = .ok (.iconst 0, 1) := by decide +kernel
theorem dX9_escapesOfAll_3 : decode cX9_escapesOfAll 3 = .ok (.istore_n 2, 1) := by decide +kernel
theorem dX9_escapesOfAll_4 : decode cX9_escapesOfAll 4 = .ok (.iload_n 2, 1) := by decide +kernel
theorem dX9_escapesOfAll_5 : decode cX9_escapesOfAll 5 = .ok (.aload_n 0, 1) := by decide +kernel
theorem dX9_escapesOfAll_6 : decode cX9_escapesOfAll 6 = .ok (.invokevirtual 65, 3) := by decide +kernel
theorem dX9_escapesOfAll_9 : decode cX9_escapesOfAll 9 = .ok (.if_icmp .ge 17, 3) := by decide +kernel
theorem dX9_escapesOfAll_12 : decode cX9_escapesOfAll 12 = .ok (.iload_n 1, 1) := by decide +kernel
theorem dX9_escapesOfAll_13 : decode cX9_escapesOfAll 13 = .ok (.aload_n 0, 1) := by decide +kernel
theorem dX9_escapesOfAll_14 : decode cX9_escapesOfAll 14 = .ok (.iload_n 2, 1) := by decide +kernel
theorem dX9_escapesOfAll_15 : decode cX9_escapesOfAll 15 = .ok (.invokevirtual 147, 3) := by decide +kernel
theorem dX9_escapesOfAll_18 : decode cX9_escapesOfAll 18 = .ok (.iadd, 1) := by decide +kernel
theorem dX9_escapesOfAll_19 : decode cX9_escapesOfAll 19 = .ok (.istore_n 1, 1) := by decide +kernel
theorem dX9_escapesOfAll_20 : decode cX9_escapesOfAll 20 = .ok (.iinc 2 1, 3) := by decide +kernel
theorem dX9_escapesOfAll_23 : decode cX9_escapesOfAll 23 = .ok (.goto (-19), 3) := by decide +kernel
theorem dX9_escapesOfAll_26 : decode cX9_escapesOfAll 26 = .ok (.iload_n 1, 1) := by decide +kernel
theorem dX9_escapesOfAll_27 : decode cX9_escapesOfAll 27 = .ok (.ireturn, 1) := by decide +kernel
set_option maxHeartbeats 4000000 in
set_option maxRecDepth 100000 in
theorem l_X9_escapesOfAll_4 (l : Launch) (D : va_G) (cA : ClassId) (a_this a_this_all a_this_kept a_this_history a_this_slots a_this_isSaved a_this_stream a_this_pad : Nat) (v_historyLong : Int32) (v_streamLong : Int32) (v_spot : Int32) (v_padLong : Int32) (v_padSpot : Int32) (v_readNumber : Int32) (g_all : Ar) (out : Int32) {p : Program} {e : Env} {s : State} {m : MethodId} {args : Array Value} {below : List Frame} {meth : Method} {c : Code} {A : Nat → Prop} (X : zX D cA p s m args meth c cX9_escapesOfAll 3 RX9 (some .int)) (k : Int32 → Option (Int32)) (hk : ∀ (i1 : Int32) (H : Heap) (locs : List Loc) (ls : Array Slot), zH D A s (zw_36 cA 0 a_this a_this_all a_this_kept a_this_history a_this_slots a_this_isSaved a_this_stream a_this_pad v_historyLong v_streamLong v_spot v_padLong v_padSpot v_readNumber g_all) H locs → lv_has ls 3 [(1, .int i1)] → k i1 = some out → W p l e (zR 5 115) s m args below meth c H locs 0 0 (MQ below (zQ D (zw_36 cA 0 a_this a_this_all a_this_kept a_this_history a_this_slots a_this_isSaved a_this_stream a_this_pad v_historyLong v_streamLong v_spot v_padLong v_padSpot v_readNumber g_all) (some (.int out)) A) args s 0 0 A) (F0 m 26 ls [])) :
    ∀ (fuel : Nat) (i1 : Int32) (i2 : Int32) (H : Heap) (locs : List Loc) (ls : Array Slot), zH D A s (zw_36 cA 0 a_this a_this_all a_this_kept a_this_history a_this_slots a_this_isSaved a_this_stream a_this_pad v_historyLong v_streamLong v_spot v_padLong v_padSpot v_readNumber g_all) H locs → lv_has ls 3 [(0, .ref a_this), (1, .int i1), (2, .int i2)] → F_X9_escapesOfAll_L4 g_all k fuel i1 i2 = some out → W p l e (zR 5 115) s m args below meth c H locs 0 0 (MQ below (zQ D (zw_36 cA 0 a_this a_this_all a_this_kept a_this_history a_this_slots a_this_isSaved a_this_stream a_this_pad v_historyLong v_streamLong v_spot v_padLong v_padSpot v_readNumber g_all) (some (.int out)) A) args s 0 0 A) (F0 m 4 ls []) := by
  intro fuel
  induction fuel with
  | zero => intro i1 i2 H locs ls hw hl hF; exact nomatch (show (none : Option (Int32)) = some out from hF)
  | succ fuel ih =>
    intro i1 i2 H locs ls hw hl hF
    rw [F_X9_escapesOfAll_L4] at hF
    refine z_iload_n 4 X dX9_escapesOfAll_4 hl 2 rfl ?_
    refine z_aload_n 5 X dX9_escapesOfAll_5 hl 0 rfl ?_
    obtain ⟨u1, e2, hF⟩ := zbd hF
    refine z_callV 6 zc9 mv_X9_blocks ml_9_65 0 [.int i2] (zk_118 cA 0 a_this a_this_all a_this_kept a_this_history a_this_slots a_this_isSaved a_this_stream a_this_pad v_historyLong v_streamLong v_spot v_padLong v_padSpot v_readNumber g_all) (m_X9_blocks l D cA a_this a_this_all a_this_kept a_this_history a_this_slots a_this_isSaved a_this_stream a_this_pad v_historyLong v_streamLong v_spot v_padLong v_padSpot v_readNumber g_all u1 e2) X dX9_escapesOfAll_6 hw hl rfl rfl rfl (Nat.le_of_ble_eq_true rfl) ⟨Nat.le_of_ble_eq_true rfl, Nat.le_of_ble_eq_true rfl⟩ ⟨Nat.zero_le _, Nat.zero_le _⟩ (fun H locs hw => ?_)
    refine z_icmp_ge 9 26 X dX9_escapesOfAll_9 (by decide) (fun c3 => ?_) (fun c3 => ?_)
    · replace hF := zpos c3 hF
      exact hk i1 H locs ls hw (lv_sub hl [1] rfl) hF
    · replace hF := zneg c3 hF
      refine z_iload_n 12 X dX9_escapesOfAll_12 hl 1 rfl ?_
      refine z_aload_n 13 X dX9_escapesOfAll_13 hl 0 rfl ?_
      refine z_iload_n 14 X dX9_escapesOfAll_14 hl 2 rfl ?_
      obtain ⟨u4, e5, hF⟩ := zbd hF
      refine z_callV 15 zc9 mv_X9_escapes ml_9_147 0 [.int i1] (zk_118 cA 0 a_this a_this_all a_this_kept a_this_history a_this_slots a_this_isSaved a_this_stream a_this_pad v_historyLong v_streamLong v_spot v_padLong v_padSpot v_readNumber g_all) (m_X9_escapes l D cA a_this a_this_all a_this_kept a_this_history a_this_slots a_this_isSaved a_this_stream a_this_pad v_historyLong v_streamLong v_spot v_padLong v_padSpot v_readNumber g_all i2 u4 e5) X dX9_escapesOfAll_15 hw hl rfl rfl rfl (Nat.le_of_ble_eq_true rfl) ⟨Nat.le_of_ble_eq_true rfl, Nat.le_of_ble_eq_true rfl⟩ ⟨Nat.zero_le _, Nat.zero_le _⟩ (fun H locs hw => ?_)
      refine z_iadd 18 X dX9_escapesOfAll_18 ?_
      refine z_istore_n 19 [(1, .int (i1 + u4)), (0, .ref a_this), (2, .int i2)] X dX9_escapesOfAll_19 hl (by decide) rfl (fun ls hl => ?_)
      refine z_iinc2 20 1 [(2, .int (i2 + 1)), (1, .int (i1 + u4)), (0, .ref a_this)] X dX9_escapesOfAll_20 hl 2 rfl (by decide) (by decide) rfl (fun ls hl => ?_)
      refine z_goto 23 4 X dX9_escapesOfAll_23 (by decide) ?_
      exact ih (i1 + u4) (i2 + 1) H locs ls hw (lv_sub hl [2, 1, 0] rfl) hF
set_option maxHeartbeats 4000000 in
set_option maxRecDepth 100000 in
theorem m_X9_escapesOfAll (l : Launch) (D : va_G) (cA : ClassId) (a_this a_this_all a_this_kept a_this_history a_this_slots a_this_isSaved a_this_stream a_this_pad : Nat) (v_historyLong : Int32) (v_streamLong : Int32) (v_spot : Int32) (v_padLong : Int32) (v_padSpot : Int32) (v_readNumber : Int32) (g_all : Ar) (out : Int32) (hF : F_X9_escapesOfAll g_all = some out) : zM l D cA yX9_escapesOfAll cX9_escapesOfAll 3 (some .int) 5 115 [.ref a_this] (zw_36 cA 0 a_this a_this_all a_this_kept a_this_history a_this_slots a_this_isSaved a_this_stream a_this_pad v_historyLong v_streamLong v_spot v_padLong v_padSpot v_readNumber g_all) (zw_36 cA 0 a_this a_this_all a_this_kept a_this_history a_this_slots a_this_isSaved a_this_stream a_this_pad v_historyLong v_streamLong v_spot v_padLong v_padSpot v_readNumber g_all) (some (.int out)) := by
  refine z_body (by decide) (Nat.le_of_ble_eq_true rfl) ?_
  intro p e s m args below meth c ls H locs A X hl hw
  have hl : lv_has ls 3 [(0, .ref a_this)] := hl
  unfold F_X9_escapesOfAll at hF
  refine z_iconst 0 0 X dX9_escapesOfAll_0 (by decide) ?_
  refine z_istore_n 1 [(1, .int 0), (0, .ref a_this)] X dX9_escapesOfAll_1 hl (by decide) rfl (fun ls hl => ?_)
  refine z_iconst 2 0 X dX9_escapesOfAll_2 (by decide) ?_
  refine z_istore_n 3 [(2, .int 0), (1, .int 0), (0, .ref a_this)] X dX9_escapesOfAll_3 hl (by decide) rfl (fun ls hl => ?_)
  refine l_X9_escapesOfAll_4 l D cA a_this a_this_all a_this_kept a_this_history a_this_slots a_this_isSaved a_this_stream a_this_pad v_historyLong v_streamLong v_spot v_padLong v_padSpot v_readNumber g_all out X _ (fun i1_6 H locs ls hw hl hF => ?_) zFuel 0 0 H locs ls hw (lv_sub hl [2, 1, 0] rfl) hF
  refine z_iload_n 26 X dX9_escapesOfAll_26 hl 0 rfl ?_
  cases hF
  exact z_iret 27 X dX9_escapesOfAll_27 hw rfl rfl
theorem dX9_greatestExponent_0 : decode cX9_greatestExponent 0 = .ok (.bipush (-6), 2) := by decide +kernel
theorem dX9_greatestExponent_2 : decode cX9_greatestExponent 2 = .ok (.istore_n 1, 1) := by decide +kernel
theorem dX9_greatestExponent_3 : decode cX9_greatestExponent 3 = .ok (.iconst 0, 1) := by decide +kernel
theorem dX9_greatestExponent_4 : decode cX9_greatestExponent 4 = .ok (.istore_n 2, 1) := by decide +kernel
theorem dX9_greatestExponent_5 : decode cX9_greatestExponent 5 = .ok (.iload_n 2, 1) := by decide +kernel
theorem dX9_greatestExponent_6 : decode cX9_greatestExponent 6 = .ok (.aload_n 0, 1) := by decide +kernel
theorem dX9_greatestExponent_7 : decode cX9_greatestExponent 7 = .ok (.invokevirtual 65, 3) := by decide +kernel
theorem dX9_greatestExponent_10 : decode cX9_greatestExponent 10 = .ok (.if_icmp .ge 28, 3) := by decide +kernel
theorem dX9_greatestExponent_13 : decode cX9_greatestExponent 13 = .ok (.aload_n 0, 1) := by decide +kernel
theorem dX9_greatestExponent_14 : decode cX9_greatestExponent 14 = .ok (.iload_n 2, 1) := by decide +kernel
theorem dX9_greatestExponent_15 : decode cX9_greatestExponent 15 = .ok (.invokevirtual 59, 3) := by decide +kernel
theorem dX9_greatestExponent_18 : decode cX9_greatestExponent 18 = .ok (.iload_n 1, 1) := by decide +kernel
theorem dX9_greatestExponent_19 : decode cX9_greatestExponent 19 = .ok (.if_icmp .le 11, 3) := by decide +kernel
theorem dX9_greatestExponent_22 : decode cX9_greatestExponent 22 = .ok (.aload_n 0, 1) := by decide +kernel
theorem dX9_greatestExponent_23 : decode cX9_greatestExponent 23 = .ok (.iload_n 2, 1) := by decide +kernel
theorem dX9_greatestExponent_24 : decode cX9_greatestExponent 24 = .ok (.invokevirtual 59, 3) := by decide +kernel
theorem dX9_greatestExponent_27 : decode cX9_greatestExponent 27 = .ok (.goto 4, 3) := by decide +kernel
theorem dX9_greatestExponent_30 : decode cX9_greatestExponent 30 = .ok (.iload_n 1, 1) := by decide +kernel
theorem dX9_greatestExponent_31 : decode cX9_greatestExponent 31 = .ok (.istore_n 1, 1) := by decide +kernel
theorem dX9_greatestExponent_32 : decode cX9_greatestExponent 32 = .ok (.iinc 2 1, 3) := by decide +kernel
theorem dX9_greatestExponent_35 : decode cX9_greatestExponent 35 = .ok (.goto (-30), 3) := by decide +kernel
theorem dX9_greatestExponent_38 : decode cX9_greatestExponent 38 = .ok (.iload_n 1, 1) := by decide +kernel
theorem dX9_greatestExponent_39 : decode cX9_greatestExponent 39 = .ok (.ireturn, 1) := by decide +kernel
set_option maxHeartbeats 4000000 in
set_option maxRecDepth 100000 in
theorem l_X9_greatestExponent_5 (l : Launch) (D : va_G) (cA : ClassId) (a_this a_this_all a_this_kept a_this_history a_this_slots a_this_isSaved a_this_stream a_this_pad : Nat) (v_historyLong : Int32) (v_streamLong : Int32) (v_spot : Int32) (v_padLong : Int32) (v_padSpot : Int32) (v_readNumber : Int32) (g_all : Ar) (out : Int32) {p : Program} {e : Env} {s : State} {m : MethodId} {args : Array Value} {below : List Frame} {meth : Method} {c : Code} {A : Nat → Prop} (X : zX D cA p s m args meth c cX9_greatestExponent 3 RX9 (some .int)) (k : Int32 → Option (Int32)) (hk : ∀ (i1 : Int32) (H : Heap) (locs : List Loc) (ls : Array Slot), zH D A s (zw_36 cA 0 a_this a_this_all a_this_kept a_this_history a_this_slots a_this_isSaved a_this_stream a_this_pad v_historyLong v_streamLong v_spot v_padLong v_padSpot v_readNumber g_all) H locs → lv_has ls 3 [(1, .int i1)] → k i1 = some out → W p l e (zR 4 91) s m args below meth c H locs 0 0 (MQ below (zQ D (zw_36 cA 0 a_this a_this_all a_this_kept a_this_history a_this_slots a_this_isSaved a_this_stream a_this_pad v_historyLong v_streamLong v_spot v_padLong v_padSpot v_readNumber g_all) (some (.int out)) A) args s 0 0 A) (F0 m 38 ls [])) :
    ∀ (fuel : Nat) (i1 : Int32) (i2 : Int32) (H : Heap) (locs : List Loc) (ls : Array Slot), zH D A s (zw_36 cA 0 a_this a_this_all a_this_kept a_this_history a_this_slots a_this_isSaved a_this_stream a_this_pad v_historyLong v_streamLong v_spot v_padLong v_padSpot v_readNumber g_all) H locs → lv_has ls 3 [(0, .ref a_this), (1, .int i1), (2, .int i2)] → F_X9_greatestExponent_L5 g_all k fuel i1 i2 = some out → W p l e (zR 4 91) s m args below meth c H locs 0 0 (MQ below (zQ D (zw_36 cA 0 a_this a_this_all a_this_kept a_this_history a_this_slots a_this_isSaved a_this_stream a_this_pad v_historyLong v_streamLong v_spot v_padLong v_padSpot v_readNumber g_all) (some (.int out)) A) args s 0 0 A) (F0 m 5 ls []) := by
  intro fuel
  induction fuel with
  | zero => intro i1 i2 H locs ls hw hl hF; exact nomatch (show (none : Option (Int32)) = some out from hF)
  | succ fuel ih =>
    intro i1 i2 H locs ls hw hl hF
    rw [F_X9_greatestExponent_L5] at hF
    refine z_iload_n 5 X dX9_greatestExponent_5 hl 2 rfl ?_
    refine z_aload_n 6 X dX9_greatestExponent_6 hl 0 rfl ?_
    obtain ⟨u1, e2, hF⟩ := zbd hF
    refine z_callV 7 zc9 mv_X9_blocks ml_9_65 0 [.int i2] (zk_118 cA 0 a_this a_this_all a_this_kept a_this_history a_this_slots a_this_isSaved a_this_stream a_this_pad v_historyLong v_streamLong v_spot v_padLong v_padSpot v_readNumber g_all) (m_X9_blocks l D cA a_this a_this_all a_this_kept a_this_history a_this_slots a_this_isSaved a_this_stream a_this_pad v_historyLong v_streamLong v_spot v_padLong v_padSpot v_readNumber g_all u1 e2) X dX9_greatestExponent_7 hw hl rfl rfl rfl (Nat.le_of_ble_eq_true rfl) ⟨Nat.le_of_ble_eq_true rfl, Nat.le_of_ble_eq_true rfl⟩ ⟨Nat.zero_le _, Nat.zero_le _⟩ (fun H locs hw => ?_)
    refine z_icmp_ge 10 38 X dX9_greatestExponent_10 (by decide) (fun c3 => ?_) (fun c3 => ?_)
    · replace hF := zpos c3 hF
      exact hk i1 H locs ls hw (lv_sub hl [1] rfl) hF
    · replace hF := zneg c3 hF
      refine z_aload_n 13 X dX9_greatestExponent_13 hl 0 rfl ?_
      refine z_iload_n 14 X dX9_greatestExponent_14 hl 2 rfl ?_
      obtain ⟨u4, e5, hF⟩ := zbd hF
      refine z_callV 15 zc9 mv_X9_exponentOf ml_9_59 0 [] (zk_118 cA 0 a_this a_this_all a_this_kept a_this_history a_this_slots a_this_isSaved a_this_stream a_this_pad v_historyLong v_streamLong v_spot v_padLong v_padSpot v_readNumber g_all) (m_X9_exponentOf l D cA a_this a_this_all a_this_kept a_this_history a_this_slots a_this_isSaved a_this_stream a_this_pad v_historyLong v_streamLong v_spot v_padLong v_padSpot v_readNumber g_all i2 u4 e5) X dX9_greatestExponent_15 hw hl rfl rfl rfl (Nat.le_of_ble_eq_true rfl) ⟨Nat.le_of_ble_eq_true rfl, Nat.le_of_ble_eq_true rfl⟩ ⟨Nat.zero_le _, Nat.zero_le _⟩ (fun H locs hw => ?_)
      refine z_iload_n 18 X dX9_greatestExponent_18 hl 1 rfl ?_
      refine z_icmp_le 19 30 X dX9_greatestExponent_19 (by decide) (fun c6 => ?_) (fun c6 => ?_)
      · replace hF := zpos c6 hF
        refine z_iload_n 30 X dX9_greatestExponent_30 hl 1 rfl ?_
        refine z_istore_n 31 [(1, .int i1), (0, .ref a_this), (2, .int i2)] X dX9_greatestExponent_31 hl (by decide) rfl (fun ls hl => ?_)
        refine z_iinc2 32 1 [(2, .int (i2 + 1)), (1, .int i1), (0, .ref a_this)] X dX9_greatestExponent_32 hl 2 rfl (by decide) (by decide) rfl (fun ls hl => ?_)
        refine z_goto 35 5 X dX9_greatestExponent_35 (by decide) ?_
        exact ih i1 (i2 + 1) H locs ls hw (lv_sub hl [2, 1, 0] rfl) hF
      · replace hF := zneg c6 hF
        refine z_aload_n 22 X dX9_greatestExponent_22 hl 0 rfl ?_
        refine z_iload_n 23 X dX9_greatestExponent_23 hl 2 rfl ?_
        obtain ⟨u7, e8, hF⟩ := zbd hF
        refine z_callV 24 zc9 mv_X9_exponentOf ml_9_59 0 [] (zk_118 cA 0 a_this a_this_all a_this_kept a_this_history a_this_slots a_this_isSaved a_this_stream a_this_pad v_historyLong v_streamLong v_spot v_padLong v_padSpot v_readNumber g_all) (m_X9_exponentOf l D cA a_this a_this_all a_this_kept a_this_history a_this_slots a_this_isSaved a_this_stream a_this_pad v_historyLong v_streamLong v_spot v_padLong v_padSpot v_readNumber g_all i2 u7 e8) X dX9_greatestExponent_24 hw hl rfl rfl rfl (Nat.le_of_ble_eq_true rfl) ⟨Nat.le_of_ble_eq_true rfl, Nat.le_of_ble_eq_true rfl⟩ ⟨Nat.zero_le _, Nat.zero_le _⟩ (fun H locs hw => ?_)
        refine z_goto 27 31 X dX9_greatestExponent_27 (by decide) ?_
        refine z_istore_n 31 [(1, .int u7), (0, .ref a_this), (2, .int i2)] X dX9_greatestExponent_31 hl (by decide) rfl (fun ls hl => ?_)
        refine z_iinc2 32 1 [(2, .int (i2 + 1)), (1, .int u7), (0, .ref a_this)] X dX9_greatestExponent_32 hl 2 rfl (by decide) (by decide) rfl (fun ls hl => ?_)
        refine z_goto 35 5 X dX9_greatestExponent_35 (by decide) ?_
        exact ih u7 (i2 + 1) H locs ls hw (lv_sub hl [2, 1, 0] rfl) hF
set_option maxHeartbeats 4000000 in
set_option maxRecDepth 100000 in
theorem m_X9_greatestExponent (l : Launch) (D : va_G) (cA : ClassId) (a_this a_this_all a_this_kept a_this_history a_this_slots a_this_isSaved a_this_stream a_this_pad : Nat) (v_historyLong : Int32) (v_streamLong : Int32) (v_spot : Int32) (v_padLong : Int32) (v_padSpot : Int32) (v_readNumber : Int32) (g_all : Ar) (out : Int32) (hF : F_X9_greatestExponent g_all = some out) : zM l D cA yX9_greatestExponent cX9_greatestExponent 3 (some .int) 4 91 [.ref a_this] (zw_36 cA 0 a_this a_this_all a_this_kept a_this_history a_this_slots a_this_isSaved a_this_stream a_this_pad v_historyLong v_streamLong v_spot v_padLong v_padSpot v_readNumber g_all) (zw_36 cA 0 a_this a_this_all a_this_kept a_this_history a_this_slots a_this_isSaved a_this_stream a_this_pad v_historyLong v_streamLong v_spot v_padLong v_padSpot v_readNumber g_all) (some (.int out)) := by
  refine z_body (by decide) (Nat.le_of_ble_eq_true rfl) ?_
  intro p e s m args below meth c ls H locs A X hl hw
  have hl : lv_has ls 3 [(0, .ref a_this)] := hl
  unfold F_X9_greatestExponent at hF
  refine z_bipush 0 (-6) X dX9_greatestExponent_0 (by decide) ?_
  refine z_istore_n 2 [(1, .int (-6)), (0, .ref a_this)] X dX9_greatestExponent_2 hl (by decide) rfl (fun ls hl => ?_)
  refine z_iconst 3 0 X dX9_greatestExponent_3 (by decide) ?_
  refine z_istore_n 4 [(2, .int 0), (1, .int (-6)), (0, .ref a_this)] X dX9_greatestExponent_4 hl (by decide) rfl (fun ls hl => ?_)
  refine l_X9_greatestExponent_5 l D cA a_this a_this_all a_this_kept a_this_history a_this_slots a_this_isSaved a_this_stream a_this_pad v_historyLong v_streamLong v_spot v_padLong v_padSpot v_readNumber g_all out X _ (fun i1_9 H locs ls hw hl hF => ?_) zFuel (-6) 0 H locs ls hw (lv_sub hl [2, 1, 0] rfl) hF
  refine z_iload_n 38 X dX9_greatestExponent_38 hl 0 rfl ?_
  cases hF
  exact z_iret 39 X dX9_greatestExponent_39 hw rfl rfl
theorem dX9_count_0 : decode cX9_count 0 = .ok (.iload_n 1, 1) := by decide +kernel
theorem dX9_count_1 : decode cX9_count 1 = .ok (.tableswitch 112 0 9 #[55, 62, 67, 72, 77, 87, 92, 92, 102, 107], 55) := by decide +kernel
theorem dX9_count_56 : decode cX9_count 56 = .ok (.aload_n 0, 1) := by decide +kernel
theorem dX9_count_57 : decode cX9_count 57 = .ok (.getfield 7, 3) := by decide +kernel
theorem dX9_count_60 : decode cX9_count 60 = .ok (.iconst 2, 1) := by decide +kernel
theorem dX9_count_61 : decode cX9_count 61 = .ok (.iaload, 1) := by decide +kernel
theorem dX9_count_62 : decode cX9_count 62 = .ok (.ireturn, 1) := by decide +kernel
theorem dX9_count_63 : decode cX9_count 63 = .ok (.aload_n 0, 1) := by decide +kernel
theorem dX9_count_64 : decode cX9_count 64 = .ok (.invokevirtual 65, 3) := by decide +kernel
theorem dX9_count_67 : decode cX9_count 67 = .ok (.ireturn, 1) := by decide +kernel
theorem dX9_count_68 : decode cX9_count 68 = .ok (.aload_n 0, 1) := by decide +kernel
theorem dX9_count_69 : decode cX9_count 69 = .ok (.invokevirtual 117, 3) := by decide +kernel
theorem dX9_count_72 : decode cX9_count 72 = .ok (.ireturn, 1) := by decide +kernel
theorem dX9_count_73 : decode cX9_count 73 = .ok (.aload_n 0, 1) := by decide +kernel
theorem dX9_count_74 : decode cX9_count 74 = .ok (.invokevirtual 160, 3) := by decide +kernel
theorem dX9_count_77 : decode cX9_count 77 = .ok (.ireturn, 1) := by decide +kernel
theorem dX9_count_78 : decode cX9_count 78 = .ok (.bipush 16, 2) := by decide +kernel
theorem dX9_count_80 : decode cX9_count 80 = .ok (.aload_n 0, 1) := by decide +kernel
theorem dX9_count_81 : decode cX9_count 81 = .ok (.getfield 7, 3) := by decide +kernel
theorem dX9_count_84 : decode cX9_count 84 = .ok (.iconst 2, 1) := by decide +kernel
theorem dX9_count_85 : decode cX9_count 85 = .ok (.iaload, 1) := by decide +kernel
theorem dX9_count_86 : decode cX9_count 86 = .ok (.imul, 1) := by decide +kernel
theorem dX9_count_87 : decode cX9_count 87 = .ok (.ireturn, 1) := by decide +kernel
theorem dX9_count_88 : decode cX9_count 88 = .ok (.aload_n 0, 1) := by decide +kernel
theorem dX9_count_89 : decode cX9_count 89 = .ok (.invokevirtual 163, 3) := by decide +kernel
theorem dX9_count_92 : decode cX9_count 92 = .ok (.ireturn, 1) := by decide +kernel
theorem dX9_count_93 : decode cX9_count 93 = .ok (.aload_n 0, 1) := by decide +kernel
theorem dX9_count_94 : decode cX9_count 94 = .ok (.getfield 7, 3) := by decide +kernel
theorem dX9_count_97 : decode cX9_count 97 = .ok (.iload_n 1, 1) := by decide +kernel
theorem dX9_count_98 : decode cX9_count 98 = .ok (.bipush 6, 2) := by decide +kernel
theorem dX9_count_100 : decode cX9_count 100 = .ok (.isub, 1) := by decide +kernel
theorem dX9_count_101 : decode cX9_count 101 = .ok (.iaload, 1) := by decide +kernel
theorem dX9_count_102 : decode cX9_count 102 = .ok (.ireturn, 1) := by decide +kernel
theorem dX9_count_103 : decode cX9_count 103 = .ok (.aload_n 0, 1) := by decide +kernel
theorem dX9_count_104 : decode cX9_count 104 = .ok (.getfield 166, 3) := by decide +kernel
theorem dX9_count_107 : decode cX9_count 107 = .ok (.ireturn, 1) := by decide +kernel
theorem dX9_count_108 : decode cX9_count 108 = .ok (.aload_n 0, 1) := by decide +kernel
theorem dX9_count_109 : decode cX9_count 109 = .ok (.getfield 31, 3) := by decide +kernel
theorem dX9_count_112 : decode cX9_count 112 = .ok (.ireturn, 1) := by decide +kernel
theorem dX9_count_113 : decode cX9_count 113 = .ok (.bipush (-2), 2) := by decide +kernel
theorem dX9_count_115 : decode cX9_count 115 = .ok (.ireturn, 1) := by decide +kernel
set_option maxHeartbeats 4000000 in
set_option maxRecDepth 100000 in
theorem m_X9_count (l : Launch) (D : va_G) (cA : ClassId) (a_this a_this_all a_this_kept a_this_history a_this_slots a_this_isSaved a_this_stream a_this_pad : Nat) (v_historyLong : Int32) (v_streamLong : Int32) (v_spot : Int32) (v_padLong : Int32) (v_padSpot : Int32) (v_readNumber : Int32) (g_all : Ar) (i1 : Int32) (out : Int32) (hF : F_X9_count v_historyLong v_padLong g_all i1 = some out) : zM l D cA yX9_count cX9_count 2 (some .int) 7 155 [.ref a_this, .int i1] (zw_36 cA 0 a_this a_this_all a_this_kept a_this_history a_this_slots a_this_isSaved a_this_stream a_this_pad v_historyLong v_streamLong v_spot v_padLong v_padSpot v_readNumber g_all) (zw_36 cA 0 a_this a_this_all a_this_kept a_this_history a_this_slots a_this_isSaved a_this_stream a_this_pad v_historyLong v_streamLong v_spot v_padLong v_padSpot v_readNumber g_all) (some (.int out)) := by
  refine z_body (by decide) (Nat.le_of_ble_eq_true rfl) ?_
  intro p e s m args below meth c ls H locs A X hl hw
  have hl : lv_has ls 2 [(0, .ref a_this), (1, .int i1)] := hl
  unfold F_X9_count at hF
  refine z_iload_n 0 X dX9_count_0 hl 1 rfl ?_
  by_cases c1 : i1 = 0
  · replace hF := zpos c1 hF
    refine z_swIn 1 56 0 X dX9_count_1 c1 ⟨by decide, by decide, rfl⟩ (by decide) ?_
    refine z_aload_n 56 X dX9_count_56 hl 0 rfl ?_
    refine z_get 57 zc9 0 0 fl_9_7 X dX9_count_57 hw rfl (by decide) rfl ?_
    refine z_iconst 60 2 X dX9_count_60 (by decide) ?_
    refine z_iald 61 1 (g_all 2) X dX9_count_61 hw rfl (by decide) rfl ?_
    cases hF
    exact z_iret 62 X dX9_count_62 hw rfl rfl
  · replace hF := zneg c1 hF
    by_cases c2 : i1 = 1
    · replace hF := zpos c2 hF
      refine z_swIn 1 63 1 X dX9_count_1 c2 ⟨by decide, by decide, rfl⟩ (by decide) ?_
      refine z_aload_n 63 X dX9_count_63 hl 0 rfl ?_
      obtain ⟨u3, e4, hF⟩ := zbd hF
      refine z_callV 64 zc9 mv_X9_blocks ml_9_65 0 [] (zk_118 cA 0 a_this a_this_all a_this_kept a_this_history a_this_slots a_this_isSaved a_this_stream a_this_pad v_historyLong v_streamLong v_spot v_padLong v_padSpot v_readNumber g_all) (m_X9_blocks l D cA a_this a_this_all a_this_kept a_this_history a_this_slots a_this_isSaved a_this_stream a_this_pad v_historyLong v_streamLong v_spot v_padLong v_padSpot v_readNumber g_all u3 e4) X dX9_count_64 hw hl rfl rfl rfl (Nat.le_of_ble_eq_true rfl) ⟨Nat.le_of_ble_eq_true rfl, Nat.le_of_ble_eq_true rfl⟩ ⟨Nat.zero_le _, Nat.zero_le _⟩ (fun H locs hw => ?_)
      cases hF
      exact z_iret 67 X dX9_count_67 hw rfl rfl
    · replace hF := zneg c2 hF
      by_cases c5 : i1 = 2
      · replace hF := zpos c5 hF
        refine z_swIn 1 68 2 X dX9_count_1 c5 ⟨by decide, by decide, rfl⟩ (by decide) ?_
        refine z_aload_n 68 X dX9_count_68 hl 0 rfl ?_
        obtain ⟨u6, e7, hF⟩ := zbd hF
        refine z_callV 69 zc9 mv_X9_streamBits ml_9_117 0 [] (zk_118 cA 0 a_this a_this_all a_this_kept a_this_history a_this_slots a_this_isSaved a_this_stream a_this_pad v_historyLong v_streamLong v_spot v_padLong v_padSpot v_readNumber g_all) (m_X9_streamBits l D cA a_this a_this_all a_this_kept a_this_history a_this_slots a_this_isSaved a_this_stream a_this_pad v_historyLong v_streamLong v_spot v_padLong v_padSpot v_readNumber g_all u6 e7) X dX9_count_69 hw hl rfl rfl rfl (Nat.le_of_ble_eq_true rfl) ⟨Nat.le_of_ble_eq_true rfl, Nat.le_of_ble_eq_true rfl⟩ ⟨Nat.zero_le _, Nat.zero_le _⟩ (fun H locs hw => ?_)
        cases hF
        exact z_iret 72 X dX9_count_72 hw rfl rfl
      · replace hF := zneg c5 hF
        by_cases c8 : i1 = 3
        · replace hF := zpos c8 hF
          refine z_swIn 1 73 3 X dX9_count_1 c8 ⟨by decide, by decide, rfl⟩ (by decide) ?_
          refine z_aload_n 73 X dX9_count_73 hl 0 rfl ?_
          obtain ⟨u9, e10, hF⟩ := zbd hF
          refine z_callV 74 zc9 mv_X9_escapesOfAll ml_9_160 0 [] (zk_118 cA 0 a_this a_this_all a_this_kept a_this_history a_this_slots a_this_isSaved a_this_stream a_this_pad v_historyLong v_streamLong v_spot v_padLong v_padSpot v_readNumber g_all) (m_X9_escapesOfAll l D cA a_this a_this_all a_this_kept a_this_history a_this_slots a_this_isSaved a_this_stream a_this_pad v_historyLong v_streamLong v_spot v_padLong v_padSpot v_readNumber g_all u9 e10) X dX9_count_74 hw hl rfl rfl rfl (Nat.le_of_ble_eq_true rfl) ⟨Nat.le_of_ble_eq_true rfl, Nat.le_of_ble_eq_true rfl⟩ ⟨Nat.zero_le _, Nat.zero_le _⟩ (fun H locs hw => ?_)
          cases hF
          exact z_iret 77 X dX9_count_77 hw rfl rfl
        · replace hF := zneg c8 hF
          by_cases c11 : i1 = 4
          · replace hF := zpos c11 hF
            refine z_swIn 1 78 4 X dX9_count_1 c11 ⟨by decide, by decide, rfl⟩ (by decide) ?_
            refine z_bipush 78 16 X dX9_count_78 (by decide) ?_
            refine z_aload_n 80 X dX9_count_80 hl 0 rfl ?_
            refine z_get 81 zc9 0 0 fl_9_7 X dX9_count_81 hw rfl (by decide) rfl ?_
            refine z_iconst 84 2 X dX9_count_84 (by decide) ?_
            refine z_iald 85 1 (g_all 2) X dX9_count_85 hw rfl (by decide) rfl ?_
            refine z_imul 86 X dX9_count_86 ?_
            cases hF
            exact z_iret 87 X dX9_count_87 hw rfl rfl
          · replace hF := zneg c11 hF
            by_cases c12 : i1 = 5
            · replace hF := zpos c12 hF
              refine z_swIn 1 88 5 X dX9_count_1 c12 ⟨by decide, by decide, rfl⟩ (by decide) ?_
              refine z_aload_n 88 X dX9_count_88 hl 0 rfl ?_
              obtain ⟨u13, e14, hF⟩ := zbd hF
              refine z_callV 89 zc9 mv_X9_greatestExponent ml_9_163 0 [] (zk_118 cA 0 a_this a_this_all a_this_kept a_this_history a_this_slots a_this_isSaved a_this_stream a_this_pad v_historyLong v_streamLong v_spot v_padLong v_padSpot v_readNumber g_all) (m_X9_greatestExponent l D cA a_this a_this_all a_this_kept a_this_history a_this_slots a_this_isSaved a_this_stream a_this_pad v_historyLong v_streamLong v_spot v_padLong v_padSpot v_readNumber g_all u13 e14) X dX9_count_89 hw hl rfl rfl rfl (Nat.le_of_ble_eq_true rfl) ⟨Nat.le_of_ble_eq_true rfl, Nat.le_of_ble_eq_true rfl⟩ ⟨Nat.zero_le _, Nat.zero_le _⟩ (fun H locs hw => ?_)
              cases hF
              exact z_iret 92 X dX9_count_92 hw rfl rfl
            · replace hF := zneg c12 hF
              by_cases c15 : i1 = 6
              · replace hF := zpos c15 hF
                refine z_swIn 1 93 6 X dX9_count_1 c15 ⟨by decide, by decide, rfl⟩ (by decide) ?_
                refine z_aload_n 93 X dX9_count_93 hl 0 rfl ?_
                refine z_get 94 zc9 0 0 fl_9_7 X dX9_count_94 hw rfl (by decide) rfl ?_
                refine z_iload_n 97 X dX9_count_97 hl 1 rfl ?_
                refine z_bipush 98 6 X dX9_count_98 (by decide) ?_
                refine z_isub 100 X dX9_count_100 ?_
                obtain ⟨gd16, hF⟩ := zgd hF
                refine z_iald 101 1 (g_all (i1 - 6).toNatClampNeg) X dX9_count_101 hw rfl gd16 rfl ?_
                cases hF
                exact z_iret 102 X dX9_count_102 hw rfl rfl
              · replace hF := zneg c15 hF
                by_cases c17 : i1 = 7
                · replace hF := zpos c17 hF
                  refine z_swIn 1 93 7 X dX9_count_1 c17 ⟨by decide, by decide, rfl⟩ (by decide) ?_
                  refine z_aload_n 93 X dX9_count_93 hl 0 rfl ?_
                  refine z_get 94 zc9 0 0 fl_9_7 X dX9_count_94 hw rfl (by decide) rfl ?_
                  refine z_iload_n 97 X dX9_count_97 hl 1 rfl ?_
                  refine z_bipush 98 6 X dX9_count_98 (by decide) ?_
                  refine z_isub 100 X dX9_count_100 ?_
                  obtain ⟨gd18, hF⟩ := zgd hF
                  refine z_iald 101 1 (g_all (i1 - 6).toNatClampNeg) X dX9_count_101 hw rfl gd18 rfl ?_
                  cases hF
                  exact z_iret 102 X dX9_count_102 hw rfl rfl
                · replace hF := zneg c17 hF
                  by_cases c19 : i1 = 8
                  · replace hF := zpos c19 hF
                    refine z_swIn 1 103 8 X dX9_count_1 c19 ⟨by decide, by decide, rfl⟩ (by decide) ?_
                    refine z_aload_n 103 X dX9_count_103 hl 0 rfl ?_
                    refine z_get 104 zc9 0 10 fl_9_166 X dX9_count_104 hw rfl (by decide) rfl ?_
                    cases hF
                    exact z_iret 107 X dX9_count_107 hw rfl rfl
                  · replace hF := zneg c19 hF
                    by_cases c20 : i1 = 9
                    · replace hF := zpos c20 hF
                      refine z_swIn 1 108 9 X dX9_count_1 c20 ⟨by decide, by decide, rfl⟩ (by decide) ?_
                      refine z_aload_n 108 X dX9_count_108 hl 0 rfl ?_
                      refine z_get 109 zc9 0 3 fl_9_31 X dX9_count_109 hw rfl (by decide) rfl ?_
                      cases hF
                      exact z_iret 112 X dX9_count_112 hw rfl rfl
                    · replace hF := zneg c20 hF
                      refine z_swOut 1 113 10 X dX9_count_1 (by decide) ⟨⟨⟨⟨⟨⟨⟨⟨⟨⟨trivial, c1⟩, c2⟩, c5⟩, c8⟩, c11⟩, c12⟩, c15⟩, c17⟩, c19⟩, c20⟩ (by decide) ?_
                      refine z_bipush 113 (-2) X dX9_count_113 (by decide) ?_
                      cases hF
                      exact z_iret 115 X dX9_count_115 hw rfl rfl
theorem dX9_at_0 : decode cX9_at 0 = .ok (.aload_n 0, 1) := by decide +kernel
theorem dX9_at_1 : decode cX9_at 1 = .ok (.iload_n 1, 1) := by decide +kernel
theorem dX9_at_2 : decode cX9_at 2 = .ok (.invokevirtual 112, 3) := by decide +kernel
theorem dX9_at_5 : decode cX9_at 5 = .ok (.ifCond .ne 5, 3) := by decide +kernel
theorem dX9_at_8 : decode cX9_at 8 = .ok (.iconst (-1), 1) := by decide +kernel
theorem dX9_at_9 : decode cX9_at 9 = .ok (.ireturn, 1) := by decide +kernel
theorem dX9_at_10 : decode cX9_at 10 = .ok (.iload_n 2, 1) := by decide +kernel
theorem dX9_at_11 : decode cX9_at 11 = .ok (.i2l, 1) := by decide +kernel
theorem dX9_at_12 : decode cX9_at 12 = .ok (.lconst 0, 1) := by decide +kernel
theorem dX9_at_13 : decode cX9_at 13 = .ok (.lconst 1, 1) := by decide +kernel
theorem dX9_at_14 : decode cX9_at 14 = .ok (.invokestatic 91, 3) := by decide +kernel
theorem dX9_at_17 : decode cX9_at 17 = .ok (.ifCond .ne 6, 3) := by decide +kernel
theorem dX9_at_20 : decode cX9_at 20 = .ok (.bipush (-2), 2) := by decide +kernel
theorem dX9_at_22 : decode cX9_at 22 = .ok (.ireturn, 1) := by decide +kernel
theorem dX9_at_23 : decode cX9_at 23 = .ok (.iload_n 1, 1) := by decide +kernel
theorem dX9_at_24 : decode cX9_at 24 = .ok (.aload_n 0, 1) := by decide +kernel
theorem dX9_at_25 : decode cX9_at 25 = .ok (.getfield 7, 3) := by decide +kernel
theorem dX9_at_28 : decode cX9_at 28 = .ok (.iconst 0, 1) := by decide +kernel
theorem dX9_at_29 : decode cX9_at 29 = .ok (.iaload, 1) := by decide +kernel
theorem dX9_at_30 : decode cX9_at 30 = .ok (.idiv, 1) := by decide +kernel
theorem dX9_at_31 : decode cX9_at 31 = .ok (.istore_n 3, 1) := by decide +kernel
theorem dX9_at_32 : decode cX9_at 32 = .ok (.iload_n 2, 1) := by decide +kernel
theorem dX9_at_33 : decode cX9_at 33 = .ok (.ifCond .ne 11, 3) := by decide +kernel
theorem dX9_at_36 : decode cX9_at 36 = .ok (.aload_n 0, 1) := by decide +kernel
theorem dX9_at_37 : decode cX9_at 37 = .ok (.iload_n 1, 1) := by decide +kernel
theorem dX9_at_38 : decode cX9_at 38 = .ok (.invokevirtual 35, 3) := by decide +kernel
theorem dX9_at_41 : decode cX9_at 41 = .ok (.goto 11, 3) := by decide +kernel
theorem dX9_at_44 : decode cX9_at 44 = .ok (.aload_n 0, 1) := by decide +kernel
theorem dX9_at_45 : decode cX9_at 45 = .ok (.iload_n 3, 1) := by decide +kernel
theorem dX9_at_46 : decode cX9_at 46 = .ok (.iload_n 1, 1) := by decide +kernel
theorem dX9_at_47 : decode cX9_at 47 = .ok (.iconst 1, 1) := by decide +kernel
theorem dX9_at_48 : decode cX9_at 48 = .ok (.iadd, 1) := by decide +kernel
theorem dX9_at_49 : decode cX9_at 49 = .ok (.invokevirtual 138, 3) := by decide +kernel
theorem dX9_at_52 : decode cX9_at 52 = .ok (.ireturn, 1) := by decide +kernel
set_option maxHeartbeats 4000000 in
set_option maxRecDepth 100000 in
theorem m_X9_at (l : Launch) (D : va_G) (cA : ClassId) (a_this a_this_all a_this_kept a_this_history a_this_slots a_this_isSaved a_this_stream a_this_pad : Nat) (v_historyLong : Int32) (v_streamLong : Int32) (v_spot : Int32) (v_padLong : Int32) (v_padSpot : Int32) (v_readNumber : Int32) (g_all : Ar) (i1 : Int32) (i2 : Int32) (out : Int32) (hF : F_X9_at g_all i1 i2 = some out) : zM l D cA yX9_at cX9_at 4 (some .int) 5 116 [.ref a_this, .int i1, .int i2] (zw_36 cA 0 a_this a_this_all a_this_kept a_this_history a_this_slots a_this_isSaved a_this_stream a_this_pad v_historyLong v_streamLong v_spot v_padLong v_padSpot v_readNumber g_all) (zw_36 cA 0 a_this a_this_all a_this_kept a_this_history a_this_slots a_this_isSaved a_this_stream a_this_pad v_historyLong v_streamLong v_spot v_padLong v_padSpot v_readNumber g_all) (some (.int out)) := by
  refine z_body (by decide) (Nat.le_of_ble_eq_true rfl) ?_
  intro p e s m args below meth c ls H locs A X hl hw
  have hl : lv_has ls 4 [(0, .ref a_this), (1, .int i1), (2, .int i2)] := hl
  unfold F_X9_at at hF
  refine z_aload_n 0 X dX9_at_0 hl 0 rfl ?_
  refine z_iload_n 1 X dX9_at_1 hl 1 rfl ?_
  obtain ⟨u1, e2, hF⟩ := zbd hF
  refine z_callV 2 zc9 mv_X9_isPlace ml_9_112 0 [] (zk_118 cA 0 a_this a_this_all a_this_kept a_this_history a_this_slots a_this_isSaved a_this_stream a_this_pad v_historyLong v_streamLong v_spot v_padLong v_padSpot v_readNumber g_all) (m_X9_isPlace l D cA a_this a_this_all a_this_kept a_this_history a_this_slots a_this_isSaved a_this_stream a_this_pad v_historyLong v_streamLong v_spot v_padLong v_padSpot v_readNumber g_all i1 u1 e2) X dX9_at_2 hw hl rfl rfl rfl (Nat.le_of_ble_eq_true rfl) ⟨Nat.le_of_ble_eq_true rfl, Nat.le_of_ble_eq_true rfl⟩ ⟨Nat.zero_le _, Nat.zero_le _⟩ (fun H locs hw => ?_)
  refine z_if_ne 5 10 X dX9_at_5 (by decide) (fun c3 => ?_) (fun c3 => ?_)
  · replace hF := zneg c3 hF
    refine z_iload_n 10 X dX9_at_10 hl 2 rfl ?_
    refine z_i2l 11 X dX9_at_11 ?_
    refine z_lconst 12 0 X dX9_at_12 (by decide) ?_
    refine z_lconst 13 1 X dX9_at_13 (by decide) ?_
    obtain ⟨u4, e5, hF⟩ := zbd hF
    refine z_callS 14 mv_X9_in ml_9_91 [] (zk_114 cA 0 a_this a_this_all a_this_kept a_this_history a_this_slots a_this_isSaved a_this_stream a_this_pad v_historyLong v_streamLong v_spot v_padLong v_padSpot v_readNumber g_all) (m_X9_in l D cA (i2.toInt64) 0 1 u4 e5) X dX9_at_14 hw hl rfl rfl (Nat.le_of_ble_eq_true rfl) ⟨Nat.le_of_ble_eq_true rfl, Nat.le_of_ble_eq_true rfl⟩ ⟨Nat.zero_le _, Nat.zero_le _⟩ (fun H locs hw => ?_)
    refine z_if_ne 17 23 X dX9_at_17 (by decide) (fun c6 => ?_) (fun c6 => ?_)
    · replace hF := zneg c6 hF
      refine z_iload_n 23 X dX9_at_23 hl 1 rfl ?_
      refine z_aload_n 24 X dX9_at_24 hl 0 rfl ?_
      refine z_get 25 zc9 0 0 fl_9_7 X dX9_at_25 hw rfl (by decide) rfl ?_
      refine z_iconst 28 0 X dX9_at_28 (by decide) ?_
      refine z_iald 29 1 (g_all 0) X dX9_at_29 hw rfl (by decide) rfl ?_
      obtain ⟨gd7, hF⟩ := zgd hF
      refine z_idiv 30 X dX9_at_30 gd7 ?_
      refine z_istore_n 31 [(3, .int (i1 / (g_all 0))), (0, .ref a_this), (1, .int i1), (2, .int i2)] X dX9_at_31 hl (by decide) rfl (fun ls hl => ?_)
      refine z_iload_n 32 X dX9_at_32 hl 3 rfl ?_
      refine z_if_ne 33 44 X dX9_at_33 (by decide) (fun c8 => ?_) (fun c8 => ?_)
      · replace hF := zneg c8 hF
        refine z_aload_n 44 X dX9_at_44 hl 1 rfl ?_
        refine z_iload_n 45 X dX9_at_45 hl 0 rfl ?_
        refine z_iload_n 46 X dX9_at_46 hl 2 rfl ?_
        refine z_iconst 47 1 X dX9_at_47 (by decide) ?_
        refine z_iadd 48 X dX9_at_48 ?_
        obtain ⟨u9, e10, hF⟩ := zbd hF
        refine z_callV 49 zc9 mv_X9_bitsAhead ml_9_138 0 [] (zk_118 cA 0 a_this a_this_all a_this_kept a_this_history a_this_slots a_this_isSaved a_this_stream a_this_pad v_historyLong v_streamLong v_spot v_padLong v_padSpot v_readNumber g_all) (m_X9_bitsAhead l D cA a_this a_this_all a_this_kept a_this_history a_this_slots a_this_isSaved a_this_stream a_this_pad v_historyLong v_streamLong v_spot v_padLong v_padSpot v_readNumber g_all (i1 / (g_all 0)) (i1 + 1) u9 e10) X dX9_at_49 hw hl rfl rfl rfl (Nat.le_of_ble_eq_true rfl) ⟨Nat.le_of_ble_eq_true rfl, Nat.le_of_ble_eq_true rfl⟩ ⟨Nat.zero_le _, Nat.zero_le _⟩ (fun H locs hw => ?_)
        cases hF
        exact z_iret 52 X dX9_at_52 hw rfl rfl
      · replace hF := zpos c8 hF
        refine z_aload_n 36 X dX9_at_36 hl 1 rfl ?_
        refine z_iload_n 37 X dX9_at_37 hl 2 rfl ?_
        obtain ⟨u11, e12, hF⟩ := zbd hF
        refine z_callV 38 zc9 mv_X9_number ml_9_35 0 [] (zk_118 cA 0 a_this a_this_all a_this_kept a_this_history a_this_slots a_this_isSaved a_this_stream a_this_pad v_historyLong v_streamLong v_spot v_padLong v_padSpot v_readNumber g_all) (m_X9_number l D cA a_this a_this_all a_this_kept a_this_history a_this_slots a_this_isSaved a_this_stream a_this_pad v_historyLong v_streamLong v_spot v_padLong v_padSpot v_readNumber g_all i1 u11 e12) X dX9_at_38 hw hl rfl rfl rfl (Nat.le_of_ble_eq_true rfl) ⟨Nat.le_of_ble_eq_true rfl, Nat.le_of_ble_eq_true rfl⟩ ⟨Nat.zero_le _, Nat.zero_le _⟩ (fun H locs hw => ?_)
        refine z_goto 41 52 X dX9_at_41 (by decide) ?_
        cases hF
        exact z_iret 52 X dX9_at_52 hw rfl rfl
    · replace hF := zpos c6 hF
      refine z_bipush 20 (-2) X dX9_at_20 (by decide) ?_
      cases hF
      exact z_iret 22 X dX9_at_22 hw rfl rfl
  · replace hF := zpos c3 hF
    refine z_iconst 8 (-1) X dX9_at_8 (by decide) ?_
    cases hF
    exact z_iret 9 X dX9_at_9 hw rfl rfl
theorem dX9_blockFor_0 : decode cX9_blockFor 0 = .ok (.bipush (-6), 2) := by decide +kernel
theorem dX9_blockFor_2 : decode cX9_blockFor 2 = .ok (.istore_n 2, 1) := by decide +kernel
theorem dX9_blockFor_3 : decode cX9_blockFor 3 = .ok (.iconst 0, 1) := by decide +kernel
theorem dX9_blockFor_4 : decode cX9_blockFor 4 = .ok (.istore_n 3, 1) := by decide +kernel
theorem dX9_blockFor_5 : decode cX9_blockFor 5 = .ok (.iload_n 3, 1) := by decide +kernel
theorem dX9_blockFor_6 : decode cX9_blockFor 6 = .ok (.aload_n 0, 1) := by decide +kernel
theorem dX9_blockFor_7 : decode cX9_blockFor 7 = .ok (.invokevirtual 65, 3) := by decide +kernel
theorem dX9_blockFor_10 : decode cX9_blockFor 10 = .ok (.if_icmp .ge 24, 3) := by decide +kernel
theorem dX9_blockFor_13 : decode cX9_blockFor 13 = .ok (.aload_n 0, 1) := by decide +kernel
theorem dX9_blockFor_14 : decode cX9_blockFor 14 = .ok (.iload_n 3, 1) := by decide +kernel
theorem dX9_blockFor_15 : decode cX9_blockFor 15 = .ok (.invokevirtual 144, 3) := by decide +kernel
theorem dX9_blockFor_18 : decode cX9_blockFor 18 = .ok (.iload_n 1, 1) := by decide +kernel
theorem dX9_blockFor_19 : decode cX9_blockFor 19 = .ok (.if_icmp .ge 7, 3) := by decide +kernel
theorem dX9_blockFor_22 : decode cX9_blockFor 22 = .ok (.iload_n 3, 1) := by decide +kernel
theorem dX9_blockFor_23 : decode cX9_blockFor 23 = .ok (.goto 4, 3) := by decide +kernel
theorem dX9_blockFor_26 : decode cX9_blockFor 26 = .ok (.iload_n 2, 1) := by decide +kernel
theorem dX9_blockFor_27 : decode cX9_blockFor 27 = .ok (.istore_n 2, 1) := by decide +kernel
theorem dX9_blockFor_28 : decode cX9_blockFor 28 = .ok (.iinc 3 1, 3) := by decide +kernel
theorem dX9_blockFor_31 : decode cX9_blockFor 31 = .ok (.goto (-26), 3) := by decide +kernel
theorem dX9_blockFor_34 : decode cX9_blockFor 34 = .ok (.iload_n 2, 1) := by decide +kernel
theorem dX9_blockFor_35 : decode cX9_blockFor 35 = .ok (.ireturn, 1) := by decide +kernel
set_option maxHeartbeats 4000000 in
set_option maxRecDepth 100000 in
theorem l_X9_blockFor_5 (l : Launch) (D : va_G) (cA : ClassId) (a_this a_this_all a_this_kept a_this_history a_this_slots a_this_isSaved a_this_stream a_this_pad : Nat) (v_historyLong : Int32) (v_streamLong : Int32) (v_spot : Int32) (v_padLong : Int32) (v_padSpot : Int32) (v_readNumber : Int32) (g_all : Ar) (i1 : Int32) (out : Int32) {p : Program} {e : Env} {s : State} {m : MethodId} {args : Array Value} {below : List Frame} {meth : Method} {c : Code} {A : Nat → Prop} (X : zX D cA p s m args meth c cX9_blockFor 4 RX9 (some .int)) (k : Int32 → Option (Int32)) (hk : ∀ (i2 : Int32) (H : Heap) (locs : List Loc) (ls : Array Slot), zH D A s (zw_36 cA 0 a_this a_this_all a_this_kept a_this_history a_this_slots a_this_isSaved a_this_stream a_this_pad v_historyLong v_streamLong v_spot v_padLong v_padSpot v_readNumber g_all) H locs → lv_has ls 4 [(2, .int i2)] → k i2 = some out → W p l e (zR 2 42) s m args below meth c H locs 0 0 (MQ below (zQ D (zw_36 cA 0 a_this a_this_all a_this_kept a_this_history a_this_slots a_this_isSaved a_this_stream a_this_pad v_historyLong v_streamLong v_spot v_padLong v_padSpot v_readNumber g_all) (some (.int out)) A) args s 0 0 A) (F0 m 34 ls [])) :
    ∀ (fuel : Nat) (i2 : Int32) (i3 : Int32) (H : Heap) (locs : List Loc) (ls : Array Slot), zH D A s (zw_36 cA 0 a_this a_this_all a_this_kept a_this_history a_this_slots a_this_isSaved a_this_stream a_this_pad v_historyLong v_streamLong v_spot v_padLong v_padSpot v_readNumber g_all) H locs → lv_has ls 4 [(0, .ref a_this), (1, .int i1), (2, .int i2), (3, .int i3)] → F_X9_blockFor_L5 g_all i1 k fuel i2 i3 = some out → W p l e (zR 2 42) s m args below meth c H locs 0 0 (MQ below (zQ D (zw_36 cA 0 a_this a_this_all a_this_kept a_this_history a_this_slots a_this_isSaved a_this_stream a_this_pad v_historyLong v_streamLong v_spot v_padLong v_padSpot v_readNumber g_all) (some (.int out)) A) args s 0 0 A) (F0 m 5 ls []) := by
  intro fuel
  induction fuel with
  | zero => intro i2 i3 H locs ls hw hl hF; exact nomatch (show (none : Option (Int32)) = some out from hF)
  | succ fuel ih =>
    intro i2 i3 H locs ls hw hl hF
    rw [F_X9_blockFor_L5] at hF
    refine z_iload_n 5 X dX9_blockFor_5 hl 3 rfl ?_
    refine z_aload_n 6 X dX9_blockFor_6 hl 0 rfl ?_
    obtain ⟨u1, e2, hF⟩ := zbd hF
    refine z_callV 7 zc9 mv_X9_blocks ml_9_65 0 [.int i3] (zk_118 cA 0 a_this a_this_all a_this_kept a_this_history a_this_slots a_this_isSaved a_this_stream a_this_pad v_historyLong v_streamLong v_spot v_padLong v_padSpot v_readNumber g_all) (m_X9_blocks l D cA a_this a_this_all a_this_kept a_this_history a_this_slots a_this_isSaved a_this_stream a_this_pad v_historyLong v_streamLong v_spot v_padLong v_padSpot v_readNumber g_all u1 e2) X dX9_blockFor_7 hw hl rfl rfl rfl (Nat.le_of_ble_eq_true rfl) ⟨Nat.le_of_ble_eq_true rfl, Nat.le_of_ble_eq_true rfl⟩ ⟨Nat.zero_le _, Nat.zero_le _⟩ (fun H locs hw => ?_)
    refine z_icmp_ge 10 34 X dX9_blockFor_10 (by decide) (fun c3 => ?_) (fun c3 => ?_)
    · replace hF := zpos c3 hF
      exact hk i2 H locs ls hw (lv_sub hl [2] rfl) hF
    · replace hF := zneg c3 hF
      refine z_aload_n 13 X dX9_blockFor_13 hl 0 rfl ?_
      refine z_iload_n 14 X dX9_blockFor_14 hl 3 rfl ?_
      obtain ⟨u4, e5, hF⟩ := zbd hF
      refine z_callV 15 zc9 mv_X9_base ml_9_144 0 [] (zk_118 cA 0 a_this a_this_all a_this_kept a_this_history a_this_slots a_this_isSaved a_this_stream a_this_pad v_historyLong v_streamLong v_spot v_padLong v_padSpot v_readNumber g_all) (m_X9_base l D cA a_this a_this_all a_this_kept a_this_history a_this_slots a_this_isSaved a_this_stream a_this_pad v_historyLong v_streamLong v_spot v_padLong v_padSpot v_readNumber g_all i3 u4 e5) X dX9_blockFor_15 hw hl rfl rfl rfl (Nat.le_of_ble_eq_true rfl) ⟨Nat.le_of_ble_eq_true rfl, Nat.le_of_ble_eq_true rfl⟩ ⟨Nat.zero_le _, Nat.zero_le _⟩ (fun H locs hw => ?_)
      refine z_iload_n 18 X dX9_blockFor_18 hl 1 rfl ?_
      refine z_icmp_ge 19 26 X dX9_blockFor_19 (by decide) (fun c6 => ?_) (fun c6 => ?_)
      · replace hF := zpos c6 hF
        refine z_iload_n 26 X dX9_blockFor_26 hl 2 rfl ?_
        refine z_istore_n 27 [(2, .int i2), (0, .ref a_this), (1, .int i1), (3, .int i3)] X dX9_blockFor_27 hl (by decide) rfl (fun ls hl => ?_)
        refine z_iinc2 28 1 [(3, .int (i3 + 1)), (2, .int i2), (0, .ref a_this), (1, .int i1)] X dX9_blockFor_28 hl 3 rfl (by decide) (by decide) rfl (fun ls hl => ?_)
        refine z_goto 31 5 X dX9_blockFor_31 (by decide) ?_
        exact ih i2 (i3 + 1) H locs ls hw (lv_sub hl [2, 3, 1, 0] rfl) hF
      · replace hF := zneg c6 hF
        refine z_iload_n 22 X dX9_blockFor_22 hl 3 rfl ?_
        refine z_goto 23 27 X dX9_blockFor_23 (by decide) ?_
        refine z_istore_n 27 [(2, .int i3), (0, .ref a_this), (1, .int i1), (3, .int i3)] X dX9_blockFor_27 hl (by decide) rfl (fun ls hl => ?_)
        refine z_iinc2 28 1 [(3, .int (i3 + 1)), (2, .int i3), (0, .ref a_this), (1, .int i1)] X dX9_blockFor_28 hl 3 rfl (by decide) (by decide) rfl (fun ls hl => ?_)
        refine z_goto 31 5 X dX9_blockFor_31 (by decide) ?_
        exact ih i3 (i3 + 1) H locs ls hw (lv_sub hl [2, 3, 1, 0] rfl) hF
set_option maxHeartbeats 4000000 in
set_option maxRecDepth 100000 in
theorem m_X9_blockFor (l : Launch) (D : va_G) (cA : ClassId) (a_this a_this_all a_this_kept a_this_history a_this_slots a_this_isSaved a_this_stream a_this_pad : Nat) (v_historyLong : Int32) (v_streamLong : Int32) (v_spot : Int32) (v_padLong : Int32) (v_padSpot : Int32) (v_readNumber : Int32) (g_all : Ar) (i1 : Int32) (out : Int32) (hF : F_X9_blockFor g_all i1 = some out) : zM l D cA yX9_blockFor cX9_blockFor 4 (some .int) 2 42 [.ref a_this, .int i1] (zw_36 cA 0 a_this a_this_all a_this_kept a_this_history a_this_slots a_this_isSaved a_this_stream a_this_pad v_historyLong v_streamLong v_spot v_padLong v_padSpot v_readNumber g_all) (zw_36 cA 0 a_this a_this_all a_this_kept a_this_history a_this_slots a_this_isSaved a_this_stream a_this_pad v_historyLong v_streamLong v_spot v_padLong v_padSpot v_readNumber g_all) (some (.int out)) := by
  refine z_body (by decide) (Nat.le_of_ble_eq_true rfl) ?_
  intro p e s m args below meth c ls H locs A X hl hw
  have hl : lv_has ls 4 [(0, .ref a_this), (1, .int i1)] := hl
  unfold F_X9_blockFor at hF
  refine z_bipush 0 (-6) X dX9_blockFor_0 (by decide) ?_
  refine z_istore_n 2 [(2, .int (-6)), (0, .ref a_this), (1, .int i1)] X dX9_blockFor_2 hl (by decide) rfl (fun ls hl => ?_)
  refine z_iconst 3 0 X dX9_blockFor_3 (by decide) ?_
  refine z_istore_n 4 [(3, .int 0), (2, .int (-6)), (0, .ref a_this), (1, .int i1)] X dX9_blockFor_4 hl (by decide) rfl (fun ls hl => ?_)
  refine l_X9_blockFor_5 l D cA a_this a_this_all a_this_kept a_this_history a_this_slots a_this_isSaved a_this_stream a_this_pad v_historyLong v_streamLong v_spot v_padLong v_padSpot v_readNumber g_all i1 out X _ (fun i2_7 H locs ls hw hl hF => ?_) zFuel (-6) 0 H locs ls hw (lv_sub hl [2, 3, 1, 0] rfl) hF
  refine z_iload_n 34 X dX9_blockFor_34 hl 0 rfl ?_
  cases hF
  exact z_iret 35 X dX9_blockFor_35 hw rfl rfl
