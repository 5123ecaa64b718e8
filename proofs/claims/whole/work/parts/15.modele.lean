theorem dX9_readsLetter_0 : decode cX9_readsLetter 0 = .ok (.aload_n 0, 1) := by decide +kernel
theorem dX9_readsLetter_1 : decode cX9_readsLetter 1 = .ok (.getfield 191, 3) := by decide +kernel
theorem dX9_readsLetter_4 : decode cX9_readsLetter 4 = .ok (.aload_n 0, 1) := by decide +kernel
theorem dX9_readsLetter_5 : decode cX9_readsLetter 5 = .ok (.getfield 166, 3) := by decide +kernel
theorem dX9_readsLetter_8 : decode cX9_readsLetter 8 = .ok (.if_icmp .ge 63, 3) := by decide +kernel
theorem dX9_readsLetter_11 : decode cX9_readsLetter 11 = .ok (.aload_n 0, 1) := by decide +kernel
theorem dX9_readsLetter_12 : decode cX9_readsLetter 12 = .ok (.getfield 28, 3) := by decide +kernel
theorem dX9_readsLetter_15 : decode cX9_readsLetter 15 = .ok (.aload_n 0, 1) := by decide +kernel
theorem dX9_readsLetter_16 : decode cX9_readsLetter 16 = .ok (.getfield 191, 3) := by decide +kernel
theorem dX9_readsLetter_19 : decode cX9_readsLetter 19 = .ok (.iaload, 1) := by decide +kernel
theorem dX9_readsLetter_20 : decode cX9_readsLetter 20 = .ok (.bipush 43, 2) := by decide +kernel
theorem dX9_readsLetter_22 : decode cX9_readsLetter 22 = .ok (.if_icmp .eq 45, 3) := by decide +kernel
theorem dX9_readsLetter_25 : decode cX9_readsLetter 25 = .ok (.aload_n 0, 1) := by decide +kernel
theorem dX9_readsLetter_26 : decode cX9_readsLetter 26 = .ok (.getfield 28, 3) := by decide +kernel
theorem dX9_readsLetter_29 : decode cX9_readsLetter 29 = .ok (.aload_n 0, 1) := by decide +kernel
theorem dX9_readsLetter_30 : decode cX9_readsLetter 30 = .ok (.getfield 191, 3) := by decide +kernel
theorem dX9_readsLetter_33 : decode cX9_readsLetter 33 = .ok (.iaload, 1) := by decide +kernel
theorem dX9_readsLetter_34 : decode cX9_readsLetter 34 = .ok (.bipush 45, 2) := by decide +kernel
theorem dX9_readsLetter_36 : decode cX9_readsLetter 36 = .ok (.if_icmp .eq 31, 3) := by decide +kernel
theorem dX9_readsLetter_39 : decode cX9_readsLetter 39 = .ok (.aload_n 0, 1) := by decide +kernel
theorem dX9_readsLetter_40 : decode cX9_readsLetter 40 = .ok (.getfield 28, 3) := by decide +kernel
theorem dX9_readsLetter_43 : decode cX9_readsLetter 43 = .ok (.aload_n 0, 1) := by decide +kernel
theorem dX9_readsLetter_44 : decode cX9_readsLetter 44 = .ok (.getfield 191, 3) := by decide +kernel
theorem dX9_readsLetter_47 : decode cX9_readsLetter 47 = .ok (.iaload, 1) := by decide +kernel
theorem dX9_readsLetter_48 : decode cX9_readsLetter 48 = .ok (.bipush 98, 2) := by decide +kernel
theorem dX9_readsLetter_50 : decode cX9_readsLetter 50 = .ok (.if_icmp .eq 17, 3) := by decide +kernel
theorem dX9_readsLetter_53 : decode cX9_readsLetter 53 = .ok (.aload_n 0, 1) := by decide +kernel
theorem dX9_readsLetter_54 : decode cX9_readsLetter 54 = .ok (.getfield 28, 3) := by decide +kernel
theorem dX9_readsLetter_57 : decode cX9_readsLetter 57 = .ok (.aload_n 0, 1) := by decide +kernel
theorem dX9_readsLetter_58 : decode cX9_readsLetter 58 = .ok (.getfield 191, 3) := by decide +kernel
theorem dX9_readsLetter_61 : decode cX9_readsLetter 61 = .ok (.iaload, 1) := by decide +kernel
theorem dX9_readsLetter_62 : decode cX9_readsLetter 62 = .ok (.bipush 111, 2) := by decide +kernel
theorem dX9_readsLetter_64 : decode cX9_readsLetter 64 = .ok (.if_icmp .ne 7, 3) := by decide +kernel
theorem dX9_readsLetter_67 : decode cX9_readsLetter 67 = .ok (.iconst 1, 1) := by decide +kernel
theorem dX9_readsLetter_68 : decode cX9_readsLetter 68 = .ok (.goto 4, 3) := by decide +kernel
theorem dX9_readsLetter_71 : decode cX9_readsLetter 71 = .ok (.iconst 0, 1) := by decide +kernel
theorem dX9_readsLetter_72 : decode cX9_readsLetter 72 = .ok (.istore_n 1, 1) := by decide +kernel
theorem dX9_readsLetter_73 : decode cX9_readsLetter 73 = .ok (.aload_n 0, 1) := by decide +kernel
theorem dX9_readsLetter_74 : decode cX9_readsLetter 74 = .ok (.dup, 1) := by decide +kernel
theorem dX9_readsLetter_75 : decode cX9_readsLetter 75 = .ok (.getfield 191, 3) := by decide +kernel
theorem dX9_readsLetter_78 : decode cX9_readsLetter 78 = .ok (.iload_n 1, 1) := by decide +kernel
theorem dX9_readsLetter_79 : decode cX9_readsLetter 79 = .ok (.ifCond .eq 7, 3) := by decide +kernel
theorem dX9_readsLetter_82 : decode cX9_readsLetter 82 = .ok (.iconst 1, 1) := by decide +kernel
theorem dX9_readsLetter_83 : decode cX9_readsLetter 83 = .ok (.goto 4, 3) := by decide +kernel
theorem dX9_readsLetter_86 : decode cX9_readsLetter 86 = .ok (.iconst 0, 1) := by decide +kernel
theorem dX9_readsLetter_87 : decode cX9_readsLetter 87 = .ok (.iadd, 1) := by decide +kernel
theorem dX9_readsLetter_88 : decode cX9_readsLetter 88 = .ok (.putfield 191, 3) := by decide +kernel
theorem dX9_readsLetter_91 : decode cX9_readsLetter 91 = .ok (.iload_n 1, 1) := by decide +kernel
theorem dX9_readsLetter_92 : decode cX9_readsLetter 92 = .ok (.ifCond .eq 17, 3) := by decide +kernel
theorem dX9_readsLetter_95 : decode cX9_readsLetter 95 = .ok (.aload_n 0, 1) := by decide +kernel
theorem dX9_readsLetter_96 : decode cX9_readsLetter 96 = .ok (.getfield 28, 3) := by decide +kernel
theorem dX9_readsLetter_99 : decode cX9_readsLetter 99 = .ok (.aload_n 0, 1) := by decide +kernel
theorem dX9_readsLetter_100 : decode cX9_readsLetter 100 = .ok (.getfield 191, 3) := by decide +kernel
theorem dX9_readsLetter_103 : decode cX9_readsLetter 103 = .ok (.iconst 1, 1) := by decide +kernel
theorem dX9_readsLetter_104 : decode cX9_readsLetter 104 = .ok (.isub, 1) := by decide +kernel
theorem dX9_readsLetter_105 : decode cX9_readsLetter 105 = .ok (.iaload, 1) := by decide +kernel
theorem dX9_readsLetter_106 : decode cX9_readsLetter 106 = .ok (.goto 4, 3) := by decide +kernel
theorem dX9_readsLetter_109 : decode cX9_readsLetter 109 = .ok (.iconst 0, 1) := by decide +kernel
theorem dX9_readsLetter_110 : decode cX9_readsLetter 110 = .ok (.ireturn, 1) := by decide +kernel
set_option maxHeartbeats 4000000 in
set_option maxRecDepth 100000 in
theorem m_X9_readsLetter (l : Launch) (D : va_G) (cA : ClassId) (a_this a_this_all a_this_kept a_this_history a_this_slots a_this_isSaved a_this_stream a_this_pad : Nat) (v_historyLong : Int32) (v_streamLong : Int32) (v_spot : Int32) (v_padLong : Int32) (v_padSpot : Int32) (v_readNumber : Int32) (g_pad : Ar) (out : Int32 × Int32) (hF : F_X9_readsLetter v_padLong v_padSpot g_pad = some out) : zM l D cA yX9_readsLetter cX9_readsLetter 2 (some .int) 0 0 [.ref a_this] (zw_41 cA 0 a_this a_this_all a_this_kept a_this_history a_this_slots a_this_isSaved a_this_stream a_this_pad v_historyLong v_streamLong v_spot v_padLong v_padSpot v_readNumber g_pad) (zw_41 cA 0 a_this a_this_all a_this_kept a_this_history a_this_slots a_this_isSaved a_this_stream a_this_pad v_historyLong v_streamLong v_spot v_padLong out.2 v_readNumber g_pad) (some (.int out.1)) := by
  refine z_body (by decide) (Nat.le_of_ble_eq_true rfl) ?_
  intro p e s m args below meth c ls H locs A X hl hw
  have hl : lv_has ls 2 [(0, .ref a_this)] := hl
  unfold F_X9_readsLetter at hF
  refine z_aload_n 0 X dX9_readsLetter_0 hl 0 rfl ?_
  refine z_get 1 zc9 0 11 fl_9_191 X dX9_readsLetter_1 hw rfl (by decide) rfl ?_
  refine z_aload_n 4 X dX9_readsLetter_4 hl 0 rfl ?_
  refine z_get 5 zc9 0 10 fl_9_166 X dX9_readsLetter_5 hw rfl (by decide) rfl ?_
  refine z_icmp_ge 8 71 X dX9_readsLetter_8 (by decide) (fun c1 => ?_) (fun c1 => ?_)
  · replace hF := zpos c1 hF
    refine z_iconst 71 0 X dX9_readsLetter_71 (by decide) ?_
    refine z_istore_n 72 [(1, .int 0), (0, .ref a_this)] X dX9_readsLetter_72 hl (by decide) rfl (fun ls hl => ?_)
    refine z_aload_n 73 X dX9_readsLetter_73 hl 1 rfl ?_
    refine z_dup 74 X dX9_readsLetter_74 rfl ?_
    refine z_get 75 zc9 0 11 fl_9_191 X dX9_readsLetter_75 hw rfl (by decide) rfl ?_
    refine z_iload_n 78 X dX9_readsLetter_78 hl 0 rfl ?_
    refine z_if_eq 79 86 X dX9_readsLetter_79 (by decide) (fun c2 => ?_) (fun c2 => ?_)
    · refine z_iconst 86 0 X dX9_readsLetter_86 (by decide) ?_
      refine z_iadd 87 X dX9_readsLetter_87 ?_
      refine z_put 88 zc9 0 11 (zw_41 cA 0 a_this a_this_all a_this_kept a_this_history a_this_slots a_this_isSaved a_this_stream a_this_pad v_historyLong v_streamLong v_spot v_padLong (v_padSpot + 0) v_readNumber g_pad) fl_9_191 X dX9_readsLetter_88 hw rfl (by decide) rfl rfl rfl (Nat.le_of_ble_eq_true rfl) rfl (fun H locs hw => ?_)
      refine z_iload_n 91 X dX9_readsLetter_91 hl 0 rfl ?_
      refine z_if_eq 92 109 X dX9_readsLetter_92 (by decide) (fun c3 => ?_) (fun c3 => ?_)
      · refine z_iconst 109 0 X dX9_readsLetter_109 (by decide) ?_
        cases hF
        exact z_iret 110 X dX9_readsLetter_110 hw rfl rfl
      · exact absurd c3 (by decide)
    · exact absurd c2 (by decide)
  · replace hF := zneg c1 hF
    refine z_aload_n 11 X dX9_readsLetter_11 hl 0 rfl ?_
    refine z_get 12 zc9 0 9 fl_9_28 X dX9_readsLetter_12 hw rfl (by decide) rfl ?_
    refine z_aload_n 15 X dX9_readsLetter_15 hl 0 rfl ?_
    refine z_get 16 zc9 0 11 fl_9_191 X dX9_readsLetter_16 hw rfl (by decide) rfl ?_
    obtain ⟨gd4, hF⟩ := zgd hF
    refine z_iald 19 1 (g_pad v_padSpot.toNatClampNeg) X dX9_readsLetter_19 hw rfl gd4 rfl ?_
    refine z_bipush 20 43 X dX9_readsLetter_20 (by decide) ?_
    refine z_icmp_eq 22 67 X dX9_readsLetter_22 (by decide) (fun c5 => ?_) (fun c5 => ?_)
    · replace hF := zpos c5 hF
      refine z_iconst 67 1 X dX9_readsLetter_67 (by decide) ?_
      refine z_goto 68 72 X dX9_readsLetter_68 (by decide) ?_
      refine z_istore_n 72 [(1, .int 1), (0, .ref a_this)] X dX9_readsLetter_72 hl (by decide) rfl (fun ls hl => ?_)
      refine z_aload_n 73 X dX9_readsLetter_73 hl 1 rfl ?_
      refine z_dup 74 X dX9_readsLetter_74 rfl ?_
      refine z_get 75 zc9 0 11 fl_9_191 X dX9_readsLetter_75 hw rfl (by decide) rfl ?_
      refine z_iload_n 78 X dX9_readsLetter_78 hl 0 rfl ?_
      refine z_if_eq 79 86 X dX9_readsLetter_79 (by decide) (fun c6 => ?_) (fun c6 => ?_)
      · exact absurd c6 (by decide)
      · refine z_iconst 82 1 X dX9_readsLetter_82 (by decide) ?_
        refine z_goto 83 87 X dX9_readsLetter_83 (by decide) ?_
        refine z_iadd 87 X dX9_readsLetter_87 ?_
        refine z_put 88 zc9 0 11 (zw_41 cA 0 a_this a_this_all a_this_kept a_this_history a_this_slots a_this_isSaved a_this_stream a_this_pad v_historyLong v_streamLong v_spot v_padLong (v_padSpot + 1) v_readNumber g_pad) fl_9_191 X dX9_readsLetter_88 hw rfl (by decide) rfl rfl rfl (Nat.le_of_ble_eq_true rfl) rfl (fun H locs hw => ?_)
        refine z_iload_n 91 X dX9_readsLetter_91 hl 0 rfl ?_
        refine z_if_eq 92 109 X dX9_readsLetter_92 (by decide) (fun c7 => ?_) (fun c7 => ?_)
        · exact absurd c7 (by decide)
        · refine z_aload_n 95 X dX9_readsLetter_95 hl 1 rfl ?_
          refine z_get 96 zc9 0 9 fl_9_28 X dX9_readsLetter_96 hw rfl (by decide) rfl ?_
          refine z_aload_n 99 X dX9_readsLetter_99 hl 1 rfl ?_
          refine z_get 100 zc9 0 11 fl_9_191 X dX9_readsLetter_100 hw rfl (by decide) rfl ?_
          refine z_iconst 103 1 X dX9_readsLetter_103 (by decide) ?_
          refine z_isub 104 X dX9_readsLetter_104 ?_
          obtain ⟨gd8, hF⟩ := zgd hF
          refine z_iald 105 1 (g_pad ((v_padSpot + 1) - 1).toNatClampNeg) X dX9_readsLetter_105 hw rfl gd8 rfl ?_
          refine z_goto 106 110 X dX9_readsLetter_106 (by decide) ?_
          cases hF
          exact z_iret 110 X dX9_readsLetter_110 hw rfl rfl
    · replace hF := zneg c5 hF
      refine z_aload_n 25 X dX9_readsLetter_25 hl 0 rfl ?_
      refine z_get 26 zc9 0 9 fl_9_28 X dX9_readsLetter_26 hw rfl (by decide) rfl ?_
      refine z_aload_n 29 X dX9_readsLetter_29 hl 0 rfl ?_
      refine z_get 30 zc9 0 11 fl_9_191 X dX9_readsLetter_30 hw rfl (by decide) rfl ?_
      obtain ⟨gd9, hF⟩ := zgd hF
      refine z_iald 33 1 (g_pad v_padSpot.toNatClampNeg) X dX9_readsLetter_33 hw rfl gd9 rfl ?_
      refine z_bipush 34 45 X dX9_readsLetter_34 (by decide) ?_
      refine z_icmp_eq 36 67 X dX9_readsLetter_36 (by decide) (fun c10 => ?_) (fun c10 => ?_)
      · replace hF := zpos c10 hF
        refine z_iconst 67 1 X dX9_readsLetter_67 (by decide) ?_
        refine z_goto 68 72 X dX9_readsLetter_68 (by decide) ?_
        refine z_istore_n 72 [(1, .int 1), (0, .ref a_this)] X dX9_readsLetter_72 hl (by decide) rfl (fun ls hl => ?_)
        refine z_aload_n 73 X dX9_readsLetter_73 hl 1 rfl ?_
        refine z_dup 74 X dX9_readsLetter_74 rfl ?_
        refine z_get 75 zc9 0 11 fl_9_191 X dX9_readsLetter_75 hw rfl (by decide) rfl ?_
        refine z_iload_n 78 X dX9_readsLetter_78 hl 0 rfl ?_
        refine z_if_eq 79 86 X dX9_readsLetter_79 (by decide) (fun c11 => ?_) (fun c11 => ?_)
        · exact absurd c11 (by decide)
        · refine z_iconst 82 1 X dX9_readsLetter_82 (by decide) ?_
          refine z_goto 83 87 X dX9_readsLetter_83 (by decide) ?_
          refine z_iadd 87 X dX9_readsLetter_87 ?_
          refine z_put 88 zc9 0 11 (zw_41 cA 0 a_this a_this_all a_this_kept a_this_history a_this_slots a_this_isSaved a_this_stream a_this_pad v_historyLong v_streamLong v_spot v_padLong (v_padSpot + 1) v_readNumber g_pad) fl_9_191 X dX9_readsLetter_88 hw rfl (by decide) rfl rfl rfl (Nat.le_of_ble_eq_true rfl) rfl (fun H locs hw => ?_)
          refine z_iload_n 91 X dX9_readsLetter_91 hl 0 rfl ?_
          refine z_if_eq 92 109 X dX9_readsLetter_92 (by decide) (fun c12 => ?_) (fun c12 => ?_)
          · exact absurd c12 (by decide)
          · refine z_aload_n 95 X dX9_readsLetter_95 hl 1 rfl ?_
            refine z_get 96 zc9 0 9 fl_9_28 X dX9_readsLetter_96 hw rfl (by decide) rfl ?_
            refine z_aload_n 99 X dX9_readsLetter_99 hl 1 rfl ?_
            refine z_get 100 zc9 0 11 fl_9_191 X dX9_readsLetter_100 hw rfl (by decide) rfl ?_
            refine z_iconst 103 1 X dX9_readsLetter_103 (by decide) ?_
            refine z_isub 104 X dX9_readsLetter_104 ?_
            obtain ⟨gd13, hF⟩ := zgd hF
            refine z_iald 105 1 (g_pad ((v_padSpot + 1) - 1).toNatClampNeg) X dX9_readsLetter_105 hw rfl gd13 rfl ?_
            refine z_goto 106 110 X dX9_readsLetter_106 (by decide) ?_
            cases hF
            exact z_iret 110 X dX9_readsLetter_110 hw rfl rfl
      · replace hF := zneg c10 hF
        refine z_aload_n 39 X dX9_readsLetter_39 hl 0 rfl ?_
        refine z_get 40 zc9 0 9 fl_9_28 X dX9_readsLetter_40 hw rfl (by decide) rfl ?_
        refine z_aload_n 43 X dX9_readsLetter_43 hl 0 rfl ?_
        refine z_get 44 zc9 0 11 fl_9_191 X dX9_readsLetter_44 hw rfl (by decide) rfl ?_
        obtain ⟨gd14, hF⟩ := zgd hF
        refine z_iald 47 1 (g_pad v_padSpot.toNatClampNeg) X dX9_readsLetter_47 hw rfl gd14 rfl ?_
        refine z_bipush 48 98 X dX9_readsLetter_48 (by decide) ?_
        refine z_icmp_eq 50 67 X dX9_readsLetter_50 (by decide) (fun c15 => ?_) (fun c15 => ?_)
        · replace hF := zpos c15 hF
          refine z_iconst 67 1 X dX9_readsLetter_67 (by decide) ?_
          refine z_goto 68 72 X dX9_readsLetter_68 (by decide) ?_
          refine z_istore_n 72 [(1, .int 1), (0, .ref a_this)] X dX9_readsLetter_72 hl (by decide) rfl (fun ls hl => ?_)
          refine z_aload_n 73 X dX9_readsLetter_73 hl 1 rfl ?_
          refine z_dup 74 X dX9_readsLetter_74 rfl ?_
          refine z_get 75 zc9 0 11 fl_9_191 X dX9_readsLetter_75 hw rfl (by decide) rfl ?_
          refine z_iload_n 78 X dX9_readsLetter_78 hl 0 rfl ?_
          refine z_if_eq 79 86 X dX9_readsLetter_79 (by decide) (fun c16 => ?_) (fun c16 => ?_)
          · exact absurd c16 (by decide)
          · refine z_iconst 82 1 X dX9_readsLetter_82 (by decide) ?_
            refine z_goto 83 87 X dX9_readsLetter_83 (by decide) ?_
            refine z_iadd 87 X dX9_readsLetter_87 ?_
            refine z_put 88 zc9 0 11 (zw_41 cA 0 a_this a_this_all a_this_kept a_this_history a_this_slots a_this_isSaved a_this_stream a_this_pad v_historyLong v_streamLong v_spot v_padLong (v_padSpot + 1) v_readNumber g_pad) fl_9_191 X dX9_readsLetter_88 hw rfl (by decide) rfl rfl rfl (Nat.le_of_ble_eq_true rfl) rfl (fun H locs hw => ?_)
            refine z_iload_n 91 X dX9_readsLetter_91 hl 0 rfl ?_
            refine z_if_eq 92 109 X dX9_readsLetter_92 (by decide) (fun c17 => ?_) (fun c17 => ?_)
            · exact absurd c17 (by decide)
            · refine z_aload_n 95 X dX9_readsLetter_95 hl 1 rfl ?_
              refine z_get 96 zc9 0 9 fl_9_28 X dX9_readsLetter_96 hw rfl (by decide) rfl ?_
              refine z_aload_n 99 X dX9_readsLetter_99 hl 1 rfl ?_
              refine z_get 100 zc9 0 11 fl_9_191 X dX9_readsLetter_100 hw rfl (by decide) rfl ?_
              refine z_iconst 103 1 X dX9_readsLetter_103 (by decide) ?_
              refine z_isub 104 X dX9_readsLetter_104 ?_
              obtain ⟨gd18, hF⟩ := zgd hF
              refine z_iald 105 1 (g_pad ((v_padSpot + 1) - 1).toNatClampNeg) X dX9_readsLetter_105 hw rfl gd18 rfl ?_
              refine z_goto 106 110 X dX9_readsLetter_106 (by decide) ?_
              cases hF
              exact z_iret 110 X dX9_readsLetter_110 hw rfl rfl
        · replace hF := zneg c15 hF
          refine z_aload_n 53 X dX9_readsLetter_53 hl 0 rfl ?_
          refine z_get 54 zc9 0 9 fl_9_28 X dX9_readsLetter_54 hw rfl (by decide) rfl ?_
          refine z_aload_n 57 X dX9_readsLetter_57 hl 0 rfl ?_
          refine z_get 58 zc9 0 11 fl_9_191 X dX9_readsLetter_58 hw rfl (by decide) rfl ?_
          obtain ⟨gd19, hF⟩ := zgd hF
          refine z_iald 61 1 (g_pad v_padSpot.toNatClampNeg) X dX9_readsLetter_61 hw rfl gd19 rfl ?_
          refine z_bipush 62 111 X dX9_readsLetter_62 (by decide) ?_
          refine z_icmp_ne 64 71 X dX9_readsLetter_64 (by decide) (fun c20 => ?_) (fun c20 => ?_)
          · replace hF := zneg c20 hF
            refine z_iconst 71 0 X dX9_readsLetter_71 (by decide) ?_
            refine z_istore_n 72 [(1, .int 0), (0, .ref a_this)] X dX9_readsLetter_72 hl (by decide) rfl (fun ls hl => ?_)
            refine z_aload_n 73 X dX9_readsLetter_73 hl 1 rfl ?_
            refine z_dup 74 X dX9_readsLetter_74 rfl ?_
            refine z_get 75 zc9 0 11 fl_9_191 X dX9_readsLetter_75 hw rfl (by decide) rfl ?_
            refine z_iload_n 78 X dX9_readsLetter_78 hl 0 rfl ?_
            refine z_if_eq 79 86 X dX9_readsLetter_79 (by decide) (fun c21 => ?_) (fun c21 => ?_)
            · refine z_iconst 86 0 X dX9_readsLetter_86 (by decide) ?_
              refine z_iadd 87 X dX9_readsLetter_87 ?_
              refine z_put 88 zc9 0 11 (zw_41 cA 0 a_this a_this_all a_this_kept a_this_history a_this_slots a_this_isSaved a_this_stream a_this_pad v_historyLong v_streamLong v_spot v_padLong (v_padSpot + 0) v_readNumber g_pad) fl_9_191 X dX9_readsLetter_88 hw rfl (by decide) rfl rfl rfl (Nat.le_of_ble_eq_true rfl) rfl (fun H locs hw => ?_)
              refine z_iload_n 91 X dX9_readsLetter_91 hl 0 rfl ?_
              refine z_if_eq 92 109 X dX9_readsLetter_92 (by decide) (fun c22 => ?_) (fun c22 => ?_)
              · refine z_iconst 109 0 X dX9_readsLetter_109 (by decide) ?_
                cases hF
                exact z_iret 110 X dX9_readsLetter_110 hw rfl rfl
              · exact absurd c22 (by decide)
            · exact absurd c21 (by decide)
          · replace hF := zpos c20 hF
            refine z_iconst 67 1 X dX9_readsLetter_67 (by decide) ?_
            refine z_goto 68 72 X dX9_readsLetter_68 (by decide) ?_
            refine z_istore_n 72 [(1, .int 1), (0, .ref a_this)] X dX9_readsLetter_72 hl (by decide) rfl (fun ls hl => ?_)
            refine z_aload_n 73 X dX9_readsLetter_73 hl 1 rfl ?_
            refine z_dup 74 X dX9_readsLetter_74 rfl ?_
            refine z_get 75 zc9 0 11 fl_9_191 X dX9_readsLetter_75 hw rfl (by decide) rfl ?_
            refine z_iload_n 78 X dX9_readsLetter_78 hl 0 rfl ?_
            refine z_if_eq 79 86 X dX9_readsLetter_79 (by decide) (fun c23 => ?_) (fun c23 => ?_)
            · exact absurd c23 (by decide)
            · refine z_iconst 82 1 X dX9_readsLetter_82 (by decide) ?_
              refine z_goto 83 87 X dX9_readsLetter_83 (by decide) ?_
              refine z_iadd 87 X dX9_readsLetter_87 ?_
              refine z_put 88 zc9 0 11 (zw_41 cA 0 a_this a_this_all a_this_kept a_this_history a_this_slots a_this_isSaved a_this_stream a_this_pad v_historyLong v_streamLong v_spot v_padLong (v_padSpot + 1) v_readNumber g_pad) fl_9_191 X dX9_readsLetter_88 hw rfl (by decide) rfl rfl rfl (Nat.le_of_ble_eq_true rfl) rfl (fun H locs hw => ?_)
              refine z_iload_n 91 X dX9_readsLetter_91 hl 0 rfl ?_
              refine z_if_eq 92 109 X dX9_readsLetter_92 (by decide) (fun c24 => ?_) (fun c24 => ?_)
              · exact absurd c24 (by decide)
              · refine z_aload_n 95 X dX9_readsLetter_95 hl 1 rfl ?_
                refine z_get 96 zc9 0 9 fl_9_28 X dX9_readsLetter_96 hw rfl (by decide) rfl ?_
                refine z_aload_n 99 X dX9_readsLetter_99 hl 1 rfl ?_
                refine z_get 100 zc9 0 11 fl_9_191 X dX9_readsLetter_100 hw rfl (by decide) rfl ?_
                refine z_iconst 103 1 X dX9_readsLetter_103 (by decide) ?_
                refine z_isub 104 X dX9_readsLetter_104 ?_
                obtain ⟨gd25, hF⟩ := zgd hF
                refine z_iald 105 1 (g_pad ((v_padSpot + 1) - 1).toNatClampNeg) X dX9_readsLetter_105 hw rfl gd25 rfl ?_
                refine z_goto 106 110 X dX9_readsLetter_106 (by decide) ?_
                cases hF
                exact z_iret 110 X dX9_readsLetter_110 hw rfl rfl
theorem dX9_isHere_0 : decode cX9_isHere 0 = .ok (.aload_n 0, 1) := by decide +kernel
theorem dX9_isHere_1 : decode cX9_isHere 1 = .ok (.getfield 191, 3) := by decide +kernel
theorem dX9_isHere_4 : decode cX9_isHere 4 = .ok (.aload_n 0, 1) := by decide +kernel
theorem dX9_isHere_5 : decode cX9_isHere 5 = .ok (.getfield 166, 3) := by decide +kernel
theorem dX9_isHere_8 : decode cX9_isHere 8 = .ok (.if_icmp .ge 27, 3) := by decide +kernel
theorem dX9_isHere_11 : decode cX9_isHere 11 = .ok (.aload_n 0, 1) := by decide +kernel
theorem dX9_isHere_12 : decode cX9_isHere 12 = .ok (.getfield 28, 3) := by decide +kernel
theorem dX9_isHere_15 : decode cX9_isHere 15 = .ok (.aload_n 0, 1) := by decide +kernel
theorem dX9_isHere_16 : decode cX9_isHere 16 = .ok (.getfield 191, 3) := by decide +kernel
theorem dX9_isHere_19 : decode cX9_isHere 19 = .ok (.iaload, 1) := by decide +kernel
theorem dX9_isHere_20 : decode cX9_isHere 20 = .ok (.i2l, 1) := by decide +kernel
theorem dX9_isHere_21 : decode cX9_isHere 21 = .ok (.iload_n 1, 1) := by decide +kernel
theorem dX9_isHere_22 : decode cX9_isHere 22 = .ok (.i2l, 1) := by decide +kernel
theorem dX9_isHere_23 : decode cX9_isHere 23 = .ok (.iload_n 2, 1) := by decide +kernel
theorem dX9_isHere_24 : decode cX9_isHere 24 = .ok (.i2l, 1) := by decide +kernel
theorem dX9_isHere_25 : decode cX9_isHere 25 = .ok (.invokestatic 91, 3) := by decide +kernel
theorem dX9_isHere_28 : decode cX9_isHere 28 = .ok (.ifCond .eq 7, 3) := by decide +kernel
theorem dX9_isHere_31 : decode cX9_isHere 31 = .ok (.iconst 1, 1) := by decide +kernel
theorem dX9_isHere_32 : decode cX9_isHere 32 = .ok (.goto 4, 3) := by decide +kernel
theorem dX9_isHere_35 : decode cX9_isHere 35 = .ok (.iconst 0, 1) := by decide +kernel
theorem dX9_isHere_36 : decode cX9_isHere 36 = .ok (.ireturn, 1) := by decide +kernel
set_option maxHeartbeats 4000000 in
set_option maxRecDepth 100000 in
theorem m_X9_isHere (l : Launch) (D : va_G) (cA : ClassId) (a_this a_this_all a_this_kept a_this_history a_this_slots a_this_isSaved a_this_stream a_this_pad : Nat) (v_historyLong : Int32) (v_streamLong : Int32) (v_spot : Int32) (v_padLong : Int32) (v_padSpot : Int32) (v_readNumber : Int32) (g_pad : Ar) (i1 : Int32) (i2 : Int32) (out : Int32) (hF : F_X9_isHere v_padLong v_padSpot g_pad i1 i2 = some out) : zM l D cA yX9_isHere cX9_isHere 3 (some .boolean) 1 25 [.ref a_this, .int i1, .int i2] (zw_41 cA 0 a_this a_this_all a_this_kept a_this_history a_this_slots a_this_isSaved a_this_stream a_this_pad v_historyLong v_streamLong v_spot v_padLong v_padSpot v_readNumber g_pad) (zw_41 cA 0 a_this a_this_all a_this_kept a_this_history a_this_slots a_this_isSaved a_this_stream a_this_pad v_historyLong v_streamLong v_spot v_padLong v_padSpot v_readNumber g_pad) (some (.int out)) := by
  refine z_body (by decide) (Nat.le_of_ble_eq_true rfl) ?_
  intro p e s m args below meth c ls H locs A X hl hw
  have hl : lv_has ls 3 [(0, .ref a_this), (1, .int i1), (2, .int i2)] := hl
  unfold F_X9_isHere at hF
  refine z_aload_n 0 X dX9_isHere_0 hl 0 rfl ?_
  refine z_get 1 zc9 0 11 fl_9_191 X dX9_isHere_1 hw rfl (by decide) rfl ?_
  refine z_aload_n 4 X dX9_isHere_4 hl 0 rfl ?_
  refine z_get 5 zc9 0 10 fl_9_166 X dX9_isHere_5 hw rfl (by decide) rfl ?_
  refine z_icmp_ge 8 35 X dX9_isHere_8 (by decide) (fun c1 => ?_) (fun c1 => ?_)
  · replace hF := zpos c1 hF
    refine z_iconst 35 0 X dX9_isHere_35 (by decide) ?_
    cases hF
    exact z_zret 36 X dX9_isHere_36 hw (by decide) rfl rfl
  · replace hF := zneg c1 hF
    refine z_aload_n 11 X dX9_isHere_11 hl 0 rfl ?_
    refine z_get 12 zc9 0 9 fl_9_28 X dX9_isHere_12 hw rfl (by decide) rfl ?_
    refine z_aload_n 15 X dX9_isHere_15 hl 0 rfl ?_
    refine z_get 16 zc9 0 11 fl_9_191 X dX9_isHere_16 hw rfl (by decide) rfl ?_
    obtain ⟨gd2, hF⟩ := zgd hF
    refine z_iald 19 1 (g_pad v_padSpot.toNatClampNeg) X dX9_isHere_19 hw rfl gd2 rfl ?_
    refine z_i2l 20 X dX9_isHere_20 ?_
    refine z_iload_n 21 X dX9_isHere_21 hl 1 rfl ?_
    refine z_i2l 22 X dX9_isHere_22 ?_
    refine z_iload_n 23 X dX9_isHere_23 hl 2 rfl ?_
    refine z_i2l 24 X dX9_isHere_24 ?_
    obtain ⟨u3, e4, hF⟩ := zbd hF
    refine z_callS 25 mv_X9_in ml_9_91 [] (zk_127 cA 0 a_this a_this_all a_this_kept a_this_history a_this_slots a_this_isSaved a_this_stream a_this_pad v_historyLong v_streamLong v_spot v_padLong v_padSpot v_readNumber g_pad) (m_X9_in l D cA ((g_pad v_padSpot.toNatClampNeg).toInt64) (i1.toInt64) (i2.toInt64) u3 e4) X dX9_isHere_25 hw hl rfl rfl (Nat.le_of_ble_eq_true rfl) ⟨Nat.le_of_ble_eq_true rfl, Nat.le_of_ble_eq_true rfl⟩ ⟨Nat.zero_le _, Nat.zero_le _⟩ (fun H locs hw => ?_)
    refine z_if_eq 28 35 X dX9_isHere_28 (by decide) (fun c5 => ?_) (fun c5 => ?_)
    · replace hF := zpos c5 hF
      refine z_iconst 35 0 X dX9_isHere_35 (by decide) ?_
      cases hF
      exact z_zret 36 X dX9_isHere_36 hw (by decide) rfl rfl
    · replace hF := zneg c5 hF
      refine z_iconst 31 1 X dX9_isHere_31 (by decide) ?_
      refine z_goto 32 36 X dX9_isHere_32 (by decide) ?_
      cases hF
      exact z_zret 36 X dX9_isHere_36 hw (by decide) rfl rfl
theorem dX9_readsNumber_0 : decode cX9_readsNumber 0 = .ok (.aload_n 0, 1) := by decide +kernel
theorem dX9_readsNumber_1 : decode cX9_readsNumber 1 = .ok (.bipush 48, 2) := by decide +kernel
theorem dX9_readsNumber_3 : decode cX9_readsNumber 3 = .ok (.bipush 57, 2) := by decide +kernel
theorem dX9_readsNumber_5 : decode cX9_readsNumber 5 = .ok (.invokevirtual 194, 3) := by decide +kernel
theorem dX9_readsNumber_8 : decode cX9_readsNumber 8 = .ok (.ifCond .ne 5, 3) := by decide +kernel
theorem dX9_readsNumber_11 : decode cX9_readsNumber 11 = .ok (.iconst 0, 1) := by decide +kernel
theorem dX9_readsNumber_12 : decode cX9_readsNumber 12 = .ok (.ireturn, 1) := by decide +kernel
theorem dX9_readsNumber_13 : decode cX9_readsNumber 13 = .ok (.aload_n 0, 1) := by decide +kernel
theorem dX9_readsNumber_14 : decode cX9_readsNumber 14 = .ok (.aload_n 0, 1) := by decide +kernel
theorem dX9_readsNumber_15 : decode cX9_readsNumber 15 = .ok (.getfield 28, 3) := by decide +kernel
theorem dX9_readsNumber_18 : decode cX9_readsNumber 18 = .ok (.aload_n 0, 1) := by decide +kernel
theorem dX9_readsNumber_19 : decode cX9_readsNumber 19 = .ok (.getfield 191, 3) := by decide +kernel
theorem dX9_readsNumber_22 : decode cX9_readsNumber 22 = .ok (.iaload, 1) := by decide +kernel
theorem dX9_readsNumber_23 : decode cX9_readsNumber 23 = .ok (.bipush 48, 2) := by decide +kernel
theorem dX9_readsNumber_25 : decode cX9_readsNumber 25 = .ok (.isub, 1) := by decide +kernel
theorem dX9_readsNumber_26 : decode cX9_readsNumber 26 = .ok (.putfield 197, 3) := by decide +kernel
theorem dX9_readsNumber_29 : decode cX9_readsNumber 29 = .ok (.aload_n 0, 1) := by decide +kernel
theorem dX9_readsNumber_30 : decode cX9_readsNumber 30 = .ok (.dup, 1) := by decide +kernel
theorem dX9_readsNumber_31 : decode cX9_readsNumber 31 = .ok (.getfield 191, 3) := by decide +kernel
theorem dX9_readsNumber_34 : decode cX9_readsNumber 34 = .ok (.iconst 1, 1) := by decide +kernel
theorem dX9_readsNumber_35 : decode cX9_readsNumber 35 = .ok (.iadd, 1) := by decide +kernel
theorem dX9_readsNumber_36 : decode cX9_readsNumber 36 = .ok (.putfield 191, 3) := by decide +kernel
theorem dX9_readsNumber_39 : decode cX9_readsNumber 39 = .ok (.aload_n 0, 1) := by decide +kernel
theorem dX9_readsNumber_40 : decode cX9_readsNumber 40 = .ok (.getfield 197, 3) := by decide +kernel
theorem dX9_readsNumber_43 : decode cX9_readsNumber 43 = .ok (.ifCond .le 76, 3) := by decide +kernel
theorem dX9_readsNumber_46 : decode cX9_readsNumber 46 = .ok (.aload_n 0, 1) := by decide +kernel
theorem dX9_readsNumber_47 : decode cX9_readsNumber 47 = .ok (.bipush 48, 2) := by decide +kernel
theorem dX9_readsNumber_49 : decode cX9_readsNumber 49 = .ok (.bipush 57, 2) := by decide +kernel
theorem dX9_readsNumber_51 : decode cX9_readsNumber 51 = .ok (.invokevirtual 194, 3) := by decide +kernel
theorem dX9_readsNumber_54 : decode cX9_readsNumber 54 = .ok (.ifCond .eq 65, 3) := by decide +kernel
theorem dX9_readsNumber_57 : decode cX9_readsNumber 57 = .ok (.bipush 10, 2) := by decide +kernel
theorem dX9_readsNumber_59 : decode cX9_readsNumber 59 = .ok (.aload_n 0, 1) := by decide +kernel
theorem dX9_readsNumber_60 : decode cX9_readsNumber 60 = .ok (.getfield 197, 3) := by decide +kernel
theorem dX9_readsNumber_63 : decode cX9_readsNumber 63 = .ok (.imul, 1) := by decide +kernel
theorem dX9_readsNumber_64 : decode cX9_readsNumber 64 = .ok (.aload_n 0, 1) := by decide +kernel
theorem dX9_readsNumber_65 : decode cX9_readsNumber 65 = .ok (.getfield 28, 3) := by decide +kernel
theorem dX9_readsNumber_68 : decode cX9_readsNumber 68 = .ok (.aload_n 0, 1) := by decide +kernel
theorem dX9_readsNumber_69 : decode cX9_readsNumber 69 = .ok (.getfield 191, 3) := by decide +kernel
theorem dX9_readsNumber_72 : decode cX9_readsNumber 72 = .ok (.iaload, 1) := by decide +kernel
theorem dX9_readsNumber_73 : decode cX9_readsNumber 73 = .ok (.iadd, 1) := by decide +kernel
theorem dX9_readsNumber_74 : decode cX9_readsNumber 74 = .ok (.bipush 48, 2) := by decide +kernel
theorem dX9_readsNumber_76 : decode cX9_readsNumber 76 = .ok (.isub, 1) := by decide +kernel
theorem dX9_readsNumber_77 : decode cX9_readsNumber 77 = .ok (.ldc 200, 2) := by decide +kernel
theorem dX9_readsNumber_79 : decode cX9_readsNumber 79 = .ok (.if_icmp .gt 40, 3) := by decide +kernel
theorem dX9_readsNumber_82 : decode cX9_readsNumber 82 = .ok (.aload_n 0, 1) := by decide +kernel
theorem dX9_readsNumber_83 : decode cX9_readsNumber 83 = .ok (.bipush 10, 2) := by decide +kernel
theorem dX9_readsNumber_85 : decode cX9_readsNumber 85 = .ok (.aload_n 0, 1) := by decide +kernel
theorem dX9_readsNumber_86 : decode cX9_readsNumber 86 = .ok (.getfield 197, 3) := by decide +kernel
theorem dX9_readsNumber_89 : decode cX9_readsNumber 89 = .ok (.imul, 1) := by decide +kernel
theorem dX9_readsNumber_90 : decode cX9_readsNumber 90 = .ok (.aload_n 0, 1) := by decide +kernel
theorem dX9_readsNumber_91 : decode cX9_readsNumber 91 = .ok (.getfield 28, 3) := by decide +kernel
theorem dX9_readsNumber_94 : decode cX9_readsNumber 94 = .ok (.aload_n 0, 1) := by decide +kernel
theorem dX9_readsNumber_95 : decode cX9_readsNumber 95 = .ok (.getfield 191, 3) := by decide +kernel
theorem dX9_readsNumber_98 : decode cX9_readsNumber 98 = .ok (.iaload, 1) := by decide +kernel
theorem dX9_readsNumber_99 : decode cX9_readsNumber 99 = .ok (.iadd, 1) := by decide +kernel
theorem dX9_readsNumber_100 : decode cX9_readsNumber 100 = .ok (.bipush 48, 2) := by decide +kernel
theorem dX9_readsNumber_102 : decode cX9_readsNumber 102 = .ok (.isub, 1) := by decide +kernel
theorem dX9_readsNumber_103 : decode cX9_readsNumber 103 = .ok (.putfield 197, 3) := by decide +kernel
theorem dX9_readsNumber_106 : decode cX9_readsNumber 106 = .ok (.aload_n 0, 1) := by decide +kernel
theorem dX9_readsNumber_107 : decode cX9_readsNumber 107 = .ok (.dup, 1) := by decide +kernel
theorem dX9_readsNumber_108 : decode cX9_readsNumber 108 = .ok (.getfield 191, 3) := by decide +kernel
theorem dX9_readsNumber_111 : decode cX9_readsNumber 111 = .ok (.iconst 1, 1) := by decide +kernel
theorem dX9_readsNumber_112 : decode cX9_readsNumber 112 = .ok (.iadd, 1) := by decide +kernel
theorem dX9_readsNumber_113 : decode cX9_readsNumber 113 = .ok (.putfield 191, 3) := by decide +kernel
theorem dX9_readsNumber_116 : decode cX9_readsNumber 116 = .ok (.goto (-77), 3) := by decide +kernel
theorem dX9_readsNumber_119 : decode cX9_readsNumber 119 = .ok (.iconst 1, 1) := by decide +kernel
theorem dX9_readsNumber_120 : decode cX9_readsNumber 120 = .ok (.ireturn, 1) := by decide +kernel
set_option maxHeartbeats 4000000 in
set_option maxRecDepth 100000 in
theorem zk_128 (cA : ClassId) (n : Nat) (a_this a_this_all a_this_kept a_this_history a_this_slots a_this_isSaved a_this_stream a_this_pad : Nat) (v_historyLong : Int32) (v_streamLong : Int32) (v_spot : Int32) (v_padLong : Int32) (v_padSpot : Int32) (v_readNumber : Int32) (g_pad : Ar)  : zCW (zw_41 cA n a_this a_this_all a_this_kept a_this_history a_this_slots a_this_isSaved a_this_stream a_this_pad v_historyLong v_streamLong v_spot v_padLong v_padSpot v_readNumber g_pad) (zw_41 cA n a_this a_this_all a_this_kept a_this_history a_this_slots a_this_isSaved a_this_stream a_this_pad v_historyLong v_streamLong v_spot v_padLong v_padSpot v_readNumber g_pad) [0, 1] [] (zw_41 cA 0 a_this a_this_all a_this_kept a_this_history a_this_slots a_this_isSaved a_this_stream a_this_pad v_historyLong v_streamLong v_spot v_padLong v_padSpot v_readNumber g_pad) (zw_41 cA 0 a_this a_this_all a_this_kept a_this_history a_this_slots a_this_isSaved a_this_stream a_this_pad v_historyLong v_streamLong v_spot v_padLong v_padSpot v_readNumber g_pad) := ⟨rfl, (show (zw_41 cA 0 a_this a_this_all a_this_kept a_this_history a_this_slots a_this_isSaved a_this_stream a_this_pad v_historyLong v_streamLong v_spot v_padLong v_padSpot v_readNumber g_pad).map Prod.fst = ([a_this, a_this_pad] : List Nat) from rfl).trans (show (zw_41 cA 0 a_this a_this_all a_this_kept a_this_history a_this_slots a_this_isSaved a_this_stream a_this_pad v_historyLong v_streamLong v_spot v_padLong v_padSpot v_readNumber g_pad).map Prod.fst = ([a_this, a_this_pad] : List Nat) from rfl).symm, by decide +kernel, (show (zw_41 cA n a_this a_this_all a_this_kept a_this_history a_this_slots a_this_isSaved a_this_stream a_this_pad v_historyLong v_streamLong v_spot v_padLong v_padSpot v_readNumber g_pad).map Prod.fst = ([a_this, a_this_pad] : List Nat) from rfl).trans (show (zw_41 cA n a_this a_this_all a_this_kept a_this_history a_this_slots a_this_isSaved a_this_stream a_this_pad v_historyLong v_streamLong v_spot v_padLong v_padSpot v_readNumber g_pad).map Prod.fst = ([a_this, a_this_pad] : List Nat) from rfl).symm, rfl, rfl, by decide +kernel, rfl⟩
set_option maxHeartbeats 4000000 in
set_option maxRecDepth 100000 in
theorem l_X9_readsNumber_39 (l : Launch) (D : va_G) (cA : ClassId) (a_this a_this_all a_this_kept a_this_history a_this_slots a_this_isSaved a_this_stream a_this_pad : Nat) (v_historyLong : Int32) (v_streamLong : Int32) (v_spot : Int32) (v_padLong : Int32) (g_pad : Ar) (out : Int32 × Int32 × Int32) {p : Program} {e : Env} {s : State} {m : MethodId} {args : Array Value} {below : List Frame} {meth : Method} {c : Code} {A : Nat → Prop} (X : zX D cA p s m args meth c cX9_readsNumber 1 RX9 (some .boolean)) (k : Int32 → Int32 → Option (Int32 × Int32 × Int32)) (hk : ∀ (v_padSpot : Int32) (v_readNumber : Int32) (H : Heap) (locs : List Loc) (ls : Array Slot), zH D A s (zw_41 cA 0 a_this a_this_all a_this_kept a_this_history a_this_slots a_this_isSaved a_this_stream a_this_pad v_historyLong v_streamLong v_spot v_padLong v_padSpot v_readNumber g_pad) H locs → lv_has ls 1 [] → k v_padSpot v_readNumber = some out → W p l e (zR 2 47) s m args below meth c H locs 0 0 (MQ below (zQ D (zw_41 cA 0 a_this a_this_all a_this_kept a_this_history a_this_slots a_this_isSaved a_this_stream a_this_pad v_historyLong v_streamLong v_spot v_padLong out.2.1 out.2.2 g_pad) (some (.int out.1)) A) args s 0 0 A) (F0 m 119 ls [])) :
    ∀ (fuel : Nat) (v_padSpot : Int32) (v_readNumber : Int32) (H : Heap) (locs : List Loc) (ls : Array Slot), zH D A s (zw_41 cA 0 a_this a_this_all a_this_kept a_this_history a_this_slots a_this_isSaved a_this_stream a_this_pad v_historyLong v_streamLong v_spot v_padLong v_padSpot v_readNumber g_pad) H locs → lv_has ls 1 [(0, .ref a_this)] → F_X9_readsNumber_L39 v_padLong g_pad k fuel v_padSpot v_readNumber = some out → W p l e (zR 2 47) s m args below meth c H locs 0 0 (MQ below (zQ D (zw_41 cA 0 a_this a_this_all a_this_kept a_this_history a_this_slots a_this_isSaved a_this_stream a_this_pad v_historyLong v_streamLong v_spot v_padLong out.2.1 out.2.2 g_pad) (some (.int out.1)) A) args s 0 0 A) (F0 m 39 ls []) := by
  intro fuel
  induction fuel with
  | zero => intro v_padSpot v_readNumber H locs ls hw hl hF; exact nomatch (show (none : Option (Int32 × Int32 × Int32)) = some out from hF)
  | succ fuel ih =>
    intro v_padSpot v_readNumber H locs ls hw hl hF
    rw [F_X9_readsNumber_L39] at hF
    refine z_aload_n 39 X dX9_readsNumber_39 hl 0 rfl ?_
    refine z_get 40 zc9 0 12 fl_9_197 X dX9_readsNumber_40 hw rfl (by decide) rfl ?_
    refine z_if_le 43 119 X dX9_readsNumber_43 (by decide) (fun c5 => ?_) (fun c5 => ?_)
    · replace hF := zpos c5 hF
      exact hk v_padSpot v_readNumber H locs ls hw (lv_sub hl [] rfl) hF
    · replace hF := zneg c5 hF
      refine z_aload_n 46 X dX9_readsNumber_46 hl 0 rfl ?_
      refine z_bipush 47 48 X dX9_readsNumber_47 (by decide) ?_
      refine z_bipush 49 57 X dX9_readsNumber_49 (by decide) ?_
      obtain ⟨u6, e7, hF⟩ := zbd hF
      refine z_callV 51 zc9 mv_X9_isHere ml_9_194 0 [] (zk_128 cA 0 a_this a_this_all a_this_kept a_this_history a_this_slots a_this_isSaved a_this_stream a_this_pad v_historyLong v_streamLong v_spot v_padLong v_padSpot v_readNumber g_pad) (m_X9_isHere l D cA a_this a_this_all a_this_kept a_this_history a_this_slots a_this_isSaved a_this_stream a_this_pad v_historyLong v_streamLong v_spot v_padLong v_padSpot v_readNumber g_pad 48 57 u6 e7) X dX9_readsNumber_51 hw hl rfl rfl rfl (Nat.le_of_ble_eq_true rfl) ⟨Nat.le_of_ble_eq_true rfl, Nat.le_of_ble_eq_true rfl⟩ ⟨Nat.zero_le _, Nat.zero_le _⟩ (fun H locs hw => ?_)
      refine z_if_eq 54 119 X dX9_readsNumber_54 (by decide) (fun c8 => ?_) (fun c8 => ?_)
      · replace hF := zpos c8 hF
        exact hk v_padSpot v_readNumber H locs ls hw (lv_sub hl [] rfl) hF
      · replace hF := zneg c8 hF
        refine z_bipush 57 10 X dX9_readsNumber_57 (by decide) ?_
        refine z_aload_n 59 X dX9_readsNumber_59 hl 0 rfl ?_
        refine z_get 60 zc9 0 12 fl_9_197 X dX9_readsNumber_60 hw rfl (by decide) rfl ?_
        refine z_imul 63 X dX9_readsNumber_63 ?_
        refine z_aload_n 64 X dX9_readsNumber_64 hl 0 rfl ?_
        refine z_get 65 zc9 0 9 fl_9_28 X dX9_readsNumber_65 hw rfl (by decide) rfl ?_
        refine z_aload_n 68 X dX9_readsNumber_68 hl 0 rfl ?_
        refine z_get 69 zc9 0 11 fl_9_191 X dX9_readsNumber_69 hw rfl (by decide) rfl ?_
        obtain ⟨gd9, hF⟩ := zgd hF
        refine z_iald 72 1 (g_pad v_padSpot.toNatClampNeg) X dX9_readsNumber_72 hw rfl gd9 rfl ?_
        refine z_iadd 73 X dX9_readsNumber_73 ?_
        refine z_bipush 74 48 X dX9_readsNumber_74 (by decide) ?_
        refine z_isub 76 X dX9_readsNumber_76 ?_
        refine z_ldc 77 65535 X dX9_readsNumber_77 cl_9_200 ?_
        refine z_icmp_gt 79 119 X dX9_readsNumber_79 (by decide) (fun c10 => ?_) (fun c10 => ?_)
        · replace hF := zpos c10 hF
          exact hk v_padSpot v_readNumber H locs ls hw (lv_sub hl [] rfl) hF
        · replace hF := zneg c10 hF
          refine z_aload_n 82 X dX9_readsNumber_82 hl 0 rfl ?_
          refine z_bipush 83 10 X dX9_readsNumber_83 (by decide) ?_
          refine z_aload_n 85 X dX9_readsNumber_85 hl 0 rfl ?_
          refine z_get 86 zc9 0 12 fl_9_197 X dX9_readsNumber_86 hw rfl (by decide) rfl ?_
          refine z_imul 89 X dX9_readsNumber_89 ?_
          refine z_aload_n 90 X dX9_readsNumber_90 hl 0 rfl ?_
          refine z_get 91 zc9 0 9 fl_9_28 X dX9_readsNumber_91 hw rfl (by decide) rfl ?_
          refine z_aload_n 94 X dX9_readsNumber_94 hl 0 rfl ?_
          refine z_get 95 zc9 0 11 fl_9_191 X dX9_readsNumber_95 hw rfl (by decide) rfl ?_
          obtain ⟨gd11, hF⟩ := zgd hF
          refine z_iald 98 1 (g_pad v_padSpot.toNatClampNeg) X dX9_readsNumber_98 hw rfl gd11 rfl ?_
          refine z_iadd 99 X dX9_readsNumber_99 ?_
          refine z_bipush 100 48 X dX9_readsNumber_100 (by decide) ?_
          refine z_isub 102 X dX9_readsNumber_102 ?_
          refine z_put 103 zc9 0 12 (zw_41 cA 0 a_this a_this_all a_this_kept a_this_history a_this_slots a_this_isSaved a_this_stream a_this_pad v_historyLong v_streamLong v_spot v_padLong v_padSpot (((10 * v_readNumber) + (g_pad v_padSpot.toNatClampNeg)) - 48) g_pad) fl_9_197 X dX9_readsNumber_103 hw rfl (by decide) rfl rfl rfl (Nat.le_of_ble_eq_true rfl) rfl (fun H locs hw => ?_)
          refine z_aload_n 106 X dX9_readsNumber_106 hl 0 rfl ?_
          refine z_dup 107 X dX9_readsNumber_107 rfl ?_
          refine z_get 108 zc9 0 11 fl_9_191 X dX9_readsNumber_108 hw rfl (by decide) rfl ?_
          refine z_iconst 111 1 X dX9_readsNumber_111 (by decide) ?_
          refine z_iadd 112 X dX9_readsNumber_112 ?_
          refine z_put 113 zc9 0 11 (zw_41 cA 0 a_this a_this_all a_this_kept a_this_history a_this_slots a_this_isSaved a_this_stream a_this_pad v_historyLong v_streamLong v_spot v_padLong (v_padSpot + 1) (((10 * v_readNumber) + (g_pad v_padSpot.toNatClampNeg)) - 48) g_pad) fl_9_191 X dX9_readsNumber_113 hw rfl (by decide) rfl rfl rfl (Nat.le_of_ble_eq_true rfl) rfl (fun H locs hw => ?_)
          refine z_goto 116 39 X dX9_readsNumber_116 (by decide) ?_
          exact ih (v_padSpot + 1) (((10 * v_readNumber) + (g_pad v_padSpot.toNatClampNeg)) - 48) H locs ls hw (lv_sub hl [0] rfl) hF
set_option maxHeartbeats 4000000 in
set_option maxRecDepth 100000 in
theorem m_X9_readsNumber (l : Launch) (D : va_G) (cA : ClassId) (a_this a_this_all a_this_kept a_this_history a_this_slots a_this_isSaved a_this_stream a_this_pad : Nat) (v_historyLong : Int32) (v_streamLong : Int32) (v_spot : Int32) (v_padLong : Int32) (v_padSpot : Int32) (v_readNumber : Int32) (g_pad : Ar) (out : Int32 × Int32 × Int32) (hF : F_X9_readsNumber v_padLong v_padSpot v_readNumber g_pad = some out) : zM l D cA yX9_readsNumber cX9_readsNumber 1 (some .boolean) 2 47 [.ref a_this] (zw_41 cA 0 a_this a_this_all a_this_kept a_this_history a_this_slots a_this_isSaved a_this_stream a_this_pad v_historyLong v_streamLong v_spot v_padLong v_padSpot v_readNumber g_pad) (zw_41 cA 0 a_this a_this_all a_this_kept a_this_history a_this_slots a_this_isSaved a_this_stream a_this_pad v_historyLong v_streamLong v_spot v_padLong out.2.1 out.2.2 g_pad) (some (.int out.1)) := by
  refine z_body (by decide) (Nat.le_of_ble_eq_true rfl) ?_
  intro p e s m args below meth c ls H locs A X hl hw
  have hl : lv_has ls 1 [(0, .ref a_this)] := hl
  unfold F_X9_readsNumber at hF
  refine z_aload_n 0 X dX9_readsNumber_0 hl 0 rfl ?_
  refine z_bipush 1 48 X dX9_readsNumber_1 (by decide) ?_
  refine z_bipush 3 57 X dX9_readsNumber_3 (by decide) ?_
  obtain ⟨u1, e2, hF⟩ := zbd hF
  refine z_callV 5 zc9 mv_X9_isHere ml_9_194 0 [] (zk_128 cA 0 a_this a_this_all a_this_kept a_this_history a_this_slots a_this_isSaved a_this_stream a_this_pad v_historyLong v_streamLong v_spot v_padLong v_padSpot v_readNumber g_pad) (m_X9_isHere l D cA a_this a_this_all a_this_kept a_this_history a_this_slots a_this_isSaved a_this_stream a_this_pad v_historyLong v_streamLong v_spot v_padLong v_padSpot v_readNumber g_pad 48 57 u1 e2) X dX9_readsNumber_5 hw hl rfl rfl rfl (Nat.le_of_ble_eq_true rfl) ⟨Nat.le_of_ble_eq_true rfl, Nat.le_of_ble_eq_true rfl⟩ ⟨Nat.zero_le _, Nat.zero_le _⟩ (fun H locs hw => ?_)
  refine z_if_ne 8 13 X dX9_readsNumber_8 (by decide) (fun c3 => ?_) (fun c3 => ?_)
  · replace hF := zneg c3 hF
    refine z_aload_n 13 X dX9_readsNumber_13 hl 0 rfl ?_
    refine z_aload_n 14 X dX9_readsNumber_14 hl 0 rfl ?_
    refine z_get 15 zc9 0 9 fl_9_28 X dX9_readsNumber_15 hw rfl (by decide) rfl ?_
    refine z_aload_n 18 X dX9_readsNumber_18 hl 0 rfl ?_
    refine z_get 19 zc9 0 11 fl_9_191 X dX9_readsNumber_19 hw rfl (by decide) rfl ?_
    obtain ⟨gd4, hF⟩ := zgd hF
    refine z_iald 22 1 (g_pad v_padSpot.toNatClampNeg) X dX9_readsNumber_22 hw rfl gd4 rfl ?_
    refine z_bipush 23 48 X dX9_readsNumber_23 (by decide) ?_
    refine z_isub 25 X dX9_readsNumber_25 ?_
    refine z_put 26 zc9 0 12 (zw_41 cA 0 a_this a_this_all a_this_kept a_this_history a_this_slots a_this_isSaved a_this_stream a_this_pad v_historyLong v_streamLong v_spot v_padLong v_padSpot ((g_pad v_padSpot.toNatClampNeg) - 48) g_pad) fl_9_197 X dX9_readsNumber_26 hw rfl (by decide) rfl rfl rfl (Nat.le_of_ble_eq_true rfl) rfl (fun H locs hw => ?_)
    refine z_aload_n 29 X dX9_readsNumber_29 hl 0 rfl ?_
    refine z_dup 30 X dX9_readsNumber_30 rfl ?_
    refine z_get 31 zc9 0 11 fl_9_191 X dX9_readsNumber_31 hw rfl (by decide) rfl ?_
    refine z_iconst 34 1 X dX9_readsNumber_34 (by decide) ?_
    refine z_iadd 35 X dX9_readsNumber_35 ?_
    refine z_put 36 zc9 0 11 (zw_41 cA 0 a_this a_this_all a_this_kept a_this_history a_this_slots a_this_isSaved a_this_stream a_this_pad v_historyLong v_streamLong v_spot v_padLong (v_padSpot + 1) ((g_pad v_padSpot.toNatClampNeg) - 48) g_pad) fl_9_191 X dX9_readsNumber_36 hw rfl (by decide) rfl rfl rfl (Nat.le_of_ble_eq_true rfl) rfl (fun H locs hw => ?_)
    refine l_X9_readsNumber_39 l D cA a_this a_this_all a_this_kept a_this_history a_this_slots a_this_isSaved a_this_stream a_this_pad v_historyLong v_streamLong v_spot v_padLong g_pad out X _ (fun v_padSpot_12 v_readNumber_13 H locs ls hw hl hF => ?_) zFuel (v_padSpot + 1) ((g_pad v_padSpot.toNatClampNeg) - 48) H locs ls hw (lv_sub hl [0] rfl) hF
    refine z_iconst 119 1 X dX9_readsNumber_119 (by decide) ?_
    cases hF
    exact z_zret 120 X dX9_readsNumber_120 hw (by decide) rfl rfl
  · replace hF := zpos c3 hF
    refine z_iconst 11 0 X dX9_readsNumber_11 (by decide) ?_
    cases hF
    exact z_zret 12 X dX9_readsNumber_12 hw (by decide) rfl rfl
theorem dX9_takes_0 : decode cX9_takes 0 = .ok (.aload_n 0, 1) := by decide +kernel
theorem dX9_takes_1 : decode cX9_takes 1 = .ok (.iload_n 1, 1) := by decide +kernel
theorem dX9_takes_2 : decode cX9_takes 2 = .ok (.iload_n 1, 1) := by decide +kernel
theorem dX9_takes_3 : decode cX9_takes 3 = .ok (.invokevirtual 194, 3) := by decide +kernel
theorem dX9_takes_6 : decode cX9_takes 6 = .ok (.istore_n 2, 1) := by decide +kernel
theorem dX9_takes_7 : decode cX9_takes 7 = .ok (.aload_n 0, 1) := by decide +kernel
theorem dX9_takes_8 : decode cX9_takes 8 = .ok (.dup, 1) := by decide +kernel
theorem dX9_takes_9 : decode cX9_takes 9 = .ok (.getfield 191, 3) := by decide +kernel
theorem dX9_takes_12 : decode cX9_takes 12 = .ok (.iload_n 2, 1) := by decide +kernel
theorem dX9_takes_13 : decode cX9_takes 13 = .ok (.ifCond .eq 7, 3) := by decide +kernel
theorem dX9_takes_16 : decode cX9_takes 16 = .ok (.iconst 1, 1) := by decide +kernel
theorem dX9_takes_17 : decode cX9_takes 17 = .ok (.goto 4, 3) := by decide +kernel
theorem dX9_takes_20 : decode cX9_takes 20 = .ok (.iconst 0, 1) := by decide +kernel
theorem dX9_takes_21 : decode cX9_takes 21 = .ok (.iadd, 1) := by decide +kernel
theorem dX9_takes_22 : decode cX9_takes 22 = .ok (.putfield 191, 3) := by decide +kernel
theorem dX9_takes_25 : decode cX9_takes 25 = .ok (.iload_n 2, 1) := by decide +kernel
theorem dX9_takes_26 : decode cX9_takes 26 = .ok (.ireturn, 1) := by decide +kernel
set_option maxHeartbeats 4000000 in
set_option maxRecDepth 100000 in
theorem m_X9_takes (l : Launch) (D : va_G) (cA : ClassId) (a_this a_this_all a_this_kept a_this_history a_this_slots a_this_isSaved a_this_stream a_this_pad : Nat) (v_historyLong : Int32) (v_streamLong : Int32) (v_spot : Int32) (v_padLong : Int32) (v_padSpot : Int32) (v_readNumber : Int32) (g_pad : Ar) (i1 : Int32) (out : Int32 × Int32) (hF : F_X9_takes v_padLong v_padSpot g_pad i1 = some out) : zM l D cA yX9_takes cX9_takes 3 (some .boolean) 2 47 [.ref a_this, .int i1] (zw_41 cA 0 a_this a_this_all a_this_kept a_this_history a_this_slots a_this_isSaved a_this_stream a_this_pad v_historyLong v_streamLong v_spot v_padLong v_padSpot v_readNumber g_pad) (zw_41 cA 0 a_this a_this_all a_this_kept a_this_history a_this_slots a_this_isSaved a_this_stream a_this_pad v_historyLong v_streamLong v_spot v_padLong out.2 v_readNumber g_pad) (some (.int out.1)) := by
  refine z_body (by decide) (Nat.le_of_ble_eq_true rfl) ?_
  intro p e s m args below meth c ls H locs A X hl hw
  have hl : lv_has ls 3 [(0, .ref a_this), (1, .int i1)] := hl
  unfold F_X9_takes at hF
  refine z_aload_n 0 X dX9_takes_0 hl 0 rfl ?_
  refine z_iload_n 1 X dX9_takes_1 hl 1 rfl ?_
  refine z_iload_n 2 X dX9_takes_2 hl 1 rfl ?_
  obtain ⟨u1, e2, hF⟩ := zbd hF
  refine z_callV 3 zc9 mv_X9_isHere ml_9_194 0 [] (zk_128 cA 0 a_this a_this_all a_this_kept a_this_history a_this_slots a_this_isSaved a_this_stream a_this_pad v_historyLong v_streamLong v_spot v_padLong v_padSpot v_readNumber g_pad) (m_X9_isHere l D cA a_this a_this_all a_this_kept a_this_history a_this_slots a_this_isSaved a_this_stream a_this_pad v_historyLong v_streamLong v_spot v_padLong v_padSpot v_readNumber g_pad i1 i1 u1 e2) X dX9_takes_3 hw hl rfl rfl rfl (Nat.le_of_ble_eq_true rfl) ⟨Nat.le_of_ble_eq_true rfl, Nat.le_of_ble_eq_true rfl⟩ ⟨Nat.zero_le _, Nat.zero_le _⟩ (fun H locs hw => ?_)
  refine z_istore_n 6 [(2, .int u1), (0, .ref a_this), (1, .int i1)] X dX9_takes_6 hl (by decide) rfl (fun ls hl => ?_)
  refine z_aload_n 7 X dX9_takes_7 hl 1 rfl ?_
  refine z_dup 8 X dX9_takes_8 rfl ?_
  refine z_get 9 zc9 0 11 fl_9_191 X dX9_takes_9 hw rfl (by decide) rfl ?_
  refine z_iload_n 12 X dX9_takes_12 hl 0 rfl ?_
  refine z_if_eq 13 20 X dX9_takes_13 (by decide) (fun c3 => ?_) (fun c3 => ?_)
  · replace hF := zpos c3 hF
    refine z_iconst 20 0 X dX9_takes_20 (by decide) ?_
    refine z_iadd 21 X dX9_takes_21 ?_
    refine z_put 22 zc9 0 11 (zw_41 cA 0 a_this a_this_all a_this_kept a_this_history a_this_slots a_this_isSaved a_this_stream a_this_pad v_historyLong v_streamLong v_spot v_padLong (v_padSpot + 0) v_readNumber g_pad) fl_9_191 X dX9_takes_22 hw rfl (by decide) rfl rfl rfl (Nat.le_of_ble_eq_true rfl) rfl (fun H locs hw => ?_)
    refine z_iload_n 25 X dX9_takes_25 hl 0 rfl ?_
    obtain ⟨gz, hF⟩ := zgd hF
    cases hF
    exact z_zret 26 X dX9_takes_26 hw gz rfl rfl
  · replace hF := zneg c3 hF
    refine z_iconst 16 1 X dX9_takes_16 (by decide) ?_
    refine z_goto 17 21 X dX9_takes_17 (by decide) ?_
    refine z_iadd 21 X dX9_takes_21 ?_
    refine z_put 22 zc9 0 11 (zw_41 cA 0 a_this a_this_all a_this_kept a_this_history a_this_slots a_this_isSaved a_this_stream a_this_pad v_historyLong v_streamLong v_spot v_padLong (v_padSpot + 1) v_readNumber g_pad) fl_9_191 X dX9_takes_22 hw rfl (by decide) rfl rfl rfl (Nat.le_of_ble_eq_true rfl) rfl (fun H locs hw => ?_)
    refine z_iload_n 25 X dX9_takes_25 hl 0 rfl ?_
    obtain ⟨gz, hF⟩ := zgd hF
    cases hF
    exact z_zret 26 X dX9_takes_26 hw gz rfl rfl
theorem dX9_fault_0 : decode cX9_fault 0 = .ok (.aload_n 0, 1) := by decide +kernel
theorem dX9_fault_1 : decode cX9_fault 1 = .ok (.iconst 0, 1) := by decide +kernel
theorem dX9_fault_2 : decode cX9_fault 2 = .ok (.putfield 191, 3) := by decide +kernel
theorem dX9_fault_5 : decode cX9_fault 5 = .ok (.iconst 1, 1) := by decide +kernel
theorem dX9_fault_6 : decode cX9_fault 6 = .ok (.istore_n 1, 1) := by decide +kernel
theorem dX9_fault_7 : decode cX9_fault 7 = .ok (.iload_n 1, 1) := by decide +kernel
theorem dX9_fault_8 : decode cX9_fault 8 = .ok (.ifCond .eq 61, 3) := by decide +kernel
theorem dX9_fault_11 : decode cX9_fault 11 = .ok (.aload_n 0, 1) := by decide +kernel
theorem dX9_fault_12 : decode cX9_fault 12 = .ok (.invokevirtual 201, 3) := by decide +kernel
theorem dX9_fault_15 : decode cX9_fault 15 = .ok (.istore_n 2, 1) := by decide +kernel
theorem dX9_fault_16 : decode cX9_fault 16 = .ok (.iload_n 2, 1) := by decide +kernel
theorem dX9_fault_17 : decode cX9_fault 17 = .ok (.ifCond .eq 10, 3) := by decide +kernel
theorem dX9_fault_20 : decode cX9_fault 20 = .ok (.aload_n 0, 1) := by decide +kernel
theorem dX9_fault_21 : decode cX9_fault 21 = .ok (.invokevirtual 204, 3) := by decide +kernel
theorem dX9_fault_24 : decode cX9_fault 24 = .ok (.ifCond .ne 8, 3) := by decide +kernel
theorem dX9_fault_27 : decode cX9_fault 27 = .ok (.aload_n 0, 1) := by decide +kernel
theorem dX9_fault_28 : decode cX9_fault 28 = .ok (.getfield 191, 3) := by decide +kernel
theorem dX9_fault_31 : decode cX9_fault 31 = .ok (.ireturn, 1) := by decide +kernel
theorem dX9_fault_32 : decode cX9_fault 32 = .ok (.iload_n 2, 1) := by decide +kernel
theorem dX9_fault_33 : decode cX9_fault 33 = .ok (.bipush 43, 2) := by decide +kernel
theorem dX9_fault_35 : decode cX9_fault 35 = .ok (.if_icmp .ne 24, 3) := by decide +kernel
theorem dX9_fault_38 : decode cX9_fault 38 = .ok (.aload_n 0, 1) := by decide +kernel
theorem dX9_fault_39 : decode cX9_fault 39 = .ok (.bipush 44, 2) := by decide +kernel
theorem dX9_fault_41 : decode cX9_fault 41 = .ok (.invokevirtual 208, 3) := by decide +kernel
theorem dX9_fault_44 : decode cX9_fault 44 = .ok (.ifCond .eq 15, 3) := by decide +kernel
theorem dX9_fault_47 : decode cX9_fault 47 = .ok (.aload_n 0, 1) := by decide +kernel
theorem dX9_fault_48 : decode cX9_fault 48 = .ok (.invokevirtual 204, 3) := by decide +kernel
theorem dX9_fault_51 : decode cX9_fault 51 = .ok (.ifCond .ne (-19), 3) := by decide +kernel
theorem dX9_fault_54 : decode cX9_fault 54 = .ok (.aload_n 0, 1) := by decide +kernel
theorem dX9_fault_55 : decode cX9_fault 55 = .ok (.getfield 191, 3) := by decide +kernel
theorem dX9_fault_58 : decode cX9_fault 58 = .ok (.ireturn, 1) := by decide +kernel
theorem dX9_fault_59 : decode cX9_fault 59 = .ok (.aload_n 0, 1) := by decide +kernel
theorem dX9_fault_60 : decode cX9_fault 60 = .ok (.bipush 59, 2) := by decide +kernel
theorem dX9_fault_62 : decode cX9_fault 62 = .ok (.invokevirtual 208, 3) := by decide +kernel
theorem dX9_fault_65 : decode cX9_fault 65 = .ok (.istore_n 1, 1) := by decide +kernel
theorem dX9_fault_66 : decode cX9_fault 66 = .ok (.goto (-59), 3) := by decide +kernel
theorem dX9_fault_69 : decode cX9_fault 69 = .ok (.aload_n 0, 1) := by decide +kernel
theorem dX9_fault_70 : decode cX9_fault 70 = .ok (.getfield 191, 3) := by decide +kernel
theorem dX9_fault_73 : decode cX9_fault 73 = .ok (.aload_n 0, 1) := by decide +kernel
theorem dX9_fault_74 : decode cX9_fault 74 = .ok (.getfield 166, 3) := by decide +kernel
theorem dX9_fault_77 : decode cX9_fault 77 = .ok (.if_icmp .ne 8, 3) := by decide +kernel
theorem dX9_fault_80 : decode cX9_fault 80 = .ok (.bipush (-6), 2) := by decide +kernel
theorem dX9_fault_82 : decode cX9_fault 82 = .ok (.goto 7, 3) := by decide +kernel
theorem dX9_fault_85 : decode cX9_fault 85 = .ok (.aload_n 0, 1) := by decide +kernel
theorem dX9_fault_86 : decode cX9_fault 86 = .ok (.getfield 191, 3) := by decide +kernel
theorem dX9_fault_89 : decode cX9_fault 89 = .ok (.ireturn, 1) := by decide +kernel
set_option maxHeartbeats 4000000 in
set_option maxRecDepth 100000 in
theorem zk_129 (cA : ClassId) (n : Nat) (a_this a_this_all a_this_kept a_this_history a_this_slots a_this_isSaved a_this_stream a_this_pad : Nat) (v_historyLong : Int32) (v_streamLong : Int32) (v_spot : Int32) (v_padLong : Int32) (v_padSpot : Int32) (v_readNumber : Int32) (g_pad : Ar) (v_padSpot' : Int32) : zCW (zw_41 cA n a_this a_this_all a_this_kept a_this_history a_this_slots a_this_isSaved a_this_stream a_this_pad v_historyLong v_streamLong v_spot v_padLong v_padSpot v_readNumber g_pad) (zw_41 cA n a_this a_this_all a_this_kept a_this_history a_this_slots a_this_isSaved a_this_stream a_this_pad v_historyLong v_streamLong v_spot v_padLong v_padSpot' v_readNumber g_pad) [0, 1] [] (zw_41 cA 0 a_this a_this_all a_this_kept a_this_history a_this_slots a_this_isSaved a_this_stream a_this_pad v_historyLong v_streamLong v_spot v_padLong v_padSpot v_readNumber g_pad) (zw_41 cA 0 a_this a_this_all a_this_kept a_this_history a_this_slots a_this_isSaved a_this_stream a_this_pad v_historyLong v_streamLong v_spot v_padLong v_padSpot' v_readNumber g_pad) := ⟨rfl, (show (zw_41 cA 0 a_this a_this_all a_this_kept a_this_history a_this_slots a_this_isSaved a_this_stream a_this_pad v_historyLong v_streamLong v_spot v_padLong v_padSpot' v_readNumber g_pad).map Prod.fst = ([a_this, a_this_pad] : List Nat) from rfl).trans (show (zw_41 cA 0 a_this a_this_all a_this_kept a_this_history a_this_slots a_this_isSaved a_this_stream a_this_pad v_historyLong v_streamLong v_spot v_padLong v_padSpot v_readNumber g_pad).map Prod.fst = ([a_this, a_this_pad] : List Nat) from rfl).symm, by decide +kernel, (show (zw_41 cA n a_this a_this_all a_this_kept a_this_history a_this_slots a_this_isSaved a_this_stream a_this_pad v_historyLong v_streamLong v_spot v_padLong v_padSpot' v_readNumber g_pad).map Prod.fst = ([a_this, a_this_pad] : List Nat) from rfl).trans (show (zw_41 cA n a_this a_this_all a_this_kept a_this_history a_this_slots a_this_isSaved a_this_stream a_this_pad v_historyLong v_streamLong v_spot v_padLong v_padSpot v_readNumber g_pad).map Prod.fst = ([a_this, a_this_pad] : List Nat) from rfl).symm, rfl, rfl, by decide +kernel, rfl⟩
set_option maxHeartbeats 4000000 in
set_option maxRecDepth 100000 in
theorem zk_130 (cA : ClassId) (n : Nat) (a_this a_this_all a_this_kept a_this_history a_this_slots a_this_isSaved a_this_stream a_this_pad : Nat) (v_historyLong : Int32) (v_streamLong : Int32) (v_spot : Int32) (v_padLong : Int32) (v_padSpot : Int32) (v_readNumber : Int32) (g_pad : Ar) (v_padSpot' : Int32) (v_readNumber' : Int32) : zCW (zw_41 cA n a_this a_this_all a_this_kept a_this_history a_this_slots a_this_isSaved a_this_stream a_this_pad v_historyLong v_streamLong v_spot v_padLong v_padSpot v_readNumber g_pad) (zw_41 cA n a_this a_this_all a_this_kept a_this_history a_this_slots a_this_isSaved a_this_stream a_this_pad v_historyLong v_streamLong v_spot v_padLong v_padSpot' v_readNumber' g_pad) [0, 1] [] (zw_41 cA 0 a_this a_this_all a_this_kept a_this_history a_this_slots a_this_isSaved a_this_stream a_this_pad v_historyLong v_streamLong v_spot v_padLong v_padSpot v_readNumber g_pad) (zw_41 cA 0 a_this a_this_all a_this_kept a_this_history a_this_slots a_this_isSaved a_this_stream a_this_pad v_historyLong v_streamLong v_spot v_padLong v_padSpot' v_readNumber' g_pad) := ⟨rfl, (show (zw_41 cA 0 a_this a_this_all a_this_kept a_this_history a_this_slots a_this_isSaved a_this_stream a_this_pad v_historyLong v_streamLong v_spot v_padLong v_padSpot' v_readNumber' g_pad).map Prod.fst = ([a_this, a_this_pad] : List Nat) from rfl).trans (show (zw_41 cA 0 a_this a_this_all a_this_kept a_this_history a_this_slots a_this_isSaved a_this_stream a_this_pad v_historyLong v_streamLong v_spot v_padLong v_padSpot v_readNumber g_pad).map Prod.fst = ([a_this, a_this_pad] : List Nat) from rfl).symm, by decide +kernel, (show (zw_41 cA n a_this a_this_all a_this_kept a_this_history a_this_slots a_this_isSaved a_this_stream a_this_pad v_historyLong v_streamLong v_spot v_padLong v_padSpot' v_readNumber' g_pad).map Prod.fst = ([a_this, a_this_pad] : List Nat) from rfl).trans (show (zw_41 cA n a_this a_this_all a_this_kept a_this_history a_this_slots a_this_isSaved a_this_stream a_this_pad v_historyLong v_streamLong v_spot v_padLong v_padSpot v_readNumber g_pad).map Prod.fst = ([a_this, a_this_pad] : List Nat) from rfl).symm, rfl, rfl, by decide +kernel, rfl⟩
set_option maxHeartbeats 4000000 in
set_option maxRecDepth 100000 in
theorem l_X9_fault_32 (l : Launch) (D : va_G) (cA : ClassId) (a_this a_this_all a_this_kept a_this_history a_this_slots a_this_isSaved a_this_stream a_this_pad : Nat) (v_historyLong : Int32) (v_streamLong : Int32) (v_spot : Int32) (v_padLong : Int32) (g_pad : Ar) (i2 : Int32) (out : Int32 × Int32 × Int32) {p : Program} {e : Env} {s : State} {m : MethodId} {args : Array Value} {below : List Frame} {meth : Method} {c : Code} {A : Nat → Prop} (X : zX D cA p s m args meth c cX9_fault 3 RX9 (some .int)) (k : Int32 → Int32 → Option (Int32 × Int32 × Int32)) (hk : ∀ (v_padSpot : Int32) (v_readNumber : Int32) (H : Heap) (locs : List Loc) (ls : Array Slot), zH D A s (zw_41 cA 0 a_this a_this_all a_this_kept a_this_history a_this_slots a_this_isSaved a_this_stream a_this_pad v_historyLong v_streamLong v_spot v_padLong v_padSpot v_readNumber g_pad) H locs → lv_has ls 3 [(0, .ref a_this)] → k v_padSpot v_readNumber = some out → W p l e (zR 3 69) s m args below meth c H locs 0 0 (MQ below (zQ D (zw_41 cA 0 a_this a_this_all a_this_kept a_this_history a_this_slots a_this_isSaved a_this_stream a_this_pad v_historyLong v_streamLong v_spot v_padLong out.2.1 out.2.2 g_pad) (some (.int out.1)) A) args s 0 0 A) (F0 m 59 ls [])) :
    ∀ (fuel : Nat) (v_padSpot : Int32) (v_readNumber : Int32) (H : Heap) (locs : List Loc) (ls : Array Slot), zH D A s (zw_41 cA 0 a_this a_this_all a_this_kept a_this_history a_this_slots a_this_isSaved a_this_stream a_this_pad v_historyLong v_streamLong v_spot v_padLong v_padSpot v_readNumber g_pad) H locs → lv_has ls 3 [(0, .ref a_this), (2, .int i2)] → F_X9_fault_L32 v_padLong g_pad i2 k fuel v_padSpot v_readNumber = some out → W p l e (zR 3 69) s m args below meth c H locs 0 0 (MQ below (zQ D (zw_41 cA 0 a_this a_this_all a_this_kept a_this_history a_this_slots a_this_isSaved a_this_stream a_this_pad v_historyLong v_streamLong v_spot v_padLong out.2.1 out.2.2 g_pad) (some (.int out.1)) A) args s 0 0 A) (F0 m 32 ls []) := by
  intro fuel
  induction fuel with
  | zero => intro v_padSpot v_readNumber H locs ls hw hl hF; exact nomatch (show (none : Option (Int32 × Int32 × Int32)) = some out from hF)
  | succ fuel ih =>
    intro v_padSpot v_readNumber H locs ls hw hl hF
    rw [F_X9_fault_L32] at hF
    refine z_iload_n 32 X dX9_fault_32 hl 1 rfl ?_
    refine z_bipush 33 43 X dX9_fault_33 (by decide) ?_
    refine z_icmp_ne 35 59 X dX9_fault_35 (by decide) (fun c8 => ?_) (fun c8 => ?_)
    · replace hF := zneg c8 hF
      exact hk v_padSpot v_readNumber H locs ls hw (lv_sub hl [0] rfl) hF
    · replace hF := zpos c8 hF
      refine z_aload_n 38 X dX9_fault_38 hl 0 rfl ?_
      refine z_bipush 39 44 X dX9_fault_39 (by decide) ?_
      obtain ⟨u9, e10, hF⟩ := zbd hF
      refine z_callV 41 zc9 mv_X9_takes ml_9_208 0 [] (zk_129 cA 0 a_this a_this_all a_this_kept a_this_history a_this_slots a_this_isSaved a_this_stream a_this_pad v_historyLong v_streamLong v_spot v_padLong v_padSpot v_readNumber g_pad u9.2) (m_X9_takes l D cA a_this a_this_all a_this_kept a_this_history a_this_slots a_this_isSaved a_this_stream a_this_pad v_historyLong v_streamLong v_spot v_padLong v_padSpot v_readNumber g_pad 44 u9 e10) X dX9_fault_41 hw hl rfl rfl rfl (Nat.le_of_ble_eq_true rfl) ⟨Nat.le_of_ble_eq_true rfl, Nat.le_of_ble_eq_true rfl⟩ ⟨Nat.zero_le _, Nat.zero_le _⟩ (fun H locs hw => ?_)
      refine z_if_eq 44 59 X dX9_fault_44 (by decide) (fun c11 => ?_) (fun c11 => ?_)
      · replace hF := zpos c11 hF
        exact hk u9.2 v_readNumber H locs ls hw (lv_sub hl [0] rfl) hF
      · replace hF := zneg c11 hF
        refine z_aload_n 47 X dX9_fault_47 hl 0 rfl ?_
        obtain ⟨u12, e13, hF⟩ := zbd hF
        refine z_callV 48 zc9 mv_X9_readsNumber ml_9_204 0 [] (zk_130 cA 0 a_this a_this_all a_this_kept a_this_history a_this_slots a_this_isSaved a_this_stream a_this_pad v_historyLong v_streamLong v_spot v_padLong u9.2 v_readNumber g_pad u12.2.1 u12.2.2) (m_X9_readsNumber l D cA a_this a_this_all a_this_kept a_this_history a_this_slots a_this_isSaved a_this_stream a_this_pad v_historyLong v_streamLong v_spot v_padLong u9.2 v_readNumber g_pad u12 e13) X dX9_fault_48 hw hl rfl rfl rfl (Nat.le_of_ble_eq_true rfl) ⟨Nat.le_of_ble_eq_true rfl, Nat.le_of_ble_eq_true rfl⟩ ⟨Nat.zero_le _, Nat.zero_le _⟩ (fun H locs hw => ?_)
        refine z_if_ne 51 32 X dX9_fault_51 (by decide) (fun c14 => ?_) (fun c14 => ?_)
        · replace hF := zneg c14 hF
          exact ih u12.2.1 u12.2.2 H locs ls hw (lv_sub hl [0, 1] rfl) hF
        · replace hF := zpos c14 hF
          refine z_aload_n 54 X dX9_fault_54 hl 0 rfl ?_
          refine z_get 55 zc9 0 11 fl_9_191 X dX9_fault_55 hw rfl (by decide) rfl ?_
          cases hF
          exact z_iret 58 X dX9_fault_58 hw rfl rfl
set_option maxHeartbeats 4000000 in
set_option maxRecDepth 100000 in
theorem l_X9_fault_7 (l : Launch) (D : va_G) (cA : ClassId) (a_this a_this_all a_this_kept a_this_history a_this_slots a_this_isSaved a_this_stream a_this_pad : Nat) (v_historyLong : Int32) (v_streamLong : Int32) (v_spot : Int32) (v_padLong : Int32) (g_pad : Ar) (out : Int32 × Int32 × Int32) {p : Program} {e : Env} {s : State} {m : MethodId} {args : Array Value} {below : List Frame} {meth : Method} {c : Code} {A : Nat → Prop} (X : zX D cA p s m args meth c cX9_fault 3 RX9 (some .int)) (k : Int32 → Int32 → Option (Int32 × Int32 × Int32)) (hk : ∀ (v_padSpot : Int32) (v_readNumber : Int32) (H : Heap) (locs : List Loc) (ls : Array Slot), zH D A s (zw_41 cA 0 a_this a_this_all a_this_kept a_this_history a_this_slots a_this_isSaved a_this_stream a_this_pad v_historyLong v_streamLong v_spot v_padLong v_padSpot v_readNumber g_pad) H locs → lv_has ls 3 [(0, .ref a_this)] → k v_padSpot v_readNumber = some out → W p l e (zR 3 69) s m args below meth c H locs 0 0 (MQ below (zQ D (zw_41 cA 0 a_this a_this_all a_this_kept a_this_history a_this_slots a_this_isSaved a_this_stream a_this_pad v_historyLong v_streamLong v_spot v_padLong out.2.1 out.2.2 g_pad) (some (.int out.1)) A) args s 0 0 A) (F0 m 69 ls [])) :
    ∀ (fuel : Nat) (v_padSpot : Int32) (v_readNumber : Int32) (i1 : Int32) (H : Heap) (locs : List Loc) (ls : Array Slot), zH D A s (zw_41 cA 0 a_this a_this_all a_this_kept a_this_history a_this_slots a_this_isSaved a_this_stream a_this_pad v_historyLong v_streamLong v_spot v_padLong v_padSpot v_readNumber g_pad) H locs → lv_has ls 3 [(0, .ref a_this), (1, .int i1)] → F_X9_fault_L7 v_padLong g_pad k fuel v_padSpot v_readNumber i1 = some out → W p l e (zR 3 69) s m args below meth c H locs 0 0 (MQ below (zQ D (zw_41 cA 0 a_this a_this_all a_this_kept a_this_history a_this_slots a_this_isSaved a_this_stream a_this_pad v_historyLong v_streamLong v_spot v_padLong out.2.1 out.2.2 g_pad) (some (.int out.1)) A) args s 0 0 A) (F0 m 7 ls []) := by
  intro fuel
  induction fuel with
  | zero => intro v_padSpot v_readNumber i1 H locs ls hw hl hF; exact nomatch (show (none : Option (Int32 × Int32 × Int32)) = some out from hF)
  | succ fuel ih =>
    intro v_padSpot v_readNumber i1 H locs ls hw hl hF
    rw [F_X9_fault_L7] at hF
    refine z_iload_n 7 X dX9_fault_7 hl 1 rfl ?_
    refine z_if_eq 8 69 X dX9_fault_8 (by decide) (fun c1 => ?_) (fun c1 => ?_)
    · replace hF := zpos c1 hF
      exact hk v_padSpot v_readNumber H locs ls hw (lv_sub hl [0] rfl) hF
    · replace hF := zneg c1 hF
      refine z_aload_n 11 X dX9_fault_11 hl 0 rfl ?_
      obtain ⟨u2, e3, hF⟩ := zbd hF
      refine z_callV 12 zc9 mv_X9_readsLetter ml_9_201 0 [] (zk_129 cA 0 a_this a_this_all a_this_kept a_this_history a_this_slots a_this_isSaved a_this_stream a_this_pad v_historyLong v_streamLong v_spot v_padLong v_padSpot v_readNumber g_pad u2.2) (m_X9_readsLetter l D cA a_this a_this_all a_this_kept a_this_history a_this_slots a_this_isSaved a_this_stream a_this_pad v_historyLong v_streamLong v_spot v_padLong v_padSpot v_readNumber g_pad u2 e3) X dX9_fault_12 hw hl rfl rfl rfl (Nat.le_of_ble_eq_true rfl) ⟨Nat.le_of_ble_eq_true rfl, Nat.le_of_ble_eq_true rfl⟩ ⟨Nat.zero_le _, Nat.zero_le _⟩ (fun H locs hw => ?_)
      refine z_istore_n 15 [(2, .int u2.1), (0, .ref a_this), (1, .int i1)] X dX9_fault_15 hl (by decide) rfl (fun ls hl => ?_)
      refine z_iload_n 16 X dX9_fault_16 hl 0 rfl ?_
      refine z_if_eq 17 27 X dX9_fault_17 (by decide) (fun c4 => ?_) (fun c4 => ?_)
      · replace hF := zpos c4 hF
        refine z_aload_n 27 X dX9_fault_27 hl 1 rfl ?_
        refine z_get 28 zc9 0 11 fl_9_191 X dX9_fault_28 hw rfl (by decide) rfl ?_
        cases hF
        exact z_iret 31 X dX9_fault_31 hw rfl rfl
      · replace hF := zneg c4 hF
        refine z_aload_n 20 X dX9_fault_20 hl 1 rfl ?_
        obtain ⟨u5, e6, hF⟩ := zbd hF
        refine z_callV 21 zc9 mv_X9_readsNumber ml_9_204 0 [] (zk_130 cA 0 a_this a_this_all a_this_kept a_this_history a_this_slots a_this_isSaved a_this_stream a_this_pad v_historyLong v_streamLong v_spot v_padLong u2.2 v_readNumber g_pad u5.2.1 u5.2.2) (m_X9_readsNumber l D cA a_this a_this_all a_this_kept a_this_history a_this_slots a_this_isSaved a_this_stream a_this_pad v_historyLong v_streamLong v_spot v_padLong u2.2 v_readNumber g_pad u5 e6) X dX9_fault_21 hw hl rfl rfl rfl (Nat.le_of_ble_eq_true rfl) ⟨Nat.le_of_ble_eq_true rfl, Nat.le_of_ble_eq_true rfl⟩ ⟨Nat.zero_le _, Nat.zero_le _⟩ (fun H locs hw => ?_)
        refine z_if_ne 24 32 X dX9_fault_24 (by decide) (fun c7 => ?_) (fun c7 => ?_)
        · replace hF := zneg c7 hF
          refine l_X9_fault_32 l D cA a_this a_this_all a_this_kept a_this_history a_this_slots a_this_isSaved a_this_stream a_this_pad v_historyLong v_streamLong v_spot v_padLong g_pad u2.1 out X _ (fun v_padSpot_15 v_readNumber_16 H locs ls hw hl hF => ?_) zFuel u5.2.1 u5.2.2 H locs ls hw (lv_sub hl [1, 0] rfl) hF
          refine z_aload_n 59 X dX9_fault_59 hl 0 rfl ?_
          refine z_bipush 60 59 X dX9_fault_60 (by decide) ?_
          obtain ⟨u17, e18, hF⟩ := zbd hF
          refine z_callV 62 zc9 mv_X9_takes ml_9_208 0 [] (zk_129 cA 0 a_this a_this_all a_this_kept a_this_history a_this_slots a_this_isSaved a_this_stream a_this_pad v_historyLong v_streamLong v_spot v_padLong v_padSpot_15 v_readNumber_16 g_pad u17.2) (m_X9_takes l D cA a_this a_this_all a_this_kept a_this_history a_this_slots a_this_isSaved a_this_stream a_this_pad v_historyLong v_streamLong v_spot v_padLong v_padSpot_15 v_readNumber_16 g_pad 59 u17 e18) X dX9_fault_62 hw hl rfl rfl rfl (Nat.le_of_ble_eq_true rfl) ⟨Nat.le_of_ble_eq_true rfl, Nat.le_of_ble_eq_true rfl⟩ ⟨Nat.zero_le _, Nat.zero_le _⟩ (fun H locs hw => ?_)
          refine z_istore_n 65 [(1, .int u17.1), (0, .ref a_this)] X dX9_fault_65 hl (by decide) rfl (fun ls hl => ?_)
          refine z_goto 66 7 X dX9_fault_66 (by decide) ?_
          exact ih u17.2 v_readNumber_16 u17.1 H locs ls hw (lv_sub hl [1, 0] rfl) hF
        · replace hF := zpos c7 hF
          refine z_aload_n 27 X dX9_fault_27 hl 1 rfl ?_
          refine z_get 28 zc9 0 11 fl_9_191 X dX9_fault_28 hw rfl (by decide) rfl ?_
          cases hF
          exact z_iret 31 X dX9_fault_31 hw rfl rfl
set_option maxHeartbeats 4000000 in
set_option maxRecDepth 100000 in
theorem m_X9_fault (l : Launch) (D : va_G) (cA : ClassId) (a_this a_this_all a_this_kept a_this_history a_this_slots a_this_isSaved a_this_stream a_this_pad : Nat) (v_historyLong : Int32) (v_streamLong : Int32) (v_spot : Int32) (v_padLong : Int32) (v_padSpot : Int32) (v_readNumber : Int32) (g_pad : Ar) (out : Int32 × Int32 × Int32) (hF : F_X9_fault v_padLong v_padSpot v_readNumber g_pad = some out) : zM l D cA yX9_fault cX9_fault 3 (some .int) 3 69 [.ref a_this] (zw_41 cA 0 a_this a_this_all a_this_kept a_this_history a_this_slots a_this_isSaved a_this_stream a_this_pad v_historyLong v_streamLong v_spot v_padLong v_padSpot v_readNumber g_pad) (zw_41 cA 0 a_this a_this_all a_this_kept a_this_history a_this_slots a_this_isSaved a_this_stream a_this_pad v_historyLong v_streamLong v_spot v_padLong out.2.1 out.2.2 g_pad) (some (.int out.1)) := by
  refine z_body (by decide) (Nat.le_of_ble_eq_true rfl) ?_
  intro p e s m args below meth c ls H locs A X hl hw
  have hl : lv_has ls 3 [(0, .ref a_this)] := hl
  unfold F_X9_fault at hF
  refine z_aload_n 0 X dX9_fault_0 hl 0 rfl ?_
  refine z_iconst 1 0 X dX9_fault_1 (by decide) ?_
  refine z_put 2 zc9 0 11 (zw_41 cA 0 a_this a_this_all a_this_kept a_this_history a_this_slots a_this_isSaved a_this_stream a_this_pad v_historyLong v_streamLong v_spot v_padLong 0 v_readNumber g_pad) fl_9_191 X dX9_fault_2 hw rfl (by decide) rfl rfl rfl (Nat.le_of_ble_eq_true rfl) rfl (fun H locs hw => ?_)
  refine z_iconst 5 1 X dX9_fault_5 (by decide) ?_
  refine z_istore_n 6 [(1, .int 1), (0, .ref a_this)] X dX9_fault_6 hl (by decide) rfl (fun ls hl => ?_)
  refine l_X9_fault_7 l D cA a_this a_this_all a_this_kept a_this_history a_this_slots a_this_isSaved a_this_stream a_this_pad v_historyLong v_streamLong v_spot v_padLong g_pad out X _ (fun v_padSpot_19 v_readNumber_20 H locs ls hw hl hF => ?_) zFuel 0 v_readNumber 1 H locs ls hw (lv_sub hl [1, 0] rfl) hF
  refine z_aload_n 69 X dX9_fault_69 hl 0 rfl ?_
  refine z_get 70 zc9 0 11 fl_9_191 X dX9_fault_70 hw rfl (by decide) rfl ?_
  refine z_aload_n 73 X dX9_fault_73 hl 0 rfl ?_
  refine z_get 74 zc9 0 10 fl_9_166 X dX9_fault_74 hw rfl (by decide) rfl ?_
  refine z_icmp_ne 77 85 X dX9_fault_77 (by decide) (fun c21 => ?_) (fun c21 => ?_)
  · replace hF := zneg c21 hF
    refine z_aload_n 85 X dX9_fault_85 hl 0 rfl ?_
    refine z_get 86 zc9 0 11 fl_9_191 X dX9_fault_86 hw rfl (by decide) rfl ?_
    cases hF
    exact z_iret 89 X dX9_fault_89 hw rfl rfl
  · replace hF := zpos c21 hF
    refine z_bipush 80 (-6) X dX9_fault_80 (by decide) ?_
    refine z_goto 82 89 X dX9_fault_82 (by decide) ?_
    cases hF
    exact z_iret 89 X dX9_fault_89 hw rfl rfl
theorem dX9_putsAll_0 : decode cX9_putsAll 0 = .ok (.aload_n 0, 1) := by decide +kernel
theorem dX9_putsAll_1 : decode cX9_putsAll 1 = .ok (.aload_n 0, 1) := by decide +kernel
theorem dX9_putsAll_2 : decode cX9_putsAll 2 = .ok (.getfield 197, 3) := by decide +kernel
theorem dX9_putsAll_5 : decode cX9_putsAll 5 = .ok (.invokevirtual 129, 3) := by decide +kernel
theorem dX9_putsAll_8 : decode cX9_putsAll 8 = .ok (.ifCond .lt 7, 3) := by decide +kernel
theorem dX9_putsAll_11 : decode cX9_putsAll 11 = .ok (.iconst 1, 1) := by decide +kernel
theorem dX9_putsAll_12 : decode cX9_putsAll 12 = .ok (.goto 4, 3) := by decide +kernel
theorem dX9_putsAll_15 : decode cX9_putsAll 15 = .ok (.iconst 0, 1) := by decide +kernel
theorem dX9_putsAll_16 : decode cX9_putsAll 16 = .ok (.istore_n 1, 1) := by decide +kernel
theorem dX9_putsAll_17 : decode cX9_putsAll 17 = .ok (.iload_n 1, 1) := by decide +kernel
theorem dX9_putsAll_18 : decode cX9_putsAll 18 = .ok (.ifCond .eq 39, 3) := by decide +kernel
theorem dX9_putsAll_21 : decode cX9_putsAll 21 = .ok (.aload_n 0, 1) := by decide +kernel
theorem dX9_putsAll_22 : decode cX9_putsAll 22 = .ok (.bipush 44, 2) := by decide +kernel
theorem dX9_putsAll_24 : decode cX9_putsAll 24 = .ok (.invokevirtual 208, 3) := by decide +kernel
theorem dX9_putsAll_27 : decode cX9_putsAll 27 = .ok (.ifCond .eq 30, 3) := by decide +kernel
theorem dX9_putsAll_30 : decode cX9_putsAll 30 = .ok (.aload_n 0, 1) := by decide +kernel
theorem dX9_putsAll_31 : decode cX9_putsAll 31 = .ok (.invokevirtual 204, 3) := by decide +kernel
theorem dX9_putsAll_34 : decode cX9_putsAll 34 = .ok (.ifCond .eq 18, 3) := by decide +kernel
theorem dX9_putsAll_37 : decode cX9_putsAll 37 = .ok (.aload_n 0, 1) := by decide +kernel
theorem dX9_putsAll_38 : decode cX9_putsAll 38 = .ok (.aload_n 0, 1) := by decide +kernel
theorem dX9_putsAll_39 : decode cX9_putsAll 39 = .ok (.getfield 197, 3) := by decide +kernel
theorem dX9_putsAll_42 : decode cX9_putsAll 42 = .ok (.invokevirtual 129, 3) := by decide +kernel
theorem dX9_putsAll_45 : decode cX9_putsAll 45 = .ok (.ifCond .lt 7, 3) := by decide +kernel
theorem dX9_putsAll_48 : decode cX9_putsAll 48 = .ok (.iconst 1, 1) := by decide +kernel
theorem dX9_putsAll_49 : decode cX9_putsAll 49 = .ok (.goto 4, 3) := by decide +kernel
theorem dX9_putsAll_52 : decode cX9_putsAll 52 = .ok (.iconst 0, 1) := by decide +kernel
theorem dX9_putsAll_53 : decode cX9_putsAll 53 = .ok (.istore_n 1, 1) := by decide +kernel
theorem dX9_putsAll_54 : decode cX9_putsAll 54 = .ok (.goto (-37), 3) := by decide +kernel
theorem dX9_putsAll_57 : decode cX9_putsAll 57 = .ok (.iload_n 1, 1) := by decide +kernel
theorem dX9_putsAll_58 : decode cX9_putsAll 58 = .ok (.ireturn, 1) := by decide +kernel
set_option maxHeartbeats 4000000 in
set_option maxRecDepth 100000 in
theorem zk_131 (cA : ClassId) (n : Nat) (a_this a_this_all a_this_kept a_this_history a_this_slots a_this_isSaved a_this_stream a_this_pad : Nat) (v_historyLong : Int32) (v_streamLong : Int32) (v_spot : Int32) (v_padLong : Int32) (v_padSpot : Int32) (v_readNumber : Int32) (g_all : Ar) (g_pad : Ar) (g_all' : Ar) : zCW (zw_43 cA n a_this a_this_all a_this_kept a_this_history a_this_slots a_this_isSaved a_this_stream a_this_pad v_historyLong v_streamLong v_spot v_padLong v_padSpot v_readNumber g_all g_pad) (zw_43 cA n a_this a_this_all a_this_kept a_this_history a_this_slots a_this_isSaved a_this_stream a_this_pad v_historyLong v_streamLong v_spot v_padLong v_padSpot v_readNumber g_all' g_pad) [0, 1] [2] (zw_36 cA 0 a_this a_this_all a_this_kept a_this_history a_this_slots a_this_isSaved a_this_stream a_this_pad v_historyLong v_streamLong v_spot v_padLong v_padSpot v_readNumber g_all) (zw_36 cA 0 a_this a_this_all a_this_kept a_this_history a_this_slots a_this_isSaved a_this_stream a_this_pad v_historyLong v_streamLong v_spot v_padLong v_padSpot v_readNumber g_all') := ⟨rfl, (show (zw_36 cA 0 a_this a_this_all a_this_kept a_this_history a_this_slots a_this_isSaved a_this_stream a_this_pad v_historyLong v_streamLong v_spot v_padLong v_padSpot v_readNumber g_all').map Prod.fst = ([a_this, a_this_all] : List Nat) from rfl).trans (show (zw_36 cA 0 a_this a_this_all a_this_kept a_this_history a_this_slots a_this_isSaved a_this_stream a_this_pad v_historyLong v_streamLong v_spot v_padLong v_padSpot v_readNumber g_all).map Prod.fst = ([a_this, a_this_all] : List Nat) from rfl).symm, by decide +kernel, (show (zw_43 cA n a_this a_this_all a_this_kept a_this_history a_this_slots a_this_isSaved a_this_stream a_this_pad v_historyLong v_streamLong v_spot v_padLong v_padSpot v_readNumber g_all' g_pad).map Prod.fst = ([a_this, a_this_all, a_this_pad] : List Nat) from rfl).trans (show (zw_43 cA n a_this a_this_all a_this_kept a_this_history a_this_slots a_this_isSaved a_this_stream a_this_pad v_historyLong v_streamLong v_spot v_padLong v_padSpot v_readNumber g_all g_pad).map Prod.fst = ([a_this, a_this_all, a_this_pad] : List Nat) from rfl).symm, rfl, (show ([2] : List Nat).map (fun i => (zw_43 cA n a_this a_this_all a_this_kept a_this_history a_this_slots a_this_isSaved a_this_stream a_this_pad v_historyLong v_streamLong v_spot v_padLong v_padSpot v_readNumber g_all' g_pad)[i]?) = ([(a_this_pad, .inl (cA, 80, .inl g_pad))] : va_W).map some from rfl).trans (show ([2] : List Nat).map (fun i => (zw_43 cA n a_this a_this_all a_this_kept a_this_history a_this_slots a_this_isSaved a_this_stream a_this_pad v_historyLong v_streamLong v_spot v_padLong v_padSpot v_readNumber g_all g_pad)[i]?) = ([(a_this_pad, .inl (cA, 80, .inl g_pad))] : va_W).map some from rfl).symm, by decide +kernel, rfl⟩
set_option maxHeartbeats 4000000 in
set_option maxRecDepth 100000 in
theorem zk_132 (cA : ClassId) (n : Nat) (a_this a_this_all a_this_kept a_this_history a_this_slots a_this_isSaved a_this_stream a_this_pad : Nat) (v_historyLong : Int32) (v_streamLong : Int32) (v_spot : Int32) (v_padLong : Int32) (v_padSpot : Int32) (v_readNumber : Int32) (g_all : Ar) (g_pad : Ar) (v_padSpot' : Int32) : zCW (zw_43 cA n a_this a_this_all a_this_kept a_this_history a_this_slots a_this_isSaved a_this_stream a_this_pad v_historyLong v_streamLong v_spot v_padLong v_padSpot v_readNumber g_all g_pad) (zw_43 cA n a_this a_this_all a_this_kept a_this_history a_this_slots a_this_isSaved a_this_stream a_this_pad v_historyLong v_streamLong v_spot v_padLong v_padSpot' v_readNumber g_all g_pad) [0, 2] [1] (zw_41 cA 0 a_this a_this_all a_this_kept a_this_history a_this_slots a_this_isSaved a_this_stream a_this_pad v_historyLong v_streamLong v_spot v_padLong v_padSpot v_readNumber g_pad) (zw_41 cA 0 a_this a_this_all a_this_kept a_this_history a_this_slots a_this_isSaved a_this_stream a_this_pad v_historyLong v_streamLong v_spot v_padLong v_padSpot' v_readNumber g_pad) := ⟨rfl, (show (zw_41 cA 0 a_this a_this_all a_this_kept a_this_history a_this_slots a_this_isSaved a_this_stream a_this_pad v_historyLong v_streamLong v_spot v_padLong v_padSpot' v_readNumber g_pad).map Prod.fst = ([a_this, a_this_pad] : List Nat) from rfl).trans (show (zw_41 cA 0 a_this a_this_all a_this_kept a_this_history a_this_slots a_this_isSaved a_this_stream a_this_pad v_historyLong v_streamLong v_spot v_padLong v_padSpot v_readNumber g_pad).map Prod.fst = ([a_this, a_this_pad] : List Nat) from rfl).symm, by decide +kernel, (show (zw_43 cA n a_this a_this_all a_this_kept a_this_history a_this_slots a_this_isSaved a_this_stream a_this_pad v_historyLong v_streamLong v_spot v_padLong v_padSpot' v_readNumber g_all g_pad).map Prod.fst = ([a_this, a_this_all, a_this_pad] : List Nat) from rfl).trans (show (zw_43 cA n a_this a_this_all a_this_kept a_this_history a_this_slots a_this_isSaved a_this_stream a_this_pad v_historyLong v_streamLong v_spot v_padLong v_padSpot v_readNumber g_all g_pad).map Prod.fst = ([a_this, a_this_all, a_this_pad] : List Nat) from rfl).symm, rfl, (show ([1] : List Nat).map (fun i => (zw_43 cA n a_this a_this_all a_this_kept a_this_history a_this_slots a_this_isSaved a_this_stream a_this_pad v_historyLong v_streamLong v_spot v_padLong v_padSpot' v_readNumber g_all g_pad)[i]?) = ([(a_this_all, .inl (cA, 67, .inl g_all))] : va_W).map some from rfl).trans (show ([1] : List Nat).map (fun i => (zw_43 cA n a_this a_this_all a_this_kept a_this_history a_this_slots a_this_isSaved a_this_stream a_this_pad v_historyLong v_streamLong v_spot v_padLong v_padSpot v_readNumber g_all g_pad)[i]?) = ([(a_this_all, .inl (cA, 67, .inl g_all))] : va_W).map some from rfl).symm, by decide +kernel, rfl⟩
set_option maxHeartbeats 4000000 in
set_option maxRecDepth 100000 in
theorem zk_133 (cA : ClassId) (n : Nat) (a_this a_this_all a_this_kept a_this_history a_this_slots a_this_isSaved a_this_stream a_this_pad : Nat) (v_historyLong : Int32) (v_streamLong : Int32) (v_spot : Int32) (v_padLong : Int32) (v_padSpot : Int32) (v_readNumber : Int32) (g_all : Ar) (g_pad : Ar) (v_padSpot' : Int32) (v_readNumber' : Int32) : zCW (zw_43 cA n a_this a_this_all a_this_kept a_this_history a_this_slots a_this_isSaved a_this_stream a_this_pad v_historyLong v_streamLong v_spot v_padLong v_padSpot v_readNumber g_all g_pad) (zw_43 cA n a_this a_this_all a_this_kept a_this_history a_this_slots a_this_isSaved a_this_stream a_this_pad v_historyLong v_streamLong v_spot v_padLong v_padSpot' v_readNumber' g_all g_pad) [0, 2] [1] (zw_41 cA 0 a_this a_this_all a_this_kept a_this_history a_this_slots a_this_isSaved a_this_stream a_this_pad v_historyLong v_streamLong v_spot v_padLong v_padSpot v_readNumber g_pad) (zw_41 cA 0 a_this a_this_all a_this_kept a_this_history a_this_slots a_this_isSaved a_this_stream a_this_pad v_historyLong v_streamLong v_spot v_padLong v_padSpot' v_readNumber' g_pad) := ⟨rfl, (show (zw_41 cA 0 a_this a_this_all a_this_kept a_this_history a_this_slots a_this_isSaved a_this_stream a_this_pad v_historyLong v_streamLong v_spot v_padLong v_padSpot' v_readNumber' g_pad).map Prod.fst = ([a_this, a_this_pad] : List Nat) from rfl).trans (show (zw_41 cA 0 a_this a_this_all a_this_kept a_this_history a_this_slots a_this_isSaved a_this_stream a_this_pad v_historyLong v_streamLong v_spot v_padLong v_padSpot v_readNumber g_pad).map Prod.fst = ([a_this, a_this_pad] : List Nat) from rfl).symm, by decide +kernel, (show (zw_43 cA n a_this a_this_all a_this_kept a_this_history a_this_slots a_this_isSaved a_this_stream a_this_pad v_historyLong v_streamLong v_spot v_padLong v_padSpot' v_readNumber' g_all g_pad).map Prod.fst = ([a_this, a_this_all, a_this_pad] : List Nat) from rfl).trans (show (zw_43 cA n a_this a_this_all a_this_kept a_this_history a_this_slots a_this_isSaved a_this_stream a_this_pad v_historyLong v_streamLong v_spot v_padLong v_padSpot v_readNumber g_all g_pad).map Prod.fst = ([a_this, a_this_all, a_this_pad] : List Nat) from rfl).symm, rfl, (show ([1] : List Nat).map (fun i => (zw_43 cA n a_this a_this_all a_this_kept a_this_history a_this_slots a_this_isSaved a_this_stream a_this_pad v_historyLong v_streamLong v_spot v_padLong v_padSpot' v_readNumber' g_all g_pad)[i]?) = ([(a_this_all, .inl (cA, 67, .inl g_all))] : va_W).map some from rfl).trans (show ([1] : List Nat).map (fun i => (zw_43 cA n a_this a_this_all a_this_kept a_this_history a_this_slots a_this_isSaved a_this_stream a_this_pad v_historyLong v_streamLong v_spot v_padLong v_padSpot v_readNumber g_all g_pad)[i]?) = ([(a_this_all, .inl (cA, 67, .inl g_all))] : va_W).map some from rfl).symm, by decide +kernel, rfl⟩
set_option maxHeartbeats 4000000 in
set_option maxRecDepth 100000 in
theorem l_X9_putsAll_17 (l : Launch) (D : va_G) (cA : ClassId) (a_this a_this_all a_this_kept a_this_history a_this_slots a_this_isSaved a_this_stream a_this_pad : Nat) (v_historyLong : Int32) (v_streamLong : Int32) (v_spot : Int32) (v_padLong : Int32) (g_pad : Ar) (out : Int32 × Int32 × Int32 × Ar) {p : Program} {e : Env} {s : State} {m : MethodId} {args : Array Value} {below : List Frame} {meth : Method} {c : Code} {A : Nat → Prop} (X : zX D cA p s m args meth c cX9_putsAll 2 RX9 (some .boolean)) (k : Int32 → Int32 → Ar → Int32 → Option (Int32 × Int32 × Int32 × Ar)) (hk : ∀ (v_padSpot : Int32) (v_readNumber : Int32) (g_all : Ar) (i1 : Int32) (H : Heap) (locs : List Loc) (ls : Array Slot), zH D A s (zw_43 cA 0 a_this a_this_all a_this_kept a_this_history a_this_slots a_this_isSaved a_this_stream a_this_pad v_historyLong v_streamLong v_spot v_padLong v_padSpot v_readNumber g_all g_pad) H locs → lv_has ls 2 [(1, .int i1)] → k v_padSpot v_readNumber g_all i1 = some out → W p l e (zR 4 88) s m args below meth c H locs 0 0 (MQ below (zQ D (zw_43 cA 0 a_this a_this_all a_this_kept a_this_history a_this_slots a_this_isSaved a_this_stream a_this_pad v_historyLong v_streamLong v_spot v_padLong out.2.1 out.2.2.1 out.2.2.2 g_pad) (some (.int out.1)) A) args s 0 0 A) (F0 m 57 ls [])) :
    ∀ (fuel : Nat) (v_padSpot : Int32) (v_readNumber : Int32) (g_all : Ar) (i1 : Int32) (H : Heap) (locs : List Loc) (ls : Array Slot), zH D A s (zw_43 cA 0 a_this a_this_all a_this_kept a_this_history a_this_slots a_this_isSaved a_this_stream a_this_pad v_historyLong v_streamLong v_spot v_padLong v_padSpot v_readNumber g_all g_pad) H locs → lv_has ls 2 [(0, .ref a_this), (1, .int i1)] → F_X9_putsAll_L17 v_padLong g_pad k fuel v_padSpot v_readNumber g_all i1 = some out → W p l e (zR 4 88) s m args below meth c H locs 0 0 (MQ below (zQ D (zw_43 cA 0 a_this a_this_all a_this_kept a_this_history a_this_slots a_this_isSaved a_this_stream a_this_pad v_historyLong v_streamLong v_spot v_padLong out.2.1 out.2.2.1 out.2.2.2 g_pad) (some (.int out.1)) A) args s 0 0 A) (F0 m 17 ls []) := by
  intro fuel
  induction fuel with
  | zero => intro v_padSpot v_readNumber g_all i1 H locs ls hw hl hF; exact nomatch (show (none : Option (Int32 × Int32 × Int32 × Ar)) = some out from hF)
  | succ fuel ih =>
    intro v_padSpot v_readNumber g_all i1 H locs ls hw hl hF
    rw [F_X9_putsAll_L17] at hF
    refine z_iload_n 17 X dX9_putsAll_17 hl 1 rfl ?_
    refine z_if_eq 18 57 X dX9_putsAll_18 (by decide) (fun c4 => ?_) (fun c4 => ?_)
    · replace hF := zpos c4 hF
      exact hk v_padSpot v_readNumber g_all i1 H locs ls hw (lv_sub hl [1] rfl) hF
    · replace hF := zneg c4 hF
      refine z_aload_n 21 X dX9_putsAll_21 hl 0 rfl ?_
      refine z_bipush 22 44 X dX9_putsAll_22 (by decide) ?_
      obtain ⟨u5, e6, hF⟩ := zbd hF
      refine z_callV 24 zc9 mv_X9_takes ml_9_208 0 [] (zk_132 cA 0 a_this a_this_all a_this_kept a_this_history a_this_slots a_this_isSaved a_this_stream a_this_pad v_historyLong v_streamLong v_spot v_padLong v_padSpot v_readNumber g_all g_pad u5.2) (m_X9_takes l D cA a_this a_this_all a_this_kept a_this_history a_this_slots a_this_isSaved a_this_stream a_this_pad v_historyLong v_streamLong v_spot v_padLong v_padSpot v_readNumber g_pad 44 u5 e6) X dX9_putsAll_24 hw hl rfl rfl rfl (Nat.le_of_ble_eq_true rfl) ⟨Nat.le_of_ble_eq_true rfl, Nat.le_of_ble_eq_true rfl⟩ ⟨Nat.zero_le _, Nat.zero_le _⟩ (fun H locs hw => ?_)
      refine z_if_eq 27 57 X dX9_putsAll_27 (by decide) (fun c7 => ?_) (fun c7 => ?_)
      · replace hF := zpos c7 hF
        exact hk u5.2 v_readNumber g_all i1 H locs ls hw (lv_sub hl [1] rfl) hF
      · replace hF := zneg c7 hF
        refine z_aload_n 30 X dX9_putsAll_30 hl 0 rfl ?_
        obtain ⟨u8, e9, hF⟩ := zbd hF
        refine z_callV 31 zc9 mv_X9_readsNumber ml_9_204 0 [] (zk_133 cA 0 a_this a_this_all a_this_kept a_this_history a_this_slots a_this_isSaved a_this_stream a_this_pad v_historyLong v_streamLong v_spot v_padLong u5.2 v_readNumber g_all g_pad u8.2.1 u8.2.2) (m_X9_readsNumber l D cA a_this a_this_all a_this_kept a_this_history a_this_slots a_this_isSaved a_this_stream a_this_pad v_historyLong v_streamLong v_spot v_padLong u5.2 v_readNumber g_pad u8 e9) X dX9_putsAll_31 hw hl rfl rfl rfl (Nat.le_of_ble_eq_true rfl) ⟨Nat.le_of_ble_eq_true rfl, Nat.le_of_ble_eq_true rfl⟩ ⟨Nat.zero_le _, Nat.zero_le _⟩ (fun H locs hw => ?_)
        refine z_if_eq 34 52 X dX9_putsAll_34 (by decide) (fun c10 => ?_) (fun c10 => ?_)
        · replace hF := zpos c10 hF
          refine z_iconst 52 0 X dX9_putsAll_52 (by decide) ?_
          refine z_istore_n 53 [(1, .int 0), (0, .ref a_this)] X dX9_putsAll_53 hl (by decide) rfl (fun ls hl => ?_)
          refine z_goto 54 17 X dX9_putsAll_54 (by decide) ?_
          exact ih u8.2.1 u8.2.2 g_all 0 H locs ls hw (lv_sub hl [1, 0] rfl) hF
        · replace hF := zneg c10 hF
          refine z_aload_n 37 X dX9_putsAll_37 hl 0 rfl ?_
          refine z_aload_n 38 X dX9_putsAll_38 hl 0 rfl ?_
          refine z_get 39 zc9 0 12 fl_9_197 X dX9_putsAll_39 hw rfl (by decide) rfl ?_
          obtain ⟨u11, e12, hF⟩ := zbd hF
          refine z_callV 42 zc9 mv_X9_doPutIn ml_9_129 0 [] (zk_131 cA 0 a_this a_this_all a_this_kept a_this_history a_this_slots a_this_isSaved a_this_stream a_this_pad v_historyLong v_streamLong v_spot v_padLong u8.2.1 u8.2.2 g_all g_pad u11.2) (m_X9_doPutIn l D cA a_this a_this_all a_this_kept a_this_history a_this_slots a_this_isSaved a_this_stream a_this_pad v_historyLong v_streamLong v_spot v_padLong u8.2.1 u8.2.2 g_all u8.2.2 u11 e12) X dX9_putsAll_42 hw hl rfl rfl rfl (Nat.le_of_ble_eq_true rfl) ⟨Nat.le_of_ble_eq_true rfl, Nat.le_of_ble_eq_true rfl⟩ ⟨Nat.zero_le _, Nat.zero_le _⟩ (fun H locs hw => ?_)
          refine z_if_lt 45 52 X dX9_putsAll_45 (by decide) (fun c13 => ?_) (fun c13 => ?_)
          · replace hF := zpos c13 hF
            refine z_iconst 52 0 X dX9_putsAll_52 (by decide) ?_
            refine z_istore_n 53 [(1, .int 0), (0, .ref a_this)] X dX9_putsAll_53 hl (by decide) rfl (fun ls hl => ?_)
            refine z_goto 54 17 X dX9_putsAll_54 (by decide) ?_
            exact ih u8.2.1 u8.2.2 u11.2 0 H locs ls hw (lv_sub hl [1, 0] rfl) hF
          · replace hF := zneg c13 hF
            refine z_iconst 48 1 X dX9_putsAll_48 (by decide) ?_
            refine z_goto 49 53 X dX9_putsAll_49 (by decide) ?_
            refine z_istore_n 53 [(1, .int 1), (0, .ref a_this)] X dX9_putsAll_53 hl (by decide) rfl (fun ls hl => ?_)
            refine z_goto 54 17 X dX9_putsAll_54 (by decide) ?_
            exact ih u8.2.1 u8.2.2 u11.2 1 H locs ls hw (lv_sub hl [1, 0] rfl) hF
set_option maxHeartbeats 4000000 in
set_option maxRecDepth 100000 in
theorem m_X9_putsAll (l : Launch) (D : va_G) (cA : ClassId) (a_this a_this_all a_this_kept a_this_history a_this_slots a_this_isSaved a_this_stream a_this_pad : Nat) (v_historyLong : Int32) (v_streamLong : Int32) (v_spot : Int32) (v_padLong : Int32) (v_padSpot : Int32) (v_readNumber : Int32) (g_all : Ar) (g_pad : Ar) (out : Int32 × Int32 × Int32 × Ar) (hF : F_X9_putsAll v_padLong v_padSpot v_readNumber g_all g_pad = some out) : zM l D cA yX9_putsAll cX9_putsAll 2 (some .boolean) 4 88 [.ref a_this] (zw_43 cA 0 a_this a_this_all a_this_kept a_this_history a_this_slots a_this_isSaved a_this_stream a_this_pad v_historyLong v_streamLong v_spot v_padLong v_padSpot v_readNumber g_all g_pad) (zw_43 cA 0 a_this a_this_all a_this_kept a_this_history a_this_slots a_this_isSaved a_this_stream a_this_pad v_historyLong v_streamLong v_spot v_padLong out.2.1 out.2.2.1 out.2.2.2 g_pad) (some (.int out.1)) := by
  refine z_body (by decide) (Nat.le_of_ble_eq_true rfl) ?_
  intro p e s m args below meth c ls H locs A X hl hw
  have hl : lv_has ls 2 [(0, .ref a_this)] := hl
  unfold F_X9_putsAll at hF
  refine z_aload_n 0 X dX9_putsAll_0 hl 0 rfl ?_
  refine z_aload_n 1 X dX9_putsAll_1 hl 0 rfl ?_
  refine z_get 2 zc9 0 12 fl_9_197 X dX9_putsAll_2 hw rfl (by decide) rfl ?_
  obtain ⟨u1, e2, hF⟩ := zbd hF
  refine z_callV 5 zc9 mv_X9_doPutIn ml_9_129 0 [] (zk_131 cA 0 a_this a_this_all a_this_kept a_this_history a_this_slots a_this_isSaved a_this_stream a_this_pad v_historyLong v_streamLong v_spot v_padLong v_padSpot v_readNumber g_all g_pad u1.2) (m_X9_doPutIn l D cA a_this a_this_all a_this_kept a_this_history a_this_slots a_this_isSaved a_this_stream a_this_pad v_historyLong v_streamLong v_spot v_padLong v_padSpot v_readNumber g_all v_readNumber u1 e2) X dX9_putsAll_5 hw hl rfl rfl rfl (Nat.le_of_ble_eq_true rfl) ⟨Nat.le_of_ble_eq_true rfl, Nat.le_of_ble_eq_true rfl⟩ ⟨Nat.zero_le _, Nat.zero_le _⟩ (fun H locs hw => ?_)
  refine z_if_lt 8 15 X dX9_putsAll_8 (by decide) (fun c3 => ?_) (fun c3 => ?_)
  · replace hF := zpos c3 hF
    refine z_iconst 15 0 X dX9_putsAll_15 (by decide) ?_
    refine z_istore_n 16 [(1, .int 0), (0, .ref a_this)] X dX9_putsAll_16 hl (by decide) rfl (fun ls hl => ?_)
    refine l_X9_putsAll_17 l D cA a_this a_this_all a_this_kept a_this_history a_this_slots a_this_isSaved a_this_stream a_this_pad v_historyLong v_streamLong v_spot v_padLong g_pad out X _ (fun v_padSpot_14 v_readNumber_15 g_all_16 i1_17 H locs ls hw hl hF => ?_) zFuel v_padSpot v_readNumber u1.2 0 H locs ls hw (lv_sub hl [1, 0] rfl) hF
    refine z_iload_n 57 X dX9_putsAll_57 hl 0 rfl ?_
    obtain ⟨gz, hF⟩ := zgd hF
    cases hF
    exact z_zret 58 X dX9_putsAll_58 hw gz rfl rfl
  · replace hF := zneg c3 hF
    refine z_iconst 11 1 X dX9_putsAll_11 (by decide) ?_
    refine z_goto 12 16 X dX9_putsAll_12 (by decide) ?_
    refine z_istore_n 16 [(1, .int 1), (0, .ref a_this)] X dX9_putsAll_16 hl (by decide) rfl (fun ls hl => ?_)
    refine l_X9_putsAll_17 l D cA a_this a_this_all a_this_kept a_this_history a_this_slots a_this_isSaved a_this_stream a_this_pad v_historyLong v_streamLong v_spot v_padLong g_pad out X _ (fun v_padSpot_18 v_readNumber_19 g_all_20 i1_21 H locs ls hw hl hF => ?_) zFuel v_padSpot v_readNumber u1.2 1 H locs ls hw (lv_sub hl [1, 0] rfl) hF
    refine z_iload_n 57 X dX9_putsAll_57 hl 0 rfl ?_
    obtain ⟨gz, hF⟩ := zgd hF
    cases hF
    exact z_zret 58 X dX9_putsAll_58 hw gz rfl rfl
theorem dX9_doesOrder_0 : decode cX9_doesOrder 0 = .ok (.aload_n 0, 1) := by decide +kernel
theorem dX9_doesOrder_1 : decode cX9_doesOrder 1 = .ok (.invokevirtual 201, 3) := by decide +kernel
theorem dX9_doesOrder_4 : decode cX9_doesOrder 4 = .ok (.istore_n 1, 1) := by decide +kernel
theorem dX9_doesOrder_5 : decode cX9_doesOrder 5 = .ok (.aload_n 0, 1) := by decide +kernel
theorem dX9_doesOrder_6 : decode cX9_doesOrder 6 = .ok (.invokevirtual 204, 3) := by decide +kernel
theorem dX9_doesOrder_9 : decode cX9_doesOrder 9 = .ok (.ifCond .ne 5, 3) := by decide +kernel
theorem dX9_doesOrder_12 : decode cX9_doesOrder 12 = .ok (.iconst 0, 1) := by decide +kernel
theorem dX9_doesOrder_13 : decode cX9_doesOrder 13 = .ok (.ireturn, 1) := by decide +kernel
theorem dX9_doesOrder_14 : decode cX9_doesOrder 14 = .ok (.iload_n 1, 1) := by decide +kernel
theorem dX9_doesOrder_15 : decode cX9_doesOrder 15 = .ok (.bipush 43, 2) := by decide +kernel
theorem dX9_doesOrder_17 : decode cX9_doesOrder 17 = .ok (.if_icmp .ne 10, 3) := by decide +kernel
theorem dX9_doesOrder_20 : decode cX9_doesOrder 20 = .ok (.aload_n 0, 1) := by decide +kernel
theorem dX9_doesOrder_21 : decode cX9_doesOrder 21 = .ok (.invokevirtual 211, 3) := by decide +kernel
theorem dX9_doesOrder_24 : decode cX9_doesOrder 24 = .ok (.goto 55, 3) := by decide +kernel
theorem dX9_doesOrder_27 : decode cX9_doesOrder 27 = .ok (.iload_n 1, 1) := by decide +kernel
theorem dX9_doesOrder_28 : decode cX9_doesOrder 28 = .ok (.bipush 45, 2) := by decide +kernel
theorem dX9_doesOrder_30 : decode cX9_doesOrder 30 = .ok (.if_icmp .ne 22, 3) := by decide +kernel
theorem dX9_doesOrder_33 : decode cX9_doesOrder 33 = .ok (.aload_n 0, 1) := by decide +kernel
theorem dX9_doesOrder_34 : decode cX9_doesOrder 34 = .ok (.aload_n 0, 1) := by decide +kernel
theorem dX9_doesOrder_35 : decode cX9_doesOrder 35 = .ok (.getfield 197, 3) := by decide +kernel
theorem dX9_doesOrder_38 : decode cX9_doesOrder 38 = .ok (.invokevirtual 132, 3) := by decide +kernel
theorem dX9_doesOrder_41 : decode cX9_doesOrder 41 = .ok (.ifCond .lt 7, 3) := by decide +kernel
theorem dX9_doesOrder_44 : decode cX9_doesOrder 44 = .ok (.iconst 1, 1) := by decide +kernel
theorem dX9_doesOrder_45 : decode cX9_doesOrder 45 = .ok (.goto 34, 3) := by decide +kernel
theorem dX9_doesOrder_48 : decode cX9_doesOrder 48 = .ok (.iconst 0, 1) := by decide +kernel
theorem dX9_doesOrder_49 : decode cX9_doesOrder 49 = .ok (.goto 30, 3) := by decide +kernel
theorem dX9_doesOrder_52 : decode cX9_doesOrder 52 = .ok (.aload_n 0, 1) := by decide +kernel
theorem dX9_doesOrder_53 : decode cX9_doesOrder 53 = .ok (.iload_n 1, 1) := by decide +kernel
theorem dX9_doesOrder_54 : decode cX9_doesOrder 54 = .ok (.bipush 98, 2) := by decide +kernel
theorem dX9_doesOrder_56 : decode cX9_doesOrder 56 = .ok (.if_icmp .ne 7, 3) := by decide +kernel
theorem dX9_doesOrder_59 : decode cX9_doesOrder 59 = .ok (.iconst 0, 1) := by decide +kernel
theorem dX9_doesOrder_60 : decode cX9_doesOrder 60 = .ok (.goto 4, 3) := by decide +kernel
theorem dX9_doesOrder_63 : decode cX9_doesOrder 63 = .ok (.iconst 1, 1) := by decide +kernel
theorem dX9_doesOrder_64 : decode cX9_doesOrder 64 = .ok (.aload_n 0, 1) := by decide +kernel
theorem dX9_doesOrder_65 : decode cX9_doesOrder 65 = .ok (.getfield 197, 3) := by decide +kernel
theorem dX9_doesOrder_68 : decode cX9_doesOrder 68 = .ok (.invokevirtual 123, 3) := by decide +kernel
theorem dX9_doesOrder_71 : decode cX9_doesOrder 71 = .ok (.ifCond .lt 7, 3) := by decide +kernel
theorem dX9_doesOrder_74 : decode cX9_doesOrder 74 = .ok (.iconst 1, 1) := by decide +kernel
theorem dX9_doesOrder_75 : decode cX9_doesOrder 75 = .ok (.goto 4, 3) := by decide +kernel
theorem dX9_doesOrder_78 : decode cX9_doesOrder 78 = .ok (.iconst 0, 1) := by decide +kernel
theorem dX9_doesOrder_79 : decode cX9_doesOrder 79 = .ok (.ireturn, 1) := by decide +kernel
set_option maxHeartbeats 4000000 in
set_option maxRecDepth 100000 in
theorem zk_134 (cA : ClassId) (n : Nat) (a_this a_this_all a_this_kept a_this_history a_this_slots a_this_isSaved a_this_stream a_this_pad : Nat) (v_historyLong : Int32) (v_streamLong : Int32) (v_spot : Int32) (v_padLong : Int32) (v_padSpot : Int32) (v_readNumber : Int32) (g_all : Ar) (g_pad : Ar) (v_padSpot' : Int32) (v_readNumber' : Int32) (g_all' : Ar) : zCW (zw_43 cA n a_this a_this_all a_this_kept a_this_history a_this_slots a_this_isSaved a_this_stream a_this_pad v_historyLong v_streamLong v_spot v_padLong v_padSpot v_readNumber g_all g_pad) (zw_43 cA n a_this a_this_all a_this_kept a_this_history a_this_slots a_this_isSaved a_this_stream a_this_pad v_historyLong v_streamLong v_spot v_padLong v_padSpot' v_readNumber' g_all' g_pad) [0, 1, 2] [] (zw_43 cA 0 a_this a_this_all a_this_kept a_this_history a_this_slots a_this_isSaved a_this_stream a_this_pad v_historyLong v_streamLong v_spot v_padLong v_padSpot v_readNumber g_all g_pad) (zw_43 cA 0 a_this a_this_all a_this_kept a_this_history a_this_slots a_this_isSaved a_this_stream a_this_pad v_historyLong v_streamLong v_spot v_padLong v_padSpot' v_readNumber' g_all' g_pad) := ⟨rfl, (show (zw_43 cA 0 a_this a_this_all a_this_kept a_this_history a_this_slots a_this_isSaved a_this_stream a_this_pad v_historyLong v_streamLong v_spot v_padLong v_padSpot' v_readNumber' g_all' g_pad).map Prod.fst = ([a_this, a_this_all, a_this_pad] : List Nat) from rfl).trans (show (zw_43 cA 0 a_this a_this_all a_this_kept a_this_history a_this_slots a_this_isSaved a_this_stream a_this_pad v_historyLong v_streamLong v_spot v_padLong v_padSpot v_readNumber g_all g_pad).map Prod.fst = ([a_this, a_this_all, a_this_pad] : List Nat) from rfl).symm, by decide +kernel, (show (zw_43 cA n a_this a_this_all a_this_kept a_this_history a_this_slots a_this_isSaved a_this_stream a_this_pad v_historyLong v_streamLong v_spot v_padLong v_padSpot' v_readNumber' g_all' g_pad).map Prod.fst = ([a_this, a_this_all, a_this_pad] : List Nat) from rfl).trans (show (zw_43 cA n a_this a_this_all a_this_kept a_this_history a_this_slots a_this_isSaved a_this_stream a_this_pad v_historyLong v_streamLong v_spot v_padLong v_padSpot v_readNumber g_all g_pad).map Prod.fst = ([a_this, a_this_all, a_this_pad] : List Nat) from rfl).symm, rfl, rfl, by decide +kernel, rfl⟩
set_option maxHeartbeats 4000000 in
set_option maxRecDepth 100000 in
theorem m_X9_doesOrder (l : Launch) (D : va_G) (cA : ClassId) (a_this a_this_all a_this_kept a_this_history a_this_slots a_this_isSaved a_this_stream a_this_pad : Nat) (v_historyLong : Int32) (v_streamLong : Int32) (v_spot : Int32) (v_padLong : Int32) (v_padSpot : Int32) (v_readNumber : Int32) (g_all : Ar) (g_pad : Ar) (out : Int32 × Int32 × Int32 × Ar) (hF : F_X9_doesOrder v_padLong v_padSpot v_readNumber g_all g_pad = some out) : zM l D cA yX9_doesOrder cX9_doesOrder 2 (some .boolean) 5 109 [.ref a_this] (zw_43 cA 0 a_this a_this_all a_this_kept a_this_history a_this_slots a_this_isSaved a_this_stream a_this_pad v_historyLong v_streamLong v_spot v_padLong v_padSpot v_readNumber g_all g_pad) (zw_43 cA 0 a_this a_this_all a_this_kept a_this_history a_this_slots a_this_isSaved a_this_stream a_this_pad v_historyLong v_streamLong v_spot v_padLong out.2.1 out.2.2.1 out.2.2.2 g_pad) (some (.int out.1)) := by
  refine z_body (by decide) (Nat.le_of_ble_eq_true rfl) ?_
  intro p e s m args below meth c ls H locs A X hl hw
  have hl : lv_has ls 2 [(0, .ref a_this)] := hl
  unfold F_X9_doesOrder at hF
  refine z_aload_n 0 X dX9_doesOrder_0 hl 0 rfl ?_
  obtain ⟨u1, e2, hF⟩ := zbd hF
  refine z_callV 1 zc9 mv_X9_readsLetter ml_9_201 0 [] (zk_132 cA 0 a_this a_this_all a_this_kept a_this_history a_this_slots a_this_isSaved a_this_stream a_this_pad v_historyLong v_streamLong v_spot v_padLong v_padSpot v_readNumber g_all g_pad u1.2) (m_X9_readsLetter l D cA a_this a_this_all a_this_kept a_this_history a_this_slots a_this_isSaved a_this_stream a_this_pad v_historyLong v_streamLong v_spot v_padLong v_padSpot v_readNumber g_pad u1 e2) X dX9_doesOrder_1 hw hl rfl rfl rfl (Nat.le_of_ble_eq_true rfl) ⟨Nat.le_of_ble_eq_true rfl, Nat.le_of_ble_eq_true rfl⟩ ⟨Nat.zero_le _, Nat.zero_le _⟩ (fun H locs hw => ?_)
  refine z_istore_n 4 [(1, .int u1.1), (0, .ref a_this)] X dX9_doesOrder_4 hl (by decide) rfl (fun ls hl => ?_)
  refine z_aload_n 5 X dX9_doesOrder_5 hl 1 rfl ?_
  obtain ⟨u3, e4, hF⟩ := zbd hF
  refine z_callV 6 zc9 mv_X9_readsNumber ml_9_204 0 [] (zk_133 cA 0 a_this a_this_all a_this_kept a_this_history a_this_slots a_this_isSaved a_this_stream a_this_pad v_historyLong v_streamLong v_spot v_padLong u1.2 v_readNumber g_all g_pad u3.2.1 u3.2.2) (m_X9_readsNumber l D cA a_this a_this_all a_this_kept a_this_history a_this_slots a_this_isSaved a_this_stream a_this_pad v_historyLong v_streamLong v_spot v_padLong u1.2 v_readNumber g_pad u3 e4) X dX9_doesOrder_6 hw hl rfl rfl rfl (Nat.le_of_ble_eq_true rfl) ⟨Nat.le_of_ble_eq_true rfl, Nat.le_of_ble_eq_true rfl⟩ ⟨Nat.zero_le _, Nat.zero_le _⟩ (fun H locs hw => ?_)
  refine z_if_ne 9 14 X dX9_doesOrder_9 (by decide) (fun c5 => ?_) (fun c5 => ?_)
  · replace hF := zneg c5 hF
    refine z_iload_n 14 X dX9_doesOrder_14 hl 0 rfl ?_
    refine z_bipush 15 43 X dX9_doesOrder_15 (by decide) ?_
    refine z_icmp_ne 17 27 X dX9_doesOrder_17 (by decide) (fun c6 => ?_) (fun c6 => ?_)
    · replace hF := zneg c6 hF
      refine z_iload_n 27 X dX9_doesOrder_27 hl 0 rfl ?_
      refine z_bipush 28 45 X dX9_doesOrder_28 (by decide) ?_
      refine z_icmp_ne 30 52 X dX9_doesOrder_30 (by decide) (fun c7 => ?_) (fun c7 => ?_)
      · replace hF := zneg c7 hF
        refine z_aload_n 52 X dX9_doesOrder_52 hl 1 rfl ?_
        refine z_iload_n 53 X dX9_doesOrder_53 hl 0 rfl ?_
        refine z_bipush 54 98 X dX9_doesOrder_54 (by decide) ?_
        refine z_icmp_ne 56 63 X dX9_doesOrder_56 (by decide) (fun c8 => ?_) (fun c8 => ?_)
        · replace hF := zneg c8 hF
          refine z_iconst 63 1 X dX9_doesOrder_63 (by decide) ?_
          refine z_aload_n 64 X dX9_doesOrder_64 hl 1 rfl ?_
          refine z_get 65 zc9 0 12 fl_9_197 X dX9_doesOrder_65 hw rfl (by decide) rfl ?_
          obtain ⟨u9, e10, hF⟩ := zbd hF
          refine z_callV 68 zc9 mv_X9_doSet ml_9_123 0 [] (zk_131 cA 0 a_this a_this_all a_this_kept a_this_history a_this_slots a_this_isSaved a_this_stream a_this_pad v_historyLong v_streamLong v_spot v_padLong u3.2.1 u3.2.2 g_all g_pad u9.2) (m_X9_doSet l D cA a_this a_this_all a_this_kept a_this_history a_this_slots a_this_isSaved a_this_stream a_this_pad v_historyLong v_streamLong v_spot v_padLong u3.2.1 u3.2.2 g_all 1 u3.2.2 u9 e10) X dX9_doesOrder_68 hw hl rfl rfl rfl (Nat.le_of_ble_eq_true rfl) ⟨Nat.le_of_ble_eq_true rfl, Nat.le_of_ble_eq_true rfl⟩ ⟨Nat.zero_le _, Nat.zero_le _⟩ (fun H locs hw => ?_)
          refine z_if_lt 71 78 X dX9_doesOrder_71 (by decide) (fun c11 => ?_) (fun c11 => ?_)
          · replace hF := zpos c11 hF
            refine z_iconst 78 0 X dX9_doesOrder_78 (by decide) ?_
            cases hF
            exact z_zret 79 X dX9_doesOrder_79 hw (by decide) rfl rfl
          · replace hF := zneg c11 hF
            refine z_iconst 74 1 X dX9_doesOrder_74 (by decide) ?_
            refine z_goto 75 79 X dX9_doesOrder_75 (by decide) ?_
            cases hF
            exact z_zret 79 X dX9_doesOrder_79 hw (by decide) rfl rfl
        · replace hF := zpos c8 hF
          refine z_iconst 59 0 X dX9_doesOrder_59 (by decide) ?_
          refine z_goto 60 64 X dX9_doesOrder_60 (by decide) ?_
          refine z_aload_n 64 X dX9_doesOrder_64 hl 1 rfl ?_
          refine z_get 65 zc9 0 12 fl_9_197 X dX9_doesOrder_65 hw rfl (by decide) rfl ?_
          obtain ⟨u12, e13, hF⟩ := zbd hF
          refine z_callV 68 zc9 mv_X9_doSet ml_9_123 0 [] (zk_131 cA 0 a_this a_this_all a_this_kept a_this_history a_this_slots a_this_isSaved a_this_stream a_this_pad v_historyLong v_streamLong v_spot v_padLong u3.2.1 u3.2.2 g_all g_pad u12.2) (m_X9_doSet l D cA a_this a_this_all a_this_kept a_this_history a_this_slots a_this_isSaved a_this_stream a_this_pad v_historyLong v_streamLong v_spot v_padLong u3.2.1 u3.2.2 g_all 0 u3.2.2 u12 e13) X dX9_doesOrder_68 hw hl rfl rfl rfl (Nat.le_of_ble_eq_true rfl) ⟨Nat.le_of_ble_eq_true rfl, Nat.le_of_ble_eq_true rfl⟩ ⟨Nat.zero_le _, Nat.zero_le _⟩ (fun H locs hw => ?_)
          refine z_if_lt 71 78 X dX9_doesOrder_71 (by decide) (fun c14 => ?_) (fun c14 => ?_)
          · replace hF := zpos c14 hF
            refine z_iconst 78 0 X dX9_doesOrder_78 (by decide) ?_
            cases hF
            exact z_zret 79 X dX9_doesOrder_79 hw (by decide) rfl rfl
          · replace hF := zneg c14 hF
            refine z_iconst 74 1 X dX9_doesOrder_74 (by decide) ?_
            refine z_goto 75 79 X dX9_doesOrder_75 (by decide) ?_
            cases hF
            exact z_zret 79 X dX9_doesOrder_79 hw (by decide) rfl rfl
      · replace hF := zpos c7 hF
        refine z_aload_n 33 X dX9_doesOrder_33 hl 1 rfl ?_
        refine z_aload_n 34 X dX9_doesOrder_34 hl 1 rfl ?_
        refine z_get 35 zc9 0 12 fl_9_197 X dX9_doesOrder_35 hw rfl (by decide) rfl ?_
        obtain ⟨u15, e16, hF⟩ := zbd hF
        refine z_callV 38 zc9 mv_X9_doTakeOut ml_9_132 0 [] (zk_131 cA 0 a_this a_this_all a_this_kept a_this_history a_this_slots a_this_isSaved a_this_stream a_this_pad v_historyLong v_streamLong v_spot v_padLong u3.2.1 u3.2.2 g_all g_pad u15.2) (m_X9_doTakeOut l D cA a_this a_this_all a_this_kept a_this_history a_this_slots a_this_isSaved a_this_stream a_this_pad v_historyLong v_streamLong v_spot v_padLong u3.2.1 u3.2.2 g_all u3.2.2 u15 e16) X dX9_doesOrder_38 hw hl rfl rfl rfl (Nat.le_of_ble_eq_true rfl) ⟨Nat.le_of_ble_eq_true rfl, Nat.le_of_ble_eq_true rfl⟩ ⟨Nat.zero_le _, Nat.zero_le _⟩ (fun H locs hw => ?_)
        refine z_if_lt 41 48 X dX9_doesOrder_41 (by decide) (fun c17 => ?_) (fun c17 => ?_)
        · replace hF := zpos c17 hF
          refine z_iconst 48 0 X dX9_doesOrder_48 (by decide) ?_
          refine z_goto 49 79 X dX9_doesOrder_49 (by decide) ?_
          cases hF
          exact z_zret 79 X dX9_doesOrder_79 hw (by decide) rfl rfl
        · replace hF := zneg c17 hF
          refine z_iconst 44 1 X dX9_doesOrder_44 (by decide) ?_
          refine z_goto 45 79 X dX9_doesOrder_45 (by decide) ?_
          cases hF
          exact z_zret 79 X dX9_doesOrder_79 hw (by decide) rfl rfl
    · replace hF := zpos c6 hF
      refine z_aload_n 20 X dX9_doesOrder_20 hl 1 rfl ?_
      obtain ⟨u18, e19, hF⟩ := zbd hF
      refine z_callV 21 zc9 mv_X9_putsAll ml_9_211 0 [] (zk_134 cA 0 a_this a_this_all a_this_kept a_this_history a_this_slots a_this_isSaved a_this_stream a_this_pad v_historyLong v_streamLong v_spot v_padLong u3.2.1 u3.2.2 g_all g_pad u18.2.1 u18.2.2.1 u18.2.2.2) (m_X9_putsAll l D cA a_this a_this_all a_this_kept a_this_history a_this_slots a_this_isSaved a_this_stream a_this_pad v_historyLong v_streamLong v_spot v_padLong u3.2.1 u3.2.2 g_all g_pad u18 e19) X dX9_doesOrder_21 hw hl rfl rfl rfl (Nat.le_of_ble_eq_true rfl) ⟨Nat.le_of_ble_eq_true rfl, Nat.le_of_ble_eq_true rfl⟩ ⟨Nat.zero_le _, Nat.zero_le _⟩ (fun H locs hw => ?_)
      refine z_goto 24 79 X dX9_doesOrder_24 (by decide) ?_
      obtain ⟨gz, hF⟩ := zgd hF
      cases hF
      exact z_zret 79 X dX9_doesOrder_79 hw gz rfl rfl
  · replace hF := zpos c5 hF
    refine z_iconst 12 0 X dX9_doesOrder_12 (by decide) ?_
    cases hF
    exact z_zret 13 X dX9_doesOrder_13 hw (by decide) rfl rfl
theorem dX9_carryOut_0 : decode cX9_carryOut 0 = .ok (.aload_n 0, 1) := by decide +kernel
theorem dX9_carryOut_1 : decode cX9_carryOut 1 = .ok (.invokevirtual 214, 3) := by decide +kernel
theorem dX9_carryOut_4 : decode cX9_carryOut 4 = .ok (.bipush (-6), 2) := by decide +kernel
theorem dX9_carryOut_6 : decode cX9_carryOut 6 = .ok (.if_icmp .eq 6, 3) := by decide +kernel
theorem dX9_carryOut_9 : decode cX9_carryOut 9 = .ok (.bipush (-3), 2) := by decide +kernel
theorem dX9_carryOut_11 : decode cX9_carryOut 11 = .ok (.ireturn, 1) := by decide +kernel
theorem dX9_carryOut_12 : decode cX9_carryOut 12 = .ok (.aload_n 0, 1) := by decide +kernel
theorem dX9_carryOut_13 : decode cX9_carryOut 13 = .ok (.invokevirtual 120, 3) := by decide +kernel
theorem dX9_carryOut_16 : decode cX9_carryOut 16 = .ok (.aload_n 0, 1) := by decide +kernel
theorem dX9_carryOut_17 : decode cX9_carryOut 17 = .ok (.iconst 0, 1) := by decide +kernel
theorem dX9_carryOut_18 : decode cX9_carryOut 18 = .ok (.putfield 191, 3) := by decide +kernel
theorem dX9_carryOut_21 : decode cX9_carryOut 21 = .ok (.iconst 0, 1) := by decide +kernel
theorem dX9_carryOut_22 : decode cX9_carryOut 22 = .ok (.istore_n 1, 1) := by decide +kernel
theorem dX9_carryOut_23 : decode cX9_carryOut 23 = .ok (.iconst 1, 1) := by decide +kernel
theorem dX9_carryOut_24 : decode cX9_carryOut 24 = .ok (.istore_n 2, 1) := by decide +kernel
theorem dX9_carryOut_25 : decode cX9_carryOut 25 = .ok (.iload_n 2, 1) := by decide +kernel
theorem dX9_carryOut_26 : decode cX9_carryOut 26 = .ok (.ifCond .eq 23, 3) := by decide +kernel
theorem dX9_carryOut_29 : decode cX9_carryOut 29 = .ok (.aload_n 0, 1) := by decide +kernel
theorem dX9_carryOut_30 : decode cX9_carryOut 30 = .ok (.invokevirtual 217, 3) := by decide +kernel
theorem dX9_carryOut_33 : decode cX9_carryOut 33 = .ok (.ifCond .eq 16, 3) := by decide +kernel
theorem dX9_carryOut_36 : decode cX9_carryOut 36 = .ok (.iinc 1 1, 3) := by decide +kernel
theorem dX9_carryOut_39 : decode cX9_carryOut 39 = .ok (.aload_n 0, 1) := by decide +kernel
theorem dX9_carryOut_40 : decode cX9_carryOut 40 = .ok (.bipush 59, 2) := by decide +kernel
theorem dX9_carryOut_42 : decode cX9_carryOut 42 = .ok (.invokevirtual 208, 3) := by decide +kernel
theorem dX9_carryOut_45 : decode cX9_carryOut 45 = .ok (.istore_n 2, 1) := by decide +kernel
theorem dX9_carryOut_46 : decode cX9_carryOut 46 = .ok (.goto (-21), 3) := by decide +kernel
theorem dX9_carryOut_49 : decode cX9_carryOut 49 = .ok (.aload_n 0, 1) := by decide +kernel
theorem dX9_carryOut_50 : decode cX9_carryOut 50 = .ok (.iconst 0, 1) := by decide +kernel
theorem dX9_carryOut_51 : decode cX9_carryOut 51 = .ok (.putfield 166, 3) := by decide +kernel
theorem dX9_carryOut_54 : decode cX9_carryOut 54 = .ok (.aload_n 0, 1) := by decide +kernel
theorem dX9_carryOut_55 : decode cX9_carryOut 55 = .ok (.iload_n 1, 1) := by decide +kernel
theorem dX9_carryOut_56 : decode cX9_carryOut 56 = .ok (.invokevirtual 126, 3) := by decide +kernel
theorem dX9_carryOut_59 : decode cX9_carryOut 59 = .ok (.ireturn, 1) := by decide +kernel
set_option maxHeartbeats 4000000 in
set_option maxRecDepth 100000 in
theorem zk_135 (cA : ClassId) (n : Nat) (a_this a_this_all a_this_kept a_this_history a_this_slots a_this_isSaved a_this_stream a_this_pad : Nat) (v_historyLong : Int32) (v_streamLong : Int32) (v_spot : Int32) (v_padLong : Int32) (v_padSpot : Int32) (v_readNumber : Int32) (g_all : Ar) (g_history : Ar) (g_kept : Ar) (g_pad : Ar) (v_padSpot' : Int32) (v_readNumber' : Int32) : zCW (zw_44 cA n a_this a_this_all a_this_kept a_this_history a_this_slots a_this_isSaved a_this_stream a_this_pad v_historyLong v_streamLong v_spot v_padLong v_padSpot v_readNumber g_all g_history g_kept g_pad) (zw_44 cA n a_this a_this_all a_this_kept a_this_history a_this_slots a_this_isSaved a_this_stream a_this_pad v_historyLong v_streamLong v_spot v_padLong v_padSpot' v_readNumber' g_all g_history g_kept g_pad) [0, 4] [1, 2, 3] (zw_41 cA 0 a_this a_this_all a_this_kept a_this_history a_this_slots a_this_isSaved a_this_stream a_this_pad v_historyLong v_streamLong v_spot v_padLong v_padSpot v_readNumber g_pad) (zw_41 cA 0 a_this a_this_all a_this_kept a_this_history a_this_slots a_this_isSaved a_this_stream a_this_pad v_historyLong v_streamLong v_spot v_padLong v_padSpot' v_readNumber' g_pad) := ⟨rfl, (show (zw_41 cA 0 a_this a_this_all a_this_kept a_this_history a_this_slots a_this_isSaved a_this_stream a_this_pad v_historyLong v_streamLong v_spot v_padLong v_padSpot' v_readNumber' g_pad).map Prod.fst = ([a_this, a_this_pad] : List Nat) from rfl).trans (show (zw_41 cA 0 a_this a_this_all a_this_kept a_this_history a_this_slots a_this_isSaved a_this_stream a_this_pad v_historyLong v_streamLong v_spot v_padLong v_padSpot v_readNumber g_pad).map Prod.fst = ([a_this, a_this_pad] : List Nat) from rfl).symm, by decide +kernel, (show (zw_44 cA n a_this a_this_all a_this_kept a_this_history a_this_slots a_this_isSaved a_this_stream a_this_pad v_historyLong v_streamLong v_spot v_padLong v_padSpot' v_readNumber' g_all g_history g_kept g_pad).map Prod.fst = ([a_this, a_this_all, a_this_history, a_this_kept, a_this_pad] : List Nat) from rfl).trans (show (zw_44 cA n a_this a_this_all a_this_kept a_this_history a_this_slots a_this_isSaved a_this_stream a_this_pad v_historyLong v_streamLong v_spot v_padLong v_padSpot v_readNumber g_all g_history g_kept g_pad).map Prod.fst = ([a_this, a_this_all, a_this_history, a_this_kept, a_this_pad] : List Nat) from rfl).symm, rfl, (show ([1, 2, 3] : List Nat).map (fun i => (zw_44 cA n a_this a_this_all a_this_kept a_this_history a_this_slots a_this_isSaved a_this_stream a_this_pad v_historyLong v_streamLong v_spot v_padLong v_padSpot' v_readNumber' g_all g_history g_kept g_pad)[i]?) = ([(a_this_all, .inl (cA, 67, .inl g_all)), (a_this_history, .inl (cA, 402, .inl g_history)), (a_this_kept, .inl (cA, 67, .inl g_kept))] : va_W).map some from rfl).trans (show ([1, 2, 3] : List Nat).map (fun i => (zw_44 cA n a_this a_this_all a_this_kept a_this_history a_this_slots a_this_isSaved a_this_stream a_this_pad v_historyLong v_streamLong v_spot v_padLong v_padSpot v_readNumber g_all g_history g_kept g_pad)[i]?) = ([(a_this_all, .inl (cA, 67, .inl g_all)), (a_this_history, .inl (cA, 402, .inl g_history)), (a_this_kept, .inl (cA, 67, .inl g_kept))] : va_W).map some from rfl).symm, by decide +kernel, rfl⟩
set_option maxHeartbeats 4000000 in
set_option maxRecDepth 100000 in
theorem zk_136 (cA : ClassId) (n : Nat) (a_this a_this_all a_this_kept a_this_history a_this_slots a_this_isSaved a_this_stream a_this_pad : Nat) (v_historyLong : Int32) (v_streamLong : Int32) (v_spot : Int32) (v_padLong : Int32) (v_padSpot : Int32) (v_readNumber : Int32) (g_all : Ar) (g_history : Ar) (g_kept : Ar) (g_pad : Ar) (g_kept' : Ar) : zCW (zw_44 cA n a_this a_this_all a_this_kept a_this_history a_this_slots a_this_isSaved a_this_stream a_this_pad v_historyLong v_streamLong v_spot v_padLong v_padSpot v_readNumber g_all g_history g_kept g_pad) (zw_44 cA n a_this a_this_all a_this_kept a_this_history a_this_slots a_this_isSaved a_this_stream a_this_pad v_historyLong v_streamLong v_spot v_padLong v_padSpot v_readNumber g_all g_history g_kept' g_pad) [0, 1, 3] [2, 4] (zw_35 cA 0 a_this a_this_all a_this_kept a_this_history a_this_slots a_this_isSaved a_this_stream a_this_pad v_historyLong v_streamLong v_spot v_padLong v_padSpot v_readNumber g_all g_kept) (zw_35 cA 0 a_this a_this_all a_this_kept a_this_history a_this_slots a_this_isSaved a_this_stream a_this_pad v_historyLong v_streamLong v_spot v_padLong v_padSpot v_readNumber g_all g_kept') := ⟨rfl, (show (zw_35 cA 0 a_this a_this_all a_this_kept a_this_history a_this_slots a_this_isSaved a_this_stream a_this_pad v_historyLong v_streamLong v_spot v_padLong v_padSpot v_readNumber g_all g_kept').map Prod.fst = ([a_this, a_this_all, a_this_kept] : List Nat) from rfl).trans (show (zw_35 cA 0 a_this a_this_all a_this_kept a_this_history a_this_slots a_this_isSaved a_this_stream a_this_pad v_historyLong v_streamLong v_spot v_padLong v_padSpot v_readNumber g_all g_kept).map Prod.fst = ([a_this, a_this_all, a_this_kept] : List Nat) from rfl).symm, by decide +kernel, (show (zw_44 cA n a_this a_this_all a_this_kept a_this_history a_this_slots a_this_isSaved a_this_stream a_this_pad v_historyLong v_streamLong v_spot v_padLong v_padSpot v_readNumber g_all g_history g_kept' g_pad).map Prod.fst = ([a_this, a_this_all, a_this_history, a_this_kept, a_this_pad] : List Nat) from rfl).trans (show (zw_44 cA n a_this a_this_all a_this_kept a_this_history a_this_slots a_this_isSaved a_this_stream a_this_pad v_historyLong v_streamLong v_spot v_padLong v_padSpot v_readNumber g_all g_history g_kept g_pad).map Prod.fst = ([a_this, a_this_all, a_this_history, a_this_kept, a_this_pad] : List Nat) from rfl).symm, rfl, (show ([2, 4] : List Nat).map (fun i => (zw_44 cA n a_this a_this_all a_this_kept a_this_history a_this_slots a_this_isSaved a_this_stream a_this_pad v_historyLong v_streamLong v_spot v_padLong v_padSpot v_readNumber g_all g_history g_kept' g_pad)[i]?) = ([(a_this_history, .inl (cA, 402, .inl g_history)), (a_this_pad, .inl (cA, 80, .inl g_pad))] : va_W).map some from rfl).trans (show ([2, 4] : List Nat).map (fun i => (zw_44 cA n a_this a_this_all a_this_kept a_this_history a_this_slots a_this_isSaved a_this_stream a_this_pad v_historyLong v_streamLong v_spot v_padLong v_padSpot v_readNumber g_all g_history g_kept g_pad)[i]?) = ([(a_this_history, .inl (cA, 402, .inl g_history)), (a_this_pad, .inl (cA, 80, .inl g_pad))] : va_W).map some from rfl).symm, by decide +kernel, rfl⟩
set_option maxHeartbeats 4000000 in
set_option maxRecDepth 100000 in
theorem zk_137 (cA : ClassId) (n : Nat) (a_this a_this_all a_this_kept a_this_history a_this_slots a_this_isSaved a_this_stream a_this_pad : Nat) (v_historyLong : Int32) (v_streamLong : Int32) (v_spot : Int32) (v_padLong : Int32) (v_padSpot : Int32) (v_readNumber : Int32) (g_all : Ar) (g_history : Ar) (g_kept : Ar) (g_pad : Ar) (v_padSpot' : Int32) (v_readNumber' : Int32) (g_all' : Ar) : zCW (zw_44 cA n a_this a_this_all a_this_kept a_this_history a_this_slots a_this_isSaved a_this_stream a_this_pad v_historyLong v_streamLong v_spot v_padLong v_padSpot v_readNumber g_all g_history g_kept g_pad) (zw_44 cA n a_this a_this_all a_this_kept a_this_history a_this_slots a_this_isSaved a_this_stream a_this_pad v_historyLong v_streamLong v_spot v_padLong v_padSpot' v_readNumber' g_all' g_history g_kept g_pad) [0, 1, 4] [2, 3] (zw_43 cA 0 a_this a_this_all a_this_kept a_this_history a_this_slots a_this_isSaved a_this_stream a_this_pad v_historyLong v_streamLong v_spot v_padLong v_padSpot v_readNumber g_all g_pad) (zw_43 cA 0 a_this a_this_all a_this_kept a_this_history a_this_slots a_this_isSaved a_this_stream a_this_pad v_historyLong v_streamLong v_spot v_padLong v_padSpot' v_readNumber' g_all' g_pad) := ⟨rfl, (show (zw_43 cA 0 a_this a_this_all a_this_kept a_this_history a_this_slots a_this_isSaved a_this_stream a_this_pad v_historyLong v_streamLong v_spot v_padLong v_padSpot' v_readNumber' g_all' g_pad).map Prod.fst = ([a_this, a_this_all, a_this_pad] : List Nat) from rfl).trans (show (zw_43 cA 0 a_this a_this_all a_this_kept a_this_history a_this_slots a_this_isSaved a_this_stream a_this_pad v_historyLong v_streamLong v_spot v_padLong v_padSpot v_readNumber g_all g_pad).map Prod.fst = ([a_this, a_this_all, a_this_pad] : List Nat) from rfl).symm, by decide +kernel, (show (zw_44 cA n a_this a_this_all a_this_kept a_this_history a_this_slots a_this_isSaved a_this_stream a_this_pad v_historyLong v_streamLong v_spot v_padLong v_padSpot' v_readNumber' g_all' g_history g_kept g_pad).map Prod.fst = ([a_this, a_this_all, a_this_history, a_this_kept, a_this_pad] : List Nat) from rfl).trans (show (zw_44 cA n a_this a_this_all a_this_kept a_this_history a_this_slots a_this_isSaved a_this_stream a_this_pad v_historyLong v_streamLong v_spot v_padLong v_padSpot v_readNumber g_all g_history g_kept g_pad).map Prod.fst = ([a_this, a_this_all, a_this_history, a_this_kept, a_this_pad] : List Nat) from rfl).symm, rfl, (show ([2, 3] : List Nat).map (fun i => (zw_44 cA n a_this a_this_all a_this_kept a_this_history a_this_slots a_this_isSaved a_this_stream a_this_pad v_historyLong v_streamLong v_spot v_padLong v_padSpot' v_readNumber' g_all' g_history g_kept g_pad)[i]?) = ([(a_this_history, .inl (cA, 402, .inl g_history)), (a_this_kept, .inl (cA, 67, .inl g_kept))] : va_W).map some from rfl).trans (show ([2, 3] : List Nat).map (fun i => (zw_44 cA n a_this a_this_all a_this_kept a_this_history a_this_slots a_this_isSaved a_this_stream a_this_pad v_historyLong v_streamLong v_spot v_padLong v_padSpot v_readNumber g_all g_history g_kept g_pad)[i]?) = ([(a_this_history, .inl (cA, 402, .inl g_history)), (a_this_kept, .inl (cA, 67, .inl g_kept))] : va_W).map some from rfl).symm, by decide +kernel, rfl⟩
set_option maxHeartbeats 4000000 in
set_option maxRecDepth 100000 in
theorem zk_138 (cA : ClassId) (n : Nat) (a_this a_this_all a_this_kept a_this_history a_this_slots a_this_isSaved a_this_stream a_this_pad : Nat) (v_historyLong : Int32) (v_streamLong : Int32) (v_spot : Int32) (v_padLong : Int32) (v_padSpot : Int32) (v_readNumber : Int32) (g_all : Ar) (g_history : Ar) (g_kept : Ar) (g_pad : Ar) (v_padSpot' : Int32) : zCW (zw_44 cA n a_this a_this_all a_this_kept a_this_history a_this_slots a_this_isSaved a_this_stream a_this_pad v_historyLong v_streamLong v_spot v_padLong v_padSpot v_readNumber g_all g_history g_kept g_pad) (zw_44 cA n a_this a_this_all a_this_kept a_this_history a_this_slots a_this_isSaved a_this_stream a_this_pad v_historyLong v_streamLong v_spot v_padLong v_padSpot' v_readNumber g_all g_history g_kept g_pad) [0, 4] [1, 2, 3] (zw_41 cA 0 a_this a_this_all a_this_kept a_this_history a_this_slots a_this_isSaved a_this_stream a_this_pad v_historyLong v_streamLong v_spot v_padLong v_padSpot v_readNumber g_pad) (zw_41 cA 0 a_this a_this_all a_this_kept a_this_history a_this_slots a_this_isSaved a_this_stream a_this_pad v_historyLong v_streamLong v_spot v_padLong v_padSpot' v_readNumber g_pad) := ⟨rfl, (show (zw_41 cA 0 a_this a_this_all a_this_kept a_this_history a_this_slots a_this_isSaved a_this_stream a_this_pad v_historyLong v_streamLong v_spot v_padLong v_padSpot' v_readNumber g_pad).map Prod.fst = ([a_this, a_this_pad] : List Nat) from rfl).trans (show (zw_41 cA 0 a_this a_this_all a_this_kept a_this_history a_this_slots a_this_isSaved a_this_stream a_this_pad v_historyLong v_streamLong v_spot v_padLong v_padSpot v_readNumber g_pad).map Prod.fst = ([a_this, a_this_pad] : List Nat) from rfl).symm, by decide +kernel, (show (zw_44 cA n a_this a_this_all a_this_kept a_this_history a_this_slots a_this_isSaved a_this_stream a_this_pad v_historyLong v_streamLong v_spot v_padLong v_padSpot' v_readNumber g_all g_history g_kept g_pad).map Prod.fst = ([a_this, a_this_all, a_this_history, a_this_kept, a_this_pad] : List Nat) from rfl).trans (show (zw_44 cA n a_this a_this_all a_this_kept a_this_history a_this_slots a_this_isSaved a_this_stream a_this_pad v_historyLong v_streamLong v_spot v_padLong v_padSpot v_readNumber g_all g_history g_kept g_pad).map Prod.fst = ([a_this, a_this_all, a_this_history, a_this_kept, a_this_pad] : List Nat) from rfl).symm, rfl, (show ([1, 2, 3] : List Nat).map (fun i => (zw_44 cA n a_this a_this_all a_this_kept a_this_history a_this_slots a_this_isSaved a_this_stream a_this_pad v_historyLong v_streamLong v_spot v_padLong v_padSpot' v_readNumber g_all g_history g_kept g_pad)[i]?) = ([(a_this_all, .inl (cA, 67, .inl g_all)), (a_this_history, .inl (cA, 402, .inl g_history)), (a_this_kept, .inl (cA, 67, .inl g_kept))] : va_W).map some from rfl).trans (show ([1, 2, 3] : List Nat).map (fun i => (zw_44 cA n a_this a_this_all a_this_kept a_this_history a_this_slots a_this_isSaved a_this_stream a_this_pad v_historyLong v_streamLong v_spot v_padLong v_padSpot v_readNumber g_all g_history g_kept g_pad)[i]?) = ([(a_this_all, .inl (cA, 67, .inl g_all)), (a_this_history, .inl (cA, 402, .inl g_history)), (a_this_kept, .inl (cA, 67, .inl g_kept))] : va_W).map some from rfl).symm, by decide +kernel, rfl⟩
set_option maxHeartbeats 4000000 in
set_option maxRecDepth 100000 in
theorem zk_139 (cA : ClassId) (n : Nat) (a_this a_this_all a_this_kept a_this_history a_this_slots a_this_isSaved a_this_stream a_this_pad : Nat) (v_historyLong : Int32) (v_streamLong : Int32) (v_spot : Int32) (v_padLong : Int32) (v_padSpot : Int32) (v_readNumber : Int32) (g_all : Ar) (g_history : Ar) (g_kept : Ar) (g_pad : Ar) (v_historyLong' : Int32) (g_history' : Ar) : zCW (zw_44 cA n a_this a_this_all a_this_kept a_this_history a_this_slots a_this_isSaved a_this_stream a_this_pad v_historyLong v_streamLong v_spot v_padLong v_padSpot v_readNumber g_all g_history g_kept g_pad) (zw_44 cA n a_this a_this_all a_this_kept a_this_history a_this_slots a_this_isSaved a_this_stream a_this_pad v_historyLong' v_streamLong v_spot v_padLong v_padSpot v_readNumber g_all g_history' g_kept g_pad) [0, 2, 3] [1, 4] (zw_37 cA 0 a_this a_this_all a_this_kept a_this_history a_this_slots a_this_isSaved a_this_stream a_this_pad v_historyLong v_streamLong v_spot v_padLong v_padSpot v_readNumber g_history g_kept) (zw_37 cA 0 a_this a_this_all a_this_kept a_this_history a_this_slots a_this_isSaved a_this_stream a_this_pad v_historyLong' v_streamLong v_spot v_padLong v_padSpot v_readNumber g_history' g_kept) := ⟨rfl, (show (zw_37 cA 0 a_this a_this_all a_this_kept a_this_history a_this_slots a_this_isSaved a_this_stream a_this_pad v_historyLong' v_streamLong v_spot v_padLong v_padSpot v_readNumber g_history' g_kept).map Prod.fst = ([a_this, a_this_history, a_this_kept] : List Nat) from rfl).trans (show (zw_37 cA 0 a_this a_this_all a_this_kept a_this_history a_this_slots a_this_isSaved a_this_stream a_this_pad v_historyLong v_streamLong v_spot v_padLong v_padSpot v_readNumber g_history g_kept).map Prod.fst = ([a_this, a_this_history, a_this_kept] : List Nat) from rfl).symm, by decide +kernel, (show (zw_44 cA n a_this a_this_all a_this_kept a_this_history a_this_slots a_this_isSaved a_this_stream a_this_pad v_historyLong' v_streamLong v_spot v_padLong v_padSpot v_readNumber g_all g_history' g_kept g_pad).map Prod.fst = ([a_this, a_this_all, a_this_history, a_this_kept, a_this_pad] : List Nat) from rfl).trans (show (zw_44 cA n a_this a_this_all a_this_kept a_this_history a_this_slots a_this_isSaved a_this_stream a_this_pad v_historyLong v_streamLong v_spot v_padLong v_padSpot v_readNumber g_all g_history g_kept g_pad).map Prod.fst = ([a_this, a_this_all, a_this_history, a_this_kept, a_this_pad] : List Nat) from rfl).symm, rfl, (show ([1, 4] : List Nat).map (fun i => (zw_44 cA n a_this a_this_all a_this_kept a_this_history a_this_slots a_this_isSaved a_this_stream a_this_pad v_historyLong' v_streamLong v_spot v_padLong v_padSpot v_readNumber g_all g_history' g_kept g_pad)[i]?) = ([(a_this_all, .inl (cA, 67, .inl g_all)), (a_this_pad, .inl (cA, 80, .inl g_pad))] : va_W).map some from rfl).trans (show ([1, 4] : List Nat).map (fun i => (zw_44 cA n a_this a_this_all a_this_kept a_this_history a_this_slots a_this_isSaved a_this_stream a_this_pad v_historyLong v_streamLong v_spot v_padLong v_padSpot v_readNumber g_all g_history g_kept g_pad)[i]?) = ([(a_this_all, .inl (cA, 67, .inl g_all)), (a_this_pad, .inl (cA, 80, .inl g_pad))] : va_W).map some from rfl).symm, by decide +kernel, rfl⟩
set_option maxHeartbeats 4000000 in
set_option maxRecDepth 100000 in
theorem l_X9_carryOut_25 (l : Launch) (D : va_G) (cA : ClassId) (a_this a_this_all a_this_kept a_this_history a_this_slots a_this_isSaved a_this_stream a_this_pad : Nat) (v_historyLong : Int32) (v_streamLong : Int32) (v_spot : Int32) (v_padLong : Int32) (g_history : Ar) (g_kept : Ar) (g_pad : Ar) (out : Int32 × Int32 × Int32 × Int32 × Int32 × Ar × Ar × Ar) {p : Program} {e : Env} {s : State} {m : MethodId} {args : Array Value} {below : List Frame} {meth : Method} {c : Code} {A : Nat → Prop} (X : zX D cA p s m args meth c cX9_carryOut 3 RX9 (some .int)) (k : Int32 → Int32 → Ar → Int32 → Option (Int32 × Int32 × Int32 × Int32 × Int32 × Ar × Ar × Ar)) (hk : ∀ (v_padSpot : Int32) (v_readNumber : Int32) (g_all : Ar) (i1 : Int32) (H : Heap) (locs : List Loc) (ls : Array Slot), zH D A s (zw_44 cA 0 a_this a_this_all a_this_kept a_this_history a_this_slots a_this_isSaved a_this_stream a_this_pad v_historyLong v_streamLong v_spot v_padLong v_padSpot v_readNumber g_all g_history g_kept g_pad) H locs → lv_has ls 3 [(0, .ref a_this), (1, .int i1)] → k v_padSpot v_readNumber g_all i1 = some out → W p l e (zR 6 130) s m args below meth c H locs 0 0 (MQ below (zQ D (zw_44 cA 0 a_this a_this_all a_this_kept a_this_history a_this_slots a_this_isSaved a_this_stream a_this_pad out.2.1 v_streamLong v_spot out.2.2.1 out.2.2.2.1 out.2.2.2.2.1 out.2.2.2.2.2.1 out.2.2.2.2.2.2.1 out.2.2.2.2.2.2.2 g_pad) (some (.int out.1)) A) args s 0 0 A) (F0 m 49 ls [])) :
    ∀ (fuel : Nat) (v_padSpot : Int32) (v_readNumber : Int32) (g_all : Ar) (i1 : Int32) (i2 : Int32) (H : Heap) (locs : List Loc) (ls : Array Slot), zH D A s (zw_44 cA 0 a_this a_this_all a_this_kept a_this_history a_this_slots a_this_isSaved a_this_stream a_this_pad v_historyLong v_streamLong v_spot v_padLong v_padSpot v_readNumber g_all g_history g_kept g_pad) H locs → lv_has ls 3 [(0, .ref a_this), (1, .int i1), (2, .int i2)] → F_X9_carryOut_L25 v_padLong g_pad k fuel v_padSpot v_readNumber g_all i1 i2 = some out → W p l e (zR 6 130) s m args below meth c H locs 0 0 (MQ below (zQ D (zw_44 cA 0 a_this a_this_all a_this_kept a_this_history a_this_slots a_this_isSaved a_this_stream a_this_pad out.2.1 v_streamLong v_spot out.2.2.1 out.2.2.2.1 out.2.2.2.2.1 out.2.2.2.2.2.1 out.2.2.2.2.2.2.1 out.2.2.2.2.2.2.2 g_pad) (some (.int out.1)) A) args s 0 0 A) (F0 m 25 ls []) := by
  intro fuel
  induction fuel with
  | zero => intro v_padSpot v_readNumber g_all i1 i2 H locs ls hw hl hF; exact nomatch (show (none : Option (Int32 × Int32 × Int32 × Int32 × Int32 × Ar × Ar × Ar)) = some out from hF)
  | succ fuel ih =>
    intro v_padSpot v_readNumber g_all i1 i2 H locs ls hw hl hF
    rw [F_X9_carryOut_L25] at hF
    refine z_iload_n 25 X dX9_carryOut_25 hl 2 rfl ?_
    refine z_if_eq 26 49 X dX9_carryOut_26 (by decide) (fun c6 => ?_) (fun c6 => ?_)
    · replace hF := zpos c6 hF
      exact hk v_padSpot v_readNumber g_all i1 H locs ls hw (lv_sub hl [0, 1] rfl) hF
    · replace hF := zneg c6 hF
      refine z_aload_n 29 X dX9_carryOut_29 hl 0 rfl ?_
      obtain ⟨u7, e8, hF⟩ := zbd hF
      refine z_callV 30 zc9 mv_X9_doesOrder ml_9_217 0 [] (zk_137 cA 0 a_this a_this_all a_this_kept a_this_history a_this_slots a_this_isSaved a_this_stream a_this_pad v_historyLong v_streamLong v_spot v_padLong v_padSpot v_readNumber g_all g_history g_kept g_pad u7.2.1 u7.2.2.1 u7.2.2.2) (m_X9_doesOrder l D cA a_this a_this_all a_this_kept a_this_history a_this_slots a_this_isSaved a_this_stream a_this_pad v_historyLong v_streamLong v_spot v_padLong v_padSpot v_readNumber g_all g_pad u7 e8) X dX9_carryOut_30 hw hl rfl rfl rfl (Nat.le_of_ble_eq_true rfl) ⟨Nat.le_of_ble_eq_true rfl, Nat.le_of_ble_eq_true rfl⟩ ⟨Nat.zero_le _, Nat.zero_le _⟩ (fun H locs hw => ?_)
      refine z_if_eq 33 49 X dX9_carryOut_33 (by decide) (fun c9 => ?_) (fun c9 => ?_)
      · replace hF := zpos c9 hF
        exact hk u7.2.1 u7.2.2.1 u7.2.2.2 i1 H locs ls hw (lv_sub hl [0, 1] rfl) hF
      · replace hF := zneg c9 hF
        refine z_iinc2 36 1 [(1, .int (i1 + 1)), (0, .ref a_this), (2, .int i2)] X dX9_carryOut_36 hl 1 rfl (by decide) (by decide) rfl (fun ls hl => ?_)
        refine z_aload_n 39 X dX9_carryOut_39 hl 1 rfl ?_
        refine z_bipush 40 59 X dX9_carryOut_40 (by decide) ?_
        obtain ⟨u10, e11, hF⟩ := zbd hF
        refine z_callV 42 zc9 mv_X9_takes ml_9_208 0 [] (zk_138 cA 0 a_this a_this_all a_this_kept a_this_history a_this_slots a_this_isSaved a_this_stream a_this_pad v_historyLong v_streamLong v_spot v_padLong u7.2.1 u7.2.2.1 u7.2.2.2 g_history g_kept g_pad u10.2) (m_X9_takes l D cA a_this a_this_all a_this_kept a_this_history a_this_slots a_this_isSaved a_this_stream a_this_pad v_historyLong v_streamLong v_spot v_padLong u7.2.1 u7.2.2.1 g_pad 59 u10 e11) X dX9_carryOut_42 hw hl rfl rfl rfl (Nat.le_of_ble_eq_true rfl) ⟨Nat.le_of_ble_eq_true rfl, Nat.le_of_ble_eq_true rfl⟩ ⟨Nat.zero_le _, Nat.zero_le _⟩ (fun H locs hw => ?_)
        refine z_istore_n 45 [(2, .int u10.1), (1, .int (i1 + 1)), (0, .ref a_this)] X dX9_carryOut_45 hl (by decide) rfl (fun ls hl => ?_)
        refine z_goto 46 25 X dX9_carryOut_46 (by decide) ?_
        exact ih u10.2 u7.2.2.1 u7.2.2.2 (i1 + 1) u10.1 H locs ls hw (lv_sub hl [2, 1, 0] rfl) hF
set_option maxHeartbeats 4000000 in
set_option maxRecDepth 100000 in
theorem m_X9_carryOut (l : Launch) (D : va_G) (cA : ClassId) (a_this a_this_all a_this_kept a_this_history a_this_slots a_this_isSaved a_this_stream a_this_pad : Nat) (v_historyLong : Int32) (v_streamLong : Int32) (v_spot : Int32) (v_padLong : Int32) (v_padSpot : Int32) (v_readNumber : Int32) (g_all : Ar) (g_history : Ar) (g_kept : Ar) (g_pad : Ar) (out : Int32 × Int32 × Int32 × Int32 × Int32 × Ar × Ar × Ar) (hF : F_X9_carryOut v_historyLong v_padLong v_padSpot v_readNumber g_all g_history g_kept g_pad = some out) : zM l D cA yX9_carryOut cX9_carryOut 3 (some .int) 6 130 [.ref a_this] (zw_44 cA 0 a_this a_this_all a_this_kept a_this_history a_this_slots a_this_isSaved a_this_stream a_this_pad v_historyLong v_streamLong v_spot v_padLong v_padSpot v_readNumber g_all g_history g_kept g_pad) (zw_44 cA 0 a_this a_this_all a_this_kept a_this_history a_this_slots a_this_isSaved a_this_stream a_this_pad out.2.1 v_streamLong v_spot out.2.2.1 out.2.2.2.1 out.2.2.2.2.1 out.2.2.2.2.2.1 out.2.2.2.2.2.2.1 out.2.2.2.2.2.2.2 g_pad) (some (.int out.1)) := by
  refine z_body (by decide) (Nat.le_of_ble_eq_true rfl) ?_
  intro p e s m args below meth c ls H locs A X hl hw
  have hl : lv_has ls 3 [(0, .ref a_this)] := hl
  unfold F_X9_carryOut at hF
  refine z_aload_n 0 X dX9_carryOut_0 hl 0 rfl ?_
  obtain ⟨u1, e2, hF⟩ := zbd hF
  refine z_callV 1 zc9 mv_X9_fault ml_9_214 0 [] (zk_135 cA 0 a_this a_this_all a_this_kept a_this_history a_this_slots a_this_isSaved a_this_stream a_this_pad v_historyLong v_streamLong v_spot v_padLong v_padSpot v_readNumber g_all g_history g_kept g_pad u1.2.1 u1.2.2) (m_X9_fault l D cA a_this a_this_all a_this_kept a_this_history a_this_slots a_this_isSaved a_this_stream a_this_pad v_historyLong v_streamLong v_spot v_padLong v_padSpot v_readNumber g_pad u1 e2) X dX9_carryOut_1 hw hl rfl rfl rfl (Nat.le_of_ble_eq_true rfl) ⟨Nat.le_of_ble_eq_true rfl, Nat.le_of_ble_eq_true rfl⟩ ⟨Nat.zero_le _, Nat.zero_le _⟩ (fun H locs hw => ?_)
  refine z_bipush 4 (-6) X dX9_carryOut_4 (by decide) ?_
  refine z_icmp_eq 6 12 X dX9_carryOut_6 (by decide) (fun c3 => ?_) (fun c3 => ?_)
  · replace hF := zpos c3 hF
    refine z_aload_n 12 X dX9_carryOut_12 hl 0 rfl ?_
    obtain ⟨u4, e5, hF⟩ := zbd hF
    refine z_callV 13 zc9 mv_X9_keep ml_9_120 0 [] (zk_136 cA 0 a_this a_this_all a_this_kept a_this_history a_this_slots a_this_isSaved a_this_stream a_this_pad v_historyLong v_streamLong v_spot v_padLong u1.2.1 u1.2.2 g_all g_history g_kept g_pad u4) (m_X9_keep l D cA a_this a_this_all a_this_kept a_this_history a_this_slots a_this_isSaved a_this_stream a_this_pad v_historyLong v_streamLong v_spot v_padLong u1.2.1 u1.2.2 g_all g_kept u4 e5) X dX9_carryOut_13 hw hl rfl rfl rfl (Nat.le_of_ble_eq_true rfl) ⟨Nat.le_of_ble_eq_true rfl, Nat.le_of_ble_eq_true rfl⟩ ⟨Nat.zero_le _, Nat.zero_le _⟩ (fun H locs hw => ?_)
    refine z_aload_n 16 X dX9_carryOut_16 hl 0 rfl ?_
    refine z_iconst 17 0 X dX9_carryOut_17 (by decide) ?_
    refine z_put 18 zc9 0 11 (zw_44 cA 0 a_this a_this_all a_this_kept a_this_history a_this_slots a_this_isSaved a_this_stream a_this_pad v_historyLong v_streamLong v_spot v_padLong 0 u1.2.2 g_all g_history u4 g_pad) fl_9_191 X dX9_carryOut_18 hw rfl (by decide) rfl rfl rfl (Nat.le_of_ble_eq_true rfl) rfl (fun H locs hw => ?_)
    refine z_iconst 21 0 X dX9_carryOut_21 (by decide) ?_
    refine z_istore_n 22 [(1, .int 0), (0, .ref a_this)] X dX9_carryOut_22 hl (by decide) rfl (fun ls hl => ?_)
    refine z_iconst 23 1 X dX9_carryOut_23 (by decide) ?_
    refine z_istore_n 24 [(2, .int 1), (1, .int 0), (0, .ref a_this)] X dX9_carryOut_24 hl (by decide) rfl (fun ls hl => ?_)
    refine l_X9_carryOut_25 l D cA a_this a_this_all a_this_kept a_this_history a_this_slots a_this_isSaved a_this_stream a_this_pad v_historyLong v_streamLong v_spot v_padLong g_history u4 g_pad out X _ (fun v_padSpot_12 v_readNumber_13 g_all_14 i1_15 H locs ls hw hl hF => ?_) zFuel 0 u1.2.2 g_all 0 1 H locs ls hw (lv_sub hl [2, 1, 0] rfl) hF
    refine z_aload_n 49 X dX9_carryOut_49 hl 0 rfl ?_
    refine z_iconst 50 0 X dX9_carryOut_50 (by decide) ?_
    refine z_put 51 zc9 0 10 (zw_44 cA 0 a_this a_this_all a_this_kept a_this_history a_this_slots a_this_isSaved a_this_stream a_this_pad v_historyLong v_streamLong v_spot 0 v_padSpot_12 v_readNumber_13 g_all_14 g_history u4 g_pad) fl_9_166 X dX9_carryOut_51 hw rfl (by decide) rfl rfl rfl (Nat.le_of_ble_eq_true rfl) rfl (fun H locs hw => ?_)
    refine z_aload_n 54 X dX9_carryOut_54 hl 0 rfl ?_
    refine z_iload_n 55 X dX9_carryOut_55 hl 1 rfl ?_
    obtain ⟨u16, e17, hF⟩ := zbd hF
    refine z_callV 56 zc9 mv_X9_changed ml_9_126 0 [] (zk_139 cA 0 a_this a_this_all a_this_kept a_this_history a_this_slots a_this_isSaved a_this_stream a_this_pad v_historyLong v_streamLong v_spot 0 v_padSpot_12 v_readNumber_13 g_all_14 g_history u4 g_pad u16.2.1 u16.2.2) (m_X9_changed l D cA a_this a_this_all a_this_kept a_this_history a_this_slots a_this_isSaved a_this_stream a_this_pad v_historyLong v_streamLong v_spot 0 v_padSpot_12 v_readNumber_13 g_history u4 i1_15 u16 e17) X dX9_carryOut_56 hw hl rfl rfl rfl (Nat.le_of_ble_eq_true rfl) ⟨Nat.le_of_ble_eq_true rfl, Nat.le_of_ble_eq_true rfl⟩ ⟨Nat.zero_le _, Nat.zero_le _⟩ (fun H locs hw => ?_)
    cases hF
    exact z_iret 59 X dX9_carryOut_59 hw rfl rfl
  · replace hF := zneg c3 hF
    refine z_bipush 9 (-3) X dX9_carryOut_9 (by decide) ?_
    cases hF
    exact z_iret 11 X dX9_carryOut_11 hw rfl rfl
theorem dX9_undo_0 : decode cX9_undo 0 = .ok (.aload_n 0, 1) := by decide +kernel
theorem dX9_undo_1 : decode cX9_undo 1 = .ok (.getfield 31, 3) := by decide +kernel
theorem dX9_undo_4 : decode cX9_undo 4 = .ok (.ifCond .ne 6, 3) := by decide +kernel
theorem dX9_undo_7 : decode cX9_undo 7 = .ok (.bipush (-5), 2) := by decide +kernel
theorem dX9_undo_9 : decode cX9_undo 9 = .ok (.ireturn, 1) := by decide +kernel
theorem dX9_undo_10 : decode cX9_undo 10 = .ok (.aload_n 0, 1) := by decide +kernel
theorem dX9_undo_11 : decode cX9_undo 11 = .ok (.dup, 1) := by decide +kernel
theorem dX9_undo_12 : decode cX9_undo 12 = .ok (.getfield 31, 3) := by decide +kernel
theorem dX9_undo_15 : decode cX9_undo 15 = .ok (.iconst 1, 1) := by decide +kernel
theorem dX9_undo_16 : decode cX9_undo 16 = .ok (.isub, 1) := by decide +kernel
theorem dX9_undo_17 : decode cX9_undo 17 = .ok (.putfield 31, 3) := by decide +kernel
theorem dX9_undo_20 : decode cX9_undo 20 = .ok (.iconst 0, 1) := by decide +kernel
theorem dX9_undo_21 : decode cX9_undo 21 = .ok (.istore_n 1, 1) := by decide +kernel
theorem dX9_undo_22 : decode cX9_undo 22 = .ok (.iload_n 1, 1) := by decide +kernel
theorem dX9_undo_23 : decode cX9_undo 23 = .ok (.bipush 67, 2) := by decide +kernel
theorem dX9_undo_25 : decode cX9_undo 25 = .ok (.if_icmp .ge 29, 3) := by decide +kernel
theorem dX9_undo_28 : decode cX9_undo 28 = .ok (.aload_n 0, 1) := by decide +kernel
theorem dX9_undo_29 : decode cX9_undo 29 = .ok (.getfield 7, 3) := by decide +kernel
theorem dX9_undo_32 : decode cX9_undo 32 = .ok (.iload_n 1, 1) := by decide +kernel
theorem dX9_undo_33 : decode cX9_undo 33 = .ok (.aload_n 0, 1) := by decide +kernel
theorem dX9_undo_34 : decode cX9_undo 34 = .ok (.getfield 16, 3) := by decide +kernel
theorem dX9_undo_37 : decode cX9_undo 37 = .ok (.bipush 67, 2) := by decide +kernel
theorem dX9_undo_39 : decode cX9_undo 39 = .ok (.aload_n 0, 1) := by decide +kernel
theorem dX9_undo_40 : decode cX9_undo 40 = .ok (.getfield 31, 3) := by decide +kernel
theorem dX9_undo_43 : decode cX9_undo 43 = .ok (.imul, 1) := by decide +kernel
theorem dX9_undo_44 : decode cX9_undo 44 = .ok (.iload_n 1, 1) := by decide +kernel
theorem dX9_undo_45 : decode cX9_undo 45 = .ok (.iadd, 1) := by decide +kernel
theorem dX9_undo_46 : decode cX9_undo 46 = .ok (.iaload, 1) := by decide +kernel
theorem dX9_undo_47 : decode cX9_undo 47 = .ok (.iastore, 1) := by decide +kernel
theorem dX9_undo_48 : decode cX9_undo 48 = .ok (.iinc 1 1, 3) := by decide +kernel
theorem dX9_undo_51 : decode cX9_undo 51 = .ok (.goto (-29), 3) := by decide +kernel
theorem dX9_undo_54 : decode cX9_undo 54 = .ok (.aload_n 0, 1) := by decide +kernel
theorem dX9_undo_55 : decode cX9_undo 55 = .ok (.getfield 31, 3) := by decide +kernel
theorem dX9_undo_58 : decode cX9_undo 58 = .ok (.ireturn, 1) := by decide +kernel
set_option maxHeartbeats 4000000 in
set_option maxRecDepth 100000 in
theorem l_X9_undo_22 (l : Launch) (D : va_G) (cA : ClassId) (a_this a_this_all a_this_kept a_this_history a_this_slots a_this_isSaved a_this_stream a_this_pad : Nat) (v_historyLong : Int32) (v_streamLong : Int32) (v_spot : Int32) (v_padLong : Int32) (v_padSpot : Int32) (v_readNumber : Int32) (g_history : Ar) (out : Int32 × Int32 × Ar) {p : Program} {e : Env} {s : State} {m : MethodId} {args : Array Value} {below : List Frame} {meth : Method} {c : Code} {A : Nat → Prop} (X : zX D cA p s m args meth c cX9_undo 2 RX9 (some .int)) (k : Ar → Option (Int32 × Int32 × Ar)) (hk : ∀ (g_all : Ar) (H : Heap) (locs : List Loc) (ls : Array Slot), zH D A s (zw_45 cA 0 a_this a_this_all a_this_kept a_this_history a_this_slots a_this_isSaved a_this_stream a_this_pad v_historyLong v_streamLong v_spot v_padLong v_padSpot v_readNumber g_all g_history) H locs → lv_has ls 2 [(0, .ref a_this)] → k g_all = some out → W p l e (zR 0 0) s m args below meth c H locs 0 0 (MQ below (zQ D (zw_45 cA 0 a_this a_this_all a_this_kept a_this_history a_this_slots a_this_isSaved a_this_stream a_this_pad out.2.1 v_streamLong v_spot v_padLong v_padSpot v_readNumber out.2.2 g_history) (some (.int out.1)) A) args s 0 0 A) (F0 m 54 ls [])) :
    ∀ (fuel : Nat) (g_all : Ar) (i1 : Int32) (H : Heap) (locs : List Loc) (ls : Array Slot), zH D A s (zw_45 cA 0 a_this a_this_all a_this_kept a_this_history a_this_slots a_this_isSaved a_this_stream a_this_pad v_historyLong v_streamLong v_spot v_padLong v_padSpot v_readNumber g_all g_history) H locs → lv_has ls 2 [(0, .ref a_this), (1, .int i1)] → F_X9_undo_L22 v_historyLong g_history k fuel g_all i1 = some out → W p l e (zR 0 0) s m args below meth c H locs 0 0 (MQ below (zQ D (zw_45 cA 0 a_this a_this_all a_this_kept a_this_history a_this_slots a_this_isSaved a_this_stream a_this_pad out.2.1 v_streamLong v_spot v_padLong v_padSpot v_readNumber out.2.2 g_history) (some (.int out.1)) A) args s 0 0 A) (F0 m 22 ls []) := by
  intro fuel
  induction fuel with
  | zero => intro g_all i1 H locs ls hw hl hF; exact nomatch (show (none : Option (Int32 × Int32 × Ar)) = some out from hF)
  | succ fuel ih =>
    intro g_all i1 H locs ls hw hl hF
    rw [F_X9_undo_L22] at hF
    refine z_iload_n 22 X dX9_undo_22 hl 1 rfl ?_
    refine z_bipush 23 67 X dX9_undo_23 (by decide) ?_
    refine z_icmp_ge 25 54 X dX9_undo_25 (by decide) (fun c2 => ?_) (fun c2 => ?_)
    · replace hF := zpos c2 hF
      exact hk g_all H locs ls hw (lv_sub hl [0] rfl) hF
    · replace hF := zneg c2 hF
      refine z_aload_n 28 X dX9_undo_28 hl 0 rfl ?_
      refine z_get 29 zc9 0 0 fl_9_7 X dX9_undo_29 hw rfl (by decide) rfl ?_
      refine z_iload_n 32 X dX9_undo_32 hl 1 rfl ?_
      refine z_aload_n 33 X dX9_undo_33 hl 0 rfl ?_
      refine z_get 34 zc9 0 2 fl_9_16 X dX9_undo_34 hw rfl (by decide) rfl ?_
      refine z_bipush 37 67 X dX9_undo_37 (by decide) ?_
      refine z_aload_n 39 X dX9_undo_39 hl 0 rfl ?_
      refine z_get 40 zc9 0 3 fl_9_31 X dX9_undo_40 hw rfl (by decide) rfl ?_
      refine z_imul 43 X dX9_undo_43 ?_
      refine z_iload_n 44 X dX9_undo_44 hl 1 rfl ?_
      refine z_iadd 45 X dX9_undo_45 ?_
      obtain ⟨gd3, hF⟩ := zgd hF
      refine z_iald 46 2 (g_history ((67 * v_historyLong) + i1).toNatClampNeg) X dX9_undo_46 hw rfl gd3 rfl ?_
      obtain ⟨gd4, hF⟩ := zgd hF
      refine z_iast 47 1 (zw_45 cA 0 a_this a_this_all a_this_kept a_this_history a_this_slots a_this_isSaved a_this_stream a_this_pad v_historyLong v_streamLong v_spot v_padLong v_padSpot v_readNumber (upd g_all (i1.toNatClampNeg) (g_history ((67 * v_historyLong) + i1).toNatClampNeg)) g_history) X dX9_undo_47 hw rfl gd4 rfl (fun H locs hw => ?_)
      refine z_iinc2 48 1 [(1, .int (i1 + 1)), (0, .ref a_this)] X dX9_undo_48 hl 1 rfl (by decide) (by decide) rfl (fun ls hl => ?_)
      refine z_goto 51 22 X dX9_undo_51 (by decide) ?_
      exact ih (upd g_all (i1.toNatClampNeg) (g_history ((67 * v_historyLong) + i1).toNatClampNeg)) (i1 + 1) H locs ls hw (lv_sub hl [1, 0] rfl) hF
set_option maxHeartbeats 4000000 in
set_option maxRecDepth 100000 in
theorem m_X9_undo (l : Launch) (D : va_G) (cA : ClassId) (a_this a_this_all a_this_kept a_this_history a_this_slots a_this_isSaved a_this_stream a_this_pad : Nat) (v_historyLong : Int32) (v_streamLong : Int32) (v_spot : Int32) (v_padLong : Int32) (v_padSpot : Int32) (v_readNumber : Int32) (g_all : Ar) (g_history : Ar) (out : Int32 × Int32 × Ar) (hF : F_X9_undo v_historyLong g_all g_history = some out) : zM l D cA yX9_undo cX9_undo 2 (some .int) 0 0 [.ref a_this] (zw_45 cA 0 a_this a_this_all a_this_kept a_this_history a_this_slots a_this_isSaved a_this_stream a_this_pad v_historyLong v_streamLong v_spot v_padLong v_padSpot v_readNumber g_all g_history) (zw_45 cA 0 a_this a_this_all a_this_kept a_this_history a_this_slots a_this_isSaved a_this_stream a_this_pad out.2.1 v_streamLong v_spot v_padLong v_padSpot v_readNumber out.2.2 g_history) (some (.int out.1)) := by
  refine z_body (by decide) (Nat.le_of_ble_eq_true rfl) ?_
  intro p e s m args below meth c ls H locs A X hl hw
  have hl : lv_has ls 2 [(0, .ref a_this)] := hl
  unfold F_X9_undo at hF
  refine z_aload_n 0 X dX9_undo_0 hl 0 rfl ?_
  refine z_get 1 zc9 0 3 fl_9_31 X dX9_undo_1 hw rfl (by decide) rfl ?_
  refine z_if_ne 4 10 X dX9_undo_4 (by decide) (fun c1 => ?_) (fun c1 => ?_)
  · replace hF := zneg c1 hF
    refine z_aload_n 10 X dX9_undo_10 hl 0 rfl ?_
    refine z_dup 11 X dX9_undo_11 rfl ?_
    refine z_get 12 zc9 0 3 fl_9_31 X dX9_undo_12 hw rfl (by decide) rfl ?_
    refine z_iconst 15 1 X dX9_undo_15 (by decide) ?_
    refine z_isub 16 X dX9_undo_16 ?_
    refine z_put 17 zc9 0 3 (zw_45 cA 0 a_this a_this_all a_this_kept a_this_history a_this_slots a_this_isSaved a_this_stream a_this_pad (v_historyLong - 1) v_streamLong v_spot v_padLong v_padSpot v_readNumber g_all g_history) fl_9_31 X dX9_undo_17 hw rfl (by decide) rfl rfl rfl (Nat.le_of_ble_eq_true rfl) rfl (fun H locs hw => ?_)
    refine z_iconst 20 0 X dX9_undo_20 (by decide) ?_
    refine z_istore_n 21 [(1, .int 0), (0, .ref a_this)] X dX9_undo_21 hl (by decide) rfl (fun ls hl => ?_)
    refine l_X9_undo_22 l D cA a_this a_this_all a_this_kept a_this_history a_this_slots a_this_isSaved a_this_stream a_this_pad (v_historyLong - 1) v_streamLong v_spot v_padLong v_padSpot v_readNumber g_history out X _ (fun g_all_5 H locs ls hw hl hF => ?_) zFuel g_all 0 H locs ls hw (lv_sub hl [1, 0] rfl) hF
    refine z_aload_n 54 X dX9_undo_54 hl 0 rfl ?_
    refine z_get 55 zc9 0 3 fl_9_31 X dX9_undo_55 hw rfl (by decide) rfl ?_
    cases hF
    exact z_iret 58 X dX9_undo_58 hw rfl rfl
  · replace hF := zpos c1 hF
    refine z_bipush 7 (-5) X dX9_undo_7 (by decide) ?_
    cases hF
    exact z_iret 9 X dX9_undo_9 hw rfl rfl
