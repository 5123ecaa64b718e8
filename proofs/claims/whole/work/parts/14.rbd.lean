theorem dX8_check_0 : decode cX8_check 0 = .ok (.aload_n 0, 1) := by decide +kernel
theorem dX8_check_1 : decode cX8_check 1 = .ok (.getfield 19, 3) := by decide +kernel
theorem dX8_check_4 : decode cX8_check 4 = .ok (.getfield 91, 3) := by decide +kernel
theorem dX8_check_7 : decode cX8_check 7 = .ok (.iconst 0, 1) := by decide +kernel
theorem dX8_check_8 : decode cX8_check 8 = .ok (.iconst (-1), 1) := by decide +kernel
theorem dX8_check_9 : decode cX8_check 9 = .ok (.invokevirtual 204, 3) := by decide +kernel
theorem dX8_check_12 : decode cX8_check 12 = .ok (.iconst 0, 1) := by decide +kernel
theorem dX8_check_13 : decode cX8_check 13 = .ok (.istore_n 1, 1) := by decide +kernel
theorem dX8_check_14 : decode cX8_check 14 = .ok (.iload_n 1, 1) := by decide +kernel
theorem dX8_check_15 : decode cX8_check 15 = .ok (.aload_n 0, 1) := by decide +kernel
theorem dX8_check_16 : decode cX8_check 16 = .ok (.getfield 12, 3) := by decide +kernel
theorem dX8_check_19 : decode cX8_check 19 = .ok (.getfield 80, 3) := by decide +kernel
theorem dX8_check_22 : decode cX8_check 22 = .ok (.if_icmp .ge 80, 3) := by decide +kernel
theorem dX8_check_25 : decode cX8_check 25 = .ok (.iload_n 1, 1) := by decide +kernel
theorem dX8_check_26 : decode cX8_check 26 = .ok (.aload_n 0, 1) := by decide +kernel
theorem dX8_check_27 : decode cX8_check 27 = .ok (.getfield 12, 3) := by decide +kernel
theorem dX8_check_30 : decode cX8_check 30 = .ok (.aload_n 0, 1) := by decide +kernel
theorem dX8_check_31 : decode cX8_check 31 = .ok (.getfield 12, 3) := by decide +kernel
theorem dX8_check_34 : decode cX8_check 34 = .ok (.iload_n 1, 1) := by decide +kernel
theorem dX8_check_35 : decode cX8_check 35 = .ok (.invokevirtual 98, 3) := by decide +kernel
theorem dX8_check_38 : decode cX8_check 38 = .ok (.invokevirtual 130, 3) := by decide +kernel
theorem dX8_check_41 : decode cX8_check 41 = .ok (.if_icmp .ne 13, 3) := by decide +kernel
theorem dX8_check_44 : decode cX8_check 44 = .ok (.aload_n 0, 1) := by decide +kernel
theorem dX8_check_45 : decode cX8_check 45 = .ok (.getfield 19, 3) := by decide +kernel
theorem dX8_check_48 : decode cX8_check 48 = .ok (.getfield 91, 3) := by decide +kernel
theorem dX8_check_51 : decode cX8_check 51 = .ok (.invokevirtual 207, 3) := by decide +kernel
theorem dX8_check_54 : decode cX8_check 54 = .ok (.aload_n 0, 1) := by decide +kernel
theorem dX8_check_55 : decode cX8_check 55 = .ok (.getfield 19, 3) := by decide +kernel
theorem dX8_check_58 : decode cX8_check 58 = .ok (.getfield 91, 3) := by decide +kernel
theorem dX8_check_61 : decode cX8_check 61 = .ok (.aload_n 0, 1) := by decide +kernel
theorem dX8_check_62 : decode cX8_check 62 = .ok (.getfield 12, 3) := by decide +kernel
theorem dX8_check_65 : decode cX8_check 65 = .ok (.getfield 113, 3) := by decide +kernel
theorem dX8_check_68 : decode cX8_check 68 = .ok (.invokevirtual 176, 3) := by decide +kernel
theorem dX8_check_71 : decode cX8_check 71 = .ok (.aload_n 0, 1) := by decide +kernel
theorem dX8_check_72 : decode cX8_check 72 = .ok (.getfield 19, 3) := by decide +kernel
theorem dX8_check_75 : decode cX8_check 75 = .ok (.getfield 91, 3) := by decide +kernel
theorem dX8_check_78 : decode cX8_check 78 = .ok (.getfield 179, 3) := by decide +kernel
theorem dX8_check_81 : decode cX8_check 81 = .ok (.aload_n 0, 1) := by decide +kernel
theorem dX8_check_82 : decode cX8_check 82 = .ok (.getfield 12, 3) := by decide +kernel
theorem dX8_check_85 : decode cX8_check 85 = .ok (.iload_n 1, 1) := by decide +kernel
theorem dX8_check_86 : decode cX8_check 86 = .ok (.invokevirtual 77, 3) := by decide +kernel
theorem dX8_check_89 : decode cX8_check 89 = .ok (.if_icmp .eq 7, 3) := by decide +kernel
theorem dX8_check_92 : decode cX8_check 92 = .ok (.iload_n 1, 1) := by decide +kernel
theorem dX8_check_93 : decode cX8_check 93 = .ok (.iconst 2, 1) := by decide +kernel
theorem dX8_check_94 : decode cX8_check 94 = .ok (.iadd, 1) := by decide +kernel
theorem dX8_check_95 : decode cX8_check 95 = .ok (.ireturn, 1) := by decide +kernel
theorem dX8_check_96 : decode cX8_check 96 = .ok (.iinc 1 1, 3) := by decide +kernel
theorem dX8_check_99 : decode cX8_check 99 = .ok (.goto (-85), 3) := by decide +kernel
theorem dX8_check_102 : decode cX8_check 102 = .ok (.iconst 1, 1) := by decide +kernel
theorem dX8_check_103 : decode cX8_check 103 = .ok (.ireturn, 1) := by decide +kernel
set_option maxHeartbeats 4000000 in
set_option maxRecDepth 100000 in
theorem l_X8_check_14 (l : Launch) (D : va_G) (cA : ClassId) (a_this a_this_row a_this_coding a_this_trial a_this_pad a_this_history a_this_slots a_this_coding_prices a_this_coding_stream a_this_coding_exponents a_this_coding_skips a_this_coding_stream_cells a_this_coding_stream_cells_cells a_this_row_numbers a_this_row_numbers_cells : Nat) (v_coding_stream_length : Int32) (v_coding_stream_start : Int32) (g_coding_stream_cells_cells : Ar) (v_row_length : Int32) (v_row_blockSize : Int32) (v_row_ones : Int32) (g_row_numbers_cells : Ar) (out : Int32 × Int32 × Int32 × Int32 × Int32) {p : Program} {e : Env} {s : State} {m : MethodId} {args : Array Value} {below : List Frame} {meth : Method} {c : Code} {A : Nat → Prop} (X : zX D cA p s m args meth c cX8_check 2 RX8 (some .int)) (k : Int32 → Int32 → Int32 → Option (Int32 × Int32 × Int32 × Int32 × Int32)) (hk : ∀ (v_coding_stream_next : Int32) (v_coding_stream_exponent : Int32) (v_coding_stream_number : Int32) (H : Heap) (locs : List Loc) (ls : Array Slot), zH D A s (zw_26 cA 0 a_this a_this_row a_this_coding a_this_trial a_this_pad a_this_history a_this_slots a_this_coding_prices a_this_coding_stream a_this_coding_exponents a_this_coding_skips a_this_coding_stream_cells a_this_coding_stream_cells_cells a_this_row_numbers a_this_row_numbers_cells v_coding_stream_length v_coding_stream_start v_coding_stream_next v_coding_stream_exponent v_coding_stream_number g_coding_stream_cells_cells v_row_length v_row_blockSize v_row_ones g_row_numbers_cells) H locs → lv_has ls 2 [] → k v_coding_stream_next v_coding_stream_exponent v_coding_stream_number = some out → W p l e (zR 5 108) s m args below meth c H locs 0 0 (MQ below (zQ D (zw_26 cA 0 a_this a_this_row a_this_coding a_this_trial a_this_pad a_this_history a_this_slots a_this_coding_prices a_this_coding_stream a_this_coding_exponents a_this_coding_skips a_this_coding_stream_cells a_this_coding_stream_cells_cells a_this_row_numbers a_this_row_numbers_cells v_coding_stream_length out.2.1 out.2.2.1 out.2.2.2.1 out.2.2.2.2 g_coding_stream_cells_cells v_row_length v_row_blockSize v_row_ones g_row_numbers_cells) (some (.int out.1)) A) args s 0 0 A) (F0 m 102 ls [])) :
    ∀ (fuel : Nat) (v_coding_stream_next : Int32) (v_coding_stream_exponent : Int32) (v_coding_stream_number : Int32) (i1 : Int32) (H : Heap) (locs : List Loc) (ls : Array Slot), zH D A s (zw_26 cA 0 a_this a_this_row a_this_coding a_this_trial a_this_pad a_this_history a_this_slots a_this_coding_prices a_this_coding_stream a_this_coding_exponents a_this_coding_skips a_this_coding_stream_cells a_this_coding_stream_cells_cells a_this_row_numbers a_this_row_numbers_cells v_coding_stream_length v_coding_stream_start v_coding_stream_next v_coding_stream_exponent v_coding_stream_number g_coding_stream_cells_cells v_row_length v_row_blockSize v_row_ones g_row_numbers_cells) H locs → lv_has ls 2 [(0, .ref a_this), (1, .int i1)] → F_X8_check_L14 v_coding_stream_length v_coding_stream_start g_coding_stream_cells_cells v_row_length v_row_blockSize v_row_ones g_row_numbers_cells k fuel v_coding_stream_next v_coding_stream_exponent v_coding_stream_number i1 = some out → W p l e (zR 5 108) s m args below meth c H locs 0 0 (MQ below (zQ D (zw_26 cA 0 a_this a_this_row a_this_coding a_this_trial a_this_pad a_this_history a_this_slots a_this_coding_prices a_this_coding_stream a_this_coding_exponents a_this_coding_skips a_this_coding_stream_cells a_this_coding_stream_cells_cells a_this_row_numbers a_this_row_numbers_cells v_coding_stream_length out.2.1 out.2.2.1 out.2.2.2.1 out.2.2.2.2 g_coding_stream_cells_cells v_row_length v_row_blockSize v_row_ones g_row_numbers_cells) (some (.int out.1)) A) args s 0 0 A) (F0 m 14 ls []) := by
  intro fuel
  induction fuel with
  | zero => intro v_coding_stream_next v_coding_stream_exponent v_coding_stream_number i1 H locs ls hw hl hF; exact nomatch (show (none : Option (Int32 × Int32 × Int32 × Int32 × Int32)) = some out from hF)
  | succ fuel ih =>
    intro v_coding_stream_next v_coding_stream_exponent v_coding_stream_number i1 H locs ls hw hl hF
    rw [F_X8_check_L14] at hF
    refine z_iload_n 14 X dX8_check_14 hl 1 rfl ?_
    refine z_aload_n 15 X dX8_check_15 hl 0 rfl ?_
    refine z_get 16 zc8 0 0 fl_8_12 X dX8_check_16 hw rfl (by decide) rfl ?_
    refine z_getN 19 zc5 5 1 fl_8_80 X dX8_check_19 hw rfl (by decide) rfl ?_
    refine z_icmp_ge 22 102 X dX8_check_22 (by decide) (fun c3 => ?_) (fun c3 => ?_)
    · replace hF := zpos c3 hF
      exact hk v_coding_stream_next v_coding_stream_exponent v_coding_stream_number H locs ls hw (lv_sub hl [] rfl) hF
    · replace hF := zneg c3 hF
      refine z_iload_n 25 X dX8_check_25 hl 1 rfl ?_
      refine z_aload_n 26 X dX8_check_26 hl 0 rfl ?_
      refine z_get 27 zc8 0 0 fl_8_12 X dX8_check_27 hw rfl (by decide) rfl ?_
      refine z_aload_n 30 X dX8_check_30 hl 0 rfl ?_
      refine z_get 31 zc8 0 0 fl_8_12 X dX8_check_31 hw rfl (by decide) rfl ?_
      refine z_iload_n 34 X dX8_check_34 hl 1 rfl ?_
      obtain ⟨u4, e5, hF⟩ := zbd hF
      refine z_callV 35 zc5 mv_X5_blockOf ml_8_98 5 [5] (zw_26 cA 0 a_this a_this_row a_this_coding a_this_trial a_this_pad a_this_history a_this_slots a_this_coding_prices a_this_coding_stream a_this_coding_exponents a_this_coding_skips a_this_coding_stream_cells a_this_coding_stream_cells_cells a_this_row_numbers a_this_row_numbers_cells v_coding_stream_length v_coding_stream_start v_coding_stream_next v_coding_stream_exponent v_coding_stream_number g_coding_stream_cells_cells v_row_length v_row_blockSize v_row_ones g_row_numbers_cells) [.ref a_this_row, .int i1] (m_X5_blockOf l D cA a_this_row a_this_row_numbers v_row_length v_row_blockSize v_row_ones i1 u4 e5) X dX8_check_35 hw hl rfl rfl rfl (by decide) rfl rfl rfl (Nat.le_of_ble_eq_true rfl) ⟨Nat.le_of_ble_eq_true rfl, Nat.le_of_ble_eq_true rfl⟩ ⟨Nat.zero_le _, Nat.zero_le _⟩ (fun H locs hw => ?_)
      obtain ⟨u6, e7, hF⟩ := zbd hF
      refine z_callV 38 zc5 mv_X5_firstOf ml_8_130 5 [5] (zw_26 cA 0 a_this a_this_row a_this_coding a_this_trial a_this_pad a_this_history a_this_slots a_this_coding_prices a_this_coding_stream a_this_coding_exponents a_this_coding_skips a_this_coding_stream_cells a_this_coding_stream_cells_cells a_this_row_numbers a_this_row_numbers_cells v_coding_stream_length v_coding_stream_start v_coding_stream_next v_coding_stream_exponent v_coding_stream_number g_coding_stream_cells_cells v_row_length v_row_blockSize v_row_ones g_row_numbers_cells) [.int i1] (m_X5_firstOf l D cA a_this_row a_this_row_numbers v_row_length v_row_blockSize v_row_ones u4 u6 e7) X dX8_check_38 hw hl rfl rfl rfl (by decide) rfl rfl rfl (Nat.le_of_ble_eq_true rfl) ⟨Nat.le_of_ble_eq_true rfl, Nat.le_of_ble_eq_true rfl⟩ ⟨Nat.zero_le _, Nat.zero_le _⟩ (fun H locs hw => ?_)
      refine z_icmp_ne 41 54 X dX8_check_41 (by decide) (fun c8 => ?_) (fun c8 => ?_)
      · replace hF := zneg c8 hF
        refine z_aload_n 54 X dX8_check_54 hl 0 rfl ?_
        refine z_get 55 zc8 0 1 fl_8_19 X dX8_check_55 hw rfl (by decide) rfl ?_
        refine z_getN 58 zc1 1 1 fl_8_91 X dX8_check_58 hw rfl (by decide) rfl ?_
        refine z_aload_n 61 X dX8_check_61 hl 0 rfl ?_
        refine z_get 62 zc8 0 0 fl_8_12 X dX8_check_62 hw rfl (by decide) rfl ?_
        refine z_getN 65 zc5 5 3 fl_8_113 X dX8_check_65 hw rfl (by decide) rfl ?_
        obtain ⟨u9, e10, hF⟩ := zbd hF
        refine z_callV 68 zc7 mv_X7_readNumber ml_8_176 2 [2, 3, 4] (zw_26 cA 0 a_this a_this_row a_this_coding a_this_trial a_this_pad a_this_history a_this_slots a_this_coding_prices a_this_coding_stream a_this_coding_exponents a_this_coding_skips a_this_coding_stream_cells a_this_coding_stream_cells_cells a_this_row_numbers a_this_row_numbers_cells v_coding_stream_length v_coding_stream_start u9.1 v_coding_stream_exponent u9.2 g_coding_stream_cells_cells v_row_length v_row_blockSize v_row_ones g_row_numbers_cells) [] (m_X7_readNumber l D cA a_this_coding_stream a_this_coding_stream_cells a_this_coding_stream_cells_cells v_coding_stream_length v_coding_stream_start v_coding_stream_next v_coding_stream_exponent v_coding_stream_number g_coding_stream_cells_cells v_row_ones u9 e10) X dX8_check_68 hw hl rfl rfl rfl (by decide) rfl rfl rfl (Nat.le_of_ble_eq_true rfl) ⟨Nat.le_of_ble_eq_true rfl, Nat.le_of_ble_eq_true rfl⟩ ⟨Nat.zero_le _, Nat.zero_le _⟩ (fun H locs hw => ?_)
        refine z_aload_n 71 X dX8_check_71 hl 0 rfl ?_
        refine z_get 72 zc8 0 1 fl_8_19 X dX8_check_72 hw rfl (by decide) rfl ?_
        refine z_getN 75 zc1 1 1 fl_8_91 X dX8_check_75 hw rfl (by decide) rfl ?_
        refine z_getN 78 zc7 2 5 fl_8_179 X dX8_check_78 hw rfl (by decide) rfl ?_
        refine z_aload_n 81 X dX8_check_81 hl 0 rfl ?_
        refine z_get 82 zc8 0 0 fl_8_12 X dX8_check_82 hw rfl (by decide) rfl ?_
        refine z_iload_n 85 X dX8_check_85 hl 1 rfl ?_
        obtain ⟨u11, e12, hF⟩ := zbd hF
        refine z_callV 86 zc5 mv_X5_number ml_8_77 5 [5, 6, 7] (zw_26 cA 0 a_this a_this_row a_this_coding a_this_trial a_this_pad a_this_history a_this_slots a_this_coding_prices a_this_coding_stream a_this_coding_exponents a_this_coding_skips a_this_coding_stream_cells a_this_coding_stream_cells_cells a_this_row_numbers a_this_row_numbers_cells v_coding_stream_length v_coding_stream_start u9.1 v_coding_stream_exponent u9.2 g_coding_stream_cells_cells v_row_length v_row_blockSize v_row_ones g_row_numbers_cells) [.int u9.2] (m_X5_number l D cA a_this_row a_this_row_numbers a_this_row_numbers_cells v_row_length v_row_blockSize v_row_ones g_row_numbers_cells i1 u11 e12) X dX8_check_86 hw hl rfl rfl rfl (by decide) rfl rfl rfl (Nat.le_of_ble_eq_true rfl) ⟨Nat.le_of_ble_eq_true rfl, Nat.le_of_ble_eq_true rfl⟩ ⟨Nat.zero_le _, Nat.zero_le _⟩ (fun H locs hw => ?_)
        refine z_icmp_eq 89 96 X dX8_check_89 (by decide) (fun c13 => ?_) (fun c13 => ?_)
        · replace hF := zpos c13 hF
          refine z_iinc2 96 1 [(1, .int (i1 + 1)), (0, .ref a_this)] X dX8_check_96 hl 1 rfl (by decide) (by decide) rfl (fun ls hl => ?_)
          refine z_goto 99 14 X dX8_check_99 (by decide) ?_
          exact ih u9.1 v_coding_stream_exponent u9.2 (i1 + 1) H locs ls hw (lv_sub hl [1, 0] rfl) hF
        · replace hF := zneg c13 hF
          refine z_iload_n 92 X dX8_check_92 hl 1 rfl ?_
          refine z_iconst 93 2 X dX8_check_93 (by decide) ?_
          refine z_iadd 94 X dX8_check_94 ?_
          cases hF
          exact z_iret 95 X dX8_check_95 hw rfl rfl
      · replace hF := zpos c8 hF
        refine z_aload_n 44 X dX8_check_44 hl 0 rfl ?_
        refine z_get 45 zc8 0 1 fl_8_19 X dX8_check_45 hw rfl (by decide) rfl ?_
        refine z_getN 48 zc1 1 1 fl_8_91 X dX8_check_48 hw rfl (by decide) rfl ?_
        obtain ⟨u14, e15, hF⟩ := zbd hF
        refine z_callV 51 zc7 mv_X7_readExponent ml_8_207 2 [2, 3, 4] (zw_26 cA 0 a_this a_this_row a_this_coding a_this_trial a_this_pad a_this_history a_this_slots a_this_coding_prices a_this_coding_stream a_this_coding_exponents a_this_coding_skips a_this_coding_stream_cells a_this_coding_stream_cells_cells a_this_row_numbers a_this_row_numbers_cells v_coding_stream_length v_coding_stream_start u14.1 u14.2 v_coding_stream_number g_coding_stream_cells_cells v_row_length v_row_blockSize v_row_ones g_row_numbers_cells) [] (m_X7_readExponent l D cA a_this_coding_stream a_this_coding_stream_cells a_this_coding_stream_cells_cells v_coding_stream_length v_coding_stream_start v_coding_stream_next v_coding_stream_exponent v_coding_stream_number g_coding_stream_cells_cells u14 e15) X dX8_check_51 hw hl rfl rfl rfl (by decide) rfl rfl rfl (Nat.le_of_ble_eq_true rfl) ⟨Nat.le_of_ble_eq_true rfl, Nat.le_of_ble_eq_true rfl⟩ ⟨Nat.zero_le _, Nat.zero_le _⟩ (fun H locs hw => ?_)
        refine z_aload_n 54 X dX8_check_54 hl 0 rfl ?_
        refine z_get 55 zc8 0 1 fl_8_19 X dX8_check_55 hw rfl (by decide) rfl ?_
        refine z_getN 58 zc1 1 1 fl_8_91 X dX8_check_58 hw rfl (by decide) rfl ?_
        refine z_aload_n 61 X dX8_check_61 hl 0 rfl ?_
        refine z_get 62 zc8 0 0 fl_8_12 X dX8_check_62 hw rfl (by decide) rfl ?_
        refine z_getN 65 zc5 5 3 fl_8_113 X dX8_check_65 hw rfl (by decide) rfl ?_
        obtain ⟨u16, e17, hF⟩ := zbd hF
        refine z_callV 68 zc7 mv_X7_readNumber ml_8_176 2 [2, 3, 4] (zw_26 cA 0 a_this a_this_row a_this_coding a_this_trial a_this_pad a_this_history a_this_slots a_this_coding_prices a_this_coding_stream a_this_coding_exponents a_this_coding_skips a_this_coding_stream_cells a_this_coding_stream_cells_cells a_this_row_numbers a_this_row_numbers_cells v_coding_stream_length v_coding_stream_start u16.1 u14.2 u16.2 g_coding_stream_cells_cells v_row_length v_row_blockSize v_row_ones g_row_numbers_cells) [] (m_X7_readNumber l D cA a_this_coding_stream a_this_coding_stream_cells a_this_coding_stream_cells_cells v_coding_stream_length v_coding_stream_start u14.1 u14.2 v_coding_stream_number g_coding_stream_cells_cells v_row_ones u16 e17) X dX8_check_68 hw hl rfl rfl rfl (by decide) rfl rfl rfl (Nat.le_of_ble_eq_true rfl) ⟨Nat.le_of_ble_eq_true rfl, Nat.le_of_ble_eq_true rfl⟩ ⟨Nat.zero_le _, Nat.zero_le _⟩ (fun H locs hw => ?_)
        refine z_aload_n 71 X dX8_check_71 hl 0 rfl ?_
        refine z_get 72 zc8 0 1 fl_8_19 X dX8_check_72 hw rfl (by decide) rfl ?_
        refine z_getN 75 zc1 1 1 fl_8_91 X dX8_check_75 hw rfl (by decide) rfl ?_
        refine z_getN 78 zc7 2 5 fl_8_179 X dX8_check_78 hw rfl (by decide) rfl ?_
        refine z_aload_n 81 X dX8_check_81 hl 0 rfl ?_
        refine z_get 82 zc8 0 0 fl_8_12 X dX8_check_82 hw rfl (by decide) rfl ?_
        refine z_iload_n 85 X dX8_check_85 hl 1 rfl ?_
        obtain ⟨u18, e19, hF⟩ := zbd hF
        refine z_callV 86 zc5 mv_X5_number ml_8_77 5 [5, 6, 7] (zw_26 cA 0 a_this a_this_row a_this_coding a_this_trial a_this_pad a_this_history a_this_slots a_this_coding_prices a_this_coding_stream a_this_coding_exponents a_this_coding_skips a_this_coding_stream_cells a_this_coding_stream_cells_cells a_this_row_numbers a_this_row_numbers_cells v_coding_stream_length v_coding_stream_start u16.1 u14.2 u16.2 g_coding_stream_cells_cells v_row_length v_row_blockSize v_row_ones g_row_numbers_cells) [.int u16.2] (m_X5_number l D cA a_this_row a_this_row_numbers a_this_row_numbers_cells v_row_length v_row_blockSize v_row_ones g_row_numbers_cells i1 u18 e19) X dX8_check_86 hw hl rfl rfl rfl (by decide) rfl rfl rfl (Nat.le_of_ble_eq_true rfl) ⟨Nat.le_of_ble_eq_true rfl, Nat.le_of_ble_eq_true rfl⟩ ⟨Nat.zero_le _, Nat.zero_le _⟩ (fun H locs hw => ?_)
        refine z_icmp_eq 89 96 X dX8_check_89 (by decide) (fun c20 => ?_) (fun c20 => ?_)
        · replace hF := zpos c20 hF
          refine z_iinc2 96 1 [(1, .int (i1 + 1)), (0, .ref a_this)] X dX8_check_96 hl 1 rfl (by decide) (by decide) rfl (fun ls hl => ?_)
          refine z_goto 99 14 X dX8_check_99 (by decide) ?_
          exact ih u16.1 u14.2 u16.2 (i1 + 1) H locs ls hw (lv_sub hl [1, 0] rfl) hF
        · replace hF := zneg c20 hF
          refine z_iload_n 92 X dX8_check_92 hl 1 rfl ?_
          refine z_iconst 93 2 X dX8_check_93 (by decide) ?_
          refine z_iadd 94 X dX8_check_94 ?_
          cases hF
          exact z_iret 95 X dX8_check_95 hw rfl rfl
set_option maxHeartbeats 4000000 in
set_option maxRecDepth 100000 in
theorem m_X8_check (l : Launch) (D : va_G) (cA : ClassId) (a_this a_this_row a_this_coding a_this_trial a_this_pad a_this_history a_this_slots a_this_coding_prices a_this_coding_stream a_this_coding_exponents a_this_coding_skips a_this_coding_stream_cells a_this_coding_stream_cells_cells a_this_row_numbers a_this_row_numbers_cells : Nat) (v_coding_stream_length : Int32) (v_coding_stream_start : Int32) (v_coding_stream_next : Int32) (v_coding_stream_exponent : Int32) (v_coding_stream_number : Int32) (g_coding_stream_cells_cells : Ar) (v_row_length : Int32) (v_row_blockSize : Int32) (v_row_ones : Int32) (g_row_numbers_cells : Ar) (out : Int32 × Int32 × Int32 × Int32 × Int32) (hF : F_X8_check v_coding_stream_length v_coding_stream_start v_coding_stream_next v_coding_stream_exponent v_coding_stream_number g_coding_stream_cells_cells v_row_length v_row_blockSize v_row_ones g_row_numbers_cells = some out) : zM l D cA yX8_check cX8_check 2 (some .int) 5 108 [.ref a_this] (zw_26 cA 0 a_this a_this_row a_this_coding a_this_trial a_this_pad a_this_history a_this_slots a_this_coding_prices a_this_coding_stream a_this_coding_exponents a_this_coding_skips a_this_coding_stream_cells a_this_coding_stream_cells_cells a_this_row_numbers a_this_row_numbers_cells v_coding_stream_length v_coding_stream_start v_coding_stream_next v_coding_stream_exponent v_coding_stream_number g_coding_stream_cells_cells v_row_length v_row_blockSize v_row_ones g_row_numbers_cells) (zw_26 cA 0 a_this a_this_row a_this_coding a_this_trial a_this_pad a_this_history a_this_slots a_this_coding_prices a_this_coding_stream a_this_coding_exponents a_this_coding_skips a_this_coding_stream_cells a_this_coding_stream_cells_cells a_this_row_numbers a_this_row_numbers_cells v_coding_stream_length out.2.1 out.2.2.1 out.2.2.2.1 out.2.2.2.2 g_coding_stream_cells_cells v_row_length v_row_blockSize v_row_ones g_row_numbers_cells) (some (.int out.1)) := by
  refine z_body (by decide) (Nat.le_of_ble_eq_true rfl) ?_
  intro p e s m args below meth c ls H locs A X hl hw
  have hl : lv_has ls 2 [(0, .ref a_this)] := hl
  unfold F_X8_check at hF
  refine z_aload_n 0 X dX8_check_0 hl 0 rfl ?_
  refine z_get 1 zc8 0 1 fl_8_19 X dX8_check_1 hw rfl (by decide) rfl ?_
  refine z_getN 4 zc1 1 1 fl_8_91 X dX8_check_4 hw rfl (by decide) rfl ?_
  refine z_iconst 7 0 X dX8_check_7 (by decide) ?_
  refine z_iconst 8 (-1) X dX8_check_8 (by decide) ?_
  obtain ⟨u1, e2, hF⟩ := zbd hF
  refine z_callV 9 zc7 mv_X7_startAt ml_8_204 2 [2] (zw_26 cA 0 a_this a_this_row a_this_coding a_this_trial a_this_pad a_this_history a_this_slots a_this_coding_prices a_this_coding_stream a_this_coding_exponents a_this_coding_skips a_this_coding_stream_cells a_this_coding_stream_cells_cells a_this_row_numbers a_this_row_numbers_cells v_coding_stream_length u1.1 u1.2.1 v_coding_stream_exponent u1.2.2 g_coding_stream_cells_cells v_row_length v_row_blockSize v_row_ones g_row_numbers_cells) [] (m_X7_startAt l D cA a_this_coding_stream a_this_coding_stream_cells v_coding_stream_length v_coding_stream_start v_coding_stream_next v_coding_stream_exponent v_coding_stream_number 0 (-1) u1 e2) X dX8_check_9 hw hl rfl rfl rfl (by decide) rfl rfl rfl (Nat.le_of_ble_eq_true rfl) ⟨Nat.le_of_ble_eq_true rfl, Nat.le_of_ble_eq_true rfl⟩ ⟨Nat.zero_le _, Nat.zero_le _⟩ (fun H locs hw => ?_)
  refine z_iconst 12 0 X dX8_check_12 (by decide) ?_
  refine z_istore_n 13 [(1, .int 0), (0, .ref a_this)] X dX8_check_13 hl (by decide) rfl (fun ls hl => ?_)
  refine l_X8_check_14 l D cA a_this a_this_row a_this_coding a_this_trial a_this_pad a_this_history a_this_slots a_this_coding_prices a_this_coding_stream a_this_coding_exponents a_this_coding_skips a_this_coding_stream_cells a_this_coding_stream_cells_cells a_this_row_numbers a_this_row_numbers_cells v_coding_stream_length u1.1 g_coding_stream_cells_cells v_row_length v_row_blockSize v_row_ones g_row_numbers_cells out X _ (fun v_coding_stream_next_21 v_coding_stream_exponent_22 v_coding_stream_number_23 H locs ls hw hl hF => ?_) zFuel u1.2.1 v_coding_stream_exponent u1.2.2 0 H locs ls hw (lv_sub hl [1, 0] rfl) hF
  refine z_iconst 102 1 X dX8_check_102 (by decide) ?_
  cases hF
  exact z_iret 103 X dX8_check_103 hw rfl rfl
theorem dX8_put_0 : decode cX8_put 0 = .ok (.lload_n 1, 1) := by decide +kernel
theorem dX8_put_1 : decode cX8_put 1 = .ok (.invokestatic 210, 3) := by decide +kernel
theorem dX8_put_4 : decode cX8_put 4 = .ok (.istore_n 3, 1) := by decide +kernel
theorem dX8_put_5 : decode cX8_put 5 = .ok (.iload_n 3, 1) := by decide +kernel
theorem dX8_put_6 : decode cX8_put 6 = .ok (.ifCond .ne 6, 3) := by decide +kernel
theorem dX8_put_9 : decode cX8_put 9 = .ok (.bipush (-2), 2) := by decide +kernel
theorem dX8_put_11 : decode cX8_put 11 = .ok (.ireturn, 1) := by decide +kernel
theorem dX8_put_12 : decode cX8_put 12 = .ok (.aload_n 0, 1) := by decide +kernel
theorem dX8_put_13 : decode cX8_put 13 = .ok (.getfield 33, 3) := by decide +kernel
theorem dX8_put_16 : decode cX8_put 16 = .ok (.getfield 171, 3) := by decide +kernel
theorem dX8_put_19 : decode cX8_put 19 = .ok (.iload_n 3, 1) := by decide +kernel
theorem dX8_put_20 : decode cX8_put 20 = .ok (.iadd, 1) := by decide +kernel
theorem dX8_put_21 : decode cX8_put 21 = .ok (.bipush 80, 2) := by decide +kernel
theorem dX8_put_23 : decode cX8_put 23 = .ok (.if_icmp .le 6, 3) := by decide +kernel
theorem dX8_put_26 : decode cX8_put 26 = .ok (.bipush (-4), 2) := by decide +kernel
theorem dX8_put_28 : decode cX8_put 28 = .ok (.ireturn, 1) := by decide +kernel
theorem dX8_put_29 : decode cX8_put 29 = .ok (.iload_n 3, 1) := by decide +kernel
theorem dX8_put_30 : decode cX8_put 30 = .ok (.iconst 1, 1) := by decide +kernel
theorem dX8_put_31 : decode cX8_put 31 = .ok (.isub, 1) := by decide +kernel
theorem dX8_put_32 : decode cX8_put 32 = .ok (.istore 4, 2) := by decide +kernel
theorem dX8_put_34 : decode cX8_put 34 = .ok (.iload 4, 2) := by decide +kernel
theorem dX8_put_36 : decode cX8_put 36 = .ok (.ifCond .lt 22, 3) := by decide +kernel
theorem dX8_put_39 : decode cX8_put 39 = .ok (.aload_n 0, 1) := by decide +kernel
theorem dX8_put_40 : decode cX8_put 40 = .ok (.getfield 33, 3) := by decide +kernel
theorem dX8_put_43 : decode cX8_put 43 = .ok (.lload_n 1, 1) := by decide +kernel
theorem dX8_put_44 : decode cX8_put 44 = .ok (.iload 4, 2) := by decide +kernel
theorem dX8_put_46 : decode cX8_put 46 = .ok (.invokestatic 214, 3) := by decide +kernel
theorem dX8_put_49 : decode cX8_put 49 = .ok (.invokevirtual 218, 3) := by decide +kernel
theorem dX8_put_52 : decode cX8_put 52 = .ok (.iinc 4 (-1), 3) := by decide +kernel
theorem dX8_put_55 : decode cX8_put 55 = .ok (.goto (-21), 3) := by decide +kernel
theorem dX8_put_58 : decode cX8_put 58 = .ok (.aload_n 0, 1) := by decide +kernel
theorem dX8_put_59 : decode cX8_put 59 = .ok (.getfield 33, 3) := by decide +kernel
theorem dX8_put_62 : decode cX8_put 62 = .ok (.getfield 171, 3) := by decide +kernel
theorem dX8_put_65 : decode cX8_put 65 = .ok (.ireturn, 1) := by decide +kernel
set_option maxHeartbeats 4000000 in
set_option maxRecDepth 100000 in
theorem l_X8_put_34 (l : Launch) (D : va_G) (cA : ClassId) (a_this a_this_row a_this_coding a_this_trial a_this_pad a_this_history a_this_slots a_this_pad_signs a_this_pad_signs_cells : Nat) (j1 : Int64) (out : Int32 × Int32 × Ar) {p : Program} {e : Env} {s : State} {m : MethodId} {args : Array Value} {below : List Frame} {meth : Method} {c : Code} {A : Nat → Prop} (X : zX D cA p s m args meth c cX8_put 5 RX8 (some .int)) (k : Int32 → Ar → Option (Int32 × Int32 × Ar)) (hk : ∀ (v_pad_length : Int32) (g_pad_signs_cells : Ar) (H : Heap) (locs : List Loc) (ls : Array Slot), zH D A s (zw_28 cA 0 a_this a_this_row a_this_coding a_this_trial a_this_pad a_this_history a_this_slots a_this_pad_signs a_this_pad_signs_cells v_pad_length g_pad_signs_cells) H locs → lv_has ls 5 [(0, .ref a_this)] → k v_pad_length g_pad_signs_cells = some out → W p l e (zR 2 47) s m args below meth c H locs 0 0 (MQ below (zQ D (zw_28 cA 0 a_this a_this_row a_this_coding a_this_trial a_this_pad a_this_history a_this_slots a_this_pad_signs a_this_pad_signs_cells out.2.1 out.2.2) (some (.int out.1)) A) args s 0 0 A) (F0 m 58 ls [])) :
    ∀ (fuel : Nat) (v_pad_length : Int32) (g_pad_signs_cells : Ar) (i4 : Int32) (H : Heap) (locs : List Loc) (ls : Array Slot), zH D A s (zw_28 cA 0 a_this a_this_row a_this_coding a_this_trial a_this_pad a_this_history a_this_slots a_this_pad_signs a_this_pad_signs_cells v_pad_length g_pad_signs_cells) H locs → lv_has ls 5 [(0, .ref a_this), (1, .long j1), (4, .int i4)] → F_X8_put_L34 j1 k fuel v_pad_length g_pad_signs_cells i4 = some out → W p l e (zR 2 47) s m args below meth c H locs 0 0 (MQ below (zQ D (zw_28 cA 0 a_this a_this_row a_this_coding a_this_trial a_this_pad a_this_history a_this_slots a_this_pad_signs a_this_pad_signs_cells out.2.1 out.2.2) (some (.int out.1)) A) args s 0 0 A) (F0 m 34 ls []) := by
  intro fuel
  induction fuel with
  | zero => intro v_pad_length g_pad_signs_cells i4 H locs ls hw hl hF; exact nomatch (show (none : Option (Int32 × Int32 × Ar)) = some out from hF)
  | succ fuel ih =>
    intro v_pad_length g_pad_signs_cells i4 H locs ls hw hl hF
    rw [F_X8_put_L34] at hF
    refine z_iload 34 X dX8_put_34 hl 2 rfl ?_
    refine z_if_lt 36 58 X dX8_put_36 (by decide) (fun c5 => ?_) (fun c5 => ?_)
    · replace hF := zpos c5 hF
      exact hk v_pad_length g_pad_signs_cells H locs ls hw (lv_sub hl [0] rfl) hF
    · replace hF := zneg c5 hF
      refine z_aload_n 39 X dX8_put_39 hl 0 rfl ?_
      refine z_get 40 zc8 0 3 fl_8_33 X dX8_put_40 hw rfl (by decide) rfl ?_
      refine z_lload_n 43 X dX8_put_43 hl 1 rfl ?_
      refine z_iload 44 X dX8_put_44 hl 2 rfl ?_
      obtain ⟨u6, e7, hF⟩ := zbd hF
      refine z_callS 46 mv_X8_characterAt ml_8_214 [] (zw_28 cA 0 a_this a_this_row a_this_coding a_this_trial a_this_pad a_this_history a_this_slots a_this_pad_signs a_this_pad_signs_cells v_pad_length g_pad_signs_cells) [.ref a_this_pad] (m_X8_characterAt l D cA j1 i4 u6 e7) X dX8_put_46 hw hl rfl rfl (by decide) rfl rfl rfl (Nat.le_of_ble_eq_true rfl) ⟨Nat.le_of_ble_eq_true rfl, Nat.le_of_ble_eq_true rfl⟩ ⟨Nat.zero_le _, Nat.zero_le _⟩ (fun H locs hw => ?_)
      obtain ⟨u8, e9, hF⟩ := zbd hF
      refine z_callV 49 zc3 mv_X3_append ml_8_218 1 [1, 2, 3] (zw_28 cA 0 a_this a_this_row a_this_coding a_this_trial a_this_pad a_this_history a_this_slots a_this_pad_signs a_this_pad_signs_cells u8.1 u8.2) [] (m_X3_append l D cA a_this_pad a_this_pad_signs a_this_pad_signs_cells v_pad_length g_pad_signs_cells u6 u8 e9) X dX8_put_49 hw hl rfl rfl rfl (by decide) rfl rfl rfl (Nat.le_of_ble_eq_true rfl) ⟨Nat.le_of_ble_eq_true rfl, Nat.le_of_ble_eq_true rfl⟩ ⟨Nat.zero_le _, Nat.zero_le _⟩ (fun H locs hw => ?_)
      refine z_iinc2 52 (-1) [(4, .int (i4 + (-1))), (0, .ref a_this), (1, .long j1)] X dX8_put_52 hl 2 rfl (by decide) (by decide) rfl (fun ls hl => ?_)
      refine z_goto 55 34 X dX8_put_55 (by decide) ?_
      exact ih u8.1 u8.2 (i4 + (-1)) H locs ls hw (lv_sub hl [1, 2, 0] rfl) hF
set_option maxHeartbeats 4000000 in
set_option maxRecDepth 100000 in
theorem m_X8_put (l : Launch) (D : va_G) (cA : ClassId) (a_this a_this_row a_this_coding a_this_trial a_this_pad a_this_history a_this_slots a_this_pad_signs a_this_pad_signs_cells : Nat) (v_pad_length : Int32) (g_pad_signs_cells : Ar) (j1 : Int64) (out : Int32 × Int32 × Ar) (hF : F_X8_put v_pad_length g_pad_signs_cells j1 = some out) : zM l D cA yX8_put cX8_put 5 (some .int) 2 47 [.ref a_this, .long j1] (zw_28 cA 0 a_this a_this_row a_this_coding a_this_trial a_this_pad a_this_history a_this_slots a_this_pad_signs a_this_pad_signs_cells v_pad_length g_pad_signs_cells) (zw_28 cA 0 a_this a_this_row a_this_coding a_this_trial a_this_pad a_this_history a_this_slots a_this_pad_signs a_this_pad_signs_cells out.2.1 out.2.2) (some (.int out.1)) := by
  refine z_body (by decide) (Nat.le_of_ble_eq_true rfl) ?_
  intro p e s m args below meth c ls H locs A X hl hw
  have hl : lv_has ls 5 [(0, .ref a_this), (1, .long j1)] := hl
  unfold F_X8_put at hF
  refine z_lload_n 0 X dX8_put_0 hl 1 rfl ?_
  obtain ⟨u1, e2, hF⟩ := zbd hF
  refine z_callS 1 mv_X8_signsIn ml_8_210 [] (zw_28 cA 0 a_this a_this_row a_this_coding a_this_trial a_this_pad a_this_history a_this_slots a_this_pad_signs a_this_pad_signs_cells v_pad_length g_pad_signs_cells) [] (m_X8_signsIn l D cA j1 u1 e2) X dX8_put_1 hw hl rfl rfl (by decide) rfl rfl rfl (Nat.le_of_ble_eq_true rfl) ⟨Nat.le_of_ble_eq_true rfl, Nat.le_of_ble_eq_true rfl⟩ ⟨Nat.zero_le _, Nat.zero_le _⟩ (fun H locs hw => ?_)
  refine z_istore_n 4 [(3, .int u1), (0, .ref a_this), (1, .long j1)] X dX8_put_4 hl (by decide) rfl (fun ls hl => ?_)
  refine z_iload_n 5 X dX8_put_5 hl 0 rfl ?_
  refine z_if_ne 6 12 X dX8_put_6 (by decide) (fun c3 => ?_) (fun c3 => ?_)
  · replace hF := zneg c3 hF
    refine z_aload_n 12 X dX8_put_12 hl 1 rfl ?_
    refine z_get 13 zc8 0 3 fl_8_33 X dX8_put_13 hw rfl (by decide) rfl ?_
    refine z_getN 16 zc3 1 1 fl_8_171 X dX8_put_16 hw rfl (by decide) rfl ?_
    refine z_iload_n 19 X dX8_put_19 hl 0 rfl ?_
    refine z_iadd 20 X dX8_put_20 ?_
    refine z_bipush 21 80 X dX8_put_21 (by decide) ?_
    refine z_icmp_le 23 29 X dX8_put_23 (by decide) (fun c4 => ?_) (fun c4 => ?_)
    · replace hF := zpos c4 hF
      refine z_iload_n 29 X dX8_put_29 hl 0 rfl ?_
      refine z_iconst 30 1 X dX8_put_30 (by decide) ?_
      refine z_isub 31 X dX8_put_31 ?_
      refine z_istore 32 [(4, .int (u1 - 1)), (3, .int u1), (0, .ref a_this), (1, .long j1)] X dX8_put_32 hl (by decide) rfl (fun ls hl => ?_)
      refine l_X8_put_34 l D cA a_this a_this_row a_this_coding a_this_trial a_this_pad a_this_history a_this_slots a_this_pad_signs a_this_pad_signs_cells j1 out X _ (fun v_pad_length_10 g_pad_signs_cells_11 H locs ls hw hl hF => ?_) zFuel v_pad_length g_pad_signs_cells (u1 - 1) H locs ls hw (lv_sub hl [2, 3, 0] rfl) hF
      refine z_aload_n 58 X dX8_put_58 hl 0 rfl ?_
      refine z_get 59 zc8 0 3 fl_8_33 X dX8_put_59 hw rfl (by decide) rfl ?_
      refine z_getN 62 zc3 1 1 fl_8_171 X dX8_put_62 hw rfl (by decide) rfl ?_
      cases hF
      exact z_iret 65 X dX8_put_65 hw rfl rfl
    · replace hF := zneg c4 hF
      refine z_bipush 26 (-4) X dX8_put_26 (by decide) ?_
      cases hF
      exact z_iret 28 X dX8_put_28 hw rfl rfl
  · replace hF := zpos c3 hF
    refine z_bipush 9 (-2) X dX8_put_9 (by decide) ?_
    cases hF
    exact z_iret 11 X dX8_put_11 hw rfl rfl
theorem dX8_wipe_0 : decode cX8_wipe 0 = .ok (.aload_n 0, 1) := by decide +kernel
theorem dX8_wipe_1 : decode cX8_wipe 1 = .ok (.getfield 33, 3) := by decide +kernel
theorem dX8_wipe_4 : decode cX8_wipe 4 = .ok (.getfield 171, 3) := by decide +kernel
theorem dX8_wipe_7 : decode cX8_wipe 7 = .ok (.istore_n 1, 1) := by decide +kernel
theorem dX8_wipe_8 : decode cX8_wipe 8 = .ok (.aload_n 0, 1) := by decide +kernel
theorem dX8_wipe_9 : decode cX8_wipe 9 = .ok (.getfield 33, 3) := by decide +kernel
theorem dX8_wipe_12 : decode cX8_wipe 12 = .ok (.iconst 0, 1) := by decide +kernel
theorem dX8_wipe_13 : decode cX8_wipe 13 = .ok (.putfield 171, 3) := by decide +kernel
theorem dX8_wipe_16 : decode cX8_wipe 16 = .ok (.iload_n 1, 1) := by decide +kernel
theorem dX8_wipe_17 : decode cX8_wipe 17 = .ok (.ireturn, 1) := by decide +kernel
set_option maxHeartbeats 4000000 in
set_option maxRecDepth 100000 in
theorem m_X8_wipe (l : Launch) (D : va_G) (cA : ClassId) (a_this a_this_row a_this_coding a_this_trial a_this_pad a_this_history a_this_slots a_this_pad_signs : Nat) (v_pad_length : Int32) (out : Int32 × Int32) (hF : F_X8_wipe v_pad_length = some out) : zM l D cA yX8_wipe cX8_wipe 2 (some .int) 0 0 [.ref a_this] (zw_29 cA 0 a_this a_this_row a_this_coding a_this_trial a_this_pad a_this_history a_this_slots a_this_pad_signs v_pad_length) (zw_29 cA 0 a_this a_this_row a_this_coding a_this_trial a_this_pad a_this_history a_this_slots a_this_pad_signs out.2) (some (.int out.1)) := by
  refine z_body (by decide) (Nat.le_of_ble_eq_true rfl) ?_
  intro p e s m args below meth c ls H locs A X hl hw
  have hl : lv_has ls 2 [(0, .ref a_this)] := hl
  unfold F_X8_wipe at hF
  refine z_aload_n 0 X dX8_wipe_0 hl 0 rfl ?_
  refine z_get 1 zc8 0 3 fl_8_33 X dX8_wipe_1 hw rfl (by decide) rfl ?_
  refine z_getN 4 zc3 1 1 fl_8_171 X dX8_wipe_4 hw rfl (by decide) rfl ?_
  refine z_istore_n 7 [(1, .int v_pad_length), (0, .ref a_this)] X dX8_wipe_7 hl (by decide) rfl (fun ls hl => ?_)
  refine z_aload_n 8 X dX8_wipe_8 hl 1 rfl ?_
  refine z_get 9 zc8 0 3 fl_8_33 X dX8_wipe_9 hw rfl (by decide) rfl ?_
  refine z_iconst 12 0 X dX8_wipe_12 (by decide) ?_
  refine z_putN 13 zc3 1 1 (zw_29 cA 0 a_this a_this_row a_this_coding a_this_trial a_this_pad a_this_history a_this_slots a_this_pad_signs 0) fl_8_171 X dX8_wipe_13 hw rfl (by decide) rfl rfl rfl (Nat.le_of_ble_eq_true rfl) rfl (fun H locs hw => ?_)
  refine z_iload_n 16 X dX8_wipe_16 hl 0 rfl ?_
  cases hF
  exact z_iret 17 X dX8_wipe_17 hw rfl rfl
theorem dX8_fault_0 : decode cX8_fault 0 = .ok (.aload_n 0, 1) := by decide +kernel
theorem dX8_fault_1 : decode cX8_fault 1 = .ok (.getfield 33, 3) := by decide +kernel
theorem dX8_fault_4 : decode cX8_fault 4 = .ok (.invokevirtual 221, 3) := by decide +kernel
theorem dX8_fault_7 : decode cX8_fault 7 = .ok (.ireturn, 1) := by decide +kernel
set_option maxHeartbeats 4000000 in
set_option maxRecDepth 100000 in
theorem m_X8_fault (l : Launch) (D : va_G) (cA : ClassId) (a_this a_this_row a_this_coding a_this_trial a_this_pad a_this_history a_this_slots a_this_pad_signs a_this_pad_signs_cells : Nat) (v_pad_length : Int32) (g_pad_signs_cells : Ar) (out : Int32) (hF : F_X8_fault v_pad_length g_pad_signs_cells = some out) : zM l D cA yX8_fault cX8_fault 1 (some .int) 3 66 [.ref a_this] (zw_28 cA 0 a_this a_this_row a_this_coding a_this_trial a_this_pad a_this_history a_this_slots a_this_pad_signs a_this_pad_signs_cells v_pad_length g_pad_signs_cells) (zw_28 cA 0 a_this a_this_row a_this_coding a_this_trial a_this_pad a_this_history a_this_slots a_this_pad_signs a_this_pad_signs_cells v_pad_length g_pad_signs_cells) (some (.int out)) := by
  refine z_body (by decide) (Nat.le_of_ble_eq_true rfl) ?_
  intro p e s m args below meth c ls H locs A X hl hw
  have hl : lv_has ls 1 [(0, .ref a_this)] := hl
  unfold F_X8_fault at hF
  refine z_aload_n 0 X dX8_fault_0 hl 0 rfl ?_
  refine z_get 1 zc8 0 3 fl_8_33 X dX8_fault_1 hw rfl (by decide) rfl ?_
  obtain ⟨u1, e2, hF⟩ := zbd hF
  refine z_callV 4 zc3 mv_X3_faultPlace ml_8_221 1 [1, 2, 3] (zw_28 cA 0 a_this a_this_row a_this_coding a_this_trial a_this_pad a_this_history a_this_slots a_this_pad_signs a_this_pad_signs_cells v_pad_length g_pad_signs_cells) [] (m_X3_faultPlace l D cA a_this_pad a_this_pad_signs a_this_pad_signs_cells v_pad_length g_pad_signs_cells u1 e2) X dX8_fault_4 hw hl rfl rfl rfl (by decide) rfl rfl rfl (Nat.le_of_ble_eq_true rfl) ⟨Nat.le_of_ble_eq_true rfl, Nat.le_of_ble_eq_true rfl⟩ ⟨Nat.zero_le _, Nat.zero_le _⟩ (fun H locs hw => ?_)
  cases hF
  exact z_iret 7 X dX8_fault_7 hw rfl rfl
theorem dX8_carryNumber_0 : decode cX8_carryNumber 0 = .ok (.iload_n 1, 1) := by decide +kernel
theorem dX8_carryNumber_1 : decode cX8_carryNumber 1 = .ok (.lookupswitch 54 #[(43, 35), (45, 41), (98, 47)], 35) := by decide +kernel
theorem dX8_carryNumber_36 : decode cX8_carryNumber 36 = .ok (.aload_n 0, 1) := by decide +kernel
theorem dX8_carryNumber_37 : decode cX8_carryNumber 37 = .ok (.iload_n 2, 1) := by decide +kernel
theorem dX8_carryNumber_38 : decode cX8_carryNumber 38 = .ok (.invokevirtual 65, 3) := by decide +kernel
theorem dX8_carryNumber_41 : decode cX8_carryNumber 41 = .ok (.ireturn, 1) := by decide +kernel
theorem dX8_carryNumber_42 : decode cX8_carryNumber 42 = .ok (.aload_n 0, 1) := by decide +kernel
theorem dX8_carryNumber_43 : decode cX8_carryNumber 43 = .ok (.iload_n 2, 1) := by decide +kernel
theorem dX8_carryNumber_44 : decode cX8_carryNumber 44 = .ok (.invokevirtual 68, 3) := by decide +kernel
theorem dX8_carryNumber_47 : decode cX8_carryNumber 47 = .ok (.ireturn, 1) := by decide +kernel
theorem dX8_carryNumber_48 : decode cX8_carryNumber 48 = .ok (.aload_n 0, 1) := by decide +kernel
theorem dX8_carryNumber_49 : decode cX8_carryNumber 49 = .ok (.iconst 0, 1) := by decide +kernel
theorem dX8_carryNumber_50 : decode cX8_carryNumber 50 = .ok (.iload_n 2, 1) := by decide +kernel
theorem dX8_carryNumber_51 : decode cX8_carryNumber 51 = .ok (.invokevirtual 57, 3) := by decide +kernel
theorem dX8_carryNumber_54 : decode cX8_carryNumber 54 = .ok (.ireturn, 1) := by decide +kernel
theorem dX8_carryNumber_55 : decode cX8_carryNumber 55 = .ok (.aload_n 0, 1) := by decide +kernel
theorem dX8_carryNumber_56 : decode cX8_carryNumber 56 = .ok (.iconst 1, 1) := by decide +kernel
theorem dX8_carryNumber_57 : decode cX8_carryNumber 57 = .ok (.iload_n 2, 1) := by decide +kernel
theorem dX8_carryNumber_58 : decode cX8_carryNumber 58 = .ok (.invokevirtual 57, 3) := by decide +kernel
theorem dX8_carryNumber_61 : decode cX8_carryNumber 61 = .ok (.ireturn, 1) := by decide +kernel
set_option maxHeartbeats 4000000 in
set_option maxRecDepth 100000 in
theorem m_X8_carryNumber (l : Launch) (D : va_G) (cA : ClassId) (a_this a_this_row a_this_coding a_this_trial a_this_pad a_this_history a_this_slots a_this_row_numbers a_this_row_numbers_cells : Nat) (v_row_length : Int32) (v_row_blockSize : Int32) (v_row_ones : Int32) (g_row_numbers_cells : Ar) (i1 : Int32) (i2 : Int32) (out : Int32 × Int32 × Int32 × Int32 × Ar) (hF : F_X8_carryNumber v_row_length v_row_blockSize v_row_ones g_row_numbers_cells i1 i2 = some out) : zM l D cA yX8_carryNumber cX8_carryNumber 3 (some .int) 4 87 [.ref a_this, .int i1, .int i2] (zw_14 cA 0 a_this a_this_row a_this_coding a_this_trial a_this_pad a_this_history a_this_slots a_this_row_numbers a_this_row_numbers_cells v_row_length v_row_blockSize v_row_ones g_row_numbers_cells) (zw_14 cA 0 a_this a_this_row a_this_coding a_this_trial a_this_pad a_this_history a_this_slots a_this_row_numbers a_this_row_numbers_cells out.2.1 out.2.2.1 out.2.2.2.1 out.2.2.2.2) (some (.int out.1)) := by
  refine z_body (by decide) (Nat.le_of_ble_eq_true rfl) ?_
  intro p e s m args below meth c ls H locs A X hl hw
  have hl : lv_has ls 3 [(0, .ref a_this), (1, .int i1), (2, .int i2)] := hl
  unfold F_X8_carryNumber at hF
  refine z_iload_n 0 X dX8_carryNumber_0 hl 1 rfl ?_
  by_cases c1 : i1 = 43
  · replace hF := zpos c1 hF
    refine z_lswt 1 36 X dX8_carryNumber_1 (by decide) (by rw [c1]) (by decide) ?_
    refine z_aload_n 36 X dX8_carryNumber_36 hl 0 rfl ?_
    refine z_iload_n 37 X dX8_carryNumber_37 hl 2 rfl ?_
    obtain ⟨u2, e3, hF⟩ := zbd hF
    refine z_callV 38 zc8 mv_X8_addNumber ml_8_65 0 [0, 1, 2, 3] (zw_14 cA 0 a_this a_this_row a_this_coding a_this_trial a_this_pad a_this_history a_this_slots a_this_row_numbers a_this_row_numbers_cells u2.2.1 v_row_blockSize v_row_ones u2.2.2) [] (m_X8_addNumber l D cA a_this a_this_row a_this_coding a_this_trial a_this_pad a_this_history a_this_slots a_this_row_numbers a_this_row_numbers_cells v_row_length v_row_blockSize v_row_ones g_row_numbers_cells i2 u2 e3) X dX8_carryNumber_38 hw hl rfl rfl rfl (by decide) rfl rfl rfl (Nat.le_of_ble_eq_true rfl) ⟨Nat.le_of_ble_eq_true rfl, Nat.le_of_ble_eq_true rfl⟩ ⟨Nat.zero_le _, Nat.zero_le _⟩ (fun H locs hw => ?_)
    cases hF
    exact z_iret 41 X dX8_carryNumber_41 hw rfl rfl
  · replace hF := zneg c1 hF
    by_cases c4 : i1 = 45
    · replace hF := zpos c4 hF
      refine z_lswt 1 42 X dX8_carryNumber_1 (by decide) (by rw [c4]) (by decide) ?_
      refine z_aload_n 42 X dX8_carryNumber_42 hl 0 rfl ?_
      refine z_iload_n 43 X dX8_carryNumber_43 hl 2 rfl ?_
      obtain ⟨u5, e6, hF⟩ := zbd hF
      refine z_callV 44 zc8 mv_X8_dropNumber ml_8_68 0 [0, 1, 2, 3] (zw_14 cA 0 a_this a_this_row a_this_coding a_this_trial a_this_pad a_this_history a_this_slots a_this_row_numbers a_this_row_numbers_cells u5.2.1 v_row_blockSize v_row_ones u5.2.2) [] (m_X8_dropNumber l D cA a_this a_this_row a_this_coding a_this_trial a_this_pad a_this_history a_this_slots a_this_row_numbers a_this_row_numbers_cells v_row_length v_row_blockSize v_row_ones g_row_numbers_cells i2 u5 e6) X dX8_carryNumber_44 hw hl rfl rfl rfl (by decide) rfl rfl rfl (Nat.le_of_ble_eq_true rfl) ⟨Nat.le_of_ble_eq_true rfl, Nat.le_of_ble_eq_true rfl⟩ ⟨Nat.zero_le _, Nat.zero_le _⟩ (fun H locs hw => ?_)
      cases hF
      exact z_iret 47 X dX8_carryNumber_47 hw rfl rfl
    · replace hF := zneg c4 hF
      by_cases c7 : i1 = 98
      · replace hF := zpos c7 hF
        refine z_lswt 1 48 X dX8_carryNumber_1 (by decide) (by rw [c7]) (by decide) ?_
        refine z_aload_n 48 X dX8_carryNumber_48 hl 0 rfl ?_
        refine z_iconst 49 0 X dX8_carryNumber_49 (by decide) ?_
        refine z_iload_n 50 X dX8_carryNumber_50 hl 2 rfl ?_
        obtain ⟨u8, e9, hF⟩ := zbd hF
        refine z_callV 51 zc8 mv_X8_changeSetting ml_8_57 0 [0, 1] (zw_14 cA 0 a_this a_this_row a_this_coding a_this_trial a_this_pad a_this_history a_this_slots a_this_row_numbers a_this_row_numbers_cells v_row_length u8.2.1 u8.2.2 g_row_numbers_cells) [] (m_X8_changeSetting l D cA a_this a_this_row a_this_coding a_this_trial a_this_pad a_this_history a_this_slots a_this_row_numbers v_row_length v_row_blockSize v_row_ones 0 i2 u8 e9) X dX8_carryNumber_51 hw hl rfl rfl rfl (by decide) rfl rfl rfl (Nat.le_of_ble_eq_true rfl) ⟨Nat.le_of_ble_eq_true rfl, Nat.le_of_ble_eq_true rfl⟩ ⟨Nat.zero_le _, Nat.zero_le _⟩ (fun H locs hw => ?_)
        cases hF
        exact z_iret 54 X dX8_carryNumber_54 hw rfl rfl
      · replace hF := zneg c7 hF
        refine z_lswt 1 55 X dX8_carryNumber_1 (by decide) (z_lswD c1 c4 c7) (by decide) ?_
        refine z_aload_n 55 X dX8_carryNumber_55 hl 0 rfl ?_
        refine z_iconst 56 1 X dX8_carryNumber_56 (by decide) ?_
        refine z_iload_n 57 X dX8_carryNumber_57 hl 2 rfl ?_
        obtain ⟨u10, e11, hF⟩ := zbd hF
        refine z_callV 58 zc8 mv_X8_changeSetting ml_8_57 0 [0, 1] (zw_14 cA 0 a_this a_this_row a_this_coding a_this_trial a_this_pad a_this_history a_this_slots a_this_row_numbers a_this_row_numbers_cells v_row_length u10.2.1 u10.2.2 g_row_numbers_cells) [] (m_X8_changeSetting l D cA a_this a_this_row a_this_coding a_this_trial a_this_pad a_this_history a_this_slots a_this_row_numbers v_row_length v_row_blockSize v_row_ones 1 i2 u10 e11) X dX8_carryNumber_58 hw hl rfl rfl rfl (by decide) rfl rfl rfl (Nat.le_of_ble_eq_true rfl) ⟨Nat.le_of_ble_eq_true rfl, Nat.le_of_ble_eq_true rfl⟩ ⟨Nat.zero_le _, Nat.zero_le _⟩ (fun H locs hw => ?_)
        cases hF
        exact z_iret 61 X dX8_carryNumber_61 hw rfl rfl
theorem dX8_carryOrders_0 : decode cX8_carryOrders 0 = .ok (.iconst 0, 1) := by decide +kernel
theorem dX8_carryOrders_1 : decode cX8_carryOrders 1 = .ok (.istore_n 1, 1) := by decide +kernel
theorem dX8_carryOrders_2 : decode cX8_carryOrders 2 = .ok (.iconst 0, 1) := by decide +kernel
theorem dX8_carryOrders_3 : decode cX8_carryOrders 3 = .ok (.istore_n 2, 1) := by decide +kernel
theorem dX8_carryOrders_4 : decode cX8_carryOrders 4 = .ok (.iconst 0, 1) := by decide +kernel
theorem dX8_carryOrders_5 : decode cX8_carryOrders 5 = .ok (.istore_n 3, 1) := by decide +kernel
theorem dX8_carryOrders_6 : decode cX8_carryOrders 6 = .ok (.iconst 0, 1) := by decide +kernel
theorem dX8_carryOrders_7 : decode cX8_carryOrders 7 = .ok (.istore 4, 2) := by decide +kernel
theorem dX8_carryOrders_9 : decode cX8_carryOrders 9 = .ok (.iload 4, 2) := by decide +kernel
theorem dX8_carryOrders_11 : decode cX8_carryOrders 11 = .ok (.aload_n 0, 1) := by decide +kernel
theorem dX8_carryOrders_12 : decode cX8_carryOrders 12 = .ok (.getfield 33, 3) := by decide +kernel
theorem dX8_carryOrders_15 : decode cX8_carryOrders 15 = .ok (.getfield 171, 3) := by decide +kernel
theorem dX8_carryOrders_18 : decode cX8_carryOrders 18 = .ok (.if_icmp .gt 90, 3) := by decide +kernel
theorem dX8_carryOrders_21 : decode cX8_carryOrders 21 = .ok (.aload_n 0, 1) := by decide +kernel
theorem dX8_carryOrders_22 : decode cX8_carryOrders 22 = .ok (.getfield 33, 3) := by decide +kernel
theorem dX8_carryOrders_25 : decode cX8_carryOrders 25 = .ok (.iload 4, 2) := by decide +kernel
theorem dX8_carryOrders_27 : decode cX8_carryOrders 27 = .ok (.invokevirtual 261, 3) := by decide +kernel
theorem dX8_carryOrders_30 : decode cX8_carryOrders 30 = .ok (.istore 5, 2) := by decide +kernel
theorem dX8_carryOrders_32 : decode cX8_carryOrders 32 = .ok (.iload 5, 2) := by decide +kernel
theorem dX8_carryOrders_34 : decode cX8_carryOrders 34 = .ok (.invokestatic 264, 3) := by decide +kernel
theorem dX8_carryOrders_37 : decode cX8_carryOrders 37 = .ok (.ifCond .eq 17, 3) := by decide +kernel
theorem dX8_carryOrders_40 : decode cX8_carryOrders 40 = .ok (.iload_n 3, 1) := by decide +kernel
theorem dX8_carryOrders_41 : decode cX8_carryOrders 41 = .ok (.bipush 10, 2) := by decide +kernel
theorem dX8_carryOrders_43 : decode cX8_carryOrders 43 = .ok (.imul, 1) := by decide +kernel
theorem dX8_carryOrders_44 : decode cX8_carryOrders 44 = .ok (.iload 5, 2) := by decide +kernel
theorem dX8_carryOrders_46 : decode cX8_carryOrders 46 = .ok (.bipush 48, 2) := by decide +kernel
theorem dX8_carryOrders_48 : decode cX8_carryOrders 48 = .ok (.isub, 1) := by decide +kernel
theorem dX8_carryOrders_49 : decode cX8_carryOrders 49 = .ok (.iadd, 1) := by decide +kernel
theorem dX8_carryOrders_50 : decode cX8_carryOrders 50 = .ok (.istore_n 3, 1) := by decide +kernel
theorem dX8_carryOrders_51 : decode cX8_carryOrders 51 = .ok (.goto 51, 3) := by decide +kernel
theorem dX8_carryOrders_54 : decode cX8_carryOrders 54 = .ok (.iload 5, 2) := by decide +kernel
theorem dX8_carryOrders_56 : decode cX8_carryOrders 56 = .ok (.bipush 44, 2) := by decide +kernel
theorem dX8_carryOrders_58 : decode cX8_carryOrders 58 = .ok (.if_icmp .eq 10, 3) := by decide +kernel
theorem dX8_carryOrders_61 : decode cX8_carryOrders 61 = .ok (.iload 5, 2) := by decide +kernel
theorem dX8_carryOrders_63 : decode cX8_carryOrders 63 = .ok (.bipush 59, 2) := by decide +kernel
theorem dX8_carryOrders_65 : decode cX8_carryOrders 65 = .ok (.if_icmp .ne 34, 3) := by decide +kernel
theorem dX8_carryOrders_68 : decode cX8_carryOrders 68 = .ok (.aload_n 0, 1) := by decide +kernel
theorem dX8_carryOrders_69 : decode cX8_carryOrders 69 = .ok (.iload_n 2, 1) := by decide +kernel
theorem dX8_carryOrders_70 : decode cX8_carryOrders 70 = .ok (.iload_n 3, 1) := by decide +kernel
theorem dX8_carryOrders_71 : decode cX8_carryOrders 71 = .ok (.invokevirtual 267, 3) := by decide +kernel
theorem dX8_carryOrders_74 : decode cX8_carryOrders 74 = .ok (.ifCond .ge 5, 3) := by decide +kernel
theorem dX8_carryOrders_77 : decode cX8_carryOrders 77 = .ok (.iload_n 1, 1) := by decide +kernel
theorem dX8_carryOrders_78 : decode cX8_carryOrders 78 = .ok (.ireturn, 1) := by decide +kernel
theorem dX8_carryOrders_79 : decode cX8_carryOrders 79 = .ok (.iconst 0, 1) := by decide +kernel
theorem dX8_carryOrders_80 : decode cX8_carryOrders 80 = .ok (.istore_n 3, 1) := by decide +kernel
theorem dX8_carryOrders_81 : decode cX8_carryOrders 81 = .ok (.iload_n 1, 1) := by decide +kernel
theorem dX8_carryOrders_82 : decode cX8_carryOrders 82 = .ok (.iload 5, 2) := by decide +kernel
theorem dX8_carryOrders_84 : decode cX8_carryOrders 84 = .ok (.bipush 59, 2) := by decide +kernel
theorem dX8_carryOrders_86 : decode cX8_carryOrders 86 = .ok (.if_icmp .ne 7, 3) := by decide +kernel
theorem dX8_carryOrders_89 : decode cX8_carryOrders 89 = .ok (.iconst 1, 1) := by decide +kernel
theorem dX8_carryOrders_90 : decode cX8_carryOrders 90 = .ok (.goto 4, 3) := by decide +kernel
theorem dX8_carryOrders_93 : decode cX8_carryOrders 93 = .ok (.iconst 0, 1) := by decide +kernel
theorem dX8_carryOrders_94 : decode cX8_carryOrders 94 = .ok (.iadd, 1) := by decide +kernel
theorem dX8_carryOrders_95 : decode cX8_carryOrders 95 = .ok (.istore_n 1, 1) := by decide +kernel
theorem dX8_carryOrders_96 : decode cX8_carryOrders 96 = .ok (.goto 6, 3) := by decide +kernel
theorem dX8_carryOrders_99 : decode cX8_carryOrders 99 = .ok (.iload 5, 2) := by decide +kernel
theorem dX8_carryOrders_101 : decode cX8_carryOrders 101 = .ok (.istore_n 2, 1) := by decide +kernel
theorem dX8_carryOrders_102 : decode cX8_carryOrders 102 = .ok (.iinc 4 1, 3) := by decide +kernel
theorem dX8_carryOrders_105 : decode cX8_carryOrders 105 = .ok (.goto (-96), 3) := by decide +kernel
theorem dX8_carryOrders_108 : decode cX8_carryOrders 108 = .ok (.iload_n 1, 1) := by decide +kernel
theorem dX8_carryOrders_109 : decode cX8_carryOrders 109 = .ok (.ireturn, 1) := by decide +kernel
set_option maxHeartbeats 4000000 in
set_option maxRecDepth 100000 in
theorem l_X8_carryOrders_9 (l : Launch) (D : va_G) (cA : ClassId) (a_this a_this_row a_this_coding a_this_trial a_this_pad a_this_history a_this_slots a_this_pad_signs a_this_pad_signs_cells a_this_row_numbers a_this_row_numbers_cells : Nat) (v_pad_length : Int32) (g_pad_signs_cells : Ar) (out : Int32 × Int32 × Int32 × Int32 × Ar) {p : Program} {e : Env} {s : State} {m : MethodId} {args : Array Value} {below : List Frame} {meth : Method} {c : Code} {A : Nat → Prop} (X : zX D cA p s m args meth c cX8_carryOrders 6 RX8 (some .int)) (k : Int32 → Int32 → Int32 → Ar → Int32 → Option (Int32 × Int32 × Int32 × Int32 × Ar)) (hk : ∀ (v_row_length : Int32) (v_row_blockSize : Int32) (v_row_ones : Int32) (g_row_numbers_cells : Ar) (i1 : Int32) (H : Heap) (locs : List Loc) (ls : Array Slot), zH D A s (zw_30 cA 0 a_this a_this_row a_this_coding a_this_trial a_this_pad a_this_history a_this_slots a_this_pad_signs a_this_pad_signs_cells a_this_row_numbers a_this_row_numbers_cells v_pad_length g_pad_signs_cells v_row_length v_row_blockSize v_row_ones g_row_numbers_cells) H locs → lv_has ls 6 [(1, .int i1)] → k v_row_length v_row_blockSize v_row_ones g_row_numbers_cells i1 = some out → W p l e (zR 5 109) s m args below meth c H locs 0 0 (MQ below (zQ D (zw_30 cA 0 a_this a_this_row a_this_coding a_this_trial a_this_pad a_this_history a_this_slots a_this_pad_signs a_this_pad_signs_cells a_this_row_numbers a_this_row_numbers_cells v_pad_length g_pad_signs_cells out.2.1 out.2.2.1 out.2.2.2.1 out.2.2.2.2) (some (.int out.1)) A) args s 0 0 A) (F0 m 108 ls [])) :
    ∀ (fuel : Nat) (v_row_length : Int32) (v_row_blockSize : Int32) (v_row_ones : Int32) (g_row_numbers_cells : Ar) (i1 : Int32) (i2 : Int32) (i3 : Int32) (i4 : Int32) (H : Heap) (locs : List Loc) (ls : Array Slot), zH D A s (zw_30 cA 0 a_this a_this_row a_this_coding a_this_trial a_this_pad a_this_history a_this_slots a_this_pad_signs a_this_pad_signs_cells a_this_row_numbers a_this_row_numbers_cells v_pad_length g_pad_signs_cells v_row_length v_row_blockSize v_row_ones g_row_numbers_cells) H locs → lv_has ls 6 [(0, .ref a_this), (1, .int i1), (2, .int i2), (3, .int i3), (4, .int i4)] → F_X8_carryOrders_L9 v_pad_length g_pad_signs_cells k fuel v_row_length v_row_blockSize v_row_ones g_row_numbers_cells i1 i2 i3 i4 = some out → W p l e (zR 5 109) s m args below meth c H locs 0 0 (MQ below (zQ D (zw_30 cA 0 a_this a_this_row a_this_coding a_this_trial a_this_pad a_this_history a_this_slots a_this_pad_signs a_this_pad_signs_cells a_this_row_numbers a_this_row_numbers_cells v_pad_length g_pad_signs_cells out.2.1 out.2.2.1 out.2.2.2.1 out.2.2.2.2) (some (.int out.1)) A) args s 0 0 A) (F0 m 9 ls []) := by
  intro fuel
  induction fuel with
  | zero => intro v_row_length v_row_blockSize v_row_ones g_row_numbers_cells i1 i2 i3 i4 H locs ls hw hl hF; exact nomatch (show (none : Option (Int32 × Int32 × Int32 × Int32 × Ar)) = some out from hF)
  | succ fuel ih =>
    intro v_row_length v_row_blockSize v_row_ones g_row_numbers_cells i1 i2 i3 i4 H locs ls hw hl hF
    rw [F_X8_carryOrders_L9] at hF
    refine z_iload 9 X dX8_carryOrders_9 hl 4 rfl ?_
    refine z_aload_n 11 X dX8_carryOrders_11 hl 0 rfl ?_
    refine z_get 12 zc8 0 3 fl_8_33 X dX8_carryOrders_12 hw rfl (by decide) rfl ?_
    refine z_getN 15 zc3 1 1 fl_8_171 X dX8_carryOrders_15 hw rfl (by decide) rfl ?_
    refine z_icmp_gt 18 108 X dX8_carryOrders_18 (by decide) (fun c1 => ?_) (fun c1 => ?_)
    · replace hF := zpos c1 hF
      exact hk v_row_length v_row_blockSize v_row_ones g_row_numbers_cells i1 H locs ls hw (lv_sub hl [1] rfl) hF
    · replace hF := zneg c1 hF
      refine z_aload_n 21 X dX8_carryOrders_21 hl 0 rfl ?_
      refine z_get 22 zc8 0 3 fl_8_33 X dX8_carryOrders_22 hw rfl (by decide) rfl ?_
      refine z_iload 25 X dX8_carryOrders_25 hl 4 rfl ?_
      obtain ⟨u2, e3, hF⟩ := zbd hF
      refine z_callV 27 zc3 mv_X3_signOrEnd ml_8_261 1 [1, 2, 3] (zw_30 cA 0 a_this a_this_row a_this_coding a_this_trial a_this_pad a_this_history a_this_slots a_this_pad_signs a_this_pad_signs_cells a_this_row_numbers a_this_row_numbers_cells v_pad_length g_pad_signs_cells v_row_length v_row_blockSize v_row_ones g_row_numbers_cells) [] (m_X3_signOrEnd l D cA a_this_pad a_this_pad_signs a_this_pad_signs_cells v_pad_length g_pad_signs_cells i4 u2 e3) X dX8_carryOrders_27 hw hl rfl rfl rfl (by decide) rfl rfl rfl (Nat.le_of_ble_eq_true rfl) ⟨Nat.le_of_ble_eq_true rfl, Nat.le_of_ble_eq_true rfl⟩ ⟨Nat.zero_le _, Nat.zero_le _⟩ (fun H locs hw => ?_)
      refine z_istore 30 [(5, .int u2), (0, .ref a_this), (1, .int i1), (2, .int i2), (3, .int i3), (4, .int i4)] X dX8_carryOrders_30 hl (by decide) rfl (fun ls hl => ?_)
      refine z_iload 32 X dX8_carryOrders_32 hl 0 rfl ?_
      obtain ⟨u4, e5, hF⟩ := zbd hF
      refine z_callS 34 mv_X8_isDigit ml_8_264 [] (zw_30 cA 0 a_this a_this_row a_this_coding a_this_trial a_this_pad a_this_history a_this_slots a_this_pad_signs a_this_pad_signs_cells a_this_row_numbers a_this_row_numbers_cells v_pad_length g_pad_signs_cells v_row_length v_row_blockSize v_row_ones g_row_numbers_cells) [] (m_X8_isDigit l D cA u2 u4 e5) X dX8_carryOrders_34 hw hl rfl rfl (by decide) rfl rfl rfl (Nat.le_of_ble_eq_true rfl) ⟨Nat.le_of_ble_eq_true rfl, Nat.le_of_ble_eq_true rfl⟩ ⟨Nat.zero_le _, Nat.zero_le _⟩ (fun H locs hw => ?_)
      refine z_if_eq 37 54 X dX8_carryOrders_37 (by decide) (fun c6 => ?_) (fun c6 => ?_)
      · replace hF := zpos c6 hF
        refine z_iload 54 X dX8_carryOrders_54 hl 0 rfl ?_
        refine z_bipush 56 44 X dX8_carryOrders_56 (by decide) ?_
        refine z_icmp_eq 58 68 X dX8_carryOrders_58 (by decide) (fun c7 => ?_) (fun c7 => ?_)
        · replace hF := zpos c7 hF
          refine z_aload_n 68 X dX8_carryOrders_68 hl 1 rfl ?_
          refine z_iload_n 69 X dX8_carryOrders_69 hl 3 rfl ?_
          refine z_iload_n 70 X dX8_carryOrders_70 hl 4 rfl ?_
          obtain ⟨u8, e9, hF⟩ := zbd hF
          refine z_callV 71 zc8 mv_X8_carryNumber ml_8_267 0 [0, 4, 5, 6] (zw_30 cA 0 a_this a_this_row a_this_coding a_this_trial a_this_pad a_this_history a_this_slots a_this_pad_signs a_this_pad_signs_cells a_this_row_numbers a_this_row_numbers_cells v_pad_length g_pad_signs_cells u8.2.1 u8.2.2.1 u8.2.2.2.1 u8.2.2.2.2) [] (m_X8_carryNumber l D cA a_this a_this_row a_this_coding a_this_trial a_this_pad a_this_history a_this_slots a_this_row_numbers a_this_row_numbers_cells v_row_length v_row_blockSize v_row_ones g_row_numbers_cells i2 i3 u8 e9) X dX8_carryOrders_71 hw hl rfl rfl rfl (by decide) rfl rfl rfl (Nat.le_of_ble_eq_true rfl) ⟨Nat.le_of_ble_eq_true rfl, Nat.le_of_ble_eq_true rfl⟩ ⟨Nat.zero_le _, Nat.zero_le _⟩ (fun H locs hw => ?_)
          refine z_if_ge 74 79 X dX8_carryOrders_74 (by decide) (fun c10 => ?_) (fun c10 => ?_)
          · replace hF := zpos c10 hF
            refine z_iconst 79 0 X dX8_carryOrders_79 (by decide) ?_
            refine z_istore_n 80 [(3, .int 0), (5, .int u2), (0, .ref a_this), (1, .int i1), (2, .int i2), (4, .int i4)] X dX8_carryOrders_80 hl (by decide) rfl (fun ls hl => ?_)
            refine z_iload_n 81 X dX8_carryOrders_81 hl 3 rfl ?_
            refine z_iload 82 X dX8_carryOrders_82 hl 1 rfl ?_
            refine z_bipush 84 59 X dX8_carryOrders_84 (by decide) ?_
            refine z_icmp_ne 86 93 X dX8_carryOrders_86 (by decide) (fun c11 => ?_) (fun c11 => ?_)
            · replace hF := zneg c11 hF
              refine z_iconst 93 0 X dX8_carryOrders_93 (by decide) ?_
              refine z_iadd 94 X dX8_carryOrders_94 ?_
              refine z_istore_n 95 [(1, .int (i1 + 0)), (3, .int 0), (5, .int u2), (0, .ref a_this), (2, .int i2), (4, .int i4)] X dX8_carryOrders_95 hl (by decide) rfl (fun ls hl => ?_)
              refine z_goto 96 102 X dX8_carryOrders_96 (by decide) ?_
              refine z_iinc2 102 1 [(4, .int (i4 + 1)), (1, .int (i1 + 0)), (3, .int 0), (5, .int u2), (0, .ref a_this), (2, .int i2)] X dX8_carryOrders_102 hl 5 rfl (by decide) (by decide) rfl (fun ls hl => ?_)
              refine z_goto 105 9 X dX8_carryOrders_105 (by decide) ?_
              exact ih u8.2.1 u8.2.2.1 u8.2.2.2.1 u8.2.2.2.2 (i1 + 0) i2 0 (i4 + 1) H locs ls hw (lv_sub hl [4, 1, 5, 2, 0] rfl) hF
            · replace hF := zpos c11 hF
              refine z_iconst 89 1 X dX8_carryOrders_89 (by decide) ?_
              refine z_goto 90 94 X dX8_carryOrders_90 (by decide) ?_
              refine z_iadd 94 X dX8_carryOrders_94 ?_
              refine z_istore_n 95 [(1, .int (i1 + 1)), (3, .int 0), (5, .int u2), (0, .ref a_this), (2, .int i2), (4, .int i4)] X dX8_carryOrders_95 hl (by decide) rfl (fun ls hl => ?_)
              refine z_goto 96 102 X dX8_carryOrders_96 (by decide) ?_
              refine z_iinc2 102 1 [(4, .int (i4 + 1)), (1, .int (i1 + 1)), (3, .int 0), (5, .int u2), (0, .ref a_this), (2, .int i2)] X dX8_carryOrders_102 hl 5 rfl (by decide) (by decide) rfl (fun ls hl => ?_)
              refine z_goto 105 9 X dX8_carryOrders_105 (by decide) ?_
              exact ih u8.2.1 u8.2.2.1 u8.2.2.2.1 u8.2.2.2.2 (i1 + 1) i2 0 (i4 + 1) H locs ls hw (lv_sub hl [4, 1, 5, 2, 0] rfl) hF
          · replace hF := zneg c10 hF
            refine z_iload_n 77 X dX8_carryOrders_77 hl 2 rfl ?_
            cases hF
            exact z_iret 78 X dX8_carryOrders_78 hw rfl rfl
        · replace hF := zneg c7 hF
          refine z_iload 61 X dX8_carryOrders_61 hl 0 rfl ?_
          refine z_bipush 63 59 X dX8_carryOrders_63 (by decide) ?_
          refine z_icmp_ne 65 99 X dX8_carryOrders_65 (by decide) (fun c12 => ?_) (fun c12 => ?_)
          · replace hF := zneg c12 hF
            refine z_iload 99 X dX8_carryOrders_99 hl 0 rfl ?_
            refine z_istore_n 101 [(2, .int u2), (5, .int u2), (0, .ref a_this), (1, .int i1), (3, .int i3), (4, .int i4)] X dX8_carryOrders_101 hl (by decide) rfl (fun ls hl => ?_)
            refine z_iinc2 102 1 [(4, .int (i4 + 1)), (2, .int u2), (5, .int u2), (0, .ref a_this), (1, .int i1), (3, .int i3)] X dX8_carryOrders_102 hl 5 rfl (by decide) (by decide) rfl (fun ls hl => ?_)
            refine z_goto 105 9 X dX8_carryOrders_105 (by decide) ?_
            exact ih v_row_length v_row_blockSize v_row_ones g_row_numbers_cells i1 u2 i3 (i4 + 1) H locs ls hw (lv_sub hl [3, 4, 1, 5, 0] rfl) hF
          · replace hF := zpos c12 hF
            refine z_aload_n 68 X dX8_carryOrders_68 hl 1 rfl ?_
            refine z_iload_n 69 X dX8_carryOrders_69 hl 3 rfl ?_
            refine z_iload_n 70 X dX8_carryOrders_70 hl 4 rfl ?_
            obtain ⟨u13, e14, hF⟩ := zbd hF
            refine z_callV 71 zc8 mv_X8_carryNumber ml_8_267 0 [0, 4, 5, 6] (zw_30 cA 0 a_this a_this_row a_this_coding a_this_trial a_this_pad a_this_history a_this_slots a_this_pad_signs a_this_pad_signs_cells a_this_row_numbers a_this_row_numbers_cells v_pad_length g_pad_signs_cells u13.2.1 u13.2.2.1 u13.2.2.2.1 u13.2.2.2.2) [] (m_X8_carryNumber l D cA a_this a_this_row a_this_coding a_this_trial a_this_pad a_this_history a_this_slots a_this_row_numbers a_this_row_numbers_cells v_row_length v_row_blockSize v_row_ones g_row_numbers_cells i2 i3 u13 e14) X dX8_carryOrders_71 hw hl rfl rfl rfl (by decide) rfl rfl rfl (Nat.le_of_ble_eq_true rfl) ⟨Nat.le_of_ble_eq_true rfl, Nat.le_of_ble_eq_true rfl⟩ ⟨Nat.zero_le _, Nat.zero_le _⟩ (fun H locs hw => ?_)
            refine z_if_ge 74 79 X dX8_carryOrders_74 (by decide) (fun c15 => ?_) (fun c15 => ?_)
            · replace hF := zpos c15 hF
              refine z_iconst 79 0 X dX8_carryOrders_79 (by decide) ?_
              refine z_istore_n 80 [(3, .int 0), (5, .int u2), (0, .ref a_this), (1, .int i1), (2, .int i2), (4, .int i4)] X dX8_carryOrders_80 hl (by decide) rfl (fun ls hl => ?_)
              refine z_iload_n 81 X dX8_carryOrders_81 hl 3 rfl ?_
              refine z_iload 82 X dX8_carryOrders_82 hl 1 rfl ?_
              refine z_bipush 84 59 X dX8_carryOrders_84 (by decide) ?_
              refine z_icmp_ne 86 93 X dX8_carryOrders_86 (by decide) (fun c16 => ?_) (fun c16 => ?_)
              · replace hF := zneg c16 hF
                refine z_iconst 93 0 X dX8_carryOrders_93 (by decide) ?_
                refine z_iadd 94 X dX8_carryOrders_94 ?_
                refine z_istore_n 95 [(1, .int (i1 + 0)), (3, .int 0), (5, .int u2), (0, .ref a_this), (2, .int i2), (4, .int i4)] X dX8_carryOrders_95 hl (by decide) rfl (fun ls hl => ?_)
                refine z_goto 96 102 X dX8_carryOrders_96 (by decide) ?_
                refine z_iinc2 102 1 [(4, .int (i4 + 1)), (1, .int (i1 + 0)), (3, .int 0), (5, .int u2), (0, .ref a_this), (2, .int i2)] X dX8_carryOrders_102 hl 5 rfl (by decide) (by decide) rfl (fun ls hl => ?_)
                refine z_goto 105 9 X dX8_carryOrders_105 (by decide) ?_
                exact ih u13.2.1 u13.2.2.1 u13.2.2.2.1 u13.2.2.2.2 (i1 + 0) i2 0 (i4 + 1) H locs ls hw (lv_sub hl [4, 1, 5, 2, 0] rfl) hF
              · replace hF := zpos c16 hF
                refine z_iconst 89 1 X dX8_carryOrders_89 (by decide) ?_
                refine z_goto 90 94 X dX8_carryOrders_90 (by decide) ?_
                refine z_iadd 94 X dX8_carryOrders_94 ?_
                refine z_istore_n 95 [(1, .int (i1 + 1)), (3, .int 0), (5, .int u2), (0, .ref a_this), (2, .int i2), (4, .int i4)] X dX8_carryOrders_95 hl (by decide) rfl (fun ls hl => ?_)
                refine z_goto 96 102 X dX8_carryOrders_96 (by decide) ?_
                refine z_iinc2 102 1 [(4, .int (i4 + 1)), (1, .int (i1 + 1)), (3, .int 0), (5, .int u2), (0, .ref a_this), (2, .int i2)] X dX8_carryOrders_102 hl 5 rfl (by decide) (by decide) rfl (fun ls hl => ?_)
                refine z_goto 105 9 X dX8_carryOrders_105 (by decide) ?_
                exact ih u13.2.1 u13.2.2.1 u13.2.2.2.1 u13.2.2.2.2 (i1 + 1) i2 0 (i4 + 1) H locs ls hw (lv_sub hl [4, 1, 5, 2, 0] rfl) hF
            · replace hF := zneg c15 hF
              refine z_iload_n 77 X dX8_carryOrders_77 hl 2 rfl ?_
              cases hF
              exact z_iret 78 X dX8_carryOrders_78 hw rfl rfl
      · replace hF := zneg c6 hF
        refine z_iload_n 40 X dX8_carryOrders_40 hl 4 rfl ?_
        refine z_bipush 41 10 X dX8_carryOrders_41 (by decide) ?_
        refine z_imul 43 X dX8_carryOrders_43 ?_
        refine z_iload 44 X dX8_carryOrders_44 hl 0 rfl ?_
        refine z_bipush 46 48 X dX8_carryOrders_46 (by decide) ?_
        refine z_isub 48 X dX8_carryOrders_48 ?_
        refine z_iadd 49 X dX8_carryOrders_49 ?_
        refine z_istore_n 50 [(3, .int ((i3 * 10) + (u2 - 48))), (5, .int u2), (0, .ref a_this), (1, .int i1), (2, .int i2), (4, .int i4)] X dX8_carryOrders_50 hl (by decide) rfl (fun ls hl => ?_)
        refine z_goto 51 102 X dX8_carryOrders_51 (by decide) ?_
        refine z_iinc2 102 1 [(4, .int (i4 + 1)), (3, .int ((i3 * 10) + (u2 - 48))), (5, .int u2), (0, .ref a_this), (1, .int i1), (2, .int i2)] X dX8_carryOrders_102 hl 5 rfl (by decide) (by decide) rfl (fun ls hl => ?_)
        refine z_goto 105 9 X dX8_carryOrders_105 (by decide) ?_
        exact ih v_row_length v_row_blockSize v_row_ones g_row_numbers_cells i1 i2 ((i3 * 10) + (u2 - 48)) (i4 + 1) H locs ls hw (lv_sub hl [3, 4, 5, 1, 0] rfl) hF
set_option maxHeartbeats 4000000 in
set_option maxRecDepth 100000 in
theorem m_X8_carryOrders (l : Launch) (D : va_G) (cA : ClassId) (a_this a_this_row a_this_coding a_this_trial a_this_pad a_this_history a_this_slots a_this_pad_signs a_this_pad_signs_cells a_this_row_numbers a_this_row_numbers_cells : Nat) (v_pad_length : Int32) (g_pad_signs_cells : Ar) (v_row_length : Int32) (v_row_blockSize : Int32) (v_row_ones : Int32) (g_row_numbers_cells : Ar) (out : Int32 × Int32 × Int32 × Int32 × Ar) (hF : F_X8_carryOrders v_pad_length g_pad_signs_cells v_row_length v_row_blockSize v_row_ones g_row_numbers_cells = some out) : zM l D cA yX8_carryOrders cX8_carryOrders 6 (some .int) 5 109 [.ref a_this] (zw_30 cA 0 a_this a_this_row a_this_coding a_this_trial a_this_pad a_this_history a_this_slots a_this_pad_signs a_this_pad_signs_cells a_this_row_numbers a_this_row_numbers_cells v_pad_length g_pad_signs_cells v_row_length v_row_blockSize v_row_ones g_row_numbers_cells) (zw_30 cA 0 a_this a_this_row a_this_coding a_this_trial a_this_pad a_this_history a_this_slots a_this_pad_signs a_this_pad_signs_cells a_this_row_numbers a_this_row_numbers_cells v_pad_length g_pad_signs_cells out.2.1 out.2.2.1 out.2.2.2.1 out.2.2.2.2) (some (.int out.1)) := by
  refine z_body (by decide) (Nat.le_of_ble_eq_true rfl) ?_
  intro p e s m args below meth c ls H locs A X hl hw
  have hl : lv_has ls 6 [(0, .ref a_this)] := hl
  unfold F_X8_carryOrders at hF
  refine z_iconst 0 0 X dX8_carryOrders_0 (by decide) ?_
  refine z_istore_n 1 [(1, .int 0), (0, .ref a_this)] X dX8_carryOrders_1 hl (by decide) rfl (fun ls hl => ?_)
  refine z_iconst 2 0 X dX8_carryOrders_2 (by decide) ?_
  refine z_istore_n 3 [(2, .int 0), (1, .int 0), (0, .ref a_this)] X dX8_carryOrders_3 hl (by decide) rfl (fun ls hl => ?_)
  refine z_iconst 4 0 X dX8_carryOrders_4 (by decide) ?_
  refine z_istore_n 5 [(3, .int 0), (2, .int 0), (1, .int 0), (0, .ref a_this)] X dX8_carryOrders_5 hl (by decide) rfl (fun ls hl => ?_)
  refine z_iconst 6 0 X dX8_carryOrders_6 (by decide) ?_
  refine z_istore 7 [(4, .int 0), (3, .int 0), (2, .int 0), (1, .int 0), (0, .ref a_this)] X dX8_carryOrders_7 hl (by decide) rfl (fun ls hl => ?_)
  refine l_X8_carryOrders_9 l D cA a_this a_this_row a_this_coding a_this_trial a_this_pad a_this_history a_this_slots a_this_pad_signs a_this_pad_signs_cells a_this_row_numbers a_this_row_numbers_cells v_pad_length g_pad_signs_cells out X _ (fun v_row_length_17 v_row_blockSize_18 v_row_ones_19 g_row_numbers_cells_20 i1_21 H locs ls hw hl hF => ?_) zFuel v_row_length v_row_blockSize v_row_ones g_row_numbers_cells 0 0 0 0 H locs ls hw (lv_sub hl [4, 3, 2, 1, 0] rfl) hF
  refine z_iload_n 108 X dX8_carryOrders_108 hl 0 rfl ?_
  cases hF
  exact z_iret 109 X dX8_carryOrders_109 hw rfl rfl
theorem dX8_carryOut_0 : decode cX8_carryOut 0 = .ok (.aload_n 0, 1) := by decide +kernel
theorem dX8_carryOut_1 : decode cX8_carryOut 1 = .ok (.getfield 33, 3) := by decide +kernel
theorem dX8_carryOut_4 : decode cX8_carryOut 4 = .ok (.invokevirtual 221, 3) := by decide +kernel
theorem dX8_carryOut_7 : decode cX8_carryOut 7 = .ok (.bipush (-6), 2) := by decide +kernel
theorem dX8_carryOut_9 : decode cX8_carryOut 9 = .ok (.if_icmp .eq 6, 3) := by decide +kernel
theorem dX8_carryOut_12 : decode cX8_carryOut 12 = .ok (.bipush (-3), 2) := by decide +kernel
theorem dX8_carryOut_14 : decode cX8_carryOut 14 = .ok (.ireturn, 1) := by decide +kernel
theorem dX8_carryOut_15 : decode cX8_carryOut 15 = .ok (.aload_n 0, 1) := by decide +kernel
theorem dX8_carryOut_16 : decode cX8_carryOut 16 = .ok (.getfield 40, 3) := by decide +kernel
theorem dX8_carryOut_19 : decode cX8_carryOut 19 = .ok (.aload_n 0, 1) := by decide +kernel
theorem dX8_carryOut_20 : decode cX8_carryOut 20 = .ok (.getfield 12, 3) := by decide +kernel
theorem dX8_carryOut_23 : decode cX8_carryOut 23 = .ok (.invokevirtual 53, 3) := by decide +kernel
theorem dX8_carryOut_26 : decode cX8_carryOut 26 = .ok (.aload_n 0, 1) := by decide +kernel
theorem dX8_carryOut_27 : decode cX8_carryOut 27 = .ok (.invokevirtual 224, 3) := by decide +kernel
theorem dX8_carryOut_30 : decode cX8_carryOut 30 = .ok (.istore_n 1, 1) := by decide +kernel
theorem dX8_carryOut_31 : decode cX8_carryOut 31 = .ok (.aload_n 0, 1) := by decide +kernel
theorem dX8_carryOut_32 : decode cX8_carryOut 32 = .ok (.getfield 33, 3) := by decide +kernel
theorem dX8_carryOut_35 : decode cX8_carryOut 35 = .ok (.iconst 0, 1) := by decide +kernel
theorem dX8_carryOut_36 : decode cX8_carryOut 36 = .ok (.putfield 171, 3) := by decide +kernel
theorem dX8_carryOut_39 : decode cX8_carryOut 39 = .ok (.aload_n 0, 1) := by decide +kernel
theorem dX8_carryOut_40 : decode cX8_carryOut 40 = .ok (.iload_n 1, 1) := by decide +kernel
theorem dX8_carryOut_41 : decode cX8_carryOut 41 = .ok (.invokevirtual 61, 3) := by decide +kernel
theorem dX8_carryOut_44 : decode cX8_carryOut 44 = .ok (.ireturn, 1) := by decide +kernel
set_option maxHeartbeats 4000000 in
set_option maxRecDepth 100000 in
theorem m_X8_carryOut (l : Launch) (D : va_G) (cA : ClassId) (a_this a_this_row a_this_coding a_this_trial a_this_pad a_this_history a_this_slots a_this_coding_prices a_this_coding_stream a_this_coding_exponents a_this_coding_skips a_this_coding_exponents_cells a_this_coding_prices_sums a_this_coding_prices_sums_cells a_this_coding_skips_cells a_this_coding_stream_cells a_this_coding_stream_cells_cells a_this_history_states a_this_history_states_cells a_this_history_states_cells_cells a_this_pad_signs a_this_pad_signs_cells a_this_row_numbers a_this_row_numbers_cells : Nat) (g_coding_exponents_cells : Ar) (v_coding_prices_length : Int32) (g_coding_prices_sums_cells : Ar) (g_coding_skips_cells : Ar) (v_coding_stream_length : Int32) (v_coding_stream_start : Int32) (v_coding_stream_next : Int32) (v_coding_stream_exponent : Int32) (v_coding_stream_number : Int32) (g_coding_stream_cells_cells : Ar) (v_history_free : Int32) (v_history_length : Int32) (g_history_states_cells_cells : Ar) (v_pad_length : Int32) (g_pad_signs_cells : Ar) (v_row_length : Int32) (v_row_blockSize : Int32) (v_row_ones : Int32) (g_row_numbers_cells : Ar) (out : Int32 × Ar × Int32 × Ar × Ar × Int32 × Ar × Int32 × Int32 × Ar × Int32 × Int32 × Int32 × Int32 × Ar) (hF : F_X8_carryOut g_coding_exponents_cells v_coding_prices_length g_coding_prices_sums_cells g_coding_skips_cells v_coding_stream_length g_coding_stream_cells_cells v_history_free v_history_length g_history_states_cells_cells v_pad_length g_pad_signs_cells v_row_length v_row_blockSize v_row_ones g_row_numbers_cells = some out) : zM l D cA yX8_carryOut cX8_carryOut 2 (some .int) 6 139 [.ref a_this] (zw_31 cA 0 a_this a_this_row a_this_coding a_this_trial a_this_pad a_this_history a_this_slots a_this_coding_prices a_this_coding_stream a_this_coding_exponents a_this_coding_skips a_this_coding_exponents_cells a_this_coding_prices_sums a_this_coding_prices_sums_cells a_this_coding_skips_cells a_this_coding_stream_cells a_this_coding_stream_cells_cells a_this_history_states a_this_history_states_cells a_this_history_states_cells_cells a_this_pad_signs a_this_pad_signs_cells a_this_row_numbers a_this_row_numbers_cells g_coding_exponents_cells v_coding_prices_length g_coding_prices_sums_cells g_coding_skips_cells v_coding_stream_length v_coding_stream_start v_coding_stream_next v_coding_stream_exponent v_coding_stream_number g_coding_stream_cells_cells v_history_free v_history_length g_history_states_cells_cells v_pad_length g_pad_signs_cells v_row_length v_row_blockSize v_row_ones g_row_numbers_cells) (zw_31 cA 0 a_this a_this_row a_this_coding a_this_trial a_this_pad a_this_history a_this_slots a_this_coding_prices a_this_coding_stream a_this_coding_exponents a_this_coding_skips a_this_coding_exponents_cells a_this_coding_prices_sums a_this_coding_prices_sums_cells a_this_coding_skips_cells a_this_coding_stream_cells a_this_coding_stream_cells_cells a_this_history_states a_this_history_states_cells a_this_history_states_cells_cells a_this_pad_signs a_this_pad_signs_cells a_this_row_numbers a_this_row_numbers_cells out.2.1 out.2.2.1 out.2.2.2.1 out.2.2.2.2.1 out.2.2.2.2.2.1 v_coding_stream_start v_coding_stream_next v_coding_stream_exponent v_coding_stream_number out.2.2.2.2.2.2.1 out.2.2.2.2.2.2.2.1 out.2.2.2.2.2.2.2.2.1 out.2.2.2.2.2.2.2.2.2.1 out.2.2.2.2.2.2.2.2.2.2.1 g_pad_signs_cells out.2.2.2.2.2.2.2.2.2.2.2.1 out.2.2.2.2.2.2.2.2.2.2.2.2.1 out.2.2.2.2.2.2.2.2.2.2.2.2.2.1 out.2.2.2.2.2.2.2.2.2.2.2.2.2.2) (some (.int out.1)) := by
  refine z_body (by decide) (Nat.le_of_ble_eq_true rfl) ?_
  intro p e s m args below meth c ls H locs A X hl hw
  have hl : lv_has ls 2 [(0, .ref a_this)] := hl
  unfold F_X8_carryOut at hF
  refine z_aload_n 0 X dX8_carryOut_0 hl 0 rfl ?_
  refine z_get 1 zc8 0 3 fl_8_33 X dX8_carryOut_1 hw rfl (by decide) rfl ?_
  obtain ⟨u1, e2, hF⟩ := zbd hF
  refine z_callV 4 zc3 mv_X3_faultPlace ml_8_221 16 [16, 17, 18] (zw_31 cA 0 a_this a_this_row a_this_coding a_this_trial a_this_pad a_this_history a_this_slots a_this_coding_prices a_this_coding_stream a_this_coding_exponents a_this_coding_skips a_this_coding_exponents_cells a_this_coding_prices_sums a_this_coding_prices_sums_cells a_this_coding_skips_cells a_this_coding_stream_cells a_this_coding_stream_cells_cells a_this_history_states a_this_history_states_cells a_this_history_states_cells_cells a_this_pad_signs a_this_pad_signs_cells a_this_row_numbers a_this_row_numbers_cells g_coding_exponents_cells v_coding_prices_length g_coding_prices_sums_cells g_coding_skips_cells v_coding_stream_length v_coding_stream_start v_coding_stream_next v_coding_stream_exponent v_coding_stream_number g_coding_stream_cells_cells v_history_free v_history_length g_history_states_cells_cells v_pad_length g_pad_signs_cells v_row_length v_row_blockSize v_row_ones g_row_numbers_cells) [] (m_X3_faultPlace l D cA a_this_pad a_this_pad_signs a_this_pad_signs_cells v_pad_length g_pad_signs_cells u1 e2) X dX8_carryOut_4 hw hl rfl rfl rfl (by decide) rfl rfl rfl (Nat.le_of_ble_eq_true rfl) ⟨Nat.le_of_ble_eq_true rfl, Nat.le_of_ble_eq_true rfl⟩ ⟨Nat.zero_le _, Nat.zero_le _⟩ (fun H locs hw => ?_)
  refine z_bipush 7 (-6) X dX8_carryOut_7 (by decide) ?_
  refine z_icmp_eq 9 15 X dX8_carryOut_9 (by decide) (fun c3 => ?_) (fun c3 => ?_)
  · replace hF := zpos c3 hF
    refine z_aload_n 15 X dX8_carryOut_15 hl 0 rfl ?_
    refine z_get 16 zc8 0 4 fl_8_40 X dX8_carryOut_16 hw rfl (by decide) rfl ?_
    refine z_aload_n 19 X dX8_carryOut_19 hl 0 rfl ?_
    refine z_get 20 zc8 0 0 fl_8_12 X dX8_carryOut_20 hw rfl (by decide) rfl ?_
    obtain ⟨u4, e5, hF⟩ := zbd hF
    refine z_callV 23 zc2 mv_X2_note ml_8_53 12 [12, 13, 14, 15, 19, 20, 21] (zw_31 cA 0 a_this a_this_row a_this_coding a_this_trial a_this_pad a_this_history a_this_slots a_this_coding_prices a_this_coding_stream a_this_coding_exponents a_this_coding_skips a_this_coding_exponents_cells a_this_coding_prices_sums a_this_coding_prices_sums_cells a_this_coding_skips_cells a_this_coding_stream_cells a_this_coding_stream_cells_cells a_this_history_states a_this_history_states_cells a_this_history_states_cells_cells a_this_pad_signs a_this_pad_signs_cells a_this_row_numbers a_this_row_numbers_cells g_coding_exponents_cells v_coding_prices_length g_coding_prices_sums_cells g_coding_skips_cells v_coding_stream_length v_coding_stream_start v_coding_stream_next v_coding_stream_exponent v_coding_stream_number g_coding_stream_cells_cells v_history_free v_history_length u4 v_pad_length g_pad_signs_cells v_row_length v_row_blockSize v_row_ones g_row_numbers_cells) [] (m_X2_note l D cA a_this_history a_this_history_states a_this_history_states_cells a_this_history_states_cells_cells a_this_row a_this_row_numbers a_this_row_numbers_cells v_history_free v_history_length g_history_states_cells_cells v_row_length v_row_blockSize v_row_ones g_row_numbers_cells u4 e5) X dX8_carryOut_23 hw hl rfl rfl rfl (by decide) rfl rfl rfl (Nat.le_of_ble_eq_true rfl) ⟨Nat.le_of_ble_eq_true rfl, Nat.le_of_ble_eq_true rfl⟩ ⟨Nat.zero_le _, Nat.zero_le _⟩ (fun H locs hw => ?_)
    refine z_aload_n 26 X dX8_carryOut_26 hl 0 rfl ?_
    obtain ⟨u6, e7, hF⟩ := zbd hF
    refine z_callV 27 zc8 mv_X8_carryOrders ml_8_224 0 [0, 16, 17, 18, 19, 20, 21] (zw_31 cA 0 a_this a_this_row a_this_coding a_this_trial a_this_pad a_this_history a_this_slots a_this_coding_prices a_this_coding_stream a_this_coding_exponents a_this_coding_skips a_this_coding_exponents_cells a_this_coding_prices_sums a_this_coding_prices_sums_cells a_this_coding_skips_cells a_this_coding_stream_cells a_this_coding_stream_cells_cells a_this_history_states a_this_history_states_cells a_this_history_states_cells_cells a_this_pad_signs a_this_pad_signs_cells a_this_row_numbers a_this_row_numbers_cells g_coding_exponents_cells v_coding_prices_length g_coding_prices_sums_cells g_coding_skips_cells v_coding_stream_length v_coding_stream_start v_coding_stream_next v_coding_stream_exponent v_coding_stream_number g_coding_stream_cells_cells v_history_free v_history_length u4 v_pad_length g_pad_signs_cells u6.2.1 u6.2.2.1 u6.2.2.2.1 u6.2.2.2.2) [] (m_X8_carryOrders l D cA a_this a_this_row a_this_coding a_this_trial a_this_pad a_this_history a_this_slots a_this_pad_signs a_this_pad_signs_cells a_this_row_numbers a_this_row_numbers_cells v_pad_length g_pad_signs_cells v_row_length v_row_blockSize v_row_ones g_row_numbers_cells u6 e7) X dX8_carryOut_27 hw hl rfl rfl rfl (by decide) rfl rfl rfl (Nat.le_of_ble_eq_true rfl) ⟨Nat.le_of_ble_eq_true rfl, Nat.le_of_ble_eq_true rfl⟩ ⟨Nat.zero_le _, Nat.zero_le _⟩ (fun H locs hw => ?_)
    refine z_istore_n 30 [(1, .int u6.1), (0, .ref a_this)] X dX8_carryOut_30 hl (by decide) rfl (fun ls hl => ?_)
    refine z_aload_n 31 X dX8_carryOut_31 hl 1 rfl ?_
    refine z_get 32 zc8 0 3 fl_8_33 X dX8_carryOut_32 hw rfl (by decide) rfl ?_
    refine z_iconst 35 0 X dX8_carryOut_35 (by decide) ?_
    refine z_putN 36 zc3 16 1 (zw_31 cA 0 a_this a_this_row a_this_coding a_this_trial a_this_pad a_this_history a_this_slots a_this_coding_prices a_this_coding_stream a_this_coding_exponents a_this_coding_skips a_this_coding_exponents_cells a_this_coding_prices_sums a_this_coding_prices_sums_cells a_this_coding_skips_cells a_this_coding_stream_cells a_this_coding_stream_cells_cells a_this_history_states a_this_history_states_cells a_this_history_states_cells_cells a_this_pad_signs a_this_pad_signs_cells a_this_row_numbers a_this_row_numbers_cells g_coding_exponents_cells v_coding_prices_length g_coding_prices_sums_cells g_coding_skips_cells v_coding_stream_length v_coding_stream_start v_coding_stream_next v_coding_stream_exponent v_coding_stream_number g_coding_stream_cells_cells v_history_free v_history_length u4 0 g_pad_signs_cells u6.2.1 u6.2.2.1 u6.2.2.2.1 u6.2.2.2.2) fl_8_171 X dX8_carryOut_36 hw rfl (by decide) rfl rfl rfl (Nat.le_of_ble_eq_true rfl) rfl (fun H locs hw => ?_)
    refine z_aload_n 39 X dX8_carryOut_39 hl 1 rfl ?_
    refine z_iload_n 40 X dX8_carryOut_40 hl 0 rfl ?_
    obtain ⟨u8, e9, hF⟩ := zbd hF
    refine z_callV 41 zc8 mv_X8_settle ml_8_61 0 [0, 1, 2, 3, 4, 5, 6, 7, 8, 9, 10, 11, 12, 19, 20, 21] (zw_31 cA 0 a_this a_this_row a_this_coding a_this_trial a_this_pad a_this_history a_this_slots a_this_coding_prices a_this_coding_stream a_this_coding_exponents a_this_coding_skips a_this_coding_exponents_cells a_this_coding_prices_sums a_this_coding_prices_sums_cells a_this_coding_skips_cells a_this_coding_stream_cells a_this_coding_stream_cells_cells a_this_history_states a_this_history_states_cells a_this_history_states_cells_cells a_this_pad_signs a_this_pad_signs_cells a_this_row_numbers a_this_row_numbers_cells u8.2.1 u8.2.2.1 u8.2.2.2.1 u8.2.2.2.2.1 u8.2.2.2.2.2.1 v_coding_stream_start v_coding_stream_next v_coding_stream_exponent v_coding_stream_number u8.2.2.2.2.2.2.1 u8.2.2.2.2.2.2.2.1 u8.2.2.2.2.2.2.2.2 u4 0 g_pad_signs_cells u6.2.1 u6.2.2.1 u6.2.2.2.1 u6.2.2.2.2) [] (m_X8_settle l D cA a_this a_this_row a_this_coding a_this_trial a_this_pad a_this_history a_this_slots a_this_coding_prices a_this_coding_stream a_this_coding_exponents a_this_coding_skips a_this_coding_exponents_cells a_this_coding_prices_sums a_this_coding_prices_sums_cells a_this_coding_skips_cells a_this_coding_stream_cells a_this_coding_stream_cells_cells a_this_history_states a_this_row_numbers a_this_row_numbers_cells g_coding_exponents_cells v_coding_prices_length g_coding_prices_sums_cells g_coding_skips_cells v_coding_stream_length v_coding_stream_start v_coding_stream_next v_coding_stream_exponent v_coding_stream_number g_coding_stream_cells_cells v_history_free v_history_length u6.2.1 u6.2.2.1 u6.2.2.2.1 u6.2.2.2.2 u6.1 u8 e9) X dX8_carryOut_41 hw hl rfl rfl rfl (by decide) rfl rfl rfl (Nat.le_of_ble_eq_true rfl) ⟨Nat.le_of_ble_eq_true rfl, Nat.le_of_ble_eq_true rfl⟩ ⟨Nat.zero_le _, Nat.zero_le _⟩ (fun H locs hw => ?_)
    cases hF
    exact z_iret 44 X dX8_carryOut_44 hw rfl rfl
  · replace hF := zneg c3 hF
    refine z_bipush 12 (-3) X dX8_carryOut_12 (by decide) ?_
    cases hF
    exact z_iret 14 X dX8_carryOut_14 hw rfl rfl
theorem dX8_undo_0 : decode cX8_undo 0 = .ok (.aload_n 0, 1) := by decide +kernel
theorem dX8_undo_1 : decode cX8_undo 1 = .ok (.getfield 40, 3) := by decide +kernel
theorem dX8_undo_4 : decode cX8_undo 4 = .ok (.getfield 172, 3) := by decide +kernel
theorem dX8_undo_7 : decode cX8_undo 7 = .ok (.ifCond .ne 6, 3) := by decide +kernel
theorem dX8_undo_10 : decode cX8_undo 10 = .ok (.bipush (-5), 2) := by decide +kernel
theorem dX8_undo_12 : decode cX8_undo 12 = .ok (.ireturn, 1) := by decide +kernel
theorem dX8_undo_13 : decode cX8_undo 13 = .ok (.aload_n 0, 1) := by decide +kernel
theorem dX8_undo_14 : decode cX8_undo 14 = .ok (.getfield 40, 3) := by decide +kernel
theorem dX8_undo_17 : decode cX8_undo 17 = .ok (.aload_n 0, 1) := by decide +kernel
theorem dX8_undo_18 : decode cX8_undo 18 = .ok (.getfield 12, 3) := by decide +kernel
theorem dX8_undo_21 : decode cX8_undo 21 = .ok (.invokevirtual 227, 3) := by decide +kernel
theorem dX8_undo_24 : decode cX8_undo 24 = .ok (.aload_n 0, 1) := by decide +kernel
theorem dX8_undo_25 : decode cX8_undo 25 = .ok (.getfield 19, 3) := by decide +kernel
theorem dX8_undo_28 : decode cX8_undo 28 = .ok (.aload_n 0, 1) := by decide +kernel
theorem dX8_undo_29 : decode cX8_undo 29 = .ok (.getfield 12, 3) := by decide +kernel
theorem dX8_undo_32 : decode cX8_undo 32 = .ok (.invokevirtual 230, 3) := by decide +kernel
theorem dX8_undo_35 : decode cX8_undo 35 = .ok (.aload_n 0, 1) := by decide +kernel
theorem dX8_undo_36 : decode cX8_undo 36 = .ok (.getfield 40, 3) := by decide +kernel
theorem dX8_undo_39 : decode cX8_undo 39 = .ok (.getfield 172, 3) := by decide +kernel
theorem dX8_undo_42 : decode cX8_undo 42 = .ok (.ireturn, 1) := by decide +kernel
set_option maxHeartbeats 4000000 in
set_option maxRecDepth 100000 in
theorem m_X8_undo (l : Launch) (D : va_G) (cA : ClassId) (a_this a_this_row a_this_coding a_this_trial a_this_pad a_this_history a_this_slots a_this_coding_prices a_this_coding_stream a_this_coding_exponents a_this_coding_skips a_this_coding_exponents_cells a_this_coding_prices_sums a_this_coding_prices_sums_cells a_this_coding_skips_cells a_this_coding_stream_cells a_this_coding_stream_cells_cells a_this_history_states a_this_history_states_cells a_this_history_states_cells_cells a_this_row_numbers a_this_row_numbers_cells : Nat) (g_coding_exponents_cells : Ar) (v_coding_prices_length : Int32) (g_coding_prices_sums_cells : Ar) (g_coding_skips_cells : Ar) (v_coding_stream_length : Int32) (v_coding_stream_start : Int32) (v_coding_stream_next : Int32) (v_coding_stream_exponent : Int32) (v_coding_stream_number : Int32) (g_coding_stream_cells_cells : Ar) (v_history_free : Int32) (v_history_length : Int32) (g_history_states_cells_cells : Ar) (v_row_length : Int32) (v_row_blockSize : Int32) (v_row_ones : Int32) (g_row_numbers_cells : Ar) (out : Int32 × Ar × Int32 × Ar × Ar × Int32 × Ar × Int32 × Int32 × Int32 × Int32 × Int32 × Ar) (hF : F_X8_undo g_coding_exponents_cells v_coding_prices_length g_coding_prices_sums_cells g_coding_skips_cells v_coding_stream_length g_coding_stream_cells_cells v_history_free v_history_length g_history_states_cells_cells v_row_length v_row_blockSize v_row_ones g_row_numbers_cells = some out) : zM l D cA yX8_undo cX8_undo 1 (some .int) 5 118 [.ref a_this] (zw_13 cA 0 a_this a_this_row a_this_coding a_this_trial a_this_pad a_this_history a_this_slots a_this_coding_prices a_this_coding_stream a_this_coding_exponents a_this_coding_skips a_this_coding_exponents_cells a_this_coding_prices_sums a_this_coding_prices_sums_cells a_this_coding_skips_cells a_this_coding_stream_cells a_this_coding_stream_cells_cells a_this_history_states a_this_history_states_cells a_this_history_states_cells_cells a_this_row_numbers a_this_row_numbers_cells g_coding_exponents_cells v_coding_prices_length g_coding_prices_sums_cells g_coding_skips_cells v_coding_stream_length v_coding_stream_start v_coding_stream_next v_coding_stream_exponent v_coding_stream_number g_coding_stream_cells_cells v_history_free v_history_length g_history_states_cells_cells v_row_length v_row_blockSize v_row_ones g_row_numbers_cells) (zw_13 cA 0 a_this a_this_row a_this_coding a_this_trial a_this_pad a_this_history a_this_slots a_this_coding_prices a_this_coding_stream a_this_coding_exponents a_this_coding_skips a_this_coding_exponents_cells a_this_coding_prices_sums a_this_coding_prices_sums_cells a_this_coding_skips_cells a_this_coding_stream_cells a_this_coding_stream_cells_cells a_this_history_states a_this_history_states_cells a_this_history_states_cells_cells a_this_row_numbers a_this_row_numbers_cells out.2.1 out.2.2.1 out.2.2.2.1 out.2.2.2.2.1 out.2.2.2.2.2.1 v_coding_stream_start v_coding_stream_next v_coding_stream_exponent v_coding_stream_number out.2.2.2.2.2.2.1 out.2.2.2.2.2.2.2.1 out.2.2.2.2.2.2.2.2.1 g_history_states_cells_cells out.2.2.2.2.2.2.2.2.2.1 out.2.2.2.2.2.2.2.2.2.2.1 out.2.2.2.2.2.2.2.2.2.2.2.1 out.2.2.2.2.2.2.2.2.2.2.2.2) (some (.int out.1)) := by
  refine z_body (by decide) (Nat.le_of_ble_eq_true rfl) ?_
  intro p e s m args below meth c ls H locs A X hl hw
  have hl : lv_has ls 1 [(0, .ref a_this)] := hl
  unfold F_X8_undo at hF
  refine z_aload_n 0 X dX8_undo_0 hl 0 rfl ?_
  refine z_get 1 zc8 0 4 fl_8_40 X dX8_undo_1 hw rfl (by decide) rfl ?_
  refine z_getN 4 zc2 12 2 fl_8_172 X dX8_undo_4 hw rfl (by decide) rfl ?_
  refine z_if_ne 7 13 X dX8_undo_7 (by decide) (fun c1 => ?_) (fun c1 => ?_)
  · replace hF := zneg c1 hF
    refine z_aload_n 13 X dX8_undo_13 hl 0 rfl ?_
    refine z_get 14 zc8 0 4 fl_8_40 X dX8_undo_14 hw rfl (by decide) rfl ?_
    refine z_aload_n 17 X dX8_undo_17 hl 0 rfl ?_
    refine z_get 18 zc8 0 0 fl_8_12 X dX8_undo_18 hw rfl (by decide) rfl ?_
    obtain ⟨u2, e3, hF⟩ := zbd hF
    refine z_callV 21 zc2 mv_X2_bringLatest ml_8_227 12 [12, 13, 14, 15, 16, 17, 18] (zw_13 cA 0 a_this a_this_row a_this_coding a_this_trial a_this_pad a_this_history a_this_slots a_this_coding_prices a_this_coding_stream a_this_coding_exponents a_this_coding_skips a_this_coding_exponents_cells a_this_coding_prices_sums a_this_coding_prices_sums_cells a_this_coding_skips_cells a_this_coding_stream_cells a_this_coding_stream_cells_cells a_this_history_states a_this_history_states_cells a_this_history_states_cells_cells a_this_row_numbers a_this_row_numbers_cells g_coding_exponents_cells v_coding_prices_length g_coding_prices_sums_cells g_coding_skips_cells v_coding_stream_length v_coding_stream_start v_coding_stream_next v_coding_stream_exponent v_coding_stream_number g_coding_stream_cells_cells u2.1 u2.2.1 g_history_states_cells_cells u2.2.2.1 u2.2.2.2.1 u2.2.2.2.2.1 u2.2.2.2.2.2) [] (m_X2_bringLatest l D cA a_this_history a_this_history_states a_this_history_states_cells a_this_history_states_cells_cells a_this_row a_this_row_numbers a_this_row_numbers_cells v_history_free v_history_length g_history_states_cells_cells v_row_length v_row_blockSize v_row_ones g_row_numbers_cells u2 e3) X dX8_undo_21 hw hl rfl rfl rfl (by decide) rfl rfl rfl (Nat.le_of_ble_eq_true rfl) ⟨Nat.le_of_ble_eq_true rfl, Nat.le_of_ble_eq_true rfl⟩ ⟨Nat.zero_le _, Nat.zero_le _⟩ (fun H locs hw => ?_)
    refine z_aload_n 24 X dX8_undo_24 hl 0 rfl ?_
    refine z_get 25 zc8 0 1 fl_8_19 X dX8_undo_25 hw rfl (by decide) rfl ?_
    refine z_aload_n 28 X dX8_undo_28 hl 0 rfl ?_
    refine z_get 29 zc8 0 0 fl_8_12 X dX8_undo_29 hw rfl (by decide) rfl ?_
    obtain ⟨u4, e5, hF⟩ := zbd hF
    refine z_callV 32 zc1 mv_X1_codeAnew ml_8_230 1 [1, 2, 3, 4, 5, 6, 7, 8, 9, 10, 11, 16, 17, 18] (zw_13 cA 0 a_this a_this_row a_this_coding a_this_trial a_this_pad a_this_history a_this_slots a_this_coding_prices a_this_coding_stream a_this_coding_exponents a_this_coding_skips a_this_coding_exponents_cells a_this_coding_prices_sums a_this_coding_prices_sums_cells a_this_coding_skips_cells a_this_coding_stream_cells a_this_coding_stream_cells_cells a_this_history_states a_this_history_states_cells a_this_history_states_cells_cells a_this_row_numbers a_this_row_numbers_cells u4.1 u4.2.1 u4.2.2.1 u4.2.2.2.1 u4.2.2.2.2.1 v_coding_stream_start v_coding_stream_next v_coding_stream_exponent v_coding_stream_number u4.2.2.2.2.2 u2.1 u2.2.1 g_history_states_cells_cells u2.2.2.1 u2.2.2.2.1 u2.2.2.2.2.1 u2.2.2.2.2.2) [] (m_X1_codeAnew l D cA a_this_coding a_this_coding_prices a_this_coding_stream a_this_coding_exponents a_this_coding_skips a_this_coding_exponents_cells a_this_coding_prices_sums a_this_coding_prices_sums_cells a_this_coding_skips_cells a_this_coding_stream_cells a_this_coding_stream_cells_cells a_this_row a_this_row_numbers a_this_row_numbers_cells g_coding_exponents_cells v_coding_prices_length g_coding_prices_sums_cells g_coding_skips_cells v_coding_stream_length v_coding_stream_start v_coding_stream_next v_coding_stream_exponent v_coding_stream_number g_coding_stream_cells_cells u2.2.2.1 u2.2.2.2.1 u2.2.2.2.2.1 u2.2.2.2.2.2 u4 e5) X dX8_undo_32 hw hl rfl rfl rfl (by decide) rfl rfl rfl (Nat.le_of_ble_eq_true rfl) ⟨Nat.le_of_ble_eq_true rfl, Nat.le_of_ble_eq_true rfl⟩ ⟨Nat.zero_le _, Nat.zero_le _⟩ (fun H locs hw => ?_)
    refine z_aload_n 35 X dX8_undo_35 hl 0 rfl ?_
    refine z_get 36 zc8 0 4 fl_8_40 X dX8_undo_36 hw rfl (by decide) rfl ?_
    refine z_getN 39 zc2 12 2 fl_8_172 X dX8_undo_39 hw rfl (by decide) rfl ?_
    cases hF
    exact z_iret 42 X dX8_undo_42 hw rfl rfl
  · replace hF := zpos c1 hF
    refine z_bipush 10 (-5) X dX8_undo_10 (by decide) ?_
    cases hF
    exact z_iret 12 X dX8_undo_12 hw rfl rfl
theorem dX8_save_0 : decode cX8_save 0 = .ok (.iload_n 1, 1) := by decide +kernel
theorem dX8_save_1 : decode cX8_save 1 = .ok (.invokestatic 233, 3) := by decide +kernel
theorem dX8_save_4 : decode cX8_save 4 = .ok (.ifCond .ne 6, 3) := by decide +kernel
theorem dX8_save_7 : decode cX8_save 7 = .ok (.bipush (-2), 2) := by decide +kernel
theorem dX8_save_9 : decode cX8_save 9 = .ok (.ireturn, 1) := by decide +kernel
theorem dX8_save_10 : decode cX8_save 10 = .ok (.aload_n 0, 1) := by decide +kernel
theorem dX8_save_11 : decode cX8_save 11 = .ok (.getfield 49, 3) := by decide +kernel
theorem dX8_save_14 : decode cX8_save 14 = .ok (.iload_n 1, 1) := by decide +kernel
theorem dX8_save_15 : decode cX8_save 15 = .ok (.aload_n 0, 1) := by decide +kernel
theorem dX8_save_16 : decode cX8_save 16 = .ok (.getfield 12, 3) := by decide +kernel
theorem dX8_save_19 : decode cX8_save 19 = .ok (.invokevirtual 236, 3) := by decide +kernel
theorem dX8_save_22 : decode cX8_save 22 = .ok (.aload_n 0, 1) := by decide +kernel
theorem dX8_save_23 : decode cX8_save 23 = .ok (.getfield 12, 3) := by decide +kernel
theorem dX8_save_26 : decode cX8_save 26 = .ok (.getfield 80, 3) := by decide +kernel
theorem dX8_save_29 : decode cX8_save 29 = .ok (.ireturn, 1) := by decide +kernel
set_option maxHeartbeats 4000000 in
set_option maxRecDepth 100000 in
theorem m_X8_save (l : Launch) (D : va_G) (cA : ClassId) (a_this a_this_row a_this_coding a_this_trial a_this_pad a_this_history a_this_slots a_this_row_numbers a_this_row_numbers_cells a_this_slots_cells a_this_slots_cells_cells : Nat) (v_row_length : Int32) (v_row_blockSize : Int32) (v_row_ones : Int32) (g_row_numbers_cells : Ar) (g_slots_cells_cells : Ar) (i1 : Int32) (out : Int32 × Ar) (hF : F_X8_save v_row_length v_row_blockSize v_row_ones g_row_numbers_cells g_slots_cells_cells i1 = some out) : zM l D cA yX8_save cX8_save 2 (some .int) 3 66 [.ref a_this, .int i1] (zw_32 cA 0 a_this a_this_row a_this_coding a_this_trial a_this_pad a_this_history a_this_slots a_this_row_numbers a_this_row_numbers_cells a_this_slots_cells a_this_slots_cells_cells v_row_length v_row_blockSize v_row_ones g_row_numbers_cells g_slots_cells_cells) (zw_32 cA 0 a_this a_this_row a_this_coding a_this_trial a_this_pad a_this_history a_this_slots a_this_row_numbers a_this_row_numbers_cells a_this_slots_cells a_this_slots_cells_cells v_row_length v_row_blockSize v_row_ones g_row_numbers_cells out.2) (some (.int out.1)) := by
  refine z_body (by decide) (Nat.le_of_ble_eq_true rfl) ?_
  intro p e s m args below meth c ls H locs A X hl hw
  have hl : lv_has ls 2 [(0, .ref a_this), (1, .int i1)] := hl
  unfold F_X8_save at hF
  refine z_iload_n 0 X dX8_save_0 hl 1 rfl ?_
  obtain ⟨u1, e2, hF⟩ := zbd hF
  refine z_callS 1 mv_X8_isSlot ml_8_233 [] (zw_32 cA 0 a_this a_this_row a_this_coding a_this_trial a_this_pad a_this_history a_this_slots a_this_row_numbers a_this_row_numbers_cells a_this_slots_cells a_this_slots_cells_cells v_row_length v_row_blockSize v_row_ones g_row_numbers_cells g_slots_cells_cells) [] (m_X8_isSlot l D cA i1 u1 e2) X dX8_save_1 hw hl rfl rfl (by decide) rfl rfl rfl (Nat.le_of_ble_eq_true rfl) ⟨Nat.le_of_ble_eq_true rfl, Nat.le_of_ble_eq_true rfl⟩ ⟨Nat.zero_le _, Nat.zero_le _⟩ (fun H locs hw => ?_)
  refine z_if_ne 4 10 X dX8_save_4 (by decide) (fun c3 => ?_) (fun c3 => ?_)
  · replace hF := zneg c3 hF
    refine z_aload_n 10 X dX8_save_10 hl 0 rfl ?_
    refine z_get 11 zc8 0 5 fl_8_49 X dX8_save_11 hw rfl (by decide) rfl ?_
    refine z_iload_n 14 X dX8_save_14 hl 1 rfl ?_
    refine z_aload_n 15 X dX8_save_15 hl 0 rfl ?_
    refine z_get 16 zc8 0 0 fl_8_12 X dX8_save_16 hw rfl (by decide) rfl ?_
    obtain ⟨u4, e5, hF⟩ := zbd hF
    refine z_callV 19 zc6 mv_X6_store ml_8_236 4 [4, 5, 6, 1, 2, 3] (zw_32 cA 0 a_this a_this_row a_this_coding a_this_trial a_this_pad a_this_history a_this_slots a_this_row_numbers a_this_row_numbers_cells a_this_slots_cells a_this_slots_cells_cells v_row_length v_row_blockSize v_row_ones g_row_numbers_cells u4) [] (m_X6_store l D cA 136 a_this_slots a_this_slots_cells a_this_slots_cells_cells a_this_row a_this_row_numbers a_this_row_numbers_cells g_slots_cells_cells v_row_length v_row_blockSize v_row_ones g_row_numbers_cells i1 u4 e5) X dX8_save_19 hw hl rfl rfl rfl (by decide) rfl rfl rfl (Nat.le_of_ble_eq_true rfl) ⟨Nat.le_of_ble_eq_true rfl, Nat.le_of_ble_eq_true rfl⟩ ⟨Nat.zero_le _, Nat.zero_le _⟩ (fun H locs hw => ?_)
    refine z_aload_n 22 X dX8_save_22 hl 0 rfl ?_
    refine z_get 23 zc8 0 0 fl_8_12 X dX8_save_23 hw rfl (by decide) rfl ?_
    refine z_getN 26 zc5 1 1 fl_8_80 X dX8_save_26 hw rfl (by decide) rfl ?_
    cases hF
    exact z_iret 29 X dX8_save_29 hw rfl rfl
  · replace hF := zpos c3 hF
    refine z_bipush 7 (-2) X dX8_save_7 (by decide) ?_
    cases hF
    exact z_iret 9 X dX8_save_9 hw rfl rfl
