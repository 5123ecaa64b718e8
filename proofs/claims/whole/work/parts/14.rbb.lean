theorem dX8_greatestGap_0 : decode cX8_greatestGap 0 = .ok (.iconst 0, 1) := by decide +kernel
theorem dX8_greatestGap_1 : decode cX8_greatestGap 1 = .ok (.istore_n 3, 1) := by decide +kernel
theorem dX8_greatestGap_2 : decode cX8_greatestGap 2 = .ok (.iload_n 1, 1) := by decide +kernel
theorem dX8_greatestGap_3 : decode cX8_greatestGap 3 = .ok (.istore 4, 2) := by decide +kernel
theorem dX8_greatestGap_5 : decode cX8_greatestGap 5 = .ok (.iload 4, 2) := by decide +kernel
theorem dX8_greatestGap_7 : decode cX8_greatestGap 7 = .ok (.iload_n 2, 1) := by decide +kernel
theorem dX8_greatestGap_8 : decode cX8_greatestGap 8 = .ok (.if_icmp .ge 23, 3) := by decide +kernel
theorem dX8_greatestGap_11 : decode cX8_greatestGap 11 = .ok (.iload_n 3, 1) := by decide +kernel
theorem dX8_greatestGap_12 : decode cX8_greatestGap 12 = .ok (.aload_n 0, 1) := by decide +kernel
theorem dX8_greatestGap_13 : decode cX8_greatestGap 13 = .ok (.getfield 12, 3) := by decide +kernel
theorem dX8_greatestGap_16 : decode cX8_greatestGap 16 = .ok (.iload 4, 2) := by decide +kernel
theorem dX8_greatestGap_18 : decode cX8_greatestGap 18 = .ok (.invokevirtual 110, 3) := by decide +kernel
theorem dX8_greatestGap_21 : decode cX8_greatestGap 21 = .ok (.invokestatic 274, 3) := by decide +kernel
theorem dX8_greatestGap_24 : decode cX8_greatestGap 24 = .ok (.istore_n 3, 1) := by decide +kernel
theorem dX8_greatestGap_25 : decode cX8_greatestGap 25 = .ok (.iinc 4 1, 3) := by decide +kernel
theorem dX8_greatestGap_28 : decode cX8_greatestGap 28 = .ok (.goto (-23), 3) := by decide +kernel
theorem dX8_greatestGap_31 : decode cX8_greatestGap 31 = .ok (.iload_n 3, 1) := by decide +kernel
theorem dX8_greatestGap_32 : decode cX8_greatestGap 32 = .ok (.ireturn, 1) := by decide +kernel
set_option maxHeartbeats 4000000 in
set_option maxRecDepth 100000 in
theorem l_X8_greatestGap_5 (l : Launch) (D : va_G) (cA : ClassId) (a_this a_this_row a_this_coding a_this_trial a_this_pad a_this_history a_this_slots a_this_row_numbers a_this_row_numbers_cells : Nat) (v_row_length : Int32) (v_row_blockSize : Int32) (v_row_ones : Int32) (g_row_numbers_cells : Ar) (i2 : Int32) (out : Int32) {p : Program} {e : Env} {s : State} {m : MethodId} {args : Array Value} {below : List Frame} {meth : Method} {c : Code} {A : Nat → Prop} (X : zX D cA p s m args meth c cX8_greatestGap 5 RX8 (some .int)) (k : Int32 → Option (Int32)) (hk : ∀ (i3 : Int32) (H : Heap) (locs : List Loc) (ls : Array Slot), zH D A s (zw_14 cA 0 a_this a_this_row a_this_coding a_this_trial a_this_pad a_this_history a_this_slots a_this_row_numbers a_this_row_numbers_cells v_row_length v_row_blockSize v_row_ones g_row_numbers_cells) H locs → lv_has ls 5 [(3, .int i3)] → k i3 = some out → W p l e (zR 3 63) s m args below meth c H locs 0 0 (MQ below (zQ D (zw_14 cA 0 a_this a_this_row a_this_coding a_this_trial a_this_pad a_this_history a_this_slots a_this_row_numbers a_this_row_numbers_cells v_row_length v_row_blockSize v_row_ones g_row_numbers_cells) (some (.int out)) A) args s 0 0 A) (F0 m 31 ls [])) :
    ∀ (fuel : Nat) (i3 : Int32) (i4 : Int32) (H : Heap) (locs : List Loc) (ls : Array Slot), zH D A s (zw_14 cA 0 a_this a_this_row a_this_coding a_this_trial a_this_pad a_this_history a_this_slots a_this_row_numbers a_this_row_numbers_cells v_row_length v_row_blockSize v_row_ones g_row_numbers_cells) H locs → lv_has ls 5 [(0, .ref a_this), (2, .int i2), (3, .int i3), (4, .int i4)] → F_X8_greatestGap_L5 g_row_numbers_cells i2 k fuel i3 i4 = some out → W p l e (zR 3 63) s m args below meth c H locs 0 0 (MQ below (zQ D (zw_14 cA 0 a_this a_this_row a_this_coding a_this_trial a_this_pad a_this_history a_this_slots a_this_row_numbers a_this_row_numbers_cells v_row_length v_row_blockSize v_row_ones g_row_numbers_cells) (some (.int out)) A) args s 0 0 A) (F0 m 5 ls []) := by
  intro fuel
  induction fuel with
  | zero => intro i3 i4 H locs ls hw hl hF; exact nomatch (show (none : Option (Int32)) = some out from hF)
  | succ fuel ih =>
    intro i3 i4 H locs ls hw hl hF
    rw [F_X8_greatestGap_L5] at hF
    refine z_iload 5 X dX8_greatestGap_5 hl 3 rfl ?_
    refine z_iload_n 7 X dX8_greatestGap_7 hl 1 rfl ?_
    refine z_icmp_ge 8 31 X dX8_greatestGap_8 (by decide) (fun c1 => ?_) (fun c1 => ?_)
    · replace hF := zpos c1 hF
      exact hk i3 H locs ls hw (lv_sub hl [2] rfl) hF
    · replace hF := zneg c1 hF
      refine z_iload_n 11 X dX8_greatestGap_11 hl 2 rfl ?_
      refine z_aload_n 12 X dX8_greatestGap_12 hl 0 rfl ?_
      refine z_get 13 zc8 0 0 fl_8_12 X dX8_greatestGap_13 hw rfl (by decide) rfl ?_
      refine z_iload 16 X dX8_greatestGap_16 hl 3 rfl ?_
      obtain ⟨u2, e3, hF⟩ := zbd hF
      refine z_callV 18 zc5 mv_X5_gapAhead ml_8_110 1 [1, 2, 3] (zw_14 cA 0 a_this a_this_row a_this_coding a_this_trial a_this_pad a_this_history a_this_slots a_this_row_numbers a_this_row_numbers_cells v_row_length v_row_blockSize v_row_ones g_row_numbers_cells) [.int i3] (m_X5_gapAhead l D cA a_this_row a_this_row_numbers a_this_row_numbers_cells v_row_length v_row_blockSize v_row_ones g_row_numbers_cells i4 u2 e3) X dX8_greatestGap_18 hw hl rfl rfl rfl (by decide) rfl rfl rfl (Nat.le_of_ble_eq_true rfl) ⟨Nat.le_of_ble_eq_true rfl, Nat.le_of_ble_eq_true rfl⟩ ⟨Nat.zero_le _, Nat.zero_le _⟩ (fun H locs hw => ?_)
      refine z_max 21 ml_8_274 mq_max X dX8_greatestGap_21 hl ⟨Nat.le_of_ble_eq_true rfl, Nat.le_of_ble_eq_true rfl⟩ ⟨Nat.zero_le _, Nat.zero_le _⟩ ?_
      refine z_istore_n 24 [(3, .int (if i3 < u2 then u2 else i3)), (0, .ref a_this), (2, .int i2), (4, .int i4)] X dX8_greatestGap_24 hl (by decide) rfl (fun ls hl => ?_)
      refine z_iinc2 25 1 [(4, .int (i4 + 1)), (3, .int (if i3 < u2 then u2 else i3)), (0, .ref a_this), (2, .int i2)] X dX8_greatestGap_25 hl 3 rfl (by decide) (by decide) rfl (fun ls hl => ?_)
      refine z_goto 28 5 X dX8_greatestGap_28 (by decide) ?_
      exact ih (if i3 < u2 then u2 else i3) (i4 + 1) H locs ls hw (lv_sub hl [2, 3, 1, 0] rfl) hF
set_option maxHeartbeats 4000000 in
set_option maxRecDepth 100000 in
theorem m_X8_greatestGap (l : Launch) (D : va_G) (cA : ClassId) (a_this a_this_row a_this_coding a_this_trial a_this_pad a_this_history a_this_slots a_this_row_numbers a_this_row_numbers_cells : Nat) (v_row_length : Int32) (v_row_blockSize : Int32) (v_row_ones : Int32) (g_row_numbers_cells : Ar) (i1 : Int32) (i2 : Int32) (out : Int32) (hF : F_X8_greatestGap g_row_numbers_cells i1 i2 = some out) : zM l D cA yX8_greatestGap cX8_greatestGap 5 (some .int) 3 63 [.ref a_this, .int i1, .int i2] (zw_14 cA 0 a_this a_this_row a_this_coding a_this_trial a_this_pad a_this_history a_this_slots a_this_row_numbers a_this_row_numbers_cells v_row_length v_row_blockSize v_row_ones g_row_numbers_cells) (zw_14 cA 0 a_this a_this_row a_this_coding a_this_trial a_this_pad a_this_history a_this_slots a_this_row_numbers a_this_row_numbers_cells v_row_length v_row_blockSize v_row_ones g_row_numbers_cells) (some (.int out)) := by
  refine z_body (by decide) (Nat.le_of_ble_eq_true rfl) ?_
  intro p e s m args below meth c ls H locs A X hl hw
  have hl : lv_has ls 5 [(0, .ref a_this), (1, .int i1), (2, .int i2)] := hl
  unfold F_X8_greatestGap at hF
  refine z_iconst 0 0 X dX8_greatestGap_0 (by decide) ?_
  refine z_istore_n 1 [(3, .int 0), (0, .ref a_this), (1, .int i1), (2, .int i2)] X dX8_greatestGap_1 hl (by decide) rfl (fun ls hl => ?_)
  refine z_iload_n 2 X dX8_greatestGap_2 hl 2 rfl ?_
  refine z_istore 3 [(4, .int i1), (3, .int 0), (0, .ref a_this), (1, .int i1), (2, .int i2)] X dX8_greatestGap_3 hl (by decide) rfl (fun ls hl => ?_)
  refine l_X8_greatestGap_5 l D cA a_this a_this_row a_this_coding a_this_trial a_this_pad a_this_history a_this_slots a_this_row_numbers a_this_row_numbers_cells v_row_length v_row_blockSize v_row_ones g_row_numbers_cells i2 out X _ (fun i3_4 H locs ls hw hl hF => ?_) zFuel 0 i1 H locs ls hw (lv_sub hl [2, 4, 1, 0] rfl) hF
  refine z_iload_n 31 X dX8_greatestGap_31 hl 0 rfl ?_
  cases hF
  exact z_iret 32 X dX8_greatestGap_32 hw rfl rfl
theorem dX8_block_0 : decode cX8_block 0 = .ok (.aload_n 0, 1) := by decide +kernel
theorem dX8_block_1 : decode cX8_block 1 = .ok (.getfield 12, 3) := by decide +kernel
theorem dX8_block_4 : decode cX8_block 4 = .ok (.iload_n 1, 1) := by decide +kernel
theorem dX8_block_5 : decode cX8_block 5 = .ok (.invokevirtual 127, 3) := by decide +kernel
theorem dX8_block_8 : decode cX8_block 8 = .ok (.ifCond .ne 5, 3) := by decide +kernel
theorem dX8_block_11 : decode cX8_block 11 = .ok (.iconst (-1), 1) := by decide +kernel
theorem dX8_block_12 : decode cX8_block 12 = .ok (.ireturn, 1) := by decide +kernel
theorem dX8_block_13 : decode cX8_block 13 = .ok (.aload_n 0, 1) := by decide +kernel
theorem dX8_block_14 : decode cX8_block 14 = .ok (.getfield 12, 3) := by decide +kernel
theorem dX8_block_17 : decode cX8_block 17 = .ok (.iload_n 1, 1) := by decide +kernel
theorem dX8_block_18 : decode cX8_block 18 = .ok (.invokevirtual 130, 3) := by decide +kernel
theorem dX8_block_21 : decode cX8_block 21 = .ok (.istore_n 3, 1) := by decide +kernel
theorem dX8_block_22 : decode cX8_block 22 = .ok (.aload_n 0, 1) := by decide +kernel
theorem dX8_block_23 : decode cX8_block 23 = .ok (.getfield 12, 3) := by decide +kernel
theorem dX8_block_26 : decode cX8_block 26 = .ok (.iload_n 1, 1) := by decide +kernel
theorem dX8_block_27 : decode cX8_block 27 = .ok (.invokevirtual 133, 3) := by decide +kernel
theorem dX8_block_30 : decode cX8_block 30 = .ok (.istore 4, 2) := by decide +kernel
theorem dX8_block_32 : decode cX8_block 32 = .ok (.aload_n 0, 1) := by decide +kernel
theorem dX8_block_33 : decode cX8_block 33 = .ok (.getfield 19, 3) := by decide +kernel
theorem dX8_block_36 : decode cX8_block 36 = .ok (.getfield 101, 3) := by decide +kernel
theorem dX8_block_39 : decode cX8_block 39 = .ok (.iload_n 1, 1) := by decide +kernel
theorem dX8_block_40 : decode cX8_block 40 = .ok (.invokevirtual 105, 3) := by decide +kernel
theorem dX8_block_43 : decode cX8_block 43 = .ok (.istore 5, 2) := by decide +kernel
theorem dX8_block_45 : decode cX8_block 45 = .ok (.iload_n 2, 1) := by decide +kernel
theorem dX8_block_46 : decode cX8_block 46 = .ok (.tableswitch 107 0 6 #[42, 45, 50, 66, 78, 89, 99], 42) := by decide +kernel
theorem dX8_block_88 : decode cX8_block 88 = .ok (.iload 5, 2) := by decide +kernel
theorem dX8_block_90 : decode cX8_block 90 = .ok (.ireturn, 1) := by decide +kernel
theorem dX8_block_91 : decode cX8_block 91 = .ok (.iload 4, 2) := by decide +kernel
theorem dX8_block_93 : decode cX8_block 93 = .ok (.iload_n 3, 1) := by decide +kernel
theorem dX8_block_94 : decode cX8_block 94 = .ok (.isub, 1) := by decide +kernel
theorem dX8_block_95 : decode cX8_block 95 = .ok (.ireturn, 1) := by decide +kernel
theorem dX8_block_96 : decode cX8_block 96 = .ok (.aload_n 0, 1) := by decide +kernel
theorem dX8_block_97 : decode cX8_block 97 = .ok (.getfield 19, 3) := by decide +kernel
theorem dX8_block_100 : decode cX8_block 100 = .ok (.getfield 136, 3) := by decide +kernel
theorem dX8_block_103 : decode cX8_block 103 = .ok (.iload 5, 2) := by decide +kernel
theorem dX8_block_105 : decode cX8_block 105 = .ok (.iload_n 3, 1) := by decide +kernel
theorem dX8_block_106 : decode cX8_block 106 = .ok (.iload 4, 2) := by decide +kernel
theorem dX8_block_108 : decode cX8_block 108 = .ok (.invokevirtual 139, 3) := by decide +kernel
theorem dX8_block_111 : decode cX8_block 111 = .ok (.ireturn, 1) := by decide +kernel
theorem dX8_block_112 : decode cX8_block 112 = .ok (.aload_n 0, 1) := by decide +kernel
theorem dX8_block_113 : decode cX8_block 113 = .ok (.getfield 19, 3) := by decide +kernel
theorem dX8_block_116 : decode cX8_block 116 = .ok (.getfield 142, 3) := by decide +kernel
theorem dX8_block_119 : decode cX8_block 119 = .ok (.iload_n 1, 1) := by decide +kernel
theorem dX8_block_120 : decode cX8_block 120 = .ok (.invokevirtual 105, 3) := by decide +kernel
theorem dX8_block_123 : decode cX8_block 123 = .ok (.ireturn, 1) := by decide +kernel
theorem dX8_block_124 : decode cX8_block 124 = .ok (.aload_n 0, 1) := by decide +kernel
theorem dX8_block_125 : decode cX8_block 125 = .ok (.getfield 12, 3) := by decide +kernel
theorem dX8_block_128 : decode cX8_block 128 = .ok (.iload_n 3, 1) := by decide +kernel
theorem dX8_block_129 : decode cX8_block 129 = .ok (.invokevirtual 84, 3) := by decide +kernel
theorem dX8_block_132 : decode cX8_block 132 = .ok (.iconst 1, 1) := by decide +kernel
theorem dX8_block_133 : decode cX8_block 133 = .ok (.iadd, 1) := by decide +kernel
theorem dX8_block_134 : decode cX8_block 134 = .ok (.ireturn, 1) := by decide +kernel
theorem dX8_block_135 : decode cX8_block 135 = .ok (.aload_n 0, 1) := by decide +kernel
theorem dX8_block_136 : decode cX8_block 136 = .ok (.iload_n 3, 1) := by decide +kernel
theorem dX8_block_137 : decode cX8_block 137 = .ok (.iload 4, 2) := by decide +kernel
theorem dX8_block_139 : decode cX8_block 139 = .ok (.iload 5, 2) := by decide +kernel
theorem dX8_block_141 : decode cX8_block 141 = .ok (.invokevirtual 120, 3) := by decide +kernel
theorem dX8_block_144 : decode cX8_block 144 = .ok (.ireturn, 1) := by decide +kernel
theorem dX8_block_145 : decode cX8_block 145 = .ok (.aload_n 0, 1) := by decide +kernel
theorem dX8_block_146 : decode cX8_block 146 = .ok (.iload_n 3, 1) := by decide +kernel
theorem dX8_block_147 : decode cX8_block 147 = .ok (.iload 4, 2) := by decide +kernel
theorem dX8_block_149 : decode cX8_block 149 = .ok (.invokevirtual 145, 3) := by decide +kernel
theorem dX8_block_152 : decode cX8_block 152 = .ok (.ireturn, 1) := by decide +kernel
theorem dX8_block_153 : decode cX8_block 153 = .ok (.bipush (-2), 2) := by decide +kernel
theorem dX8_block_155 : decode cX8_block 155 = .ok (.ireturn, 1) := by decide +kernel
set_option maxHeartbeats 4000000 in
set_option maxRecDepth 100000 in
theorem m_X8_block (l : Launch) (D : va_G) (cA : ClassId) (a_this a_this_row a_this_coding a_this_trial a_this_pad a_this_history a_this_slots a_this_coding_prices a_this_coding_stream a_this_coding_exponents a_this_coding_skips a_this_coding_exponents_cells a_this_coding_prices_sums a_this_coding_prices_sums_cells a_this_coding_skips_cells a_this_row_numbers a_this_row_numbers_cells : Nat) (g_coding_exponents_cells : Ar) (v_coding_prices_length : Int32) (g_coding_prices_sums_cells : Ar) (g_coding_skips_cells : Ar) (v_row_length : Int32) (v_row_blockSize : Int32) (v_row_ones : Int32) (g_row_numbers_cells : Ar) (i1 : Int32) (i2 : Int32) (out : Int32) (hF : F_X8_block g_coding_exponents_cells g_coding_prices_sums_cells g_coding_skips_cells v_row_length v_row_blockSize v_row_ones g_row_numbers_cells i1 i2 = some out) : zM l D cA yX8_block cX8_block 6 (some .int) 4 88 [.ref a_this, .int i1, .int i2] (zw_16 cA 0 a_this a_this_row a_this_coding a_this_trial a_this_pad a_this_history a_this_slots a_this_coding_prices a_this_coding_stream a_this_coding_exponents a_this_coding_skips a_this_coding_exponents_cells a_this_coding_prices_sums a_this_coding_prices_sums_cells a_this_coding_skips_cells a_this_row_numbers a_this_row_numbers_cells g_coding_exponents_cells v_coding_prices_length g_coding_prices_sums_cells g_coding_skips_cells v_row_length v_row_blockSize v_row_ones g_row_numbers_cells) (zw_16 cA 0 a_this a_this_row a_this_coding a_this_trial a_this_pad a_this_history a_this_slots a_this_coding_prices a_this_coding_stream a_this_coding_exponents a_this_coding_skips a_this_coding_exponents_cells a_this_coding_prices_sums a_this_coding_prices_sums_cells a_this_coding_skips_cells a_this_row_numbers a_this_row_numbers_cells g_coding_exponents_cells v_coding_prices_length g_coding_prices_sums_cells g_coding_skips_cells v_row_length v_row_blockSize v_row_ones g_row_numbers_cells) (some (.int out)) := by
  refine z_body (by decide) (Nat.le_of_ble_eq_true rfl) ?_
  intro p e s m args below meth c ls H locs A X hl hw
  have hl : lv_has ls 6 [(0, .ref a_this), (1, .int i1), (2, .int i2)] := hl
  unfold F_X8_block at hF
  refine z_aload_n 0 X dX8_block_0 hl 0 rfl ?_
  refine z_get 1 zc8 0 0 fl_8_12 X dX8_block_1 hw rfl (by decide) rfl ?_
  refine z_iload_n 4 X dX8_block_4 hl 1 rfl ?_
  obtain ⟨u1, e2, hF⟩ := zbd hF
  refine z_callV 5 zc5 mv_X5_hasBlock ml_8_127 9 [9] (zw_16 cA 0 a_this a_this_row a_this_coding a_this_trial a_this_pad a_this_history a_this_slots a_this_coding_prices a_this_coding_stream a_this_coding_exponents a_this_coding_skips a_this_coding_exponents_cells a_this_coding_prices_sums a_this_coding_prices_sums_cells a_this_coding_skips_cells a_this_row_numbers a_this_row_numbers_cells g_coding_exponents_cells v_coding_prices_length g_coding_prices_sums_cells g_coding_skips_cells v_row_length v_row_blockSize v_row_ones g_row_numbers_cells) [] (m_X5_hasBlock l D cA a_this_row a_this_row_numbers v_row_length v_row_blockSize v_row_ones i1 u1 e2) X dX8_block_5 hw hl rfl rfl rfl (by decide) rfl rfl rfl (Nat.le_of_ble_eq_true rfl) ⟨Nat.le_of_ble_eq_true rfl, Nat.le_of_ble_eq_true rfl⟩ ⟨Nat.zero_le _, Nat.zero_le _⟩ (fun H locs hw => ?_)
  refine z_if_ne 8 13 X dX8_block_8 (by decide) (fun c3 => ?_) (fun c3 => ?_)
  · replace hF := zneg c3 hF
    refine z_aload_n 13 X dX8_block_13 hl 0 rfl ?_
    refine z_get 14 zc8 0 0 fl_8_12 X dX8_block_14 hw rfl (by decide) rfl ?_
    refine z_iload_n 17 X dX8_block_17 hl 1 rfl ?_
    obtain ⟨u4, e5, hF⟩ := zbd hF
    refine z_callV 18 zc5 mv_X5_firstOf ml_8_130 9 [9] (zw_16 cA 0 a_this a_this_row a_this_coding a_this_trial a_this_pad a_this_history a_this_slots a_this_coding_prices a_this_coding_stream a_this_coding_exponents a_this_coding_skips a_this_coding_exponents_cells a_this_coding_prices_sums a_this_coding_prices_sums_cells a_this_coding_skips_cells a_this_row_numbers a_this_row_numbers_cells g_coding_exponents_cells v_coding_prices_length g_coding_prices_sums_cells g_coding_skips_cells v_row_length v_row_blockSize v_row_ones g_row_numbers_cells) [] (m_X5_firstOf l D cA a_this_row a_this_row_numbers v_row_length v_row_blockSize v_row_ones i1 u4 e5) X dX8_block_18 hw hl rfl rfl rfl (by decide) rfl rfl rfl (Nat.le_of_ble_eq_true rfl) ⟨Nat.le_of_ble_eq_true rfl, Nat.le_of_ble_eq_true rfl⟩ ⟨Nat.zero_le _, Nat.zero_le _⟩ (fun H locs hw => ?_)
    refine z_istore_n 21 [(3, .int u4), (0, .ref a_this), (1, .int i1), (2, .int i2)] X dX8_block_21 hl (by decide) rfl (fun ls hl => ?_)
    refine z_aload_n 22 X dX8_block_22 hl 1 rfl ?_
    refine z_get 23 zc8 0 0 fl_8_12 X dX8_block_23 hw rfl (by decide) rfl ?_
    refine z_iload_n 26 X dX8_block_26 hl 2 rfl ?_
    obtain ⟨u6, e7, hF⟩ := zbd hF
    refine z_callV 27 zc5 mv_X5_endOf ml_8_133 9 [9] (zw_16 cA 0 a_this a_this_row a_this_coding a_this_trial a_this_pad a_this_history a_this_slots a_this_coding_prices a_this_coding_stream a_this_coding_exponents a_this_coding_skips a_this_coding_exponents_cells a_this_coding_prices_sums a_this_coding_prices_sums_cells a_this_coding_skips_cells a_this_row_numbers a_this_row_numbers_cells g_coding_exponents_cells v_coding_prices_length g_coding_prices_sums_cells g_coding_skips_cells v_row_length v_row_blockSize v_row_ones g_row_numbers_cells) [] (m_X5_endOf l D cA a_this_row a_this_row_numbers v_row_length v_row_blockSize v_row_ones i1 u6 e7) X dX8_block_27 hw hl rfl rfl rfl (by decide) rfl rfl rfl (Nat.le_of_ble_eq_true rfl) ⟨Nat.le_of_ble_eq_true rfl, Nat.le_of_ble_eq_true rfl⟩ ⟨Nat.zero_le _, Nat.zero_le _⟩ (fun H locs hw => ?_)
    refine z_istore 30 [(4, .int u6), (3, .int u4), (0, .ref a_this), (1, .int i1), (2, .int i2)] X dX8_block_30 hl (by decide) rfl (fun ls hl => ?_)
    refine z_aload_n 32 X dX8_block_32 hl 2 rfl ?_
    refine z_get 33 zc8 0 1 fl_8_19 X dX8_block_33 hw rfl (by decide) rfl ?_
    refine z_getN 36 zc1 1 2 fl_8_101 X dX8_block_36 hw rfl (by decide) rfl ?_
    refine z_iload_n 39 X dX8_block_39 hl 3 rfl ?_
    obtain ⟨u8, e9, hF⟩ := zbd hF
    refine z_callV 40 zc0 mv_X0_read ml_8_105 2 [2, 3] (zw_16 cA 0 a_this a_this_row a_this_coding a_this_trial a_this_pad a_this_history a_this_slots a_this_coding_prices a_this_coding_stream a_this_coding_exponents a_this_coding_skips a_this_coding_exponents_cells a_this_coding_prices_sums a_this_coding_prices_sums_cells a_this_coding_skips_cells a_this_row_numbers a_this_row_numbers_cells g_coding_exponents_cells v_coding_prices_length g_coding_prices_sums_cells g_coding_skips_cells v_row_length v_row_blockSize v_row_ones g_row_numbers_cells) [] (m_X0_read l D cA 64 a_this_coding_exponents a_this_coding_exponents_cells g_coding_exponents_cells i1 u8 e9) X dX8_block_40 hw hl rfl rfl rfl (by decide) rfl rfl rfl (Nat.le_of_ble_eq_true rfl) ⟨Nat.le_of_ble_eq_true rfl, Nat.le_of_ble_eq_true rfl⟩ ⟨Nat.zero_le _, Nat.zero_le _⟩ (fun H locs hw => ?_)
    refine z_istore 43 [(5, .int u8), (4, .int u6), (3, .int u4), (0, .ref a_this), (1, .int i1), (2, .int i2)] X dX8_block_43 hl (by decide) rfl (fun ls hl => ?_)
    refine z_iload_n 45 X dX8_block_45 hl 5 rfl ?_
    by_cases c10 : i2 = 0
    · replace hF := zpos c10 hF
      refine z_swIn 46 88 0 X dX8_block_46 c10 ⟨by decide, by decide, rfl⟩ (by decide) ?_
      refine z_iload 88 X dX8_block_88 hl 0 rfl ?_
      cases hF
      exact z_iret 90 X dX8_block_90 hw rfl rfl
    · replace hF := zneg c10 hF
      by_cases c11 : i2 = 1
      · replace hF := zpos c11 hF
        refine z_swIn 46 91 1 X dX8_block_46 c11 ⟨by decide, by decide, rfl⟩ (by decide) ?_
        refine z_iload 91 X dX8_block_91 hl 1 rfl ?_
        refine z_iload_n 93 X dX8_block_93 hl 2 rfl ?_
        refine z_isub 94 X dX8_block_94 ?_
        cases hF
        exact z_iret 95 X dX8_block_95 hw rfl rfl
      · replace hF := zneg c11 hF
        by_cases c12 : i2 = 2
        · replace hF := zpos c12 hF
          refine z_swIn 46 96 2 X dX8_block_46 c12 ⟨by decide, by decide, rfl⟩ (by decide) ?_
          refine z_aload_n 96 X dX8_block_96 hl 3 rfl ?_
          refine z_get 97 zc8 0 1 fl_8_19 X dX8_block_97 hw rfl (by decide) rfl ?_
          refine z_getN 100 zc1 1 0 fl_8_136 X dX8_block_100 hw rfl (by decide) rfl ?_
          refine z_iload 103 X dX8_block_103 hl 0 rfl ?_
          refine z_iload_n 105 X dX8_block_105 hl 2 rfl ?_
          refine z_iload 106 X dX8_block_106 hl 1 rfl ?_
          obtain ⟨u13, e14, hF⟩ := zbd hF
          refine z_callV 108 zc4 mv_X4_blockBits ml_8_139 4 [4, 5, 6] (zw_16 cA 0 a_this a_this_row a_this_coding a_this_trial a_this_pad a_this_history a_this_slots a_this_coding_prices a_this_coding_stream a_this_coding_exponents a_this_coding_skips a_this_coding_exponents_cells a_this_coding_prices_sums a_this_coding_prices_sums_cells a_this_coding_skips_cells a_this_row_numbers a_this_row_numbers_cells g_coding_exponents_cells v_coding_prices_length g_coding_prices_sums_cells g_coding_skips_cells v_row_length v_row_blockSize v_row_ones g_row_numbers_cells) [] (m_X4_blockBits l D cA a_this_coding_prices a_this_coding_prices_sums a_this_coding_prices_sums_cells v_coding_prices_length g_coding_prices_sums_cells u8 u4 u6 u13 e14) X dX8_block_108 hw hl rfl rfl rfl (by decide) rfl rfl rfl (Nat.le_of_ble_eq_true rfl) ⟨Nat.le_of_ble_eq_true rfl, Nat.le_of_ble_eq_true rfl⟩ ⟨Nat.zero_le _, Nat.zero_le _⟩ (fun H locs hw => ?_)
          cases hF
          exact z_iret 111 X dX8_block_111 hw rfl rfl
        · replace hF := zneg c12 hF
          by_cases c15 : i2 = 3
          · replace hF := zpos c15 hF
            refine z_swIn 46 112 3 X dX8_block_46 c15 ⟨by decide, by decide, rfl⟩ (by decide) ?_
            refine z_aload_n 112 X dX8_block_112 hl 3 rfl ?_
            refine z_get 113 zc8 0 1 fl_8_19 X dX8_block_113 hw rfl (by decide) rfl ?_
            refine z_getN 116 zc1 1 3 fl_8_142 X dX8_block_116 hw rfl (by decide) rfl ?_
            refine z_iload_n 119 X dX8_block_119 hl 4 rfl ?_
            obtain ⟨u16, e17, hF⟩ := zbd hF
            refine z_callV 120 zc0 mv_X0_read ml_8_105 7 [7, 8] (zw_16 cA 0 a_this a_this_row a_this_coding a_this_trial a_this_pad a_this_history a_this_slots a_this_coding_prices a_this_coding_stream a_this_coding_exponents a_this_coding_skips a_this_coding_exponents_cells a_this_coding_prices_sums a_this_coding_prices_sums_cells a_this_coding_skips_cells a_this_row_numbers a_this_row_numbers_cells g_coding_exponents_cells v_coding_prices_length g_coding_prices_sums_cells g_coding_skips_cells v_row_length v_row_blockSize v_row_ones g_row_numbers_cells) [] (m_X0_read l D cA 64 a_this_coding_skips a_this_coding_skips_cells g_coding_skips_cells i1 u16 e17) X dX8_block_120 hw hl rfl rfl rfl (by decide) rfl rfl rfl (Nat.le_of_ble_eq_true rfl) ⟨Nat.le_of_ble_eq_true rfl, Nat.le_of_ble_eq_true rfl⟩ ⟨Nat.zero_le _, Nat.zero_le _⟩ (fun H locs hw => ?_)
            cases hF
            exact z_iret 123 X dX8_block_123 hw rfl rfl
          · replace hF := zneg c15 hF
            by_cases c18 : i2 = 4
            · replace hF := zpos c18 hF
              refine z_swIn 46 124 4 X dX8_block_46 c18 ⟨by decide, by decide, rfl⟩ (by decide) ?_
              refine z_aload_n 124 X dX8_block_124 hl 3 rfl ?_
              refine z_get 125 zc8 0 0 fl_8_12 X dX8_block_125 hw rfl (by decide) rfl ?_
              refine z_iload_n 128 X dX8_block_128 hl 2 rfl ?_
              obtain ⟨u19, e20, hF⟩ := zbd hF
              refine z_callV 129 zc5 mv_X5_numberAhead ml_8_84 9 [9, 10, 11] (zw_16 cA 0 a_this a_this_row a_this_coding a_this_trial a_this_pad a_this_history a_this_slots a_this_coding_prices a_this_coding_stream a_this_coding_exponents a_this_coding_skips a_this_coding_exponents_cells a_this_coding_prices_sums a_this_coding_prices_sums_cells a_this_coding_skips_cells a_this_row_numbers a_this_row_numbers_cells g_coding_exponents_cells v_coding_prices_length g_coding_prices_sums_cells g_coding_skips_cells v_row_length v_row_blockSize v_row_ones g_row_numbers_cells) [] (m_X5_numberAhead l D cA a_this_row a_this_row_numbers a_this_row_numbers_cells v_row_length v_row_blockSize v_row_ones g_row_numbers_cells u4 u19 e20) X dX8_block_129 hw hl rfl rfl rfl (by decide) rfl rfl rfl (Nat.le_of_ble_eq_true rfl) ⟨Nat.le_of_ble_eq_true rfl, Nat.le_of_ble_eq_true rfl⟩ ⟨Nat.zero_le _, Nat.zero_le _⟩ (fun H locs hw => ?_)
              refine z_iconst 132 1 X dX8_block_132 (by decide) ?_
              refine z_iadd 133 X dX8_block_133 ?_
              cases hF
              exact z_iret 134 X dX8_block_134 hw rfl rfl
            · replace hF := zneg c18 hF
              by_cases c21 : i2 = 5
              · replace hF := zpos c21 hF
                refine z_swIn 46 135 5 X dX8_block_46 c21 ⟨by decide, by decide, rfl⟩ (by decide) ?_
                refine z_aload_n 135 X dX8_block_135 hl 3 rfl ?_
                refine z_iload_n 136 X dX8_block_136 hl 2 rfl ?_
                refine z_iload 137 X dX8_block_137 hl 1 rfl ?_
                refine z_iload 139 X dX8_block_139 hl 0 rfl ?_
                obtain ⟨u22, e23, hF⟩ := zbd hF
                refine z_callV 141 zc8 mv_X8_escapesIn ml_8_120 0 [0, 9, 10, 11] (zw_16 cA 0 a_this a_this_row a_this_coding a_this_trial a_this_pad a_this_history a_this_slots a_this_coding_prices a_this_coding_stream a_this_coding_exponents a_this_coding_skips a_this_coding_exponents_cells a_this_coding_prices_sums a_this_coding_prices_sums_cells a_this_coding_skips_cells a_this_row_numbers a_this_row_numbers_cells g_coding_exponents_cells v_coding_prices_length g_coding_prices_sums_cells g_coding_skips_cells v_row_length v_row_blockSize v_row_ones g_row_numbers_cells) [] (m_X8_escapesIn l D cA a_this a_this_row a_this_coding a_this_trial a_this_pad a_this_history a_this_slots a_this_row_numbers a_this_row_numbers_cells v_row_length v_row_blockSize v_row_ones g_row_numbers_cells u4 u6 u8 u22 e23) X dX8_block_141 hw hl rfl rfl rfl (by decide) rfl rfl rfl (Nat.le_of_ble_eq_true rfl) ⟨Nat.le_of_ble_eq_true rfl, Nat.le_of_ble_eq_true rfl⟩ ⟨Nat.zero_le _, Nat.zero_le _⟩ (fun H locs hw => ?_)
                cases hF
                exact z_iret 144 X dX8_block_144 hw rfl rfl
              · replace hF := zneg c21 hF
                by_cases c24 : i2 = 6
                · replace hF := zpos c24 hF
                  refine z_swIn 46 145 6 X dX8_block_46 c24 ⟨by decide, by decide, rfl⟩ (by decide) ?_
                  refine z_aload_n 145 X dX8_block_145 hl 3 rfl ?_
                  refine z_iload_n 146 X dX8_block_146 hl 2 rfl ?_
                  refine z_iload 147 X dX8_block_147 hl 1 rfl ?_
                  obtain ⟨u25, e26, hF⟩ := zbd hF
                  refine z_callV 149 zc8 mv_X8_greatestGap ml_8_145 0 [0, 9, 10, 11] (zw_16 cA 0 a_this a_this_row a_this_coding a_this_trial a_this_pad a_this_history a_this_slots a_this_coding_prices a_this_coding_stream a_this_coding_exponents a_this_coding_skips a_this_coding_exponents_cells a_this_coding_prices_sums a_this_coding_prices_sums_cells a_this_coding_skips_cells a_this_row_numbers a_this_row_numbers_cells g_coding_exponents_cells v_coding_prices_length g_coding_prices_sums_cells g_coding_skips_cells v_row_length v_row_blockSize v_row_ones g_row_numbers_cells) [] (m_X8_greatestGap l D cA a_this a_this_row a_this_coding a_this_trial a_this_pad a_this_history a_this_slots a_this_row_numbers a_this_row_numbers_cells v_row_length v_row_blockSize v_row_ones g_row_numbers_cells u4 u6 u25 e26) X dX8_block_149 hw hl rfl rfl rfl (by decide) rfl rfl rfl (Nat.le_of_ble_eq_true rfl) ⟨Nat.le_of_ble_eq_true rfl, Nat.le_of_ble_eq_true rfl⟩ ⟨Nat.zero_le _, Nat.zero_le _⟩ (fun H locs hw => ?_)
                  cases hF
                  exact z_iret 152 X dX8_block_152 hw rfl rfl
                · replace hF := zneg c24 hF
                  refine z_swOut 46 153 7 X dX8_block_46 (by decide) ⟨⟨⟨⟨⟨⟨⟨trivial, c10⟩, c11⟩, c12⟩, c15⟩, c18⟩, c21⟩, c24⟩ (by decide) ?_
                  refine z_bipush 153 (-2) X dX8_block_153 (by decide) ?_
                  cases hF
                  exact z_iret 155 X dX8_block_155 hw rfl rfl
  · replace hF := zpos c3 hF
    refine z_iconst 11 (-1) X dX8_block_11 (by decide) ?_
    cases hF
    exact z_iret 12 X dX8_block_12 hw rfl rfl
theorem dX8_bit_0 : decode cX8_bit 0 = .ok (.aload_n 0, 1) := by decide +kernel
theorem dX8_bit_1 : decode cX8_bit 1 = .ok (.getfield 19, 3) := by decide +kernel
theorem dX8_bit_4 : decode cX8_bit 4 = .ok (.getfield 91, 3) := by decide +kernel
theorem dX8_bit_7 : decode cX8_bit 7 = .ok (.iload_n 1, 1) := by decide +kernel
theorem dX8_bit_8 : decode cX8_bit 8 = .ok (.invokevirtual 148, 3) := by decide +kernel
theorem dX8_bit_11 : decode cX8_bit 11 = .ok (.ifCond .eq 17, 3) := by decide +kernel
theorem dX8_bit_14 : decode cX8_bit 14 = .ok (.aload_n 0, 1) := by decide +kernel
theorem dX8_bit_15 : decode cX8_bit 15 = .ok (.getfield 19, 3) := by decide +kernel
theorem dX8_bit_18 : decode cX8_bit 18 = .ok (.getfield 91, 3) := by decide +kernel
theorem dX8_bit_21 : decode cX8_bit 21 = .ok (.iload_n 1, 1) := by decide +kernel
theorem dX8_bit_22 : decode cX8_bit 22 = .ok (.invokevirtual 149, 3) := by decide +kernel
theorem dX8_bit_25 : decode cX8_bit 25 = .ok (.goto 4, 3) := by decide +kernel
theorem dX8_bit_28 : decode cX8_bit 28 = .ok (.iconst (-1), 1) := by decide +kernel
theorem dX8_bit_29 : decode cX8_bit 29 = .ok (.ireturn, 1) := by decide +kernel
set_option maxHeartbeats 4000000 in
set_option maxRecDepth 100000 in
theorem m_X8_bit (l : Launch) (D : va_G) (cA : ClassId) (a_this a_this_row a_this_coding a_this_trial a_this_pad a_this_history a_this_slots a_this_coding_prices a_this_coding_stream a_this_coding_exponents a_this_coding_skips a_this_coding_stream_cells a_this_coding_stream_cells_cells : Nat) (v_coding_stream_length : Int32) (v_coding_stream_start : Int32) (v_coding_stream_next : Int32) (v_coding_stream_exponent : Int32) (v_coding_stream_number : Int32) (g_coding_stream_cells_cells : Ar) (i1 : Int32) (out : Int32) (hF : F_X8_bit v_coding_stream_length g_coding_stream_cells_cells i1 = some out) : zM l D cA yX8_bit cX8_bit 2 (some .int) 2 42 [.ref a_this, .int i1] (zw_18 cA 0 a_this a_this_row a_this_coding a_this_trial a_this_pad a_this_history a_this_slots a_this_coding_prices a_this_coding_stream a_this_coding_exponents a_this_coding_skips a_this_coding_stream_cells a_this_coding_stream_cells_cells v_coding_stream_length v_coding_stream_start v_coding_stream_next v_coding_stream_exponent v_coding_stream_number g_coding_stream_cells_cells) (zw_18 cA 0 a_this a_this_row a_this_coding a_this_trial a_this_pad a_this_history a_this_slots a_this_coding_prices a_this_coding_stream a_this_coding_exponents a_this_coding_skips a_this_coding_stream_cells a_this_coding_stream_cells_cells v_coding_stream_length v_coding_stream_start v_coding_stream_next v_coding_stream_exponent v_coding_stream_number g_coding_stream_cells_cells) (some (.int out)) := by
  refine z_body (by decide) (Nat.le_of_ble_eq_true rfl) ?_
  intro p e s m args below meth c ls H locs A X hl hw
  have hl : lv_has ls 2 [(0, .ref a_this), (1, .int i1)] := hl
  unfold F_X8_bit at hF
  refine z_aload_n 0 X dX8_bit_0 hl 0 rfl ?_
  refine z_get 1 zc8 0 1 fl_8_19 X dX8_bit_1 hw rfl (by decide) rfl ?_
  refine z_getN 4 zc1 1 1 fl_8_91 X dX8_bit_4 hw rfl (by decide) rfl ?_
  refine z_iload_n 7 X dX8_bit_7 hl 1 rfl ?_
  obtain ⟨u1, e2, hF⟩ := zbd hF
  refine z_callV 8 zc7 mv_X7_hasPlace ml_8_148 2 [2] (zw_18 cA 0 a_this a_this_row a_this_coding a_this_trial a_this_pad a_this_history a_this_slots a_this_coding_prices a_this_coding_stream a_this_coding_exponents a_this_coding_skips a_this_coding_stream_cells a_this_coding_stream_cells_cells v_coding_stream_length v_coding_stream_start v_coding_stream_next v_coding_stream_exponent v_coding_stream_number g_coding_stream_cells_cells) [] (m_X7_hasPlace l D cA a_this_coding_stream a_this_coding_stream_cells v_coding_stream_length v_coding_stream_start v_coding_stream_next v_coding_stream_exponent v_coding_stream_number i1 u1 e2) X dX8_bit_8 hw hl rfl rfl rfl (by decide) rfl rfl rfl (Nat.le_of_ble_eq_true rfl) ⟨Nat.le_of_ble_eq_true rfl, Nat.le_of_ble_eq_true rfl⟩ ⟨Nat.zero_le _, Nat.zero_le _⟩ (fun H locs hw => ?_)
  refine z_if_eq 11 28 X dX8_bit_11 (by decide) (fun c3 => ?_) (fun c3 => ?_)
  · replace hF := zpos c3 hF
    refine z_iconst 28 (-1) X dX8_bit_28 (by decide) ?_
    cases hF
    exact z_iret 29 X dX8_bit_29 hw rfl rfl
  · replace hF := zneg c3 hF
    refine z_aload_n 14 X dX8_bit_14 hl 0 rfl ?_
    refine z_get 15 zc8 0 1 fl_8_19 X dX8_bit_15 hw rfl (by decide) rfl ?_
    refine z_getN 18 zc1 1 1 fl_8_91 X dX8_bit_18 hw rfl (by decide) rfl ?_
    refine z_iload_n 21 X dX8_bit_21 hl 1 rfl ?_
    obtain ⟨u4, e5, hF⟩ := zbd hF
    refine z_callV 22 zc7 mv_X7_bitOrZero ml_8_149 2 [2, 3, 4] (zw_18 cA 0 a_this a_this_row a_this_coding a_this_trial a_this_pad a_this_history a_this_slots a_this_coding_prices a_this_coding_stream a_this_coding_exponents a_this_coding_skips a_this_coding_stream_cells a_this_coding_stream_cells_cells v_coding_stream_length v_coding_stream_start v_coding_stream_next v_coding_stream_exponent v_coding_stream_number g_coding_stream_cells_cells) [] (m_X7_bitOrZero l D cA a_this_coding_stream a_this_coding_stream_cells a_this_coding_stream_cells_cells v_coding_stream_length v_coding_stream_start v_coding_stream_next v_coding_stream_exponent v_coding_stream_number g_coding_stream_cells_cells i1 u4 e5) X dX8_bit_22 hw hl rfl rfl rfl (by decide) rfl rfl rfl (Nat.le_of_ble_eq_true rfl) ⟨Nat.le_of_ble_eq_true rfl, Nat.le_of_ble_eq_true rfl⟩ ⟨Nat.zero_le _, Nat.zero_le _⟩ (fun H locs hw => ?_)
    refine z_goto 25 29 X dX8_bit_25 (by decide) ?_
    cases hF
    exact z_iret 29 X dX8_bit_29 hw rfl rfl
theorem dX8_bits_0 : decode cX8_bits 0 = .ok (.aload_n 0, 1) := by decide +kernel
theorem dX8_bits_1 : decode cX8_bits 1 = .ok (.getfield 19, 3) := by decide +kernel
theorem dX8_bits_4 : decode cX8_bits 4 = .ok (.getfield 91, 3) := by decide +kernel
theorem dX8_bits_7 : decode cX8_bits 7 = .ok (.iload_n 1, 1) := by decide +kernel
theorem dX8_bits_8 : decode cX8_bits 8 = .ok (.invokevirtual 148, 3) := by decide +kernel
theorem dX8_bits_11 : decode cX8_bits 11 = .ok (.ifCond .eq 17, 3) := by decide +kernel
theorem dX8_bits_14 : decode cX8_bits 14 = .ok (.aload_n 0, 1) := by decide +kernel
theorem dX8_bits_15 : decode cX8_bits 15 = .ok (.getfield 19, 3) := by decide +kernel
theorem dX8_bits_18 : decode cX8_bits 18 = .ok (.getfield 91, 3) := by decide +kernel
theorem dX8_bits_21 : decode cX8_bits 21 = .ok (.iload_n 1, 1) := by decide +kernel
theorem dX8_bits_22 : decode cX8_bits 22 = .ok (.invokevirtual 152, 3) := by decide +kernel
theorem dX8_bits_25 : decode cX8_bits 25 = .ok (.goto 6, 3) := by decide +kernel
theorem dX8_bits_28 : decode cX8_bits 28 = .ok (.ldc2_w 156, 3) := by decide +kernel
theorem dX8_bits_31 : decode cX8_bits 31 = .ok (.lreturn, 1) := by decide +kernel
set_option maxHeartbeats 4000000 in
set_option maxRecDepth 100000 in
theorem m_X8_bits (l : Launch) (D : va_G) (cA : ClassId) (a_this a_this_row a_this_coding a_this_trial a_this_pad a_this_history a_this_slots a_this_coding_prices a_this_coding_stream a_this_coding_exponents a_this_coding_skips a_this_coding_stream_cells a_this_coding_stream_cells_cells : Nat) (v_coding_stream_length : Int32) (v_coding_stream_start : Int32) (v_coding_stream_next : Int32) (v_coding_stream_exponent : Int32) (v_coding_stream_number : Int32) (g_coding_stream_cells_cells : Ar) (i1 : Int32) (out : Int64) (hF : F_X8_bits v_coding_stream_length g_coding_stream_cells_cells i1 = some out) : zM l D cA yX8_bits cX8_bits 2 (some .long) 3 66 [.ref a_this, .int i1] (zw_18 cA 0 a_this a_this_row a_this_coding a_this_trial a_this_pad a_this_history a_this_slots a_this_coding_prices a_this_coding_stream a_this_coding_exponents a_this_coding_skips a_this_coding_stream_cells a_this_coding_stream_cells_cells v_coding_stream_length v_coding_stream_start v_coding_stream_next v_coding_stream_exponent v_coding_stream_number g_coding_stream_cells_cells) (zw_18 cA 0 a_this a_this_row a_this_coding a_this_trial a_this_pad a_this_history a_this_slots a_this_coding_prices a_this_coding_stream a_this_coding_exponents a_this_coding_skips a_this_coding_stream_cells a_this_coding_stream_cells_cells v_coding_stream_length v_coding_stream_start v_coding_stream_next v_coding_stream_exponent v_coding_stream_number g_coding_stream_cells_cells) (some (.long out)) := by
  refine z_body (by decide) (Nat.le_of_ble_eq_true rfl) ?_
  intro p e s m args below meth c ls H locs A X hl hw
  have hl : lv_has ls 2 [(0, .ref a_this), (1, .int i1)] := hl
  unfold F_X8_bits at hF
  refine z_aload_n 0 X dX8_bits_0 hl 0 rfl ?_
  refine z_get 1 zc8 0 1 fl_8_19 X dX8_bits_1 hw rfl (by decide) rfl ?_
  refine z_getN 4 zc1 1 1 fl_8_91 X dX8_bits_4 hw rfl (by decide) rfl ?_
  refine z_iload_n 7 X dX8_bits_7 hl 1 rfl ?_
  obtain ⟨u1, e2, hF⟩ := zbd hF
  refine z_callV 8 zc7 mv_X7_hasPlace ml_8_148 2 [2] (zw_18 cA 0 a_this a_this_row a_this_coding a_this_trial a_this_pad a_this_history a_this_slots a_this_coding_prices a_this_coding_stream a_this_coding_exponents a_this_coding_skips a_this_coding_stream_cells a_this_coding_stream_cells_cells v_coding_stream_length v_coding_stream_start v_coding_stream_next v_coding_stream_exponent v_coding_stream_number g_coding_stream_cells_cells) [] (m_X7_hasPlace l D cA a_this_coding_stream a_this_coding_stream_cells v_coding_stream_length v_coding_stream_start v_coding_stream_next v_coding_stream_exponent v_coding_stream_number i1 u1 e2) X dX8_bits_8 hw hl rfl rfl rfl (by decide) rfl rfl rfl (Nat.le_of_ble_eq_true rfl) ⟨Nat.le_of_ble_eq_true rfl, Nat.le_of_ble_eq_true rfl⟩ ⟨Nat.zero_le _, Nat.zero_le _⟩ (fun H locs hw => ?_)
  refine z_if_eq 11 28 X dX8_bits_11 (by decide) (fun c3 => ?_) (fun c3 => ?_)
  · replace hF := zpos c3 hF
    refine z_ldc2 28 (-1) X dX8_bits_28 cl_8_156 ?_
    cases hF
    exact z_lret 31 X dX8_bits_31 hw rfl rfl
  · replace hF := zneg c3 hF
    refine z_aload_n 14 X dX8_bits_14 hl 0 rfl ?_
    refine z_get 15 zc8 0 1 fl_8_19 X dX8_bits_15 hw rfl (by decide) rfl ?_
    refine z_getN 18 zc1 1 1 fl_8_91 X dX8_bits_18 hw rfl (by decide) rfl ?_
    refine z_iload_n 21 X dX8_bits_21 hl 1 rfl ?_
    obtain ⟨u4, e5, hF⟩ := zbd hF
    refine z_callV 22 zc7 mv_X7_wordFrom ml_8_152 2 [2, 3, 4] (zw_18 cA 0 a_this a_this_row a_this_coding a_this_trial a_this_pad a_this_history a_this_slots a_this_coding_prices a_this_coding_stream a_this_coding_exponents a_this_coding_skips a_this_coding_stream_cells a_this_coding_stream_cells_cells v_coding_stream_length v_coding_stream_start v_coding_stream_next v_coding_stream_exponent v_coding_stream_number g_coding_stream_cells_cells) [] (m_X7_wordFrom l D cA a_this_coding_stream a_this_coding_stream_cells a_this_coding_stream_cells_cells v_coding_stream_length v_coding_stream_start v_coding_stream_next v_coding_stream_exponent v_coding_stream_number g_coding_stream_cells_cells i1 u4 e5) X dX8_bits_22 hw hl rfl rfl rfl (by decide) rfl rfl rfl (Nat.le_of_ble_eq_true rfl) ⟨Nat.le_of_ble_eq_true rfl, Nat.le_of_ble_eq_true rfl⟩ ⟨Nat.zero_le _, Nat.zero_le _⟩ (fun H locs hw => ?_)
    refine z_goto 25 31 X dX8_bits_25 (by decide) ?_
    cases hF
    exact z_lret 31 X dX8_bits_31 hw rfl rfl
theorem dX8_allEscapes_0 : decode cX8_allEscapes 0 = .ok (.iconst 0, 1) := by decide +kernel
theorem dX8_allEscapes_1 : decode cX8_allEscapes 1 = .ok (.istore_n 1, 1) := by decide +kernel
theorem dX8_allEscapes_2 : decode cX8_allEscapes 2 = .ok (.iconst 0, 1) := by decide +kernel
theorem dX8_allEscapes_3 : decode cX8_allEscapes 3 = .ok (.istore_n 2, 1) := by decide +kernel
theorem dX8_allEscapes_4 : decode cX8_allEscapes 4 = .ok (.iload_n 2, 1) := by decide +kernel
theorem dX8_allEscapes_5 : decode cX8_allEscapes 5 = .ok (.aload_n 0, 1) := by decide +kernel
theorem dX8_allEscapes_6 : decode cX8_allEscapes 6 = .ok (.getfield 12, 3) := by decide +kernel
theorem dX8_allEscapes_9 : decode cX8_allEscapes 9 = .ok (.invokevirtual 158, 3) := by decide +kernel
theorem dX8_allEscapes_12 : decode cX8_allEscapes 12 = .ok (.if_icmp .ge 43, 3) := by decide +kernel
theorem dX8_allEscapes_15 : decode cX8_allEscapes 15 = .ok (.iload_n 1, 1) := by decide +kernel
theorem dX8_allEscapes_16 : decode cX8_allEscapes 16 = .ok (.aload_n 0, 1) := by decide +kernel
theorem dX8_allEscapes_17 : decode cX8_allEscapes 17 = .ok (.aload_n 0, 1) := by decide +kernel
theorem dX8_allEscapes_18 : decode cX8_allEscapes 18 = .ok (.getfield 12, 3) := by decide +kernel
theorem dX8_allEscapes_21 : decode cX8_allEscapes 21 = .ok (.iload_n 2, 1) := by decide +kernel
theorem dX8_allEscapes_22 : decode cX8_allEscapes 22 = .ok (.invokevirtual 130, 3) := by decide +kernel
theorem dX8_allEscapes_25 : decode cX8_allEscapes 25 = .ok (.aload_n 0, 1) := by decide +kernel
theorem dX8_allEscapes_26 : decode cX8_allEscapes 26 = .ok (.getfield 12, 3) := by decide +kernel
theorem dX8_allEscapes_29 : decode cX8_allEscapes 29 = .ok (.iload_n 2, 1) := by decide +kernel
theorem dX8_allEscapes_30 : decode cX8_allEscapes 30 = .ok (.invokevirtual 133, 3) := by decide +kernel
theorem dX8_allEscapes_33 : decode cX8_allEscapes 33 = .ok (.aload_n 0, 1) := by decide +kernel
theorem dX8_allEscapes_34 : decode cX8_allEscapes 34 = .ok (.getfield 19, 3) := by decide +kernel
theorem dX8_allEscapes_37 : decode cX8_allEscapes 37 = .ok (.getfield 101, 3) := by decide +kernel
theorem dX8_allEscapes_40 : decode cX8_allEscapes 40 = .ok (.iload_n 2, 1) := by decide +kernel
theorem dX8_allEscapes_41 : decode cX8_allEscapes 41 = .ok (.invokevirtual 105, 3) := by decide +kernel
theorem dX8_allEscapes_44 : decode cX8_allEscapes 44 = .ok (.invokevirtual 120, 3) := by decide +kernel
theorem dX8_allEscapes_47 : decode cX8_allEscapes 47 = .ok (.iadd, 1) := by decide +kernel
theorem dX8_allEscapes_48 : decode cX8_allEscapes 48 = .ok (.istore_n 1, 1) := by decide +kernel
theorem dX8_allEscapes_49 : decode cX8_allEscapes 49 = .ok (.iinc 2 1, 3) := by decide +kernel
theorem dX8_allEscapes_52 : decode cX8_allEscapes 52 = .ok (.goto (-48), 3) := by decide +kernel
theorem dX8_allEscapes_55 : decode cX8_allEscapes 55 = .ok (.iload_n 1, 1) := by decide +kernel
theorem dX8_allEscapes_56 : decode cX8_allEscapes 56 = .ok (.ireturn, 1) := by decide +kernel
set_option maxHeartbeats 4000000 in
set_option maxRecDepth 100000 in
theorem l_X8_allEscapes_4 (l : Launch) (D : va_G) (cA : ClassId) (a_this a_this_row a_this_coding a_this_trial a_this_pad a_this_history a_this_slots a_this_coding_prices a_this_coding_stream a_this_coding_exponents a_this_coding_skips a_this_coding_exponents_cells a_this_row_numbers a_this_row_numbers_cells : Nat) (g_coding_exponents_cells : Ar) (v_row_length : Int32) (v_row_blockSize : Int32) (v_row_ones : Int32) (g_row_numbers_cells : Ar) (out : Int32) {p : Program} {e : Env} {s : State} {m : MethodId} {args : Array Value} {below : List Frame} {meth : Method} {c : Code} {A : Nat → Prop} (X : zX D cA p s m args meth c cX8_allEscapes 3 RX8 (some .int)) (k : Int32 → Option (Int32)) (hk : ∀ (i1 : Int32) (H : Heap) (locs : List Loc) (ls : Array Slot), zH D A s (zw_19 cA 0 a_this a_this_row a_this_coding a_this_trial a_this_pad a_this_history a_this_slots a_this_coding_prices a_this_coding_stream a_this_coding_exponents a_this_coding_skips a_this_coding_exponents_cells a_this_row_numbers a_this_row_numbers_cells g_coding_exponents_cells v_row_length v_row_blockSize v_row_ones g_row_numbers_cells) H locs → lv_has ls 3 [(1, .int i1)] → k i1 = some out → W p l e (zR 4 88) s m args below meth c H locs 0 0 (MQ below (zQ D (zw_19 cA 0 a_this a_this_row a_this_coding a_this_trial a_this_pad a_this_history a_this_slots a_this_coding_prices a_this_coding_stream a_this_coding_exponents a_this_coding_skips a_this_coding_exponents_cells a_this_row_numbers a_this_row_numbers_cells g_coding_exponents_cells v_row_length v_row_blockSize v_row_ones g_row_numbers_cells) (some (.int out)) A) args s 0 0 A) (F0 m 55 ls [])) :
    ∀ (fuel : Nat) (i1 : Int32) (i2 : Int32) (H : Heap) (locs : List Loc) (ls : Array Slot), zH D A s (zw_19 cA 0 a_this a_this_row a_this_coding a_this_trial a_this_pad a_this_history a_this_slots a_this_coding_prices a_this_coding_stream a_this_coding_exponents a_this_coding_skips a_this_coding_exponents_cells a_this_row_numbers a_this_row_numbers_cells g_coding_exponents_cells v_row_length v_row_blockSize v_row_ones g_row_numbers_cells) H locs → lv_has ls 3 [(0, .ref a_this), (1, .int i1), (2, .int i2)] → F_X8_allEscapes_L4 g_coding_exponents_cells v_row_length v_row_blockSize v_row_ones g_row_numbers_cells k fuel i1 i2 = some out → W p l e (zR 4 88) s m args below meth c H locs 0 0 (MQ below (zQ D (zw_19 cA 0 a_this a_this_row a_this_coding a_this_trial a_this_pad a_this_history a_this_slots a_this_coding_prices a_this_coding_stream a_this_coding_exponents a_this_coding_skips a_this_coding_exponents_cells a_this_row_numbers a_this_row_numbers_cells g_coding_exponents_cells v_row_length v_row_blockSize v_row_ones g_row_numbers_cells) (some (.int out)) A) args s 0 0 A) (F0 m 4 ls []) := by
  intro fuel
  induction fuel with
  | zero => intro i1 i2 H locs ls hw hl hF; exact nomatch (show (none : Option (Int32)) = some out from hF)
  | succ fuel ih =>
    intro i1 i2 H locs ls hw hl hF
    rw [F_X8_allEscapes_L4] at hF
    refine z_iload_n 4 X dX8_allEscapes_4 hl 2 rfl ?_
    refine z_aload_n 5 X dX8_allEscapes_5 hl 0 rfl ?_
    refine z_get 6 zc8 0 0 fl_8_12 X dX8_allEscapes_6 hw rfl (by decide) rfl ?_
    obtain ⟨u1, e2, hF⟩ := zbd hF
    refine z_callV 9 zc5 mv_X5_blocks ml_8_158 4 [4] (zw_19 cA 0 a_this a_this_row a_this_coding a_this_trial a_this_pad a_this_history a_this_slots a_this_coding_prices a_this_coding_stream a_this_coding_exponents a_this_coding_skips a_this_coding_exponents_cells a_this_row_numbers a_this_row_numbers_cells g_coding_exponents_cells v_row_length v_row_blockSize v_row_ones g_row_numbers_cells) [.int i2] (m_X5_blocks l D cA a_this_row a_this_row_numbers v_row_length v_row_blockSize v_row_ones u1 e2) X dX8_allEscapes_9 hw hl rfl rfl rfl (by decide) rfl rfl rfl (Nat.le_of_ble_eq_true rfl) ⟨Nat.le_of_ble_eq_true rfl, Nat.le_of_ble_eq_true rfl⟩ ⟨Nat.zero_le _, Nat.zero_le _⟩ (fun H locs hw => ?_)
    refine z_icmp_ge 12 55 X dX8_allEscapes_12 (by decide) (fun c3 => ?_) (fun c3 => ?_)
    · replace hF := zpos c3 hF
      exact hk i1 H locs ls hw (lv_sub hl [1] rfl) hF
    · replace hF := zneg c3 hF
      refine z_iload_n 15 X dX8_allEscapes_15 hl 1 rfl ?_
      refine z_aload_n 16 X dX8_allEscapes_16 hl 0 rfl ?_
      refine z_aload_n 17 X dX8_allEscapes_17 hl 0 rfl ?_
      refine z_get 18 zc8 0 0 fl_8_12 X dX8_allEscapes_18 hw rfl (by decide) rfl ?_
      refine z_iload_n 21 X dX8_allEscapes_21 hl 2 rfl ?_
      obtain ⟨u4, e5, hF⟩ := zbd hF
      refine z_callV 22 zc5 mv_X5_firstOf ml_8_130 4 [4] (zw_19 cA 0 a_this a_this_row a_this_coding a_this_trial a_this_pad a_this_history a_this_slots a_this_coding_prices a_this_coding_stream a_this_coding_exponents a_this_coding_skips a_this_coding_exponents_cells a_this_row_numbers a_this_row_numbers_cells g_coding_exponents_cells v_row_length v_row_blockSize v_row_ones g_row_numbers_cells) [.ref a_this, .int i1] (m_X5_firstOf l D cA a_this_row a_this_row_numbers v_row_length v_row_blockSize v_row_ones i2 u4 e5) X dX8_allEscapes_22 hw hl rfl rfl rfl (by decide) rfl rfl rfl (Nat.le_of_ble_eq_true rfl) ⟨Nat.le_of_ble_eq_true rfl, Nat.le_of_ble_eq_true rfl⟩ ⟨Nat.zero_le _, Nat.zero_le _⟩ (fun H locs hw => ?_)
      refine z_aload_n 25 X dX8_allEscapes_25 hl 0 rfl ?_
      refine z_get 26 zc8 0 0 fl_8_12 X dX8_allEscapes_26 hw rfl (by decide) rfl ?_
      refine z_iload_n 29 X dX8_allEscapes_29 hl 2 rfl ?_
      obtain ⟨u6, e7, hF⟩ := zbd hF
      refine z_callV 30 zc5 mv_X5_endOf ml_8_133 4 [4] (zw_19 cA 0 a_this a_this_row a_this_coding a_this_trial a_this_pad a_this_history a_this_slots a_this_coding_prices a_this_coding_stream a_this_coding_exponents a_this_coding_skips a_this_coding_exponents_cells a_this_row_numbers a_this_row_numbers_cells g_coding_exponents_cells v_row_length v_row_blockSize v_row_ones g_row_numbers_cells) [.int u4, .ref a_this, .int i1] (m_X5_endOf l D cA a_this_row a_this_row_numbers v_row_length v_row_blockSize v_row_ones i2 u6 e7) X dX8_allEscapes_30 hw hl rfl rfl rfl (by decide) rfl rfl rfl (Nat.le_of_ble_eq_true rfl) ⟨Nat.le_of_ble_eq_true rfl, Nat.le_of_ble_eq_true rfl⟩ ⟨Nat.zero_le _, Nat.zero_le _⟩ (fun H locs hw => ?_)
      refine z_aload_n 33 X dX8_allEscapes_33 hl 0 rfl ?_
      refine z_get 34 zc8 0 1 fl_8_19 X dX8_allEscapes_34 hw rfl (by decide) rfl ?_
      refine z_getN 37 zc1 1 2 fl_8_101 X dX8_allEscapes_37 hw rfl (by decide) rfl ?_
      refine z_iload_n 40 X dX8_allEscapes_40 hl 2 rfl ?_
      obtain ⟨u8, e9, hF⟩ := zbd hF
      refine z_callV 41 zc0 mv_X0_read ml_8_105 2 [2, 3] (zw_19 cA 0 a_this a_this_row a_this_coding a_this_trial a_this_pad a_this_history a_this_slots a_this_coding_prices a_this_coding_stream a_this_coding_exponents a_this_coding_skips a_this_coding_exponents_cells a_this_row_numbers a_this_row_numbers_cells g_coding_exponents_cells v_row_length v_row_blockSize v_row_ones g_row_numbers_cells) [.int u6, .int u4, .ref a_this, .int i1] (m_X0_read l D cA 64 a_this_coding_exponents a_this_coding_exponents_cells g_coding_exponents_cells i2 u8 e9) X dX8_allEscapes_41 hw hl rfl rfl rfl (by decide) rfl rfl rfl (Nat.le_of_ble_eq_true rfl) ⟨Nat.le_of_ble_eq_true rfl, Nat.le_of_ble_eq_true rfl⟩ ⟨Nat.zero_le _, Nat.zero_le _⟩ (fun H locs hw => ?_)
      obtain ⟨u10, e11, hF⟩ := zbd hF
      refine z_callV 44 zc8 mv_X8_escapesIn ml_8_120 0 [0, 4, 5, 6] (zw_19 cA 0 a_this a_this_row a_this_coding a_this_trial a_this_pad a_this_history a_this_slots a_this_coding_prices a_this_coding_stream a_this_coding_exponents a_this_coding_skips a_this_coding_exponents_cells a_this_row_numbers a_this_row_numbers_cells g_coding_exponents_cells v_row_length v_row_blockSize v_row_ones g_row_numbers_cells) [.int i1] (m_X8_escapesIn l D cA a_this a_this_row a_this_coding a_this_trial a_this_pad a_this_history a_this_slots a_this_row_numbers a_this_row_numbers_cells v_row_length v_row_blockSize v_row_ones g_row_numbers_cells u4 u6 u8 u10 e11) X dX8_allEscapes_44 hw hl rfl rfl rfl (by decide) rfl rfl rfl (Nat.le_of_ble_eq_true rfl) ⟨Nat.le_of_ble_eq_true rfl, Nat.le_of_ble_eq_true rfl⟩ ⟨Nat.zero_le _, Nat.zero_le _⟩ (fun H locs hw => ?_)
      refine z_iadd 47 X dX8_allEscapes_47 ?_
      refine z_istore_n 48 [(1, .int (i1 + u10)), (0, .ref a_this), (2, .int i2)] X dX8_allEscapes_48 hl (by decide) rfl (fun ls hl => ?_)
      refine z_iinc2 49 1 [(2, .int (i2 + 1)), (1, .int (i1 + u10)), (0, .ref a_this)] X dX8_allEscapes_49 hl 2 rfl (by decide) (by decide) rfl (fun ls hl => ?_)
      refine z_goto 52 4 X dX8_allEscapes_52 (by decide) ?_
      exact ih (i1 + u10) (i2 + 1) H locs ls hw (lv_sub hl [2, 1, 0] rfl) hF
set_option maxHeartbeats 4000000 in
set_option maxRecDepth 100000 in
theorem m_X8_allEscapes (l : Launch) (D : va_G) (cA : ClassId) (a_this a_this_row a_this_coding a_this_trial a_this_pad a_this_history a_this_slots a_this_coding_prices a_this_coding_stream a_this_coding_exponents a_this_coding_skips a_this_coding_exponents_cells a_this_row_numbers a_this_row_numbers_cells : Nat) (g_coding_exponents_cells : Ar) (v_row_length : Int32) (v_row_blockSize : Int32) (v_row_ones : Int32) (g_row_numbers_cells : Ar) (out : Int32) (hF : F_X8_allEscapes g_coding_exponents_cells v_row_length v_row_blockSize v_row_ones g_row_numbers_cells = some out) : zM l D cA yX8_allEscapes cX8_allEscapes 3 (some .int) 4 88 [.ref a_this] (zw_19 cA 0 a_this a_this_row a_this_coding a_this_trial a_this_pad a_this_history a_this_slots a_this_coding_prices a_this_coding_stream a_this_coding_exponents a_this_coding_skips a_this_coding_exponents_cells a_this_row_numbers a_this_row_numbers_cells g_coding_exponents_cells v_row_length v_row_blockSize v_row_ones g_row_numbers_cells) (zw_19 cA 0 a_this a_this_row a_this_coding a_this_trial a_this_pad a_this_history a_this_slots a_this_coding_prices a_this_coding_stream a_this_coding_exponents a_this_coding_skips a_this_coding_exponents_cells a_this_row_numbers a_this_row_numbers_cells g_coding_exponents_cells v_row_length v_row_blockSize v_row_ones g_row_numbers_cells) (some (.int out)) := by
  refine z_body (by decide) (Nat.le_of_ble_eq_true rfl) ?_
  intro p e s m args below meth c ls H locs A X hl hw
  have hl : lv_has ls 3 [(0, .ref a_this)] := hl
  unfold F_X8_allEscapes at hF
  refine z_iconst 0 0 X dX8_allEscapes_0 (by decide) ?_
  refine z_istore_n 1 [(1, .int 0), (0, .ref a_this)] X dX8_allEscapes_1 hl (by decide) rfl (fun ls hl => ?_)
  refine z_iconst 2 0 X dX8_allEscapes_2 (by decide) ?_
  refine z_istore_n 3 [(2, .int 0), (1, .int 0), (0, .ref a_this)] X dX8_allEscapes_3 hl (by decide) rfl (fun ls hl => ?_)
  refine l_X8_allEscapes_4 l D cA a_this a_this_row a_this_coding a_this_trial a_this_pad a_this_history a_this_slots a_this_coding_prices a_this_coding_stream a_this_coding_exponents a_this_coding_skips a_this_coding_exponents_cells a_this_row_numbers a_this_row_numbers_cells g_coding_exponents_cells v_row_length v_row_blockSize v_row_ones g_row_numbers_cells out X _ (fun i1_12 H locs ls hw hl hF => ?_) zFuel 0 0 H locs ls hw (lv_sub hl [2, 1, 0] rfl) hF
  refine z_iload_n 55 X dX8_allEscapes_55 hl 0 rfl ?_
  cases hF
  exact z_iret 56 X dX8_allEscapes_56 hw rfl rfl
theorem dX8_greatestExponent_0 : decode cX8_greatestExponent 0 = .ok (.bipush (-6), 2) := by decide +kernel
theorem dX8_greatestExponent_2 : decode cX8_greatestExponent 2 = .ok (.istore_n 1, 1) := by decide +kernel
theorem dX8_greatestExponent_3 : decode cX8_greatestExponent 3 = .ok (.iconst 0, 1) := by decide +kernel
theorem dX8_greatestExponent_4 : decode cX8_greatestExponent 4 = .ok (.istore_n 2, 1) := by decide +kernel
theorem dX8_greatestExponent_5 : decode cX8_greatestExponent 5 = .ok (.iload_n 2, 1) := by decide +kernel
theorem dX8_greatestExponent_6 : decode cX8_greatestExponent 6 = .ok (.aload_n 0, 1) := by decide +kernel
theorem dX8_greatestExponent_7 : decode cX8_greatestExponent 7 = .ok (.getfield 12, 3) := by decide +kernel
theorem dX8_greatestExponent_10 : decode cX8_greatestExponent 10 = .ok (.invokevirtual 158, 3) := by decide +kernel
theorem dX8_greatestExponent_13 : decode cX8_greatestExponent 13 = .ok (.if_icmp .ge 25, 3) := by decide +kernel
theorem dX8_greatestExponent_16 : decode cX8_greatestExponent 16 = .ok (.iload_n 1, 1) := by decide +kernel
theorem dX8_greatestExponent_17 : decode cX8_greatestExponent 17 = .ok (.aload_n 0, 1) := by decide +kernel
theorem dX8_greatestExponent_18 : decode cX8_greatestExponent 18 = .ok (.getfield 19, 3) := by decide +kernel
theorem dX8_greatestExponent_21 : decode cX8_greatestExponent 21 = .ok (.getfield 101, 3) := by decide +kernel
theorem dX8_greatestExponent_24 : decode cX8_greatestExponent 24 = .ok (.iload_n 2, 1) := by decide +kernel
theorem dX8_greatestExponent_25 : decode cX8_greatestExponent 25 = .ok (.invokevirtual 105, 3) := by decide +kernel
theorem dX8_greatestExponent_28 : decode cX8_greatestExponent 28 = .ok (.invokestatic 274, 3) := by decide +kernel
theorem dX8_greatestExponent_31 : decode cX8_greatestExponent 31 = .ok (.istore_n 1, 1) := by decide +kernel
theorem dX8_greatestExponent_32 : decode cX8_greatestExponent 32 = .ok (.iinc 2 1, 3) := by decide +kernel
theorem dX8_greatestExponent_35 : decode cX8_greatestExponent 35 = .ok (.goto (-30), 3) := by decide +kernel
theorem dX8_greatestExponent_38 : decode cX8_greatestExponent 38 = .ok (.iload_n 1, 1) := by decide +kernel
theorem dX8_greatestExponent_39 : decode cX8_greatestExponent 39 = .ok (.ireturn, 1) := by decide +kernel
set_option maxHeartbeats 4000000 in
set_option maxRecDepth 100000 in
theorem l_X8_greatestExponent_5 (l : Launch) (D : va_G) (cA : ClassId) (a_this a_this_row a_this_coding a_this_trial a_this_pad a_this_history a_this_slots a_this_coding_prices a_this_coding_stream a_this_coding_exponents a_this_coding_skips a_this_coding_exponents_cells a_this_row_numbers : Nat) (g_coding_exponents_cells : Ar) (v_row_length : Int32) (v_row_blockSize : Int32) (v_row_ones : Int32) (out : Int32) {p : Program} {e : Env} {s : State} {m : MethodId} {args : Array Value} {below : List Frame} {meth : Method} {c : Code} {A : Nat → Prop} (X : zX D cA p s m args meth c cX8_greatestExponent 3 RX8 (some .int)) (k : Int32 → Option (Int32)) (hk : ∀ (i1 : Int32) (H : Heap) (locs : List Loc) (ls : Array Slot), zH D A s (zw_20 cA 0 a_this a_this_row a_this_coding a_this_trial a_this_pad a_this_history a_this_slots a_this_coding_prices a_this_coding_stream a_this_coding_exponents a_this_coding_skips a_this_coding_exponents_cells a_this_row_numbers g_coding_exponents_cells v_row_length v_row_blockSize v_row_ones) H locs → lv_has ls 3 [(1, .int i1)] → k i1 = some out → W p l e (zR 2 41) s m args below meth c H locs 0 0 (MQ below (zQ D (zw_20 cA 0 a_this a_this_row a_this_coding a_this_trial a_this_pad a_this_history a_this_slots a_this_coding_prices a_this_coding_stream a_this_coding_exponents a_this_coding_skips a_this_coding_exponents_cells a_this_row_numbers g_coding_exponents_cells v_row_length v_row_blockSize v_row_ones) (some (.int out)) A) args s 0 0 A) (F0 m 38 ls [])) :
    ∀ (fuel : Nat) (i1 : Int32) (i2 : Int32) (H : Heap) (locs : List Loc) (ls : Array Slot), zH D A s (zw_20 cA 0 a_this a_this_row a_this_coding a_this_trial a_this_pad a_this_history a_this_slots a_this_coding_prices a_this_coding_stream a_this_coding_exponents a_this_coding_skips a_this_coding_exponents_cells a_this_row_numbers g_coding_exponents_cells v_row_length v_row_blockSize v_row_ones) H locs → lv_has ls 3 [(0, .ref a_this), (1, .int i1), (2, .int i2)] → F_X8_greatestExponent_L5 g_coding_exponents_cells v_row_length v_row_blockSize k fuel i1 i2 = some out → W p l e (zR 2 41) s m args below meth c H locs 0 0 (MQ below (zQ D (zw_20 cA 0 a_this a_this_row a_this_coding a_this_trial a_this_pad a_this_history a_this_slots a_this_coding_prices a_this_coding_stream a_this_coding_exponents a_this_coding_skips a_this_coding_exponents_cells a_this_row_numbers g_coding_exponents_cells v_row_length v_row_blockSize v_row_ones) (some (.int out)) A) args s 0 0 A) (F0 m 5 ls []) := by
  intro fuel
  induction fuel with
  | zero => intro i1 i2 H locs ls hw hl hF; exact nomatch (show (none : Option (Int32)) = some out from hF)
  | succ fuel ih =>
    intro i1 i2 H locs ls hw hl hF
    rw [F_X8_greatestExponent_L5] at hF
    refine z_iload_n 5 X dX8_greatestExponent_5 hl 2 rfl ?_
    refine z_aload_n 6 X dX8_greatestExponent_6 hl 0 rfl ?_
    refine z_get 7 zc8 0 0 fl_8_12 X dX8_greatestExponent_7 hw rfl (by decide) rfl ?_
    obtain ⟨u1, e2, hF⟩ := zbd hF
    refine z_callV 10 zc5 mv_X5_blocks ml_8_158 4 [4] (zw_20 cA 0 a_this a_this_row a_this_coding a_this_trial a_this_pad a_this_history a_this_slots a_this_coding_prices a_this_coding_stream a_this_coding_exponents a_this_coding_skips a_this_coding_exponents_cells a_this_row_numbers g_coding_exponents_cells v_row_length v_row_blockSize v_row_ones) [.int i2] (m_X5_blocks l D cA a_this_row a_this_row_numbers v_row_length v_row_blockSize v_row_ones u1 e2) X dX8_greatestExponent_10 hw hl rfl rfl rfl (by decide) rfl rfl rfl (Nat.le_of_ble_eq_true rfl) ⟨Nat.le_of_ble_eq_true rfl, Nat.le_of_ble_eq_true rfl⟩ ⟨Nat.zero_le _, Nat.zero_le _⟩ (fun H locs hw => ?_)
    refine z_icmp_ge 13 38 X dX8_greatestExponent_13 (by decide) (fun c3 => ?_) (fun c3 => ?_)
    · replace hF := zpos c3 hF
      exact hk i1 H locs ls hw (lv_sub hl [1] rfl) hF
    · replace hF := zneg c3 hF
      refine z_iload_n 16 X dX8_greatestExponent_16 hl 1 rfl ?_
      refine z_aload_n 17 X dX8_greatestExponent_17 hl 0 rfl ?_
      refine z_get 18 zc8 0 1 fl_8_19 X dX8_greatestExponent_18 hw rfl (by decide) rfl ?_
      refine z_getN 21 zc1 1 2 fl_8_101 X dX8_greatestExponent_21 hw rfl (by decide) rfl ?_
      refine z_iload_n 24 X dX8_greatestExponent_24 hl 2 rfl ?_
      obtain ⟨u4, e5, hF⟩ := zbd hF
      refine z_callV 25 zc0 mv_X0_read ml_8_105 2 [2, 3] (zw_20 cA 0 a_this a_this_row a_this_coding a_this_trial a_this_pad a_this_history a_this_slots a_this_coding_prices a_this_coding_stream a_this_coding_exponents a_this_coding_skips a_this_coding_exponents_cells a_this_row_numbers g_coding_exponents_cells v_row_length v_row_blockSize v_row_ones) [.int i1] (m_X0_read l D cA 64 a_this_coding_exponents a_this_coding_exponents_cells g_coding_exponents_cells i2 u4 e5) X dX8_greatestExponent_25 hw hl rfl rfl rfl (by decide) rfl rfl rfl (Nat.le_of_ble_eq_true rfl) ⟨Nat.le_of_ble_eq_true rfl, Nat.le_of_ble_eq_true rfl⟩ ⟨Nat.zero_le _, Nat.zero_le _⟩ (fun H locs hw => ?_)
      refine z_max 28 ml_8_274 mq_max X dX8_greatestExponent_28 hl ⟨Nat.le_of_ble_eq_true rfl, Nat.le_of_ble_eq_true rfl⟩ ⟨Nat.zero_le _, Nat.zero_le _⟩ ?_
      refine z_istore_n 31 [(1, .int (if i1 < u4 then u4 else i1)), (0, .ref a_this), (2, .int i2)] X dX8_greatestExponent_31 hl (by decide) rfl (fun ls hl => ?_)
      refine z_iinc2 32 1 [(2, .int (i2 + 1)), (1, .int (if i1 < u4 then u4 else i1)), (0, .ref a_this)] X dX8_greatestExponent_32 hl 2 rfl (by decide) (by decide) rfl (fun ls hl => ?_)
      refine z_goto 35 5 X dX8_greatestExponent_35 (by decide) ?_
      exact ih (if i1 < u4 then u4 else i1) (i2 + 1) H locs ls hw (lv_sub hl [2, 1, 0] rfl) hF
set_option maxHeartbeats 4000000 in
set_option maxRecDepth 100000 in
theorem m_X8_greatestExponent (l : Launch) (D : va_G) (cA : ClassId) (a_this a_this_row a_this_coding a_this_trial a_this_pad a_this_history a_this_slots a_this_coding_prices a_this_coding_stream a_this_coding_exponents a_this_coding_skips a_this_coding_exponents_cells a_this_row_numbers : Nat) (g_coding_exponents_cells : Ar) (v_row_length : Int32) (v_row_blockSize : Int32) (v_row_ones : Int32) (out : Int32) (hF : F_X8_greatestExponent g_coding_exponents_cells v_row_length v_row_blockSize = some out) : zM l D cA yX8_greatestExponent cX8_greatestExponent 3 (some .int) 2 41 [.ref a_this] (zw_20 cA 0 a_this a_this_row a_this_coding a_this_trial a_this_pad a_this_history a_this_slots a_this_coding_prices a_this_coding_stream a_this_coding_exponents a_this_coding_skips a_this_coding_exponents_cells a_this_row_numbers g_coding_exponents_cells v_row_length v_row_blockSize v_row_ones) (zw_20 cA 0 a_this a_this_row a_this_coding a_this_trial a_this_pad a_this_history a_this_slots a_this_coding_prices a_this_coding_stream a_this_coding_exponents a_this_coding_skips a_this_coding_exponents_cells a_this_row_numbers g_coding_exponents_cells v_row_length v_row_blockSize v_row_ones) (some (.int out)) := by
  refine z_body (by decide) (Nat.le_of_ble_eq_true rfl) ?_
  intro p e s m args below meth c ls H locs A X hl hw
  have hl : lv_has ls 3 [(0, .ref a_this)] := hl
  unfold F_X8_greatestExponent at hF
  refine z_bipush 0 (-6) X dX8_greatestExponent_0 (by decide) ?_
  refine z_istore_n 2 [(1, .int (-6)), (0, .ref a_this)] X dX8_greatestExponent_2 hl (by decide) rfl (fun ls hl => ?_)
  refine z_iconst 3 0 X dX8_greatestExponent_3 (by decide) ?_
  refine z_istore_n 4 [(2, .int 0), (1, .int (-6)), (0, .ref a_this)] X dX8_greatestExponent_4 hl (by decide) rfl (fun ls hl => ?_)
  refine l_X8_greatestExponent_5 l D cA a_this a_this_row a_this_coding a_this_trial a_this_pad a_this_history a_this_slots a_this_coding_prices a_this_coding_stream a_this_coding_exponents a_this_coding_skips a_this_coding_exponents_cells a_this_row_numbers g_coding_exponents_cells v_row_length v_row_blockSize v_row_ones out X _ (fun i1_6 H locs ls hw hl hF => ?_) zFuel (-6) 0 H locs ls hw (lv_sub hl [2, 1, 0] rfl) hF
  refine z_iload_n 38 X dX8_greatestExponent_38 hl 0 rfl ?_
  cases hF
  exact z_iret 39 X dX8_greatestExponent_39 hw rfl rfl
theorem dX8_count_0 : decode cX8_count 0 = .ok (.iload_n 1, 1) := by decide +kernel
theorem dX8_count_1 : decode cX8_count 1 = .ok (.tableswitch 135 0 9 #[55, 63, 71, 82, 87, 98, 103, 111, 119, 127], 55) := by decide +kernel
theorem dX8_count_56 : decode cX8_count 56 = .ok (.aload_n 0, 1) := by decide +kernel
theorem dX8_count_57 : decode cX8_count 57 = .ok (.getfield 12, 3) := by decide +kernel
theorem dX8_count_60 : decode cX8_count 60 = .ok (.getfield 80, 3) := by decide +kernel
theorem dX8_count_63 : decode cX8_count 63 = .ok (.ireturn, 1) := by decide +kernel
theorem dX8_count_64 : decode cX8_count 64 = .ok (.aload_n 0, 1) := by decide +kernel
theorem dX8_count_65 : decode cX8_count 65 = .ok (.getfield 12, 3) := by decide +kernel
theorem dX8_count_68 : decode cX8_count 68 = .ok (.invokevirtual 158, 3) := by decide +kernel
theorem dX8_count_71 : decode cX8_count 71 = .ok (.ireturn, 1) := by decide +kernel
theorem dX8_count_72 : decode cX8_count 72 = .ok (.aload_n 0, 1) := by decide +kernel
theorem dX8_count_73 : decode cX8_count 73 = .ok (.getfield 19, 3) := by decide +kernel
theorem dX8_count_76 : decode cX8_count 76 = .ok (.getfield 91, 3) := by decide +kernel
theorem dX8_count_79 : decode cX8_count 79 = .ok (.getfield 95, 3) := by decide +kernel
theorem dX8_count_82 : decode cX8_count 82 = .ok (.ireturn, 1) := by decide +kernel
theorem dX8_count_83 : decode cX8_count 83 = .ok (.aload_n 0, 1) := by decide +kernel
theorem dX8_count_84 : decode cX8_count 84 = .ok (.invokevirtual 162, 3) := by decide +kernel
theorem dX8_count_87 : decode cX8_count 87 = .ok (.ireturn, 1) := by decide +kernel
theorem dX8_count_88 : decode cX8_count 88 = .ok (.aload_n 0, 1) := by decide +kernel
theorem dX8_count_89 : decode cX8_count 89 = .ok (.getfield 12, 3) := by decide +kernel
theorem dX8_count_92 : decode cX8_count 92 = .ok (.getfield 80, 3) := by decide +kernel
theorem dX8_count_95 : decode cX8_count 95 = .ok (.bipush 16, 2) := by decide +kernel
theorem dX8_count_97 : decode cX8_count 97 = .ok (.imul, 1) := by decide +kernel
theorem dX8_count_98 : decode cX8_count 98 = .ok (.ireturn, 1) := by decide +kernel
theorem dX8_count_99 : decode cX8_count 99 = .ok (.aload_n 0, 1) := by decide +kernel
theorem dX8_count_100 : decode cX8_count 100 = .ok (.invokevirtual 165, 3) := by decide +kernel
theorem dX8_count_103 : decode cX8_count 103 = .ok (.ireturn, 1) := by decide +kernel
theorem dX8_count_104 : decode cX8_count 104 = .ok (.aload_n 0, 1) := by decide +kernel
theorem dX8_count_105 : decode cX8_count 105 = .ok (.getfield 12, 3) := by decide +kernel
theorem dX8_count_108 : decode cX8_count 108 = .ok (.getfield 168, 3) := by decide +kernel
theorem dX8_count_111 : decode cX8_count 111 = .ok (.ireturn, 1) := by decide +kernel
theorem dX8_count_112 : decode cX8_count 112 = .ok (.aload_n 0, 1) := by decide +kernel
theorem dX8_count_113 : decode cX8_count 113 = .ok (.getfield 12, 3) := by decide +kernel
theorem dX8_count_116 : decode cX8_count 116 = .ok (.getfield 113, 3) := by decide +kernel
theorem dX8_count_119 : decode cX8_count 119 = .ok (.ireturn, 1) := by decide +kernel
theorem dX8_count_120 : decode cX8_count 120 = .ok (.aload_n 0, 1) := by decide +kernel
theorem dX8_count_121 : decode cX8_count 121 = .ok (.getfield 33, 3) := by decide +kernel
theorem dX8_count_124 : decode cX8_count 124 = .ok (.getfield 171, 3) := by decide +kernel
theorem dX8_count_127 : decode cX8_count 127 = .ok (.ireturn, 1) := by decide +kernel
theorem dX8_count_128 : decode cX8_count 128 = .ok (.aload_n 0, 1) := by decide +kernel
theorem dX8_count_129 : decode cX8_count 129 = .ok (.getfield 40, 3) := by decide +kernel
theorem dX8_count_132 : decode cX8_count 132 = .ok (.getfield 172, 3) := by decide +kernel
theorem dX8_count_135 : decode cX8_count 135 = .ok (.ireturn, 1) := by decide +kernel
theorem dX8_count_136 : decode cX8_count 136 = .ok (.bipush (-2), 2) := by decide +kernel
theorem dX8_count_138 : decode cX8_count 138 = .ok (.ireturn, 1) := by decide +kernel
set_option maxHeartbeats 4000000 in
set_option maxRecDepth 100000 in
theorem m_X8_count (l : Launch) (D : va_G) (cA : ClassId) (a_this a_this_row a_this_coding a_this_trial a_this_pad a_this_history a_this_slots a_this_coding_prices a_this_coding_stream a_this_coding_exponents a_this_coding_skips a_this_coding_exponents_cells a_this_coding_stream_cells a_this_history_states a_this_pad_signs a_this_row_numbers a_this_row_numbers_cells : Nat) (g_coding_exponents_cells : Ar) (v_coding_stream_length : Int32) (v_coding_stream_start : Int32) (v_coding_stream_next : Int32) (v_coding_stream_exponent : Int32) (v_coding_stream_number : Int32) (v_history_free : Int32) (v_history_length : Int32) (v_pad_length : Int32) (v_row_length : Int32) (v_row_blockSize : Int32) (v_row_ones : Int32) (g_row_numbers_cells : Ar) (i1 : Int32) (out : Int32) (hF : F_X8_count g_coding_exponents_cells v_coding_stream_length v_history_length v_pad_length v_row_length v_row_blockSize v_row_ones g_row_numbers_cells i1 = some out) : zM l D cA yX8_count cX8_count 2 (some .int) 5 110 [.ref a_this, .int i1] (zw_21 cA 0 a_this a_this_row a_this_coding a_this_trial a_this_pad a_this_history a_this_slots a_this_coding_prices a_this_coding_stream a_this_coding_exponents a_this_coding_skips a_this_coding_exponents_cells a_this_coding_stream_cells a_this_history_states a_this_pad_signs a_this_row_numbers a_this_row_numbers_cells g_coding_exponents_cells v_coding_stream_length v_coding_stream_start v_coding_stream_next v_coding_stream_exponent v_coding_stream_number v_history_free v_history_length v_pad_length v_row_length v_row_blockSize v_row_ones g_row_numbers_cells) (zw_21 cA 0 a_this a_this_row a_this_coding a_this_trial a_this_pad a_this_history a_this_slots a_this_coding_prices a_this_coding_stream a_this_coding_exponents a_this_coding_skips a_this_coding_exponents_cells a_this_coding_stream_cells a_this_history_states a_this_pad_signs a_this_row_numbers a_this_row_numbers_cells g_coding_exponents_cells v_coding_stream_length v_coding_stream_start v_coding_stream_next v_coding_stream_exponent v_coding_stream_number v_history_free v_history_length v_pad_length v_row_length v_row_blockSize v_row_ones g_row_numbers_cells) (some (.int out)) := by
  refine z_body (by decide) (Nat.le_of_ble_eq_true rfl) ?_
  intro p e s m args below meth c ls H locs A X hl hw
  have hl : lv_has ls 2 [(0, .ref a_this), (1, .int i1)] := hl
  unfold F_X8_count at hF
  refine z_iload_n 0 X dX8_count_0 hl 1 rfl ?_
  by_cases c1 : i1 = 0
  · replace hF := zpos c1 hF
    refine z_swIn 1 56 0 X dX8_count_1 c1 ⟨by decide, by decide, rfl⟩ (by decide) ?_
    refine z_aload_n 56 X dX8_count_56 hl 0 rfl ?_
    refine z_get 57 zc8 0 0 fl_8_12 X dX8_count_57 hw rfl (by decide) rfl ?_
    refine z_getN 60 zc5 7 1 fl_8_80 X dX8_count_60 hw rfl (by decide) rfl ?_
    cases hF
    exact z_iret 63 X dX8_count_63 hw rfl rfl
  · replace hF := zneg c1 hF
    by_cases c2 : i1 = 1
    · replace hF := zpos c2 hF
      refine z_swIn 1 64 1 X dX8_count_1 c2 ⟨by decide, by decide, rfl⟩ (by decide) ?_
      refine z_aload_n 64 X dX8_count_64 hl 0 rfl ?_
      refine z_get 65 zc8 0 0 fl_8_12 X dX8_count_65 hw rfl (by decide) rfl ?_
      obtain ⟨u3, e4, hF⟩ := zbd hF
      refine z_callV 68 zc5 mv_X5_blocks ml_8_158 7 [7] (zw_21 cA 0 a_this a_this_row a_this_coding a_this_trial a_this_pad a_this_history a_this_slots a_this_coding_prices a_this_coding_stream a_this_coding_exponents a_this_coding_skips a_this_coding_exponents_cells a_this_coding_stream_cells a_this_history_states a_this_pad_signs a_this_row_numbers a_this_row_numbers_cells g_coding_exponents_cells v_coding_stream_length v_coding_stream_start v_coding_stream_next v_coding_stream_exponent v_coding_stream_number v_history_free v_history_length v_pad_length v_row_length v_row_blockSize v_row_ones g_row_numbers_cells) [] (m_X5_blocks l D cA a_this_row a_this_row_numbers v_row_length v_row_blockSize v_row_ones u3 e4) X dX8_count_68 hw hl rfl rfl rfl (by decide) rfl rfl rfl (Nat.le_of_ble_eq_true rfl) ⟨Nat.le_of_ble_eq_true rfl, Nat.le_of_ble_eq_true rfl⟩ ⟨Nat.zero_le _, Nat.zero_le _⟩ (fun H locs hw => ?_)
      cases hF
      exact z_iret 71 X dX8_count_71 hw rfl rfl
    · replace hF := zneg c2 hF
      by_cases c5 : i1 = 2
      · replace hF := zpos c5 hF
        refine z_swIn 1 72 2 X dX8_count_1 c5 ⟨by decide, by decide, rfl⟩ (by decide) ?_
        refine z_aload_n 72 X dX8_count_72 hl 0 rfl ?_
        refine z_get 73 zc8 0 1 fl_8_19 X dX8_count_73 hw rfl (by decide) rfl ?_
        refine z_getN 76 zc1 1 1 fl_8_91 X dX8_count_76 hw rfl (by decide) rfl ?_
        refine z_getN 79 zc7 4 1 fl_8_95 X dX8_count_79 hw rfl (by decide) rfl ?_
        cases hF
        exact z_iret 82 X dX8_count_82 hw rfl rfl
      · replace hF := zneg c5 hF
        by_cases c6 : i1 = 3
        · replace hF := zpos c6 hF
          refine z_swIn 1 83 3 X dX8_count_1 c6 ⟨by decide, by decide, rfl⟩ (by decide) ?_
          refine z_aload_n 83 X dX8_count_83 hl 0 rfl ?_
          obtain ⟨u7, e8, hF⟩ := zbd hF
          refine z_callV 84 zc8 mv_X8_allEscapes ml_8_162 0 [0, 1, 2, 3, 7, 8, 9] (zw_21 cA 0 a_this a_this_row a_this_coding a_this_trial a_this_pad a_this_history a_this_slots a_this_coding_prices a_this_coding_stream a_this_coding_exponents a_this_coding_skips a_this_coding_exponents_cells a_this_coding_stream_cells a_this_history_states a_this_pad_signs a_this_row_numbers a_this_row_numbers_cells g_coding_exponents_cells v_coding_stream_length v_coding_stream_start v_coding_stream_next v_coding_stream_exponent v_coding_stream_number v_history_free v_history_length v_pad_length v_row_length v_row_blockSize v_row_ones g_row_numbers_cells) [] (m_X8_allEscapes l D cA a_this a_this_row a_this_coding a_this_trial a_this_pad a_this_history a_this_slots a_this_coding_prices a_this_coding_stream a_this_coding_exponents a_this_coding_skips a_this_coding_exponents_cells a_this_row_numbers a_this_row_numbers_cells g_coding_exponents_cells v_row_length v_row_blockSize v_row_ones g_row_numbers_cells u7 e8) X dX8_count_84 hw hl rfl rfl rfl (by decide) rfl rfl rfl (Nat.le_of_ble_eq_true rfl) ⟨Nat.le_of_ble_eq_true rfl, Nat.le_of_ble_eq_true rfl⟩ ⟨Nat.zero_le _, Nat.zero_le _⟩ (fun H locs hw => ?_)
          cases hF
          exact z_iret 87 X dX8_count_87 hw rfl rfl
        · replace hF := zneg c6 hF
          by_cases c9 : i1 = 4
          · replace hF := zpos c9 hF
            refine z_swIn 1 88 4 X dX8_count_1 c9 ⟨by decide, by decide, rfl⟩ (by decide) ?_
            refine z_aload_n 88 X dX8_count_88 hl 0 rfl ?_
            refine z_get 89 zc8 0 0 fl_8_12 X dX8_count_89 hw rfl (by decide) rfl ?_
            refine z_getN 92 zc5 7 1 fl_8_80 X dX8_count_92 hw rfl (by decide) rfl ?_
            refine z_bipush 95 16 X dX8_count_95 (by decide) ?_
            refine z_imul 97 X dX8_count_97 ?_
            cases hF
            exact z_iret 98 X dX8_count_98 hw rfl rfl
          · replace hF := zneg c9 hF
            by_cases c10 : i1 = 5
            · replace hF := zpos c10 hF
              refine z_swIn 1 99 5 X dX8_count_1 c10 ⟨by decide, by decide, rfl⟩ (by decide) ?_
              refine z_aload_n 99 X dX8_count_99 hl 0 rfl ?_
              obtain ⟨u11, e12, hF⟩ := zbd hF
              refine z_callV 100 zc8 mv_X8_greatestExponent ml_8_165 0 [0, 1, 2, 3, 7] (zw_21 cA 0 a_this a_this_row a_this_coding a_this_trial a_this_pad a_this_history a_this_slots a_this_coding_prices a_this_coding_stream a_this_coding_exponents a_this_coding_skips a_this_coding_exponents_cells a_this_coding_stream_cells a_this_history_states a_this_pad_signs a_this_row_numbers a_this_row_numbers_cells g_coding_exponents_cells v_coding_stream_length v_coding_stream_start v_coding_stream_next v_coding_stream_exponent v_coding_stream_number v_history_free v_history_length v_pad_length v_row_length v_row_blockSize v_row_ones g_row_numbers_cells) [] (m_X8_greatestExponent l D cA a_this a_this_row a_this_coding a_this_trial a_this_pad a_this_history a_this_slots a_this_coding_prices a_this_coding_stream a_this_coding_exponents a_this_coding_skips a_this_coding_exponents_cells a_this_row_numbers g_coding_exponents_cells v_row_length v_row_blockSize v_row_ones u11 e12) X dX8_count_100 hw hl rfl rfl rfl (by decide) rfl rfl rfl (Nat.le_of_ble_eq_true rfl) ⟨Nat.le_of_ble_eq_true rfl, Nat.le_of_ble_eq_true rfl⟩ ⟨Nat.zero_le _, Nat.zero_le _⟩ (fun H locs hw => ?_)
              cases hF
              exact z_iret 103 X dX8_count_103 hw rfl rfl
            · replace hF := zneg c10 hF
              by_cases c13 : i1 = 6
              · replace hF := zpos c13 hF
                refine z_swIn 1 104 6 X dX8_count_1 c13 ⟨by decide, by decide, rfl⟩ (by decide) ?_
                refine z_aload_n 104 X dX8_count_104 hl 0 rfl ?_
                refine z_get 105 zc8 0 0 fl_8_12 X dX8_count_105 hw rfl (by decide) rfl ?_
                refine z_getN 108 zc5 7 2 fl_8_168 X dX8_count_108 hw rfl (by decide) rfl ?_
                cases hF
                exact z_iret 111 X dX8_count_111 hw rfl rfl
              · replace hF := zneg c13 hF
                by_cases c14 : i1 = 7
                · replace hF := zpos c14 hF
                  refine z_swIn 1 112 7 X dX8_count_1 c14 ⟨by decide, by decide, rfl⟩ (by decide) ?_
                  refine z_aload_n 112 X dX8_count_112 hl 0 rfl ?_
                  refine z_get 113 zc8 0 0 fl_8_12 X dX8_count_113 hw rfl (by decide) rfl ?_
                  refine z_getN 116 zc5 7 3 fl_8_113 X dX8_count_116 hw rfl (by decide) rfl ?_
                  cases hF
                  exact z_iret 119 X dX8_count_119 hw rfl rfl
                · replace hF := zneg c14 hF
                  by_cases c15 : i1 = 8
                  · replace hF := zpos c15 hF
                    refine z_swIn 1 120 8 X dX8_count_1 c15 ⟨by decide, by decide, rfl⟩ (by decide) ?_
                    refine z_aload_n 120 X dX8_count_120 hl 0 rfl ?_
                    refine z_get 121 zc8 0 3 fl_8_33 X dX8_count_121 hw rfl (by decide) rfl ?_
                    refine z_getN 124 zc3 6 1 fl_8_171 X dX8_count_124 hw rfl (by decide) rfl ?_
                    cases hF
                    exact z_iret 127 X dX8_count_127 hw rfl rfl
                  · replace hF := zneg c15 hF
                    by_cases c16 : i1 = 9
                    · replace hF := zpos c16 hF
                      refine z_swIn 1 128 9 X dX8_count_1 c16 ⟨by decide, by decide, rfl⟩ (by decide) ?_
                      refine z_aload_n 128 X dX8_count_128 hl 0 rfl ?_
                      refine z_get 129 zc8 0 4 fl_8_40 X dX8_count_129 hw rfl (by decide) rfl ?_
                      refine z_getN 132 zc2 5 2 fl_8_172 X dX8_count_132 hw rfl (by decide) rfl ?_
                      cases hF
                      exact z_iret 135 X dX8_count_135 hw rfl rfl
                    · replace hF := zneg c16 hF
                      refine z_swOut 1 136 10 X dX8_count_1 (by decide) ⟨⟨⟨⟨⟨⟨⟨⟨⟨⟨trivial, c1⟩, c2⟩, c5⟩, c6⟩, c9⟩, c10⟩, c13⟩, c14⟩, c15⟩, c16⟩ (by decide) ?_
                      refine z_bipush 136 (-2) X dX8_count_136 (by decide) ?_
                      cases hF
                      exact z_iret 138 X dX8_count_138 hw rfl rfl
theorem dX8_openBlock_0 : decode cX8_openBlock 0 = .ok (.aload_n 0, 1) := by decide +kernel
theorem dX8_openBlock_1 : decode cX8_openBlock 1 = .ok (.getfield 19, 3) := by decide +kernel
theorem dX8_openBlock_4 : decode cX8_openBlock 4 = .ok (.getfield 91, 3) := by decide +kernel
theorem dX8_openBlock_7 : decode cX8_openBlock 7 = .ok (.aload_n 0, 1) := by decide +kernel
theorem dX8_openBlock_8 : decode cX8_openBlock 8 = .ok (.getfield 19, 3) := by decide +kernel
theorem dX8_openBlock_11 : decode cX8_openBlock 11 = .ok (.getfield 142, 3) := by decide +kernel
theorem dX8_openBlock_14 : decode cX8_openBlock 14 = .ok (.iload_n 1, 1) := by decide +kernel
theorem dX8_openBlock_15 : decode cX8_openBlock 15 = .ok (.invokevirtual 105, 3) := by decide +kernel
theorem dX8_openBlock_18 : decode cX8_openBlock 18 = .ok (.aload_n 0, 1) := by decide +kernel
theorem dX8_openBlock_19 : decode cX8_openBlock 19 = .ok (.getfield 12, 3) := by decide +kernel
theorem dX8_openBlock_22 : decode cX8_openBlock 22 = .ok (.aload_n 0, 1) := by decide +kernel
theorem dX8_openBlock_23 : decode cX8_openBlock 23 = .ok (.getfield 12, 3) := by decide +kernel
theorem dX8_openBlock_26 : decode cX8_openBlock 26 = .ok (.iload_n 1, 1) := by decide +kernel
theorem dX8_openBlock_27 : decode cX8_openBlock 27 = .ok (.invokevirtual 130, 3) := by decide +kernel
theorem dX8_openBlock_30 : decode cX8_openBlock 30 = .ok (.invokevirtual 84, 3) := by decide +kernel
theorem dX8_openBlock_33 : decode cX8_openBlock 33 = .ok (.invokevirtual 204, 3) := by decide +kernel
theorem dX8_openBlock_36 : decode cX8_openBlock 36 = .ok (.aload_n 0, 1) := by decide +kernel
theorem dX8_openBlock_37 : decode cX8_openBlock 37 = .ok (.getfield 19, 3) := by decide +kernel
theorem dX8_openBlock_40 : decode cX8_openBlock 40 = .ok (.getfield 91, 3) := by decide +kernel
theorem dX8_openBlock_43 : decode cX8_openBlock 43 = .ok (.invokevirtual 207, 3) := by decide +kernel
theorem dX8_openBlock_46 : decode cX8_openBlock 46 = .ok (.return_, 1) := by decide +kernel
set_option maxHeartbeats 4000000 in
set_option maxRecDepth 100000 in
theorem m_X8_openBlock (l : Launch) (D : va_G) (cA : ClassId) (a_this a_this_row a_this_coding a_this_trial a_this_pad a_this_history a_this_slots a_this_coding_prices a_this_coding_stream a_this_coding_exponents a_this_coding_skips a_this_coding_skips_cells a_this_coding_stream_cells a_this_coding_stream_cells_cells a_this_row_numbers a_this_row_numbers_cells : Nat) (g_coding_skips_cells : Ar) (v_coding_stream_length : Int32) (v_coding_stream_start : Int32) (v_coding_stream_next : Int32) (v_coding_stream_exponent : Int32) (v_coding_stream_number : Int32) (g_coding_stream_cells_cells : Ar) (v_row_length : Int32) (v_row_blockSize : Int32) (v_row_ones : Int32) (g_row_numbers_cells : Ar) (i1 : Int32) (out : Int32 × Int32 × Int32 × Int32) (hF : F_X8_openBlock g_coding_skips_cells v_coding_stream_length v_coding_stream_start v_coding_stream_next v_coding_stream_exponent v_coding_stream_number g_coding_stream_cells_cells v_row_blockSize g_row_numbers_cells i1 = some out) : zM l D cA yX8_openBlock cX8_openBlock 2 none 4 85 [.ref a_this, .int i1] (zw_22 cA 0 a_this a_this_row a_this_coding a_this_trial a_this_pad a_this_history a_this_slots a_this_coding_prices a_this_coding_stream a_this_coding_exponents a_this_coding_skips a_this_coding_skips_cells a_this_coding_stream_cells a_this_coding_stream_cells_cells a_this_row_numbers a_this_row_numbers_cells g_coding_skips_cells v_coding_stream_length v_coding_stream_start v_coding_stream_next v_coding_stream_exponent v_coding_stream_number g_coding_stream_cells_cells v_row_length v_row_blockSize v_row_ones g_row_numbers_cells) (zw_22 cA 0 a_this a_this_row a_this_coding a_this_trial a_this_pad a_this_history a_this_slots a_this_coding_prices a_this_coding_stream a_this_coding_exponents a_this_coding_skips a_this_coding_skips_cells a_this_coding_stream_cells a_this_coding_stream_cells_cells a_this_row_numbers a_this_row_numbers_cells g_coding_skips_cells v_coding_stream_length out.1 out.2.1 out.2.2.1 out.2.2.2 g_coding_stream_cells_cells v_row_length v_row_blockSize v_row_ones g_row_numbers_cells) none := by
  refine z_body (by decide) (Nat.le_of_ble_eq_true rfl) ?_
  intro p e s m args below meth c ls H locs A X hl hw
  have hl : lv_has ls 2 [(0, .ref a_this), (1, .int i1)] := hl
  unfold F_X8_openBlock at hF
  refine z_aload_n 0 X dX8_openBlock_0 hl 0 rfl ?_
  refine z_get 1 zc8 0 1 fl_8_19 X dX8_openBlock_1 hw rfl (by decide) rfl ?_
  refine z_getN 4 zc1 1 1 fl_8_91 X dX8_openBlock_4 hw rfl (by decide) rfl ?_
  refine z_aload_n 7 X dX8_openBlock_7 hl 0 rfl ?_
  refine z_get 8 zc8 0 1 fl_8_19 X dX8_openBlock_8 hw rfl (by decide) rfl ?_
  refine z_getN 11 zc1 1 3 fl_8_142 X dX8_openBlock_11 hw rfl (by decide) rfl ?_
  refine z_iload_n 14 X dX8_openBlock_14 hl 1 rfl ?_
  obtain ⟨u1, e2, hF⟩ := zbd hF
  refine z_callV 15 zc0 mv_X0_read ml_8_105 2 [2, 3] (zw_22 cA 0 a_this a_this_row a_this_coding a_this_trial a_this_pad a_this_history a_this_slots a_this_coding_prices a_this_coding_stream a_this_coding_exponents a_this_coding_skips a_this_coding_skips_cells a_this_coding_stream_cells a_this_coding_stream_cells_cells a_this_row_numbers a_this_row_numbers_cells g_coding_skips_cells v_coding_stream_length v_coding_stream_start v_coding_stream_next v_coding_stream_exponent v_coding_stream_number g_coding_stream_cells_cells v_row_length v_row_blockSize v_row_ones g_row_numbers_cells) [.ref a_this_coding_stream] (m_X0_read l D cA 64 a_this_coding_skips a_this_coding_skips_cells g_coding_skips_cells i1 u1 e2) X dX8_openBlock_15 hw hl rfl rfl rfl (by decide) rfl rfl rfl (Nat.le_of_ble_eq_true rfl) ⟨Nat.le_of_ble_eq_true rfl, Nat.le_of_ble_eq_true rfl⟩ ⟨Nat.zero_le _, Nat.zero_le _⟩ (fun H locs hw => ?_)
  refine z_aload_n 18 X dX8_openBlock_18 hl 0 rfl ?_
  refine z_get 19 zc8 0 0 fl_8_12 X dX8_openBlock_19 hw rfl (by decide) rfl ?_
  refine z_aload_n 22 X dX8_openBlock_22 hl 0 rfl ?_
  refine z_get 23 zc8 0 0 fl_8_12 X dX8_openBlock_23 hw rfl (by decide) rfl ?_
  refine z_iload_n 26 X dX8_openBlock_26 hl 1 rfl ?_
  obtain ⟨u3, e4, hF⟩ := zbd hF
  refine z_callV 27 zc5 mv_X5_firstOf ml_8_130 7 [7] (zw_22 cA 0 a_this a_this_row a_this_coding a_this_trial a_this_pad a_this_history a_this_slots a_this_coding_prices a_this_coding_stream a_this_coding_exponents a_this_coding_skips a_this_coding_skips_cells a_this_coding_stream_cells a_this_coding_stream_cells_cells a_this_row_numbers a_this_row_numbers_cells g_coding_skips_cells v_coding_stream_length v_coding_stream_start v_coding_stream_next v_coding_stream_exponent v_coding_stream_number g_coding_stream_cells_cells v_row_length v_row_blockSize v_row_ones g_row_numbers_cells) [.ref a_this_row, .int u1, .ref a_this_coding_stream] (m_X5_firstOf l D cA a_this_row a_this_row_numbers v_row_length v_row_blockSize v_row_ones i1 u3 e4) X dX8_openBlock_27 hw hl rfl rfl rfl (by decide) rfl rfl rfl (Nat.le_of_ble_eq_true rfl) ⟨Nat.le_of_ble_eq_true rfl, Nat.le_of_ble_eq_true rfl⟩ ⟨Nat.zero_le _, Nat.zero_le _⟩ (fun H locs hw => ?_)
  obtain ⟨u5, e6, hF⟩ := zbd hF
  refine z_callV 30 zc5 mv_X5_numberAhead ml_8_84 7 [7, 8, 9] (zw_22 cA 0 a_this a_this_row a_this_coding a_this_trial a_this_pad a_this_history a_this_slots a_this_coding_prices a_this_coding_stream a_this_coding_exponents a_this_coding_skips a_this_coding_skips_cells a_this_coding_stream_cells a_this_coding_stream_cells_cells a_this_row_numbers a_this_row_numbers_cells g_coding_skips_cells v_coding_stream_length v_coding_stream_start v_coding_stream_next v_coding_stream_exponent v_coding_stream_number g_coding_stream_cells_cells v_row_length v_row_blockSize v_row_ones g_row_numbers_cells) [.int u1, .ref a_this_coding_stream] (m_X5_numberAhead l D cA a_this_row a_this_row_numbers a_this_row_numbers_cells v_row_length v_row_blockSize v_row_ones g_row_numbers_cells u3 u5 e6) X dX8_openBlock_30 hw hl rfl rfl rfl (by decide) rfl rfl rfl (Nat.le_of_ble_eq_true rfl) ⟨Nat.le_of_ble_eq_true rfl, Nat.le_of_ble_eq_true rfl⟩ ⟨Nat.zero_le _, Nat.zero_le _⟩ (fun H locs hw => ?_)
  obtain ⟨u7, e8, hF⟩ := zbd hF
  refine z_callV 33 zc7 mv_X7_startAt ml_8_204 4 [4] (zw_22 cA 0 a_this a_this_row a_this_coding a_this_trial a_this_pad a_this_history a_this_slots a_this_coding_prices a_this_coding_stream a_this_coding_exponents a_this_coding_skips a_this_coding_skips_cells a_this_coding_stream_cells a_this_coding_stream_cells_cells a_this_row_numbers a_this_row_numbers_cells g_coding_skips_cells v_coding_stream_length u7.1 u7.2.1 v_coding_stream_exponent u7.2.2 g_coding_stream_cells_cells v_row_length v_row_blockSize v_row_ones g_row_numbers_cells) [] (m_X7_startAt l D cA a_this_coding_stream a_this_coding_stream_cells v_coding_stream_length v_coding_stream_start v_coding_stream_next v_coding_stream_exponent v_coding_stream_number u1 u5 u7 e8) X dX8_openBlock_33 hw hl rfl rfl rfl (by decide) rfl rfl rfl (Nat.le_of_ble_eq_true rfl) ⟨Nat.le_of_ble_eq_true rfl, Nat.le_of_ble_eq_true rfl⟩ ⟨Nat.zero_le _, Nat.zero_le _⟩ (fun H locs hw => ?_)
  refine z_aload_n 36 X dX8_openBlock_36 hl 0 rfl ?_
  refine z_get 37 zc8 0 1 fl_8_19 X dX8_openBlock_37 hw rfl (by decide) rfl ?_
  refine z_getN 40 zc1 1 1 fl_8_91 X dX8_openBlock_40 hw rfl (by decide) rfl ?_
  obtain ⟨u9, e10, hF⟩ := zbd hF
  refine z_callV 43 zc7 mv_X7_readExponent ml_8_207 4 [4, 5, 6] (zw_22 cA 0 a_this a_this_row a_this_coding a_this_trial a_this_pad a_this_history a_this_slots a_this_coding_prices a_this_coding_stream a_this_coding_exponents a_this_coding_skips a_this_coding_skips_cells a_this_coding_stream_cells a_this_coding_stream_cells_cells a_this_row_numbers a_this_row_numbers_cells g_coding_skips_cells v_coding_stream_length u7.1 u9.1 u9.2 u7.2.2 g_coding_stream_cells_cells v_row_length v_row_blockSize v_row_ones g_row_numbers_cells) [] (m_X7_readExponent l D cA a_this_coding_stream a_this_coding_stream_cells a_this_coding_stream_cells_cells v_coding_stream_length u7.1 u7.2.1 v_coding_stream_exponent u7.2.2 g_coding_stream_cells_cells u9 e10) X dX8_openBlock_43 hw hl rfl rfl rfl (by decide) rfl rfl rfl (Nat.le_of_ble_eq_true rfl) ⟨Nat.le_of_ble_eq_true rfl, Nat.le_of_ble_eq_true rfl⟩ ⟨Nat.zero_le _, Nat.zero_le _⟩ (fun H locs hw => ?_)
  cases hF
  exact z_vret 46 X dX8_openBlock_46 hw rfl rfl
