theorem dX5_number_0 : decode cX5_number 0 = .ok (.aload_n 0, 1) := by decide +kernel
theorem dX5_number_1 : decode cX5_number 1 = .ok (.getfield 14, 3) := by decide +kernel
theorem dX5_number_4 : decode cX5_number 4 = .ok (.iload_n 1, 1) := by decide +kernel
theorem dX5_number_5 : decode cX5_number 5 = .ok (.invokevirtual 30, 3) := by decide +kernel
theorem dX5_number_8 : decode cX5_number 8 = .ok (.ireturn, 1) := by decide +kernel
set_option maxHeartbeats 4000000 in
set_option maxRecDepth 100000 in
theorem zk_0 (cA : ClassId) (n : Nat) (a_this a_this_numbers a_this_numbers_cells : Nat) (v_length : Int32) (v_blockSize : Int32) (v_ones : Int32) (g_numbers_cells : Ar)  : zCW (zw_1 cA n a_this a_this_numbers a_this_numbers_cells v_length v_blockSize v_ones g_numbers_cells) (zw_1 cA n a_this a_this_numbers a_this_numbers_cells v_length v_blockSize v_ones g_numbers_cells) [1, 2] [0] (zw_0 cA 64 a_this_numbers a_this_numbers_cells g_numbers_cells) (zw_0 cA 64 a_this_numbers a_this_numbers_cells g_numbers_cells) := ⟨rfl, (show (zw_0 cA 64 a_this_numbers a_this_numbers_cells g_numbers_cells).map Prod.fst = ([a_this_numbers, a_this_numbers_cells] : List Nat) from rfl).trans (show (zw_0 cA 64 a_this_numbers a_this_numbers_cells g_numbers_cells).map Prod.fst = ([a_this_numbers, a_this_numbers_cells] : List Nat) from rfl).symm, by decide +kernel, (show (zw_1 cA n a_this a_this_numbers a_this_numbers_cells v_length v_blockSize v_ones g_numbers_cells).map Prod.fst = ([a_this, a_this_numbers, a_this_numbers_cells] : List Nat) from rfl).trans (show (zw_1 cA n a_this a_this_numbers a_this_numbers_cells v_length v_blockSize v_ones g_numbers_cells).map Prod.fst = ([a_this, a_this_numbers, a_this_numbers_cells] : List Nat) from rfl).symm, rfl, (show ([0] : List Nat).map (fun i => (zw_1 cA n a_this a_this_numbers a_this_numbers_cells v_length v_blockSize v_ones g_numbers_cells)[i]?) = ([(a_this, .inr (5, [.ref a_this_numbers, .int v_length, .int v_blockSize, .int v_ones]))] : va_W).map some from rfl).trans (show ([0] : List Nat).map (fun i => (zw_1 cA n a_this a_this_numbers a_this_numbers_cells v_length v_blockSize v_ones g_numbers_cells)[i]?) = ([(a_this, .inr (5, [.ref a_this_numbers, .int v_length, .int v_blockSize, .int v_ones]))] : va_W).map some from rfl).symm, by decide +kernel, rfl⟩
set_option maxHeartbeats 4000000 in
set_option maxRecDepth 100000 in
theorem m_X5_number (l : Launch) (D : va_G) (cA : ClassId) (a_this a_this_numbers a_this_numbers_cells : Nat) (v_length : Int32) (v_blockSize : Int32) (v_ones : Int32) (g_numbers_cells : Ar) (i1 : Int32) (out : Int32) (hF : F_X5_number g_numbers_cells i1 = some out) : zM l D cA yX5_number cX5_number 2 (some .int) 1 21 [.ref a_this, .int i1] (zw_1 cA 0 a_this a_this_numbers a_this_numbers_cells v_length v_blockSize v_ones g_numbers_cells) (zw_1 cA 0 a_this a_this_numbers a_this_numbers_cells v_length v_blockSize v_ones g_numbers_cells) (some (.int out)) := by
  refine z_body (by decide) (Nat.le_of_ble_eq_true rfl) ?_
  intro p e s m args below meth c ls H locs A X hl hw
  have hl : lv_has ls 2 [(0, .ref a_this), (1, .int i1)] := hl
  unfold F_X5_number at hF
  refine z_aload_n 0 X dX5_number_0 hl 0 rfl ?_
  refine z_get 1 zc5 0 0 fl_5_14 X dX5_number_1 hw rfl (by decide) rfl ?_
  refine z_iload_n 4 X dX5_number_4 hl 1 rfl ?_
  obtain ⟨u1, e2, hF⟩ := zbd hF
  refine z_callV 5 zc0 mv_X0_read ml_5_30 1 [] (zk_0 cA 0 a_this a_this_numbers a_this_numbers_cells v_length v_blockSize v_ones g_numbers_cells) (m_X0_read l D cA 64 a_this_numbers a_this_numbers_cells g_numbers_cells i1 u1 e2) X dX5_number_5 hw hl rfl rfl rfl (Nat.le_of_ble_eq_true rfl) ⟨Nat.le_of_ble_eq_true rfl, Nat.le_of_ble_eq_true rfl⟩ ⟨Nat.zero_le _, Nat.zero_le _⟩ (fun H locs hw => ?_)
  cases hF
  exact z_iret 8 X dX5_number_8 hw rfl rfl
theorem dX5_numberAhead_0 : decode cX5_numberAhead 0 = .ok (.iload_n 1, 1) := by decide +kernel
theorem dX5_numberAhead_1 : decode cX5_numberAhead 1 = .ok (.ifCond .le 16, 3) := by decide +kernel
theorem dX5_numberAhead_4 : decode cX5_numberAhead 4 = .ok (.aload_n 0, 1) := by decide +kernel
theorem dX5_numberAhead_5 : decode cX5_numberAhead 5 = .ok (.getfield 14, 3) := by decide +kernel
theorem dX5_numberAhead_8 : decode cX5_numberAhead 8 = .ok (.iload_n 1, 1) := by decide +kernel
theorem dX5_numberAhead_9 : decode cX5_numberAhead 9 = .ok (.iconst 1, 1) := by decide +kernel
theorem dX5_numberAhead_10 : decode cX5_numberAhead 10 = .ok (.isub, 1) := by decide +kernel
theorem dX5_numberAhead_11 : decode cX5_numberAhead 11 = .ok (.invokevirtual 30, 3) := by decide +kernel
theorem dX5_numberAhead_14 : decode cX5_numberAhead 14 = .ok (.goto 4, 3) := by decide +kernel
theorem dX5_numberAhead_17 : decode cX5_numberAhead 17 = .ok (.iconst (-1), 1) := by decide +kernel
theorem dX5_numberAhead_18 : decode cX5_numberAhead 18 = .ok (.ireturn, 1) := by decide +kernel
set_option maxHeartbeats 4000000 in
set_option maxRecDepth 100000 in
theorem m_X5_numberAhead (l : Launch) (D : va_G) (cA : ClassId) (a_this a_this_numbers a_this_numbers_cells : Nat) (v_length : Int32) (v_blockSize : Int32) (v_ones : Int32) (g_numbers_cells : Ar) (i1 : Int32) (out : Int32) (hF : F_X5_numberAhead g_numbers_cells i1 = some out) : zM l D cA yX5_numberAhead cX5_numberAhead 2 (some .int) 1 21 [.ref a_this, .int i1] (zw_1 cA 0 a_this a_this_numbers a_this_numbers_cells v_length v_blockSize v_ones g_numbers_cells) (zw_1 cA 0 a_this a_this_numbers a_this_numbers_cells v_length v_blockSize v_ones g_numbers_cells) (some (.int out)) := by
  refine z_body (by decide) (Nat.le_of_ble_eq_true rfl) ?_
  intro p e s m args below meth c ls H locs A X hl hw
  have hl : lv_has ls 2 [(0, .ref a_this), (1, .int i1)] := hl
  unfold F_X5_numberAhead at hF
  refine z_iload_n 0 X dX5_numberAhead_0 hl 1 rfl ?_
  refine z_if_le 1 17 X dX5_numberAhead_1 (by decide) (fun c1 => ?_) (fun c1 => ?_)
  · replace hF := zpos c1 hF
    refine z_iconst 17 (-1) X dX5_numberAhead_17 (by decide) ?_
    cases hF
    exact z_iret 18 X dX5_numberAhead_18 hw rfl rfl
  · replace hF := zneg c1 hF
    refine z_aload_n 4 X dX5_numberAhead_4 hl 0 rfl ?_
    refine z_get 5 zc5 0 0 fl_5_14 X dX5_numberAhead_5 hw rfl (by decide) rfl ?_
    refine z_iload_n 8 X dX5_numberAhead_8 hl 1 rfl ?_
    refine z_iconst 9 1 X dX5_numberAhead_9 (by decide) ?_
    refine z_isub 10 X dX5_numberAhead_10 ?_
    obtain ⟨u2, e3, hF⟩ := zbd hF
    refine z_callV 11 zc0 mv_X0_read ml_5_30 1 [] (zk_0 cA 0 a_this a_this_numbers a_this_numbers_cells v_length v_blockSize v_ones g_numbers_cells) (m_X0_read l D cA 64 a_this_numbers a_this_numbers_cells g_numbers_cells (i1 - 1) u2 e3) X dX5_numberAhead_11 hw hl rfl rfl rfl (Nat.le_of_ble_eq_true rfl) ⟨Nat.le_of_ble_eq_true rfl, Nat.le_of_ble_eq_true rfl⟩ ⟨Nat.zero_le _, Nat.zero_le _⟩ (fun H locs hw => ?_)
    refine z_goto 14 18 X dX5_numberAhead_14 (by decide) ?_
    cases hF
    exact z_iret 18 X dX5_numberAhead_18 hw rfl rfl
theorem dX5_gapAhead_0 : decode cX5_gapAhead 0 = .ok (.aload_n 0, 1) := by decide +kernel
theorem dX5_gapAhead_1 : decode cX5_gapAhead 1 = .ok (.iload_n 1, 1) := by decide +kernel
theorem dX5_gapAhead_2 : decode cX5_gapAhead 2 = .ok (.invokevirtual 34, 3) := by decide +kernel
theorem dX5_gapAhead_5 : decode cX5_gapAhead 5 = .ok (.aload_n 0, 1) := by decide +kernel
theorem dX5_gapAhead_6 : decode cX5_gapAhead 6 = .ok (.iload_n 1, 1) := by decide +kernel
theorem dX5_gapAhead_7 : decode cX5_gapAhead 7 = .ok (.invokevirtual 37, 3) := by decide +kernel
theorem dX5_gapAhead_10 : decode cX5_gapAhead 10 = .ok (.isub, 1) := by decide +kernel
theorem dX5_gapAhead_11 : decode cX5_gapAhead 11 = .ok (.iconst 1, 1) := by decide +kernel
theorem dX5_gapAhead_12 : decode cX5_gapAhead 12 = .ok (.isub, 1) := by decide +kernel
theorem dX5_gapAhead_13 : decode cX5_gapAhead 13 = .ok (.ireturn, 1) := by decide +kernel
set_option maxHeartbeats 4000000 in
set_option maxRecDepth 100000 in
theorem zk_5 (cA : ClassId) (n : Nat) (a_this a_this_numbers a_this_numbers_cells : Nat) (v_length : Int32) (v_blockSize : Int32) (v_ones : Int32) (g_numbers_cells : Ar)  : zCW (zw_1 cA n a_this a_this_numbers a_this_numbers_cells v_length v_blockSize v_ones g_numbers_cells) (zw_1 cA n a_this a_this_numbers a_this_numbers_cells v_length v_blockSize v_ones g_numbers_cells) [0, 1, 2] [] (zw_1 cA 0 a_this a_this_numbers a_this_numbers_cells v_length v_blockSize v_ones g_numbers_cells) (zw_1 cA 0 a_this a_this_numbers a_this_numbers_cells v_length v_blockSize v_ones g_numbers_cells) := ⟨rfl, (show (zw_1 cA 0 a_this a_this_numbers a_this_numbers_cells v_length v_blockSize v_ones g_numbers_cells).map Prod.fst = ([a_this, a_this_numbers, a_this_numbers_cells] : List Nat) from rfl).trans (show (zw_1 cA 0 a_this a_this_numbers a_this_numbers_cells v_length v_blockSize v_ones g_numbers_cells).map Prod.fst = ([a_this, a_this_numbers, a_this_numbers_cells] : List Nat) from rfl).symm, by decide +kernel, (show (zw_1 cA n a_this a_this_numbers a_this_numbers_cells v_length v_blockSize v_ones g_numbers_cells).map Prod.fst = ([a_this, a_this_numbers, a_this_numbers_cells] : List Nat) from rfl).trans (show (zw_1 cA n a_this a_this_numbers a_this_numbers_cells v_length v_blockSize v_ones g_numbers_cells).map Prod.fst = ([a_this, a_this_numbers, a_this_numbers_cells] : List Nat) from rfl).symm, rfl, rfl, by decide +kernel, rfl⟩
set_option maxHeartbeats 4000000 in
set_option maxRecDepth 100000 in
theorem m_X5_gapAhead (l : Launch) (D : va_G) (cA : ClassId) (a_this a_this_numbers a_this_numbers_cells : Nat) (v_length : Int32) (v_blockSize : Int32) (v_ones : Int32) (g_numbers_cells : Ar) (i1 : Int32) (out : Int32) (hF : F_X5_gapAhead g_numbers_cells i1 = some out) : zM l D cA yX5_gapAhead cX5_gapAhead 2 (some .int) 2 42 [.ref a_this, .int i1] (zw_1 cA 0 a_this a_this_numbers a_this_numbers_cells v_length v_blockSize v_ones g_numbers_cells) (zw_1 cA 0 a_this a_this_numbers a_this_numbers_cells v_length v_blockSize v_ones g_numbers_cells) (some (.int out)) := by
  refine z_body (by decide) (Nat.le_of_ble_eq_true rfl) ?_
  intro p e s m args below meth c ls H locs A X hl hw
  have hl : lv_has ls 2 [(0, .ref a_this), (1, .int i1)] := hl
  unfold F_X5_gapAhead at hF
  refine z_aload_n 0 X dX5_gapAhead_0 hl 0 rfl ?_
  refine z_iload_n 1 X dX5_gapAhead_1 hl 1 rfl ?_
  obtain ⟨u1, e2, hF⟩ := zbd hF
  refine z_callV 2 zc5 mv_X5_number ml_5_34 0 [] (zk_5 cA 0 a_this a_this_numbers a_this_numbers_cells v_length v_blockSize v_ones g_numbers_cells) (m_X5_number l D cA a_this a_this_numbers a_this_numbers_cells v_length v_blockSize v_ones g_numbers_cells i1 u1 e2) X dX5_gapAhead_2 hw hl rfl rfl rfl (Nat.le_of_ble_eq_true rfl) ⟨Nat.le_of_ble_eq_true rfl, Nat.le_of_ble_eq_true rfl⟩ ⟨Nat.zero_le _, Nat.zero_le _⟩ (fun H locs hw => ?_)
  refine z_aload_n 5 X dX5_gapAhead_5 hl 0 rfl ?_
  refine z_iload_n 6 X dX5_gapAhead_6 hl 1 rfl ?_
  obtain ⟨u3, e4, hF⟩ := zbd hF
  refine z_callV 7 zc5 mv_X5_numberAhead ml_5_37 0 [.int u1] (zk_5 cA 0 a_this a_this_numbers a_this_numbers_cells v_length v_blockSize v_ones g_numbers_cells) (m_X5_numberAhead l D cA a_this a_this_numbers a_this_numbers_cells v_length v_blockSize v_ones g_numbers_cells i1 u3 e4) X dX5_gapAhead_7 hw hl rfl rfl rfl (Nat.le_of_ble_eq_true rfl) ⟨Nat.le_of_ble_eq_true rfl, Nat.le_of_ble_eq_true rfl⟩ ⟨Nat.zero_le _, Nat.zero_le _⟩ (fun H locs hw => ?_)
  refine z_isub 10 X dX5_gapAhead_10 ?_
  refine z_iconst 11 1 X dX5_gapAhead_11 (by decide) ?_
  refine z_isub 12 X dX5_gapAhead_12 ?_
  cases hF
  exact z_iret 13 X dX5_gapAhead_13 hw rfl rfl
theorem dX5_blockOf_0 : decode cX5_blockOf 0 = .ok (.aload_n 0, 1) := by decide +kernel
theorem dX5_blockOf_1 : decode cX5_blockOf 1 = .ok (.getfield 24, 3) := by decide +kernel
theorem dX5_blockOf_4 : decode cX5_blockOf 4 = .ok (.ifCond .le 12, 3) := by decide +kernel
theorem dX5_blockOf_7 : decode cX5_blockOf 7 = .ok (.iload_n 1, 1) := by decide +kernel
theorem dX5_blockOf_8 : decode cX5_blockOf 8 = .ok (.aload_n 0, 1) := by decide +kernel
theorem dX5_blockOf_9 : decode cX5_blockOf 9 = .ok (.getfield 24, 3) := by decide +kernel
theorem dX5_blockOf_12 : decode cX5_blockOf 12 = .ok (.idiv, 1) := by decide +kernel
theorem dX5_blockOf_13 : decode cX5_blockOf 13 = .ok (.goto 4, 3) := by decide +kernel
theorem dX5_blockOf_16 : decode cX5_blockOf 16 = .ok (.iconst 0, 1) := by decide +kernel
theorem dX5_blockOf_17 : decode cX5_blockOf 17 = .ok (.ireturn, 1) := by decide +kernel
set_option maxHeartbeats 4000000 in
set_option maxRecDepth 100000 in
theorem m_X5_blockOf (l : Launch) (D : va_G) (cA : ClassId) (a_this a_this_numbers : Nat) (v_length : Int32) (v_blockSize : Int32) (v_ones : Int32) (i1 : Int32) (out : Int32) (hF : F_X5_blockOf v_blockSize i1 = some out) : zM l D cA yX5_blockOf cX5_blockOf 2 (some .int) 0 0 [.ref a_this, .int i1] (zw_8 cA 0 a_this a_this_numbers v_length v_blockSize v_ones) (zw_8 cA 0 a_this a_this_numbers v_length v_blockSize v_ones) (some (.int out)) := by
  refine z_body (by decide) (Nat.le_of_ble_eq_true rfl) ?_
  intro p e s m args below meth c ls H locs A X hl hw
  have hl : lv_has ls 2 [(0, .ref a_this), (1, .int i1)] := hl
  unfold F_X5_blockOf at hF
  refine z_aload_n 0 X dX5_blockOf_0 hl 0 rfl ?_
  refine z_get 1 zc5 0 2 fl_5_24 X dX5_blockOf_1 hw rfl (by decide) rfl ?_
  refine z_if_le 4 16 X dX5_blockOf_4 (by decide) (fun c1 => ?_) (fun c1 => ?_)
  · replace hF := zpos c1 hF
    refine z_iconst 16 0 X dX5_blockOf_16 (by decide) ?_
    cases hF
    exact z_iret 17 X dX5_blockOf_17 hw rfl rfl
  · replace hF := zneg c1 hF
    refine z_iload_n 7 X dX5_blockOf_7 hl 1 rfl ?_
    refine z_aload_n 8 X dX5_blockOf_8 hl 0 rfl ?_
    refine z_get 9 zc5 0 2 fl_5_24 X dX5_blockOf_9 hw rfl (by decide) rfl ?_
    obtain ⟨gd2, hF⟩ := zgd hF
    refine z_idiv 12 X dX5_blockOf_12 gd2 ?_
    refine z_goto 13 17 X dX5_blockOf_13 (by decide) ?_
    cases hF
    exact z_iret 17 X dX5_blockOf_17 hw rfl rfl
theorem dX5_blocks_0 : decode cX5_blocks 0 = .ok (.aload_n 0, 1) := by decide +kernel
theorem dX5_blocks_1 : decode cX5_blocks 1 = .ok (.getfield 20, 3) := by decide +kernel
theorem dX5_blocks_4 : decode cX5_blocks 4 = .ok (.ifCond .le 18, 3) := by decide +kernel
theorem dX5_blocks_7 : decode cX5_blocks 7 = .ok (.aload_n 0, 1) := by decide +kernel
theorem dX5_blocks_8 : decode cX5_blocks 8 = .ok (.aload_n 0, 1) := by decide +kernel
theorem dX5_blocks_9 : decode cX5_blocks 9 = .ok (.getfield 20, 3) := by decide +kernel
theorem dX5_blocks_12 : decode cX5_blocks 12 = .ok (.iconst 1, 1) := by decide +kernel
theorem dX5_blocks_13 : decode cX5_blocks 13 = .ok (.isub, 1) := by decide +kernel
theorem dX5_blocks_14 : decode cX5_blocks 14 = .ok (.invokevirtual 48, 3) := by decide +kernel
theorem dX5_blocks_17 : decode cX5_blocks 17 = .ok (.iconst 1, 1) := by decide +kernel
theorem dX5_blocks_18 : decode cX5_blocks 18 = .ok (.iadd, 1) := by decide +kernel
theorem dX5_blocks_19 : decode cX5_blocks 19 = .ok (.goto 4, 3) := by decide +kernel
theorem dX5_blocks_22 : decode cX5_blocks 22 = .ok (.iconst 0, 1) := by decide +kernel
theorem dX5_blocks_23 : decode cX5_blocks 23 = .ok (.ireturn, 1) := by decide +kernel
set_option maxHeartbeats 4000000 in
set_option maxRecDepth 100000 in
theorem zk_11 (cA : ClassId) (n : Nat) (a_this a_this_numbers : Nat) (v_length : Int32) (v_blockSize : Int32) (v_ones : Int32)  : zCW (zw_8 cA n a_this a_this_numbers v_length v_blockSize v_ones) (zw_8 cA n a_this a_this_numbers v_length v_blockSize v_ones) [0] [] (zw_8 cA 0 a_this a_this_numbers v_length v_blockSize v_ones) (zw_8 cA 0 a_this a_this_numbers v_length v_blockSize v_ones) := ⟨rfl, (show (zw_8 cA 0 a_this a_this_numbers v_length v_blockSize v_ones).map Prod.fst = ([a_this] : List Nat) from rfl).trans (show (zw_8 cA 0 a_this a_this_numbers v_length v_blockSize v_ones).map Prod.fst = ([a_this] : List Nat) from rfl).symm, by decide +kernel, (show (zw_8 cA n a_this a_this_numbers v_length v_blockSize v_ones).map Prod.fst = ([a_this] : List Nat) from rfl).trans (show (zw_8 cA n a_this a_this_numbers v_length v_blockSize v_ones).map Prod.fst = ([a_this] : List Nat) from rfl).symm, rfl, rfl, by decide +kernel, rfl⟩
set_option maxHeartbeats 4000000 in
set_option maxRecDepth 100000 in
theorem m_X5_blocks (l : Launch) (D : va_G) (cA : ClassId) (a_this a_this_numbers : Nat) (v_length : Int32) (v_blockSize : Int32) (v_ones : Int32) (out : Int32) (hF : F_X5_blocks v_length v_blockSize = some out) : zM l D cA yX5_blocks cX5_blocks 1 (some .int) 1 21 [.ref a_this] (zw_8 cA 0 a_this a_this_numbers v_length v_blockSize v_ones) (zw_8 cA 0 a_this a_this_numbers v_length v_blockSize v_ones) (some (.int out)) := by
  refine z_body (by decide) (Nat.le_of_ble_eq_true rfl) ?_
  intro p e s m args below meth c ls H locs A X hl hw
  have hl : lv_has ls 1 [(0, .ref a_this)] := hl
  unfold F_X5_blocks at hF
  refine z_aload_n 0 X dX5_blocks_0 hl 0 rfl ?_
  refine z_get 1 zc5 0 1 fl_5_20 X dX5_blocks_1 hw rfl (by decide) rfl ?_
  refine z_if_le 4 22 X dX5_blocks_4 (by decide) (fun c1 => ?_) (fun c1 => ?_)
  · replace hF := zpos c1 hF
    refine z_iconst 22 0 X dX5_blocks_22 (by decide) ?_
    cases hF
    exact z_iret 23 X dX5_blocks_23 hw rfl rfl
  · replace hF := zneg c1 hF
    refine z_aload_n 7 X dX5_blocks_7 hl 0 rfl ?_
    refine z_aload_n 8 X dX5_blocks_8 hl 0 rfl ?_
    refine z_get 9 zc5 0 1 fl_5_20 X dX5_blocks_9 hw rfl (by decide) rfl ?_
    refine z_iconst 12 1 X dX5_blocks_12 (by decide) ?_
    refine z_isub 13 X dX5_blocks_13 ?_
    obtain ⟨u2, e3, hF⟩ := zbd hF
    refine z_callV 14 zc5 mv_X5_blockOf ml_5_48 0 [] (zk_11 cA 0 a_this a_this_numbers v_length v_blockSize v_ones) (m_X5_blockOf l D cA a_this a_this_numbers v_length v_blockSize v_ones (v_length - 1) u2 e3) X dX5_blocks_14 hw hl rfl rfl rfl (Nat.le_of_ble_eq_true rfl) ⟨Nat.le_of_ble_eq_true rfl, Nat.le_of_ble_eq_true rfl⟩ ⟨Nat.zero_le _, Nat.zero_le _⟩ (fun H locs hw => ?_)
    refine z_iconst 17 1 X dX5_blocks_17 (by decide) ?_
    refine z_iadd 18 X dX5_blocks_18 ?_
    refine z_goto 19 23 X dX5_blocks_19 (by decide) ?_
    cases hF
    exact z_iret 23 X dX5_blocks_23 hw rfl rfl
theorem dX5_firstOf_0 : decode cX5_firstOf 0 = .ok (.iload_n 1, 1) := by decide +kernel
theorem dX5_firstOf_1 : decode cX5_firstOf 1 = .ok (.aload_n 0, 1) := by decide +kernel
theorem dX5_firstOf_2 : decode cX5_firstOf 2 = .ok (.getfield 24, 3) := by decide +kernel
theorem dX5_firstOf_5 : decode cX5_firstOf 5 = .ok (.imul, 1) := by decide +kernel
theorem dX5_firstOf_6 : decode cX5_firstOf 6 = .ok (.ireturn, 1) := by decide +kernel
set_option maxHeartbeats 4000000 in
set_option maxRecDepth 100000 in
theorem m_X5_firstOf (l : Launch) (D : va_G) (cA : ClassId) (a_this a_this_numbers : Nat) (v_length : Int32) (v_blockSize : Int32) (v_ones : Int32) (i1 : Int32) (out : Int32) (hF : F_X5_firstOf v_blockSize i1 = some out) : zM l D cA yX5_firstOf cX5_firstOf 2 (some .int) 0 0 [.ref a_this, .int i1] (zw_8 cA 0 a_this a_this_numbers v_length v_blockSize v_ones) (zw_8 cA 0 a_this a_this_numbers v_length v_blockSize v_ones) (some (.int out)) := by
  refine z_body (by decide) (Nat.le_of_ble_eq_true rfl) ?_
  intro p e s m args below meth c ls H locs A X hl hw
  have hl : lv_has ls 2 [(0, .ref a_this), (1, .int i1)] := hl
  unfold F_X5_firstOf at hF
  refine z_iload_n 0 X dX5_firstOf_0 hl 1 rfl ?_
  refine z_aload_n 1 X dX5_firstOf_1 hl 0 rfl ?_
  refine z_get 2 zc5 0 2 fl_5_24 X dX5_firstOf_2 hw rfl (by decide) rfl ?_
  refine z_imul 5 X dX5_firstOf_5 ?_
  cases hF
  exact z_iret 6 X dX5_firstOf_6 hw rfl rfl
theorem dX5_endOf_0 : decode cX5_endOf 0 = .ok (.aload_n 0, 1) := by decide +kernel
theorem dX5_endOf_1 : decode cX5_endOf 1 = .ok (.iload_n 1, 1) := by decide +kernel
theorem dX5_endOf_2 : decode cX5_endOf 2 = .ok (.invokevirtual 55, 3) := by decide +kernel
theorem dX5_endOf_5 : decode cX5_endOf 5 = .ok (.aload_n 0, 1) := by decide +kernel
theorem dX5_endOf_6 : decode cX5_endOf 6 = .ok (.getfield 24, 3) := by decide +kernel
theorem dX5_endOf_9 : decode cX5_endOf 9 = .ok (.iadd, 1) := by decide +kernel
theorem dX5_endOf_10 : decode cX5_endOf 10 = .ok (.aload_n 0, 1) := by decide +kernel
theorem dX5_endOf_11 : decode cX5_endOf 11 = .ok (.getfield 20, 3) := by decide +kernel
theorem dX5_endOf_14 : decode cX5_endOf 14 = .ok (.invokestatic 58, 3) := by decide +kernel
theorem dX5_endOf_17 : decode cX5_endOf 17 = .ok (.ireturn, 1) := by decide +kernel
set_option maxHeartbeats 4000000 in
set_option maxRecDepth 100000 in
theorem m_X5_endOf (l : Launch) (D : va_G) (cA : ClassId) (a_this a_this_numbers : Nat) (v_length : Int32) (v_blockSize : Int32) (v_ones : Int32) (i1 : Int32) (out : Int32) (hF : F_X5_endOf v_length v_blockSize i1 = some out) : zM l D cA yX5_endOf cX5_endOf 2 (some .int) 1 21 [.ref a_this, .int i1] (zw_8 cA 0 a_this a_this_numbers v_length v_blockSize v_ones) (zw_8 cA 0 a_this a_this_numbers v_length v_blockSize v_ones) (some (.int out)) := by
  refine z_body (by decide) (Nat.le_of_ble_eq_true rfl) ?_
  intro p e s m args below meth c ls H locs A X hl hw
  have hl : lv_has ls 2 [(0, .ref a_this), (1, .int i1)] := hl
  unfold F_X5_endOf at hF
  refine z_aload_n 0 X dX5_endOf_0 hl 0 rfl ?_
  refine z_iload_n 1 X dX5_endOf_1 hl 1 rfl ?_
  obtain ⟨u1, e2, hF⟩ := zbd hF
  refine z_callV 2 zc5 mv_X5_firstOf ml_5_55 0 [] (zk_11 cA 0 a_this a_this_numbers v_length v_blockSize v_ones) (m_X5_firstOf l D cA a_this a_this_numbers v_length v_blockSize v_ones i1 u1 e2) X dX5_endOf_2 hw hl rfl rfl rfl (Nat.le_of_ble_eq_true rfl) ⟨Nat.le_of_ble_eq_true rfl, Nat.le_of_ble_eq_true rfl⟩ ⟨Nat.zero_le _, Nat.zero_le _⟩ (fun H locs hw => ?_)
  refine z_aload_n 5 X dX5_endOf_5 hl 0 rfl ?_
  refine z_get 6 zc5 0 2 fl_5_24 X dX5_endOf_6 hw rfl (by decide) rfl ?_
  refine z_iadd 9 X dX5_endOf_9 ?_
  refine z_aload_n 10 X dX5_endOf_10 hl 0 rfl ?_
  refine z_get 11 zc5 0 1 fl_5_20 X dX5_endOf_11 hw rfl (by decide) rfl ?_
  refine z_min 14 ml_5_58 mq_min X dX5_endOf_14 hl ⟨Nat.le_of_ble_eq_true rfl, Nat.le_of_ble_eq_true rfl⟩ ⟨Nat.zero_le _, Nat.zero_le _⟩ ?_
  cases hF
  exact z_iret 17 X dX5_endOf_17 hw rfl rfl
theorem dX5_placeOf_0 : decode cX5_placeOf 0 = .ok (.iconst 0, 1) := by decide +kernel
theorem dX5_placeOf_1 : decode cX5_placeOf 1 = .ok (.istore_n 2, 1) := by decide +kernel
theorem dX5_placeOf_2 : decode cX5_placeOf 2 = .ok (.iload_n 2, 1) := by decide +kernel
theorem dX5_placeOf_3 : decode cX5_placeOf 3 = .ok (.aload_n 0, 1) := by decide +kernel
theorem dX5_placeOf_4 : decode cX5_placeOf 4 = .ok (.getfield 20, 3) := by decide +kernel
theorem dX5_placeOf_7 : decode cX5_placeOf 7 = .ok (.if_icmp .ge 20, 3) := by decide +kernel
theorem dX5_placeOf_10 : decode cX5_placeOf 10 = .ok (.aload_n 0, 1) := by decide +kernel
theorem dX5_placeOf_11 : decode cX5_placeOf 11 = .ok (.iload_n 2, 1) := by decide +kernel
theorem dX5_placeOf_12 : decode cX5_placeOf 12 = .ok (.invokevirtual 34, 3) := by decide +kernel
theorem dX5_placeOf_15 : decode cX5_placeOf 15 = .ok (.iload_n 1, 1) := by decide +kernel
theorem dX5_placeOf_16 : decode cX5_placeOf 16 = .ok (.if_icmp .lt 5, 3) := by decide +kernel
theorem dX5_placeOf_19 : decode cX5_placeOf 19 = .ok (.iload_n 2, 1) := by decide +kernel
theorem dX5_placeOf_20 : decode cX5_placeOf 20 = .ok (.ireturn, 1) := by decide +kernel
theorem dX5_placeOf_21 : decode cX5_placeOf 21 = .ok (.iinc 2 1, 3) := by decide +kernel
theorem dX5_placeOf_24 : decode cX5_placeOf 24 = .ok (.goto (-22), 3) := by decide +kernel
theorem dX5_placeOf_27 : decode cX5_placeOf 27 = .ok (.aload_n 0, 1) := by decide +kernel
theorem dX5_placeOf_28 : decode cX5_placeOf 28 = .ok (.getfield 20, 3) := by decide +kernel
theorem dX5_placeOf_31 : decode cX5_placeOf 31 = .ok (.ireturn, 1) := by decide +kernel
set_option maxHeartbeats 4000000 in
set_option maxRecDepth 100000 in
theorem l_X5_placeOf_2 (l : Launch) (D : va_G) (cA : ClassId) (a_this a_this_numbers a_this_numbers_cells : Nat) (v_length : Int32) (v_blockSize : Int32) (v_ones : Int32) (g_numbers_cells : Ar) (i1 : Int32) (out : Int32) {p : Program} {e : Env} {s : State} {m : MethodId} {args : Array Value} {below : List Frame} {meth : Method} {c : Code} {A : Nat → Prop} (X : zX D cA p s m args meth c cX5_placeOf 3 RX5 (some .int)) (k : Unit → Option (Int32)) (hk : ∀ (H : Heap) (locs : List Loc) (ls : Array Slot), zH D A s (zw_1 cA 0 a_this a_this_numbers a_this_numbers_cells v_length v_blockSize v_ones g_numbers_cells) H locs → lv_has ls 3 [(0, .ref a_this)] → k () = some out → W p l e (zR 2 42) s m args below meth c H locs 0 0 (MQ below (zQ D (zw_1 cA 0 a_this a_this_numbers a_this_numbers_cells v_length v_blockSize v_ones g_numbers_cells) (some (.int out)) A) args s 0 0 A) (F0 m 27 ls [])) :
    ∀ (fuel : Nat) (i2 : Int32) (H : Heap) (locs : List Loc) (ls : Array Slot), zH D A s (zw_1 cA 0 a_this a_this_numbers a_this_numbers_cells v_length v_blockSize v_ones g_numbers_cells) H locs → lv_has ls 3 [(0, .ref a_this), (1, .int i1), (2, .int i2)] → F_X5_placeOf_L2 v_length g_numbers_cells i1 k fuel i2 = some out → W p l e (zR 2 42) s m args below meth c H locs 0 0 (MQ below (zQ D (zw_1 cA 0 a_this a_this_numbers a_this_numbers_cells v_length v_blockSize v_ones g_numbers_cells) (some (.int out)) A) args s 0 0 A) (F0 m 2 ls []) := by
  intro fuel
  induction fuel with
  | zero => intro i2 H locs ls hw hl hF; exact nomatch (show (none : Option (Int32)) = some out from hF)
  | succ fuel ih =>
    intro i2 H locs ls hw hl hF
    rw [F_X5_placeOf_L2] at hF
    refine z_iload_n 2 X dX5_placeOf_2 hl 2 rfl ?_
    refine z_aload_n 3 X dX5_placeOf_3 hl 0 rfl ?_
    refine z_get 4 zc5 0 1 fl_5_20 X dX5_placeOf_4 hw rfl (by decide) rfl ?_
    refine z_icmp_ge 7 27 X dX5_placeOf_7 (by decide) (fun c1 => ?_) (fun c1 => ?_)
    · replace hF := zpos c1 hF
      exact hk  H locs ls hw (lv_sub hl [0] rfl) hF
    · replace hF := zneg c1 hF
      refine z_aload_n 10 X dX5_placeOf_10 hl 0 rfl ?_
      refine z_iload_n 11 X dX5_placeOf_11 hl 2 rfl ?_
      obtain ⟨u2, e3, hF⟩ := zbd hF
      refine z_callV 12 zc5 mv_X5_number ml_5_34 0 [] (zk_5 cA 0 a_this a_this_numbers a_this_numbers_cells v_length v_blockSize v_ones g_numbers_cells) (m_X5_number l D cA a_this a_this_numbers a_this_numbers_cells v_length v_blockSize v_ones g_numbers_cells i2 u2 e3) X dX5_placeOf_12 hw hl rfl rfl rfl (Nat.le_of_ble_eq_true rfl) ⟨Nat.le_of_ble_eq_true rfl, Nat.le_of_ble_eq_true rfl⟩ ⟨Nat.zero_le _, Nat.zero_le _⟩ (fun H locs hw => ?_)
      refine z_iload_n 15 X dX5_placeOf_15 hl 1 rfl ?_
      refine z_icmp_lt 16 21 X dX5_placeOf_16 (by decide) (fun c4 => ?_) (fun c4 => ?_)
      · replace hF := zpos c4 hF
        refine z_iinc2 21 1 [(2, .int (i2 + 1)), (0, .ref a_this), (1, .int i1)] X dX5_placeOf_21 hl 2 rfl (by decide) (by decide) rfl (fun ls hl => ?_)
        refine z_goto 24 2 X dX5_placeOf_24 (by decide) ?_
        exact ih (i2 + 1) H locs ls hw (lv_sub hl [1, 2, 0] rfl) hF
      · replace hF := zneg c4 hF
        refine z_iload_n 19 X dX5_placeOf_19 hl 2 rfl ?_
        cases hF
        exact z_iret 20 X dX5_placeOf_20 hw rfl rfl
set_option maxHeartbeats 4000000 in
set_option maxRecDepth 100000 in
theorem m_X5_placeOf (l : Launch) (D : va_G) (cA : ClassId) (a_this a_this_numbers a_this_numbers_cells : Nat) (v_length : Int32) (v_blockSize : Int32) (v_ones : Int32) (g_numbers_cells : Ar) (i1 : Int32) (out : Int32) (hF : F_X5_placeOf v_length g_numbers_cells i1 = some out) : zM l D cA yX5_placeOf cX5_placeOf 3 (some .int) 2 42 [.ref a_this, .int i1] (zw_1 cA 0 a_this a_this_numbers a_this_numbers_cells v_length v_blockSize v_ones g_numbers_cells) (zw_1 cA 0 a_this a_this_numbers a_this_numbers_cells v_length v_blockSize v_ones g_numbers_cells) (some (.int out)) := by
  refine z_body (by decide) (Nat.le_of_ble_eq_true rfl) ?_
  intro p e s m args below meth c ls H locs A X hl hw
  have hl : lv_has ls 3 [(0, .ref a_this), (1, .int i1)] := hl
  unfold F_X5_placeOf at hF
  refine z_iconst 0 0 X dX5_placeOf_0 (by decide) ?_
  refine z_istore_n 1 [(2, .int 0), (0, .ref a_this), (1, .int i1)] X dX5_placeOf_1 hl (by decide) rfl (fun ls hl => ?_)
  refine l_X5_placeOf_2 l D cA a_this a_this_numbers a_this_numbers_cells v_length v_blockSize v_ones g_numbers_cells i1 out X _ (fun  H locs ls hw hl hF => ?_) zFuel 0 H locs ls hw (lv_sub hl [1, 2, 0] rfl) hF
  refine z_aload_n 27 X dX5_placeOf_27 hl 0 rfl ?_
  refine z_get 28 zc5 0 1 fl_5_20 X dX5_placeOf_28 hw rfl (by decide) rfl ?_
  cases hF
  exact z_iret 31 X dX5_placeOf_31 hw rfl rfl
theorem dX5_hasPlace_0 : decode cX5_hasPlace 0 = .ok (.iload_n 1, 1) := by decide +kernel
theorem dX5_hasPlace_1 : decode cX5_hasPlace 1 = .ok (.ifCond .lt 15, 3) := by decide +kernel
theorem dX5_hasPlace_4 : decode cX5_hasPlace 4 = .ok (.iload_n 1, 1) := by decide +kernel
theorem dX5_hasPlace_5 : decode cX5_hasPlace 5 = .ok (.aload_n 0, 1) := by decide +kernel
theorem dX5_hasPlace_6 : decode cX5_hasPlace 6 = .ok (.getfield 20, 3) := by decide +kernel
theorem dX5_hasPlace_9 : decode cX5_hasPlace 9 = .ok (.if_icmp .ge 7, 3) := by decide +kernel
theorem dX5_hasPlace_12 : decode cX5_hasPlace 12 = .ok (.iconst 1, 1) := by decide +kernel
theorem dX5_hasPlace_13 : decode cX5_hasPlace 13 = .ok (.goto 4, 3) := by decide +kernel
theorem dX5_hasPlace_16 : decode cX5_hasPlace 16 = .ok (.iconst 0, 1) := by decide +kernel
theorem dX5_hasPlace_17 : decode cX5_hasPlace 17 = .ok (.ireturn, 1) := by decide +kernel
set_option maxHeartbeats 4000000 in
set_option maxRecDepth 100000 in
theorem m_X5_hasPlace (l : Launch) (D : va_G) (cA : ClassId) (a_this a_this_numbers : Nat) (v_length : Int32) (v_blockSize : Int32) (v_ones : Int32) (i1 : Int32) (out : Int32) (hF : F_X5_hasPlace v_length i1 = some out) : zM l D cA yX5_hasPlace cX5_hasPlace 2 (some .boolean) 0 0 [.ref a_this, .int i1] (zw_8 cA 0 a_this a_this_numbers v_length v_blockSize v_ones) (zw_8 cA 0 a_this a_this_numbers v_length v_blockSize v_ones) (some (.int out)) := by
  refine z_body (by decide) (Nat.le_of_ble_eq_true rfl) ?_
  intro p e s m args below meth c ls H locs A X hl hw
  have hl : lv_has ls 2 [(0, .ref a_this), (1, .int i1)] := hl
  unfold F_X5_hasPlace at hF
  refine z_iload_n 0 X dX5_hasPlace_0 hl 1 rfl ?_
  refine z_if_lt 1 16 X dX5_hasPlace_1 (by decide) (fun c1 => ?_) (fun c1 => ?_)
  · replace hF := zpos c1 hF
    refine z_iconst 16 0 X dX5_hasPlace_16 (by decide) ?_
    cases hF
    exact z_zret 17 X dX5_hasPlace_17 hw (by decide) rfl rfl
  · replace hF := zneg c1 hF
    refine z_iload_n 4 X dX5_hasPlace_4 hl 1 rfl ?_
    refine z_aload_n 5 X dX5_hasPlace_5 hl 0 rfl ?_
    refine z_get 6 zc5 0 1 fl_5_20 X dX5_hasPlace_6 hw rfl (by decide) rfl ?_
    refine z_icmp_ge 9 16 X dX5_hasPlace_9 (by decide) (fun c2 => ?_) (fun c2 => ?_)
    · replace hF := zpos c2 hF
      refine z_iconst 16 0 X dX5_hasPlace_16 (by decide) ?_
      cases hF
      exact z_zret 17 X dX5_hasPlace_17 hw (by decide) rfl rfl
    · replace hF := zneg c2 hF
      refine z_iconst 12 1 X dX5_hasPlace_12 (by decide) ?_
      refine z_goto 13 17 X dX5_hasPlace_13 (by decide) ?_
      cases hF
      exact z_zret 17 X dX5_hasPlace_17 hw (by decide) rfl rfl
theorem dX5_holds_0 : decode cX5_holds 0 = .ok (.aload_n 0, 1) := by decide +kernel
theorem dX5_holds_1 : decode cX5_holds 1 = .ok (.iload_n 2, 1) := by decide +kernel
theorem dX5_holds_2 : decode cX5_holds 2 = .ok (.invokevirtual 40, 3) := by decide +kernel
theorem dX5_holds_5 : decode cX5_holds 5 = .ok (.ifCond .eq 16, 3) := by decide +kernel
theorem dX5_holds_8 : decode cX5_holds 8 = .ok (.aload_n 0, 1) := by decide +kernel
theorem dX5_holds_9 : decode cX5_holds 9 = .ok (.iload_n 2, 1) := by decide +kernel
theorem dX5_holds_10 : decode cX5_holds 10 = .ok (.invokevirtual 34, 3) := by decide +kernel
theorem dX5_holds_13 : decode cX5_holds 13 = .ok (.iload_n 1, 1) := by decide +kernel
theorem dX5_holds_14 : decode cX5_holds 14 = .ok (.if_icmp .ne 7, 3) := by decide +kernel
theorem dX5_holds_17 : decode cX5_holds 17 = .ok (.iconst 1, 1) := by decide +kernel
theorem dX5_holds_18 : decode cX5_holds 18 = .ok (.goto 4, 3) := by decide +kernel
theorem dX5_holds_21 : decode cX5_holds 21 = .ok (.iconst 0, 1) := by decide +kernel
theorem dX5_holds_22 : decode cX5_holds 22 = .ok (.ireturn, 1) := by decide +kernel
set_option maxHeartbeats 4000000 in
set_option maxRecDepth 100000 in
theorem zk_30 (cA : ClassId) (n : Nat) (a_this a_this_numbers a_this_numbers_cells : Nat) (v_length : Int32) (v_blockSize : Int32) (v_ones : Int32) (g_numbers_cells : Ar)  : zCW (zw_1 cA n a_this a_this_numbers a_this_numbers_cells v_length v_blockSize v_ones g_numbers_cells) (zw_1 cA n a_this a_this_numbers a_this_numbers_cells v_length v_blockSize v_ones g_numbers_cells) [0] [1, 2] (zw_8 cA 0 a_this a_this_numbers v_length v_blockSize v_ones) (zw_8 cA 0 a_this a_this_numbers v_length v_blockSize v_ones) := ⟨rfl, (show (zw_8 cA 0 a_this a_this_numbers v_length v_blockSize v_ones).map Prod.fst = ([a_this] : List Nat) from rfl).trans (show (zw_8 cA 0 a_this a_this_numbers v_length v_blockSize v_ones).map Prod.fst = ([a_this] : List Nat) from rfl).symm, by decide +kernel, (show (zw_1 cA n a_this a_this_numbers a_this_numbers_cells v_length v_blockSize v_ones g_numbers_cells).map Prod.fst = ([a_this, a_this_numbers, a_this_numbers_cells] : List Nat) from rfl).trans (show (zw_1 cA n a_this a_this_numbers a_this_numbers_cells v_length v_blockSize v_ones g_numbers_cells).map Prod.fst = ([a_this, a_this_numbers, a_this_numbers_cells] : List Nat) from rfl).symm, rfl, (show ([1, 2] : List Nat).map (fun i => (zw_1 cA n a_this a_this_numbers a_this_numbers_cells v_length v_blockSize v_ones g_numbers_cells)[i]?) = ([(a_this_numbers, .inr (0, [.ref a_this_numbers_cells])), (a_this_numbers_cells, .inl (cA, 64, .inl g_numbers_cells))] : va_W).map some from rfl).trans (show ([1, 2] : List Nat).map (fun i => (zw_1 cA n a_this a_this_numbers a_this_numbers_cells v_length v_blockSize v_ones g_numbers_cells)[i]?) = ([(a_this_numbers, .inr (0, [.ref a_this_numbers_cells])), (a_this_numbers_cells, .inl (cA, 64, .inl g_numbers_cells))] : va_W).map some from rfl).symm, by decide +kernel, rfl⟩
set_option maxHeartbeats 4000000 in
set_option maxRecDepth 100000 in
theorem m_X5_holds (l : Launch) (D : va_G) (cA : ClassId) (a_this a_this_numbers a_this_numbers_cells : Nat) (v_length : Int32) (v_blockSize : Int32) (v_ones : Int32) (g_numbers_cells : Ar) (i1 : Int32) (i2 : Int32) (out : Int32) (hF : F_X5_holds v_length g_numbers_cells i1 i2 = some out) : zM l D cA yX5_holds cX5_holds 3 (some .boolean) 2 42 [.ref a_this, .int i1, .int i2] (zw_1 cA 0 a_this a_this_numbers a_this_numbers_cells v_length v_blockSize v_ones g_numbers_cells) (zw_1 cA 0 a_this a_this_numbers a_this_numbers_cells v_length v_blockSize v_ones g_numbers_cells) (some (.int out)) := by
  refine z_body (by decide) (Nat.le_of_ble_eq_true rfl) ?_
  intro p e s m args below meth c ls H locs A X hl hw
  have hl : lv_has ls 3 [(0, .ref a_this), (1, .int i1), (2, .int i2)] := hl
  unfold F_X5_holds at hF
  refine z_aload_n 0 X dX5_holds_0 hl 0 rfl ?_
  refine z_iload_n 1 X dX5_holds_1 hl 2 rfl ?_
  obtain ⟨u1, e2, hF⟩ := zbd hF
  refine z_callV 2 zc5 mv_X5_hasPlace ml_5_40 0 [] (zk_30 cA 0 a_this a_this_numbers a_this_numbers_cells v_length v_blockSize v_ones g_numbers_cells) (m_X5_hasPlace l D cA a_this a_this_numbers v_length v_blockSize v_ones i2 u1 e2) X dX5_holds_2 hw hl rfl rfl rfl (Nat.le_of_ble_eq_true rfl) ⟨Nat.le_of_ble_eq_true rfl, Nat.le_of_ble_eq_true rfl⟩ ⟨Nat.zero_le _, Nat.zero_le _⟩ (fun H locs hw => ?_)
  refine z_if_eq 5 21 X dX5_holds_5 (by decide) (fun c3 => ?_) (fun c3 => ?_)
  · replace hF := zpos c3 hF
    refine z_iconst 21 0 X dX5_holds_21 (by decide) ?_
    cases hF
    exact z_zret 22 X dX5_holds_22 hw (by decide) rfl rfl
  · replace hF := zneg c3 hF
    refine z_aload_n 8 X dX5_holds_8 hl 0 rfl ?_
    refine z_iload_n 9 X dX5_holds_9 hl 2 rfl ?_
    obtain ⟨u4, e5, hF⟩ := zbd hF
    refine z_callV 10 zc5 mv_X5_number ml_5_34 0 [] (zk_5 cA 0 a_this a_this_numbers a_this_numbers_cells v_length v_blockSize v_ones g_numbers_cells) (m_X5_number l D cA a_this a_this_numbers a_this_numbers_cells v_length v_blockSize v_ones g_numbers_cells i2 u4 e5) X dX5_holds_10 hw hl rfl rfl rfl (Nat.le_of_ble_eq_true rfl) ⟨Nat.le_of_ble_eq_true rfl, Nat.le_of_ble_eq_true rfl⟩ ⟨Nat.zero_le _, Nat.zero_le _⟩ (fun H locs hw => ?_)
    refine z_iload_n 13 X dX5_holds_13 hl 1 rfl ?_
    refine z_icmp_ne 14 21 X dX5_holds_14 (by decide) (fun c6 => ?_) (fun c6 => ?_)
    · replace hF := zneg c6 hF
      refine z_iconst 21 0 X dX5_holds_21 (by decide) ?_
      cases hF
      exact z_zret 22 X dX5_holds_22 hw (by decide) rfl rfl
    · replace hF := zpos c6 hF
      refine z_iconst 17 1 X dX5_holds_17 (by decide) ?_
      refine z_goto 18 22 X dX5_holds_18 (by decide) ?_
      cases hF
      exact z_zret 22 X dX5_holds_22 hw (by decide) rfl rfl
theorem dX5_insert_0 : decode cX5_insert 0 = .ok (.aload_n 0, 1) := by decide +kernel
theorem dX5_insert_1 : decode cX5_insert 1 = .ok (.getfield 20, 3) := by decide +kernel
theorem dX5_insert_4 : decode cX5_insert 4 = .ok (.istore_n 3, 1) := by decide +kernel
theorem dX5_insert_5 : decode cX5_insert 5 = .ok (.iload_n 3, 1) := by decide +kernel
theorem dX5_insert_6 : decode cX5_insert 6 = .ok (.iload_n 1, 1) := by decide +kernel
theorem dX5_insert_7 : decode cX5_insert 7 = .ok (.if_icmp .le 24, 3) := by decide +kernel
theorem dX5_insert_10 : decode cX5_insert 10 = .ok (.aload_n 0, 1) := by decide +kernel
theorem dX5_insert_11 : decode cX5_insert 11 = .ok (.getfield 14, 3) := by decide +kernel
theorem dX5_insert_14 : decode cX5_insert 14 = .ok (.iload_n 3, 1) := by decide +kernel
theorem dX5_insert_15 : decode cX5_insert 15 = .ok (.aload_n 0, 1) := by decide +kernel
theorem dX5_insert_16 : decode cX5_insert 16 = .ok (.iload_n 3, 1) := by decide +kernel
theorem dX5_insert_17 : decode cX5_insert 17 = .ok (.iconst 1, 1) := by decide +kernel
theorem dX5_insert_18 : decode cX5_insert 18 = .ok (.isub, 1) := by decide +kernel
theorem dX5_insert_19 : decode cX5_insert 19 = .ok (.invokevirtual 34, 3) := by decide +kernel
theorem dX5_insert_22 : decode cX5_insert 22 = .ok (.invokevirtual 44, 3) := by decide +kernel
theorem dX5_insert_25 : decode cX5_insert 25 = .ok (.iinc 3 (-1), 3) := by decide +kernel
theorem dX5_insert_28 : decode cX5_insert 28 = .ok (.goto (-23), 3) := by decide +kernel
theorem dX5_insert_31 : decode cX5_insert 31 = .ok (.aload_n 0, 1) := by decide +kernel
theorem dX5_insert_32 : decode cX5_insert 32 = .ok (.getfield 14, 3) := by decide +kernel
theorem dX5_insert_35 : decode cX5_insert 35 = .ok (.iload_n 1, 1) := by decide +kernel
theorem dX5_insert_36 : decode cX5_insert 36 = .ok (.iload_n 2, 1) := by decide +kernel
theorem dX5_insert_37 : decode cX5_insert 37 = .ok (.invokevirtual 44, 3) := by decide +kernel
theorem dX5_insert_40 : decode cX5_insert 40 = .ok (.aload_n 0, 1) := by decide +kernel
theorem dX5_insert_41 : decode cX5_insert 41 = .ok (.dup, 1) := by decide +kernel
theorem dX5_insert_42 : decode cX5_insert 42 = .ok (.getfield 20, 3) := by decide +kernel
theorem dX5_insert_45 : decode cX5_insert 45 = .ok (.iconst 1, 1) := by decide +kernel
theorem dX5_insert_46 : decode cX5_insert 46 = .ok (.iadd, 1) := by decide +kernel
theorem dX5_insert_47 : decode cX5_insert 47 = .ok (.putfield 20, 3) := by decide +kernel
theorem dX5_insert_50 : decode cX5_insert 50 = .ok (.return_, 1) := by decide +kernel
set_option maxHeartbeats 4000000 in
set_option maxRecDepth 100000 in
theorem zk_31 (cA : ClassId) (n : Nat) (a_this a_this_numbers a_this_numbers_cells : Nat) (v_length : Int32) (v_blockSize : Int32) (v_ones : Int32) (g_numbers_cells : Ar) (g_numbers_cells' : Ar) : zCW (zw_1 cA n a_this a_this_numbers a_this_numbers_cells v_length v_blockSize v_ones g_numbers_cells) (zw_1 cA n a_this a_this_numbers a_this_numbers_cells v_length v_blockSize v_ones g_numbers_cells') [1, 2] [0] (zw_0 cA 64 a_this_numbers a_this_numbers_cells g_numbers_cells) (zw_0 cA 64 a_this_numbers a_this_numbers_cells g_numbers_cells') := ⟨rfl, (show (zw_0 cA 64 a_this_numbers a_this_numbers_cells g_numbers_cells').map Prod.fst = ([a_this_numbers, a_this_numbers_cells] : List Nat) from rfl).trans (show (zw_0 cA 64 a_this_numbers a_this_numbers_cells g_numbers_cells).map Prod.fst = ([a_this_numbers, a_this_numbers_cells] : List Nat) from rfl).symm, by decide +kernel, (show (zw_1 cA n a_this a_this_numbers a_this_numbers_cells v_length v_blockSize v_ones g_numbers_cells').map Prod.fst = ([a_this, a_this_numbers, a_this_numbers_cells] : List Nat) from rfl).trans (show (zw_1 cA n a_this a_this_numbers a_this_numbers_cells v_length v_blockSize v_ones g_numbers_cells).map Prod.fst = ([a_this, a_this_numbers, a_this_numbers_cells] : List Nat) from rfl).symm, rfl, (show ([0] : List Nat).map (fun i => (zw_1 cA n a_this a_this_numbers a_this_numbers_cells v_length v_blockSize v_ones g_numbers_cells')[i]?) = ([(a_this, .inr (5, [.ref a_this_numbers, .int v_length, .int v_blockSize, .int v_ones]))] : va_W).map some from rfl).trans (show ([0] : List Nat).map (fun i => (zw_1 cA n a_this a_this_numbers a_this_numbers_cells v_length v_blockSize v_ones g_numbers_cells)[i]?) = ([(a_this, .inr (5, [.ref a_this_numbers, .int v_length, .int v_blockSize, .int v_ones]))] : va_W).map some from rfl).symm, by decide +kernel, rfl⟩
set_option maxHeartbeats 4000000 in
set_option maxRecDepth 100000 in
theorem l_X5_insert_5 (l : Launch) (D : va_G) (cA : ClassId) (a_this a_this_numbers a_this_numbers_cells : Nat) (v_length : Int32) (v_blockSize : Int32) (v_ones : Int32) (i1 : Int32) (i2 : Int32) (out : Int32 × Ar) {p : Program} {e : Env} {s : State} {m : MethodId} {args : Array Value} {below : List Frame} {meth : Method} {c : Code} {A : Nat → Prop} (X : zX D cA p s m args meth c cX5_insert 4 RX5 none) (k : Ar → Option (Int32 × Ar)) (hk : ∀ (g_numbers_cells : Ar) (H : Heap) (locs : List Loc) (ls : Array Slot), zH D A s (zw_1 cA 0 a_this a_this_numbers a_this_numbers_cells v_length v_blockSize v_ones g_numbers_cells) H locs → lv_has ls 4 [(0, .ref a_this), (1, .int i1), (2, .int i2)] → k g_numbers_cells = some out → W p l e (zR 2 42) s m args below meth c H locs 0 0 (MQ below (zQ D (zw_1 cA 0 a_this a_this_numbers a_this_numbers_cells out.1 v_blockSize v_ones out.2) none A) args s 0 0 A) (F0 m 31 ls [])) :
    ∀ (fuel : Nat) (g_numbers_cells : Ar) (i3 : Int32) (H : Heap) (locs : List Loc) (ls : Array Slot), zH D A s (zw_1 cA 0 a_this a_this_numbers a_this_numbers_cells v_length v_blockSize v_ones g_numbers_cells) H locs → lv_has ls 4 [(0, .ref a_this), (1, .int i1), (2, .int i2), (3, .int i3)] → F_X5_insert_L5 i1 k fuel g_numbers_cells i3 = some out → W p l e (zR 2 42) s m args below meth c H locs 0 0 (MQ below (zQ D (zw_1 cA 0 a_this a_this_numbers a_this_numbers_cells out.1 v_blockSize v_ones out.2) none A) args s 0 0 A) (F0 m 5 ls []) := by
  intro fuel
  induction fuel with
  | zero => intro g_numbers_cells i3 H locs ls hw hl hF; exact nomatch (show (none : Option (Int32 × Ar)) = some out from hF)
  | succ fuel ih =>
    intro g_numbers_cells i3 H locs ls hw hl hF
    rw [F_X5_insert_L5] at hF
    refine z_iload_n 5 X dX5_insert_5 hl 3 rfl ?_
    refine z_iload_n 6 X dX5_insert_6 hl 1 rfl ?_
    refine z_icmp_le 7 31 X dX5_insert_7 (by decide) (fun c1 => ?_) (fun c1 => ?_)
    · replace hF := zpos c1 hF
      exact hk g_numbers_cells H locs ls hw (lv_sub hl [0, 1, 2] rfl) hF
    · replace hF := zneg c1 hF
      refine z_aload_n 10 X dX5_insert_10 hl 0 rfl ?_
      refine z_get 11 zc5 0 0 fl_5_14 X dX5_insert_11 hw rfl (by decide) rfl ?_
      refine z_iload_n 14 X dX5_insert_14 hl 3 rfl ?_
      refine z_aload_n 15 X dX5_insert_15 hl 0 rfl ?_
      refine z_iload_n 16 X dX5_insert_16 hl 3 rfl ?_
      refine z_iconst 17 1 X dX5_insert_17 (by decide) ?_
      refine z_isub 18 X dX5_insert_18 ?_
      obtain ⟨u2, e3, hF⟩ := zbd hF
      refine z_callV 19 zc5 mv_X5_number ml_5_34 0 [.int i3, .ref a_this_numbers] (zk_5 cA 0 a_this a_this_numbers a_this_numbers_cells v_length v_blockSize v_ones g_numbers_cells) (m_X5_number l D cA a_this a_this_numbers a_this_numbers_cells v_length v_blockSize v_ones g_numbers_cells (i3 - 1) u2 e3) X dX5_insert_19 hw hl rfl rfl rfl (Nat.le_of_ble_eq_true rfl) ⟨Nat.le_of_ble_eq_true rfl, Nat.le_of_ble_eq_true rfl⟩ ⟨Nat.zero_le _, Nat.zero_le _⟩ (fun H locs hw => ?_)
      obtain ⟨u4, e5, hF⟩ := zbd hF
      refine z_callV 22 zc0 mv_X0_write ml_5_44 1 [] (zk_31 cA 0 a_this a_this_numbers a_this_numbers_cells v_length v_blockSize v_ones g_numbers_cells u4) (m_X0_write l D cA 64 a_this_numbers a_this_numbers_cells g_numbers_cells i3 u2 u4 e5) X dX5_insert_22 hw hl rfl rfl rfl (Nat.le_of_ble_eq_true rfl) ⟨Nat.le_of_ble_eq_true rfl, Nat.le_of_ble_eq_true rfl⟩ ⟨Nat.zero_le _, Nat.zero_le _⟩ (fun H locs hw => ?_)
      refine z_iinc2 25 (-1) [(3, .int (i3 + (-1))), (0, .ref a_this), (1, .int i1), (2, .int i2)] X dX5_insert_25 hl 3 rfl (by decide) (by decide) rfl (fun ls hl => ?_)
      refine z_goto 28 5 X dX5_insert_28 (by decide) ?_
      exact ih u4 (i3 + (-1)) H locs ls hw (lv_sub hl [1, 2, 3, 0] rfl) hF
set_option maxHeartbeats 4000000 in
set_option maxRecDepth 100000 in
theorem m_X5_insert (l : Launch) (D : va_G) (cA : ClassId) (a_this a_this_numbers a_this_numbers_cells : Nat) (v_length : Int32) (v_blockSize : Int32) (v_ones : Int32) (g_numbers_cells : Ar) (i1 : Int32) (i2 : Int32) (out : Int32 × Ar) (hF : F_X5_insert v_length g_numbers_cells i1 i2 = some out) : zM l D cA yX5_insert cX5_insert 4 none 2 42 [.ref a_this, .int i1, .int i2] (zw_1 cA 0 a_this a_this_numbers a_this_numbers_cells v_length v_blockSize v_ones g_numbers_cells) (zw_1 cA 0 a_this a_this_numbers a_this_numbers_cells out.1 v_blockSize v_ones out.2) none := by
  refine z_body (by decide) (Nat.le_of_ble_eq_true rfl) ?_
  intro p e s m args below meth c ls H locs A X hl hw
  have hl : lv_has ls 4 [(0, .ref a_this), (1, .int i1), (2, .int i2)] := hl
  unfold F_X5_insert at hF
  refine z_aload_n 0 X dX5_insert_0 hl 0 rfl ?_
  refine z_get 1 zc5 0 1 fl_5_20 X dX5_insert_1 hw rfl (by decide) rfl ?_
  refine z_istore_n 4 [(3, .int v_length), (0, .ref a_this), (1, .int i1), (2, .int i2)] X dX5_insert_4 hl (by decide) rfl (fun ls hl => ?_)
  refine l_X5_insert_5 l D cA a_this a_this_numbers a_this_numbers_cells v_length v_blockSize v_ones i1 i2 out X _ (fun g_numbers_cells_6 H locs ls hw hl hF => ?_) zFuel g_numbers_cells v_length H locs ls hw (lv_sub hl [1, 2, 3, 0] rfl) hF
  refine z_aload_n 31 X dX5_insert_31 hl 0 rfl ?_
  refine z_get 32 zc5 0 0 fl_5_14 X dX5_insert_32 hw rfl (by decide) rfl ?_
  refine z_iload_n 35 X dX5_insert_35 hl 1 rfl ?_
  refine z_iload_n 36 X dX5_insert_36 hl 2 rfl ?_
  obtain ⟨u7, e8, hF⟩ := zbd hF
  refine z_callV 37 zc0 mv_X0_write ml_5_44 1 [] (zk_31 cA 0 a_this a_this_numbers a_this_numbers_cells v_length v_blockSize v_ones g_numbers_cells_6 u7) (m_X0_write l D cA 64 a_this_numbers a_this_numbers_cells g_numbers_cells_6 i1 i2 u7 e8) X dX5_insert_37 hw hl rfl rfl rfl (Nat.le_of_ble_eq_true rfl) ⟨Nat.le_of_ble_eq_true rfl, Nat.le_of_ble_eq_true rfl⟩ ⟨Nat.zero_le _, Nat.zero_le _⟩ (fun H locs hw => ?_)
  refine z_aload_n 40 X dX5_insert_40 hl 0 rfl ?_
  refine z_dup 41 X dX5_insert_41 rfl ?_
  refine z_get 42 zc5 0 1 fl_5_20 X dX5_insert_42 hw rfl (by decide) rfl ?_
  refine z_iconst 45 1 X dX5_insert_45 (by decide) ?_
  refine z_iadd 46 X dX5_insert_46 ?_
  refine z_put 47 zc5 0 1 (zw_1 cA 0 a_this a_this_numbers a_this_numbers_cells (v_length + 1) v_blockSize v_ones u7) fl_5_20 X dX5_insert_47 hw rfl (by decide) rfl rfl rfl (Nat.le_of_ble_eq_true rfl) rfl (fun H locs hw => ?_)
  cases hF
  exact z_vret 50 X dX5_insert_50 hw rfl rfl
theorem dX5_remove_0 : decode cX5_remove 0 = .ok (.aload_n 0, 1) := by decide +kernel
theorem dX5_remove_1 : decode cX5_remove 1 = .ok (.dup, 1) := by decide +kernel
theorem dX5_remove_2 : decode cX5_remove 2 = .ok (.getfield 20, 3) := by decide +kernel
theorem dX5_remove_5 : decode cX5_remove 5 = .ok (.iconst 1, 1) := by decide +kernel
theorem dX5_remove_6 : decode cX5_remove 6 = .ok (.isub, 1) := by decide +kernel
theorem dX5_remove_7 : decode cX5_remove 7 = .ok (.putfield 20, 3) := by decide +kernel
theorem dX5_remove_10 : decode cX5_remove 10 = .ok (.iload_n 1, 1) := by decide +kernel
theorem dX5_remove_11 : decode cX5_remove 11 = .ok (.istore_n 2, 1) := by decide +kernel
theorem dX5_remove_12 : decode cX5_remove 12 = .ok (.iload_n 2, 1) := by decide +kernel
theorem dX5_remove_13 : decode cX5_remove 13 = .ok (.aload_n 0, 1) := by decide +kernel
theorem dX5_remove_14 : decode cX5_remove 14 = .ok (.getfield 20, 3) := by decide +kernel
theorem dX5_remove_17 : decode cX5_remove 17 = .ok (.if_icmp .ge 24, 3) := by decide +kernel
theorem dX5_remove_20 : decode cX5_remove 20 = .ok (.aload_n 0, 1) := by decide +kernel
theorem dX5_remove_21 : decode cX5_remove 21 = .ok (.getfield 14, 3) := by decide +kernel
theorem dX5_remove_24 : decode cX5_remove 24 = .ok (.iload_n 2, 1) := by decide +kernel
theorem dX5_remove_25 : decode cX5_remove 25 = .ok (.aload_n 0, 1) := by decide +kernel
theorem dX5_remove_26 : decode cX5_remove 26 = .ok (.iload_n 2, 1) := by decide +kernel
theorem dX5_remove_27 : decode cX5_remove 27 = .ok (.iconst 1, 1) := by decide +kernel
theorem dX5_remove_28 : decode cX5_remove 28 = .ok (.iadd, 1) := by decide +kernel
theorem dX5_remove_29 : decode cX5_remove 29 = .ok (.invokevirtual 34, 3) := by decide +kernel
theorem dX5_remove_32 : decode cX5_remove 32 = .ok (.invokevirtual 44, 3) := by decide +kernel
theorem dX5_remove_35 : decode cX5_remove 35 = .ok (.iinc 2 1, 3) := by decide +kernel
theorem dX5_remove_38 : decode cX5_remove 38 = .ok (.goto (-26), 3) := by decide +kernel
theorem dX5_remove_41 : decode cX5_remove 41 = .ok (.return_, 1) := by decide +kernel
set_option maxHeartbeats 4000000 in
set_option maxRecDepth 100000 in
theorem l_X5_remove_12 (l : Launch) (D : va_G) (cA : ClassId) (a_this a_this_numbers a_this_numbers_cells : Nat) (v_length : Int32) (v_blockSize : Int32) (v_ones : Int32) (out : Int32 × Ar) {p : Program} {e : Env} {s : State} {m : MethodId} {args : Array Value} {below : List Frame} {meth : Method} {c : Code} {A : Nat → Prop} (X : zX D cA p s m args meth c cX5_remove 3 RX5 none) (k : Ar → Option (Int32 × Ar)) (hk : ∀ (g_numbers_cells : Ar) (H : Heap) (locs : List Loc) (ls : Array Slot), zH D A s (zw_1 cA 0 a_this a_this_numbers a_this_numbers_cells v_length v_blockSize v_ones g_numbers_cells) H locs → lv_has ls 3 [] → k g_numbers_cells = some out → W p l e (zR 2 42) s m args below meth c H locs 0 0 (MQ below (zQ D (zw_1 cA 0 a_this a_this_numbers a_this_numbers_cells out.1 v_blockSize v_ones out.2) none A) args s 0 0 A) (F0 m 41 ls [])) :
    ∀ (fuel : Nat) (g_numbers_cells : Ar) (i2 : Int32) (H : Heap) (locs : List Loc) (ls : Array Slot), zH D A s (zw_1 cA 0 a_this a_this_numbers a_this_numbers_cells v_length v_blockSize v_ones g_numbers_cells) H locs → lv_has ls 3 [(0, .ref a_this), (2, .int i2)] → F_X5_remove_L12 v_length k fuel g_numbers_cells i2 = some out → W p l e (zR 2 42) s m args below meth c H locs 0 0 (MQ below (zQ D (zw_1 cA 0 a_this a_this_numbers a_this_numbers_cells out.1 v_blockSize v_ones out.2) none A) args s 0 0 A) (F0 m 12 ls []) := by
  intro fuel
  induction fuel with
  | zero => intro g_numbers_cells i2 H locs ls hw hl hF; exact nomatch (show (none : Option (Int32 × Ar)) = some out from hF)
  | succ fuel ih =>
    intro g_numbers_cells i2 H locs ls hw hl hF
    rw [F_X5_remove_L12] at hF
    refine z_iload_n 12 X dX5_remove_12 hl 1 rfl ?_
    refine z_aload_n 13 X dX5_remove_13 hl 0 rfl ?_
    refine z_get 14 zc5 0 1 fl_5_20 X dX5_remove_14 hw rfl (by decide) rfl ?_
    refine z_icmp_ge 17 41 X dX5_remove_17 (by decide) (fun c1 => ?_) (fun c1 => ?_)
    · replace hF := zpos c1 hF
      exact hk g_numbers_cells H locs ls hw (lv_sub hl [] rfl) hF
    · replace hF := zneg c1 hF
      refine z_aload_n 20 X dX5_remove_20 hl 0 rfl ?_
      refine z_get 21 zc5 0 0 fl_5_14 X dX5_remove_21 hw rfl (by decide) rfl ?_
      refine z_iload_n 24 X dX5_remove_24 hl 1 rfl ?_
      refine z_aload_n 25 X dX5_remove_25 hl 0 rfl ?_
      refine z_iload_n 26 X dX5_remove_26 hl 1 rfl ?_
      refine z_iconst 27 1 X dX5_remove_27 (by decide) ?_
      refine z_iadd 28 X dX5_remove_28 ?_
      obtain ⟨u2, e3, hF⟩ := zbd hF
      refine z_callV 29 zc5 mv_X5_number ml_5_34 0 [.int i2, .ref a_this_numbers] (zk_5 cA 0 a_this a_this_numbers a_this_numbers_cells v_length v_blockSize v_ones g_numbers_cells) (m_X5_number l D cA a_this a_this_numbers a_this_numbers_cells v_length v_blockSize v_ones g_numbers_cells (i2 + 1) u2 e3) X dX5_remove_29 hw hl rfl rfl rfl (Nat.le_of_ble_eq_true rfl) ⟨Nat.le_of_ble_eq_true rfl, Nat.le_of_ble_eq_true rfl⟩ ⟨Nat.zero_le _, Nat.zero_le _⟩ (fun H locs hw => ?_)
      obtain ⟨u4, e5, hF⟩ := zbd hF
      refine z_callV 32 zc0 mv_X0_write ml_5_44 1 [] (zk_31 cA 0 a_this a_this_numbers a_this_numbers_cells v_length v_blockSize v_ones g_numbers_cells u4) (m_X0_write l D cA 64 a_this_numbers a_this_numbers_cells g_numbers_cells i2 u2 u4 e5) X dX5_remove_32 hw hl rfl rfl rfl (Nat.le_of_ble_eq_true rfl) ⟨Nat.le_of_ble_eq_true rfl, Nat.le_of_ble_eq_true rfl⟩ ⟨Nat.zero_le _, Nat.zero_le _⟩ (fun H locs hw => ?_)
      refine z_iinc2 35 1 [(2, .int (i2 + 1)), (0, .ref a_this)] X dX5_remove_35 hl 1 rfl (by decide) (by decide) rfl (fun ls hl => ?_)
      refine z_goto 38 12 X dX5_remove_38 (by decide) ?_
      exact ih u4 (i2 + 1) H locs ls hw (lv_sub hl [1, 0] rfl) hF
set_option maxHeartbeats 4000000 in
set_option maxRecDepth 100000 in
theorem m_X5_remove (l : Launch) (D : va_G) (cA : ClassId) (a_this a_this_numbers a_this_numbers_cells : Nat) (v_length : Int32) (v_blockSize : Int32) (v_ones : Int32) (g_numbers_cells : Ar) (i1 : Int32) (out : Int32 × Ar) (hF : F_X5_remove v_length g_numbers_cells i1 = some out) : zM l D cA yX5_remove cX5_remove 3 none 2 42 [.ref a_this, .int i1] (zw_1 cA 0 a_this a_this_numbers a_this_numbers_cells v_length v_blockSize v_ones g_numbers_cells) (zw_1 cA 0 a_this a_this_numbers a_this_numbers_cells out.1 v_blockSize v_ones out.2) none := by
  refine z_body (by decide) (Nat.le_of_ble_eq_true rfl) ?_
  intro p e s m args below meth c ls H locs A X hl hw
  have hl : lv_has ls 3 [(0, .ref a_this), (1, .int i1)] := hl
  unfold F_X5_remove at hF
  refine z_aload_n 0 X dX5_remove_0 hl 0 rfl ?_
  refine z_dup 1 X dX5_remove_1 rfl ?_
  refine z_get 2 zc5 0 1 fl_5_20 X dX5_remove_2 hw rfl (by decide) rfl ?_
  refine z_iconst 5 1 X dX5_remove_5 (by decide) ?_
  refine z_isub 6 X dX5_remove_6 ?_
  refine z_put 7 zc5 0 1 (zw_1 cA 0 a_this a_this_numbers a_this_numbers_cells (v_length - 1) v_blockSize v_ones g_numbers_cells) fl_5_20 X dX5_remove_7 hw rfl (by decide) rfl rfl rfl (Nat.le_of_ble_eq_true rfl) rfl (fun H locs hw => ?_)
  refine z_iload_n 10 X dX5_remove_10 hl 1 rfl ?_
  refine z_istore_n 11 [(2, .int i1), (0, .ref a_this), (1, .int i1)] X dX5_remove_11 hl (by decide) rfl (fun ls hl => ?_)
  refine l_X5_remove_12 l D cA a_this a_this_numbers a_this_numbers_cells (v_length - 1) v_blockSize v_ones out X _ (fun g_numbers_cells_6 H locs ls hw hl hF => ?_) zFuel g_numbers_cells i1 H locs ls hw (lv_sub hl [1, 0] rfl) hF
  cases hF
  exact z_vret 41 X dX5_remove_41 hw rfl rfl
theorem dX5_raiseFrom_0 : decode cX5_raiseFrom 0 = .ok (.iload_n 1, 1) := by decide +kernel
theorem dX5_raiseFrom_1 : decode cX5_raiseFrom 1 = .ok (.istore_n 3, 1) := by decide +kernel
theorem dX5_raiseFrom_2 : decode cX5_raiseFrom 2 = .ok (.iload_n 3, 1) := by decide +kernel
theorem dX5_raiseFrom_3 : decode cX5_raiseFrom 3 = .ok (.aload_n 0, 1) := by decide +kernel
theorem dX5_raiseFrom_4 : decode cX5_raiseFrom 4 = .ok (.getfield 20, 3) := by decide +kernel
theorem dX5_raiseFrom_7 : decode cX5_raiseFrom 7 = .ok (.if_icmp .ge 24, 3) := by decide +kernel
theorem dX5_raiseFrom_10 : decode cX5_raiseFrom 10 = .ok (.aload_n 0, 1) := by decide +kernel
theorem dX5_raiseFrom_11 : decode cX5_raiseFrom 11 = .ok (.getfield 14, 3) := by decide +kernel
theorem dX5_raiseFrom_14 : decode cX5_raiseFrom 14 = .ok (.iload_n 3, 1) := by decide +kernel
theorem dX5_raiseFrom_15 : decode cX5_raiseFrom 15 = .ok (.aload_n 0, 1) := by decide +kernel
theorem dX5_raiseFrom_16 : decode cX5_raiseFrom 16 = .ok (.iload_n 3, 1) := by decide +kernel
theorem dX5_raiseFrom_17 : decode cX5_raiseFrom 17 = .ok (.invokevirtual 34, 3) := by decide +kernel
theorem dX5_raiseFrom_20 : decode cX5_raiseFrom 20 = .ok (.iload_n 2, 1) := by decide +kernel
theorem dX5_raiseFrom_21 : decode cX5_raiseFrom 21 = .ok (.iadd, 1) := by decide +kernel
theorem dX5_raiseFrom_22 : decode cX5_raiseFrom 22 = .ok (.invokevirtual 44, 3) := by decide +kernel
theorem dX5_raiseFrom_25 : decode cX5_raiseFrom 25 = .ok (.iinc 3 1, 3) := by decide +kernel
theorem dX5_raiseFrom_28 : decode cX5_raiseFrom 28 = .ok (.goto (-26), 3) := by decide +kernel
theorem dX5_raiseFrom_31 : decode cX5_raiseFrom 31 = .ok (.return_, 1) := by decide +kernel
set_option maxHeartbeats 4000000 in
set_option maxRecDepth 100000 in
theorem l_X5_raiseFrom_2 (l : Launch) (D : va_G) (cA : ClassId) (a_this a_this_numbers a_this_numbers_cells : Nat) (v_length : Int32) (v_blockSize : Int32) (v_ones : Int32) (i2 : Int32) (out : Ar) {p : Program} {e : Env} {s : State} {m : MethodId} {args : Array Value} {below : List Frame} {meth : Method} {c : Code} {A : Nat → Prop} (X : zX D cA p s m args meth c cX5_raiseFrom 4 RX5 none) (k : Ar → Option (Ar)) (hk : ∀ (g_numbers_cells : Ar) (H : Heap) (locs : List Loc) (ls : Array Slot), zH D A s (zw_1 cA 0 a_this a_this_numbers a_this_numbers_cells v_length v_blockSize v_ones g_numbers_cells) H locs → lv_has ls 4 [] → k g_numbers_cells = some out → W p l e (zR 2 42) s m args below meth c H locs 0 0 (MQ below (zQ D (zw_1 cA 0 a_this a_this_numbers a_this_numbers_cells v_length v_blockSize v_ones out) none A) args s 0 0 A) (F0 m 31 ls [])) :
    ∀ (fuel : Nat) (g_numbers_cells : Ar) (i3 : Int32) (H : Heap) (locs : List Loc) (ls : Array Slot), zH D A s (zw_1 cA 0 a_this a_this_numbers a_this_numbers_cells v_length v_blockSize v_ones g_numbers_cells) H locs → lv_has ls 4 [(0, .ref a_this), (2, .int i2), (3, .int i3)] → F_X5_raiseFrom_L2 v_length i2 k fuel g_numbers_cells i3 = some out → W p l e (zR 2 42) s m args below meth c H locs 0 0 (MQ below (zQ D (zw_1 cA 0 a_this a_this_numbers a_this_numbers_cells v_length v_blockSize v_ones out) none A) args s 0 0 A) (F0 m 2 ls []) := by
  intro fuel
  induction fuel with
  | zero => intro g_numbers_cells i3 H locs ls hw hl hF; exact nomatch (show (none : Option (Ar)) = some out from hF)
  | succ fuel ih =>
    intro g_numbers_cells i3 H locs ls hw hl hF
    rw [F_X5_raiseFrom_L2] at hF
    refine z_iload_n 2 X dX5_raiseFrom_2 hl 2 rfl ?_
    refine z_aload_n 3 X dX5_raiseFrom_3 hl 0 rfl ?_
    refine z_get 4 zc5 0 1 fl_5_20 X dX5_raiseFrom_4 hw rfl (by decide) rfl ?_
    refine z_icmp_ge 7 31 X dX5_raiseFrom_7 (by decide) (fun c1 => ?_) (fun c1 => ?_)
    · replace hF := zpos c1 hF
      exact hk g_numbers_cells H locs ls hw (lv_sub hl [] rfl) hF
    · replace hF := zneg c1 hF
      refine z_aload_n 10 X dX5_raiseFrom_10 hl 0 rfl ?_
      refine z_get 11 zc5 0 0 fl_5_14 X dX5_raiseFrom_11 hw rfl (by decide) rfl ?_
      refine z_iload_n 14 X dX5_raiseFrom_14 hl 2 rfl ?_
      refine z_aload_n 15 X dX5_raiseFrom_15 hl 0 rfl ?_
      refine z_iload_n 16 X dX5_raiseFrom_16 hl 2 rfl ?_
      obtain ⟨u2, e3, hF⟩ := zbd hF
      refine z_callV 17 zc5 mv_X5_number ml_5_34 0 [.int i3, .ref a_this_numbers] (zk_5 cA 0 a_this a_this_numbers a_this_numbers_cells v_length v_blockSize v_ones g_numbers_cells) (m_X5_number l D cA a_this a_this_numbers a_this_numbers_cells v_length v_blockSize v_ones g_numbers_cells i3 u2 e3) X dX5_raiseFrom_17 hw hl rfl rfl rfl (Nat.le_of_ble_eq_true rfl) ⟨Nat.le_of_ble_eq_true rfl, Nat.le_of_ble_eq_true rfl⟩ ⟨Nat.zero_le _, Nat.zero_le _⟩ (fun H locs hw => ?_)
      refine z_iload_n 20 X dX5_raiseFrom_20 hl 1 rfl ?_
      refine z_iadd 21 X dX5_raiseFrom_21 ?_
      obtain ⟨u4, e5, hF⟩ := zbd hF
      refine z_callV 22 zc0 mv_X0_write ml_5_44 1 [] (zk_31 cA 0 a_this a_this_numbers a_this_numbers_cells v_length v_blockSize v_ones g_numbers_cells u4) (m_X0_write l D cA 64 a_this_numbers a_this_numbers_cells g_numbers_cells i3 (u2 + i2) u4 e5) X dX5_raiseFrom_22 hw hl rfl rfl rfl (Nat.le_of_ble_eq_true rfl) ⟨Nat.le_of_ble_eq_true rfl, Nat.le_of_ble_eq_true rfl⟩ ⟨Nat.zero_le _, Nat.zero_le _⟩ (fun H locs hw => ?_)
      refine z_iinc2 25 1 [(3, .int (i3 + 1)), (0, .ref a_this), (2, .int i2)] X dX5_raiseFrom_25 hl 2 rfl (by decide) (by decide) rfl (fun ls hl => ?_)
      refine z_goto 28 2 X dX5_raiseFrom_28 (by decide) ?_
      exact ih u4 (i3 + 1) H locs ls hw (lv_sub hl [1, 2, 0] rfl) hF
set_option maxHeartbeats 4000000 in
set_option maxRecDepth 100000 in
theorem m_X5_raiseFrom (l : Launch) (D : va_G) (cA : ClassId) (a_this a_this_numbers a_this_numbers_cells : Nat) (v_length : Int32) (v_blockSize : Int32) (v_ones : Int32) (g_numbers_cells : Ar) (i1 : Int32) (i2 : Int32) (out : Ar) (hF : F_X5_raiseFrom v_length g_numbers_cells i1 i2 = some out) : zM l D cA yX5_raiseFrom cX5_raiseFrom 4 none 2 42 [.ref a_this, .int i1, .int i2] (zw_1 cA 0 a_this a_this_numbers a_this_numbers_cells v_length v_blockSize v_ones g_numbers_cells) (zw_1 cA 0 a_this a_this_numbers a_this_numbers_cells v_length v_blockSize v_ones out) none := by
  refine z_body (by decide) (Nat.le_of_ble_eq_true rfl) ?_
  intro p e s m args below meth c ls H locs A X hl hw
  have hl : lv_has ls 4 [(0, .ref a_this), (1, .int i1), (2, .int i2)] := hl
  unfold F_X5_raiseFrom at hF
  refine z_iload_n 0 X dX5_raiseFrom_0 hl 1 rfl ?_
  refine z_istore_n 1 [(3, .int i1), (0, .ref a_this), (1, .int i1), (2, .int i2)] X dX5_raiseFrom_1 hl (by decide) rfl (fun ls hl => ?_)
  refine l_X5_raiseFrom_2 l D cA a_this a_this_numbers a_this_numbers_cells v_length v_blockSize v_ones i2 out X _ (fun g_numbers_cells_6 H locs ls hw hl hF => ?_) zFuel g_numbers_cells i1 H locs ls hw (lv_sub hl [1, 3, 0] rfl) hF
  cases hF
  exact z_vret 31 X dX5_raiseFrom_31 hw rfl rfl
theorem dX5_hasBlock_0 : decode cX5_hasBlock 0 = .ok (.iload_n 1, 1) := by decide +kernel
theorem dX5_hasBlock_1 : decode cX5_hasBlock 1 = .ok (.ifCond .lt 15, 3) := by decide +kernel
theorem dX5_hasBlock_4 : decode cX5_hasBlock 4 = .ok (.iload_n 1, 1) := by decide +kernel
theorem dX5_hasBlock_5 : decode cX5_hasBlock 5 = .ok (.aload_n 0, 1) := by decide +kernel
theorem dX5_hasBlock_6 : decode cX5_hasBlock 6 = .ok (.invokevirtual 51, 3) := by decide +kernel
theorem dX5_hasBlock_9 : decode cX5_hasBlock 9 = .ok (.if_icmp .ge 7, 3) := by decide +kernel
theorem dX5_hasBlock_12 : decode cX5_hasBlock 12 = .ok (.iconst 1, 1) := by decide +kernel
theorem dX5_hasBlock_13 : decode cX5_hasBlock 13 = .ok (.goto 4, 3) := by decide +kernel
theorem dX5_hasBlock_16 : decode cX5_hasBlock 16 = .ok (.iconst 0, 1) := by decide +kernel
theorem dX5_hasBlock_17 : decode cX5_hasBlock 17 = .ok (.ireturn, 1) := by decide +kernel
set_option maxHeartbeats 4000000 in
set_option maxRecDepth 100000 in
theorem m_X5_hasBlock (l : Launch) (D : va_G) (cA : ClassId) (a_this a_this_numbers : Nat) (v_length : Int32) (v_blockSize : Int32) (v_ones : Int32) (i1 : Int32) (out : Int32) (hF : F_X5_hasBlock v_length v_blockSize i1 = some out) : zM l D cA yX5_hasBlock cX5_hasBlock 2 (some .boolean) 2 41 [.ref a_this, .int i1] (zw_8 cA 0 a_this a_this_numbers v_length v_blockSize v_ones) (zw_8 cA 0 a_this a_this_numbers v_length v_blockSize v_ones) (some (.int out)) := by
  refine z_body (by decide) (Nat.le_of_ble_eq_true rfl) ?_
  intro p e s m args below meth c ls H locs A X hl hw
  have hl : lv_has ls 2 [(0, .ref a_this), (1, .int i1)] := hl
  unfold F_X5_hasBlock at hF
  refine z_iload_n 0 X dX5_hasBlock_0 hl 1 rfl ?_
  refine z_if_lt 1 16 X dX5_hasBlock_1 (by decide) (fun c1 => ?_) (fun c1 => ?_)
  · replace hF := zpos c1 hF
    refine z_iconst 16 0 X dX5_hasBlock_16 (by decide) ?_
    cases hF
    exact z_zret 17 X dX5_hasBlock_17 hw (by decide) rfl rfl
  · replace hF := zneg c1 hF
    refine z_iload_n 4 X dX5_hasBlock_4 hl 1 rfl ?_
    refine z_aload_n 5 X dX5_hasBlock_5 hl 0 rfl ?_
    obtain ⟨u2, e3, hF⟩ := zbd hF
    refine z_callV 6 zc5 mv_X5_blocks ml_5_51 0 [.int i1] (zk_11 cA 0 a_this a_this_numbers v_length v_blockSize v_ones) (m_X5_blocks l D cA a_this a_this_numbers v_length v_blockSize v_ones u2 e3) X dX5_hasBlock_6 hw hl rfl rfl rfl (Nat.le_of_ble_eq_true rfl) ⟨Nat.le_of_ble_eq_true rfl, Nat.le_of_ble_eq_true rfl⟩ ⟨Nat.zero_le _, Nat.zero_le _⟩ (fun H locs hw => ?_)
    refine z_icmp_ge 9 16 X dX5_hasBlock_9 (by decide) (fun c4 => ?_) (fun c4 => ?_)
    · replace hF := zpos c4 hF
      refine z_iconst 16 0 X dX5_hasBlock_16 (by decide) ?_
      cases hF
      exact z_zret 17 X dX5_hasBlock_17 hw (by decide) rfl rfl
    · replace hF := zneg c4 hF
      refine z_iconst 12 1 X dX5_hasBlock_12 (by decide) ?_
      refine z_goto 13 17 X dX5_hasBlock_13 (by decide) ?_
      cases hF
      exact z_zret 17 X dX5_hasBlock_17 hw (by decide) rfl rfl
theorem dX5_blockAround_0 : decode cX5_blockAround 0 = .ok (.aload_n 0, 1) := by decide +kernel
theorem dX5_blockAround_1 : decode cX5_blockAround 1 = .ok (.invokevirtual 51, 3) := by decide +kernel
theorem dX5_blockAround_4 : decode cX5_blockAround 4 = .ok (.iconst 1, 1) := by decide +kernel
theorem dX5_blockAround_5 : decode cX5_blockAround 5 = .ok (.isub, 1) := by decide +kernel
theorem dX5_blockAround_6 : decode cX5_blockAround 6 = .ok (.istore_n 2, 1) := by decide +kernel
theorem dX5_blockAround_7 : decode cX5_blockAround 7 = .ok (.iload_n 2, 1) := by decide +kernel
theorem dX5_blockAround_8 : decode cX5_blockAround 8 = .ok (.ifCond .lt 24, 3) := by decide +kernel
theorem dX5_blockAround_11 : decode cX5_blockAround 11 = .ok (.aload_n 0, 1) := by decide +kernel
theorem dX5_blockAround_12 : decode cX5_blockAround 12 = .ok (.aload_n 0, 1) := by decide +kernel
theorem dX5_blockAround_13 : decode cX5_blockAround 13 = .ok (.iload_n 2, 1) := by decide +kernel
theorem dX5_blockAround_14 : decode cX5_blockAround 14 = .ok (.invokevirtual 55, 3) := by decide +kernel
theorem dX5_blockAround_17 : decode cX5_blockAround 17 = .ok (.invokevirtual 37, 3) := by decide +kernel
theorem dX5_blockAround_20 : decode cX5_blockAround 20 = .ok (.iload_n 1, 1) := by decide +kernel
theorem dX5_blockAround_21 : decode cX5_blockAround 21 = .ok (.if_icmp .ge 5, 3) := by decide +kernel
theorem dX5_blockAround_24 : decode cX5_blockAround 24 = .ok (.iload_n 2, 1) := by decide +kernel
theorem dX5_blockAround_25 : decode cX5_blockAround 25 = .ok (.ireturn, 1) := by decide +kernel
theorem dX5_blockAround_26 : decode cX5_blockAround 26 = .ok (.iinc 2 (-1), 3) := by decide +kernel
theorem dX5_blockAround_29 : decode cX5_blockAround 29 = .ok (.goto (-22), 3) := by decide +kernel
theorem dX5_blockAround_32 : decode cX5_blockAround 32 = .ok (.bipush (-6), 2) := by decide +kernel
theorem dX5_blockAround_34 : decode cX5_blockAround 34 = .ok (.ireturn, 1) := by decide +kernel
set_option maxHeartbeats 4000000 in
set_option maxRecDepth 100000 in
theorem l_X5_blockAround_7 (l : Launch) (D : va_G) (cA : ClassId) (a_this a_this_numbers a_this_numbers_cells : Nat) (v_length : Int32) (v_blockSize : Int32) (v_ones : Int32) (g_numbers_cells : Ar) (i1 : Int32) (out : Int32) {p : Program} {e : Env} {s : State} {m : MethodId} {args : Array Value} {below : List Frame} {meth : Method} {c : Code} {A : Nat → Prop} (X : zX D cA p s m args meth c cX5_blockAround 3 RX5 (some .int)) (k : Unit → Option (Int32)) (hk : ∀ (H : Heap) (locs : List Loc) (ls : Array Slot), zH D A s (zw_1 cA 0 a_this a_this_numbers a_this_numbers_cells v_length v_blockSize v_ones g_numbers_cells) H locs → lv_has ls 3 [] → k () = some out → W p l e (zR 2 42) s m args below meth c H locs 0 0 (MQ below (zQ D (zw_1 cA 0 a_this a_this_numbers a_this_numbers_cells v_length v_blockSize v_ones g_numbers_cells) (some (.int out)) A) args s 0 0 A) (F0 m 32 ls [])) :
    ∀ (fuel : Nat) (i2 : Int32) (H : Heap) (locs : List Loc) (ls : Array Slot), zH D A s (zw_1 cA 0 a_this a_this_numbers a_this_numbers_cells v_length v_blockSize v_ones g_numbers_cells) H locs → lv_has ls 3 [(0, .ref a_this), (1, .int i1), (2, .int i2)] → F_X5_blockAround_L7 v_blockSize g_numbers_cells i1 k fuel i2 = some out → W p l e (zR 2 42) s m args below meth c H locs 0 0 (MQ below (zQ D (zw_1 cA 0 a_this a_this_numbers a_this_numbers_cells v_length v_blockSize v_ones g_numbers_cells) (some (.int out)) A) args s 0 0 A) (F0 m 7 ls []) := by
  intro fuel
  induction fuel with
  | zero => intro i2 H locs ls hw hl hF; exact nomatch (show (none : Option (Int32)) = some out from hF)
  | succ fuel ih =>
    intro i2 H locs ls hw hl hF
    rw [F_X5_blockAround_L7] at hF
    refine z_iload_n 7 X dX5_blockAround_7 hl 2 rfl ?_
    refine z_if_lt 8 32 X dX5_blockAround_8 (by decide) (fun c3 => ?_) (fun c3 => ?_)
    · replace hF := zpos c3 hF
      exact hk  H locs ls hw (lv_sub hl [] rfl) hF
    · replace hF := zneg c3 hF
      refine z_aload_n 11 X dX5_blockAround_11 hl 0 rfl ?_
      refine z_aload_n 12 X dX5_blockAround_12 hl 0 rfl ?_
      refine z_iload_n 13 X dX5_blockAround_13 hl 2 rfl ?_
      obtain ⟨u4, e5, hF⟩ := zbd hF
      refine z_callV 14 zc5 mv_X5_firstOf ml_5_55 0 [.ref a_this] (zk_30 cA 0 a_this a_this_numbers a_this_numbers_cells v_length v_blockSize v_ones g_numbers_cells) (m_X5_firstOf l D cA a_this a_this_numbers v_length v_blockSize v_ones i2 u4 e5) X dX5_blockAround_14 hw hl rfl rfl rfl (Nat.le_of_ble_eq_true rfl) ⟨Nat.le_of_ble_eq_true rfl, Nat.le_of_ble_eq_true rfl⟩ ⟨Nat.zero_le _, Nat.zero_le _⟩ (fun H locs hw => ?_)
      obtain ⟨u6, e7, hF⟩ := zbd hF
      refine z_callV 17 zc5 mv_X5_numberAhead ml_5_37 0 [] (zk_5 cA 0 a_this a_this_numbers a_this_numbers_cells v_length v_blockSize v_ones g_numbers_cells) (m_X5_numberAhead l D cA a_this a_this_numbers a_this_numbers_cells v_length v_blockSize v_ones g_numbers_cells u4 u6 e7) X dX5_blockAround_17 hw hl rfl rfl rfl (Nat.le_of_ble_eq_true rfl) ⟨Nat.le_of_ble_eq_true rfl, Nat.le_of_ble_eq_true rfl⟩ ⟨Nat.zero_le _, Nat.zero_le _⟩ (fun H locs hw => ?_)
      refine z_iload_n 20 X dX5_blockAround_20 hl 1 rfl ?_
      refine z_icmp_ge 21 26 X dX5_blockAround_21 (by decide) (fun c8 => ?_) (fun c8 => ?_)
      · replace hF := zpos c8 hF
        refine z_iinc2 26 (-1) [(2, .int (i2 + (-1))), (0, .ref a_this), (1, .int i1)] X dX5_blockAround_26 hl 2 rfl (by decide) (by decide) rfl (fun ls hl => ?_)
        refine z_goto 29 7 X dX5_blockAround_29 (by decide) ?_
        exact ih (i2 + (-1)) H locs ls hw (lv_sub hl [1, 2, 0] rfl) hF
      · replace hF := zneg c8 hF
        refine z_iload_n 24 X dX5_blockAround_24 hl 2 rfl ?_
        cases hF
        exact z_iret 25 X dX5_blockAround_25 hw rfl rfl
set_option maxHeartbeats 4000000 in
set_option maxRecDepth 100000 in
theorem m_X5_blockAround (l : Launch) (D : va_G) (cA : ClassId) (a_this a_this_numbers a_this_numbers_cells : Nat) (v_length : Int32) (v_blockSize : Int32) (v_ones : Int32) (g_numbers_cells : Ar) (i1 : Int32) (out : Int32) (hF : F_X5_blockAround v_length v_blockSize g_numbers_cells i1 = some out) : zM l D cA yX5_blockAround cX5_blockAround 3 (some .int) 2 42 [.ref a_this, .int i1] (zw_1 cA 0 a_this a_this_numbers a_this_numbers_cells v_length v_blockSize v_ones g_numbers_cells) (zw_1 cA 0 a_this a_this_numbers a_this_numbers_cells v_length v_blockSize v_ones g_numbers_cells) (some (.int out)) := by
  refine z_body (by decide) (Nat.le_of_ble_eq_true rfl) ?_
  intro p e s m args below meth c ls H locs A X hl hw
  have hl : lv_has ls 3 [(0, .ref a_this), (1, .int i1)] := hl
  unfold F_X5_blockAround at hF
  refine z_aload_n 0 X dX5_blockAround_0 hl 0 rfl ?_
  obtain ⟨u1, e2, hF⟩ := zbd hF
  refine z_callV 1 zc5 mv_X5_blocks ml_5_51 0 [] (zk_30 cA 0 a_this a_this_numbers a_this_numbers_cells v_length v_blockSize v_ones g_numbers_cells) (m_X5_blocks l D cA a_this a_this_numbers v_length v_blockSize v_ones u1 e2) X dX5_blockAround_1 hw hl rfl rfl rfl (Nat.le_of_ble_eq_true rfl) ⟨Nat.le_of_ble_eq_true rfl, Nat.le_of_ble_eq_true rfl⟩ ⟨Nat.zero_le _, Nat.zero_le _⟩ (fun H locs hw => ?_)
  refine z_iconst 4 1 X dX5_blockAround_4 (by decide) ?_
  refine z_isub 5 X dX5_blockAround_5 ?_
  refine z_istore_n 6 [(2, .int (u1 - 1)), (0, .ref a_this), (1, .int i1)] X dX5_blockAround_6 hl (by decide) rfl (fun ls hl => ?_)
  refine l_X5_blockAround_7 l D cA a_this a_this_numbers a_this_numbers_cells v_length v_blockSize v_ones g_numbers_cells i1 out X _ (fun  H locs ls hw hl hF => ?_) zFuel (u1 - 1) H locs ls hw (lv_sub hl [1, 2, 0] rfl) hF
  refine z_bipush 32 (-6) X dX5_blockAround_32 (by decide) ?_
  cases hF
  exact z_iret 34 X dX5_blockAround_34 hw rfl rfl
