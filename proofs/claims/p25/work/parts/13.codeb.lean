theorem dX7_readGap_0 : decode cX7_readGap 0 = .ok (.iconst 0, 1) := by decide +kernel
theorem dX7_readGap_1 : decode cX7_readGap 1 = .ok (.istore_n 2, 1) := by decide +kernel
theorem dX7_readGap_2 : decode cX7_readGap 2 = .ok (.iload_n 2, 1) := by decide +kernel
theorem dX7_readGap_3 : decode cX7_readGap 3 = .ok (.iload_n 1, 1) := by decide +kernel
theorem dX7_readGap_4 : decode cX7_readGap 4 = .ok (.if_icmp .ge 33, 3) := by decide +kernel
theorem dX7_readGap_7 : decode cX7_readGap 7 = .ok (.aload_n 0, 1) := by decide +kernel
theorem dX7_readGap_8 : decode cX7_readGap 8 = .ok (.iconst 1, 1) := by decide +kernel
theorem dX7_readGap_9 : decode cX7_readGap 9 = .ok (.invokevirtual 60, 3) := by decide +kernel
theorem dX7_readGap_12 : decode cX7_readGap 12 = .ok (.ifCond .ne 19, 3) := by decide +kernel
theorem dX7_readGap_15 : decode cX7_readGap 15 = .ok (.iload_n 2, 1) := by decide +kernel
theorem dX7_readGap_16 : decode cX7_readGap 16 = .ok (.aload_n 0, 1) := by decide +kernel
theorem dX7_readGap_17 : decode cX7_readGap 17 = .ok (.getfield 30, 3) := by decide +kernel
theorem dX7_readGap_20 : decode cX7_readGap 20 = .ok (.ishl, 1) := by decide +kernel
theorem dX7_readGap_21 : decode cX7_readGap 21 = .ok (.aload_n 0, 1) := by decide +kernel
theorem dX7_readGap_22 : decode cX7_readGap 22 = .ok (.aload_n 0, 1) := by decide +kernel
theorem dX7_readGap_23 : decode cX7_readGap 23 = .ok (.getfield 30, 3) := by decide +kernel
theorem dX7_readGap_26 : decode cX7_readGap 26 = .ok (.invokevirtual 60, 3) := by decide +kernel
theorem dX7_readGap_29 : decode cX7_readGap 29 = .ok (.iadd, 1) := by decide +kernel
theorem dX7_readGap_30 : decode cX7_readGap 30 = .ok (.ireturn, 1) := by decide +kernel
theorem dX7_readGap_31 : decode cX7_readGap 31 = .ok (.iinc 2 1, 3) := by decide +kernel
theorem dX7_readGap_34 : decode cX7_readGap 34 = .ok (.goto (-32), 3) := by decide +kernel
theorem dX7_readGap_37 : decode cX7_readGap 37 = .ok (.aload_n 0, 1) := by decide +kernel
theorem dX7_readGap_38 : decode cX7_readGap 38 = .ok (.bipush 16, 2) := by decide +kernel
theorem dX7_readGap_40 : decode cX7_readGap 40 = .ok (.invokevirtual 60, 3) := by decide +kernel
theorem dX7_readGap_43 : decode cX7_readGap 43 = .ok (.ireturn, 1) := by decide +kernel
set_option maxHeartbeats 4000000 in
set_option maxRecDepth 100000 in
theorem l_X7_readGap_2 (l : Launch) (D : va_G) (cA : ClassId) (a_this a_this_cells a_this_cells_cells : Nat) (v_length : Int32) (v_start : Int32) (v_exponent : Int32) (v_number : Int32) (g_cells_cells : Ar) (i1 : Int32) (out : Int32 × Int32) {p : Program} {e : Env} {s : State} {m : MethodId} {args : Array Value} {below : List Frame} {meth : Method} {c : Code} {A : Nat → Prop} (X : zX D cA p s m args meth c cX7_readGap 3 RX7 (some .int)) (k : Int32 → Option (Int32 × Int32)) (hk : ∀ (v_next : Int32) (H : Heap) (locs : List Loc) (ls : Array Slot), zH D A s (zw_10 cA 0 a_this a_this_cells a_this_cells_cells v_length v_start v_next v_exponent v_number g_cells_cells) H locs → lv_has ls 3 [(0, .ref a_this)] → k v_next = some out → W p l e (zR 3 65) s m args below meth c H locs 0 0 (MQ below (zQ D (zw_10 cA 0 a_this a_this_cells a_this_cells_cells v_length v_start out.2 v_exponent v_number g_cells_cells) (some (.int out.1)) A) args s 0 0 A) (F0 m 37 ls [])) :
    ∀ (fuel : Nat) (v_next : Int32) (i2 : Int32) (H : Heap) (locs : List Loc) (ls : Array Slot), zH D A s (zw_10 cA 0 a_this a_this_cells a_this_cells_cells v_length v_start v_next v_exponent v_number g_cells_cells) H locs → lv_has ls 3 [(0, .ref a_this), (1, .int i1), (2, .int i2)] → F_X7_readGap_L2 v_length v_exponent g_cells_cells i1 k fuel v_next i2 = some out → W p l e (zR 3 65) s m args below meth c H locs 0 0 (MQ below (zQ D (zw_10 cA 0 a_this a_this_cells a_this_cells_cells v_length v_start out.2 v_exponent v_number g_cells_cells) (some (.int out.1)) A) args s 0 0 A) (F0 m 2 ls []) := by
  intro fuel
  induction fuel with
  | zero => intro v_next i2 H locs ls hw hl hF; exact nomatch (show (none : Option (Int32 × Int32)) = some out from hF)
  | succ fuel ih =>
    intro v_next i2 H locs ls hw hl hF
    rw [F_X7_readGap_L2] at hF
    refine z_iload_n 2 X dX7_readGap_2 hl 2 rfl ?_
    refine z_iload_n 3 X dX7_readGap_3 hl 1 rfl ?_
    refine z_icmp_ge 4 37 X dX7_readGap_4 (by decide) (fun c1 => ?_) (fun c1 => ?_)
    · replace hF := zpos c1 hF
      exact hk v_next H locs ls hw (lv_sub hl [0] rfl) hF
    · replace hF := zneg c1 hF
      refine z_aload_n 7 X dX7_readGap_7 hl 0 rfl ?_
      refine z_iconst 8 1 X dX7_readGap_8 (by decide) ?_
      obtain ⟨u2, e3, hF⟩ := zbd hF
      refine z_callV 9 zc7 mv_X7_readBits ml_7_60 0 [] (zk_64 cA 0 a_this a_this_cells a_this_cells_cells v_length v_start v_next v_exponent v_number g_cells_cells u2.2) (m_X7_readBits l D cA a_this a_this_cells a_this_cells_cells v_length v_start v_next v_exponent v_number g_cells_cells 1 u2 e3) X dX7_readGap_9 hw hl rfl rfl rfl (Nat.le_of_ble_eq_true rfl) ⟨Nat.le_of_ble_eq_true rfl, Nat.le_of_ble_eq_true rfl⟩ ⟨Nat.zero_le _, Nat.zero_le _⟩ (fun H locs hw => ?_)
      refine z_if_ne 12 31 X dX7_readGap_12 (by decide) (fun c4 => ?_) (fun c4 => ?_)
      · replace hF := zneg c4 hF
        refine z_iinc2 31 1 [(2, .int (i2 + 1)), (0, .ref a_this), (1, .int i1)] X dX7_readGap_31 hl 2 rfl (by decide) (by decide) rfl (fun ls hl => ?_)
        refine z_goto 34 2 X dX7_readGap_34 (by decide) ?_
        exact ih u2.2 (i2 + 1) H locs ls hw (lv_sub hl [1, 2, 0] rfl) hF
      · replace hF := zpos c4 hF
        refine z_iload_n 15 X dX7_readGap_15 hl 2 rfl ?_
        refine z_aload_n 16 X dX7_readGap_16 hl 0 rfl ?_
        refine z_get 17 zc7 0 4 fl_7_30 X dX7_readGap_17 hw rfl (by decide) rfl ?_
        refine z_ishl 20 X dX7_readGap_20 ?_
        refine z_aload_n 21 X dX7_readGap_21 hl 0 rfl ?_
        refine z_aload_n 22 X dX7_readGap_22 hl 0 rfl ?_
        refine z_get 23 zc7 0 4 fl_7_30 X dX7_readGap_23 hw rfl (by decide) rfl ?_
        obtain ⟨u5, e6, hF⟩ := zbd hF
        refine z_callV 26 zc7 mv_X7_readBits ml_7_60 0 [.int (i2 <<< (v_exponent &&& 31))] (zk_64 cA 0 a_this a_this_cells a_this_cells_cells v_length v_start u2.2 v_exponent v_number g_cells_cells u5.2) (m_X7_readBits l D cA a_this a_this_cells a_this_cells_cells v_length v_start u2.2 v_exponent v_number g_cells_cells v_exponent u5 e6) X dX7_readGap_26 hw hl rfl rfl rfl (Nat.le_of_ble_eq_true rfl) ⟨Nat.le_of_ble_eq_true rfl, Nat.le_of_ble_eq_true rfl⟩ ⟨Nat.zero_le _, Nat.zero_le _⟩ (fun H locs hw => ?_)
        refine z_iadd 29 X dX7_readGap_29 ?_
        cases hF
        exact z_iret 30 X dX7_readGap_30 hw rfl rfl
set_option maxHeartbeats 4000000 in
set_option maxRecDepth 100000 in
theorem m_X7_readGap (l : Launch) (D : va_G) (cA : ClassId) (a_this a_this_cells a_this_cells_cells : Nat) (v_length : Int32) (v_start : Int32) (v_next : Int32) (v_exponent : Int32) (v_number : Int32) (g_cells_cells : Ar) (i1 : Int32) (out : Int32 × Int32) (hF : F_X7_readGap v_length v_next v_exponent g_cells_cells i1 = some out) : zM l D cA yX7_readGap cX7_readGap 3 (some .int) 3 65 [.ref a_this, .int i1] (zw_10 cA 0 a_this a_this_cells a_this_cells_cells v_length v_start v_next v_exponent v_number g_cells_cells) (zw_10 cA 0 a_this a_this_cells a_this_cells_cells v_length v_start out.2 v_exponent v_number g_cells_cells) (some (.int out.1)) := by
  refine z_body (by decide) (Nat.le_of_ble_eq_true rfl) ?_
  intro p e s m args below meth c ls H locs A X hl hw
  have hl : lv_has ls 3 [(0, .ref a_this), (1, .int i1)] := hl
  unfold F_X7_readGap at hF
  refine z_iconst 0 0 X dX7_readGap_0 (by decide) ?_
  refine z_istore_n 1 [(2, .int 0), (0, .ref a_this), (1, .int i1)] X dX7_readGap_1 hl (by decide) rfl (fun ls hl => ?_)
  refine l_X7_readGap_2 l D cA a_this a_this_cells a_this_cells_cells v_length v_start v_exponent v_number g_cells_cells i1 out X _ (fun v_next_7 H locs ls hw hl hF => ?_) zFuel v_next 0 H locs ls hw (lv_sub hl [1, 2, 0] rfl) hF
  refine z_aload_n 37 X dX7_readGap_37 hl 0 rfl ?_
  refine z_bipush 38 16 X dX7_readGap_38 (by decide) ?_
  obtain ⟨u8, e9, hF⟩ := zbd hF
  refine z_callV 40 zc7 mv_X7_readBits ml_7_60 0 [] (zk_64 cA 0 a_this a_this_cells a_this_cells_cells v_length v_start v_next_7 v_exponent v_number g_cells_cells u8.2) (m_X7_readBits l D cA a_this a_this_cells a_this_cells_cells v_length v_start v_next_7 v_exponent v_number g_cells_cells 16 u8 e9) X dX7_readGap_40 hw hl rfl rfl rfl (Nat.le_of_ble_eq_true rfl) ⟨Nat.le_of_ble_eq_true rfl, Nat.le_of_ble_eq_true rfl⟩ ⟨Nat.zero_le _, Nat.zero_le _⟩ (fun H locs hw => ?_)
  cases hF
  exact z_iret 43 X dX7_readGap_43 hw rfl rfl
theorem dX7_readNumber_0 : decode cX7_readNumber 0 = .ok (.aload_n 0, 1) := by decide +kernel
theorem dX7_readNumber_1 : decode cX7_readNumber 1 = .ok (.dup, 1) := by decide +kernel
theorem dX7_readNumber_2 : decode cX7_readNumber 2 = .ok (.getfield 33, 3) := by decide +kernel
theorem dX7_readNumber_5 : decode cX7_readNumber 5 = .ok (.aload_n 0, 1) := by decide +kernel
theorem dX7_readNumber_6 : decode cX7_readNumber 6 = .ok (.iload_n 1, 1) := by decide +kernel
theorem dX7_readNumber_7 : decode cX7_readNumber 7 = .ok (.invokevirtual 63, 3) := by decide +kernel
theorem dX7_readNumber_10 : decode cX7_readNumber 10 = .ok (.iconst 1, 1) := by decide +kernel
theorem dX7_readNumber_11 : decode cX7_readNumber 11 = .ok (.iadd, 1) := by decide +kernel
theorem dX7_readNumber_12 : decode cX7_readNumber 12 = .ok (.iadd, 1) := by decide +kernel
theorem dX7_readNumber_13 : decode cX7_readNumber 13 = .ok (.putfield 33, 3) := by decide +kernel
theorem dX7_readNumber_16 : decode cX7_readNumber 16 = .ok (.return_, 1) := by decide +kernel
set_option maxHeartbeats 4000000 in
set_option maxRecDepth 100000 in
theorem m_X7_readNumber (l : Launch) (D : va_G) (cA : ClassId) (a_this a_this_cells a_this_cells_cells : Nat) (v_length : Int32) (v_start : Int32) (v_next : Int32) (v_exponent : Int32) (v_number : Int32) (g_cells_cells : Ar) (i1 : Int32) (out : Int32 × Int32) (hF : F_X7_readNumber v_length v_next v_exponent v_number g_cells_cells i1 = some out) : zM l D cA yX7_readNumber cX7_readNumber 2 none 4 87 [.ref a_this, .int i1] (zw_10 cA 0 a_this a_this_cells a_this_cells_cells v_length v_start v_next v_exponent v_number g_cells_cells) (zw_10 cA 0 a_this a_this_cells a_this_cells_cells v_length v_start out.1 v_exponent out.2 g_cells_cells) none := by
  refine z_body (by decide) (Nat.le_of_ble_eq_true rfl) ?_
  intro p e s m args below meth c ls H locs A X hl hw
  have hl : lv_has ls 2 [(0, .ref a_this), (1, .int i1)] := hl
  unfold F_X7_readNumber at hF
  refine z_aload_n 0 X dX7_readNumber_0 hl 0 rfl ?_
  refine z_dup 1 X dX7_readNumber_1 rfl ?_
  refine z_get 2 zc7 0 5 fl_7_33 X dX7_readNumber_2 hw rfl (by decide) rfl ?_
  refine z_aload_n 5 X dX7_readNumber_5 hl 0 rfl ?_
  refine z_iload_n 6 X dX7_readNumber_6 hl 1 rfl ?_
  obtain ⟨u1, e2, hF⟩ := zbd hF
  refine z_callV 7 zc7 mv_X7_readGap ml_7_63 0 [.int v_number, .ref a_this] (zk_64 cA 0 a_this a_this_cells a_this_cells_cells v_length v_start v_next v_exponent v_number g_cells_cells u1.2) (m_X7_readGap l D cA a_this a_this_cells a_this_cells_cells v_length v_start v_next v_exponent v_number g_cells_cells i1 u1 e2) X dX7_readNumber_7 hw hl rfl rfl rfl (Nat.le_of_ble_eq_true rfl) ⟨Nat.le_of_ble_eq_true rfl, Nat.le_of_ble_eq_true rfl⟩ ⟨Nat.zero_le _, Nat.zero_le _⟩ (fun H locs hw => ?_)
  refine z_iconst 10 1 X dX7_readNumber_10 (by decide) ?_
  refine z_iadd 11 X dX7_readNumber_11 ?_
  refine z_iadd 12 X dX7_readNumber_12 ?_
  refine z_put 13 zc7 0 5 (zw_10 cA 0 a_this a_this_cells a_this_cells_cells v_length v_start u1.2 v_exponent (v_number + (u1.1 + 1)) g_cells_cells) fl_7_33 X dX7_readNumber_13 hw rfl (by decide) rfl rfl rfl (Nat.le_of_ble_eq_true rfl) rfl (fun H locs hw => ?_)
  cases hF
  exact z_vret 16 X dX7_readNumber_16 hw rfl rfl
theorem dX7_bitsRead_0 : decode cX7_bitsRead 0 = .ok (.aload_n 0, 1) := by decide +kernel
theorem dX7_bitsRead_1 : decode cX7_bitsRead 1 = .ok (.getfield 27, 3) := by decide +kernel
theorem dX7_bitsRead_4 : decode cX7_bitsRead 4 = .ok (.aload_n 0, 1) := by decide +kernel
theorem dX7_bitsRead_5 : decode cX7_bitsRead 5 = .ok (.getfield 24, 3) := by decide +kernel
theorem dX7_bitsRead_8 : decode cX7_bitsRead 8 = .ok (.isub, 1) := by decide +kernel
theorem dX7_bitsRead_9 : decode cX7_bitsRead 9 = .ok (.ireturn, 1) := by decide +kernel
set_option maxHeartbeats 4000000 in
set_option maxRecDepth 100000 in
theorem m_X7_bitsRead (l : Launch) (D : va_G) (cA : ClassId) (a_this a_this_cells : Nat) (v_length : Int32) (v_start : Int32) (v_next : Int32) (v_exponent : Int32) (v_number : Int32) (out : Int32) (hF : F_X7_bitsRead v_start v_next = some out) : zM l D cA yX7_bitsRead cX7_bitsRead 1 (some .int) 0 0 [.ref a_this] (zw_17 cA 0 a_this a_this_cells v_length v_start v_next v_exponent v_number) (zw_17 cA 0 a_this a_this_cells v_length v_start v_next v_exponent v_number) (some (.int out)) := by
  refine z_body (by decide) (Nat.le_of_ble_eq_true rfl) ?_
  intro p e s m args below meth c ls H locs A X hl hw
  have hl : lv_has ls 1 [(0, .ref a_this)] := hl
  unfold F_X7_bitsRead at hF
  refine z_aload_n 0 X dX7_bitsRead_0 hl 0 rfl ?_
  refine z_get 1 zc7 0 3 fl_7_27 X dX7_bitsRead_1 hw rfl (by decide) rfl ?_
  refine z_aload_n 4 X dX7_bitsRead_4 hl 0 rfl ?_
  refine z_get 5 zc7 0 2 fl_7_24 X dX7_bitsRead_5 hw rfl (by decide) rfl ?_
  refine z_isub 8 X dX7_bitsRead_8 ?_
  cases hF
  exact z_iret 9 X dX7_bitsRead_9 hw rfl rfl
theorem dX4_streamBits_0 : decode cX4_streamBits 0 = .ok (.iconst 1, 1) := by decide +kernel
theorem dX4_streamBits_1 : decode cX4_streamBits 1 = .ok (.iload_n 1, 1) := by decide +kernel
theorem dX4_streamBits_2 : decode cX4_streamBits 2 = .ok (.invokestatic 45, 3) := by decide +kernel
theorem dX4_streamBits_5 : decode cX4_streamBits 5 = .ok (.istore_n 2, 1) := by decide +kernel
theorem dX4_streamBits_6 : decode cX4_streamBits 6 = .ok (.iconst 0, 1) := by decide +kernel
theorem dX4_streamBits_7 : decode cX4_streamBits 7 = .ok (.istore_n 3, 1) := by decide +kernel
theorem dX4_streamBits_8 : decode cX4_streamBits 8 = .ok (.iconst 0, 1) := by decide +kernel
theorem dX4_streamBits_9 : decode cX4_streamBits 9 = .ok (.istore 4, 2) := by decide +kernel
theorem dX4_streamBits_11 : decode cX4_streamBits 11 = .ok (.iload 4, 2) := by decide +kernel
theorem dX4_streamBits_13 : decode cX4_streamBits 13 = .ok (.aload_n 0, 1) := by decide +kernel
theorem dX4_streamBits_14 : decode cX4_streamBits 14 = .ok (.getfield 20, 3) := by decide +kernel
theorem dX4_streamBits_17 : decode cX4_streamBits 17 = .ok (.if_icmp .ge 44, 3) := by decide +kernel
theorem dX4_streamBits_20 : decode cX4_streamBits 20 = .ok (.iload 4, 2) := by decide +kernel
theorem dX4_streamBits_22 : decode cX4_streamBits 22 = .ok (.iload_n 2, 1) := by decide +kernel
theorem dX4_streamBits_23 : decode cX4_streamBits 23 = .ok (.iadd, 1) := by decide +kernel
theorem dX4_streamBits_24 : decode cX4_streamBits 24 = .ok (.aload_n 0, 1) := by decide +kernel
theorem dX4_streamBits_25 : decode cX4_streamBits 25 = .ok (.getfield 20, 3) := by decide +kernel
theorem dX4_streamBits_28 : decode cX4_streamBits 28 = .ok (.invokestatic 51, 3) := by decide +kernel
theorem dX4_streamBits_31 : decode cX4_streamBits 31 = .ok (.istore 5, 2) := by decide +kernel
theorem dX4_streamBits_33 : decode cX4_streamBits 33 = .ok (.iload_n 3, 1) := by decide +kernel
theorem dX4_streamBits_34 : decode cX4_streamBits 34 = .ok (.aload_n 0, 1) := by decide +kernel
theorem dX4_streamBits_35 : decode cX4_streamBits 35 = .ok (.aload_n 0, 1) := by decide +kernel
theorem dX4_streamBits_36 : decode cX4_streamBits 36 = .ok (.iload 4, 2) := by decide +kernel
theorem dX4_streamBits_38 : decode cX4_streamBits 38 = .ok (.iload 5, 2) := by decide +kernel
theorem dX4_streamBits_40 : decode cX4_streamBits 40 = .ok (.invokevirtual 54, 3) := by decide +kernel
theorem dX4_streamBits_43 : decode cX4_streamBits 43 = .ok (.iload 4, 2) := by decide +kernel
theorem dX4_streamBits_45 : decode cX4_streamBits 45 = .ok (.iload 5, 2) := by decide +kernel
theorem dX4_streamBits_47 : decode cX4_streamBits 47 = .ok (.invokevirtual 57, 3) := by decide +kernel
theorem dX4_streamBits_50 : decode cX4_streamBits 50 = .ok (.iadd, 1) := by decide +kernel
theorem dX4_streamBits_51 : decode cX4_streamBits 51 = .ok (.istore_n 3, 1) := by decide +kernel
theorem dX4_streamBits_52 : decode cX4_streamBits 52 = .ok (.iload 4, 2) := by decide +kernel
theorem dX4_streamBits_54 : decode cX4_streamBits 54 = .ok (.iload_n 2, 1) := by decide +kernel
theorem dX4_streamBits_55 : decode cX4_streamBits 55 = .ok (.iadd, 1) := by decide +kernel
theorem dX4_streamBits_56 : decode cX4_streamBits 56 = .ok (.istore 4, 2) := by decide +kernel
theorem dX4_streamBits_58 : decode cX4_streamBits 58 = .ok (.goto (-47), 3) := by decide +kernel
theorem dX4_streamBits_61 : decode cX4_streamBits 61 = .ok (.iload_n 3, 1) := by decide +kernel
theorem dX4_streamBits_62 : decode cX4_streamBits 62 = .ok (.ireturn, 1) := by decide +kernel
set_option maxHeartbeats 4000000 in
set_option maxRecDepth 100000 in
theorem l_X4_streamBits_11 (l : Launch) (D : va_G) (cA : ClassId) (a_this a_this_sums a_this_sums_cells : Nat) (v_length : Int32) (g_sums_cells : Ar) (i2 : Int32) (out : Int32) {p : Program} {e : Env} {s : State} {m : MethodId} {args : Array Value} {below : List Frame} {meth : Method} {c : Code} {A : Nat → Prop} (X : zX D cA p s m args meth c cX4_streamBits 6 RX4 (some .int)) (k : Int32 → Option (Int32)) (hk : ∀ (i3 : Int32) (H : Heap) (locs : List Loc) (ls : Array Slot), zH D A s (zw_9 cA 0 a_this a_this_sums a_this_sums_cells v_length g_sums_cells) H locs → lv_has ls 6 [(3, .int i3)] → k i3 = some out → W p l e (zR 3 70) s m args below meth c H locs 0 0 (MQ below (zQ D (zw_9 cA 0 a_this a_this_sums a_this_sums_cells v_length g_sums_cells) (some (.int out)) A) args s 0 0 A) (F0 m 61 ls [])) :
    ∀ (fuel : Nat) (i3 : Int32) (i4 : Int32) (H : Heap) (locs : List Loc) (ls : Array Slot), zH D A s (zw_9 cA 0 a_this a_this_sums a_this_sums_cells v_length g_sums_cells) H locs → lv_has ls 6 [(0, .ref a_this), (2, .int i2), (3, .int i3), (4, .int i4)] → F_X4_streamBits_L11 v_length g_sums_cells i2 k fuel i3 i4 = some out → W p l e (zR 3 70) s m args below meth c H locs 0 0 (MQ below (zQ D (zw_9 cA 0 a_this a_this_sums a_this_sums_cells v_length g_sums_cells) (some (.int out)) A) args s 0 0 A) (F0 m 11 ls []) := by
  intro fuel
  induction fuel with
  | zero => intro i3 i4 H locs ls hw hl hF; exact nomatch (show (none : Option (Int32)) = some out from hF)
  | succ fuel ih =>
    intro i3 i4 H locs ls hw hl hF
    rw [F_X4_streamBits_L11] at hF
    refine z_iload 11 X dX4_streamBits_11 hl 3 rfl ?_
    refine z_aload_n 13 X dX4_streamBits_13 hl 0 rfl ?_
    refine z_get 14 zc4 0 1 fl_4_20 X dX4_streamBits_14 hw rfl (by decide) rfl ?_
    refine z_icmp_ge 17 61 X dX4_streamBits_17 (by decide) (fun c1 => ?_) (fun c1 => ?_)
    · replace hF := zpos c1 hF
      exact hk i3 H locs ls hw (lv_sub hl [2] rfl) hF
    · replace hF := zneg c1 hF
      refine z_iload 20 X dX4_streamBits_20 hl 3 rfl ?_
      refine z_iload_n 22 X dX4_streamBits_22 hl 1 rfl ?_
      refine z_iadd 23 X dX4_streamBits_23 ?_
      refine z_aload_n 24 X dX4_streamBits_24 hl 0 rfl ?_
      refine z_get 25 zc4 0 1 fl_4_20 X dX4_streamBits_25 hw rfl (by decide) rfl ?_
      refine z_min 28 ml_4_51 mq_min X dX4_streamBits_28 hl ⟨Nat.le_of_ble_eq_true rfl, Nat.le_of_ble_eq_true rfl⟩ ⟨Nat.zero_le _, Nat.zero_le _⟩ ?_
      refine z_istore 31 [(5, .int (if v_length < (i4 + i2) then v_length else (i4 + i2))), (0, .ref a_this), (2, .int i2), (3, .int i3), (4, .int i4)] X dX4_streamBits_31 hl (by decide) rfl (fun ls hl => ?_)
      refine z_iload_n 33 X dX4_streamBits_33 hl 3 rfl ?_
      refine z_aload_n 34 X dX4_streamBits_34 hl 1 rfl ?_
      refine z_aload_n 35 X dX4_streamBits_35 hl 1 rfl ?_
      refine z_iload 36 X dX4_streamBits_36 hl 4 rfl ?_
      refine z_iload 38 X dX4_streamBits_38 hl 0 rfl ?_
      obtain ⟨u2, e3, hF⟩ := zbd hF
      refine z_callV 40 zc4 mv_X4_bestExponent ml_4_54 0 [.ref a_this, .int i3] (zk_13 cA 0 a_this a_this_sums a_this_sums_cells v_length g_sums_cells) (m_X4_bestExponent l D cA a_this a_this_sums a_this_sums_cells v_length g_sums_cells i4 (if v_length < (i4 + i2) then v_length else (i4 + i2)) u2 e3) X dX4_streamBits_40 hw hl rfl rfl rfl (Nat.le_of_ble_eq_true rfl) ⟨Nat.le_of_ble_eq_true rfl, Nat.le_of_ble_eq_true rfl⟩ ⟨Nat.zero_le _, Nat.zero_le _⟩ (fun H locs hw => ?_)
      refine z_iload 43 X dX4_streamBits_43 hl 4 rfl ?_
      refine z_iload 45 X dX4_streamBits_45 hl 0 rfl ?_
      obtain ⟨u4, e5, hF⟩ := zbd hF
      refine z_callV 47 zc4 mv_X4_blockBits ml_4_57 0 [.int i3] (zk_13 cA 0 a_this a_this_sums a_this_sums_cells v_length g_sums_cells) (m_X4_blockBits l D cA a_this a_this_sums a_this_sums_cells v_length g_sums_cells u2 i4 (if v_length < (i4 + i2) then v_length else (i4 + i2)) u4 e5) X dX4_streamBits_47 hw hl rfl rfl rfl (Nat.le_of_ble_eq_true rfl) ⟨Nat.le_of_ble_eq_true rfl, Nat.le_of_ble_eq_true rfl⟩ ⟨Nat.zero_le _, Nat.zero_le _⟩ (fun H locs hw => ?_)
      refine z_iadd 50 X dX4_streamBits_50 ?_
      refine z_istore_n 51 [(3, .int (i3 + u4)), (5, .int (if v_length < (i4 + i2) then v_length else (i4 + i2))), (0, .ref a_this), (2, .int i2), (4, .int i4)] X dX4_streamBits_51 hl (by decide) rfl (fun ls hl => ?_)
      refine z_iload 52 X dX4_streamBits_52 hl 4 rfl ?_
      refine z_iload_n 54 X dX4_streamBits_54 hl 3 rfl ?_
      refine z_iadd 55 X dX4_streamBits_55 ?_
      refine z_istore 56 [(4, .int (i4 + i2)), (3, .int (i3 + u4)), (5, .int (if v_length < (i4 + i2) then v_length else (i4 + i2))), (0, .ref a_this), (2, .int i2)] X dX4_streamBits_56 hl (by decide) rfl (fun ls hl => ?_)
      refine z_goto 58 11 X dX4_streamBits_58 (by decide) ?_
      exact ih (i3 + u4) (i4 + i2) H locs ls hw (lv_sub hl [3, 4, 1, 0] rfl) hF
set_option maxHeartbeats 4000000 in
set_option maxRecDepth 100000 in
theorem m_X4_streamBits (l : Launch) (D : va_G) (cA : ClassId) (a_this a_this_sums a_this_sums_cells : Nat) (v_length : Int32) (g_sums_cells : Ar) (i1 : Int32) (out : Int32) (hF : F_X4_streamBits v_length g_sums_cells i1 = some out) : zM l D cA yX4_streamBits cX4_streamBits 6 (some .int) 3 70 [.ref a_this, .int i1] (zw_9 cA 0 a_this a_this_sums a_this_sums_cells v_length g_sums_cells) (zw_9 cA 0 a_this a_this_sums a_this_sums_cells v_length g_sums_cells) (some (.int out)) := by
  refine z_body (by decide) (Nat.le_of_ble_eq_true rfl) ?_
  intro p e s m args below meth c ls H locs A X hl hw
  have hl : lv_has ls 6 [(0, .ref a_this), (1, .int i1)] := hl
  unfold F_X4_streamBits at hF
  refine z_iconst 0 1 X dX4_streamBits_0 (by decide) ?_
  refine z_iload_n 1 X dX4_streamBits_1 hl 1 rfl ?_
  refine z_max 2 ml_4_45 mq_max X dX4_streamBits_2 hl ⟨Nat.le_of_ble_eq_true rfl, Nat.le_of_ble_eq_true rfl⟩ ⟨Nat.zero_le _, Nat.zero_le _⟩ ?_
  refine z_istore_n 5 [(2, .int (if 1 < i1 then i1 else 1)), (0, .ref a_this), (1, .int i1)] X dX4_streamBits_5 hl (by decide) rfl (fun ls hl => ?_)
  refine z_iconst 6 0 X dX4_streamBits_6 (by decide) ?_
  refine z_istore_n 7 [(3, .int 0), (2, .int (if 1 < i1 then i1 else 1)), (0, .ref a_this), (1, .int i1)] X dX4_streamBits_7 hl (by decide) rfl (fun ls hl => ?_)
  refine z_iconst 8 0 X dX4_streamBits_8 (by decide) ?_
  refine z_istore 9 [(4, .int 0), (3, .int 0), (2, .int (if 1 < i1 then i1 else 1)), (0, .ref a_this), (1, .int i1)] X dX4_streamBits_9 hl (by decide) rfl (fun ls hl => ?_)
  refine l_X4_streamBits_11 l D cA a_this a_this_sums a_this_sums_cells v_length g_sums_cells (if 1 < i1 then i1 else 1) out X _ (fun i3_6 H locs ls hw hl hF => ?_) zFuel 0 0 H locs ls hw (lv_sub hl [3, 2, 1, 0] rfl) hF
  refine z_iload_n 61 X dX4_streamBits_61 hl 0 rfl ?_
  cases hF
  exact z_iret 62 X dX4_streamBits_62 hw rfl rfl
