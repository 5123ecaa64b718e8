theorem dX9_costOf_0 : decode cX9_costOf 0 = .ok (.iconst 4, 1) := by decide +kernel
theorem dX9_costOf_1 : decode cX9_costOf 1 = .ok (.istore_n 3, 1) := by decide +kernel
theorem dX9_costOf_2 : decode cX9_costOf 2 = .ok (.aload_n 0, 1) := by decide +kernel
theorem dX9_costOf_3 : decode cX9_costOf 3 = .ok (.iload_n 1, 1) := by decide +kernel
theorem dX9_costOf_4 : decode cX9_costOf 4 = .ok (.invokevirtual 43, 3) := by decide +kernel
theorem dX9_costOf_7 : decode cX9_costOf 7 = .ok (.istore 4, 2) := by decide +kernel
theorem dX9_costOf_9 : decode cX9_costOf 9 = .ok (.iload 4, 2) := by decide +kernel
theorem dX9_costOf_11 : decode cX9_costOf 11 = .ok (.aload_n 0, 1) := by decide +kernel
theorem dX9_costOf_12 : decode cX9_costOf 12 = .ok (.iload_n 1, 1) := by decide +kernel
theorem dX9_costOf_13 : decode cX9_costOf 13 = .ok (.invokevirtual 46, 3) := by decide +kernel
theorem dX9_costOf_16 : decode cX9_costOf 16 = .ok (.if_icmp .ge 23, 3) := by decide +kernel
theorem dX9_costOf_19 : decode cX9_costOf 19 = .ok (.iload_n 3, 1) := by decide +kernel
theorem dX9_costOf_20 : decode cX9_costOf 20 = .ok (.aload_n 0, 1) := by decide +kernel
theorem dX9_costOf_21 : decode cX9_costOf 21 = .ok (.aload_n 0, 1) := by decide +kernel
theorem dX9_costOf_22 : decode cX9_costOf 22 = .ok (.iload 4, 2) := by decide +kernel
theorem dX9_costOf_24 : decode cX9_costOf 24 = .ok (.invokevirtual 49, 3) := by decide +kernel
theorem dX9_costOf_27 : decode cX9_costOf 27 = .ok (.iload_n 2, 1) := by decide +kernel
theorem dX9_costOf_28 : decode cX9_costOf 28 = .ok (.invokevirtual 52, 3) := by decide +kernel
theorem dX9_costOf_31 : decode cX9_costOf 31 = .ok (.iadd, 1) := by decide +kernel
theorem dX9_costOf_32 : decode cX9_costOf 32 = .ok (.istore_n 3, 1) := by decide +kernel
theorem dX9_costOf_33 : decode cX9_costOf 33 = .ok (.iinc 4 1, 3) := by decide +kernel
theorem dX9_costOf_36 : decode cX9_costOf 36 = .ok (.goto (-27), 3) := by decide +kernel
theorem dX9_costOf_39 : decode cX9_costOf 39 = .ok (.iload_n 3, 1) := by decide +kernel
theorem dX9_costOf_40 : decode cX9_costOf 40 = .ok (.ireturn, 1) := by decide +kernel
set_option maxHeartbeats 4000000 in
set_option maxRecDepth 100000 in
theorem l_X9_costOf_9 (l : Launch) (D : va_G) (cA : ClassId) (a_this a_this_all a_this_kept a_this_history a_this_slots a_this_isSaved a_this_stream a_this_pad : Nat) (v_historyLong : Int32) (v_streamLong : Int32) (v_spot : Int32) (v_padLong : Int32) (v_padSpot : Int32) (v_readNumber : Int32) (g_all : Ar) (i1 : Int32) (i2 : Int32) (out : Int32) {p : Program} {e : Env} {s : State} {m : MethodId} {args : Array Value} {below : List Frame} {meth : Method} {c : Code} {A : Nat → Prop} (X : zX D cA p s m args meth c cX9_costOf 5 RX9 (some .int)) (k : Int32 → Option (Int32)) (hk : ∀ (i3 : Int32) (H : Heap) (locs : List Loc) (ls : Array Slot), zH D A s (zw_36 cA 0 a_this a_this_all a_this_kept a_this_history a_this_slots a_this_isSaved a_this_stream a_this_pad v_historyLong v_streamLong v_spot v_padLong v_padSpot v_readNumber g_all) H locs → lv_has ls 5 [(3, .int i3)] → k i3 = some out → W p l e (zR 2 44) s m args below meth c H locs 0 0 (MQ below (zQ D (zw_36 cA 0 a_this a_this_all a_this_kept a_this_history a_this_slots a_this_isSaved a_this_stream a_this_pad v_historyLong v_streamLong v_spot v_padLong v_padSpot v_readNumber g_all) (some (.int out)) A) args s 0 0 A) (F0 m 39 ls [])) :
    ∀ (fuel : Nat) (i3 : Int32) (i4 : Int32) (H : Heap) (locs : List Loc) (ls : Array Slot), zH D A s (zw_36 cA 0 a_this a_this_all a_this_kept a_this_history a_this_slots a_this_isSaved a_this_stream a_this_pad v_historyLong v_streamLong v_spot v_padLong v_padSpot v_readNumber g_all) H locs → lv_has ls 5 [(0, .ref a_this), (1, .int i1), (2, .int i2), (3, .int i3), (4, .int i4)] → F_X9_costOf_L9 g_all i1 i2 k fuel i3 i4 = some out → W p l e (zR 2 44) s m args below meth c H locs 0 0 (MQ below (zQ D (zw_36 cA 0 a_this a_this_all a_this_kept a_this_history a_this_slots a_this_isSaved a_this_stream a_this_pad v_historyLong v_streamLong v_spot v_padLong v_padSpot v_readNumber g_all) (some (.int out)) A) args s 0 0 A) (F0 m 9 ls []) := by
  intro fuel
  induction fuel with
  | zero => intro i3 i4 H locs ls hw hl hF; exact nomatch (show (none : Option (Int32)) = some out from hF)
  | succ fuel ih =>
    intro i3 i4 H locs ls hw hl hF
    rw [F_X9_costOf_L9] at hF
    refine z_iload 9 X dX9_costOf_9 hl 4 rfl ?_
    refine z_aload_n 11 X dX9_costOf_11 hl 0 rfl ?_
    refine z_iload_n 12 X dX9_costOf_12 hl 1 rfl ?_
    obtain ⟨u3, e4, hF⟩ := zbd hF
    refine z_callV 13 zc9 mv_X9_end ml_9_46 0 [.int i4] (zk_118 cA 0 a_this a_this_all a_this_kept a_this_history a_this_slots a_this_isSaved a_this_stream a_this_pad v_historyLong v_streamLong v_spot v_padLong v_padSpot v_readNumber g_all) (m_X9_end l D cA a_this a_this_all a_this_kept a_this_history a_this_slots a_this_isSaved a_this_stream a_this_pad v_historyLong v_streamLong v_spot v_padLong v_padSpot v_readNumber g_all i1 u3 e4) X dX9_costOf_13 hw hl rfl rfl rfl (Nat.le_of_ble_eq_true rfl) ⟨Nat.le_of_ble_eq_true rfl, Nat.le_of_ble_eq_true rfl⟩ ⟨Nat.zero_le _, Nat.zero_le _⟩ (fun H locs hw => ?_)
    refine z_icmp_ge 16 39 X dX9_costOf_16 (by decide) (fun c5 => ?_) (fun c5 => ?_)
    · replace hF := zpos c5 hF
      exact hk i3 H locs ls hw (lv_sub hl [3] rfl) hF
    · replace hF := zneg c5 hF
      refine z_iload_n 19 X dX9_costOf_19 hl 3 rfl ?_
      refine z_aload_n 20 X dX9_costOf_20 hl 0 rfl ?_
      refine z_aload_n 21 X dX9_costOf_21 hl 0 rfl ?_
      refine z_iload 22 X dX9_costOf_22 hl 4 rfl ?_
      obtain ⟨u6, e7, hF⟩ := zbd hF
      refine z_callV 24 zc9 mv_X9_gapOf ml_9_49 0 [.ref a_this, .int i3] (zk_118 cA 0 a_this a_this_all a_this_kept a_this_history a_this_slots a_this_isSaved a_this_stream a_this_pad v_historyLong v_streamLong v_spot v_padLong v_padSpot v_readNumber g_all) (m_X9_gapOf l D cA a_this a_this_all a_this_kept a_this_history a_this_slots a_this_isSaved a_this_stream a_this_pad v_historyLong v_streamLong v_spot v_padLong v_padSpot v_readNumber g_all i4 u6 e7) X dX9_costOf_24 hw hl rfl rfl rfl (Nat.le_of_ble_eq_true rfl) ⟨Nat.le_of_ble_eq_true rfl, Nat.le_of_ble_eq_true rfl⟩ ⟨Nat.zero_le _, Nat.zero_le _⟩ (fun H locs hw => ?_)
      refine z_iload_n 27 X dX9_costOf_27 hl 2 rfl ?_
      obtain ⟨u8, e9, hF⟩ := zbd hF
      refine z_callV 28 zc9 mv_X9_codeBits ml_9_52 0 [.int i3] (zk_118 cA 0 a_this a_this_all a_this_kept a_this_history a_this_slots a_this_isSaved a_this_stream a_this_pad v_historyLong v_streamLong v_spot v_padLong v_padSpot v_readNumber g_all) (m_X9_codeBits l D cA a_this a_this_all a_this_kept a_this_history a_this_slots a_this_isSaved a_this_stream a_this_pad v_historyLong v_streamLong v_spot v_padLong v_padSpot v_readNumber g_all u6 i2 u8 e9) X dX9_costOf_28 hw hl rfl rfl rfl (Nat.le_of_ble_eq_true rfl) ⟨Nat.le_of_ble_eq_true rfl, Nat.le_of_ble_eq_true rfl⟩ ⟨Nat.zero_le _, Nat.zero_le _⟩ (fun H locs hw => ?_)
      refine z_iadd 31 X dX9_costOf_31 ?_
      refine z_istore_n 32 [(3, .int (i3 + u8)), (0, .ref a_this), (1, .int i1), (2, .int i2), (4, .int i4)] X dX9_costOf_32 hl (by decide) rfl (fun ls hl => ?_)
      refine z_iinc2 33 1 [(4, .int (i4 + 1)), (3, .int (i3 + u8)), (0, .ref a_this), (1, .int i1), (2, .int i2)] X dX9_costOf_33 hl 4 rfl (by decide) (by decide) rfl (fun ls hl => ?_)
      refine z_goto 36 9 X dX9_costOf_36 (by decide) ?_
      exact ih (i3 + u8) (i4 + 1) H locs ls hw (lv_sub hl [2, 3, 4, 1, 0] rfl) hF
set_option maxHeartbeats 4000000 in
set_option maxRecDepth 100000 in
theorem m_X9_costOf (l : Launch) (D : va_G) (cA : ClassId) (a_this a_this_all a_this_kept a_this_history a_this_slots a_this_isSaved a_this_stream a_this_pad : Nat) (v_historyLong : Int32) (v_streamLong : Int32) (v_spot : Int32) (v_padLong : Int32) (v_padSpot : Int32) (v_readNumber : Int32) (g_all : Ar) (i1 : Int32) (i2 : Int32) (out : Int32) (hF : F_X9_costOf g_all i1 i2 = some out) : zM l D cA yX9_costOf cX9_costOf 5 (some .int) 2 44 [.ref a_this, .int i1, .int i2] (zw_36 cA 0 a_this a_this_all a_this_kept a_this_history a_this_slots a_this_isSaved a_this_stream a_this_pad v_historyLong v_streamLong v_spot v_padLong v_padSpot v_readNumber g_all) (zw_36 cA 0 a_this a_this_all a_this_kept a_this_history a_this_slots a_this_isSaved a_this_stream a_this_pad v_historyLong v_streamLong v_spot v_padLong v_padSpot v_readNumber g_all) (some (.int out)) := by
  refine z_body (by decide) (Nat.le_of_ble_eq_true rfl) ?_
  intro p e s m args below meth c ls H locs A X hl hw
  have hl : lv_has ls 5 [(0, .ref a_this), (1, .int i1), (2, .int i2)] := hl
  unfold F_X9_costOf at hF
  refine z_iconst 0 4 X dX9_costOf_0 (by decide) ?_
  refine z_istore_n 1 [(3, .int 4), (0, .ref a_this), (1, .int i1), (2, .int i2)] X dX9_costOf_1 hl (by decide) rfl (fun ls hl => ?_)
  refine z_aload_n 2 X dX9_costOf_2 hl 1 rfl ?_
  refine z_iload_n 3 X dX9_costOf_3 hl 2 rfl ?_
  obtain ⟨u1, e2, hF⟩ := zbd hF
  refine z_callV 4 zc9 mv_X9_first ml_9_43 0 [] (zk_118 cA 0 a_this a_this_all a_this_kept a_this_history a_this_slots a_this_isSaved a_this_stream a_this_pad v_historyLong v_streamLong v_spot v_padLong v_padSpot v_readNumber g_all) (m_X9_first l D cA a_this a_this_all a_this_kept a_this_history a_this_slots a_this_isSaved a_this_stream a_this_pad v_historyLong v_streamLong v_spot v_padLong v_padSpot v_readNumber g_all i1 u1 e2) X dX9_costOf_4 hw hl rfl rfl rfl (Nat.le_of_ble_eq_true rfl) ⟨Nat.le_of_ble_eq_true rfl, Nat.le_of_ble_eq_true rfl⟩ ⟨Nat.zero_le _, Nat.zero_le _⟩ (fun H locs hw => ?_)
  refine z_istore 7 [(4, .int u1), (3, .int 4), (0, .ref a_this), (1, .int i1), (2, .int i2)] X dX9_costOf_7 hl (by decide) rfl (fun ls hl => ?_)
  refine l_X9_costOf_9 l D cA a_this a_this_all a_this_kept a_this_history a_this_slots a_this_isSaved a_this_stream a_this_pad v_historyLong v_streamLong v_spot v_padLong v_padSpot v_readNumber g_all i1 i2 out X _ (fun i3_10 H locs ls hw hl hF => ?_) zFuel 4 u1 H locs ls hw (lv_sub hl [2, 3, 4, 1, 0] rfl) hF
  refine z_iload_n 39 X dX9_costOf_39 hl 0 rfl ?_
  cases hF
  exact z_iret 40 X dX9_costOf_40 hw rfl rfl
theorem dX9_exponentOf_0 : decode cX9_exponentOf 0 = .ok (.iconst 0, 1) := by decide +kernel
theorem dX9_exponentOf_1 : decode cX9_exponentOf 1 = .ok (.istore_n 2, 1) := by decide +kernel
theorem dX9_exponentOf_2 : decode cX9_exponentOf 2 = .ok (.iconst 1, 1) := by decide +kernel
theorem dX9_exponentOf_3 : decode cX9_exponentOf 3 = .ok (.istore_n 3, 1) := by decide +kernel
theorem dX9_exponentOf_4 : decode cX9_exponentOf 4 = .ok (.iload_n 3, 1) := by decide +kernel
theorem dX9_exponentOf_5 : decode cX9_exponentOf 5 = .ok (.bipush 16, 2) := by decide +kernel
theorem dX9_exponentOf_7 : decode cX9_exponentOf 7 = .ok (.if_icmp .ge 30, 3) := by decide +kernel
theorem dX9_exponentOf_10 : decode cX9_exponentOf 10 = .ok (.aload_n 0, 1) := by decide +kernel
theorem dX9_exponentOf_11 : decode cX9_exponentOf 11 = .ok (.iload_n 1, 1) := by decide +kernel
theorem dX9_exponentOf_12 : decode cX9_exponentOf 12 = .ok (.iload_n 3, 1) := by decide +kernel
theorem dX9_exponentOf_13 : decode cX9_exponentOf 13 = .ok (.invokevirtual 56, 3) := by decide +kernel
theorem dX9_exponentOf_16 : decode cX9_exponentOf 16 = .ok (.aload_n 0, 1) := by decide +kernel
theorem dX9_exponentOf_17 : decode cX9_exponentOf 17 = .ok (.iload_n 1, 1) := by decide +kernel
theorem dX9_exponentOf_18 : decode cX9_exponentOf 18 = .ok (.iload_n 2, 1) := by decide +kernel
theorem dX9_exponentOf_19 : decode cX9_exponentOf 19 = .ok (.invokevirtual 56, 3) := by decide +kernel
theorem dX9_exponentOf_22 : decode cX9_exponentOf 22 = .ok (.if_icmp .ge 7, 3) := by decide +kernel
theorem dX9_exponentOf_25 : decode cX9_exponentOf 25 = .ok (.iload_n 3, 1) := by decide +kernel
theorem dX9_exponentOf_26 : decode cX9_exponentOf 26 = .ok (.goto 4, 3) := by decide +kernel
theorem dX9_exponentOf_29 : decode cX9_exponentOf 29 = .ok (.iload_n 2, 1) := by decide +kernel
theorem dX9_exponentOf_30 : decode cX9_exponentOf 30 = .ok (.istore_n 2, 1) := by decide +kernel
theorem dX9_exponentOf_31 : decode cX9_exponentOf 31 = .ok (.iinc 3 1, 3) := by decide +kernel
theorem dX9_exponentOf_34 : decode cX9_exponentOf 34 = .ok (.goto (-30), 3) := by decide +kernel
theorem dX9_exponentOf_37 : decode cX9_exponentOf 37 = .ok (.iload_n 2, 1) := by decide +kernel
theorem dX9_exponentOf_38 : decode cX9_exponentOf 38 = .ok (.ireturn, 1) := by decide +kernel
set_option maxHeartbeats 4000000 in
set_option maxRecDepth 100000 in
theorem l_X9_exponentOf_4 (l : Launch) (D : va_G) (cA : ClassId) (a_this a_this_all a_this_kept a_this_history a_this_slots a_this_isSaved a_this_stream a_this_pad : Nat) (v_historyLong : Int32) (v_streamLong : Int32) (v_spot : Int32) (v_padLong : Int32) (v_padSpot : Int32) (v_readNumber : Int32) (g_all : Ar) (i1 : Int32) (out : Int32) {p : Program} {e : Env} {s : State} {m : MethodId} {args : Array Value} {below : List Frame} {meth : Method} {c : Code} {A : Nat → Prop} (X : zX D cA p s m args meth c cX9_exponentOf 4 RX9 (some .int)) (k : Int32 → Option (Int32)) (hk : ∀ (i2 : Int32) (H : Heap) (locs : List Loc) (ls : Array Slot), zH D A s (zw_36 cA 0 a_this a_this_all a_this_kept a_this_history a_this_slots a_this_isSaved a_this_stream a_this_pad v_historyLong v_streamLong v_spot v_padLong v_padSpot v_readNumber g_all) H locs → lv_has ls 4 [(2, .int i2)] → k i2 = some out → W p l e (zR 3 68) s m args below meth c H locs 0 0 (MQ below (zQ D (zw_36 cA 0 a_this a_this_all a_this_kept a_this_history a_this_slots a_this_isSaved a_this_stream a_this_pad v_historyLong v_streamLong v_spot v_padLong v_padSpot v_readNumber g_all) (some (.int out)) A) args s 0 0 A) (F0 m 37 ls [])) :
    ∀ (fuel : Nat) (i2 : Int32) (i3 : Int32) (H : Heap) (locs : List Loc) (ls : Array Slot), zH D A s (zw_36 cA 0 a_this a_this_all a_this_kept a_this_history a_this_slots a_this_isSaved a_this_stream a_this_pad v_historyLong v_streamLong v_spot v_padLong v_padSpot v_readNumber g_all) H locs → lv_has ls 4 [(0, .ref a_this), (1, .int i1), (2, .int i2), (3, .int i3)] → F_X9_exponentOf_L4 g_all i1 k fuel i2 i3 = some out → W p l e (zR 3 68) s m args below meth c H locs 0 0 (MQ below (zQ D (zw_36 cA 0 a_this a_this_all a_this_kept a_this_history a_this_slots a_this_isSaved a_this_stream a_this_pad v_historyLong v_streamLong v_spot v_padLong v_padSpot v_readNumber g_all) (some (.int out)) A) args s 0 0 A) (F0 m 4 ls []) := by
  intro fuel
  induction fuel with
  | zero => intro i2 i3 H locs ls hw hl hF; exact nomatch (show (none : Option (Int32)) = some out from hF)
  | succ fuel ih =>
    intro i2 i3 H locs ls hw hl hF
    rw [F_X9_exponentOf_L4] at hF
    refine z_iload_n 4 X dX9_exponentOf_4 hl 3 rfl ?_
    refine z_bipush 5 16 X dX9_exponentOf_5 (by decide) ?_
    refine z_icmp_ge 7 37 X dX9_exponentOf_7 (by decide) (fun c1 => ?_) (fun c1 => ?_)
    · replace hF := zpos c1 hF
      exact hk i2 H locs ls hw (lv_sub hl [2] rfl) hF
    · replace hF := zneg c1 hF
      refine z_aload_n 10 X dX9_exponentOf_10 hl 0 rfl ?_
      refine z_iload_n 11 X dX9_exponentOf_11 hl 1 rfl ?_
      refine z_iload_n 12 X dX9_exponentOf_12 hl 3 rfl ?_
      obtain ⟨u2, e3, hF⟩ := zbd hF
      refine z_callV 13 zc9 mv_X9_costOf ml_9_56 0 [] (zk_118 cA 0 a_this a_this_all a_this_kept a_this_history a_this_slots a_this_isSaved a_this_stream a_this_pad v_historyLong v_streamLong v_spot v_padLong v_padSpot v_readNumber g_all) (m_X9_costOf l D cA a_this a_this_all a_this_kept a_this_history a_this_slots a_this_isSaved a_this_stream a_this_pad v_historyLong v_streamLong v_spot v_padLong v_padSpot v_readNumber g_all i1 i3 u2 e3) X dX9_exponentOf_13 hw hl rfl rfl rfl (Nat.le_of_ble_eq_true rfl) ⟨Nat.le_of_ble_eq_true rfl, Nat.le_of_ble_eq_true rfl⟩ ⟨Nat.zero_le _, Nat.zero_le _⟩ (fun H locs hw => ?_)
      refine z_aload_n 16 X dX9_exponentOf_16 hl 0 rfl ?_
      refine z_iload_n 17 X dX9_exponentOf_17 hl 1 rfl ?_
      refine z_iload_n 18 X dX9_exponentOf_18 hl 2 rfl ?_
      obtain ⟨u4, e5, hF⟩ := zbd hF
      refine z_callV 19 zc9 mv_X9_costOf ml_9_56 0 [.int u2] (zk_118 cA 0 a_this a_this_all a_this_kept a_this_history a_this_slots a_this_isSaved a_this_stream a_this_pad v_historyLong v_streamLong v_spot v_padLong v_padSpot v_readNumber g_all) (m_X9_costOf l D cA a_this a_this_all a_this_kept a_this_history a_this_slots a_this_isSaved a_this_stream a_this_pad v_historyLong v_streamLong v_spot v_padLong v_padSpot v_readNumber g_all i1 i2 u4 e5) X dX9_exponentOf_19 hw hl rfl rfl rfl (Nat.le_of_ble_eq_true rfl) ⟨Nat.le_of_ble_eq_true rfl, Nat.le_of_ble_eq_true rfl⟩ ⟨Nat.zero_le _, Nat.zero_le _⟩ (fun H locs hw => ?_)
      refine z_icmp_ge 22 29 X dX9_exponentOf_22 (by decide) (fun c6 => ?_) (fun c6 => ?_)
      · replace hF := zpos c6 hF
        refine z_iload_n 29 X dX9_exponentOf_29 hl 2 rfl ?_
        refine z_istore_n 30 [(2, .int i2), (0, .ref a_this), (1, .int i1), (3, .int i3)] X dX9_exponentOf_30 hl (by decide) rfl (fun ls hl => ?_)
        refine z_iinc2 31 1 [(3, .int (i3 + 1)), (2, .int i2), (0, .ref a_this), (1, .int i1)] X dX9_exponentOf_31 hl 3 rfl (by decide) (by decide) rfl (fun ls hl => ?_)
        refine z_goto 34 4 X dX9_exponentOf_34 (by decide) ?_
        exact ih i2 (i3 + 1) H locs ls hw (lv_sub hl [2, 3, 1, 0] rfl) hF
      · replace hF := zneg c6 hF
        refine z_iload_n 25 X dX9_exponentOf_25 hl 3 rfl ?_
        refine z_goto 26 30 X dX9_exponentOf_26 (by decide) ?_
        refine z_istore_n 30 [(2, .int i3), (0, .ref a_this), (1, .int i1), (3, .int i3)] X dX9_exponentOf_30 hl (by decide) rfl (fun ls hl => ?_)
        refine z_iinc2 31 1 [(3, .int (i3 + 1)), (2, .int i3), (0, .ref a_this), (1, .int i1)] X dX9_exponentOf_31 hl 3 rfl (by decide) (by decide) rfl (fun ls hl => ?_)
        refine z_goto 34 4 X dX9_exponentOf_34 (by decide) ?_
        exact ih i3 (i3 + 1) H locs ls hw (lv_sub hl [2, 3, 1, 0] rfl) hF
set_option maxHeartbeats 4000000 in
set_option maxRecDepth 100000 in
theorem m_X9_exponentOf (l : Launch) (D : va_G) (cA : ClassId) (a_this a_this_all a_this_kept a_this_history a_this_slots a_this_isSaved a_this_stream a_this_pad : Nat) (v_historyLong : Int32) (v_streamLong : Int32) (v_spot : Int32) (v_padLong : Int32) (v_padSpot : Int32) (v_readNumber : Int32) (g_all : Ar) (i1 : Int32) (out : Int32) (hF : F_X9_exponentOf g_all i1 = some out) : zM l D cA yX9_exponentOf cX9_exponentOf 4 (some .int) 3 68 [.ref a_this, .int i1] (zw_36 cA 0 a_this a_this_all a_this_kept a_this_history a_this_slots a_this_isSaved a_this_stream a_this_pad v_historyLong v_streamLong v_spot v_padLong v_padSpot v_readNumber g_all) (zw_36 cA 0 a_this a_this_all a_this_kept a_this_history a_this_slots a_this_isSaved a_this_stream a_this_pad v_historyLong v_streamLong v_spot v_padLong v_padSpot v_readNumber g_all) (some (.int out)) := by
  refine z_body (by decide) (Nat.le_of_ble_eq_true rfl) ?_
  intro p e s m args below meth c ls H locs A X hl hw
  have hl : lv_has ls 4 [(0, .ref a_this), (1, .int i1)] := hl
  unfold F_X9_exponentOf at hF
  refine z_iconst 0 0 X dX9_exponentOf_0 (by decide) ?_
  refine z_istore_n 1 [(2, .int 0), (0, .ref a_this), (1, .int i1)] X dX9_exponentOf_1 hl (by decide) rfl (fun ls hl => ?_)
  refine z_iconst 2 1 X dX9_exponentOf_2 (by decide) ?_
  refine z_istore_n 3 [(3, .int 1), (2, .int 0), (0, .ref a_this), (1, .int i1)] X dX9_exponentOf_3 hl (by decide) rfl (fun ls hl => ?_)
  refine l_X9_exponentOf_4 l D cA a_this a_this_all a_this_kept a_this_history a_this_slots a_this_isSaved a_this_stream a_this_pad v_historyLong v_streamLong v_spot v_padLong v_padSpot v_readNumber g_all i1 out X _ (fun i2_7 H locs ls hw hl hF => ?_) zFuel 0 1 H locs ls hw (lv_sub hl [2, 3, 1, 0] rfl) hF
  refine z_iload_n 37 X dX9_exponentOf_37 hl 0 rfl ?_
  cases hF
  exact z_iret 38 X dX9_exponentOf_38 hw rfl rfl
theorem dX9_blockBits_0 : decode cX9_blockBits 0 = .ok (.aload_n 0, 1) := by decide +kernel
theorem dX9_blockBits_1 : decode cX9_blockBits 1 = .ok (.iload_n 1, 1) := by decide +kernel
theorem dX9_blockBits_2 : decode cX9_blockBits 2 = .ok (.aload_n 0, 1) := by decide +kernel
theorem dX9_blockBits_3 : decode cX9_blockBits 3 = .ok (.iload_n 1, 1) := by decide +kernel
theorem dX9_blockBits_4 : decode cX9_blockBits 4 = .ok (.invokevirtual 59, 3) := by decide +kernel
theorem dX9_blockBits_7 : decode cX9_blockBits 7 = .ok (.invokevirtual 56, 3) := by decide +kernel
theorem dX9_blockBits_10 : decode cX9_blockBits 10 = .ok (.ireturn, 1) := by decide +kernel
set_option maxHeartbeats 4000000 in
set_option maxRecDepth 100000 in
theorem m_X9_blockBits (l : Launch) (D : va_G) (cA : ClassId) (a_this a_this_all a_this_kept a_this_history a_this_slots a_this_isSaved a_this_stream a_this_pad : Nat) (v_historyLong : Int32) (v_streamLong : Int32) (v_spot : Int32) (v_padLong : Int32) (v_padSpot : Int32) (v_readNumber : Int32) (g_all : Ar) (i1 : Int32) (out : Int32) (hF : F_X9_blockBits g_all i1 = some out) : zM l D cA yX9_blockBits cX9_blockBits 2 (some .int) 4 91 [.ref a_this, .int i1] (zw_36 cA 0 a_this a_this_all a_this_kept a_this_history a_this_slots a_this_isSaved a_this_stream a_this_pad v_historyLong v_streamLong v_spot v_padLong v_padSpot v_readNumber g_all) (zw_36 cA 0 a_this a_this_all a_this_kept a_this_history a_this_slots a_this_isSaved a_this_stream a_this_pad v_historyLong v_streamLong v_spot v_padLong v_padSpot v_readNumber g_all) (some (.int out)) := by
  refine z_body (by decide) (Nat.le_of_ble_eq_true rfl) ?_
  intro p e s m args below meth c ls H locs A X hl hw
  have hl : lv_has ls 2 [(0, .ref a_this), (1, .int i1)] := hl
  unfold F_X9_blockBits at hF
  refine z_aload_n 0 X dX9_blockBits_0 hl 0 rfl ?_
  refine z_iload_n 1 X dX9_blockBits_1 hl 1 rfl ?_
  refine z_aload_n 2 X dX9_blockBits_2 hl 0 rfl ?_
  refine z_iload_n 3 X dX9_blockBits_3 hl 1 rfl ?_
  obtain ⟨u1, e2, hF⟩ := zbd hF
  refine z_callV 4 zc9 mv_X9_exponentOf ml_9_59 0 [.int i1, .ref a_this] (zk_118 cA 0 a_this a_this_all a_this_kept a_this_history a_this_slots a_this_isSaved a_this_stream a_this_pad v_historyLong v_streamLong v_spot v_padLong v_padSpot v_readNumber g_all) (m_X9_exponentOf l D cA a_this a_this_all a_this_kept a_this_history a_this_slots a_this_isSaved a_this_stream a_this_pad v_historyLong v_streamLong v_spot v_padLong v_padSpot v_readNumber g_all i1 u1 e2) X dX9_blockBits_4 hw hl rfl rfl rfl (Nat.le_of_ble_eq_true rfl) ⟨Nat.le_of_ble_eq_true rfl, Nat.le_of_ble_eq_true rfl⟩ ⟨Nat.zero_le _, Nat.zero_le _⟩ (fun H locs hw => ?_)
  obtain ⟨u3, e4, hF⟩ := zbd hF
  refine z_callV 7 zc9 mv_X9_costOf ml_9_56 0 [] (zk_118 cA 0 a_this a_this_all a_this_kept a_this_history a_this_slots a_this_isSaved a_this_stream a_this_pad v_historyLong v_streamLong v_spot v_padLong v_padSpot v_readNumber g_all) (m_X9_costOf l D cA a_this a_this_all a_this_kept a_this_history a_this_slots a_this_isSaved a_this_stream a_this_pad v_historyLong v_streamLong v_spot v_padLong v_padSpot v_readNumber g_all i1 u1 u3 e4) X dX9_blockBits_7 hw hl rfl rfl rfl (Nat.le_of_ble_eq_true rfl) ⟨Nat.le_of_ble_eq_true rfl, Nat.le_of_ble_eq_true rfl⟩ ⟨Nat.zero_le _, Nat.zero_le _⟩ (fun H locs hw => ?_)
  cases hF
  exact z_iret 10 X dX9_blockBits_10 hw rfl rfl
theorem dX9_skip_0 : decode cX9_skip 0 = .ok (.iconst 0, 1) := by decide +kernel
theorem dX9_skip_1 : decode cX9_skip 1 = .ok (.istore_n 2, 1) := by decide +kernel
theorem dX9_skip_2 : decode cX9_skip 2 = .ok (.iconst 0, 1) := by decide +kernel
theorem dX9_skip_3 : decode cX9_skip 3 = .ok (.istore_n 3, 1) := by decide +kernel
theorem dX9_skip_4 : decode cX9_skip 4 = .ok (.iload_n 3, 1) := by decide +kernel
theorem dX9_skip_5 : decode cX9_skip 5 = .ok (.iload_n 1, 1) := by decide +kernel
theorem dX9_skip_6 : decode cX9_skip 6 = .ok (.if_icmp .ge 17, 3) := by decide +kernel
theorem dX9_skip_9 : decode cX9_skip 9 = .ok (.iload_n 2, 1) := by decide +kernel
theorem dX9_skip_10 : decode cX9_skip 10 = .ok (.aload_n 0, 1) := by decide +kernel
theorem dX9_skip_11 : decode cX9_skip 11 = .ok (.iload_n 3, 1) := by decide +kernel
theorem dX9_skip_12 : decode cX9_skip 12 = .ok (.invokevirtual 62, 3) := by decide +kernel
theorem dX9_skip_15 : decode cX9_skip 15 = .ok (.iadd, 1) := by decide +kernel
theorem dX9_skip_16 : decode cX9_skip 16 = .ok (.istore_n 2, 1) := by decide +kernel
theorem dX9_skip_17 : decode cX9_skip 17 = .ok (.iinc 3 1, 3) := by decide +kernel
theorem dX9_skip_20 : decode cX9_skip 20 = .ok (.goto (-16), 3) := by decide +kernel
theorem dX9_skip_23 : decode cX9_skip 23 = .ok (.iload_n 2, 1) := by decide +kernel
theorem dX9_skip_24 : decode cX9_skip 24 = .ok (.ireturn, 1) := by decide +kernel
set_option maxHeartbeats 4000000 in
set_option maxRecDepth 100000 in
theorem l_X9_skip_4 (l : Launch) (D : va_G) (cA : ClassId) (a_this a_this_all a_this_kept a_this_history a_this_slots a_this_isSaved a_this_stream a_this_pad : Nat) (v_historyLong : Int32) (v_streamLong : Int32) (v_spot : Int32) (v_padLong : Int32) (v_padSpot : Int32) (v_readNumber : Int32) (g_all : Ar) (i1 : Int32) (out : Int32) {p : Program} {e : Env} {s : State} {m : MethodId} {args : Array Value} {below : List Frame} {meth : Method} {c : Code} {A : Nat → Prop} (X : zX D cA p s m args meth c cX9_skip 4 RX9 (some .int)) (k : Int32 → Option (Int32)) (hk : ∀ (i2 : Int32) (H : Heap) (locs : List Loc) (ls : Array Slot), zH D A s (zw_36 cA 0 a_this a_this_all a_this_kept a_this_history a_this_slots a_this_isSaved a_this_stream a_this_pad v_historyLong v_streamLong v_spot v_padLong v_padSpot v_readNumber g_all) H locs → lv_has ls 4 [(2, .int i2)] → k i2 = some out → W p l e (zR 5 112) s m args below meth c H locs 0 0 (MQ below (zQ D (zw_36 cA 0 a_this a_this_all a_this_kept a_this_history a_this_slots a_this_isSaved a_this_stream a_this_pad v_historyLong v_streamLong v_spot v_padLong v_padSpot v_readNumber g_all) (some (.int out)) A) args s 0 0 A) (F0 m 23 ls [])) :
    ∀ (fuel : Nat) (i2 : Int32) (i3 : Int32) (H : Heap) (locs : List Loc) (ls : Array Slot), zH D A s (zw_36 cA 0 a_this a_this_all a_this_kept a_this_history a_this_slots a_this_isSaved a_this_stream a_this_pad v_historyLong v_streamLong v_spot v_padLong v_padSpot v_readNumber g_all) H locs → lv_has ls 4 [(0, .ref a_this), (1, .int i1), (2, .int i2), (3, .int i3)] → F_X9_skip_L4 g_all i1 k fuel i2 i3 = some out → W p l e (zR 5 112) s m args below meth c H locs 0 0 (MQ below (zQ D (zw_36 cA 0 a_this a_this_all a_this_kept a_this_history a_this_slots a_this_isSaved a_this_stream a_this_pad v_historyLong v_streamLong v_spot v_padLong v_padSpot v_readNumber g_all) (some (.int out)) A) args s 0 0 A) (F0 m 4 ls []) := by
  intro fuel
  induction fuel with
  | zero => intro i2 i3 H locs ls hw hl hF; exact nomatch (show (none : Option (Int32)) = some out from hF)
  | succ fuel ih =>
    intro i2 i3 H locs ls hw hl hF
    rw [F_X9_skip_L4] at hF
    refine z_iload_n 4 X dX9_skip_4 hl 3 rfl ?_
    refine z_iload_n 5 X dX9_skip_5 hl 1 rfl ?_
    refine z_icmp_ge 6 23 X dX9_skip_6 (by decide) (fun c1 => ?_) (fun c1 => ?_)
    · replace hF := zpos c1 hF
      exact hk i2 H locs ls hw (lv_sub hl [2] rfl) hF
    · replace hF := zneg c1 hF
      refine z_iload_n 9 X dX9_skip_9 hl 2 rfl ?_
      refine z_aload_n 10 X dX9_skip_10 hl 0 rfl ?_
      refine z_iload_n 11 X dX9_skip_11 hl 3 rfl ?_
      obtain ⟨u2, e3, hF⟩ := zbd hF
      refine z_callV 12 zc9 mv_X9_blockBits ml_9_62 0 [.int i2] (zk_118 cA 0 a_this a_this_all a_this_kept a_this_history a_this_slots a_this_isSaved a_this_stream a_this_pad v_historyLong v_streamLong v_spot v_padLong v_padSpot v_readNumber g_all) (m_X9_blockBits l D cA a_this a_this_all a_this_kept a_this_history a_this_slots a_this_isSaved a_this_stream a_this_pad v_historyLong v_streamLong v_spot v_padLong v_padSpot v_readNumber g_all i3 u2 e3) X dX9_skip_12 hw hl rfl rfl rfl (Nat.le_of_ble_eq_true rfl) ⟨Nat.le_of_ble_eq_true rfl, Nat.le_of_ble_eq_true rfl⟩ ⟨Nat.zero_le _, Nat.zero_le _⟩ (fun H locs hw => ?_)
      refine z_iadd 15 X dX9_skip_15 ?_
      refine z_istore_n 16 [(2, .int (i2 + u2)), (0, .ref a_this), (1, .int i1), (3, .int i3)] X dX9_skip_16 hl (by decide) rfl (fun ls hl => ?_)
      refine z_iinc2 17 1 [(3, .int (i3 + 1)), (2, .int (i2 + u2)), (0, .ref a_this), (1, .int i1)] X dX9_skip_17 hl 3 rfl (by decide) (by decide) rfl (fun ls hl => ?_)
      refine z_goto 20 4 X dX9_skip_20 (by decide) ?_
      exact ih (i2 + u2) (i3 + 1) H locs ls hw (lv_sub hl [2, 3, 1, 0] rfl) hF
set_option maxHeartbeats 4000000 in
set_option maxRecDepth 100000 in
theorem m_X9_skip (l : Launch) (D : va_G) (cA : ClassId) (a_this a_this_all a_this_kept a_this_history a_this_slots a_this_isSaved a_this_stream a_this_pad : Nat) (v_historyLong : Int32) (v_streamLong : Int32) (v_spot : Int32) (v_padLong : Int32) (v_padSpot : Int32) (v_readNumber : Int32) (g_all : Ar) (i1 : Int32) (out : Int32) (hF : F_X9_skip g_all i1 = some out) : zM l D cA yX9_skip cX9_skip 4 (some .int) 5 112 [.ref a_this, .int i1] (zw_36 cA 0 a_this a_this_all a_this_kept a_this_history a_this_slots a_this_isSaved a_this_stream a_this_pad v_historyLong v_streamLong v_spot v_padLong v_padSpot v_readNumber g_all) (zw_36 cA 0 a_this a_this_all a_this_kept a_this_history a_this_slots a_this_isSaved a_this_stream a_this_pad v_historyLong v_streamLong v_spot v_padLong v_padSpot v_readNumber g_all) (some (.int out)) := by
  refine z_body (by decide) (Nat.le_of_ble_eq_true rfl) ?_
  intro p e s m args below meth c ls H locs A X hl hw
  have hl : lv_has ls 4 [(0, .ref a_this), (1, .int i1)] := hl
  unfold F_X9_skip at hF
  refine z_iconst 0 0 X dX9_skip_0 (by decide) ?_
  refine z_istore_n 1 [(2, .int 0), (0, .ref a_this), (1, .int i1)] X dX9_skip_1 hl (by decide) rfl (fun ls hl => ?_)
  refine z_iconst 2 0 X dX9_skip_2 (by decide) ?_
  refine z_istore_n 3 [(3, .int 0), (2, .int 0), (0, .ref a_this), (1, .int i1)] X dX9_skip_3 hl (by decide) rfl (fun ls hl => ?_)
  refine l_X9_skip_4 l D cA a_this a_this_all a_this_kept a_this_history a_this_slots a_this_isSaved a_this_stream a_this_pad v_historyLong v_streamLong v_spot v_padLong v_padSpot v_readNumber g_all i1 out X _ (fun i2_4 H locs ls hw hl hF => ?_) zFuel 0 0 H locs ls hw (lv_sub hl [2, 3, 1, 0] rfl) hF
  refine z_iload_n 23 X dX9_skip_23 hl 0 rfl ?_
  cases hF
  exact z_iret 24 X dX9_skip_24 hw rfl rfl
theorem dX9_streamBits_0 : decode cX9_streamBits 0 = .ok (.aload_n 0, 1) := by decide +kernel
theorem dX9_streamBits_1 : decode cX9_streamBits 1 = .ok (.aload_n 0, 1) := by decide +kernel
theorem dX9_streamBits_2 : decode cX9_streamBits 2 = .ok (.invokevirtual 65, 3) := by decide +kernel
theorem dX9_streamBits_5 : decode cX9_streamBits 5 = .ok (.invokevirtual 69, 3) := by decide +kernel
theorem dX9_streamBits_8 : decode cX9_streamBits 8 = .ok (.ireturn, 1) := by decide +kernel
set_option maxHeartbeats 4000000 in
set_option maxRecDepth 100000 in
theorem m_X9_streamBits (l : Launch) (D : va_G) (cA : ClassId) (a_this a_this_all a_this_kept a_this_history a_this_slots a_this_isSaved a_this_stream a_this_pad : Nat) (v_historyLong : Int32) (v_streamLong : Int32) (v_spot : Int32) (v_padLong : Int32) (v_padSpot : Int32) (v_readNumber : Int32) (g_all : Ar) (out : Int32) (hF : F_X9_streamBits g_all = some out) : zM l D cA yX9_streamBits cX9_streamBits 1 (some .int) 6 135 [.ref a_this] (zw_36 cA 0 a_this a_this_all a_this_kept a_this_history a_this_slots a_this_isSaved a_this_stream a_this_pad v_historyLong v_streamLong v_spot v_padLong v_padSpot v_readNumber g_all) (zw_36 cA 0 a_this a_this_all a_this_kept a_this_history a_this_slots a_this_isSaved a_this_stream a_this_pad v_historyLong v_streamLong v_spot v_padLong v_padSpot v_readNumber g_all) (some (.int out)) := by
  refine z_body (by decide) (Nat.le_of_ble_eq_true rfl) ?_
  intro p e s m args below meth c ls H locs A X hl hw
  have hl : lv_has ls 1 [(0, .ref a_this)] := hl
  unfold F_X9_streamBits at hF
  refine z_aload_n 0 X dX9_streamBits_0 hl 0 rfl ?_
  refine z_aload_n 1 X dX9_streamBits_1 hl 0 rfl ?_
  obtain ⟨u1, e2, hF⟩ := zbd hF
  refine z_callV 2 zc9 mv_X9_blocks ml_9_65 0 [.ref a_this] (zk_118 cA 0 a_this a_this_all a_this_kept a_this_history a_this_slots a_this_isSaved a_this_stream a_this_pad v_historyLong v_streamLong v_spot v_padLong v_padSpot v_readNumber g_all) (m_X9_blocks l D cA a_this a_this_all a_this_kept a_this_history a_this_slots a_this_isSaved a_this_stream a_this_pad v_historyLong v_streamLong v_spot v_padLong v_padSpot v_readNumber g_all u1 e2) X dX9_streamBits_2 hw hl rfl rfl rfl (Nat.le_of_ble_eq_true rfl) ⟨Nat.le_of_ble_eq_true rfl, Nat.le_of_ble_eq_true rfl⟩ ⟨Nat.zero_le _, Nat.zero_le _⟩ (fun H locs hw => ?_)
  obtain ⟨u3, e4, hF⟩ := zbd hF
  refine z_callV 5 zc9 mv_X9_skip ml_9_69 0 [] (zk_118 cA 0 a_this a_this_all a_this_kept a_this_history a_this_slots a_this_isSaved a_this_stream a_this_pad v_historyLong v_streamLong v_spot v_padLong v_padSpot v_readNumber g_all) (m_X9_skip l D cA a_this a_this_all a_this_kept a_this_history a_this_slots a_this_isSaved a_this_stream a_this_pad v_historyLong v_streamLong v_spot v_padLong v_padSpot v_readNumber g_all u1 u3 e4) X dX9_streamBits_5 hw hl rfl rfl rfl (Nat.le_of_ble_eq_true rfl) ⟨Nat.le_of_ble_eq_true rfl, Nat.le_of_ble_eq_true rfl⟩ ⟨Nat.zero_le _, Nat.zero_le _⟩ (fun H locs hw => ?_)
  cases hF
  exact z_iret 8 X dX9_streamBits_8 hw rfl rfl
theorem dX9_doShift_0 : decode cX9_doShift 0 = .ok (.aload_n 0, 1) := by decide +kernel
theorem dX9_doShift_1 : decode cX9_doShift 1 = .ok (.iload_n 1, 1) := by decide +kernel
theorem dX9_doShift_2 : decode cX9_doShift 2 = .ok (.invokevirtual 112, 3) := by decide +kernel
theorem dX9_doShift_5 : decode cX9_doShift 5 = .ok (.ifCond .ne 5, 3) := by decide +kernel
theorem dX9_doShift_8 : decode cX9_doShift 8 = .ok (.iconst (-1), 1) := by decide +kernel
theorem dX9_doShift_9 : decode cX9_doShift 9 = .ok (.ireturn, 1) := by decide +kernel
theorem dX9_doShift_10 : decode cX9_doShift 10 = .ok (.iload_n 2, 1) := by decide +kernel
theorem dX9_doShift_11 : decode cX9_doShift 11 = .ok (.i2l, 1) := by decide +kernel
theorem dX9_doShift_12 : decode cX9_doShift 12 = .ok (.ldc2_w 115, 3) := by decide +kernel
theorem dX9_doShift_15 : decode cX9_doShift 15 = .ok (.ldc2_w 89, 3) := by decide +kernel
theorem dX9_doShift_18 : decode cX9_doShift 18 = .ok (.invokestatic 91, 3) := by decide +kernel
theorem dX9_doShift_21 : decode cX9_doShift 21 = .ok (.ifCond .ne 6, 3) := by decide +kernel
theorem dX9_doShift_24 : decode cX9_doShift 24 = .ok (.bipush (-2), 2) := by decide +kernel
theorem dX9_doShift_26 : decode cX9_doShift 26 = .ok (.ireturn, 1) := by decide +kernel
theorem dX9_doShift_27 : decode cX9_doShift 27 = .ok (.aload_n 0, 1) := by decide +kernel
theorem dX9_doShift_28 : decode cX9_doShift 28 = .ok (.iload_n 1, 1) := by decide +kernel
theorem dX9_doShift_29 : decode cX9_doShift 29 = .ok (.invokevirtual 35, 3) := by decide +kernel
theorem dX9_doShift_32 : decode cX9_doShift 32 = .ok (.iload_n 2, 1) := by decide +kernel
theorem dX9_doShift_33 : decode cX9_doShift 33 = .ok (.iadd, 1) := by decide +kernel
theorem dX9_doShift_34 : decode cX9_doShift 34 = .ok (.aload_n 0, 1) := by decide +kernel
theorem dX9_doShift_35 : decode cX9_doShift 35 = .ok (.iload_n 1, 1) := by decide +kernel
theorem dX9_doShift_36 : decode cX9_doShift 36 = .ok (.iconst 1, 1) := by decide +kernel
theorem dX9_doShift_37 : decode cX9_doShift 37 = .ok (.isub, 1) := by decide +kernel
theorem dX9_doShift_38 : decode cX9_doShift 38 = .ok (.invokevirtual 35, 3) := by decide +kernel
theorem dX9_doShift_41 : decode cX9_doShift 41 = .ok (.if_icmp .le 36, 3) := by decide +kernel
theorem dX9_doShift_44 : decode cX9_doShift 44 = .ok (.aload_n 0, 1) := by decide +kernel
theorem dX9_doShift_45 : decode cX9_doShift 45 = .ok (.iload_n 1, 1) := by decide +kernel
theorem dX9_doShift_46 : decode cX9_doShift 46 = .ok (.invokevirtual 35, 3) := by decide +kernel
theorem dX9_doShift_49 : decode cX9_doShift 49 = .ok (.iload_n 2, 1) := by decide +kernel
theorem dX9_doShift_50 : decode cX9_doShift 50 = .ok (.iadd, 1) := by decide +kernel
theorem dX9_doShift_51 : decode cX9_doShift 51 = .ok (.invokestatic 105, 3) := by decide +kernel
theorem dX9_doShift_54 : decode cX9_doShift 54 = .ok (.ifCond .eq 23, 3) := by decide +kernel
theorem dX9_doShift_57 : decode cX9_doShift 57 = .ok (.aload_n 0, 1) := by decide +kernel
theorem dX9_doShift_58 : decode cX9_doShift 58 = .ok (.aload_n 0, 1) := by decide +kernel
theorem dX9_doShift_59 : decode cX9_doShift 59 = .ok (.getfield 7, 3) := by decide +kernel
theorem dX9_doShift_62 : decode cX9_doShift 62 = .ok (.iconst 2, 1) := by decide +kernel
theorem dX9_doShift_63 : decode cX9_doShift 63 = .ok (.iaload, 1) := by decide +kernel
theorem dX9_doShift_64 : decode cX9_doShift 64 = .ok (.iconst 1, 1) := by decide +kernel
theorem dX9_doShift_65 : decode cX9_doShift 65 = .ok (.isub, 1) := by decide +kernel
theorem dX9_doShift_66 : decode cX9_doShift 66 = .ok (.invokevirtual 35, 3) := by decide +kernel
theorem dX9_doShift_69 : decode cX9_doShift 69 = .ok (.iload_n 2, 1) := by decide +kernel
theorem dX9_doShift_70 : decode cX9_doShift 70 = .ok (.iadd, 1) := by decide +kernel
theorem dX9_doShift_71 : decode cX9_doShift 71 = .ok (.invokestatic 105, 3) := by decide +kernel
theorem dX9_doShift_74 : decode cX9_doShift 74 = .ok (.ifCond .ne 6, 3) := by decide +kernel
theorem dX9_doShift_77 : decode cX9_doShift 77 = .ok (.bipush (-5), 2) := by decide +kernel
theorem dX9_doShift_79 : decode cX9_doShift 79 = .ok (.ireturn, 1) := by decide +kernel
theorem dX9_doShift_80 : decode cX9_doShift 80 = .ok (.iload_n 1, 1) := by decide +kernel
theorem dX9_doShift_81 : decode cX9_doShift 81 = .ok (.istore_n 3, 1) := by decide +kernel
theorem dX9_doShift_82 : decode cX9_doShift 82 = .ok (.iload_n 3, 1) := by decide +kernel
theorem dX9_doShift_83 : decode cX9_doShift 83 = .ok (.aload_n 0, 1) := by decide +kernel
theorem dX9_doShift_84 : decode cX9_doShift 84 = .ok (.getfield 7, 3) := by decide +kernel
theorem dX9_doShift_87 : decode cX9_doShift 87 = .ok (.iconst 2, 1) := by decide +kernel
theorem dX9_doShift_88 : decode cX9_doShift 88 = .ok (.iaload, 1) := by decide +kernel
theorem dX9_doShift_89 : decode cX9_doShift 89 = .ok (.if_icmp .ge 21, 3) := by decide +kernel
theorem dX9_doShift_92 : decode cX9_doShift 92 = .ok (.aload_n 0, 1) := by decide +kernel
theorem dX9_doShift_93 : decode cX9_doShift 93 = .ok (.getfield 7, 3) := by decide +kernel
theorem dX9_doShift_96 : decode cX9_doShift 96 = .ok (.iconst 3, 1) := by decide +kernel
theorem dX9_doShift_97 : decode cX9_doShift 97 = .ok (.iload_n 3, 1) := by decide +kernel
theorem dX9_doShift_98 : decode cX9_doShift 98 = .ok (.iadd, 1) := by decide +kernel
theorem dX9_doShift_99 : decode cX9_doShift 99 = .ok (.dup2, 1) := by decide +kernel
theorem dX9_doShift_100 : decode cX9_doShift 100 = .ok (.iaload, 1) := by decide +kernel
theorem dX9_doShift_101 : decode cX9_doShift 101 = .ok (.iload_n 2, 1) := by decide +kernel
theorem dX9_doShift_102 : decode cX9_doShift 102 = .ok (.iadd, 1) := by decide +kernel
theorem dX9_doShift_103 : decode cX9_doShift 103 = .ok (.iastore, 1) := by decide +kernel
theorem dX9_doShift_104 : decode cX9_doShift 104 = .ok (.iinc 3 1, 3) := by decide +kernel
theorem dX9_doShift_107 : decode cX9_doShift 107 = .ok (.goto (-25), 3) := by decide +kernel
theorem dX9_doShift_110 : decode cX9_doShift 110 = .ok (.aload_n 0, 1) := by decide +kernel
theorem dX9_doShift_111 : decode cX9_doShift 111 = .ok (.invokevirtual 117, 3) := by decide +kernel
theorem dX9_doShift_114 : decode cX9_doShift 114 = .ok (.ireturn, 1) := by decide +kernel
set_option maxHeartbeats 4000000 in
set_option maxRecDepth 100000 in
theorem l_X9_doShift_82 (l : Launch) (D : va_G) (cA : ClassId) (a_this a_this_all a_this_kept a_this_history a_this_slots a_this_isSaved a_this_stream a_this_pad : Nat) (v_historyLong : Int32) (v_streamLong : Int32) (v_spot : Int32) (v_padLong : Int32) (v_padSpot : Int32) (v_readNumber : Int32) (i2 : Int32) (out : Int32 × Ar) {p : Program} {e : Env} {s : State} {m : MethodId} {args : Array Value} {below : List Frame} {meth : Method} {c : Code} {A : Nat → Prop} (X : zX D cA p s m args meth c cX9_doShift 4 RX9 (some .int)) (k : Ar → Option (Int32 × Ar)) (hk : ∀ (g_all : Ar) (H : Heap) (locs : List Loc) (ls : Array Slot), zH D A s (zw_36 cA 0 a_this a_this_all a_this_kept a_this_history a_this_slots a_this_isSaved a_this_stream a_this_pad v_historyLong v_streamLong v_spot v_padLong v_padSpot v_readNumber g_all) H locs → lv_has ls 4 [(0, .ref a_this)] → k g_all = some out → W p l e (zR 7 155) s m args below meth c H locs 0 0 (MQ below (zQ D (zw_36 cA 0 a_this a_this_all a_this_kept a_this_history a_this_slots a_this_isSaved a_this_stream a_this_pad v_historyLong v_streamLong v_spot v_padLong v_padSpot v_readNumber out.2) (some (.int out.1)) A) args s 0 0 A) (F0 m 110 ls [])) :
    ∀ (fuel : Nat) (g_all : Ar) (i3 : Int32) (H : Heap) (locs : List Loc) (ls : Array Slot), zH D A s (zw_36 cA 0 a_this a_this_all a_this_kept a_this_history a_this_slots a_this_isSaved a_this_stream a_this_pad v_historyLong v_streamLong v_spot v_padLong v_padSpot v_readNumber g_all) H locs → lv_has ls 4 [(0, .ref a_this), (2, .int i2), (3, .int i3)] → F_X9_doShift_L82 i2 k fuel g_all i3 = some out → W p l e (zR 7 155) s m args below meth c H locs 0 0 (MQ below (zQ D (zw_36 cA 0 a_this a_this_all a_this_kept a_this_history a_this_slots a_this_isSaved a_this_stream a_this_pad v_historyLong v_streamLong v_spot v_padLong v_padSpot v_readNumber out.2) (some (.int out.1)) A) args s 0 0 A) (F0 m 82 ls []) := by
  intro fuel
  induction fuel with
  | zero => intro g_all i3 H locs ls hw hl hF; exact nomatch (show (none : Option (Int32 × Ar)) = some out from hF)
  | succ fuel ih =>
    intro g_all i3 H locs ls hw hl hF
    rw [F_X9_doShift_L82] at hF
    refine z_iload_n 82 X dX9_doShift_82 hl 2 rfl ?_
    refine z_aload_n 83 X dX9_doShift_83 hl 0 rfl ?_
    refine z_get 84 zc9 0 0 fl_9_7 X dX9_doShift_84 hw rfl (by decide) rfl ?_
    refine z_iconst 87 2 X dX9_doShift_87 (by decide) ?_
    refine z_iald 88 1 (g_all 2) X dX9_doShift_88 hw rfl (by decide) rfl ?_
    refine z_icmp_ge 89 110 X dX9_doShift_89 (by decide) (fun c22 => ?_) (fun c22 => ?_)
    · replace hF := zpos c22 hF
      exact hk g_all H locs ls hw (lv_sub hl [0] rfl) hF
    · replace hF := zneg c22 hF
      refine z_aload_n 92 X dX9_doShift_92 hl 0 rfl ?_
      refine z_get 93 zc9 0 0 fl_9_7 X dX9_doShift_93 hw rfl (by decide) rfl ?_
      refine z_iconst 96 3 X dX9_doShift_96 (by decide) ?_
      refine z_iload_n 97 X dX9_doShift_97 hl 2 rfl ?_
      refine z_iadd 98 X dX9_doShift_98 ?_
      refine z_dup2 99 X dX9_doShift_99 rfl rfl ?_
      obtain ⟨gd23, hF⟩ := zgd hF
      refine z_iald 100 1 (g_all (3 + i3).toNatClampNeg) X dX9_doShift_100 hw rfl gd23 rfl ?_
      refine z_iload_n 101 X dX9_doShift_101 hl 1 rfl ?_
      refine z_iadd 102 X dX9_doShift_102 ?_
      obtain ⟨gd24, hF⟩ := zgd hF
      refine z_iast 103 1 (zw_36 cA 0 a_this a_this_all a_this_kept a_this_history a_this_slots a_this_isSaved a_this_stream a_this_pad v_historyLong v_streamLong v_spot v_padLong v_padSpot v_readNumber (upd g_all ((3 + i3).toNatClampNeg) ((g_all (3 + i3).toNatClampNeg) + i2))) X dX9_doShift_103 hw rfl gd24 rfl (fun H locs hw => ?_)
      refine z_iinc2 104 1 [(3, .int (i3 + 1)), (0, .ref a_this), (2, .int i2)] X dX9_doShift_104 hl 2 rfl (by decide) (by decide) rfl (fun ls hl => ?_)
      refine z_goto 107 82 X dX9_doShift_107 (by decide) ?_
      exact ih (upd g_all ((3 + i3).toNatClampNeg) ((g_all (3 + i3).toNatClampNeg) + i2)) (i3 + 1) H locs ls hw (lv_sub hl [1, 2, 0] rfl) hF
set_option maxHeartbeats 4000000 in
set_option maxRecDepth 100000 in
theorem m_X9_doShift (l : Launch) (D : va_G) (cA : ClassId) (a_this a_this_all a_this_kept a_this_history a_this_slots a_this_isSaved a_this_stream a_this_pad : Nat) (v_historyLong : Int32) (v_streamLong : Int32) (v_spot : Int32) (v_padLong : Int32) (v_padSpot : Int32) (v_readNumber : Int32) (g_all : Ar) (i1 : Int32) (i2 : Int32) (out : Int32 × Ar) (hF : F_X9_doShift g_all i1 i2 = some out) : zM l D cA yX9_doShift cX9_doShift 4 (some .int) 7 155 [.ref a_this, .int i1, .int i2] (zw_36 cA 0 a_this a_this_all a_this_kept a_this_history a_this_slots a_this_isSaved a_this_stream a_this_pad v_historyLong v_streamLong v_spot v_padLong v_padSpot v_readNumber g_all) (zw_36 cA 0 a_this a_this_all a_this_kept a_this_history a_this_slots a_this_isSaved a_this_stream a_this_pad v_historyLong v_streamLong v_spot v_padLong v_padSpot v_readNumber out.2) (some (.int out.1)) := by
  refine z_body (by decide) (Nat.le_of_ble_eq_true rfl) ?_
  intro p e s m args below meth c ls H locs A X hl hw
  have hl : lv_has ls 4 [(0, .ref a_this), (1, .int i1), (2, .int i2)] := hl
  unfold F_X9_doShift at hF
  refine z_aload_n 0 X dX9_doShift_0 hl 0 rfl ?_
  refine z_iload_n 1 X dX9_doShift_1 hl 1 rfl ?_
  obtain ⟨u1, e2, hF⟩ := zbd hF
  refine z_callV 2 zc9 mv_X9_isPlace ml_9_112 0 [] (zk_118 cA 0 a_this a_this_all a_this_kept a_this_history a_this_slots a_this_isSaved a_this_stream a_this_pad v_historyLong v_streamLong v_spot v_padLong v_padSpot v_readNumber g_all) (m_X9_isPlace l D cA a_this a_this_all a_this_kept a_this_history a_this_slots a_this_isSaved a_this_stream a_this_pad v_historyLong v_streamLong v_spot v_padLong v_padSpot v_readNumber g_all i1 u1 e2) X dX9_doShift_2 hw hl rfl rfl rfl (Nat.le_of_ble_eq_true rfl) ⟨Nat.le_of_ble_eq_true rfl, Nat.le_of_ble_eq_true rfl⟩ ⟨Nat.zero_le _, Nat.zero_le _⟩ (fun H locs hw => ?_)
  refine z_if_ne 5 10 X dX9_doShift_5 (by decide) (fun c3 => ?_) (fun c3 => ?_)
  · replace hF := zneg c3 hF
    refine z_iload_n 10 X dX9_doShift_10 hl 2 rfl ?_
    refine z_i2l 11 X dX9_doShift_11 ?_
    refine z_ldc2 12 (-65535) X dX9_doShift_12 cl_9_115 ?_
    refine z_ldc2 15 65535 X dX9_doShift_15 cl_9_89 ?_
    obtain ⟨u4, e5, hF⟩ := zbd hF
    refine z_callS 18 mv_X9_in ml_9_91 [] (zk_114 cA 0 a_this a_this_all a_this_kept a_this_history a_this_slots a_this_isSaved a_this_stream a_this_pad v_historyLong v_streamLong v_spot v_padLong v_padSpot v_readNumber g_all) (m_X9_in l D cA (i2.toInt64) (-65535) 65535 u4 e5) X dX9_doShift_18 hw hl rfl rfl (Nat.le_of_ble_eq_true rfl) ⟨Nat.le_of_ble_eq_true rfl, Nat.le_of_ble_eq_true rfl⟩ ⟨Nat.zero_le _, Nat.zero_le _⟩ (fun H locs hw => ?_)
    refine z_if_ne 21 27 X dX9_doShift_21 (by decide) (fun c6 => ?_) (fun c6 => ?_)
    · replace hF := zneg c6 hF
      refine z_aload_n 27 X dX9_doShift_27 hl 0 rfl ?_
      refine z_iload_n 28 X dX9_doShift_28 hl 1 rfl ?_
      obtain ⟨u7, e8, hF⟩ := zbd hF
      refine z_callV 29 zc9 mv_X9_number ml_9_35 0 [] (zk_118 cA 0 a_this a_this_all a_this_kept a_this_history a_this_slots a_this_isSaved a_this_stream a_this_pad v_historyLong v_streamLong v_spot v_padLong v_padSpot v_readNumber g_all) (m_X9_number l D cA a_this a_this_all a_this_kept a_this_history a_this_slots a_this_isSaved a_this_stream a_this_pad v_historyLong v_streamLong v_spot v_padLong v_padSpot v_readNumber g_all i1 u7 e8) X dX9_doShift_29 hw hl rfl rfl rfl (Nat.le_of_ble_eq_true rfl) ⟨Nat.le_of_ble_eq_true rfl, Nat.le_of_ble_eq_true rfl⟩ ⟨Nat.zero_le _, Nat.zero_le _⟩ (fun H locs hw => ?_)
      refine z_iload_n 32 X dX9_doShift_32 hl 2 rfl ?_
      refine z_iadd 33 X dX9_doShift_33 ?_
      refine z_aload_n 34 X dX9_doShift_34 hl 0 rfl ?_
      refine z_iload_n 35 X dX9_doShift_35 hl 1 rfl ?_
      refine z_iconst 36 1 X dX9_doShift_36 (by decide) ?_
      refine z_isub 37 X dX9_doShift_37 ?_
      obtain ⟨u9, e10, hF⟩ := zbd hF
      refine z_callV 38 zc9 mv_X9_number ml_9_35 0 [.int (u7 + i2)] (zk_118 cA 0 a_this a_this_all a_this_kept a_this_history a_this_slots a_this_isSaved a_this_stream a_this_pad v_historyLong v_streamLong v_spot v_padLong v_padSpot v_readNumber g_all) (m_X9_number l D cA a_this a_this_all a_this_kept a_this_history a_this_slots a_this_isSaved a_this_stream a_this_pad v_historyLong v_streamLong v_spot v_padLong v_padSpot v_readNumber g_all (i1 - 1) u9 e10) X dX9_doShift_38 hw hl rfl rfl rfl (Nat.le_of_ble_eq_true rfl) ⟨Nat.le_of_ble_eq_true rfl, Nat.le_of_ble_eq_true rfl⟩ ⟨Nat.zero_le _, Nat.zero_le _⟩ (fun H locs hw => ?_)
      refine z_icmp_le 41 77 X dX9_doShift_41 (by decide) (fun c11 => ?_) (fun c11 => ?_)
      · replace hF := zpos c11 hF
        refine z_bipush 77 (-5) X dX9_doShift_77 (by decide) ?_
        cases hF
        exact z_iret 79 X dX9_doShift_79 hw rfl rfl
      · replace hF := zneg c11 hF
        refine z_aload_n 44 X dX9_doShift_44 hl 0 rfl ?_
        refine z_iload_n 45 X dX9_doShift_45 hl 1 rfl ?_
        obtain ⟨u12, e13, hF⟩ := zbd hF
        refine z_callV 46 zc9 mv_X9_number ml_9_35 0 [] (zk_118 cA 0 a_this a_this_all a_this_kept a_this_history a_this_slots a_this_isSaved a_this_stream a_this_pad v_historyLong v_streamLong v_spot v_padLong v_padSpot v_readNumber g_all) (m_X9_number l D cA a_this a_this_all a_this_kept a_this_history a_this_slots a_this_isSaved a_this_stream a_this_pad v_historyLong v_streamLong v_spot v_padLong v_padSpot v_readNumber g_all i1 u12 e13) X dX9_doShift_46 hw hl rfl rfl rfl (Nat.le_of_ble_eq_true rfl) ⟨Nat.le_of_ble_eq_true rfl, Nat.le_of_ble_eq_true rfl⟩ ⟨Nat.zero_le _, Nat.zero_le _⟩ (fun H locs hw => ?_)
        refine z_iload_n 49 X dX9_doShift_49 hl 2 rfl ?_
        refine z_iadd 50 X dX9_doShift_50 ?_
        obtain ⟨u14, e15, hF⟩ := zbd hF
        refine z_callS 51 mv_X9_isNumber ml_9_105 [] (zk_114 cA 0 a_this a_this_all a_this_kept a_this_history a_this_slots a_this_isSaved a_this_stream a_this_pad v_historyLong v_streamLong v_spot v_padLong v_padSpot v_readNumber g_all) (m_X9_isNumber l D cA (u12 + i2) u14 e15) X dX9_doShift_51 hw hl rfl rfl (Nat.le_of_ble_eq_true rfl) ⟨Nat.le_of_ble_eq_true rfl, Nat.le_of_ble_eq_true rfl⟩ ⟨Nat.zero_le _, Nat.zero_le _⟩ (fun H locs hw => ?_)
        refine z_if_eq 54 77 X dX9_doShift_54 (by decide) (fun c16 => ?_) (fun c16 => ?_)
        · replace hF := zpos c16 hF
          refine z_bipush 77 (-5) X dX9_doShift_77 (by decide) ?_
          cases hF
          exact z_iret 79 X dX9_doShift_79 hw rfl rfl
        · replace hF := zneg c16 hF
          refine z_aload_n 57 X dX9_doShift_57 hl 0 rfl ?_
          refine z_aload_n 58 X dX9_doShift_58 hl 0 rfl ?_
          refine z_get 59 zc9 0 0 fl_9_7 X dX9_doShift_59 hw rfl (by decide) rfl ?_
          refine z_iconst 62 2 X dX9_doShift_62 (by decide) ?_
          refine z_iald 63 1 (g_all 2) X dX9_doShift_63 hw rfl (by decide) rfl ?_
          refine z_iconst 64 1 X dX9_doShift_64 (by decide) ?_
          refine z_isub 65 X dX9_doShift_65 ?_
          obtain ⟨u17, e18, hF⟩ := zbd hF
          refine z_callV 66 zc9 mv_X9_number ml_9_35 0 [] (zk_118 cA 0 a_this a_this_all a_this_kept a_this_history a_this_slots a_this_isSaved a_this_stream a_this_pad v_historyLong v_streamLong v_spot v_padLong v_padSpot v_readNumber g_all) (m_X9_number l D cA a_this a_this_all a_this_kept a_this_history a_this_slots a_this_isSaved a_this_stream a_this_pad v_historyLong v_streamLong v_spot v_padLong v_padSpot v_readNumber g_all ((g_all 2) - 1) u17 e18) X dX9_doShift_66 hw hl rfl rfl rfl (Nat.le_of_ble_eq_true rfl) ⟨Nat.le_of_ble_eq_true rfl, Nat.le_of_ble_eq_true rfl⟩ ⟨Nat.zero_le _, Nat.zero_le _⟩ (fun H locs hw => ?_)
          refine z_iload_n 69 X dX9_doShift_69 hl 2 rfl ?_
          refine z_iadd 70 X dX9_doShift_70 ?_
          obtain ⟨u19, e20, hF⟩ := zbd hF
          refine z_callS 71 mv_X9_isNumber ml_9_105 [] (zk_114 cA 0 a_this a_this_all a_this_kept a_this_history a_this_slots a_this_isSaved a_this_stream a_this_pad v_historyLong v_streamLong v_spot v_padLong v_padSpot v_readNumber g_all) (m_X9_isNumber l D cA (u17 + i2) u19 e20) X dX9_doShift_71 hw hl rfl rfl (Nat.le_of_ble_eq_true rfl) ⟨Nat.le_of_ble_eq_true rfl, Nat.le_of_ble_eq_true rfl⟩ ⟨Nat.zero_le _, Nat.zero_le _⟩ (fun H locs hw => ?_)
          refine z_if_ne 74 80 X dX9_doShift_74 (by decide) (fun c21 => ?_) (fun c21 => ?_)
          · replace hF := zneg c21 hF
            refine z_iload_n 80 X dX9_doShift_80 hl 1 rfl ?_
            refine z_istore_n 81 [(3, .int i1), (0, .ref a_this), (1, .int i1), (2, .int i2)] X dX9_doShift_81 hl (by decide) rfl (fun ls hl => ?_)
            refine l_X9_doShift_82 l D cA a_this a_this_all a_this_kept a_this_history a_this_slots a_this_isSaved a_this_stream a_this_pad v_historyLong v_streamLong v_spot v_padLong v_padSpot v_readNumber i2 out X _ (fun g_all_25 H locs ls hw hl hF => ?_) zFuel g_all i1 H locs ls hw (lv_sub hl [1, 3, 0] rfl) hF
            refine z_aload_n 110 X dX9_doShift_110 hl 0 rfl ?_
            obtain ⟨u26, e27, hF⟩ := zbd hF
            refine z_callV 111 zc9 mv_X9_streamBits ml_9_117 0 [] (zk_118 cA 0 a_this a_this_all a_this_kept a_this_history a_this_slots a_this_isSaved a_this_stream a_this_pad v_historyLong v_streamLong v_spot v_padLong v_padSpot v_readNumber g_all_25) (m_X9_streamBits l D cA a_this a_this_all a_this_kept a_this_history a_this_slots a_this_isSaved a_this_stream a_this_pad v_historyLong v_streamLong v_spot v_padLong v_padSpot v_readNumber g_all_25 u26 e27) X dX9_doShift_111 hw hl rfl rfl rfl (Nat.le_of_ble_eq_true rfl) ⟨Nat.le_of_ble_eq_true rfl, Nat.le_of_ble_eq_true rfl⟩ ⟨Nat.zero_le _, Nat.zero_le _⟩ (fun H locs hw => ?_)
            cases hF
            exact z_iret 114 X dX9_doShift_114 hw rfl rfl
          · replace hF := zpos c21 hF
            refine z_bipush 77 (-5) X dX9_doShift_77 (by decide) ?_
            cases hF
            exact z_iret 79 X dX9_doShift_79 hw rfl rfl
    · replace hF := zpos c6 hF
      refine z_bipush 24 (-2) X dX9_doShift_24 (by decide) ?_
      cases hF
      exact z_iret 26 X dX9_doShift_26 hw rfl rfl
  · replace hF := zpos c3 hF
    refine z_iconst 8 (-1) X dX9_doShift_8 (by decide) ?_
    cases hF
    exact z_iret 9 X dX9_doShift_9 hw rfl rfl
theorem dX9_shift_0 : decode cX9_shift 0 = .ok (.aload_n 0, 1) := by decide +kernel
theorem dX9_shift_1 : decode cX9_shift 1 = .ok (.invokevirtual 120, 3) := by decide +kernel
theorem dX9_shift_4 : decode cX9_shift 4 = .ok (.aload_n 0, 1) := by decide +kernel
theorem dX9_shift_5 : decode cX9_shift 5 = .ok (.aload_n 0, 1) := by decide +kernel
theorem dX9_shift_6 : decode cX9_shift 6 = .ok (.iload_n 1, 1) := by decide +kernel
theorem dX9_shift_7 : decode cX9_shift 7 = .ok (.iload_n 2, 1) := by decide +kernel
theorem dX9_shift_8 : decode cX9_shift 8 = .ok (.invokevirtual 135, 3) := by decide +kernel
theorem dX9_shift_11 : decode cX9_shift 11 = .ok (.invokevirtual 126, 3) := by decide +kernel
theorem dX9_shift_14 : decode cX9_shift 14 = .ok (.ireturn, 1) := by decide +kernel
set_option maxHeartbeats 4000000 in
set_option maxRecDepth 100000 in
theorem m_X9_shift (l : Launch) (D : va_G) (cA : ClassId) (a_this a_this_all a_this_kept a_this_history a_this_slots a_this_isSaved a_this_stream a_this_pad : Nat) (v_historyLong : Int32) (v_streamLong : Int32) (v_spot : Int32) (v_padLong : Int32) (v_padSpot : Int32) (v_readNumber : Int32) (g_all : Ar) (g_history : Ar) (g_kept : Ar) (i1 : Int32) (i2 : Int32) (out : Int32 × Int32 × Ar × Ar × Ar) (hF : F_X9_shift v_historyLong g_all g_history g_kept i1 i2 = some out) : zM l D cA yX9_shift cX9_shift 3 (some .int) 8 178 [.ref a_this, .int i1, .int i2] (zw_38 cA 0 a_this a_this_all a_this_kept a_this_history a_this_slots a_this_isSaved a_this_stream a_this_pad v_historyLong v_streamLong v_spot v_padLong v_padSpot v_readNumber g_all g_history g_kept) (zw_38 cA 0 a_this a_this_all a_this_kept a_this_history a_this_slots a_this_isSaved a_this_stream a_this_pad out.2.1 v_streamLong v_spot v_padLong v_padSpot v_readNumber out.2.2.1 out.2.2.2.1 out.2.2.2.2) (some (.int out.1)) := by
  refine z_body (by decide) (Nat.le_of_ble_eq_true rfl) ?_
  intro p e s m args below meth c ls H locs A X hl hw
  have hl : lv_has ls 3 [(0, .ref a_this), (1, .int i1), (2, .int i2)] := hl
  unfold F_X9_shift at hF
  refine z_aload_n 0 X dX9_shift_0 hl 0 rfl ?_
  obtain ⟨u1, e2, hF⟩ := zbd hF
  refine z_callV 1 zc9 mv_X9_keep ml_9_120 0 [] (zk_115 cA 0 a_this a_this_all a_this_kept a_this_history a_this_slots a_this_isSaved a_this_stream a_this_pad v_historyLong v_streamLong v_spot v_padLong v_padSpot v_readNumber g_all g_history g_kept u1) (m_X9_keep l D cA a_this a_this_all a_this_kept a_this_history a_this_slots a_this_isSaved a_this_stream a_this_pad v_historyLong v_streamLong v_spot v_padLong v_padSpot v_readNumber g_all g_kept u1 e2) X dX9_shift_1 hw hl rfl rfl rfl (Nat.le_of_ble_eq_true rfl) ⟨Nat.le_of_ble_eq_true rfl, Nat.le_of_ble_eq_true rfl⟩ ⟨Nat.zero_le _, Nat.zero_le _⟩ (fun H locs hw => ?_)
  refine z_aload_n 4 X dX9_shift_4 hl 0 rfl ?_
  refine z_aload_n 5 X dX9_shift_5 hl 0 rfl ?_
  refine z_iload_n 6 X dX9_shift_6 hl 1 rfl ?_
  refine z_iload_n 7 X dX9_shift_7 hl 2 rfl ?_
  obtain ⟨u3, e4, hF⟩ := zbd hF
  refine z_callV 8 zc9 mv_X9_doShift ml_9_135 0 [.ref a_this] (zk_116 cA 0 a_this a_this_all a_this_kept a_this_history a_this_slots a_this_isSaved a_this_stream a_this_pad v_historyLong v_streamLong v_spot v_padLong v_padSpot v_readNumber g_all g_history u1 u3.2) (m_X9_doShift l D cA a_this a_this_all a_this_kept a_this_history a_this_slots a_this_isSaved a_this_stream a_this_pad v_historyLong v_streamLong v_spot v_padLong v_padSpot v_readNumber g_all i1 i2 u3 e4) X dX9_shift_8 hw hl rfl rfl rfl (Nat.le_of_ble_eq_true rfl) ⟨Nat.le_of_ble_eq_true rfl, Nat.le_of_ble_eq_true rfl⟩ ⟨Nat.zero_le _, Nat.zero_le _⟩ (fun H locs hw => ?_)
  obtain ⟨u5, e6, hF⟩ := zbd hF
  refine z_callV 11 zc9 mv_X9_changed ml_9_126 0 [] (zk_117 cA 0 a_this a_this_all a_this_kept a_this_history a_this_slots a_this_isSaved a_this_stream a_this_pad v_historyLong v_streamLong v_spot v_padLong v_padSpot v_readNumber u3.2 g_history u1 u5.2.1 u5.2.2) (m_X9_changed l D cA a_this a_this_all a_this_kept a_this_history a_this_slots a_this_isSaved a_this_stream a_this_pad v_historyLong v_streamLong v_spot v_padLong v_padSpot v_readNumber g_history u1 u3.1 u5 e6) X dX9_shift_11 hw hl rfl rfl rfl (Nat.le_of_ble_eq_true rfl) ⟨Nat.le_of_ble_eq_true rfl, Nat.le_of_ble_eq_true rfl⟩ ⟨Nat.zero_le _, Nat.zero_le _⟩ (fun H locs hw => ?_)
  cases hF
  exact z_iret 14 X dX9_shift_14 hw rfl rfl
theorem dX9_bitsAhead_0 : decode cX9_bitsAhead 0 = .ok (.aload_n 0, 1) := by decide +kernel
theorem dX9_bitsAhead_1 : decode cX9_bitsAhead 1 = .ok (.iload_n 1, 1) := by decide +kernel
theorem dX9_bitsAhead_2 : decode cX9_bitsAhead 2 = .ok (.invokevirtual 59, 3) := by decide +kernel
theorem dX9_bitsAhead_5 : decode cX9_bitsAhead 5 = .ok (.istore_n 3, 1) := by decide +kernel
theorem dX9_bitsAhead_6 : decode cX9_bitsAhead 6 = .ok (.iconst 4, 1) := by decide +kernel
theorem dX9_bitsAhead_7 : decode cX9_bitsAhead 7 = .ok (.istore 4, 2) := by decide +kernel
theorem dX9_bitsAhead_9 : decode cX9_bitsAhead 9 = .ok (.aload_n 0, 1) := by decide +kernel
theorem dX9_bitsAhead_10 : decode cX9_bitsAhead 10 = .ok (.iload_n 1, 1) := by decide +kernel
theorem dX9_bitsAhead_11 : decode cX9_bitsAhead 11 = .ok (.invokevirtual 43, 3) := by decide +kernel
theorem dX9_bitsAhead_14 : decode cX9_bitsAhead 14 = .ok (.istore 5, 2) := by decide +kernel
theorem dX9_bitsAhead_16 : decode cX9_bitsAhead 16 = .ok (.iload 5, 2) := by decide +kernel
theorem dX9_bitsAhead_18 : decode cX9_bitsAhead 18 = .ok (.iload_n 2, 1) := by decide +kernel
theorem dX9_bitsAhead_19 : decode cX9_bitsAhead 19 = .ok (.if_icmp .ge 25, 3) := by decide +kernel
theorem dX9_bitsAhead_22 : decode cX9_bitsAhead 22 = .ok (.iload 4, 2) := by decide +kernel
theorem dX9_bitsAhead_24 : decode cX9_bitsAhead 24 = .ok (.aload_n 0, 1) := by decide +kernel
theorem dX9_bitsAhead_25 : decode cX9_bitsAhead 25 = .ok (.aload_n 0, 1) := by decide +kernel
theorem dX9_bitsAhead_26 : decode cX9_bitsAhead 26 = .ok (.iload 5, 2) := by decide +kernel
theorem dX9_bitsAhead_28 : decode cX9_bitsAhead 28 = .ok (.invokevirtual 49, 3) := by decide +kernel
theorem dX9_bitsAhead_31 : decode cX9_bitsAhead 31 = .ok (.iload_n 3, 1) := by decide +kernel
theorem dX9_bitsAhead_32 : decode cX9_bitsAhead 32 = .ok (.invokevirtual 52, 3) := by decide +kernel
theorem dX9_bitsAhead_35 : decode cX9_bitsAhead 35 = .ok (.iadd, 1) := by decide +kernel
theorem dX9_bitsAhead_36 : decode cX9_bitsAhead 36 = .ok (.istore 4, 2) := by decide +kernel
theorem dX9_bitsAhead_38 : decode cX9_bitsAhead 38 = .ok (.iinc 5 1, 3) := by decide +kernel
theorem dX9_bitsAhead_41 : decode cX9_bitsAhead 41 = .ok (.goto (-25), 3) := by decide +kernel
theorem dX9_bitsAhead_44 : decode cX9_bitsAhead 44 = .ok (.iload 4, 2) := by decide +kernel
theorem dX9_bitsAhead_46 : decode cX9_bitsAhead 46 = .ok (.ireturn, 1) := by decide +kernel
set_option maxHeartbeats 4000000 in
set_option maxRecDepth 100000 in
theorem l_X9_bitsAhead_16 (l : Launch) (D : va_G) (cA : ClassId) (a_this a_this_all a_this_kept a_this_history a_this_slots a_this_isSaved a_this_stream a_this_pad : Nat) (v_historyLong : Int32) (v_streamLong : Int32) (v_spot : Int32) (v_padLong : Int32) (v_padSpot : Int32) (v_readNumber : Int32) (g_all : Ar) (i2 : Int32) (i3 : Int32) (out : Int32) {p : Program} {e : Env} {s : State} {m : MethodId} {args : Array Value} {below : List Frame} {meth : Method} {c : Code} {A : Nat → Prop} (X : zX D cA p s m args meth c cX9_bitsAhead 6 RX9 (some .int)) (k : Int32 → Option (Int32)) (hk : ∀ (i4 : Int32) (H : Heap) (locs : List Loc) (ls : Array Slot), zH D A s (zw_36 cA 0 a_this a_this_all a_this_kept a_this_history a_this_slots a_this_isSaved a_this_stream a_this_pad v_historyLong v_streamLong v_spot v_padLong v_padSpot v_readNumber g_all) H locs → lv_has ls 6 [(4, .int i4)] → k i4 = some out → W p l e (zR 4 91) s m args below meth c H locs 0 0 (MQ below (zQ D (zw_36 cA 0 a_this a_this_all a_this_kept a_this_history a_this_slots a_this_isSaved a_this_stream a_this_pad v_historyLong v_streamLong v_spot v_padLong v_padSpot v_readNumber g_all) (some (.int out)) A) args s 0 0 A) (F0 m 44 ls [])) :
    ∀ (fuel : Nat) (i4 : Int32) (i5 : Int32) (H : Heap) (locs : List Loc) (ls : Array Slot), zH D A s (zw_36 cA 0 a_this a_this_all a_this_kept a_this_history a_this_slots a_this_isSaved a_this_stream a_this_pad v_historyLong v_streamLong v_spot v_padLong v_padSpot v_readNumber g_all) H locs → lv_has ls 6 [(0, .ref a_this), (2, .int i2), (3, .int i3), (4, .int i4), (5, .int i5)] → F_X9_bitsAhead_L16 g_all i2 i3 k fuel i4 i5 = some out → W p l e (zR 4 91) s m args below meth c H locs 0 0 (MQ below (zQ D (zw_36 cA 0 a_this a_this_all a_this_kept a_this_history a_this_slots a_this_isSaved a_this_stream a_this_pad v_historyLong v_streamLong v_spot v_padLong v_padSpot v_readNumber g_all) (some (.int out)) A) args s 0 0 A) (F0 m 16 ls []) := by
  intro fuel
  induction fuel with
  | zero => intro i4 i5 H locs ls hw hl hF; exact nomatch (show (none : Option (Int32)) = some out from hF)
  | succ fuel ih =>
    intro i4 i5 H locs ls hw hl hF
    rw [F_X9_bitsAhead_L16] at hF
    refine z_iload 16 X dX9_bitsAhead_16 hl 4 rfl ?_
    refine z_iload_n 18 X dX9_bitsAhead_18 hl 1 rfl ?_
    refine z_icmp_ge 19 44 X dX9_bitsAhead_19 (by decide) (fun c5 => ?_) (fun c5 => ?_)
    · replace hF := zpos c5 hF
      exact hk i4 H locs ls hw (lv_sub hl [3] rfl) hF
    · replace hF := zneg c5 hF
      refine z_iload 22 X dX9_bitsAhead_22 hl 3 rfl ?_
      refine z_aload_n 24 X dX9_bitsAhead_24 hl 0 rfl ?_
      refine z_aload_n 25 X dX9_bitsAhead_25 hl 0 rfl ?_
      refine z_iload 26 X dX9_bitsAhead_26 hl 4 rfl ?_
      obtain ⟨u6, e7, hF⟩ := zbd hF
      refine z_callV 28 zc9 mv_X9_gapOf ml_9_49 0 [.ref a_this, .int i4] (zk_118 cA 0 a_this a_this_all a_this_kept a_this_history a_this_slots a_this_isSaved a_this_stream a_this_pad v_historyLong v_streamLong v_spot v_padLong v_padSpot v_readNumber g_all) (m_X9_gapOf l D cA a_this a_this_all a_this_kept a_this_history a_this_slots a_this_isSaved a_this_stream a_this_pad v_historyLong v_streamLong v_spot v_padLong v_padSpot v_readNumber g_all i5 u6 e7) X dX9_bitsAhead_28 hw hl rfl rfl rfl (Nat.le_of_ble_eq_true rfl) ⟨Nat.le_of_ble_eq_true rfl, Nat.le_of_ble_eq_true rfl⟩ ⟨Nat.zero_le _, Nat.zero_le _⟩ (fun H locs hw => ?_)
      refine z_iload_n 31 X dX9_bitsAhead_31 hl 2 rfl ?_
      obtain ⟨u8, e9, hF⟩ := zbd hF
      refine z_callV 32 zc9 mv_X9_codeBits ml_9_52 0 [.int i4] (zk_118 cA 0 a_this a_this_all a_this_kept a_this_history a_this_slots a_this_isSaved a_this_stream a_this_pad v_historyLong v_streamLong v_spot v_padLong v_padSpot v_readNumber g_all) (m_X9_codeBits l D cA a_this a_this_all a_this_kept a_this_history a_this_slots a_this_isSaved a_this_stream a_this_pad v_historyLong v_streamLong v_spot v_padLong v_padSpot v_readNumber g_all u6 i3 u8 e9) X dX9_bitsAhead_32 hw hl rfl rfl rfl (Nat.le_of_ble_eq_true rfl) ⟨Nat.le_of_ble_eq_true rfl, Nat.le_of_ble_eq_true rfl⟩ ⟨Nat.zero_le _, Nat.zero_le _⟩ (fun H locs hw => ?_)
      refine z_iadd 35 X dX9_bitsAhead_35 ?_
      refine z_istore 36 [(4, .int (i4 + u8)), (0, .ref a_this), (2, .int i2), (3, .int i3), (5, .int i5)] X dX9_bitsAhead_36 hl (by decide) rfl (fun ls hl => ?_)
      refine z_iinc2 38 1 [(5, .int (i5 + 1)), (4, .int (i4 + u8)), (0, .ref a_this), (2, .int i2), (3, .int i3)] X dX9_bitsAhead_38 hl 4 rfl (by decide) (by decide) rfl (fun ls hl => ?_)
      refine z_goto 41 16 X dX9_bitsAhead_41 (by decide) ?_
      exact ih (i4 + u8) (i5 + 1) H locs ls hw (lv_sub hl [2, 3, 4, 1, 0] rfl) hF
set_option maxHeartbeats 4000000 in
set_option maxRecDepth 100000 in
theorem m_X9_bitsAhead (l : Launch) (D : va_G) (cA : ClassId) (a_this a_this_all a_this_kept a_this_history a_this_slots a_this_isSaved a_this_stream a_this_pad : Nat) (v_historyLong : Int32) (v_streamLong : Int32) (v_spot : Int32) (v_padLong : Int32) (v_padSpot : Int32) (v_readNumber : Int32) (g_all : Ar) (i1 : Int32) (i2 : Int32) (out : Int32) (hF : F_X9_bitsAhead g_all i1 i2 = some out) : zM l D cA yX9_bitsAhead cX9_bitsAhead 6 (some .int) 4 91 [.ref a_this, .int i1, .int i2] (zw_36 cA 0 a_this a_this_all a_this_kept a_this_history a_this_slots a_this_isSaved a_this_stream a_this_pad v_historyLong v_streamLong v_spot v_padLong v_padSpot v_readNumber g_all) (zw_36 cA 0 a_this a_this_all a_this_kept a_this_history a_this_slots a_this_isSaved a_this_stream a_this_pad v_historyLong v_streamLong v_spot v_padLong v_padSpot v_readNumber g_all) (some (.int out)) := by
  refine z_body (by decide) (Nat.le_of_ble_eq_true rfl) ?_
  intro p e s m args below meth c ls H locs A X hl hw
  have hl : lv_has ls 6 [(0, .ref a_this), (1, .int i1), (2, .int i2)] := hl
  unfold F_X9_bitsAhead at hF
  refine z_aload_n 0 X dX9_bitsAhead_0 hl 0 rfl ?_
  refine z_iload_n 1 X dX9_bitsAhead_1 hl 1 rfl ?_
  obtain ⟨u1, e2, hF⟩ := zbd hF
  refine z_callV 2 zc9 mv_X9_exponentOf ml_9_59 0 [] (zk_118 cA 0 a_this a_this_all a_this_kept a_this_history a_this_slots a_this_isSaved a_this_stream a_this_pad v_historyLong v_streamLong v_spot v_padLong v_padSpot v_readNumber g_all) (m_X9_exponentOf l D cA a_this a_this_all a_this_kept a_this_history a_this_slots a_this_isSaved a_this_stream a_this_pad v_historyLong v_streamLong v_spot v_padLong v_padSpot v_readNumber g_all i1 u1 e2) X dX9_bitsAhead_2 hw hl rfl rfl rfl (Nat.le_of_ble_eq_true rfl) ⟨Nat.le_of_ble_eq_true rfl, Nat.le_of_ble_eq_true rfl⟩ ⟨Nat.zero_le _, Nat.zero_le _⟩ (fun H locs hw => ?_)
  refine z_istore_n 5 [(3, .int u1), (0, .ref a_this), (1, .int i1), (2, .int i2)] X dX9_bitsAhead_5 hl (by decide) rfl (fun ls hl => ?_)
  refine z_iconst 6 4 X dX9_bitsAhead_6 (by decide) ?_
  refine z_istore 7 [(4, .int 4), (3, .int u1), (0, .ref a_this), (1, .int i1), (2, .int i2)] X dX9_bitsAhead_7 hl (by decide) rfl (fun ls hl => ?_)
  refine z_aload_n 9 X dX9_bitsAhead_9 hl 2 rfl ?_
  refine z_iload_n 10 X dX9_bitsAhead_10 hl 3 rfl ?_
  obtain ⟨u3, e4, hF⟩ := zbd hF
  refine z_callV 11 zc9 mv_X9_first ml_9_43 0 [] (zk_118 cA 0 a_this a_this_all a_this_kept a_this_history a_this_slots a_this_isSaved a_this_stream a_this_pad v_historyLong v_streamLong v_spot v_padLong v_padSpot v_readNumber g_all) (m_X9_first l D cA a_this a_this_all a_this_kept a_this_history a_this_slots a_this_isSaved a_this_stream a_this_pad v_historyLong v_streamLong v_spot v_padLong v_padSpot v_readNumber g_all i1 u3 e4) X dX9_bitsAhead_11 hw hl rfl rfl rfl (Nat.le_of_ble_eq_true rfl) ⟨Nat.le_of_ble_eq_true rfl, Nat.le_of_ble_eq_true rfl⟩ ⟨Nat.zero_le _, Nat.zero_le _⟩ (fun H locs hw => ?_)
  refine z_istore 14 [(5, .int u3), (4, .int 4), (3, .int u1), (0, .ref a_this), (1, .int i1), (2, .int i2)] X dX9_bitsAhead_14 hl (by decide) rfl (fun ls hl => ?_)
  refine l_X9_bitsAhead_16 l D cA a_this a_this_all a_this_kept a_this_history a_this_slots a_this_isSaved a_this_stream a_this_pad v_historyLong v_streamLong v_spot v_padLong v_padSpot v_readNumber g_all i2 u1 out X _ (fun i4_10 H locs ls hw hl hF => ?_) zFuel 4 u3 H locs ls hw (lv_sub hl [3, 5, 2, 1, 0] rfl) hF
  refine z_iload 44 X dX9_bitsAhead_44 hl 0 rfl ?_
  cases hF
  exact z_iret 46 X dX9_bitsAhead_46 hw rfl rfl
theorem dX9_gap_0 : decode cX9_gap 0 = .ok (.aload_n 0, 1) := by decide +kernel
theorem dX9_gap_1 : decode cX9_gap 1 = .ok (.iload_n 1, 1) := by decide +kernel
theorem dX9_gap_2 : decode cX9_gap 2 = .ok (.invokevirtual 112, 3) := by decide +kernel
theorem dX9_gap_5 : decode cX9_gap 5 = .ok (.ifCond .ne 5, 3) := by decide +kernel
theorem dX9_gap_8 : decode cX9_gap 8 = .ok (.iconst (-1), 1) := by decide +kernel
theorem dX9_gap_9 : decode cX9_gap 9 = .ok (.ireturn, 1) := by decide +kernel
theorem dX9_gap_10 : decode cX9_gap 10 = .ok (.iload_n 1, 1) := by decide +kernel
theorem dX9_gap_11 : decode cX9_gap 11 = .ok (.aload_n 0, 1) := by decide +kernel
theorem dX9_gap_12 : decode cX9_gap 12 = .ok (.getfield 7, 3) := by decide +kernel
theorem dX9_gap_15 : decode cX9_gap 15 = .ok (.iconst 0, 1) := by decide +kernel
theorem dX9_gap_16 : decode cX9_gap 16 = .ok (.iaload, 1) := by decide +kernel
theorem dX9_gap_17 : decode cX9_gap 17 = .ok (.idiv, 1) := by decide +kernel
theorem dX9_gap_18 : decode cX9_gap 18 = .ok (.istore_n 3, 1) := by decide +kernel
theorem dX9_gap_19 : decode cX9_gap 19 = .ok (.aload_n 0, 1) := by decide +kernel
theorem dX9_gap_20 : decode cX9_gap 20 = .ok (.iload_n 3, 1) := by decide +kernel
theorem dX9_gap_21 : decode cX9_gap 21 = .ok (.invokevirtual 59, 3) := by decide +kernel
theorem dX9_gap_24 : decode cX9_gap 24 = .ok (.istore 4, 2) := by decide +kernel
theorem dX9_gap_26 : decode cX9_gap 26 = .ok (.iload_n 2, 1) := by decide +kernel
theorem dX9_gap_27 : decode cX9_gap 27 = .ok (.tableswitch 86 0 4 #[33, 39, 41, 53, 73], 33) := by decide +kernel
theorem dX9_gap_60 : decode cX9_gap 60 = .ok (.aload_n 0, 1) := by decide +kernel
theorem dX9_gap_61 : decode cX9_gap 61 = .ok (.iload_n 1, 1) := by decide +kernel
theorem dX9_gap_62 : decode cX9_gap 62 = .ok (.invokevirtual 49, 3) := by decide +kernel
theorem dX9_gap_65 : decode cX9_gap 65 = .ok (.ireturn, 1) := by decide +kernel
theorem dX9_gap_66 : decode cX9_gap 66 = .ok (.iload_n 3, 1) := by decide +kernel
theorem dX9_gap_67 : decode cX9_gap 67 = .ok (.ireturn, 1) := by decide +kernel
theorem dX9_gap_68 : decode cX9_gap 68 = .ok (.aload_n 0, 1) := by decide +kernel
theorem dX9_gap_69 : decode cX9_gap 69 = .ok (.aload_n 0, 1) := by decide +kernel
theorem dX9_gap_70 : decode cX9_gap 70 = .ok (.iload_n 1, 1) := by decide +kernel
theorem dX9_gap_71 : decode cX9_gap 71 = .ok (.invokevirtual 49, 3) := by decide +kernel
theorem dX9_gap_74 : decode cX9_gap 74 = .ok (.iload 4, 2) := by decide +kernel
theorem dX9_gap_76 : decode cX9_gap 76 = .ok (.invokevirtual 52, 3) := by decide +kernel
theorem dX9_gap_79 : decode cX9_gap 79 = .ok (.ireturn, 1) := by decide +kernel
theorem dX9_gap_80 : decode cX9_gap 80 = .ok (.aload_n 0, 1) := by decide +kernel
theorem dX9_gap_81 : decode cX9_gap 81 = .ok (.aload_n 0, 1) := by decide +kernel
theorem dX9_gap_82 : decode cX9_gap 82 = .ok (.iload_n 1, 1) := by decide +kernel
theorem dX9_gap_83 : decode cX9_gap 83 = .ok (.invokevirtual 49, 3) := by decide +kernel
theorem dX9_gap_86 : decode cX9_gap 86 = .ok (.iload 4, 2) := by decide +kernel
theorem dX9_gap_88 : decode cX9_gap 88 = .ok (.invokevirtual 39, 3) := by decide +kernel
theorem dX9_gap_91 : decode cX9_gap 91 = .ok (.ifCond .eq 7, 3) := by decide +kernel
theorem dX9_gap_94 : decode cX9_gap 94 = .ok (.iconst 1, 1) := by decide +kernel
theorem dX9_gap_95 : decode cX9_gap 95 = .ok (.goto 4, 3) := by decide +kernel
theorem dX9_gap_98 : decode cX9_gap 98 = .ok (.iconst 0, 1) := by decide +kernel
theorem dX9_gap_99 : decode cX9_gap 99 = .ok (.ireturn, 1) := by decide +kernel
theorem dX9_gap_100 : decode cX9_gap 100 = .ok (.aload_n 0, 1) := by decide +kernel
theorem dX9_gap_101 : decode cX9_gap 101 = .ok (.iload_n 3, 1) := by decide +kernel
theorem dX9_gap_102 : decode cX9_gap 102 = .ok (.invokevirtual 69, 3) := by decide +kernel
theorem dX9_gap_105 : decode cX9_gap 105 = .ok (.aload_n 0, 1) := by decide +kernel
theorem dX9_gap_106 : decode cX9_gap 106 = .ok (.iload_n 3, 1) := by decide +kernel
theorem dX9_gap_107 : decode cX9_gap 107 = .ok (.iload_n 1, 1) := by decide +kernel
theorem dX9_gap_108 : decode cX9_gap 108 = .ok (.invokevirtual 138, 3) := by decide +kernel
theorem dX9_gap_111 : decode cX9_gap 111 = .ok (.iadd, 1) := by decide +kernel
theorem dX9_gap_112 : decode cX9_gap 112 = .ok (.ireturn, 1) := by decide +kernel
theorem dX9_gap_113 : decode cX9_gap 113 = .ok (.bipush (-2), 2) := by decide +kernel
theorem dX9_gap_115 : decode cX9_gap 115 = .ok (.ireturn, 1) := by decide +kernel
set_option maxHeartbeats 4000000 in
set_option maxRecDepth 100000 in
theorem m_X9_gap (l : Launch) (D : va_G) (cA : ClassId) (a_this a_this_all a_this_kept a_this_history a_this_slots a_this_isSaved a_this_stream a_this_pad : Nat) (v_historyLong : Int32) (v_streamLong : Int32) (v_spot : Int32) (v_padLong : Int32) (v_padSpot : Int32) (v_readNumber : Int32) (g_all : Ar) (i1 : Int32) (i2 : Int32) (out : Int32) (hF : F_X9_gap g_all i1 i2 = some out) : zM l D cA yX9_gap cX9_gap 5 (some .int) 6 135 [.ref a_this, .int i1, .int i2] (zw_36 cA 0 a_this a_this_all a_this_kept a_this_history a_this_slots a_this_isSaved a_this_stream a_this_pad v_historyLong v_streamLong v_spot v_padLong v_padSpot v_readNumber g_all) (zw_36 cA 0 a_this a_this_all a_this_kept a_this_history a_this_slots a_this_isSaved a_this_stream a_this_pad v_historyLong v_streamLong v_spot v_padLong v_padSpot v_readNumber g_all) (some (.int out)) := by
  refine z_body (by decide) (Nat.le_of_ble_eq_true rfl) ?_
  intro p e s m args below meth c ls H locs A X hl hw
  have hl : lv_has ls 5 [(0, .ref a_this), (1, .int i1), (2, .int i2)] := hl
  unfold F_X9_gap at hF
  refine z_aload_n 0 X dX9_gap_0 hl 0 rfl ?_
  refine z_iload_n 1 X dX9_gap_1 hl 1 rfl ?_
  obtain ⟨u1, e2, hF⟩ := zbd hF
  refine z_callV 2 zc9 mv_X9_isPlace ml_9_112 0 [] (zk_118 cA 0 a_this a_this_all a_this_kept a_this_history a_this_slots a_this_isSaved a_this_stream a_this_pad v_historyLong v_streamLong v_spot v_padLong v_padSpot v_readNumber g_all) (m_X9_isPlace l D cA a_this a_this_all a_this_kept a_this_history a_this_slots a_this_isSaved a_this_stream a_this_pad v_historyLong v_streamLong v_spot v_padLong v_padSpot v_readNumber g_all i1 u1 e2) X dX9_gap_2 hw hl rfl rfl rfl (Nat.le_of_ble_eq_true rfl) ⟨Nat.le_of_ble_eq_true rfl, Nat.le_of_ble_eq_true rfl⟩ ⟨Nat.zero_le _, Nat.zero_le _⟩ (fun H locs hw => ?_)
  refine z_if_ne 5 10 X dX9_gap_5 (by decide) (fun c3 => ?_) (fun c3 => ?_)
  · replace hF := zneg c3 hF
    refine z_iload_n 10 X dX9_gap_10 hl 1 rfl ?_
    refine z_aload_n 11 X dX9_gap_11 hl 0 rfl ?_
    refine z_get 12 zc9 0 0 fl_9_7 X dX9_gap_12 hw rfl (by decide) rfl ?_
    refine z_iconst 15 0 X dX9_gap_15 (by decide) ?_
    refine z_iald 16 1 (g_all 0) X dX9_gap_16 hw rfl (by decide) rfl ?_
    obtain ⟨gd4, hF⟩ := zgd hF
    refine z_idiv 17 X dX9_gap_17 gd4 ?_
    refine z_istore_n 18 [(3, .int (i1 / (g_all 0))), (0, .ref a_this), (1, .int i1), (2, .int i2)] X dX9_gap_18 hl (by decide) rfl (fun ls hl => ?_)
    refine z_aload_n 19 X dX9_gap_19 hl 1 rfl ?_
    refine z_iload_n 20 X dX9_gap_20 hl 0 rfl ?_
    obtain ⟨u5, e6, hF⟩ := zbd hF
    refine z_callV 21 zc9 mv_X9_exponentOf ml_9_59 0 [] (zk_118 cA 0 a_this a_this_all a_this_kept a_this_history a_this_slots a_this_isSaved a_this_stream a_this_pad v_historyLong v_streamLong v_spot v_padLong v_padSpot v_readNumber g_all) (m_X9_exponentOf l D cA a_this a_this_all a_this_kept a_this_history a_this_slots a_this_isSaved a_this_stream a_this_pad v_historyLong v_streamLong v_spot v_padLong v_padSpot v_readNumber g_all (i1 / (g_all 0)) u5 e6) X dX9_gap_21 hw hl rfl rfl rfl (Nat.le_of_ble_eq_true rfl) ⟨Nat.le_of_ble_eq_true rfl, Nat.le_of_ble_eq_true rfl⟩ ⟨Nat.zero_le _, Nat.zero_le _⟩ (fun H locs hw => ?_)
    refine z_istore 24 [(4, .int u5), (3, .int (i1 / (g_all 0))), (0, .ref a_this), (1, .int i1), (2, .int i2)] X dX9_gap_24 hl (by decide) rfl (fun ls hl => ?_)
    refine z_iload_n 26 X dX9_gap_26 hl 4 rfl ?_
    by_cases c7 : i2 = 0
    · replace hF := zpos c7 hF
      refine z_swIn 27 60 0 X dX9_gap_27 c7 ⟨by decide, by decide, rfl⟩ (by decide) ?_
      refine z_aload_n 60 X dX9_gap_60 hl 2 rfl ?_
      refine z_iload_n 61 X dX9_gap_61 hl 3 rfl ?_
      obtain ⟨u8, e9, hF⟩ := zbd hF
      refine z_callV 62 zc9 mv_X9_gapOf ml_9_49 0 [] (zk_118 cA 0 a_this a_this_all a_this_kept a_this_history a_this_slots a_this_isSaved a_this_stream a_this_pad v_historyLong v_streamLong v_spot v_padLong v_padSpot v_readNumber g_all) (m_X9_gapOf l D cA a_this a_this_all a_this_kept a_this_history a_this_slots a_this_isSaved a_this_stream a_this_pad v_historyLong v_streamLong v_spot v_padLong v_padSpot v_readNumber g_all i1 u8 e9) X dX9_gap_62 hw hl rfl rfl rfl (Nat.le_of_ble_eq_true rfl) ⟨Nat.le_of_ble_eq_true rfl, Nat.le_of_ble_eq_true rfl⟩ ⟨Nat.zero_le _, Nat.zero_le _⟩ (fun H locs hw => ?_)
      cases hF
      exact z_iret 65 X dX9_gap_65 hw rfl rfl
    · replace hF := zneg c7 hF
      by_cases c10 : i2 = 1
      · replace hF := zpos c10 hF
        refine z_swIn 27 66 1 X dX9_gap_27 c10 ⟨by decide, by decide, rfl⟩ (by decide) ?_
        refine z_iload_n 66 X dX9_gap_66 hl 1 rfl ?_
        cases hF
        exact z_iret 67 X dX9_gap_67 hw rfl rfl
      · replace hF := zneg c10 hF
        by_cases c11 : i2 = 2
        · replace hF := zpos c11 hF
          refine z_swIn 27 68 2 X dX9_gap_27 c11 ⟨by decide, by decide, rfl⟩ (by decide) ?_
          refine z_aload_n 68 X dX9_gap_68 hl 2 rfl ?_
          refine z_aload_n 69 X dX9_gap_69 hl 2 rfl ?_
          refine z_iload_n 70 X dX9_gap_70 hl 3 rfl ?_
          obtain ⟨u12, e13, hF⟩ := zbd hF
          refine z_callV 71 zc9 mv_X9_gapOf ml_9_49 0 [.ref a_this] (zk_118 cA 0 a_this a_this_all a_this_kept a_this_history a_this_slots a_this_isSaved a_this_stream a_this_pad v_historyLong v_streamLong v_spot v_padLong v_padSpot v_readNumber g_all) (m_X9_gapOf l D cA a_this a_this_all a_this_kept a_this_history a_this_slots a_this_isSaved a_this_stream a_this_pad v_historyLong v_streamLong v_spot v_padLong v_padSpot v_readNumber g_all i1 u12 e13) X dX9_gap_71 hw hl rfl rfl rfl (Nat.le_of_ble_eq_true rfl) ⟨Nat.le_of_ble_eq_true rfl, Nat.le_of_ble_eq_true rfl⟩ ⟨Nat.zero_le _, Nat.zero_le _⟩ (fun H locs hw => ?_)
          refine z_iload 74 X dX9_gap_74 hl 0 rfl ?_
          obtain ⟨u14, e15, hF⟩ := zbd hF
          refine z_callV 76 zc9 mv_X9_codeBits ml_9_52 0 [] (zk_118 cA 0 a_this a_this_all a_this_kept a_this_history a_this_slots a_this_isSaved a_this_stream a_this_pad v_historyLong v_streamLong v_spot v_padLong v_padSpot v_readNumber g_all) (m_X9_codeBits l D cA a_this a_this_all a_this_kept a_this_history a_this_slots a_this_isSaved a_this_stream a_this_pad v_historyLong v_streamLong v_spot v_padLong v_padSpot v_readNumber g_all u12 u5 u14 e15) X dX9_gap_76 hw hl rfl rfl rfl (Nat.le_of_ble_eq_true rfl) ⟨Nat.le_of_ble_eq_true rfl, Nat.le_of_ble_eq_true rfl⟩ ⟨Nat.zero_le _, Nat.zero_le _⟩ (fun H locs hw => ?_)
          cases hF
          exact z_iret 79 X dX9_gap_79 hw rfl rfl
        · replace hF := zneg c11 hF
          by_cases c16 : i2 = 3
          · replace hF := zpos c16 hF
            refine z_swIn 27 80 3 X dX9_gap_27 c16 ⟨by decide, by decide, rfl⟩ (by decide) ?_
            refine z_aload_n 80 X dX9_gap_80 hl 2 rfl ?_
            refine z_aload_n 81 X dX9_gap_81 hl 2 rfl ?_
            refine z_iload_n 82 X dX9_gap_82 hl 3 rfl ?_
            obtain ⟨u17, e18, hF⟩ := zbd hF
            refine z_callV 83 zc9 mv_X9_gapOf ml_9_49 0 [.ref a_this] (zk_118 cA 0 a_this a_this_all a_this_kept a_this_history a_this_slots a_this_isSaved a_this_stream a_this_pad v_historyLong v_streamLong v_spot v_padLong v_padSpot v_readNumber g_all) (m_X9_gapOf l D cA a_this a_this_all a_this_kept a_this_history a_this_slots a_this_isSaved a_this_stream a_this_pad v_historyLong v_streamLong v_spot v_padLong v_padSpot v_readNumber g_all i1 u17 e18) X dX9_gap_83 hw hl rfl rfl rfl (Nat.le_of_ble_eq_true rfl) ⟨Nat.le_of_ble_eq_true rfl, Nat.le_of_ble_eq_true rfl⟩ ⟨Nat.zero_le _, Nat.zero_le _⟩ (fun H locs hw => ?_)
            refine z_iload 86 X dX9_gap_86 hl 0 rfl ?_
            obtain ⟨u19, e20, hF⟩ := zbd hF
            refine z_callV 88 zc9 mv_X9_isEscape ml_9_39 0 [] (zk_118 cA 0 a_this a_this_all a_this_kept a_this_history a_this_slots a_this_isSaved a_this_stream a_this_pad v_historyLong v_streamLong v_spot v_padLong v_padSpot v_readNumber g_all) (m_X9_isEscape l D cA a_this a_this_all a_this_kept a_this_history a_this_slots a_this_isSaved a_this_stream a_this_pad v_historyLong v_streamLong v_spot v_padLong v_padSpot v_readNumber g_all u17 u5 u19 e20) X dX9_gap_88 hw hl rfl rfl rfl (Nat.le_of_ble_eq_true rfl) ⟨Nat.le_of_ble_eq_true rfl, Nat.le_of_ble_eq_true rfl⟩ ⟨Nat.zero_le _, Nat.zero_le _⟩ (fun H locs hw => ?_)
            refine z_if_eq 91 98 X dX9_gap_91 (by decide) (fun c21 => ?_) (fun c21 => ?_)
            · replace hF := zpos c21 hF
              refine z_iconst 98 0 X dX9_gap_98 (by decide) ?_
              cases hF
              exact z_iret 99 X dX9_gap_99 hw rfl rfl
            · replace hF := zneg c21 hF
              refine z_iconst 94 1 X dX9_gap_94 (by decide) ?_
              refine z_goto 95 99 X dX9_gap_95 (by decide) ?_
              cases hF
              exact z_iret 99 X dX9_gap_99 hw rfl rfl
          · replace hF := zneg c16 hF
            by_cases c22 : i2 = 4
            · replace hF := zpos c22 hF
              refine z_swIn 27 100 4 X dX9_gap_27 c22 ⟨by decide, by decide, rfl⟩ (by decide) ?_
              refine z_aload_n 100 X dX9_gap_100 hl 2 rfl ?_
              refine z_iload_n 101 X dX9_gap_101 hl 1 rfl ?_
              obtain ⟨u23, e24, hF⟩ := zbd hF
              refine z_callV 102 zc9 mv_X9_skip ml_9_69 0 [] (zk_118 cA 0 a_this a_this_all a_this_kept a_this_history a_this_slots a_this_isSaved a_this_stream a_this_pad v_historyLong v_streamLong v_spot v_padLong v_padSpot v_readNumber g_all) (m_X9_skip l D cA a_this a_this_all a_this_kept a_this_history a_this_slots a_this_isSaved a_this_stream a_this_pad v_historyLong v_streamLong v_spot v_padLong v_padSpot v_readNumber g_all (i1 / (g_all 0)) u23 e24) X dX9_gap_102 hw hl rfl rfl rfl (Nat.le_of_ble_eq_true rfl) ⟨Nat.le_of_ble_eq_true rfl, Nat.le_of_ble_eq_true rfl⟩ ⟨Nat.zero_le _, Nat.zero_le _⟩ (fun H locs hw => ?_)
              refine z_aload_n 105 X dX9_gap_105 hl 2 rfl ?_
              refine z_iload_n 106 X dX9_gap_106 hl 1 rfl ?_
              refine z_iload_n 107 X dX9_gap_107 hl 3 rfl ?_
              obtain ⟨u25, e26, hF⟩ := zbd hF
              refine z_callV 108 zc9 mv_X9_bitsAhead ml_9_138 0 [.int u23] (zk_118 cA 0 a_this a_this_all a_this_kept a_this_history a_this_slots a_this_isSaved a_this_stream a_this_pad v_historyLong v_streamLong v_spot v_padLong v_padSpot v_readNumber g_all) (m_X9_bitsAhead l D cA a_this a_this_all a_this_kept a_this_history a_this_slots a_this_isSaved a_this_stream a_this_pad v_historyLong v_streamLong v_spot v_padLong v_padSpot v_readNumber g_all (i1 / (g_all 0)) i1 u25 e26) X dX9_gap_108 hw hl rfl rfl rfl (Nat.le_of_ble_eq_true rfl) ⟨Nat.le_of_ble_eq_true rfl, Nat.le_of_ble_eq_true rfl⟩ ⟨Nat.zero_le _, Nat.zero_le _⟩ (fun H locs hw => ?_)
              refine z_iadd 111 X dX9_gap_111 ?_
              cases hF
              exact z_iret 112 X dX9_gap_112 hw rfl rfl
            · replace hF := zneg c22 hF
              refine z_swOut 27 113 5 X dX9_gap_27 (by decide) ⟨⟨⟨⟨⟨trivial, c7⟩, c10⟩, c11⟩, c16⟩, c22⟩ (by decide) ?_
              refine z_bipush 113 (-2) X dX9_gap_113 (by decide) ?_
              cases hF
              exact z_iret 115 X dX9_gap_115 hw rfl rfl
  · replace hF := zpos c3 hF
    refine z_iconst 8 (-1) X dX9_gap_8 (by decide) ?_
    cases hF
    exact z_iret 9 X dX9_gap_9 hw rfl rfl
theorem dX9_isBlock_0 : decode cX9_isBlock 0 = .ok (.iload_n 1, 1) := by decide +kernel
theorem dX9_isBlock_1 : decode cX9_isBlock 1 = .ok (.i2l, 1) := by decide +kernel
theorem dX9_isBlock_2 : decode cX9_isBlock 2 = .ok (.lconst 0, 1) := by decide +kernel
theorem dX9_isBlock_3 : decode cX9_isBlock 3 = .ok (.aload_n 0, 1) := by decide +kernel
theorem dX9_isBlock_4 : decode cX9_isBlock 4 = .ok (.invokevirtual 65, 3) := by decide +kernel
theorem dX9_isBlock_7 : decode cX9_isBlock 7 = .ok (.i2l, 1) := by decide +kernel
theorem dX9_isBlock_8 : decode cX9_isBlock 8 = .ok (.lconst 1, 1) := by decide +kernel
theorem dX9_isBlock_9 : decode cX9_isBlock 9 = .ok (.lsub, 1) := by decide +kernel
theorem dX9_isBlock_10 : decode cX9_isBlock 10 = .ok (.invokestatic 91, 3) := by decide +kernel
theorem dX9_isBlock_13 : decode cX9_isBlock 13 = .ok (.ireturn, 1) := by decide +kernel
set_option maxHeartbeats 4000000 in
set_option maxRecDepth 100000 in
theorem m_X9_isBlock (l : Launch) (D : va_G) (cA : ClassId) (a_this a_this_all a_this_kept a_this_history a_this_slots a_this_isSaved a_this_stream a_this_pad : Nat) (v_historyLong : Int32) (v_streamLong : Int32) (v_spot : Int32) (v_padLong : Int32) (v_padSpot : Int32) (v_readNumber : Int32) (g_all : Ar) (i1 : Int32) (out : Int32) (hF : F_X9_isBlock g_all i1 = some out) : zM l D cA yX9_isBlock cX9_isBlock 2 (some .boolean) 1 25 [.ref a_this, .int i1] (zw_36 cA 0 a_this a_this_all a_this_kept a_this_history a_this_slots a_this_isSaved a_this_stream a_this_pad v_historyLong v_streamLong v_spot v_padLong v_padSpot v_readNumber g_all) (zw_36 cA 0 a_this a_this_all a_this_kept a_this_history a_this_slots a_this_isSaved a_this_stream a_this_pad v_historyLong v_streamLong v_spot v_padLong v_padSpot v_readNumber g_all) (some (.int out)) := by
  refine z_body (by decide) (Nat.le_of_ble_eq_true rfl) ?_
  intro p e s m args below meth c ls H locs A X hl hw
  have hl : lv_has ls 2 [(0, .ref a_this), (1, .int i1)] := hl
  unfold F_X9_isBlock at hF
  refine z_iload_n 0 X dX9_isBlock_0 hl 1 rfl ?_
  refine z_i2l 1 X dX9_isBlock_1 ?_
  refine z_lconst 2 0 X dX9_isBlock_2 (by decide) ?_
  refine z_aload_n 3 X dX9_isBlock_3 hl 0 rfl ?_
  obtain ⟨u1, e2, hF⟩ := zbd hF
  refine z_callV 4 zc9 mv_X9_blocks ml_9_65 0 [.long 0, .long (i1.toInt64)] (zk_118 cA 0 a_this a_this_all a_this_kept a_this_history a_this_slots a_this_isSaved a_this_stream a_this_pad v_historyLong v_streamLong v_spot v_padLong v_padSpot v_readNumber g_all) (m_X9_blocks l D cA a_this a_this_all a_this_kept a_this_history a_this_slots a_this_isSaved a_this_stream a_this_pad v_historyLong v_streamLong v_spot v_padLong v_padSpot v_readNumber g_all u1 e2) X dX9_isBlock_4 hw hl rfl rfl rfl (Nat.le_of_ble_eq_true rfl) ⟨Nat.le_of_ble_eq_true rfl, Nat.le_of_ble_eq_true rfl⟩ ⟨Nat.zero_le _, Nat.zero_le _⟩ (fun H locs hw => ?_)
  refine z_i2l 7 X dX9_isBlock_7 ?_
  refine z_lconst 8 1 X dX9_isBlock_8 (by decide) ?_
  refine z_lsub 9 X dX9_isBlock_9 ?_
  obtain ⟨u3, e4, hF⟩ := zbd hF
  refine z_callS 10 mv_X9_in ml_9_91 [] (zk_114 cA 0 a_this a_this_all a_this_kept a_this_history a_this_slots a_this_isSaved a_this_stream a_this_pad v_historyLong v_streamLong v_spot v_padLong v_padSpot v_readNumber g_all) (m_X9_in l D cA (i1.toInt64) 0 ((u1.toInt64) - 1) u3 e4) X dX9_isBlock_10 hw hl rfl rfl (Nat.le_of_ble_eq_true rfl) ⟨Nat.le_of_ble_eq_true rfl, Nat.le_of_ble_eq_true rfl⟩ ⟨Nat.zero_le _, Nat.zero_le _⟩ (fun H locs hw => ?_)
  obtain ⟨gz, hF⟩ := zgd hF
  cases hF
  exact z_zret 13 X dX9_isBlock_13 hw gz rfl rfl
theorem dX9_base_0 : decode cX9_base 0 = .ok (.aload_n 0, 1) := by decide +kernel
theorem dX9_base_1 : decode cX9_base 1 = .ok (.aload_n 0, 1) := by decide +kernel
theorem dX9_base_2 : decode cX9_base 2 = .ok (.iload_n 1, 1) := by decide +kernel
theorem dX9_base_3 : decode cX9_base 3 = .ok (.invokevirtual 43, 3) := by decide +kernel
theorem dX9_base_6 : decode cX9_base 6 = .ok (.iconst 1, 1) := by decide +kernel
theorem dX9_base_7 : decode cX9_base 7 = .ok (.isub, 1) := by decide +kernel
theorem dX9_base_8 : decode cX9_base 8 = .ok (.invokevirtual 35, 3) := by decide +kernel
theorem dX9_base_11 : decode cX9_base 11 = .ok (.ireturn, 1) := by decide +kernel
set_option maxHeartbeats 4000000 in
set_option maxRecDepth 100000 in
theorem m_X9_base (l : Launch) (D : va_G) (cA : ClassId) (a_this a_this_all a_this_kept a_this_history a_this_slots a_this_isSaved a_this_stream a_this_pad : Nat) (v_historyLong : Int32) (v_streamLong : Int32) (v_spot : Int32) (v_padLong : Int32) (v_padSpot : Int32) (v_readNumber : Int32) (g_all : Ar) (i1 : Int32) (out : Int32) (hF : F_X9_base g_all i1 = some out) : zM l D cA yX9_base cX9_base 2 (some .int) 1 21 [.ref a_this, .int i1] (zw_36 cA 0 a_this a_this_all a_this_kept a_this_history a_this_slots a_this_isSaved a_this_stream a_this_pad v_historyLong v_streamLong v_spot v_padLong v_padSpot v_readNumber g_all) (zw_36 cA 0 a_this a_this_all a_this_kept a_this_history a_this_slots a_this_isSaved a_this_stream a_this_pad v_historyLong v_streamLong v_spot v_padLong v_padSpot v_readNumber g_all) (some (.int out)) := by
  refine z_body (by decide) (Nat.le_of_ble_eq_true rfl) ?_
  intro p e s m args below meth c ls H locs A X hl hw
  have hl : lv_has ls 2 [(0, .ref a_this), (1, .int i1)] := hl
  unfold F_X9_base at hF
  refine z_aload_n 0 X dX9_base_0 hl 0 rfl ?_
  refine z_aload_n 1 X dX9_base_1 hl 0 rfl ?_
  refine z_iload_n 2 X dX9_base_2 hl 1 rfl ?_
  obtain ⟨u1, e2, hF⟩ := zbd hF
  refine z_callV 3 zc9 mv_X9_first ml_9_43 0 [.ref a_this] (zk_118 cA 0 a_this a_this_all a_this_kept a_this_history a_this_slots a_this_isSaved a_this_stream a_this_pad v_historyLong v_streamLong v_spot v_padLong v_padSpot v_readNumber g_all) (m_X9_first l D cA a_this a_this_all a_this_kept a_this_history a_this_slots a_this_isSaved a_this_stream a_this_pad v_historyLong v_streamLong v_spot v_padLong v_padSpot v_readNumber g_all i1 u1 e2) X dX9_base_3 hw hl rfl rfl rfl (Nat.le_of_ble_eq_true rfl) ⟨Nat.le_of_ble_eq_true rfl, Nat.le_of_ble_eq_true rfl⟩ ⟨Nat.zero_le _, Nat.zero_le _⟩ (fun H locs hw => ?_)
  refine z_iconst 6 1 X dX9_base_6 (by decide) ?_
  refine z_isub 7 X dX9_base_7 ?_
  obtain ⟨u3, e4, hF⟩ := zbd hF
  refine z_callV 8 zc9 mv_X9_number ml_9_35 0 [] (zk_118 cA 0 a_this a_this_all a_this_kept a_this_history a_this_slots a_this_isSaved a_this_stream a_this_pad v_historyLong v_streamLong v_spot v_padLong v_padSpot v_readNumber g_all) (m_X9_number l D cA a_this a_this_all a_this_kept a_this_history a_this_slots a_this_isSaved a_this_stream a_this_pad v_historyLong v_streamLong v_spot v_padLong v_padSpot v_readNumber g_all (u1 - 1) u3 e4) X dX9_base_8 hw hl rfl rfl rfl (Nat.le_of_ble_eq_true rfl) ⟨Nat.le_of_ble_eq_true rfl, Nat.le_of_ble_eq_true rfl⟩ ⟨Nat.zero_le _, Nat.zero_le _⟩ (fun H locs hw => ?_)
  cases hF
  exact z_iret 11 X dX9_base_11 hw rfl rfl
theorem dX9_escapes_0 : decode cX9_escapes 0 = .ok (.iconst 0, 1) := by decide +kernel
theorem dX9_escapes_1 : decode cX9_escapes 1 = .ok (.istore_n 2, 1) := by decide +kernel
theorem dX9_escapes_2 : decode cX9_escapes 2 = .ok (.aload_n 0, 1) := by decide +kernel
theorem dX9_escapes_3 : decode cX9_escapes 3 = .ok (.iload_n 1, 1) := by decide +kernel
theorem dX9_escapes_4 : decode cX9_escapes 4 = .ok (.invokevirtual 59, 3) := by decide +kernel
theorem dX9_escapes_7 : decode cX9_escapes 7 = .ok (.istore_n 3, 1) := by decide +kernel
theorem dX9_escapes_8 : decode cX9_escapes 8 = .ok (.aload_n 0, 1) := by decide +kernel
theorem dX9_escapes_9 : decode cX9_escapes 9 = .ok (.iload_n 1, 1) := by decide +kernel
theorem dX9_escapes_10 : decode cX9_escapes 10 = .ok (.invokevirtual 43, 3) := by decide +kernel
theorem dX9_escapes_13 : decode cX9_escapes 13 = .ok (.istore 4, 2) := by decide +kernel
theorem dX9_escapes_15 : decode cX9_escapes 15 = .ok (.iload 4, 2) := by decide +kernel
theorem dX9_escapes_17 : decode cX9_escapes 17 = .ok (.aload_n 0, 1) := by decide +kernel
theorem dX9_escapes_18 : decode cX9_escapes 18 = .ok (.iload_n 1, 1) := by decide +kernel
theorem dX9_escapes_19 : decode cX9_escapes 19 = .ok (.invokevirtual 46, 3) := by decide +kernel
theorem dX9_escapes_22 : decode cX9_escapes 22 = .ok (.if_icmp .ge 31, 3) := by decide +kernel
theorem dX9_escapes_25 : decode cX9_escapes 25 = .ok (.iload_n 2, 1) := by decide +kernel
theorem dX9_escapes_26 : decode cX9_escapes 26 = .ok (.aload_n 0, 1) := by decide +kernel
theorem dX9_escapes_27 : decode cX9_escapes 27 = .ok (.aload_n 0, 1) := by decide +kernel
theorem dX9_escapes_28 : decode cX9_escapes 28 = .ok (.iload 4, 2) := by decide +kernel
theorem dX9_escapes_30 : decode cX9_escapes 30 = .ok (.invokevirtual 49, 3) := by decide +kernel
theorem dX9_escapes_33 : decode cX9_escapes 33 = .ok (.iload_n 3, 1) := by decide +kernel
theorem dX9_escapes_34 : decode cX9_escapes 34 = .ok (.invokevirtual 39, 3) := by decide +kernel
theorem dX9_escapes_37 : decode cX9_escapes 37 = .ok (.ifCond .eq 7, 3) := by decide +kernel
theorem dX9_escapes_40 : decode cX9_escapes 40 = .ok (.iconst 1, 1) := by decide +kernel
theorem dX9_escapes_41 : decode cX9_escapes 41 = .ok (.goto 4, 3) := by decide +kernel
theorem dX9_escapes_44 : decode cX9_escapes 44 = .ok (.iconst 0, 1) := by decide +kernel
theorem dX9_escapes_45 : decode cX9_escapes 45 = .ok (.iadd, 1) := by decide +kernel
theorem dX9_escapes_46 : decode cX9_escapes 46 = .ok (.istore_n 2, 1) := by decide +kernel
theorem dX9_escapes_47 : decode cX9_escapes 47 = .ok (.iinc 4 1, 3) := by decide +kernel
theorem dX9_escapes_50 : decode cX9_escapes 50 = .ok (.goto (-35), 3) := by decide +kernel
theorem dX9_escapes_53 : decode cX9_escapes 53 = .ok (.iload_n 2, 1) := by decide +kernel
theorem dX9_escapes_54 : decode cX9_escapes 54 = .ok (.ireturn, 1) := by decide +kernel
set_option maxHeartbeats 4000000 in
set_option maxRecDepth 100000 in
theorem l_X9_escapes_15 (l : Launch) (D : va_G) (cA : ClassId) (a_this a_this_all a_this_kept a_this_history a_this_slots a_this_isSaved a_this_stream a_this_pad : Nat) (v_historyLong : Int32) (v_streamLong : Int32) (v_spot : Int32) (v_padLong : Int32) (v_padSpot : Int32) (v_readNumber : Int32) (g_all : Ar) (i1 : Int32) (i3 : Int32) (out : Int32) {p : Program} {e : Env} {s : State} {m : MethodId} {args : Array Value} {below : List Frame} {meth : Method} {c : Code} {A : Nat → Prop} (X : zX D cA p s m args meth c cX9_escapes 5 RX9 (some .int)) (k : Int32 → Option (Int32)) (hk : ∀ (i2 : Int32) (H : Heap) (locs : List Loc) (ls : Array Slot), zH D A s (zw_36 cA 0 a_this a_this_all a_this_kept a_this_history a_this_slots a_this_isSaved a_this_stream a_this_pad v_historyLong v_streamLong v_spot v_padLong v_padSpot v_readNumber g_all) H locs → lv_has ls 5 [(2, .int i2)] → k i2 = some out → W p l e (zR 4 91) s m args below meth c H locs 0 0 (MQ below (zQ D (zw_36 cA 0 a_this a_this_all a_this_kept a_this_history a_this_slots a_this_isSaved a_this_stream a_this_pad v_historyLong v_streamLong v_spot v_padLong v_padSpot v_readNumber g_all) (some (.int out)) A) args s 0 0 A) (F0 m 53 ls [])) :
    ∀ (fuel : Nat) (i2 : Int32) (i4 : Int32) (H : Heap) (locs : List Loc) (ls : Array Slot), zH D A s (zw_36 cA 0 a_this a_this_all a_this_kept a_this_history a_this_slots a_this_isSaved a_this_stream a_this_pad v_historyLong v_streamLong v_spot v_padLong v_padSpot v_readNumber g_all) H locs → lv_has ls 5 [(0, .ref a_this), (1, .int i1), (2, .int i2), (3, .int i3), (4, .int i4)] → F_X9_escapes_L15 g_all i1 i3 k fuel i2 i4 = some out → W p l e (zR 4 91) s m args below meth c H locs 0 0 (MQ below (zQ D (zw_36 cA 0 a_this a_this_all a_this_kept a_this_history a_this_slots a_this_isSaved a_this_stream a_this_pad v_historyLong v_streamLong v_spot v_padLong v_padSpot v_readNumber g_all) (some (.int out)) A) args s 0 0 A) (F0 m 15 ls []) := by
  intro fuel
  induction fuel with
  | zero => intro i2 i4 H locs ls hw hl hF; exact nomatch (show (none : Option (Int32)) = some out from hF)
  | succ fuel ih =>
    intro i2 i4 H locs ls hw hl hF
    rw [F_X9_escapes_L15] at hF
    refine z_iload 15 X dX9_escapes_15 hl 4 rfl ?_
    refine z_aload_n 17 X dX9_escapes_17 hl 0 rfl ?_
    refine z_iload_n 18 X dX9_escapes_18 hl 1 rfl ?_
    obtain ⟨u5, e6, hF⟩ := zbd hF
    refine z_callV 19 zc9 mv_X9_end ml_9_46 0 [.int i4] (zk_118 cA 0 a_this a_this_all a_this_kept a_this_history a_this_slots a_this_isSaved a_this_stream a_this_pad v_historyLong v_streamLong v_spot v_padLong v_padSpot v_readNumber g_all) (m_X9_end l D cA a_this a_this_all a_this_kept a_this_history a_this_slots a_this_isSaved a_this_stream a_this_pad v_historyLong v_streamLong v_spot v_padLong v_padSpot v_readNumber g_all i1 u5 e6) X dX9_escapes_19 hw hl rfl rfl rfl (Nat.le_of_ble_eq_true rfl) ⟨Nat.le_of_ble_eq_true rfl, Nat.le_of_ble_eq_true rfl⟩ ⟨Nat.zero_le _, Nat.zero_le _⟩ (fun H locs hw => ?_)
    refine z_icmp_ge 22 53 X dX9_escapes_22 (by decide) (fun c7 => ?_) (fun c7 => ?_)
    · replace hF := zpos c7 hF
      exact hk i2 H locs ls hw (lv_sub hl [2] rfl) hF
    · replace hF := zneg c7 hF
      refine z_iload_n 25 X dX9_escapes_25 hl 2 rfl ?_
      refine z_aload_n 26 X dX9_escapes_26 hl 0 rfl ?_
      refine z_aload_n 27 X dX9_escapes_27 hl 0 rfl ?_
      refine z_iload 28 X dX9_escapes_28 hl 4 rfl ?_
      obtain ⟨u8, e9, hF⟩ := zbd hF
      refine z_callV 30 zc9 mv_X9_gapOf ml_9_49 0 [.ref a_this, .int i2] (zk_118 cA 0 a_this a_this_all a_this_kept a_this_history a_this_slots a_this_isSaved a_this_stream a_this_pad v_historyLong v_streamLong v_spot v_padLong v_padSpot v_readNumber g_all) (m_X9_gapOf l D cA a_this a_this_all a_this_kept a_this_history a_this_slots a_this_isSaved a_this_stream a_this_pad v_historyLong v_streamLong v_spot v_padLong v_padSpot v_readNumber g_all i4 u8 e9) X dX9_escapes_30 hw hl rfl rfl rfl (Nat.le_of_ble_eq_true rfl) ⟨Nat.le_of_ble_eq_true rfl, Nat.le_of_ble_eq_true rfl⟩ ⟨Nat.zero_le _, Nat.zero_le _⟩ (fun H locs hw => ?_)
      refine z_iload_n 33 X dX9_escapes_33 hl 3 rfl ?_
      obtain ⟨u10, e11, hF⟩ := zbd hF
      refine z_callV 34 zc9 mv_X9_isEscape ml_9_39 0 [.int i2] (zk_118 cA 0 a_this a_this_all a_this_kept a_this_history a_this_slots a_this_isSaved a_this_stream a_this_pad v_historyLong v_streamLong v_spot v_padLong v_padSpot v_readNumber g_all) (m_X9_isEscape l D cA a_this a_this_all a_this_kept a_this_history a_this_slots a_this_isSaved a_this_stream a_this_pad v_historyLong v_streamLong v_spot v_padLong v_padSpot v_readNumber g_all u8 i3 u10 e11) X dX9_escapes_34 hw hl rfl rfl rfl (Nat.le_of_ble_eq_true rfl) ⟨Nat.le_of_ble_eq_true rfl, Nat.le_of_ble_eq_true rfl⟩ ⟨Nat.zero_le _, Nat.zero_le _⟩ (fun H locs hw => ?_)
      refine z_if_eq 37 44 X dX9_escapes_37 (by decide) (fun c12 => ?_) (fun c12 => ?_)
      · replace hF := zpos c12 hF
        refine z_iconst 44 0 X dX9_escapes_44 (by decide) ?_
        refine z_iadd 45 X dX9_escapes_45 ?_
        refine z_istore_n 46 [(2, .int (i2 + 0)), (0, .ref a_this), (1, .int i1), (3, .int i3), (4, .int i4)] X dX9_escapes_46 hl (by decide) rfl (fun ls hl => ?_)
        refine z_iinc2 47 1 [(4, .int (i4 + 1)), (2, .int (i2 + 0)), (0, .ref a_this), (1, .int i1), (3, .int i3)] X dX9_escapes_47 hl 4 rfl (by decide) (by decide) rfl (fun ls hl => ?_)
        refine z_goto 50 15 X dX9_escapes_50 (by decide) ?_
        exact ih (i2 + 0) (i4 + 1) H locs ls hw (lv_sub hl [2, 3, 1, 4, 0] rfl) hF
      · replace hF := zneg c12 hF
        refine z_iconst 40 1 X dX9_escapes_40 (by decide) ?_
        refine z_goto 41 45 X dX9_escapes_41 (by decide) ?_
        refine z_iadd 45 X dX9_escapes_45 ?_
        refine z_istore_n 46 [(2, .int (i2 + 1)), (0, .ref a_this), (1, .int i1), (3, .int i3), (4, .int i4)] X dX9_escapes_46 hl (by decide) rfl (fun ls hl => ?_)
        refine z_iinc2 47 1 [(4, .int (i4 + 1)), (2, .int (i2 + 1)), (0, .ref a_this), (1, .int i1), (3, .int i3)] X dX9_escapes_47 hl 4 rfl (by decide) (by decide) rfl (fun ls hl => ?_)
        refine z_goto 50 15 X dX9_escapes_50 (by decide) ?_
        exact ih (i2 + 1) (i4 + 1) H locs ls hw (lv_sub hl [2, 3, 1, 4, 0] rfl) hF
set_option maxHeartbeats 4000000 in
set_option maxRecDepth 100000 in
theorem m_X9_escapes (l : Launch) (D : va_G) (cA : ClassId) (a_this a_this_all a_this_kept a_this_history a_this_slots a_this_isSaved a_this_stream a_this_pad : Nat) (v_historyLong : Int32) (v_streamLong : Int32) (v_spot : Int32) (v_padLong : Int32) (v_padSpot : Int32) (v_readNumber : Int32) (g_all : Ar) (i1 : Int32) (out : Int32) (hF : F_X9_escapes g_all i1 = some out) : zM l D cA yX9_escapes cX9_escapes 5 (some .int) 4 91 [.ref a_this, .int i1] (zw_36 cA 0 a_this a_this_all a_this_kept a_this_history a_this_slots a_this_isSaved a_this_stream a_this_pad v_historyLong v_streamLong v_spot v_padLong v_padSpot v_readNumber g_all) (zw_36 cA 0 a_this a_this_all a_this_kept a_this_history a_this_slots a_this_isSaved a_this_stream a_this_pad v_historyLong v_streamLong v_spot v_padLong v_padSpot v_readNumber g_all) (some (.int out)) := by
  refine z_body (by decide) (Nat.le_of_ble_eq_true rfl) ?_
  intro p e s m args below meth c ls H locs A X hl hw
  have hl : lv_has ls 5 [(0, .ref a_this), (1, .int i1)] := hl
  unfold F_X9_escapes at hF
  refine z_iconst 0 0 X dX9_escapes_0 (by decide) ?_
  refine z_istore_n 1 [(2, .int 0), (0, .ref a_this), (1, .int i1)] X dX9_escapes_1 hl (by decide) rfl (fun ls hl => ?_)
  refine z_aload_n 2 X dX9_escapes_2 hl 1 rfl ?_
  refine z_iload_n 3 X dX9_escapes_3 hl 2 rfl ?_
  obtain ⟨u1, e2, hF⟩ := zbd hF
  refine z_callV 4 zc9 mv_X9_exponentOf ml_9_59 0 [] (zk_118 cA 0 a_this a_this_all a_this_kept a_this_history a_this_slots a_this_isSaved a_this_stream a_this_pad v_historyLong v_streamLong v_spot v_padLong v_padSpot v_readNumber g_all) (m_X9_exponentOf l D cA a_this a_this_all a_this_kept a_this_history a_this_slots a_this_isSaved a_this_stream a_this_pad v_historyLong v_streamLong v_spot v_padLong v_padSpot v_readNumber g_all i1 u1 e2) X dX9_escapes_4 hw hl rfl rfl rfl (Nat.le_of_ble_eq_true rfl) ⟨Nat.le_of_ble_eq_true rfl, Nat.le_of_ble_eq_true rfl⟩ ⟨Nat.zero_le _, Nat.zero_le _⟩ (fun H locs hw => ?_)
  refine z_istore_n 7 [(3, .int u1), (2, .int 0), (0, .ref a_this), (1, .int i1)] X dX9_escapes_7 hl (by decide) rfl (fun ls hl => ?_)
  refine z_aload_n 8 X dX9_escapes_8 hl 2 rfl ?_
  refine z_iload_n 9 X dX9_escapes_9 hl 3 rfl ?_
  obtain ⟨u3, e4, hF⟩ := zbd hF
  refine z_callV 10 zc9 mv_X9_first ml_9_43 0 [] (zk_118 cA 0 a_this a_this_all a_this_kept a_this_history a_this_slots a_this_isSaved a_this_stream a_this_pad v_historyLong v_streamLong v_spot v_padLong v_padSpot v_readNumber g_all) (m_X9_first l D cA a_this a_this_all a_this_kept a_this_history a_this_slots a_this_isSaved a_this_stream a_this_pad v_historyLong v_streamLong v_spot v_padLong v_padSpot v_readNumber g_all i1 u3 e4) X dX9_escapes_10 hw hl rfl rfl rfl (Nat.le_of_ble_eq_true rfl) ⟨Nat.le_of_ble_eq_true rfl, Nat.le_of_ble_eq_true rfl⟩ ⟨Nat.zero_le _, Nat.zero_le _⟩ (fun H locs hw => ?_)
  refine z_istore 13 [(4, .int u3), (3, .int u1), (2, .int 0), (0, .ref a_this), (1, .int i1)] X dX9_escapes_13 hl (by decide) rfl (fun ls hl => ?_)
  refine l_X9_escapes_15 l D cA a_this a_this_all a_this_kept a_this_history a_this_slots a_this_isSaved a_this_stream a_this_pad v_historyLong v_streamLong v_spot v_padLong v_padSpot v_readNumber g_all i1 u1 out X _ (fun i2_13 H locs ls hw hl hF => ?_) zFuel 0 u3 H locs ls hw (lv_sub hl [3, 4, 2, 1, 0] rfl) hF
  refine z_iload_n 53 X dX9_escapes_53 hl 0 rfl ?_
  cases hF
  exact z_iret 54 X dX9_escapes_54 hw rfl rfl
theorem dX9_greatestGap_0 : decode cX9_greatestGap 0 = .ok (.iconst 0, 1) := by decide +kernel
theorem dX9_greatestGap_1 : decode cX9_greatestGap 1 = .ok (.istore_n 2, 1) := by decide +kernel
theorem dX9_greatestGap_2 : decode cX9_greatestGap 2 = .ok (.aload_n 0, 1) := by decide +kernel
theorem dX9_greatestGap_3 : decode cX9_greatestGap 3 = .ok (.iload_n 1, 1) := by decide +kernel
theorem dX9_greatestGap_4 : decode cX9_greatestGap 4 = .ok (.invokevirtual 43, 3) := by decide +kernel
theorem dX9_greatestGap_7 : decode cX9_greatestGap 7 = .ok (.istore_n 3, 1) := by decide +kernel
theorem dX9_greatestGap_8 : decode cX9_greatestGap 8 = .ok (.iload_n 3, 1) := by decide +kernel
theorem dX9_greatestGap_9 : decode cX9_greatestGap 9 = .ok (.aload_n 0, 1) := by decide +kernel
theorem dX9_greatestGap_10 : decode cX9_greatestGap 10 = .ok (.iload_n 1, 1) := by decide +kernel
theorem dX9_greatestGap_11 : decode cX9_greatestGap 11 = .ok (.invokevirtual 46, 3) := by decide +kernel
theorem dX9_greatestGap_14 : decode cX9_greatestGap 14 = .ok (.if_icmp .ge 28, 3) := by decide +kernel
theorem dX9_greatestGap_17 : decode cX9_greatestGap 17 = .ok (.aload_n 0, 1) := by decide +kernel
theorem dX9_greatestGap_18 : decode cX9_greatestGap 18 = .ok (.iload_n 3, 1) := by decide +kernel
theorem dX9_greatestGap_19 : decode cX9_greatestGap 19 = .ok (.invokevirtual 49, 3) := by decide +kernel
theorem dX9_greatestGap_22 : decode cX9_greatestGap 22 = .ok (.iload_n 2, 1) := by decide +kernel
theorem dX9_greatestGap_23 : decode cX9_greatestGap 23 = .ok (.if_icmp .le 11, 3) := by decide +kernel
theorem dX9_greatestGap_26 : decode cX9_greatestGap 26 = .ok (.aload_n 0, 1) := by decide +kernel
theorem dX9_greatestGap_27 : decode cX9_greatestGap 27 = .ok (.iload_n 3, 1) := by decide +kernel
theorem dX9_greatestGap_28 : decode cX9_greatestGap 28 = .ok (.invokevirtual 49, 3) := by decide +kernel
theorem dX9_greatestGap_31 : decode cX9_greatestGap 31 = .ok (.goto 4, 3) := by decide +kernel
theorem dX9_greatestGap_34 : decode cX9_greatestGap 34 = .ok (.iload_n 2, 1) := by decide +kernel
theorem dX9_greatestGap_35 : decode cX9_greatestGap 35 = .ok (.istore_n 2, 1) := by decide +kernel
theorem dX9_greatestGap_36 : decode cX9_greatestGap 36 = .ok (.iinc 3 1, 3) := by decide +kernel
theorem dX9_greatestGap_39 : decode cX9_greatestGap 39 = .ok (.goto (-31), 3) := by decide +kernel
theorem dX9_greatestGap_42 : decode cX9_greatestGap 42 = .ok (.iload_n 2, 1) := by decide +kernel
theorem dX9_greatestGap_43 : decode cX9_greatestGap 43 = .ok (.ireturn, 1) := by decide +kernel
set_option maxHeartbeats 4000000 in
set_option maxRecDepth 100000 in
theorem l_X9_greatestGap_8 (l : Launch) (D : va_G) (cA : ClassId) (a_this a_this_all a_this_kept a_this_history a_this_slots a_this_isSaved a_this_stream a_this_pad : Nat) (v_historyLong : Int32) (v_streamLong : Int32) (v_spot : Int32) (v_padLong : Int32) (v_padSpot : Int32) (v_readNumber : Int32) (g_all : Ar) (i1 : Int32) (out : Int32) {p : Program} {e : Env} {s : State} {m : MethodId} {args : Array Value} {below : List Frame} {meth : Method} {c : Code} {A : Nat → Prop} (X : zX D cA p s m args meth c cX9_greatestGap 4 RX9 (some .int)) (k : Int32 → Option (Int32)) (hk : ∀ (i2 : Int32) (H : Heap) (locs : List Loc) (ls : Array Slot), zH D A s (zw_36 cA 0 a_this a_this_all a_this_kept a_this_history a_this_slots a_this_isSaved a_this_stream a_this_pad v_historyLong v_streamLong v_spot v_padLong v_padSpot v_readNumber g_all) H locs → lv_has ls 4 [(2, .int i2)] → k i2 = some out → W p l e (zR 2 42) s m args below meth c H locs 0 0 (MQ below (zQ D (zw_36 cA 0 a_this a_this_all a_this_kept a_this_history a_this_slots a_this_isSaved a_this_stream a_this_pad v_historyLong v_streamLong v_spot v_padLong v_padSpot v_readNumber g_all) (some (.int out)) A) args s 0 0 A) (F0 m 42 ls [])) :
    ∀ (fuel : Nat) (i2 : Int32) (i3 : Int32) (H : Heap) (locs : List Loc) (ls : Array Slot), zH D A s (zw_36 cA 0 a_this a_this_all a_this_kept a_this_history a_this_slots a_this_isSaved a_this_stream a_this_pad v_historyLong v_streamLong v_spot v_padLong v_padSpot v_readNumber g_all) H locs → lv_has ls 4 [(0, .ref a_this), (1, .int i1), (2, .int i2), (3, .int i3)] → F_X9_greatestGap_L8 g_all i1 k fuel i2 i3 = some out → W p l e (zR 2 42) s m args below meth c H locs 0 0 (MQ below (zQ D (zw_36 cA 0 a_this a_this_all a_this_kept a_this_history a_this_slots a_this_isSaved a_this_stream a_this_pad v_historyLong v_streamLong v_spot v_padLong v_padSpot v_readNumber g_all) (some (.int out)) A) args s 0 0 A) (F0 m 8 ls []) := by
  intro fuel
  induction fuel with
  | zero => intro i2 i3 H locs ls hw hl hF; exact nomatch (show (none : Option (Int32)) = some out from hF)
  | succ fuel ih =>
    intro i2 i3 H locs ls hw hl hF
    rw [F_X9_greatestGap_L8] at hF
    refine z_iload_n 8 X dX9_greatestGap_8 hl 3 rfl ?_
    refine z_aload_n 9 X dX9_greatestGap_9 hl 0 rfl ?_
    refine z_iload_n 10 X dX9_greatestGap_10 hl 1 rfl ?_
    obtain ⟨u3, e4, hF⟩ := zbd hF
    refine z_callV 11 zc9 mv_X9_end ml_9_46 0 [.int i3] (zk_118 cA 0 a_this a_this_all a_this_kept a_this_history a_this_slots a_this_isSaved a_this_stream a_this_pad v_historyLong v_streamLong v_spot v_padLong v_padSpot v_readNumber g_all) (m_X9_end l D cA a_this a_this_all a_this_kept a_this_history a_this_slots a_this_isSaved a_this_stream a_this_pad v_historyLong v_streamLong v_spot v_padLong v_padSpot v_readNumber g_all i1 u3 e4) X dX9_greatestGap_11 hw hl rfl rfl rfl (Nat.le_of_ble_eq_true rfl) ⟨Nat.le_of_ble_eq_true rfl, Nat.le_of_ble_eq_true rfl⟩ ⟨Nat.zero_le _, Nat.zero_le _⟩ (fun H locs hw => ?_)
    refine z_icmp_ge 14 42 X dX9_greatestGap_14 (by decide) (fun c5 => ?_) (fun c5 => ?_)
    · replace hF := zpos c5 hF
      exact hk i2 H locs ls hw (lv_sub hl [2] rfl) hF
    · replace hF := zneg c5 hF
      refine z_aload_n 17 X dX9_greatestGap_17 hl 0 rfl ?_
      refine z_iload_n 18 X dX9_greatestGap_18 hl 3 rfl ?_
      obtain ⟨u6, e7, hF⟩ := zbd hF
      refine z_callV 19 zc9 mv_X9_gapOf ml_9_49 0 [] (zk_118 cA 0 a_this a_this_all a_this_kept a_this_history a_this_slots a_this_isSaved a_this_stream a_this_pad v_historyLong v_streamLong v_spot v_padLong v_padSpot v_readNumber g_all) (m_X9_gapOf l D cA a_this a_this_all a_this_kept a_this_history a_this_slots a_this_isSaved a_this_stream a_this_pad v_historyLong v_streamLong v_spot v_padLong v_padSpot v_readNumber g_all i3 u6 e7) X dX9_greatestGap_19 hw hl rfl rfl rfl (Nat.le_of_ble_eq_true rfl) ⟨Nat.le_of_ble_eq_true rfl, Nat.le_of_ble_eq_true rfl⟩ ⟨Nat.zero_le _, Nat.zero_le _⟩ (fun H locs hw => ?_)
      refine z_iload_n 22 X dX9_greatestGap_22 hl 2 rfl ?_
      refine z_icmp_le 23 34 X dX9_greatestGap_23 (by decide) (fun c8 => ?_) (fun c8 => ?_)
      · replace hF := zpos c8 hF
        refine z_iload_n 34 X dX9_greatestGap_34 hl 2 rfl ?_
        refine z_istore_n 35 [(2, .int i2), (0, .ref a_this), (1, .int i1), (3, .int i3)] X dX9_greatestGap_35 hl (by decide) rfl (fun ls hl => ?_)
        refine z_iinc2 36 1 [(3, .int (i3 + 1)), (2, .int i2), (0, .ref a_this), (1, .int i1)] X dX9_greatestGap_36 hl 3 rfl (by decide) (by decide) rfl (fun ls hl => ?_)
        refine z_goto 39 8 X dX9_greatestGap_39 (by decide) ?_
        exact ih i2 (i3 + 1) H locs ls hw (lv_sub hl [2, 3, 1, 0] rfl) hF
      · replace hF := zneg c8 hF
        refine z_aload_n 26 X dX9_greatestGap_26 hl 0 rfl ?_
        refine z_iload_n 27 X dX9_greatestGap_27 hl 3 rfl ?_
        obtain ⟨u9, e10, hF⟩ := zbd hF
        refine z_callV 28 zc9 mv_X9_gapOf ml_9_49 0 [] (zk_118 cA 0 a_this a_this_all a_this_kept a_this_history a_this_slots a_this_isSaved a_this_stream a_this_pad v_historyLong v_streamLong v_spot v_padLong v_padSpot v_readNumber g_all) (m_X9_gapOf l D cA a_this a_this_all a_this_kept a_this_history a_this_slots a_this_isSaved a_this_stream a_this_pad v_historyLong v_streamLong v_spot v_padLong v_padSpot v_readNumber g_all i3 u9 e10) X dX9_greatestGap_28 hw hl rfl rfl rfl (Nat.le_of_ble_eq_true rfl) ⟨Nat.le_of_ble_eq_true rfl, Nat.le_of_ble_eq_true rfl⟩ ⟨Nat.zero_le _, Nat.zero_le _⟩ (fun H locs hw => ?_)
        refine z_goto 31 35 X dX9_greatestGap_31 (by decide) ?_
        refine z_istore_n 35 [(2, .int u9), (0, .ref a_this), (1, .int i1), (3, .int i3)] X dX9_greatestGap_35 hl (by decide) rfl (fun ls hl => ?_)
        refine z_iinc2 36 1 [(3, .int (i3 + 1)), (2, .int u9), (0, .ref a_this), (1, .int i1)] X dX9_greatestGap_36 hl 3 rfl (by decide) (by decide) rfl (fun ls hl => ?_)
        refine z_goto 39 8 X dX9_greatestGap_39 (by decide) ?_
        exact ih u9 (i3 + 1) H locs ls hw (lv_sub hl [2, 3, 1, 0] rfl) hF
set_option maxHeartbeats 4000000 in
set_option maxRecDepth 100000 in
theorem m_X9_greatestGap (l : Launch) (D : va_G) (cA : ClassId) (a_this a_this_all a_this_kept a_this_history a_this_slots a_this_isSaved a_this_stream a_this_pad : Nat) (v_historyLong : Int32) (v_streamLong : Int32) (v_spot : Int32) (v_padLong : Int32) (v_padSpot : Int32) (v_readNumber : Int32) (g_all : Ar) (i1 : Int32) (out : Int32) (hF : F_X9_greatestGap g_all i1 = some out) : zM l D cA yX9_greatestGap cX9_greatestGap 4 (some .int) 2 42 [.ref a_this, .int i1] (zw_36 cA 0 a_this a_this_all a_this_kept a_this_history a_this_slots a_this_isSaved a_this_stream a_this_pad v_historyLong v_streamLong v_spot v_padLong v_padSpot v_readNumber g_all) (zw_36 cA 0 a_this a_this_all a_this_kept a_this_history a_this_slots a_this_isSaved a_this_stream a_this_pad v_historyLong v_streamLong v_spot v_padLong v_padSpot v_readNumber g_all) (some (.int out)) := by
  refine z_body (by decide) (Nat.le_of_ble_eq_true rfl) ?_
  intro p e s m args below meth c ls H locs A X hl hw
  have hl : lv_has ls 4 [(0, .ref a_this), (1, .int i1)] := hl
  unfold F_X9_greatestGap at hF
  refine z_iconst 0 0 X dX9_greatestGap_0 (by decide) ?_
  refine z_istore_n 1 [(2, .int 0), (0, .ref a_this), (1, .int i1)] X dX9_greatestGap_1 hl (by decide) rfl (fun ls hl => ?_)
  refine z_aload_n 2 X dX9_greatestGap_2 hl 1 rfl ?_
  refine z_iload_n 3 X dX9_greatestGap_3 hl 2 rfl ?_
  obtain ⟨u1, e2, hF⟩ := zbd hF
  refine z_callV 4 zc9 mv_X9_first ml_9_43 0 [] (zk_118 cA 0 a_this a_this_all a_this_kept a_this_history a_this_slots a_this_isSaved a_this_stream a_this_pad v_historyLong v_streamLong v_spot v_padLong v_padSpot v_readNumber g_all) (m_X9_first l D cA a_this a_this_all a_this_kept a_this_history a_this_slots a_this_isSaved a_this_stream a_this_pad v_historyLong v_streamLong v_spot v_padLong v_padSpot v_readNumber g_all i1 u1 e2) X dX9_greatestGap_4 hw hl rfl rfl rfl (Nat.le_of_ble_eq_true rfl) ⟨Nat.le_of_ble_eq_true rfl, Nat.le_of_ble_eq_true rfl⟩ ⟨Nat.zero_le _, Nat.zero_le _⟩ (fun H locs hw => ?_)
  refine z_istore_n 7 [(3, .int u1), (2, .int 0), (0, .ref a_this), (1, .int i1)] X dX9_greatestGap_7 hl (by decide) rfl (fun ls hl => ?_)
  refine l_X9_greatestGap_8 l D cA a_this a_this_all a_this_kept a_this_history a_this_slots a_this_isSaved a_this_stream a_this_pad v_historyLong v_streamLong v_spot v_padLong v_padSpot v_readNumber g_all i1 out X _ (fun i2_11 H locs ls hw hl hF => ?_) zFuel 0 u1 H locs ls hw (lv_sub hl [2, 3, 1, 0] rfl) hF
  refine z_iload_n 42 X dX9_greatestGap_42 hl 0 rfl ?_
  cases hF
  exact z_iret 43 X dX9_greatestGap_43 hw rfl rfl
