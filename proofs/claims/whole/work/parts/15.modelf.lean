theorem dX9_carryOut_0 : decode cX9_carryOut 0 = .ok (.aload_n 0, 1) := by decide +kernel
theorem dX9_carryOut_1 : decode cX9_carryOut 1 = .ok (.invokevirtual 214, 3) := by decide +kernel
theorem dX9_carryOut_4 : decode cX9_carryOut 4 = .ok (.bipush (-6), 2) := by decide +kernel
theorem dX9_carryOut_6 : decode cX9_carryOut 6 = .ok (.if_icmp .eq 6, 3) := by decide +kernel
theorem dX9_carryOut_9 : decode cX9_carryOut 9 = .ok (.bipush (-3), 2) := by decide +kernel
theorem dX9_carryOut_11 : decode cX9_carryOut 11 = .ok (.ireturn, 1) := by decide +kernel
theorem dX9_carryOut_12 : decode cX9_carryOut 12 = .ok (.aload_n 0, 1) := by decide +kernel
theorem dX9_carryOut_13 : decode cX9_carryOut 13 = .ok (.invokevirtual 120, 3) := by decide +kernel
theorem dX9_carryOut_16 : decode cX9_carryOut 16 = .ok (.aload_n 0, 1) := by decide +kernel
theorem dX9_carryOut_17 : decode cX9_carryOut 17 = .ok (.iconst 0, 1) := by decide +kernel
theorem dX9_carryOut_18 : decode cX9_carryOut 18 = .ok (.putfield 191, 3) := by decide +kernel
theorem dX9_carryOut_21 : decode cX9_carryOut 21 = .ok (.iconst 0, 1) := by decide +kernel
theorem dX9_carryOut_22 : decode cX9_carryOut 22 = .ok (.istore_n 1, 1) := by decide +kernel
theorem dX9_carryOut_23 : decode cX9_carryOut 23 = .ok (.iconst 1, 1) := by decide +kernel
theorem dX9_carryOut_24 : decode cX9_carryOut 24 = .ok (.istore_n 2, 1) := by decide +kernel
theorem dX9_carryOut_25 : decode cX9_carryOut 25 = .ok (.iload_n 2, 1) := by decide +kernel
theorem dX9_carryOut_26 : decode cX9_carryOut 26 = .ok (.ifCond .eq 23, 3) := by decide +kernel
theorem dX9_carryOut_29 : decode cX9_carryOut 29 = .ok (.aload_n 0, 1) := by decide +kernel
theorem dX9_carryOut_30 : decode cX9_carryOut 30 = .ok (.invokevirtual 217, 3) := by decide +kernel
theorem dX9_carryOut_33 : decode cX9_carryOut 33 = .ok (.ifCond .eq 16, 3) := by decide +kernel
theorem dX9_carryOut_36 : decode cX9_carryOut 36 = .ok (.iinc 1 1, 3) := by decide +kernel
theorem dX9_carryOut_39 : decode cX9_carryOut 39 = .ok (.aload_n 0, 1) := by decide +kernel
theorem dX9_carryOut_40 : decode cX9_carryOut 40 = .ok (.bipush 59, 2) := by decide +kernel
theorem dX9_carryOut_42 : decode cX9_carryOut 42 = .ok (.invokevirtual 208, 3) := by decide +kernel
theorem dX9_carryOut_45 : decode cX9_carryOut 45 = .ok (.istore_n 2, 1) := by decide +kernel
theorem dX9_carryOut_46 : decode cX9_carryOut 46 = .ok (.goto (-21), 3) := by decide +kernel
theorem dX9_carryOut_49 : decode cX9_carryOut 49 = .ok (.aload_n 0, 1) := by decide +kernel
theorem dX9_carryOut_50 : decode cX9_carryOut 50 = .ok (.iconst 0, 1) := by decide +kernel
theorem dX9_carryOut_51 : decode cX9_carryOut 51 = .ok (.putfield 166, 3) := by decide +kernel
theorem dX9_carryOut_54 : decode cX9_carryOut 54 = .ok (.aload_n 0, 1) := by decide +kernel
theorem dX9_carryOut_55 : decode cX9_carryOut 55 = .ok (.iload_n 1, 1) := by decide +kernel
theorem dX9_carryOut_56 : decode cX9_carryOut 56 = .ok (.invokevirtual 126, 3) := by decide +kernel
theorem dX9_carryOut_59 : decode cX9_carryOut 59 = .ok (.ireturn, 1) := by decide +kernel
set_option maxHeartbeats 4000000 in
set_option maxRecDepth 100000 in
theorem l_X9_carryOut_25 (l : Launch) (D : va_G) (cA : ClassId) (a_this a_this_all a_this_kept a_this_history a_this_slots a_this_isSaved a_this_stream a_this_pad : Nat) (v_historyLong : Int32) (v_streamLong : Int32) (v_spot : Int32) (v_padLong : Int32) (g_history : Ar) (g_kept : Ar) (g_pad : Ar) (out : Int32 × Int32 × Int32 × Int32 × Int32 × Ar × Ar × Ar) {p : Program} {e : Env} {s : State} {m : MethodId} {args : Array Value} {below : List Frame} {meth : Method} {c : Code} {A : Nat → Prop} (X : zX D cA p s m args meth c cX9_carryOut 3 RX9 (some .int)) (k : Int32 → Int32 → Ar → Int32 → Option (Int32 × Int32 × Int32 × Int32 × Int32 × Ar × Ar × Ar)) (hk : ∀ (v_padSpot : Int32) (v_readNumber : Int32) (g_all : Ar) (i1 : Int32) (H : Heap) (locs : List Loc) (ls : Array Slot), zH D A s (zw_44 cA 0 a_this a_this_all a_this_kept a_this_history a_this_slots a_this_isSaved a_this_stream a_this_pad v_historyLong v_streamLong v_spot v_padLong v_padSpot v_readNumber g_all g_history g_kept g_pad) H locs → lv_has ls 3 [(0, .ref a_this), (1, .int i1)] → k v_padSpot v_readNumber g_all i1 = some out → W p l e (zR 6 130) s m args below meth c H locs 0 0 (MQ below (zQ D (zw_44 cA 0 a_this a_this_all a_this_kept a_this_history a_this_slots a_this_isSaved a_this_stream a_this_pad out.2.1 v_streamLong v_spot out.2.2.1 out.2.2.2.1 out.2.2.2.2.1 out.2.2.2.2.2.1 out.2.2.2.2.2.2.1 out.2.2.2.2.2.2.2 g_pad) (some (.int out.1)) A) args s 0 0 A) (F0 m 49 ls [])) :
    ∀ (fuel : Nat) (v_padSpot : Int32) (v_readNumber : Int32) (g_all : Ar) (i1 : Int32) (i2 : Int32) (H : Heap) (locs : List Loc) (ls : Array Slot), zH D A s (zw_44 cA 0 a_this a_this_all a_this_kept a_this_history a_this_slots a_this_isSaved a_this_stream a_this_pad v_historyLong v_streamLong v_spot v_padLong v_padSpot v_readNumber g_all g_history g_kept g_pad) H locs → lv_has ls 3 [(0, .ref a_this), (1, .int i1), (2, .int i2)] → F_X9_carryOut_L25 v_padLong g_pad k fuel v_padSpot v_readNumber g_all i1 i2 = some out → W p l e (zR 6 130) s m args below meth c H locs 0 0 (MQ below (zQ D (zw_44 cA 0 a_this a_this_all a_this_kept a_this_history a_this_slots a_this_isSaved a_this_stream a_this_pad out.2.1 v_streamLong v_spot out.2.2.1 out.2.2.2.1 out.2.2.2.2.1 out.2.2.2.2.2.1 out.2.2.2.2.2.2.1 out.2.2.2.2.2.2.2 g_pad) (some (.int out.1)) A) args s 0 0 A) (F0 m 25 ls []) := by
  intro fuel
  induction fuel with
  | zero => intro v_padSpot v_readNumber g_all i1 i2 H locs ls hw hl hF; exact nomatch (show (none : Option (Int32 × Int32 × Int32 × Int32 × Int32 × Ar × Ar × Ar)) = some out from hF)
  | succ fuel ih =>
    intro v_padSpot v_readNumber g_all i1 i2 H locs ls hw hl hF
    rw [F_X9_carryOut_L25] at hF
    refine z_iload_n 25 X dX9_carryOut_25 hl 2 rfl ?_
    refine z_if_eq 26 49 X dX9_carryOut_26 (by decide) (fun c6 => ?_) (fun c6 => ?_)
    · replace hF := zpos c6 hF
      exact hk v_padSpot v_readNumber g_all i1 H locs ls hw (lv_sub hl [0, 1] rfl) hF
    · replace hF := zneg c6 hF
      refine z_aload_n 29 X dX9_carryOut_29 hl 0 rfl ?_
      obtain ⟨u7, e8, hF⟩ := zbd hF
      refine z_callV 30 zc9 mv_X9_doesOrder ml_9_217 0 [0, 1, 4] (zw_44 cA 0 a_this a_this_all a_this_kept a_this_history a_this_slots a_this_isSaved a_this_stream a_this_pad v_historyLong v_streamLong v_spot v_padLong u7.2.1 u7.2.2.1 u7.2.2.2 g_history g_kept g_pad) [] (m_X9_doesOrder l D cA a_this a_this_all a_this_kept a_this_history a_this_slots a_this_isSaved a_this_stream a_this_pad v_historyLong v_streamLong v_spot v_padLong v_padSpot v_readNumber g_all g_pad u7 e8) X dX9_carryOut_30 hw hl rfl rfl rfl (by decide) rfl rfl rfl (Nat.le_of_ble_eq_true rfl) ⟨Nat.le_of_ble_eq_true rfl, Nat.le_of_ble_eq_true rfl⟩ ⟨Nat.zero_le _, Nat.zero_le _⟩ (fun H locs hw => ?_)
      refine z_if_eq 33 49 X dX9_carryOut_33 (by decide) (fun c9 => ?_) (fun c9 => ?_)
      · replace hF := zpos c9 hF
        exact hk u7.2.1 u7.2.2.1 u7.2.2.2 i1 H locs ls hw (lv_sub hl [0, 1] rfl) hF
      · replace hF := zneg c9 hF
        refine z_iinc2 36 1 [(1, .int (i1 + 1)), (0, .ref a_this), (2, .int i2)] X dX9_carryOut_36 hl 1 rfl (by decide) (by decide) rfl (fun ls hl => ?_)
        refine z_aload_n 39 X dX9_carryOut_39 hl 1 rfl ?_
        refine z_bipush 40 59 X dX9_carryOut_40 (by decide) ?_
        obtain ⟨u10, e11, hF⟩ := zbd hF
        refine z_callV 42 zc9 mv_X9_takes ml_9_208 0 [0, 4] (zw_44 cA 0 a_this a_this_all a_this_kept a_this_history a_this_slots a_this_isSaved a_this_stream a_this_pad v_historyLong v_streamLong v_spot v_padLong u10.2 u7.2.2.1 u7.2.2.2 g_history g_kept g_pad) [] (m_X9_takes l D cA a_this a_this_all a_this_kept a_this_history a_this_slots a_this_isSaved a_this_stream a_this_pad v_historyLong v_streamLong v_spot v_padLong u7.2.1 u7.2.2.1 g_pad 59 u10 e11) X dX9_carryOut_42 hw hl rfl rfl rfl (by decide) rfl rfl rfl (Nat.le_of_ble_eq_true rfl) ⟨Nat.le_of_ble_eq_true rfl, Nat.le_of_ble_eq_true rfl⟩ ⟨Nat.zero_le _, Nat.zero_le _⟩ (fun H locs hw => ?_)
        refine z_istore_n 45 [(2, .int u10.1), (1, .int (i1 + 1)), (0, .ref a_this)] X dX9_carryOut_45 hl (by decide) rfl (fun ls hl => ?_)
        refine z_goto 46 25 X dX9_carryOut_46 (by decide) ?_
        exact ih u10.2 u7.2.2.1 u7.2.2.2 (i1 + 1) u10.1 H locs ls hw (lv_sub hl [2, 1, 0] rfl) hF
set_option maxHeartbeats 4000000 in
set_option maxRecDepth 100000 in
theorem m_X9_carryOut (l : Launch) (D : va_G) (cA : ClassId) (a_this a_this_all a_this_kept a_this_history a_this_slots a_this_isSaved a_this_stream a_this_pad : Nat) (v_historyLong : Int32) (v_streamLong : Int32) (v_spot : Int32) (v_padLong : Int32) (v_padSpot : Int32) (v_readNumber : Int32) (g_all : Ar) (g_history : Ar) (g_kept : Ar) (g_pad : Ar) (out : Int32 × Int32 × Int32 × Int32 × Int32 × Ar × Ar × Ar) (hF : F_X9_carryOut v_historyLong v_padLong v_padSpot v_readNumber g_all g_history g_kept g_pad = some out) : zM l D cA yX9_carryOut cX9_carryOut 3 (some .int) 6 130 [.ref a_this] (zw_44 cA 0 a_this a_this_all a_this_kept a_this_history a_this_slots a_this_isSaved a_this_stream a_this_pad v_historyLong v_streamLong v_spot v_padLong v_padSpot v_readNumber g_all g_history g_kept g_pad) (zw_44 cA 0 a_this a_this_all a_this_kept a_this_history a_this_slots a_this_isSaved a_this_stream a_this_pad out.2.1 v_streamLong v_spot out.2.2.1 out.2.2.2.1 out.2.2.2.2.1 out.2.2.2.2.2.1 out.2.2.2.2.2.2.1 out.2.2.2.2.2.2.2 g_pad) (some (.int out.1)) := by
  refine z_body (by decide) (Nat.le_of_ble_eq_true rfl) ?_
  intro p e s m args below meth c ls H locs A X hl hw
  have hl : lv_has ls 3 [(0, .ref a_this)] := hl
  unfold F_X9_carryOut at hF
  refine z_aload_n 0 X dX9_carryOut_0 hl 0 rfl ?_
  obtain ⟨u1, e2, hF⟩ := zbd hF
  refine z_callV 1 zc9 mv_X9_fault ml_9_214 0 [0, 4] (zw_44 cA 0 a_this a_this_all a_this_kept a_this_history a_this_slots a_this_isSaved a_this_stream a_this_pad v_historyLong v_streamLong v_spot v_padLong u1.2.1 u1.2.2 g_all g_history g_kept g_pad) [] (m_X9_fault l D cA a_this a_this_all a_this_kept a_this_history a_this_slots a_this_isSaved a_this_stream a_this_pad v_historyLong v_streamLong v_spot v_padLong v_padSpot v_readNumber g_pad u1 e2) X dX9_carryOut_1 hw hl rfl rfl rfl (by decide) rfl rfl rfl (Nat.le_of_ble_eq_true rfl) ⟨Nat.le_of_ble_eq_true rfl, Nat.le_of_ble_eq_true rfl⟩ ⟨Nat.zero_le _, Nat.zero_le _⟩ (fun H locs hw => ?_)
  refine z_bipush 4 (-6) X dX9_carryOut_4 (by decide) ?_
  refine z_icmp_eq 6 12 X dX9_carryOut_6 (by decide) (fun c3 => ?_) (fun c3 => ?_)
  · replace hF := zpos c3 hF
    refine z_aload_n 12 X dX9_carryOut_12 hl 0 rfl ?_
    obtain ⟨u4, e5, hF⟩ := zbd hF
    refine z_callV 13 zc9 mv_X9_keep ml_9_120 0 [0, 1, 3] (zw_44 cA 0 a_this a_this_all a_this_kept a_this_history a_this_slots a_this_isSaved a_this_stream a_this_pad v_historyLong v_streamLong v_spot v_padLong u1.2.1 u1.2.2 g_all g_history u4 g_pad) [] (m_X9_keep l D cA a_this a_this_all a_this_kept a_this_history a_this_slots a_this_isSaved a_this_stream a_this_pad v_historyLong v_streamLong v_spot v_padLong u1.2.1 u1.2.2 g_all g_kept u4 e5) X dX9_carryOut_13 hw hl rfl rfl rfl (by decide) rfl rfl rfl (Nat.le_of_ble_eq_true rfl) ⟨Nat.le_of_ble_eq_true rfl, Nat.le_of_ble_eq_true rfl⟩ ⟨Nat.zero_le _, Nat.zero_le _⟩ (fun H locs hw => ?_)
    refine z_aload_n 16 X dX9_carryOut_16 hl 0 rfl ?_
    refine z_iconst 17 0 X dX9_carryOut_17 (by decide) ?_
    refine z_put 18 zc9 0 11 (zw_44 cA 0 a_this a_this_all a_this_kept a_this_history a_this_slots a_this_isSaved a_this_stream a_this_pad v_historyLong v_streamLong v_spot v_padLong 0 u1.2.2 g_all g_history u4 g_pad) fl_9_191 X dX9_carryOut_18 hw rfl (by decide) rfl rfl rfl (Nat.le_of_ble_eq_true rfl) rfl (fun H locs hw => ?_)
    refine z_iconst 21 0 X dX9_carryOut_21 (by decide) ?_
    refine z_istore_n 22 [(1, .int 0), (0, .ref a_this)] X dX9_carryOut_22 hl (by decide) rfl (fun ls hl => ?_)
    refine z_iconst 23 1 X dX9_carryOut_23 (by decide) ?_
    refine z_istore_n 24 [(2, .int 1), (1, .int 0), (0, .ref a_this)] X dX9_carryOut_24 hl (by decide) rfl (fun ls hl => ?_)
    refine l_X9_carryOut_25 l D cA a_this a_this_all a_this_kept a_this_history a_this_slots a_this_isSaved a_this_stream a_this_pad v_historyLong v_streamLong v_spot v_padLong g_history u4 g_pad out X _ (fun v_padSpot_12 v_readNumber_13 g_all_14 i1_15 H locs ls hw hl hF => ?_) zFuel 0 u1.2.2 g_all 0 1 H locs ls hw (lv_sub hl [2, 1, 0] rfl) hF
    refine z_aload_n 49 X dX9_carryOut_49 hl 0 rfl ?_
    refine z_iconst 50 0 X dX9_carryOut_50 (by decide) ?_
    refine z_put 51 zc9 0 10 (zw_44 cA 0 a_this a_this_all a_this_kept a_this_history a_this_slots a_this_isSaved a_this_stream a_this_pad v_historyLong v_streamLong v_spot 0 v_padSpot_12 v_readNumber_13 g_all_14 g_history u4 g_pad) fl_9_166 X dX9_carryOut_51 hw rfl (by decide) rfl rfl rfl (Nat.le_of_ble_eq_true rfl) rfl (fun H locs hw => ?_)
    refine z_aload_n 54 X dX9_carryOut_54 hl 0 rfl ?_
    refine z_iload_n 55 X dX9_carryOut_55 hl 1 rfl ?_
    obtain ⟨u16, e17, hF⟩ := zbd hF
    refine z_callV 56 zc9 mv_X9_changed ml_9_126 0 [0, 2, 3] (zw_44 cA 0 a_this a_this_all a_this_kept a_this_history a_this_slots a_this_isSaved a_this_stream a_this_pad u16.2.1 v_streamLong v_spot 0 v_padSpot_12 v_readNumber_13 g_all_14 u16.2.2 u4 g_pad) [] (m_X9_changed l D cA a_this a_this_all a_this_kept a_this_history a_this_slots a_this_isSaved a_this_stream a_this_pad v_historyLong v_streamLong v_spot 0 v_padSpot_12 v_readNumber_13 g_history u4 i1_15 u16 e17) X dX9_carryOut_56 hw hl rfl rfl rfl (by decide) rfl rfl rfl (Nat.le_of_ble_eq_true rfl) ⟨Nat.le_of_ble_eq_true rfl, Nat.le_of_ble_eq_true rfl⟩ ⟨Nat.zero_le _, Nat.zero_le _⟩ (fun H locs hw => ?_)
    cases hF
    exact z_iret 59 X dX9_carryOut_59 hw rfl rfl
  · replace hF := zneg c3 hF
    refine z_bipush 9 (-3) X dX9_carryOut_9 (by decide) ?_
    cases hF
    exact z_iret 11 X dX9_carryOut_11 hw rfl rfl
theorem dX9_undo_0 : decode cX9_undo 0 = .ok (.aload_n 0, 1) := by decide +kernel
theorem dX9_undo_1 : decode cX9_undo 1 = .ok (.getfield 31, 3) := by decide +kernel
theorem dX9_undo_4 : decode cX9_undo 4 = .ok (.ifCond .ne 6, 3) := by decide +kernel
theorem dX9_undo_7 : decode cX9_undo 7 = .ok (.bipush (-5), 2) := by decide +kernel
theorem dX9_undo_9 : decode cX9_undo 9 = .ok (.ireturn, 1) := by decide +kernel
theorem dX9_undo_10 : decode cX9_undo 10 = .ok (.aload_n 0, 1) := by decide +kernel
theorem dX9_undo_11 : decode cX9_undo 11 = .ok (.dup, 1) := by decide +kernel
theorem dX9_undo_12 : decode cX9_undo 12 = .ok (.getfield 31, 3) := by decide +kernel
theorem dX9_undo_15 : decode cX9_undo 15 = .ok (.iconst 1, 1) := by decide +kernel
theorem dX9_undo_16 : decode cX9_undo 16 = .ok (.isub, 1) := by decide +kernel
theorem dX9_undo_17 : decode cX9_undo 17 = .ok (.putfield 31, 3) := by decide +kernel
theorem dX9_undo_20 : decode cX9_undo 20 = .ok (.iconst 0, 1) := by decide +kernel
theorem dX9_undo_21 : decode cX9_undo 21 = .ok (.istore_n 1, 1) := by decide +kernel
theorem dX9_undo_22 : decode cX9_undo 22 = .ok (.iload_n 1, 1) := by decide +kernel
theorem dX9_undo_23 : decode cX9_undo 23 = .ok (.bipush 67, 2) := by decide +kernel
theorem dX9_undo_25 : decode cX9_undo 25 = .ok (.if_icmp .ge 29, 3) := by decide +kernel
theorem dX9_undo_28 : decode cX9_undo 28 = .ok (.aload_n 0, 1) := by decide +kernel
theorem dX9_undo_29 : decode cX9_undo 29 = .ok (.getfield 7, 3) := by decide +kernel
theorem dX9_undo_32 : decode cX9_undo 32 = .ok (.iload_n 1, 1) := by decide +kernel
theorem dX9_undo_33 : decode cX9_undo 33 = .ok (.aload_n 0, 1) := by decide +kernel
theorem dX9_undo_34 : decode cX9_undo 34 = .ok (.getfield 16, 3) := by decide +kernel
theorem dX9_undo_37 : decode cX9_undo 37 = .ok (.bipush 67, 2) := by decide +kernel
theorem dX9_undo_39 : decode cX9_undo 39 = .ok (.aload_n 0, 1) := by decide +kernel
theorem dX9_undo_40 : decode cX9_undo 40 = .ok (.getfield 31, 3) := by decide +kernel
theorem dX9_undo_43 : decode cX9_undo 43 = .ok (.imul, 1) := by decide +kernel
theorem dX9_undo_44 : decode cX9_undo 44 = .ok (.iload_n 1, 1) := by decide +kernel
theorem dX9_undo_45 : decode cX9_undo 45 = .ok (.iadd, 1) := by decide +kernel
theorem dX9_undo_46 : decode cX9_undo 46 = .ok (.iaload, 1) := by decide +kernel
theorem dX9_undo_47 : decode cX9_undo 47 = .ok (.iastore, 1) := by decide +kernel
theorem dX9_undo_48 : decode cX9_undo 48 = .ok (.iinc 1 1, 3) := by decide +kernel
theorem dX9_undo_51 : decode cX9_undo 51 = .ok (.goto (-29), 3) := by decide +kernel
theorem dX9_undo_54 : decode cX9_undo 54 = .ok (.aload_n 0, 1) := by decide +kernel
theorem dX9_undo_55 : decode cX9_undo 55 = .ok (.getfield 31, 3) := by decide +kernel
theorem dX9_undo_58 : decode cX9_undo 58 = .ok (.ireturn, 1) := by decide +kernel
set_option maxHeartbeats 4000000 in
set_option maxRecDepth 100000 in
theorem l_X9_undo_22 (l : Launch) (D : va_G) (cA : ClassId) (a_this a_this_all a_this_kept a_this_history a_this_slots a_this_isSaved a_this_stream a_this_pad : Nat) (v_historyLong : Int32) (v_streamLong : Int32) (v_spot : Int32) (v_padLong : Int32) (v_padSpot : Int32) (v_readNumber : Int32) (g_history : Ar) (out : Int32 × Int32 × Ar) {p : Program} {e : Env} {s : State} {m : MethodId} {args : Array Value} {below : List Frame} {meth : Method} {c : Code} {A : Nat → Prop} (X : zX D cA p s m args meth c cX9_undo 2 RX9 (some .int)) (k : Ar → Option (Int32 × Int32 × Ar)) (hk : ∀ (g_all : Ar) (H : Heap) (locs : List Loc) (ls : Array Slot), zH D A s (zw_45 cA 0 a_this a_this_all a_this_kept a_this_history a_this_slots a_this_isSaved a_this_stream a_this_pad v_historyLong v_streamLong v_spot v_padLong v_padSpot v_readNumber g_all g_history) H locs → lv_has ls 2 [(0, .ref a_this)] → k g_all = some out → W p l e (zR 0 0) s m args below meth c H locs 0 0 (MQ below (zQ D (zw_45 cA 0 a_this a_this_all a_this_kept a_this_history a_this_slots a_this_isSaved a_this_stream a_this_pad out.2.1 v_streamLong v_spot v_padLong v_padSpot v_readNumber out.2.2 g_history) (some (.int out.1)) A) args s 0 0 A) (F0 m 54 ls [])) :
    ∀ (fuel : Nat) (g_all : Ar) (i1 : Int32) (H : Heap) (locs : List Loc) (ls : Array Slot), zH D A s (zw_45 cA 0 a_this a_this_all a_this_kept a_this_history a_this_slots a_this_isSaved a_this_stream a_this_pad v_historyLong v_streamLong v_spot v_padLong v_padSpot v_readNumber g_all g_history) H locs → lv_has ls 2 [(0, .ref a_this), (1, .int i1)] → F_X9_undo_L22 v_historyLong g_history k fuel g_all i1 = some out → W p l e (zR 0 0) s m args below meth c H locs 0 0 (MQ below (zQ D (zw_45 cA 0 a_this a_this_all a_this_kept a_this_history a_this_slots a_this_isSaved a_this_stream a_this_pad out.2.1 v_streamLong v_spot v_padLong v_padSpot v_readNumber out.2.2 g_history) (some (.int out.1)) A) args s 0 0 A) (F0 m 22 ls []) := by
  intro fuel
  induction fuel with
  | zero => intro g_all i1 H locs ls hw hl hF; exact nomatch (show (none : Option (Int32 × Int32 × Ar)) = some out from hF)
  | succ fuel ih =>
    intro g_all i1 H locs ls hw hl hF
    rw [F_X9_undo_L22] at hF
    refine z_iload_n 22 X dX9_undo_22 hl 1 rfl ?_
    refine z_bipush 23 67 X dX9_undo_23 (by decide) ?_
    refine z_icmp_ge 25 54 X dX9_undo_25 (by decide) (fun c2 => ?_) (fun c2 => ?_)
    · replace hF := zpos c2 hF
      exact hk g_all H locs ls hw (lv_sub hl [0] rfl) hF
    · replace hF := zneg c2 hF
      refine z_aload_n 28 X dX9_undo_28 hl 0 rfl ?_
      refine z_get 29 zc9 0 0 fl_9_7 X dX9_undo_29 hw rfl (by decide) rfl ?_
      refine z_iload_n 32 X dX9_undo_32 hl 1 rfl ?_
      refine z_aload_n 33 X dX9_undo_33 hl 0 rfl ?_
      refine z_get 34 zc9 0 2 fl_9_16 X dX9_undo_34 hw rfl (by decide) rfl ?_
      refine z_bipush 37 67 X dX9_undo_37 (by decide) ?_
      refine z_aload_n 39 X dX9_undo_39 hl 0 rfl ?_
      refine z_get 40 zc9 0 3 fl_9_31 X dX9_undo_40 hw rfl (by decide) rfl ?_
      refine z_imul 43 X dX9_undo_43 ?_
      refine z_iload_n 44 X dX9_undo_44 hl 1 rfl ?_
      refine z_iadd 45 X dX9_undo_45 ?_
      obtain ⟨gd3, hF⟩ := zgd hF
      refine z_iald 46 2 (g_history ((67 * v_historyLong) + i1).toNatClampNeg) X dX9_undo_46 hw rfl gd3 rfl ?_
      obtain ⟨gd4, hF⟩ := zgd hF
      refine z_iast 47 1 (zw_45 cA 0 a_this a_this_all a_this_kept a_this_history a_this_slots a_this_isSaved a_this_stream a_this_pad v_historyLong v_streamLong v_spot v_padLong v_padSpot v_readNumber (upd g_all (i1.toNatClampNeg) (g_history ((67 * v_historyLong) + i1).toNatClampNeg)) g_history) X dX9_undo_47 hw rfl gd4 rfl (fun H locs hw => ?_)
      refine z_iinc2 48 1 [(1, .int (i1 + 1)), (0, .ref a_this)] X dX9_undo_48 hl 1 rfl (by decide) (by decide) rfl (fun ls hl => ?_)
      refine z_goto 51 22 X dX9_undo_51 (by decide) ?_
      exact ih (upd g_all (i1.toNatClampNeg) (g_history ((67 * v_historyLong) + i1).toNatClampNeg)) (i1 + 1) H locs ls hw (lv_sub hl [1, 0] rfl) hF
set_option maxHeartbeats 4000000 in
set_option maxRecDepth 100000 in
theorem m_X9_undo (l : Launch) (D : va_G) (cA : ClassId) (a_this a_this_all a_this_kept a_this_history a_this_slots a_this_isSaved a_this_stream a_this_pad : Nat) (v_historyLong : Int32) (v_streamLong : Int32) (v_spot : Int32) (v_padLong : Int32) (v_padSpot : Int32) (v_readNumber : Int32) (g_all : Ar) (g_history : Ar) (out : Int32 × Int32 × Ar) (hF : F_X9_undo v_historyLong g_all g_history = some out) : zM l D cA yX9_undo cX9_undo 2 (some .int) 0 0 [.ref a_this] (zw_45 cA 0 a_this a_this_all a_this_kept a_this_history a_this_slots a_this_isSaved a_this_stream a_this_pad v_historyLong v_streamLong v_spot v_padLong v_padSpot v_readNumber g_all g_history) (zw_45 cA 0 a_this a_this_all a_this_kept a_this_history a_this_slots a_this_isSaved a_this_stream a_this_pad out.2.1 v_streamLong v_spot v_padLong v_padSpot v_readNumber out.2.2 g_history) (some (.int out.1)) := by
  refine z_body (by decide) (Nat.le_of_ble_eq_true rfl) ?_
  intro p e s m args below meth c ls H locs A X hl hw
  have hl : lv_has ls 2 [(0, .ref a_this)] := hl
  unfold F_X9_undo at hF
  refine z_aload_n 0 X dX9_undo_0 hl 0 rfl ?_
  refine z_get 1 zc9 0 3 fl_9_31 X dX9_undo_1 hw rfl (by decide) rfl ?_
  refine z_if_ne 4 10 X dX9_undo_4 (by decide) (fun c1 => ?_) (fun c1 => ?_)
  · replace hF := zneg c1 hF
    refine z_aload_n 10 X dX9_undo_10 hl 0 rfl ?_
    refine z_dup 11 X dX9_undo_11 rfl ?_
    refine z_get 12 zc9 0 3 fl_9_31 X dX9_undo_12 hw rfl (by decide) rfl ?_
    refine z_iconst 15 1 X dX9_undo_15 (by decide) ?_
    refine z_isub 16 X dX9_undo_16 ?_
    refine z_put 17 zc9 0 3 (zw_45 cA 0 a_this a_this_all a_this_kept a_this_history a_this_slots a_this_isSaved a_this_stream a_this_pad (v_historyLong - 1) v_streamLong v_spot v_padLong v_padSpot v_readNumber g_all g_history) fl_9_31 X dX9_undo_17 hw rfl (by decide) rfl rfl rfl (Nat.le_of_ble_eq_true rfl) rfl (fun H locs hw => ?_)
    refine z_iconst 20 0 X dX9_undo_20 (by decide) ?_
    refine z_istore_n 21 [(1, .int 0), (0, .ref a_this)] X dX9_undo_21 hl (by decide) rfl (fun ls hl => ?_)
    refine l_X9_undo_22 l D cA a_this a_this_all a_this_kept a_this_history a_this_slots a_this_isSaved a_this_stream a_this_pad (v_historyLong - 1) v_streamLong v_spot v_padLong v_padSpot v_readNumber g_history out X _ (fun g_all_5 H locs ls hw hl hF => ?_) zFuel g_all 0 H locs ls hw (lv_sub hl [1, 0] rfl) hF
    refine z_aload_n 54 X dX9_undo_54 hl 0 rfl ?_
    refine z_get 55 zc9 0 3 fl_9_31 X dX9_undo_55 hw rfl (by decide) rfl ?_
    cases hF
    exact z_iret 58 X dX9_undo_58 hw rfl rfl
  · replace hF := zpos c1 hF
    refine z_bipush 7 (-5) X dX9_undo_7 (by decide) ?_
    cases hF
    exact z_iret 9 X dX9_undo_9 hw rfl rfl
theorem dX9_save_0 : decode cX9_save 0 = .ok (.iload_n 1, 1) := by decide +kernel
theorem dX9_save_1 : decode cX9_save 1 = .ok (.i2l, 1) := by decide +kernel
theorem dX9_save_2 : decode cX9_save 2 = .ok (.lconst 0, 1) := by decide +kernel
theorem dX9_save_3 : decode cX9_save 3 = .ok (.lconst 1, 1) := by decide +kernel
theorem dX9_save_4 : decode cX9_save 4 = .ok (.invokestatic 91, 3) := by decide +kernel
theorem dX9_save_7 : decode cX9_save 7 = .ok (.ifCond .ne 6, 3) := by decide +kernel
theorem dX9_save_10 : decode cX9_save 10 = .ok (.bipush (-2), 2) := by decide +kernel
theorem dX9_save_12 : decode cX9_save 12 = .ok (.ireturn, 1) := by decide +kernel
theorem dX9_save_13 : decode cX9_save 13 = .ok (.iconst 0, 1) := by decide +kernel
theorem dX9_save_14 : decode cX9_save 14 = .ok (.istore_n 2, 1) := by decide +kernel
theorem dX9_save_15 : decode cX9_save 15 = .ok (.iload_n 2, 1) := by decide +kernel
theorem dX9_save_16 : decode cX9_save 16 = .ok (.bipush 67, 2) := by decide +kernel
theorem dX9_save_18 : decode cX9_save 18 = .ok (.if_icmp .ge 26, 3) := by decide +kernel
theorem dX9_save_21 : decode cX9_save 21 = .ok (.aload_n 0, 1) := by decide +kernel
theorem dX9_save_22 : decode cX9_save 22 = .ok (.getfield 19, 3) := by decide +kernel
theorem dX9_save_25 : decode cX9_save 25 = .ok (.bipush 67, 2) := by decide +kernel
theorem dX9_save_27 : decode cX9_save 27 = .ok (.iload_n 1, 1) := by decide +kernel
theorem dX9_save_28 : decode cX9_save 28 = .ok (.imul, 1) := by decide +kernel
theorem dX9_save_29 : decode cX9_save 29 = .ok (.iload_n 2, 1) := by decide +kernel
theorem dX9_save_30 : decode cX9_save 30 = .ok (.iadd, 1) := by decide +kernel
theorem dX9_save_31 : decode cX9_save 31 = .ok (.aload_n 0, 1) := by decide +kernel
theorem dX9_save_32 : decode cX9_save 32 = .ok (.getfield 7, 3) := by decide +kernel
theorem dX9_save_35 : decode cX9_save 35 = .ok (.iload_n 2, 1) := by decide +kernel
theorem dX9_save_36 : decode cX9_save 36 = .ok (.iaload, 1) := by decide +kernel
theorem dX9_save_37 : decode cX9_save 37 = .ok (.iastore, 1) := by decide +kernel
theorem dX9_save_38 : decode cX9_save 38 = .ok (.iinc 2 1, 3) := by decide +kernel
theorem dX9_save_41 : decode cX9_save 41 = .ok (.goto (-26), 3) := by decide +kernel
theorem dX9_save_44 : decode cX9_save 44 = .ok (.aload_n 0, 1) := by decide +kernel
theorem dX9_save_45 : decode cX9_save 45 = .ok (.getfield 22, 3) := by decide +kernel
theorem dX9_save_48 : decode cX9_save 48 = .ok (.iload_n 1, 1) := by decide +kernel
theorem dX9_save_49 : decode cX9_save 49 = .ok (.iconst 1, 1) := by decide +kernel
theorem dX9_save_50 : decode cX9_save 50 = .ok (.iastore, 1) := by decide +kernel
theorem dX9_save_51 : decode cX9_save 51 = .ok (.aload_n 0, 1) := by decide +kernel
theorem dX9_save_52 : decode cX9_save 52 = .ok (.getfield 7, 3) := by decide +kernel
theorem dX9_save_55 : decode cX9_save 55 = .ok (.iconst 2, 1) := by decide +kernel
theorem dX9_save_56 : decode cX9_save 56 = .ok (.iaload, 1) := by decide +kernel
theorem dX9_save_57 : decode cX9_save 57 = .ok (.ireturn, 1) := by decide +kernel
set_option maxHeartbeats 4000000 in
set_option maxRecDepth 100000 in
theorem l_X9_save_15 (l : Launch) (D : va_G) (cA : ClassId) (a_this a_this_all a_this_kept a_this_history a_this_slots a_this_isSaved a_this_stream a_this_pad : Nat) (v_historyLong : Int32) (v_streamLong : Int32) (v_spot : Int32) (v_padLong : Int32) (v_padSpot : Int32) (v_readNumber : Int32) (g_all : Ar) (g_isSaved : Ar) (i1 : Int32) (out : Int32 × Ar × Ar) {p : Program} {e : Env} {s : State} {m : MethodId} {args : Array Value} {below : List Frame} {meth : Method} {c : Code} {A : Nat → Prop} (X : zX D cA p s m args meth c cX9_save 3 RX9 (some .int)) (k : Ar → Option (Int32 × Ar × Ar)) (hk : ∀ (g_slots : Ar) (H : Heap) (locs : List Loc) (ls : Array Slot), zH D A s (zw_46 cA 0 a_this a_this_all a_this_kept a_this_history a_this_slots a_this_isSaved a_this_stream a_this_pad v_historyLong v_streamLong v_spot v_padLong v_padSpot v_readNumber g_all g_isSaved g_slots) H locs → lv_has ls 3 [(0, .ref a_this), (1, .int i1)] → k g_slots = some out → W p l e (zR 1 25) s m args below meth c H locs 0 0 (MQ below (zQ D (zw_46 cA 0 a_this a_this_all a_this_kept a_this_history a_this_slots a_this_isSaved a_this_stream a_this_pad v_historyLong v_streamLong v_spot v_padLong v_padSpot v_readNumber g_all out.2.1 out.2.2) (some (.int out.1)) A) args s 0 0 A) (F0 m 44 ls [])) :
    ∀ (fuel : Nat) (g_slots : Ar) (i2 : Int32) (H : Heap) (locs : List Loc) (ls : Array Slot), zH D A s (zw_46 cA 0 a_this a_this_all a_this_kept a_this_history a_this_slots a_this_isSaved a_this_stream a_this_pad v_historyLong v_streamLong v_spot v_padLong v_padSpot v_readNumber g_all g_isSaved g_slots) H locs → lv_has ls 3 [(0, .ref a_this), (1, .int i1), (2, .int i2)] → F_X9_save_L15 g_all i1 k fuel g_slots i2 = some out → W p l e (zR 1 25) s m args below meth c H locs 0 0 (MQ below (zQ D (zw_46 cA 0 a_this a_this_all a_this_kept a_this_history a_this_slots a_this_isSaved a_this_stream a_this_pad v_historyLong v_streamLong v_spot v_padLong v_padSpot v_readNumber g_all out.2.1 out.2.2) (some (.int out.1)) A) args s 0 0 A) (F0 m 15 ls []) := by
  intro fuel
  induction fuel with
  | zero => intro g_slots i2 H locs ls hw hl hF; exact nomatch (show (none : Option (Int32 × Ar × Ar)) = some out from hF)
  | succ fuel ih =>
    intro g_slots i2 H locs ls hw hl hF
    rw [F_X9_save_L15] at hF
    refine z_iload_n 15 X dX9_save_15 hl 2 rfl ?_
    refine z_bipush 16 67 X dX9_save_16 (by decide) ?_
    refine z_icmp_ge 18 44 X dX9_save_18 (by decide) (fun c4 => ?_) (fun c4 => ?_)
    · replace hF := zpos c4 hF
      exact hk g_slots H locs ls hw (lv_sub hl [0, 1] rfl) hF
    · replace hF := zneg c4 hF
      refine z_aload_n 21 X dX9_save_21 hl 0 rfl ?_
      refine z_get 22 zc9 0 4 fl_9_19 X dX9_save_22 hw rfl (by decide) rfl ?_
      refine z_bipush 25 67 X dX9_save_25 (by decide) ?_
      refine z_iload_n 27 X dX9_save_27 hl 1 rfl ?_
      refine z_imul 28 X dX9_save_28 ?_
      refine z_iload_n 29 X dX9_save_29 hl 2 rfl ?_
      refine z_iadd 30 X dX9_save_30 ?_
      refine z_aload_n 31 X dX9_save_31 hl 0 rfl ?_
      refine z_get 32 zc9 0 0 fl_9_7 X dX9_save_32 hw rfl (by decide) rfl ?_
      refine z_iload_n 35 X dX9_save_35 hl 2 rfl ?_
      obtain ⟨gd5, hF⟩ := zgd hF
      refine z_iald 36 1 (g_all i2.toNatClampNeg) X dX9_save_36 hw rfl gd5 rfl ?_
      obtain ⟨gd6, hF⟩ := zgd hF
      refine z_iast 37 3 (zw_46 cA 0 a_this a_this_all a_this_kept a_this_history a_this_slots a_this_isSaved a_this_stream a_this_pad v_historyLong v_streamLong v_spot v_padLong v_padSpot v_readNumber g_all g_isSaved (upd g_slots (((67 * i1) + i2).toNatClampNeg) (g_all i2.toNatClampNeg))) X dX9_save_37 hw rfl gd6 rfl (fun H locs hw => ?_)
      refine z_iinc2 38 1 [(2, .int (i2 + 1)), (0, .ref a_this), (1, .int i1)] X dX9_save_38 hl 2 rfl (by decide) (by decide) rfl (fun ls hl => ?_)
      refine z_goto 41 15 X dX9_save_41 (by decide) ?_
      exact ih (upd g_slots (((67 * i1) + i2).toNatClampNeg) (g_all i2.toNatClampNeg)) (i2 + 1) H locs ls hw (lv_sub hl [1, 2, 0] rfl) hF
set_option maxHeartbeats 4000000 in
set_option maxRecDepth 100000 in
theorem m_X9_save (l : Launch) (D : va_G) (cA : ClassId) (a_this a_this_all a_this_kept a_this_history a_this_slots a_this_isSaved a_this_stream a_this_pad : Nat) (v_historyLong : Int32) (v_streamLong : Int32) (v_spot : Int32) (v_padLong : Int32) (v_padSpot : Int32) (v_readNumber : Int32) (g_all : Ar) (g_isSaved : Ar) (g_slots : Ar) (i1 : Int32) (out : Int32 × Ar × Ar) (hF : F_X9_save g_all g_isSaved g_slots i1 = some out) : zM l D cA yX9_save cX9_save 3 (some .int) 1 25 [.ref a_this, .int i1] (zw_46 cA 0 a_this a_this_all a_this_kept a_this_history a_this_slots a_this_isSaved a_this_stream a_this_pad v_historyLong v_streamLong v_spot v_padLong v_padSpot v_readNumber g_all g_isSaved g_slots) (zw_46 cA 0 a_this a_this_all a_this_kept a_this_history a_this_slots a_this_isSaved a_this_stream a_this_pad v_historyLong v_streamLong v_spot v_padLong v_padSpot v_readNumber g_all out.2.1 out.2.2) (some (.int out.1)) := by
  refine z_body (by decide) (Nat.le_of_ble_eq_true rfl) ?_
  intro p e s m args below meth c ls H locs A X hl hw
  have hl : lv_has ls 3 [(0, .ref a_this), (1, .int i1)] := hl
  unfold F_X9_save at hF
  refine z_iload_n 0 X dX9_save_0 hl 1 rfl ?_
  refine z_i2l 1 X dX9_save_1 ?_
  refine z_lconst 2 0 X dX9_save_2 (by decide) ?_
  refine z_lconst 3 1 X dX9_save_3 (by decide) ?_
  obtain ⟨u1, e2, hF⟩ := zbd hF
  refine z_callS 4 mv_X9_in ml_9_91 [] (zw_46 cA 0 a_this a_this_all a_this_kept a_this_history a_this_slots a_this_isSaved a_this_stream a_this_pad v_historyLong v_streamLong v_spot v_padLong v_padSpot v_readNumber g_all g_isSaved g_slots) [] (m_X9_in l D cA (i1.toInt64) 0 1 u1 e2) X dX9_save_4 hw hl rfl rfl (by decide) rfl rfl rfl (Nat.le_of_ble_eq_true rfl) ⟨Nat.le_of_ble_eq_true rfl, Nat.le_of_ble_eq_true rfl⟩ ⟨Nat.zero_le _, Nat.zero_le _⟩ (fun H locs hw => ?_)
  refine z_if_ne 7 13 X dX9_save_7 (by decide) (fun c3 => ?_) (fun c3 => ?_)
  · replace hF := zneg c3 hF
    refine z_iconst 13 0 X dX9_save_13 (by decide) ?_
    refine z_istore_n 14 [(2, .int 0), (0, .ref a_this), (1, .int i1)] X dX9_save_14 hl (by decide) rfl (fun ls hl => ?_)
    refine l_X9_save_15 l D cA a_this a_this_all a_this_kept a_this_history a_this_slots a_this_isSaved a_this_stream a_this_pad v_historyLong v_streamLong v_spot v_padLong v_padSpot v_readNumber g_all g_isSaved i1 out X _ (fun g_slots_7 H locs ls hw hl hF => ?_) zFuel g_slots 0 H locs ls hw (lv_sub hl [1, 2, 0] rfl) hF
    refine z_aload_n 44 X dX9_save_44 hl 0 rfl ?_
    refine z_get 45 zc9 0 5 fl_9_22 X dX9_save_45 hw rfl (by decide) rfl ?_
    refine z_iload_n 48 X dX9_save_48 hl 1 rfl ?_
    refine z_iconst 49 1 X dX9_save_49 (by decide) ?_
    obtain ⟨gd8, hF⟩ := zgd hF
    refine z_iast 50 2 (zw_46 cA 0 a_this a_this_all a_this_kept a_this_history a_this_slots a_this_isSaved a_this_stream a_this_pad v_historyLong v_streamLong v_spot v_padLong v_padSpot v_readNumber g_all (upd g_isSaved (i1.toNatClampNeg) 1) g_slots_7) X dX9_save_50 hw rfl gd8 rfl (fun H locs hw => ?_)
    refine z_aload_n 51 X dX9_save_51 hl 0 rfl ?_
    refine z_get 52 zc9 0 0 fl_9_7 X dX9_save_52 hw rfl (by decide) rfl ?_
    refine z_iconst 55 2 X dX9_save_55 (by decide) ?_
    refine z_iald 56 1 (g_all 2) X dX9_save_56 hw rfl (by decide) rfl ?_
    cases hF
    exact z_iret 57 X dX9_save_57 hw rfl rfl
  · replace hF := zpos c3 hF
    refine z_bipush 10 (-2) X dX9_save_10 (by decide) ?_
    cases hF
    exact z_iret 12 X dX9_save_12 hw rfl rfl
theorem dX9_restore_0 : decode cX9_restore 0 = .ok (.iload_n 1, 1) := by decide +kernel
theorem dX9_restore_1 : decode cX9_restore 1 = .ok (.i2l, 1) := by decide +kernel
theorem dX9_restore_2 : decode cX9_restore 2 = .ok (.lconst 0, 1) := by decide +kernel
theorem dX9_restore_3 : decode cX9_restore 3 = .ok (.lconst 1, 1) := by decide +kernel
theorem dX9_restore_4 : decode cX9_restore 4 = .ok (.invokestatic 91, 3) := by decide +kernel
theorem dX9_restore_7 : decode cX9_restore 7 = .ok (.ifCond .ne 6, 3) := by decide +kernel
theorem dX9_restore_10 : decode cX9_restore 10 = .ok (.bipush (-2), 2) := by decide +kernel
theorem dX9_restore_12 : decode cX9_restore 12 = .ok (.ireturn, 1) := by decide +kernel
theorem dX9_restore_13 : decode cX9_restore 13 = .ok (.aload_n 0, 1) := by decide +kernel
theorem dX9_restore_14 : decode cX9_restore 14 = .ok (.getfield 22, 3) := by decide +kernel
theorem dX9_restore_17 : decode cX9_restore 17 = .ok (.iload_n 1, 1) := by decide +kernel
theorem dX9_restore_18 : decode cX9_restore 18 = .ok (.iaload, 1) := by decide +kernel
theorem dX9_restore_19 : decode cX9_restore 19 = .ok (.ifCond .ne 6, 3) := by decide +kernel
theorem dX9_restore_22 : decode cX9_restore 22 = .ok (.bipush (-5), 2) := by decide +kernel
theorem dX9_restore_24 : decode cX9_restore 24 = .ok (.ireturn, 1) := by decide +kernel
theorem dX9_restore_25 : decode cX9_restore 25 = .ok (.aload_n 0, 1) := by decide +kernel
theorem dX9_restore_26 : decode cX9_restore 26 = .ok (.invokevirtual 120, 3) := by decide +kernel
theorem dX9_restore_29 : decode cX9_restore 29 = .ok (.iconst 0, 1) := by decide +kernel
theorem dX9_restore_30 : decode cX9_restore 30 = .ok (.istore_n 2, 1) := by decide +kernel
theorem dX9_restore_31 : decode cX9_restore 31 = .ok (.iload_n 2, 1) := by decide +kernel
theorem dX9_restore_32 : decode cX9_restore 32 = .ok (.bipush 67, 2) := by decide +kernel
theorem dX9_restore_34 : decode cX9_restore 34 = .ok (.if_icmp .ge 26, 3) := by decide +kernel
theorem dX9_restore_37 : decode cX9_restore 37 = .ok (.aload_n 0, 1) := by decide +kernel
theorem dX9_restore_38 : decode cX9_restore 38 = .ok (.getfield 7, 3) := by decide +kernel
theorem dX9_restore_41 : decode cX9_restore 41 = .ok (.iload_n 2, 1) := by decide +kernel
theorem dX9_restore_42 : decode cX9_restore 42 = .ok (.aload_n 0, 1) := by decide +kernel
theorem dX9_restore_43 : decode cX9_restore 43 = .ok (.getfield 19, 3) := by decide +kernel
theorem dX9_restore_46 : decode cX9_restore 46 = .ok (.bipush 67, 2) := by decide +kernel
theorem dX9_restore_48 : decode cX9_restore 48 = .ok (.iload_n 1, 1) := by decide +kernel
theorem dX9_restore_49 : decode cX9_restore 49 = .ok (.imul, 1) := by decide +kernel
theorem dX9_restore_50 : decode cX9_restore 50 = .ok (.iload_n 2, 1) := by decide +kernel
theorem dX9_restore_51 : decode cX9_restore 51 = .ok (.iadd, 1) := by decide +kernel
theorem dX9_restore_52 : decode cX9_restore 52 = .ok (.iaload, 1) := by decide +kernel
theorem dX9_restore_53 : decode cX9_restore 53 = .ok (.iastore, 1) := by decide +kernel
theorem dX9_restore_54 : decode cX9_restore 54 = .ok (.iinc 2 1, 3) := by decide +kernel
theorem dX9_restore_57 : decode cX9_restore 57 = .ok (.goto (-26), 3) := by decide +kernel
theorem dX9_restore_60 : decode cX9_restore 60 = .ok (.aload_n 0, 1) := by decide +kernel
theorem dX9_restore_61 : decode cX9_restore 61 = .ok (.aload_n 0, 1) := by decide +kernel
theorem dX9_restore_62 : decode cX9_restore 62 = .ok (.getfield 7, 3) := by decide +kernel
theorem dX9_restore_65 : decode cX9_restore 65 = .ok (.iconst 2, 1) := by decide +kernel
theorem dX9_restore_66 : decode cX9_restore 66 = .ok (.iaload, 1) := by decide +kernel
theorem dX9_restore_67 : decode cX9_restore 67 = .ok (.invokevirtual 126, 3) := by decide +kernel
theorem dX9_restore_70 : decode cX9_restore 70 = .ok (.ireturn, 1) := by decide +kernel
set_option maxHeartbeats 4000000 in
set_option maxRecDepth 100000 in
theorem l_X9_restore_31 (l : Launch) (D : va_G) (cA : ClassId) (a_this a_this_all a_this_kept a_this_history a_this_slots a_this_isSaved a_this_stream a_this_pad : Nat) (v_historyLong : Int32) (v_streamLong : Int32) (v_spot : Int32) (v_padLong : Int32) (v_padSpot : Int32) (v_readNumber : Int32) (g_history : Ar) (g_isSaved : Ar) (g_kept : Ar) (g_slots : Ar) (i1 : Int32) (out : Int32 × Int32 × Ar × Ar × Ar) {p : Program} {e : Env} {s : State} {m : MethodId} {args : Array Value} {below : List Frame} {meth : Method} {c : Code} {A : Nat → Prop} (X : zX D cA p s m args meth c cX9_restore 3 RX9 (some .int)) (k : Ar → Option (Int32 × Int32 × Ar × Ar × Ar)) (hk : ∀ (g_all : Ar) (H : Heap) (locs : List Loc) (ls : Array Slot), zH D A s (zw_47 cA 0 a_this a_this_all a_this_kept a_this_history a_this_slots a_this_isSaved a_this_stream a_this_pad v_historyLong v_streamLong v_spot v_padLong v_padSpot v_readNumber g_all g_history g_isSaved g_kept g_slots) H locs → lv_has ls 3 [(0, .ref a_this)] → k g_all = some out → W p l e (zR 1 25) s m args below meth c H locs 0 0 (MQ below (zQ D (zw_47 cA 0 a_this a_this_all a_this_kept a_this_history a_this_slots a_this_isSaved a_this_stream a_this_pad out.2.1 v_streamLong v_spot v_padLong v_padSpot v_readNumber out.2.2.1 out.2.2.2.1 g_isSaved out.2.2.2.2 g_slots) (some (.int out.1)) A) args s 0 0 A) (F0 m 60 ls [])) :
    ∀ (fuel : Nat) (g_all : Ar) (i2 : Int32) (H : Heap) (locs : List Loc) (ls : Array Slot), zH D A s (zw_47 cA 0 a_this a_this_all a_this_kept a_this_history a_this_slots a_this_isSaved a_this_stream a_this_pad v_historyLong v_streamLong v_spot v_padLong v_padSpot v_readNumber g_all g_history g_isSaved g_kept g_slots) H locs → lv_has ls 3 [(0, .ref a_this), (1, .int i1), (2, .int i2)] → F_X9_restore_L31 g_slots i1 k fuel g_all i2 = some out → W p l e (zR 1 25) s m args below meth c H locs 0 0 (MQ below (zQ D (zw_47 cA 0 a_this a_this_all a_this_kept a_this_history a_this_slots a_this_isSaved a_this_stream a_this_pad out.2.1 v_streamLong v_spot v_padLong v_padSpot v_readNumber out.2.2.1 out.2.2.2.1 g_isSaved out.2.2.2.2 g_slots) (some (.int out.1)) A) args s 0 0 A) (F0 m 31 ls []) := by
  intro fuel
  induction fuel with
  | zero => intro g_all i2 H locs ls hw hl hF; exact nomatch (show (none : Option (Int32 × Int32 × Ar × Ar × Ar)) = some out from hF)
  | succ fuel ih =>
    intro g_all i2 H locs ls hw hl hF
    rw [F_X9_restore_L31] at hF
    refine z_iload_n 31 X dX9_restore_31 hl 2 rfl ?_
    refine z_bipush 32 67 X dX9_restore_32 (by decide) ?_
    refine z_icmp_ge 34 60 X dX9_restore_34 (by decide) (fun c8 => ?_) (fun c8 => ?_)
    · replace hF := zpos c8 hF
      exact hk g_all H locs ls hw (lv_sub hl [0] rfl) hF
    · replace hF := zneg c8 hF
      refine z_aload_n 37 X dX9_restore_37 hl 0 rfl ?_
      refine z_get 38 zc9 0 0 fl_9_7 X dX9_restore_38 hw rfl (by decide) rfl ?_
      refine z_iload_n 41 X dX9_restore_41 hl 2 rfl ?_
      refine z_aload_n 42 X dX9_restore_42 hl 0 rfl ?_
      refine z_get 43 zc9 0 4 fl_9_19 X dX9_restore_43 hw rfl (by decide) rfl ?_
      refine z_bipush 46 67 X dX9_restore_46 (by decide) ?_
      refine z_iload_n 48 X dX9_restore_48 hl 1 rfl ?_
      refine z_imul 49 X dX9_restore_49 ?_
      refine z_iload_n 50 X dX9_restore_50 hl 2 rfl ?_
      refine z_iadd 51 X dX9_restore_51 ?_
      obtain ⟨gd9, hF⟩ := zgd hF
      refine z_iald 52 5 (g_slots ((67 * i1) + i2).toNatClampNeg) X dX9_restore_52 hw rfl gd9 rfl ?_
      obtain ⟨gd10, hF⟩ := zgd hF
      refine z_iast 53 1 (zw_47 cA 0 a_this a_this_all a_this_kept a_this_history a_this_slots a_this_isSaved a_this_stream a_this_pad v_historyLong v_streamLong v_spot v_padLong v_padSpot v_readNumber (upd g_all (i2.toNatClampNeg) (g_slots ((67 * i1) + i2).toNatClampNeg)) g_history g_isSaved g_kept g_slots) X dX9_restore_53 hw rfl gd10 rfl (fun H locs hw => ?_)
      refine z_iinc2 54 1 [(2, .int (i2 + 1)), (0, .ref a_this), (1, .int i1)] X dX9_restore_54 hl 2 rfl (by decide) (by decide) rfl (fun ls hl => ?_)
      refine z_goto 57 31 X dX9_restore_57 (by decide) ?_
      exact ih (upd g_all (i2.toNatClampNeg) (g_slots ((67 * i1) + i2).toNatClampNeg)) (i2 + 1) H locs ls hw (lv_sub hl [1, 2, 0] rfl) hF
set_option maxHeartbeats 4000000 in
set_option maxRecDepth 100000 in
theorem m_X9_restore (l : Launch) (D : va_G) (cA : ClassId) (a_this a_this_all a_this_kept a_this_history a_this_slots a_this_isSaved a_this_stream a_this_pad : Nat) (v_historyLong : Int32) (v_streamLong : Int32) (v_spot : Int32) (v_padLong : Int32) (v_padSpot : Int32) (v_readNumber : Int32) (g_all : Ar) (g_history : Ar) (g_isSaved : Ar) (g_kept : Ar) (g_slots : Ar) (i1 : Int32) (out : Int32 × Int32 × Ar × Ar × Ar) (hF : F_X9_restore v_historyLong g_all g_history g_isSaved g_kept g_slots i1 = some out) : zM l D cA yX9_restore cX9_restore 3 (some .int) 1 25 [.ref a_this, .int i1] (zw_47 cA 0 a_this a_this_all a_this_kept a_this_history a_this_slots a_this_isSaved a_this_stream a_this_pad v_historyLong v_streamLong v_spot v_padLong v_padSpot v_readNumber g_all g_history g_isSaved g_kept g_slots) (zw_47 cA 0 a_this a_this_all a_this_kept a_this_history a_this_slots a_this_isSaved a_this_stream a_this_pad out.2.1 v_streamLong v_spot v_padLong v_padSpot v_readNumber out.2.2.1 out.2.2.2.1 g_isSaved out.2.2.2.2 g_slots) (some (.int out.1)) := by
  refine z_body (by decide) (Nat.le_of_ble_eq_true rfl) ?_
  intro p e s m args below meth c ls H locs A X hl hw
  have hl : lv_has ls 3 [(0, .ref a_this), (1, .int i1)] := hl
  unfold F_X9_restore at hF
  refine z_iload_n 0 X dX9_restore_0 hl 1 rfl ?_
  refine z_i2l 1 X dX9_restore_1 ?_
  refine z_lconst 2 0 X dX9_restore_2 (by decide) ?_
  refine z_lconst 3 1 X dX9_restore_3 (by decide) ?_
  obtain ⟨u1, e2, hF⟩ := zbd hF
  refine z_callS 4 mv_X9_in ml_9_91 [] (zw_47 cA 0 a_this a_this_all a_this_kept a_this_history a_this_slots a_this_isSaved a_this_stream a_this_pad v_historyLong v_streamLong v_spot v_padLong v_padSpot v_readNumber g_all g_history g_isSaved g_kept g_slots) [] (m_X9_in l D cA (i1.toInt64) 0 1 u1 e2) X dX9_restore_4 hw hl rfl rfl (by decide) rfl rfl rfl (Nat.le_of_ble_eq_true rfl) ⟨Nat.le_of_ble_eq_true rfl, Nat.le_of_ble_eq_true rfl⟩ ⟨Nat.zero_le _, Nat.zero_le _⟩ (fun H locs hw => ?_)
  refine z_if_ne 7 13 X dX9_restore_7 (by decide) (fun c3 => ?_) (fun c3 => ?_)
  · replace hF := zneg c3 hF
    refine z_aload_n 13 X dX9_restore_13 hl 0 rfl ?_
    refine z_get 14 zc9 0 5 fl_9_22 X dX9_restore_14 hw rfl (by decide) rfl ?_
    refine z_iload_n 17 X dX9_restore_17 hl 1 rfl ?_
    obtain ⟨gd4, hF⟩ := zgd hF
    refine z_iald 18 3 (g_isSaved i1.toNatClampNeg) X dX9_restore_18 hw rfl gd4 rfl ?_
    refine z_if_ne 19 25 X dX9_restore_19 (by decide) (fun c5 => ?_) (fun c5 => ?_)
    · replace hF := zneg c5 hF
      refine z_aload_n 25 X dX9_restore_25 hl 0 rfl ?_
      obtain ⟨u6, e7, hF⟩ := zbd hF
      refine z_callV 26 zc9 mv_X9_keep ml_9_120 0 [0, 1, 4] (zw_47 cA 0 a_this a_this_all a_this_kept a_this_history a_this_slots a_this_isSaved a_this_stream a_this_pad v_historyLong v_streamLong v_spot v_padLong v_padSpot v_readNumber g_all g_history g_isSaved u6 g_slots) [] (m_X9_keep l D cA a_this a_this_all a_this_kept a_this_history a_this_slots a_this_isSaved a_this_stream a_this_pad v_historyLong v_streamLong v_spot v_padLong v_padSpot v_readNumber g_all g_kept u6 e7) X dX9_restore_26 hw hl rfl rfl rfl (by decide) rfl rfl rfl (Nat.le_of_ble_eq_true rfl) ⟨Nat.le_of_ble_eq_true rfl, Nat.le_of_ble_eq_true rfl⟩ ⟨Nat.zero_le _, Nat.zero_le _⟩ (fun H locs hw => ?_)
      refine z_iconst 29 0 X dX9_restore_29 (by decide) ?_
      refine z_istore_n 30 [(2, .int 0), (0, .ref a_this), (1, .int i1)] X dX9_restore_30 hl (by decide) rfl (fun ls hl => ?_)
      refine l_X9_restore_31 l D cA a_this a_this_all a_this_kept a_this_history a_this_slots a_this_isSaved a_this_stream a_this_pad v_historyLong v_streamLong v_spot v_padLong v_padSpot v_readNumber g_history g_isSaved u6 g_slots i1 out X _ (fun g_all_11 H locs ls hw hl hF => ?_) zFuel g_all 0 H locs ls hw (lv_sub hl [1, 2, 0] rfl) hF
      refine z_aload_n 60 X dX9_restore_60 hl 0 rfl ?_
      refine z_aload_n 61 X dX9_restore_61 hl 0 rfl ?_
      refine z_get 62 zc9 0 0 fl_9_7 X dX9_restore_62 hw rfl (by decide) rfl ?_
      refine z_iconst 65 2 X dX9_restore_65 (by decide) ?_
      refine z_iald 66 1 (g_all_11 2) X dX9_restore_66 hw rfl (by decide) rfl ?_
      obtain ⟨u12, e13, hF⟩ := zbd hF
      refine z_callV 67 zc9 mv_X9_changed ml_9_126 0 [0, 2, 4] (zw_47 cA 0 a_this a_this_all a_this_kept a_this_history a_this_slots a_this_isSaved a_this_stream a_this_pad u12.2.1 v_streamLong v_spot v_padLong v_padSpot v_readNumber g_all_11 u12.2.2 g_isSaved u6 g_slots) [] (m_X9_changed l D cA a_this a_this_all a_this_kept a_this_history a_this_slots a_this_isSaved a_this_stream a_this_pad v_historyLong v_streamLong v_spot v_padLong v_padSpot v_readNumber g_history u6 (g_all_11 2) u12 e13) X dX9_restore_67 hw hl rfl rfl rfl (by decide) rfl rfl rfl (Nat.le_of_ble_eq_true rfl) ⟨Nat.le_of_ble_eq_true rfl, Nat.le_of_ble_eq_true rfl⟩ ⟨Nat.zero_le _, Nat.zero_le _⟩ (fun H locs hw => ?_)
      cases hF
      exact z_iret 70 X dX9_restore_70 hw rfl rfl
    · replace hF := zpos c5 hF
      refine z_bipush 22 (-5) X dX9_restore_22 (by decide) ?_
      cases hF
      exact z_iret 24 X dX9_restore_24 hw rfl rfl
  · replace hF := zpos c3 hF
    refine z_bipush 10 (-2) X dX9_restore_10 (by decide) ?_
    cases hF
    exact z_iret 12 X dX9_restore_12 hw rfl rfl
