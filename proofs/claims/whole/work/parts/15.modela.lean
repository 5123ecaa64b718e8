theorem dX9_keep_0 : decode cX9_keep 0 = .ok (.iconst 0, 1) := by decide +kernel
theorem dX9_keep_1 : decode cX9_keep 1 = .ok (.istore_n 1, 1) := by decide +kernel
theorem dX9_keep_2 : decode cX9_keep 2 = .ok (.iload_n 1, 1) := by decide +kernel
theorem dX9_keep_3 : decode cX9_keep 3 = .ok (.bipush 67, 2) := by decide +kernel
theorem dX9_keep_5 : decode cX9_keep 5 = .ok (.if_icmp .ge 21, 3) := by decide +kernel
theorem dX9_keep_8 : decode cX9_keep 8 = .ok (.aload_n 0, 1) := by decide +kernel
theorem dX9_keep_9 : decode cX9_keep 9 = .ok (.getfield 13, 3) := by decide +kernel
theorem dX9_keep_12 : decode cX9_keep 12 = .ok (.iload_n 1, 1) := by decide +kernel
theorem dX9_keep_13 : decode cX9_keep 13 = .ok (.aload_n 0, 1) := by decide +kernel
theorem dX9_keep_14 : decode cX9_keep 14 = .ok (.getfield 7, 3) := by decide +kernel
theorem dX9_keep_17 : decode cX9_keep 17 = .ok (.iload_n 1, 1) := by decide +kernel
theorem dX9_keep_18 : decode cX9_keep 18 = .ok (.iaload, 1) := by decide +kernel
theorem dX9_keep_19 : decode cX9_keep 19 = .ok (.iastore, 1) := by decide +kernel
theorem dX9_keep_20 : decode cX9_keep 20 = .ok (.iinc 1 1, 3) := by decide +kernel
theorem dX9_keep_23 : decode cX9_keep 23 = .ok (.goto (-21), 3) := by decide +kernel
theorem dX9_keep_26 : decode cX9_keep 26 = .ok (.return_, 1) := by decide +kernel
set_option maxHeartbeats 4000000 in
set_option maxRecDepth 100000 in
theorem l_X9_keep_2 (l : Launch) (D : va_G) (cA : ClassId) (a_this a_this_all a_this_kept a_this_history a_this_slots a_this_isSaved a_this_stream a_this_pad : Nat) (v_historyLong : Int32) (v_streamLong : Int32) (v_spot : Int32) (v_padLong : Int32) (v_padSpot : Int32) (v_readNumber : Int32) (g_all : Ar) (out : Ar) {p : Program} {e : Env} {s : State} {m : MethodId} {args : Array Value} {below : List Frame} {meth : Method} {c : Code} {A : Nat → Prop} (X : zX D cA p s m args meth c cX9_keep 2 RX9 none) (k : Ar → Option (Ar)) (hk : ∀ (g_kept : Ar) (H : Heap) (locs : List Loc) (ls : Array Slot), zH D A s (zw_35 cA 0 a_this a_this_all a_this_kept a_this_history a_this_slots a_this_isSaved a_this_stream a_this_pad v_historyLong v_streamLong v_spot v_padLong v_padSpot v_readNumber g_all g_kept) H locs → lv_has ls 2 [] → k g_kept = some out → W p l e (zR 0 0) s m args below meth c H locs 0 0 (MQ below (zQ D (zw_35 cA 0 a_this a_this_all a_this_kept a_this_history a_this_slots a_this_isSaved a_this_stream a_this_pad v_historyLong v_streamLong v_spot v_padLong v_padSpot v_readNumber g_all out) none A) args s 0 0 A) (F0 m 26 ls [])) :
    ∀ (fuel : Nat) (g_kept : Ar) (i1 : Int32) (H : Heap) (locs : List Loc) (ls : Array Slot), zH D A s (zw_35 cA 0 a_this a_this_all a_this_kept a_this_history a_this_slots a_this_isSaved a_this_stream a_this_pad v_historyLong v_streamLong v_spot v_padLong v_padSpot v_readNumber g_all g_kept) H locs → lv_has ls 2 [(0, .ref a_this), (1, .int i1)] → F_X9_keep_L2 g_all k fuel g_kept i1 = some out → W p l e (zR 0 0) s m args below meth c H locs 0 0 (MQ below (zQ D (zw_35 cA 0 a_this a_this_all a_this_kept a_this_history a_this_slots a_this_isSaved a_this_stream a_this_pad v_historyLong v_streamLong v_spot v_padLong v_padSpot v_readNumber g_all out) none A) args s 0 0 A) (F0 m 2 ls []) := by
  intro fuel
  induction fuel with
  | zero => intro g_kept i1 H locs ls hw hl hF; exact nomatch (show (none : Option (Ar)) = some out from hF)
  | succ fuel ih =>
    intro g_kept i1 H locs ls hw hl hF
    rw [F_X9_keep_L2] at hF
    refine z_iload_n 2 X dX9_keep_2 hl 1 rfl ?_
    refine z_bipush 3 67 X dX9_keep_3 (by decide) ?_
    refine z_icmp_ge 5 26 X dX9_keep_5 (by decide) (fun c1 => ?_) (fun c1 => ?_)
    · replace hF := zpos c1 hF
      exact hk g_kept H locs ls hw (lv_sub hl [] rfl) hF
    · replace hF := zneg c1 hF
      refine z_aload_n 8 X dX9_keep_8 hl 0 rfl ?_
      refine z_get 9 zc9 0 1 fl_9_13 X dX9_keep_9 hw rfl (by decide) rfl ?_
      refine z_iload_n 12 X dX9_keep_12 hl 1 rfl ?_
      refine z_aload_n 13 X dX9_keep_13 hl 0 rfl ?_
      refine z_get 14 zc9 0 0 fl_9_7 X dX9_keep_14 hw rfl (by decide) rfl ?_
      refine z_iload_n 17 X dX9_keep_17 hl 1 rfl ?_
      obtain ⟨gd2, hF⟩ := zgd hF
      refine z_iald 18 1 (g_all i1.toNatClampNeg) X dX9_keep_18 hw rfl gd2 rfl ?_
      obtain ⟨gd3, hF⟩ := zgd hF
      refine z_iast 19 2 (zw_35 cA 0 a_this a_this_all a_this_kept a_this_history a_this_slots a_this_isSaved a_this_stream a_this_pad v_historyLong v_streamLong v_spot v_padLong v_padSpot v_readNumber g_all (upd g_kept (i1.toNatClampNeg) (g_all i1.toNatClampNeg))) X dX9_keep_19 hw rfl gd3 rfl (fun H locs hw => ?_)
      refine z_iinc2 20 1 [(1, .int (i1 + 1)), (0, .ref a_this)] X dX9_keep_20 hl 1 rfl (by decide) (by decide) rfl (fun ls hl => ?_)
      refine z_goto 23 2 X dX9_keep_23 (by decide) ?_
      exact ih (upd g_kept (i1.toNatClampNeg) (g_all i1.toNatClampNeg)) (i1 + 1) H locs ls hw (lv_sub hl [1, 0] rfl) hF
set_option maxHeartbeats 4000000 in
set_option maxRecDepth 100000 in
theorem m_X9_keep (l : Launch) (D : va_G) (cA : ClassId) (a_this a_this_all a_this_kept a_this_history a_this_slots a_this_isSaved a_this_stream a_this_pad : Nat) (v_historyLong : Int32) (v_streamLong : Int32) (v_spot : Int32) (v_padLong : Int32) (v_padSpot : Int32) (v_readNumber : Int32) (g_all : Ar) (g_kept : Ar) (out : Ar) (hF : F_X9_keep g_all g_kept = some out) : zM l D cA yX9_keep cX9_keep 2 none 0 0 [.ref a_this] (zw_35 cA 0 a_this a_this_all a_this_kept a_this_history a_this_slots a_this_isSaved a_this_stream a_this_pad v_historyLong v_streamLong v_spot v_padLong v_padSpot v_readNumber g_all g_kept) (zw_35 cA 0 a_this a_this_all a_this_kept a_this_history a_this_slots a_this_isSaved a_this_stream a_this_pad v_historyLong v_streamLong v_spot v_padLong v_padSpot v_readNumber g_all out) none := by
  refine z_body (by decide) (Nat.le_of_ble_eq_true rfl) ?_
  intro p e s m args below meth c ls H locs A X hl hw
  have hl : lv_has ls 2 [(0, .ref a_this)] := hl
  unfold F_X9_keep at hF
  refine z_iconst 0 0 X dX9_keep_0 (by decide) ?_
  refine z_istore_n 1 [(1, .int 0), (0, .ref a_this)] X dX9_keep_1 hl (by decide) rfl (fun ls hl => ?_)
  refine l_X9_keep_2 l D cA a_this a_this_all a_this_kept a_this_history a_this_slots a_this_isSaved a_this_stream a_this_pad v_historyLong v_streamLong v_spot v_padLong v_padSpot v_readNumber g_all out X _ (fun g_kept_4 H locs ls hw hl hF => ?_) zFuel g_kept 0 H locs ls hw (lv_sub hl [1, 0] rfl) hF
  cases hF
  exact z_vret 26 X dX9_keep_26 hw rfl rfl
theorem dX9_in_0 : decode cX9_in 0 = .ok (.lload_n 0, 1) := by decide +kernel
theorem dX9_in_1 : decode cX9_in 1 = .ok (.lload_n 2, 1) := by decide +kernel
theorem dX9_in_2 : decode cX9_in 2 = .ok (.lcmp, 1) := by decide +kernel
theorem dX9_in_3 : decode cX9_in 3 = .ok (.ifCond .lt 14, 3) := by decide +kernel
theorem dX9_in_6 : decode cX9_in 6 = .ok (.lload_n 0, 1) := by decide +kernel
theorem dX9_in_7 : decode cX9_in 7 = .ok (.lload 4, 2) := by decide +kernel
theorem dX9_in_9 : decode cX9_in 9 = .ok (.lcmp, 1) := by decide +kernel
theorem dX9_in_10 : decode cX9_in 10 = .ok (.ifCond .gt 7, 3) := by decide +kernel
theorem dX9_in_13 : decode cX9_in 13 = .ok (.iconst 1, 1) := by decide +kernel
theorem dX9_in_14 : decode cX9_in 14 = .ok (.goto 4, 3) := by decide +kernel
theorem dX9_in_17 : decode cX9_in 17 = .ok (.iconst 0, 1) := by decide +kernel
theorem dX9_in_18 : decode cX9_in 18 = .ok (.ireturn, 1) := by decide +kernel
set_option maxHeartbeats 4000000 in
set_option maxRecDepth 100000 in
theorem m_X9_in (l : Launch) (D : va_G) (cA : ClassId) (j0 : Int64) (j2 : Int64) (j4 : Int64) (out : Int32) (hF : F_X9_in j0 j2 j4 = some out) : zM l D cA yX9_in cX9_in 6 (some .boolean) 0 0 [.long j0, .long j2, .long j4] (zw_4 cA 0  ) (zw_4 cA 0  ) (some (.int out)) := by
  refine z_body (by decide) (Nat.le_of_ble_eq_true rfl) ?_
  intro p e s m args below meth c ls H locs A X hl hw
  have hl : lv_has ls 6 [(0, .long j0), (2, .long j2), (4, .long j4)] := hl
  unfold F_X9_in at hF
  refine z_lload_n 0 X dX9_in_0 hl 0 rfl ?_
  refine z_lload_n 1 X dX9_in_1 hl 1 rfl ?_
  refine z_lcmp 2 X dX9_in_2 ?_
  refine z_if_lt 3 17 X dX9_in_3 (by decide) (fun c1 => ?_) (fun c1 => ?_)
  · replace hF := zpos c1 hF
    refine z_iconst 17 0 X dX9_in_17 (by decide) ?_
    cases hF
    exact z_zret 18 X dX9_in_18 hw (by decide) rfl rfl
  · replace hF := zneg c1 hF
    refine z_lload_n 6 X dX9_in_6 hl 0 rfl ?_
    refine z_lload 7 X dX9_in_7 hl 2 rfl ?_
    refine z_lcmp 9 X dX9_in_9 ?_
    refine z_if_gt 10 17 X dX9_in_10 (by decide) (fun c2 => ?_) (fun c2 => ?_)
    · replace hF := zpos c2 hF
      refine z_iconst 17 0 X dX9_in_17 (by decide) ?_
      cases hF
      exact z_zret 18 X dX9_in_18 hw (by decide) rfl rfl
    · replace hF := zneg c2 hF
      refine z_iconst 13 1 X dX9_in_13 (by decide) ?_
      refine z_goto 14 18 X dX9_in_14 (by decide) ?_
      cases hF
      exact z_zret 18 X dX9_in_18 hw (by decide) rfl rfl
theorem dX9_isSetting_0 : decode cX9_isSetting 0 = .ok (.iload_n 0, 1) := by decide +kernel
theorem dX9_isSetting_1 : decode cX9_isSetting 1 = .ok (.ifCond .ne 15, 3) := by decide +kernel
theorem dX9_isSetting_4 : decode cX9_isSetting 4 = .ok (.iload_n 1, 1) := by decide +kernel
theorem dX9_isSetting_5 : decode cX9_isSetting 5 = .ok (.i2l, 1) := by decide +kernel
theorem dX9_isSetting_6 : decode cX9_isSetting 6 = .ok (.lconst 1, 1) := by decide +kernel
theorem dX9_isSetting_7 : decode cX9_isSetting 7 = .ok (.ldc2_w 95, 3) := by decide +kernel
theorem dX9_isSetting_10 : decode cX9_isSetting 10 = .ok (.invokestatic 91, 3) := by decide +kernel
theorem dX9_isSetting_13 : decode cX9_isSetting 13 = .ok (.goto 25, 3) := by decide +kernel
theorem dX9_isSetting_16 : decode cX9_isSetting 16 = .ok (.iload_n 0, 1) := by decide +kernel
theorem dX9_isSetting_17 : decode cX9_isSetting 17 = .ok (.iconst 1, 1) := by decide +kernel
theorem dX9_isSetting_18 : decode cX9_isSetting 18 = .ok (.if_icmp .ne 19, 3) := by decide +kernel
theorem dX9_isSetting_21 : decode cX9_isSetting 21 = .ok (.iload_n 1, 1) := by decide +kernel
theorem dX9_isSetting_22 : decode cX9_isSetting 22 = .ok (.i2l, 1) := by decide +kernel
theorem dX9_isSetting_23 : decode cX9_isSetting 23 = .ok (.lconst 1, 1) := by decide +kernel
theorem dX9_isSetting_24 : decode cX9_isSetting 24 = .ok (.ldc2_w 97, 3) := by decide +kernel
theorem dX9_isSetting_27 : decode cX9_isSetting 27 = .ok (.invokestatic 91, 3) := by decide +kernel
theorem dX9_isSetting_30 : decode cX9_isSetting 30 = .ok (.ifCond .eq 7, 3) := by decide +kernel
theorem dX9_isSetting_33 : decode cX9_isSetting 33 = .ok (.iconst 1, 1) := by decide +kernel
theorem dX9_isSetting_34 : decode cX9_isSetting 34 = .ok (.goto 4, 3) := by decide +kernel
theorem dX9_isSetting_37 : decode cX9_isSetting 37 = .ok (.iconst 0, 1) := by decide +kernel
theorem dX9_isSetting_38 : decode cX9_isSetting 38 = .ok (.ireturn, 1) := by decide +kernel
set_option maxHeartbeats 4000000 in
set_option maxRecDepth 100000 in
theorem m_X9_isSetting (l : Launch) (D : va_G) (cA : ClassId) (i0 : Int32) (i1 : Int32) (out : Int32) (hF : F_X9_isSetting i0 i1 = some out) : zM l D cA yX9_isSetting cX9_isSetting 2 (some .boolean) 1 25 [.int i0, .int i1] (zw_4 cA 0  ) (zw_4 cA 0  ) (some (.int out)) := by
  refine z_body (by decide) (Nat.le_of_ble_eq_true rfl) ?_
  intro p e s m args below meth c ls H locs A X hl hw
  have hl : lv_has ls 2 [(0, .int i0), (1, .int i1)] := hl
  unfold F_X9_isSetting at hF
  refine z_iload_n 0 X dX9_isSetting_0 hl 0 rfl ?_
  refine z_if_ne 1 16 X dX9_isSetting_1 (by decide) (fun c1 => ?_) (fun c1 => ?_)
  · replace hF := zneg c1 hF
    refine z_iload_n 16 X dX9_isSetting_16 hl 0 rfl ?_
    refine z_iconst 17 1 X dX9_isSetting_17 (by decide) ?_
    refine z_icmp_ne 18 37 X dX9_isSetting_18 (by decide) (fun c2 => ?_) (fun c2 => ?_)
    · replace hF := zneg c2 hF
      refine z_iconst 37 0 X dX9_isSetting_37 (by decide) ?_
      cases hF
      exact z_zret 38 X dX9_isSetting_38 hw (by decide) rfl rfl
    · replace hF := zpos c2 hF
      refine z_iload_n 21 X dX9_isSetting_21 hl 1 rfl ?_
      refine z_i2l 22 X dX9_isSetting_22 ?_
      refine z_lconst 23 1 X dX9_isSetting_23 (by decide) ?_
      refine z_ldc2 24 30 X dX9_isSetting_24 cl_9_97 ?_
      obtain ⟨u3, e4, hF⟩ := zbd hF
      refine z_callS 27 mv_X9_in ml_9_91 [] (zk_6 cA 0) (m_X9_in l D cA (i1.toInt64) 1 30 u3 e4) X dX9_isSetting_27 hw hl rfl rfl (Nat.le_of_ble_eq_true rfl) ⟨Nat.le_of_ble_eq_true rfl, Nat.le_of_ble_eq_true rfl⟩ ⟨Nat.zero_le _, Nat.zero_le _⟩ (fun H locs hw => ?_)
      refine z_if_eq 30 37 X dX9_isSetting_30 (by decide) (fun c5 => ?_) (fun c5 => ?_)
      · replace hF := zpos c5 hF
        refine z_iconst 37 0 X dX9_isSetting_37 (by decide) ?_
        cases hF
        exact z_zret 38 X dX9_isSetting_38 hw (by decide) rfl rfl
      · replace hF := zneg c5 hF
        refine z_iconst 33 1 X dX9_isSetting_33 (by decide) ?_
        refine z_goto 34 38 X dX9_isSetting_34 (by decide) ?_
        cases hF
        exact z_zret 38 X dX9_isSetting_38 hw (by decide) rfl rfl
  · replace hF := zpos c1 hF
    refine z_iload_n 4 X dX9_isSetting_4 hl 1 rfl ?_
    refine z_i2l 5 X dX9_isSetting_5 ?_
    refine z_lconst 6 1 X dX9_isSetting_6 (by decide) ?_
    refine z_ldc2 7 16 X dX9_isSetting_7 cl_9_95 ?_
    obtain ⟨u6, e7, hF⟩ := zbd hF
    refine z_callS 10 mv_X9_in ml_9_91 [] (zk_6 cA 0) (m_X9_in l D cA (i1.toInt64) 1 16 u6 e7) X dX9_isSetting_10 hw hl rfl rfl (Nat.le_of_ble_eq_true rfl) ⟨Nat.le_of_ble_eq_true rfl, Nat.le_of_ble_eq_true rfl⟩ ⟨Nat.zero_le _, Nat.zero_le _⟩ (fun H locs hw => ?_)
    refine z_goto 13 38 X dX9_isSetting_13 (by decide) ?_
    obtain ⟨gz, hF⟩ := zgd hF
    cases hF
    exact z_zret 38 X dX9_isSetting_38 hw gz rfl rfl
theorem dX9_doSet_0 : decode cX9_doSet 0 = .ok (.iload_n 1, 1) := by decide +kernel
theorem dX9_doSet_1 : decode cX9_doSet 1 = .ok (.iload_n 2, 1) := by decide +kernel
theorem dX9_doSet_2 : decode cX9_doSet 2 = .ok (.invokestatic 99, 3) := by decide +kernel
theorem dX9_doSet_5 : decode cX9_doSet 5 = .ok (.ifCond .ne 6, 3) := by decide +kernel
theorem dX9_doSet_8 : decode cX9_doSet 8 = .ok (.bipush (-2), 2) := by decide +kernel
theorem dX9_doSet_10 : decode cX9_doSet 10 = .ok (.ireturn, 1) := by decide +kernel
theorem dX9_doSet_11 : decode cX9_doSet 11 = .ok (.aload_n 0, 1) := by decide +kernel
theorem dX9_doSet_12 : decode cX9_doSet 12 = .ok (.getfield 7, 3) := by decide +kernel
theorem dX9_doSet_15 : decode cX9_doSet 15 = .ok (.iload_n 1, 1) := by decide +kernel
theorem dX9_doSet_16 : decode cX9_doSet 16 = .ok (.iaload, 1) := by decide +kernel
theorem dX9_doSet_17 : decode cX9_doSet 17 = .ok (.istore_n 3, 1) := by decide +kernel
theorem dX9_doSet_18 : decode cX9_doSet 18 = .ok (.aload_n 0, 1) := by decide +kernel
theorem dX9_doSet_19 : decode cX9_doSet 19 = .ok (.getfield 7, 3) := by decide +kernel
theorem dX9_doSet_22 : decode cX9_doSet 22 = .ok (.iload_n 1, 1) := by decide +kernel
theorem dX9_doSet_23 : decode cX9_doSet 23 = .ok (.iload_n 2, 1) := by decide +kernel
theorem dX9_doSet_24 : decode cX9_doSet 24 = .ok (.iastore, 1) := by decide +kernel
theorem dX9_doSet_25 : decode cX9_doSet 25 = .ok (.iload_n 3, 1) := by decide +kernel
theorem dX9_doSet_26 : decode cX9_doSet 26 = .ok (.ireturn, 1) := by decide +kernel
set_option maxHeartbeats 4000000 in
set_option maxRecDepth 100000 in
theorem zk_114 (cA : ClassId) (n : Nat) (a_this a_this_all a_this_kept a_this_history a_this_slots a_this_isSaved a_this_stream a_this_pad : Nat) (v_historyLong : Int32) (v_streamLong : Int32) (v_spot : Int32) (v_padLong : Int32) (v_padSpot : Int32) (v_readNumber : Int32) (g_all : Ar)  : zCW (zw_36 cA n a_this a_this_all a_this_kept a_this_history a_this_slots a_this_isSaved a_this_stream a_this_pad v_historyLong v_streamLong v_spot v_padLong v_padSpot v_readNumber g_all) (zw_36 cA n a_this a_this_all a_this_kept a_this_history a_this_slots a_this_isSaved a_this_stream a_this_pad v_historyLong v_streamLong v_spot v_padLong v_padSpot v_readNumber g_all) [] [0, 1] (zw_4 cA 0  ) (zw_4 cA 0  ) := ⟨rfl, (show (zw_4 cA 0  ).map Prod.fst = ([] : List Nat) from rfl).trans (show (zw_4 cA 0  ).map Prod.fst = ([] : List Nat) from rfl).symm, by decide +kernel, (show (zw_36 cA n a_this a_this_all a_this_kept a_this_history a_this_slots a_this_isSaved a_this_stream a_this_pad v_historyLong v_streamLong v_spot v_padLong v_padSpot v_readNumber g_all).map Prod.fst = ([a_this, a_this_all] : List Nat) from rfl).trans (show (zw_36 cA n a_this a_this_all a_this_kept a_this_history a_this_slots a_this_isSaved a_this_stream a_this_pad v_historyLong v_streamLong v_spot v_padLong v_padSpot v_readNumber g_all).map Prod.fst = ([a_this, a_this_all] : List Nat) from rfl).symm, rfl, (show ([0, 1] : List Nat).map (fun i => (zw_36 cA n a_this a_this_all a_this_kept a_this_history a_this_slots a_this_isSaved a_this_stream a_this_pad v_historyLong v_streamLong v_spot v_padLong v_padSpot v_readNumber g_all)[i]?) = ([(a_this, .inr (9, [.ref a_this_all, .ref a_this_kept, .ref a_this_history, .int v_historyLong, .ref a_this_slots, .ref a_this_isSaved, .ref a_this_stream, .int v_streamLong, .int v_spot, .ref a_this_pad, .int v_padLong, .int v_padSpot, .int v_readNumber])), (a_this_all, .inl (cA, 67, .inl g_all))] : va_W).map some from rfl).trans (show ([0, 1] : List Nat).map (fun i => (zw_36 cA n a_this a_this_all a_this_kept a_this_history a_this_slots a_this_isSaved a_this_stream a_this_pad v_historyLong v_streamLong v_spot v_padLong v_padSpot v_readNumber g_all)[i]?) = ([(a_this, .inr (9, [.ref a_this_all, .ref a_this_kept, .ref a_this_history, .int v_historyLong, .ref a_this_slots, .ref a_this_isSaved, .ref a_this_stream, .int v_streamLong, .int v_spot, .ref a_this_pad, .int v_padLong, .int v_padSpot, .int v_readNumber])), (a_this_all, .inl (cA, 67, .inl g_all))] : va_W).map some from rfl).symm, by decide +kernel, rfl⟩
set_option maxHeartbeats 4000000 in
set_option maxRecDepth 100000 in
theorem m_X9_doSet (l : Launch) (D : va_G) (cA : ClassId) (a_this a_this_all a_this_kept a_this_history a_this_slots a_this_isSaved a_this_stream a_this_pad : Nat) (v_historyLong : Int32) (v_streamLong : Int32) (v_spot : Int32) (v_padLong : Int32) (v_padSpot : Int32) (v_readNumber : Int32) (g_all : Ar) (i1 : Int32) (i2 : Int32) (out : Int32 × Ar) (hF : F_X9_doSet g_all i1 i2 = some out) : zM l D cA yX9_doSet cX9_doSet 4 (some .int) 2 46 [.ref a_this, .int i1, .int i2] (zw_36 cA 0 a_this a_this_all a_this_kept a_this_history a_this_slots a_this_isSaved a_this_stream a_this_pad v_historyLong v_streamLong v_spot v_padLong v_padSpot v_readNumber g_all) (zw_36 cA 0 a_this a_this_all a_this_kept a_this_history a_this_slots a_this_isSaved a_this_stream a_this_pad v_historyLong v_streamLong v_spot v_padLong v_padSpot v_readNumber out.2) (some (.int out.1)) := by
  refine z_body (by decide) (Nat.le_of_ble_eq_true rfl) ?_
  intro p e s m args below meth c ls H locs A X hl hw
  have hl : lv_has ls 4 [(0, .ref a_this), (1, .int i1), (2, .int i2)] := hl
  unfold F_X9_doSet at hF
  refine z_iload_n 0 X dX9_doSet_0 hl 1 rfl ?_
  refine z_iload_n 1 X dX9_doSet_1 hl 2 rfl ?_
  obtain ⟨u1, e2, hF⟩ := zbd hF
  refine z_callS 2 mv_X9_isSetting ml_9_99 [] (zk_114 cA 0 a_this a_this_all a_this_kept a_this_history a_this_slots a_this_isSaved a_this_stream a_this_pad v_historyLong v_streamLong v_spot v_padLong v_padSpot v_readNumber g_all) (m_X9_isSetting l D cA i1 i2 u1 e2) X dX9_doSet_2 hw hl rfl rfl (Nat.le_of_ble_eq_true rfl) ⟨Nat.le_of_ble_eq_true rfl, Nat.le_of_ble_eq_true rfl⟩ ⟨Nat.zero_le _, Nat.zero_le _⟩ (fun H locs hw => ?_)
  refine z_if_ne 5 11 X dX9_doSet_5 (by decide) (fun c3 => ?_) (fun c3 => ?_)
  · replace hF := zneg c3 hF
    refine z_aload_n 11 X dX9_doSet_11 hl 0 rfl ?_
    refine z_get 12 zc9 0 0 fl_9_7 X dX9_doSet_12 hw rfl (by decide) rfl ?_
    refine z_iload_n 15 X dX9_doSet_15 hl 1 rfl ?_
    obtain ⟨gd4, hF⟩ := zgd hF
    refine z_iald 16 1 (g_all i1.toNatClampNeg) X dX9_doSet_16 hw rfl gd4 rfl ?_
    refine z_istore_n 17 [(3, .int (g_all i1.toNatClampNeg)), (0, .ref a_this), (1, .int i1), (2, .int i2)] X dX9_doSet_17 hl (by decide) rfl (fun ls hl => ?_)
    refine z_aload_n 18 X dX9_doSet_18 hl 1 rfl ?_
    refine z_get 19 zc9 0 0 fl_9_7 X dX9_doSet_19 hw rfl (by decide) rfl ?_
    refine z_iload_n 22 X dX9_doSet_22 hl 2 rfl ?_
    refine z_iload_n 23 X dX9_doSet_23 hl 3 rfl ?_
    obtain ⟨gd5, hF⟩ := zgd hF
    refine z_iast 24 1 (zw_36 cA 0 a_this a_this_all a_this_kept a_this_history a_this_slots a_this_isSaved a_this_stream a_this_pad v_historyLong v_streamLong v_spot v_padLong v_padSpot v_readNumber (upd g_all (i1.toNatClampNeg) i2)) X dX9_doSet_24 hw rfl gd5 rfl (fun H locs hw => ?_)
    refine z_iload_n 25 X dX9_doSet_25 hl 0 rfl ?_
    cases hF
    exact z_iret 26 X dX9_doSet_26 hw rfl rfl
  · replace hF := zpos c3 hF
    refine z_bipush 8 (-2) X dX9_doSet_8 (by decide) ?_
    cases hF
    exact z_iret 10 X dX9_doSet_10 hw rfl rfl
theorem dX9_changed_0 : decode cX9_changed 0 = .ok (.iload_n 1, 1) := by decide +kernel
theorem dX9_changed_1 : decode cX9_changed 1 = .ok (.ifCond .ge 5, 3) := by decide +kernel
theorem dX9_changed_4 : decode cX9_changed 4 = .ok (.iload_n 1, 1) := by decide +kernel
theorem dX9_changed_5 : decode cX9_changed 5 = .ok (.ireturn, 1) := by decide +kernel
theorem dX9_changed_6 : decode cX9_changed 6 = .ok (.aload_n 0, 1) := by decide +kernel
theorem dX9_changed_7 : decode cX9_changed 7 = .ok (.getfield 31, 3) := by decide +kernel
theorem dX9_changed_10 : decode cX9_changed 10 = .ok (.bipush 6, 2) := by decide +kernel
theorem dX9_changed_12 : decode cX9_changed 12 = .ok (.if_icmp .ne 43, 3) := by decide +kernel
theorem dX9_changed_15 : decode cX9_changed 15 = .ok (.iconst 0, 1) := by decide +kernel
theorem dX9_changed_16 : decode cX9_changed 16 = .ok (.istore_n 2, 1) := by decide +kernel
theorem dX9_changed_17 : decode cX9_changed 17 = .ok (.iload_n 2, 1) := by decide +kernel
theorem dX9_changed_18 : decode cX9_changed 18 = .ok (.sipush 335, 3) := by decide +kernel
theorem dX9_changed_21 : decode cX9_changed 21 = .ok (.if_icmp .ge 24, 3) := by decide +kernel
theorem dX9_changed_24 : decode cX9_changed 24 = .ok (.aload_n 0, 1) := by decide +kernel
theorem dX9_changed_25 : decode cX9_changed 25 = .ok (.getfield 16, 3) := by decide +kernel
theorem dX9_changed_28 : decode cX9_changed 28 = .ok (.iload_n 2, 1) := by decide +kernel
theorem dX9_changed_29 : decode cX9_changed 29 = .ok (.aload_n 0, 1) := by decide +kernel
theorem dX9_changed_30 : decode cX9_changed 30 = .ok (.getfield 16, 3) := by decide +kernel
theorem dX9_changed_33 : decode cX9_changed 33 = .ok (.iload_n 2, 1) := by decide +kernel
theorem dX9_changed_34 : decode cX9_changed 34 = .ok (.bipush 67, 2) := by decide +kernel
theorem dX9_changed_36 : decode cX9_changed 36 = .ok (.iadd, 1) := by decide +kernel
theorem dX9_changed_37 : decode cX9_changed 37 = .ok (.iaload, 1) := by decide +kernel
theorem dX9_changed_38 : decode cX9_changed 38 = .ok (.iastore, 1) := by decide +kernel
theorem dX9_changed_39 : decode cX9_changed 39 = .ok (.iinc 2 1, 3) := by decide +kernel
theorem dX9_changed_42 : decode cX9_changed 42 = .ok (.goto (-25), 3) := by decide +kernel
theorem dX9_changed_45 : decode cX9_changed 45 = .ok (.aload_n 0, 1) := by decide +kernel
theorem dX9_changed_46 : decode cX9_changed 46 = .ok (.dup, 1) := by decide +kernel
theorem dX9_changed_47 : decode cX9_changed 47 = .ok (.getfield 31, 3) := by decide +kernel
theorem dX9_changed_50 : decode cX9_changed 50 = .ok (.iconst 1, 1) := by decide +kernel
theorem dX9_changed_51 : decode cX9_changed 51 = .ok (.isub, 1) := by decide +kernel
theorem dX9_changed_52 : decode cX9_changed 52 = .ok (.putfield 31, 3) := by decide +kernel
theorem dX9_changed_55 : decode cX9_changed 55 = .ok (.iconst 0, 1) := by decide +kernel
theorem dX9_changed_56 : decode cX9_changed 56 = .ok (.istore_n 2, 1) := by decide +kernel
theorem dX9_changed_57 : decode cX9_changed 57 = .ok (.iload_n 2, 1) := by decide +kernel
theorem dX9_changed_58 : decode cX9_changed 58 = .ok (.bipush 67, 2) := by decide +kernel
theorem dX9_changed_60 : decode cX9_changed 60 = .ok (.if_icmp .ge 29, 3) := by decide +kernel
theorem dX9_changed_63 : decode cX9_changed 63 = .ok (.aload_n 0, 1) := by decide +kernel
theorem dX9_changed_64 : decode cX9_changed 64 = .ok (.getfield 16, 3) := by decide +kernel
theorem dX9_changed_67 : decode cX9_changed 67 = .ok (.bipush 67, 2) := by decide +kernel
theorem dX9_changed_69 : decode cX9_changed 69 = .ok (.aload_n 0, 1) := by decide +kernel
theorem dX9_changed_70 : decode cX9_changed 70 = .ok (.getfield 31, 3) := by decide +kernel
theorem dX9_changed_73 : decode cX9_changed 73 = .ok (.imul, 1) := by decide +kernel
theorem dX9_changed_74 : decode cX9_changed 74 = .ok (.iload_n 2, 1) := by decide +kernel
theorem dX9_changed_75 : decode cX9_changed 75 = .ok (.iadd, 1) := by decide +kernel
theorem dX9_changed_76 : decode cX9_changed 76 = .ok (.aload_n 0, 1) := by decide +kernel
theorem dX9_changed_77 : decode cX9_changed 77 = .ok (.getfield 13, 3) := by decide +kernel
theorem dX9_changed_80 : decode cX9_changed 80 = .ok (.iload_n 2, 1) := by decide +kernel
theorem dX9_changed_81 : decode cX9_changed 81 = .ok (.iaload, 1) := by decide +kernel
theorem dX9_changed_82 : decode cX9_changed 82 = .ok (.iastore, 1) := by decide +kernel
theorem dX9_changed_83 : decode cX9_changed 83 = .ok (.iinc 2 1, 3) := by decide +kernel
theorem dX9_changed_86 : decode cX9_changed 86 = .ok (.goto (-29), 3) := by decide +kernel
theorem dX9_changed_89 : decode cX9_changed 89 = .ok (.aload_n 0, 1) := by decide +kernel
theorem dX9_changed_90 : decode cX9_changed 90 = .ok (.dup, 1) := by decide +kernel
theorem dX9_changed_91 : decode cX9_changed 91 = .ok (.getfield 31, 3) := by decide +kernel
theorem dX9_changed_94 : decode cX9_changed 94 = .ok (.iconst 1, 1) := by decide +kernel
theorem dX9_changed_95 : decode cX9_changed 95 = .ok (.iadd, 1) := by decide +kernel
theorem dX9_changed_96 : decode cX9_changed 96 = .ok (.putfield 31, 3) := by decide +kernel
theorem dX9_changed_99 : decode cX9_changed 99 = .ok (.iload_n 1, 1) := by decide +kernel
theorem dX9_changed_100 : decode cX9_changed 100 = .ok (.ireturn, 1) := by decide +kernel
set_option maxHeartbeats 4000000 in
set_option maxRecDepth 100000 in
theorem l_X9_changed_57 (l : Launch) (D : va_G) (cA : ClassId) (a_this a_this_all a_this_kept a_this_history a_this_slots a_this_isSaved a_this_stream a_this_pad : Nat) (v_historyLong : Int32) (v_streamLong : Int32) (v_spot : Int32) (v_padLong : Int32) (v_padSpot : Int32) (v_readNumber : Int32) (g_kept : Ar) (i1 : Int32) (out : Int32 × Int32 × Ar) {p : Program} {e : Env} {s : State} {m : MethodId} {args : Array Value} {below : List Frame} {meth : Method} {c : Code} {A : Nat → Prop} (X : zX D cA p s m args meth c cX9_changed 3 RX9 (some .int)) (k : Ar → Option (Int32 × Int32 × Ar)) (hk : ∀ (g_history : Ar) (H : Heap) (locs : List Loc) (ls : Array Slot), zH D A s (zw_37 cA 0 a_this a_this_all a_this_kept a_this_history a_this_slots a_this_isSaved a_this_stream a_this_pad v_historyLong v_streamLong v_spot v_padLong v_padSpot v_readNumber g_history g_kept) H locs → lv_has ls 3 [(0, .ref a_this), (1, .int i1)] → k g_history = some out → W p l e (zR 0 0) s m args below meth c H locs 0 0 (MQ below (zQ D (zw_37 cA 0 a_this a_this_all a_this_kept a_this_history a_this_slots a_this_isSaved a_this_stream a_this_pad out.2.1 v_streamLong v_spot v_padLong v_padSpot v_readNumber out.2.2 g_kept) (some (.int out.1)) A) args s 0 0 A) (F0 m 89 ls [])) :
    ∀ (fuel : Nat) (g_history : Ar) (i2 : Int32) (H : Heap) (locs : List Loc) (ls : Array Slot), zH D A s (zw_37 cA 0 a_this a_this_all a_this_kept a_this_history a_this_slots a_this_isSaved a_this_stream a_this_pad v_historyLong v_streamLong v_spot v_padLong v_padSpot v_readNumber g_history g_kept) H locs → lv_has ls 3 [(0, .ref a_this), (1, .int i1), (2, .int i2)] → F_X9_changed_L57 v_historyLong g_kept k fuel g_history i2 = some out → W p l e (zR 0 0) s m args below meth c H locs 0 0 (MQ below (zQ D (zw_37 cA 0 a_this a_this_all a_this_kept a_this_history a_this_slots a_this_isSaved a_this_stream a_this_pad out.2.1 v_streamLong v_spot v_padLong v_padSpot v_readNumber out.2.2 g_kept) (some (.int out.1)) A) args s 0 0 A) (F0 m 57 ls []) := by
  intro fuel
  induction fuel with
  | zero => intro g_history i2 H locs ls hw hl hF; exact nomatch (show (none : Option (Int32 × Int32 × Ar)) = some out from hF)
  | succ fuel ih =>
    intro g_history i2 H locs ls hw hl hF
    rw [F_X9_changed_L57] at hF
    refine z_iload_n 57 X dX9_changed_57 hl 2 rfl ?_
    refine z_bipush 58 67 X dX9_changed_58 (by decide) ?_
    refine z_icmp_ge 60 89 X dX9_changed_60 (by decide) (fun c3 => ?_) (fun c3 => ?_)
    · replace hF := zpos c3 hF
      exact hk g_history H locs ls hw (lv_sub hl [0, 1] rfl) hF
    · replace hF := zneg c3 hF
      refine z_aload_n 63 X dX9_changed_63 hl 0 rfl ?_
      refine z_get 64 zc9 0 2 fl_9_16 X dX9_changed_64 hw rfl (by decide) rfl ?_
      refine z_bipush 67 67 X dX9_changed_67 (by decide) ?_
      refine z_aload_n 69 X dX9_changed_69 hl 0 rfl ?_
      refine z_get 70 zc9 0 3 fl_9_31 X dX9_changed_70 hw rfl (by decide) rfl ?_
      refine z_imul 73 X dX9_changed_73 ?_
      refine z_iload_n 74 X dX9_changed_74 hl 2 rfl ?_
      refine z_iadd 75 X dX9_changed_75 ?_
      refine z_aload_n 76 X dX9_changed_76 hl 0 rfl ?_
      refine z_get 77 zc9 0 1 fl_9_13 X dX9_changed_77 hw rfl (by decide) rfl ?_
      refine z_iload_n 80 X dX9_changed_80 hl 2 rfl ?_
      obtain ⟨gd4, hF⟩ := zgd hF
      refine z_iald 81 2 (g_kept i2.toNatClampNeg) X dX9_changed_81 hw rfl gd4 rfl ?_
      obtain ⟨gd5, hF⟩ := zgd hF
      refine z_iast 82 1 (zw_37 cA 0 a_this a_this_all a_this_kept a_this_history a_this_slots a_this_isSaved a_this_stream a_this_pad v_historyLong v_streamLong v_spot v_padLong v_padSpot v_readNumber (upd g_history (((67 * v_historyLong) + i2).toNatClampNeg) (g_kept i2.toNatClampNeg)) g_kept) X dX9_changed_82 hw rfl gd5 rfl (fun H locs hw => ?_)
      refine z_iinc2 83 1 [(2, .int (i2 + 1)), (0, .ref a_this), (1, .int i1)] X dX9_changed_83 hl 2 rfl (by decide) (by decide) rfl (fun ls hl => ?_)
      refine z_goto 86 57 X dX9_changed_86 (by decide) ?_
      exact ih (upd g_history (((67 * v_historyLong) + i2).toNatClampNeg) (g_kept i2.toNatClampNeg)) (i2 + 1) H locs ls hw (lv_sub hl [1, 2, 0] rfl) hF
set_option maxHeartbeats 4000000 in
set_option maxRecDepth 100000 in
theorem l_X9_changed_17 (l : Launch) (D : va_G) (cA : ClassId) (a_this a_this_all a_this_kept a_this_history a_this_slots a_this_isSaved a_this_stream a_this_pad : Nat) (v_historyLong : Int32) (v_streamLong : Int32) (v_spot : Int32) (v_padLong : Int32) (v_padSpot : Int32) (v_readNumber : Int32) (g_kept : Ar) (i1 : Int32) (out : Int32 × Int32 × Ar) {p : Program} {e : Env} {s : State} {m : MethodId} {args : Array Value} {below : List Frame} {meth : Method} {c : Code} {A : Nat → Prop} (X : zX D cA p s m args meth c cX9_changed 3 RX9 (some .int)) (k : Ar → Option (Int32 × Int32 × Ar)) (hk : ∀ (g_history : Ar) (H : Heap) (locs : List Loc) (ls : Array Slot), zH D A s (zw_37 cA 0 a_this a_this_all a_this_kept a_this_history a_this_slots a_this_isSaved a_this_stream a_this_pad v_historyLong v_streamLong v_spot v_padLong v_padSpot v_readNumber g_history g_kept) H locs → lv_has ls 3 [(0, .ref a_this), (1, .int i1)] → k g_history = some out → W p l e (zR 0 0) s m args below meth c H locs 0 0 (MQ below (zQ D (zw_37 cA 0 a_this a_this_all a_this_kept a_this_history a_this_slots a_this_isSaved a_this_stream a_this_pad out.2.1 v_streamLong v_spot v_padLong v_padSpot v_readNumber out.2.2 g_kept) (some (.int out.1)) A) args s 0 0 A) (F0 m 45 ls [])) :
    ∀ (fuel : Nat) (g_history : Ar) (i2 : Int32) (H : Heap) (locs : List Loc) (ls : Array Slot), zH D A s (zw_37 cA 0 a_this a_this_all a_this_kept a_this_history a_this_slots a_this_isSaved a_this_stream a_this_pad v_historyLong v_streamLong v_spot v_padLong v_padSpot v_readNumber g_history g_kept) H locs → lv_has ls 3 [(0, .ref a_this), (1, .int i1), (2, .int i2)] → F_X9_changed_L17 k fuel g_history i2 = some out → W p l e (zR 0 0) s m args below meth c H locs 0 0 (MQ below (zQ D (zw_37 cA 0 a_this a_this_all a_this_kept a_this_history a_this_slots a_this_isSaved a_this_stream a_this_pad out.2.1 v_streamLong v_spot v_padLong v_padSpot v_readNumber out.2.2 g_kept) (some (.int out.1)) A) args s 0 0 A) (F0 m 17 ls []) := by
  intro fuel
  induction fuel with
  | zero => intro g_history i2 H locs ls hw hl hF; exact nomatch (show (none : Option (Int32 × Int32 × Ar)) = some out from hF)
  | succ fuel ih =>
    intro g_history i2 H locs ls hw hl hF
    rw [F_X9_changed_L17] at hF
    refine z_iload_n 17 X dX9_changed_17 hl 2 rfl ?_
    refine z_sipush 18 335 X dX9_changed_18 (by decide) ?_
    refine z_icmp_ge 21 45 X dX9_changed_21 (by decide) (fun c7 => ?_) (fun c7 => ?_)
    · replace hF := zpos c7 hF
      exact hk g_history H locs ls hw (lv_sub hl [0, 1] rfl) hF
    · replace hF := zneg c7 hF
      refine z_aload_n 24 X dX9_changed_24 hl 0 rfl ?_
      refine z_get 25 zc9 0 2 fl_9_16 X dX9_changed_25 hw rfl (by decide) rfl ?_
      refine z_iload_n 28 X dX9_changed_28 hl 2 rfl ?_
      refine z_aload_n 29 X dX9_changed_29 hl 0 rfl ?_
      refine z_get 30 zc9 0 2 fl_9_16 X dX9_changed_30 hw rfl (by decide) rfl ?_
      refine z_iload_n 33 X dX9_changed_33 hl 2 rfl ?_
      refine z_bipush 34 67 X dX9_changed_34 (by decide) ?_
      refine z_iadd 36 X dX9_changed_36 ?_
      obtain ⟨gd8, hF⟩ := zgd hF
      refine z_iald 37 1 (g_history (i2 + 67).toNatClampNeg) X dX9_changed_37 hw rfl gd8 rfl ?_
      obtain ⟨gd9, hF⟩ := zgd hF
      refine z_iast 38 1 (zw_37 cA 0 a_this a_this_all a_this_kept a_this_history a_this_slots a_this_isSaved a_this_stream a_this_pad v_historyLong v_streamLong v_spot v_padLong v_padSpot v_readNumber (upd g_history (i2.toNatClampNeg) (g_history (i2 + 67).toNatClampNeg)) g_kept) X dX9_changed_38 hw rfl gd9 rfl (fun H locs hw => ?_)
      refine z_iinc2 39 1 [(2, .int (i2 + 1)), (0, .ref a_this), (1, .int i1)] X dX9_changed_39 hl 2 rfl (by decide) (by decide) rfl (fun ls hl => ?_)
      refine z_goto 42 17 X dX9_changed_42 (by decide) ?_
      exact ih (upd g_history (i2.toNatClampNeg) (g_history (i2 + 67).toNatClampNeg)) (i2 + 1) H locs ls hw (lv_sub hl [1, 2, 0] rfl) hF
set_option maxHeartbeats 4000000 in
set_option maxRecDepth 100000 in
theorem m_X9_changed (l : Launch) (D : va_G) (cA : ClassId) (a_this a_this_all a_this_kept a_this_history a_this_slots a_this_isSaved a_this_stream a_this_pad : Nat) (v_historyLong : Int32) (v_streamLong : Int32) (v_spot : Int32) (v_padLong : Int32) (v_padSpot : Int32) (v_readNumber : Int32) (g_history : Ar) (g_kept : Ar) (i1 : Int32) (out : Int32 × Int32 × Ar) (hF : F_X9_changed v_historyLong g_history g_kept i1 = some out) : zM l D cA yX9_changed cX9_changed 3 (some .int) 0 0 [.ref a_this, .int i1] (zw_37 cA 0 a_this a_this_all a_this_kept a_this_history a_this_slots a_this_isSaved a_this_stream a_this_pad v_historyLong v_streamLong v_spot v_padLong v_padSpot v_readNumber g_history g_kept) (zw_37 cA 0 a_this a_this_all a_this_kept a_this_history a_this_slots a_this_isSaved a_this_stream a_this_pad out.2.1 v_streamLong v_spot v_padLong v_padSpot v_readNumber out.2.2 g_kept) (some (.int out.1)) := by
  refine z_body (by decide) (Nat.le_of_ble_eq_true rfl) ?_
  intro p e s m args below meth c ls H locs A X hl hw
  have hl : lv_has ls 3 [(0, .ref a_this), (1, .int i1)] := hl
  unfold F_X9_changed at hF
  refine z_iload_n 0 X dX9_changed_0 hl 1 rfl ?_
  refine z_if_ge 1 6 X dX9_changed_1 (by decide) (fun c1 => ?_) (fun c1 => ?_)
  · replace hF := zpos c1 hF
    refine z_aload_n 6 X dX9_changed_6 hl 0 rfl ?_
    refine z_get 7 zc9 0 3 fl_9_31 X dX9_changed_7 hw rfl (by decide) rfl ?_
    refine z_bipush 10 6 X dX9_changed_10 (by decide) ?_
    refine z_icmp_ne 12 55 X dX9_changed_12 (by decide) (fun c2 => ?_) (fun c2 => ?_)
    · replace hF := zneg c2 hF
      refine z_iconst 55 0 X dX9_changed_55 (by decide) ?_
      refine z_istore_n 56 [(2, .int 0), (0, .ref a_this), (1, .int i1)] X dX9_changed_56 hl (by decide) rfl (fun ls hl => ?_)
      refine l_X9_changed_57 l D cA a_this a_this_all a_this_kept a_this_history a_this_slots a_this_isSaved a_this_stream a_this_pad v_historyLong v_streamLong v_spot v_padLong v_padSpot v_readNumber g_kept i1 out X _ (fun g_history_6 H locs ls hw hl hF => ?_) zFuel g_history 0 H locs ls hw (lv_sub hl [1, 2, 0] rfl) hF
      refine z_aload_n 89 X dX9_changed_89 hl 0 rfl ?_
      refine z_dup 90 X dX9_changed_90 rfl ?_
      refine z_get 91 zc9 0 3 fl_9_31 X dX9_changed_91 hw rfl (by decide) rfl ?_
      refine z_iconst 94 1 X dX9_changed_94 (by decide) ?_
      refine z_iadd 95 X dX9_changed_95 ?_
      refine z_put 96 zc9 0 3 (zw_37 cA 0 a_this a_this_all a_this_kept a_this_history a_this_slots a_this_isSaved a_this_stream a_this_pad (v_historyLong + 1) v_streamLong v_spot v_padLong v_padSpot v_readNumber g_history_6 g_kept) fl_9_31 X dX9_changed_96 hw rfl (by decide) rfl rfl rfl (Nat.le_of_ble_eq_true rfl) rfl (fun H locs hw => ?_)
      refine z_iload_n 99 X dX9_changed_99 hl 1 rfl ?_
      cases hF
      exact z_iret 100 X dX9_changed_100 hw rfl rfl
    · replace hF := zpos c2 hF
      refine z_iconst 15 0 X dX9_changed_15 (by decide) ?_
      refine z_istore_n 16 [(2, .int 0), (0, .ref a_this), (1, .int i1)] X dX9_changed_16 hl (by decide) rfl (fun ls hl => ?_)
      refine l_X9_changed_17 l D cA a_this a_this_all a_this_kept a_this_history a_this_slots a_this_isSaved a_this_stream a_this_pad v_historyLong v_streamLong v_spot v_padLong v_padSpot v_readNumber g_kept i1 out X _ (fun g_history_10 H locs ls hw hl hF => ?_) zFuel g_history 0 H locs ls hw (lv_sub hl [1, 2, 0] rfl) hF
      refine z_aload_n 45 X dX9_changed_45 hl 0 rfl ?_
      refine z_dup 46 X dX9_changed_46 rfl ?_
      refine z_get 47 zc9 0 3 fl_9_31 X dX9_changed_47 hw rfl (by decide) rfl ?_
      refine z_iconst 50 1 X dX9_changed_50 (by decide) ?_
      refine z_isub 51 X dX9_changed_51 ?_
      refine z_put 52 zc9 0 3 (zw_37 cA 0 a_this a_this_all a_this_kept a_this_history a_this_slots a_this_isSaved a_this_stream a_this_pad (v_historyLong - 1) v_streamLong v_spot v_padLong v_padSpot v_readNumber g_history_10 g_kept) fl_9_31 X dX9_changed_52 hw rfl (by decide) rfl rfl rfl (Nat.le_of_ble_eq_true rfl) rfl (fun H locs hw => ?_)
      refine z_iconst 55 0 X dX9_changed_55 (by decide) ?_
      refine z_istore_n 56 [(2, .int 0), (0, .ref a_this), (1, .int i1)] X dX9_changed_56 hl (by decide) rfl (fun ls hl => ?_)
      refine l_X9_changed_57 l D cA a_this a_this_all a_this_kept a_this_history a_this_slots a_this_isSaved a_this_stream a_this_pad (v_historyLong - 1) v_streamLong v_spot v_padLong v_padSpot v_readNumber g_kept i1 out X _ (fun g_history_11 H locs ls hw hl hF => ?_) zFuel g_history_10 0 H locs ls hw (lv_sub hl [1, 2, 0] rfl) hF
      refine z_aload_n 89 X dX9_changed_89 hl 0 rfl ?_
      refine z_dup 90 X dX9_changed_90 rfl ?_
      refine z_get 91 zc9 0 3 fl_9_31 X dX9_changed_91 hw rfl (by decide) rfl ?_
      refine z_iconst 94 1 X dX9_changed_94 (by decide) ?_
      refine z_iadd 95 X dX9_changed_95 ?_
      refine z_put 96 zc9 0 3 (zw_37 cA 0 a_this a_this_all a_this_kept a_this_history a_this_slots a_this_isSaved a_this_stream a_this_pad ((v_historyLong - 1) + 1) v_streamLong v_spot v_padLong v_padSpot v_readNumber g_history_11 g_kept) fl_9_31 X dX9_changed_96 hw rfl (by decide) rfl rfl rfl (Nat.le_of_ble_eq_true rfl) rfl (fun H locs hw => ?_)
      refine z_iload_n 99 X dX9_changed_99 hl 1 rfl ?_
      cases hF
      exact z_iret 100 X dX9_changed_100 hw rfl rfl
  · replace hF := zneg c1 hF
    refine z_iload_n 4 X dX9_changed_4 hl 1 rfl ?_
    cases hF
    exact z_iret 5 X dX9_changed_5 hw rfl rfl
theorem dX9_set_0 : decode cX9_set 0 = .ok (.aload_n 0, 1) := by decide +kernel
theorem dX9_set_1 : decode cX9_set 1 = .ok (.invokevirtual 120, 3) := by decide +kernel
theorem dX9_set_4 : decode cX9_set 4 = .ok (.aload_n 0, 1) := by decide +kernel
theorem dX9_set_5 : decode cX9_set 5 = .ok (.aload_n 0, 1) := by decide +kernel
theorem dX9_set_6 : decode cX9_set 6 = .ok (.iload_n 1, 1) := by decide +kernel
theorem dX9_set_7 : decode cX9_set 7 = .ok (.iload_n 2, 1) := by decide +kernel
theorem dX9_set_8 : decode cX9_set 8 = .ok (.invokevirtual 123, 3) := by decide +kernel
theorem dX9_set_11 : decode cX9_set 11 = .ok (.invokevirtual 126, 3) := by decide +kernel
theorem dX9_set_14 : decode cX9_set 14 = .ok (.ireturn, 1) := by decide +kernel
set_option maxHeartbeats 4000000 in
set_option maxRecDepth 100000 in
theorem zk_115 (cA : ClassId) (n : Nat) (a_this a_this_all a_this_kept a_this_history a_this_slots a_this_isSaved a_this_stream a_this_pad : Nat) (v_historyLong : Int32) (v_streamLong : Int32) (v_spot : Int32) (v_padLong : Int32) (v_padSpot : Int32) (v_readNumber : Int32) (g_all : Ar) (g_history : Ar) (g_kept : Ar) (g_kept' : Ar) : zCW (zw_38 cA n a_this a_this_all a_this_kept a_this_history a_this_slots a_this_isSaved a_this_stream a_this_pad v_historyLong v_streamLong v_spot v_padLong v_padSpot v_readNumber g_all g_history g_kept) (zw_38 cA n a_this a_this_all a_this_kept a_this_history a_this_slots a_this_isSaved a_this_stream a_this_pad v_historyLong v_streamLong v_spot v_padLong v_padSpot v_readNumber g_all g_history g_kept') [0, 1, 3] [2] (zw_35 cA 0 a_this a_this_all a_this_kept a_this_history a_this_slots a_this_isSaved a_this_stream a_this_pad v_historyLong v_streamLong v_spot v_padLong v_padSpot v_readNumber g_all g_kept) (zw_35 cA 0 a_this a_this_all a_this_kept a_this_history a_this_slots a_this_isSaved a_this_stream a_this_pad v_historyLong v_streamLong v_spot v_padLong v_padSpot v_readNumber g_all g_kept') := ⟨rfl, (show (zw_35 cA 0 a_this a_this_all a_this_kept a_this_history a_this_slots a_this_isSaved a_this_stream a_this_pad v_historyLong v_streamLong v_spot v_padLong v_padSpot v_readNumber g_all g_kept').map Prod.fst = ([a_this, a_this_all, a_this_kept] : List Nat) from rfl).trans (show (zw_35 cA 0 a_this a_this_all a_this_kept a_this_history a_this_slots a_this_isSaved a_this_stream a_this_pad v_historyLong v_streamLong v_spot v_padLong v_padSpot v_readNumber g_all g_kept).map Prod.fst = ([a_this, a_this_all, a_this_kept] : List Nat) from rfl).symm, by decide +kernel, (show (zw_38 cA n a_this a_this_all a_this_kept a_this_history a_this_slots a_this_isSaved a_this_stream a_this_pad v_historyLong v_streamLong v_spot v_padLong v_padSpot v_readNumber g_all g_history g_kept').map Prod.fst = ([a_this, a_this_all, a_this_history, a_this_kept] : List Nat) from rfl).trans (show (zw_38 cA n a_this a_this_all a_this_kept a_this_history a_this_slots a_this_isSaved a_this_stream a_this_pad v_historyLong v_streamLong v_spot v_padLong v_padSpot v_readNumber g_all g_history g_kept).map Prod.fst = ([a_this, a_this_all, a_this_history, a_this_kept] : List Nat) from rfl).symm, rfl, (show ([2] : List Nat).map (fun i => (zw_38 cA n a_this a_this_all a_this_kept a_this_history a_this_slots a_this_isSaved a_this_stream a_this_pad v_historyLong v_streamLong v_spot v_padLong v_padSpot v_readNumber g_all g_history g_kept')[i]?) = ([(a_this_history, .inl (cA, 402, .inl g_history))] : va_W).map some from rfl).trans (show ([2] : List Nat).map (fun i => (zw_38 cA n a_this a_this_all a_this_kept a_this_history a_this_slots a_this_isSaved a_this_stream a_this_pad v_historyLong v_streamLong v_spot v_padLong v_padSpot v_readNumber g_all g_history g_kept)[i]?) = ([(a_this_history, .inl (cA, 402, .inl g_history))] : va_W).map some from rfl).symm, by decide +kernel, rfl⟩
set_option maxHeartbeats 4000000 in
set_option maxRecDepth 100000 in
theorem zk_116 (cA : ClassId) (n : Nat) (a_this a_this_all a_this_kept a_this_history a_this_slots a_this_isSaved a_this_stream a_this_pad : Nat) (v_historyLong : Int32) (v_streamLong : Int32) (v_spot : Int32) (v_padLong : Int32) (v_padSpot : Int32) (v_readNumber : Int32) (g_all : Ar) (g_history : Ar) (g_kept : Ar) (g_all' : Ar) : zCW (zw_38 cA n a_this a_this_all a_this_kept a_this_history a_this_slots a_this_isSaved a_this_stream a_this_pad v_historyLong v_streamLong v_spot v_padLong v_padSpot v_readNumber g_all g_history g_kept) (zw_38 cA n a_this a_this_all a_this_kept a_this_history a_this_slots a_this_isSaved a_this_stream a_this_pad v_historyLong v_streamLong v_spot v_padLong v_padSpot v_readNumber g_all' g_history g_kept) [0, 1] [2, 3] (zw_36 cA 0 a_this a_this_all a_this_kept a_this_history a_this_slots a_this_isSaved a_this_stream a_this_pad v_historyLong v_streamLong v_spot v_padLong v_padSpot v_readNumber g_all) (zw_36 cA 0 a_this a_this_all a_this_kept a_this_history a_this_slots a_this_isSaved a_this_stream a_this_pad v_historyLong v_streamLong v_spot v_padLong v_padSpot v_readNumber g_all') := ⟨rfl, (show (zw_36 cA 0 a_this a_this_all a_this_kept a_this_history a_this_slots a_this_isSaved a_this_stream a_this_pad v_historyLong v_streamLong v_spot v_padLong v_padSpot v_readNumber g_all').map Prod.fst = ([a_this, a_this_all] : List Nat) from rfl).trans (show (zw_36 cA 0 a_this a_this_all a_this_kept a_this_history a_this_slots a_this_isSaved a_this_stream a_this_pad v_historyLong v_streamLong v_spot v_padLong v_padSpot v_readNumber g_all).map Prod.fst = ([a_this, a_this_all] : List Nat) from rfl).symm, by decide +kernel, (show (zw_38 cA n a_this a_this_all a_this_kept a_this_history a_this_slots a_this_isSaved a_this_stream a_this_pad v_historyLong v_streamLong v_spot v_padLong v_padSpot v_readNumber g_all' g_history g_kept).map Prod.fst = ([a_this, a_this_all, a_this_history, a_this_kept] : List Nat) from rfl).trans (show (zw_38 cA n a_this a_this_all a_this_kept a_this_history a_this_slots a_this_isSaved a_this_stream a_this_pad v_historyLong v_streamLong v_spot v_padLong v_padSpot v_readNumber g_all g_history g_kept).map Prod.fst = ([a_this, a_this_all, a_this_history, a_this_kept] : List Nat) from rfl).symm, rfl, (show ([2, 3] : List Nat).map (fun i => (zw_38 cA n a_this a_this_all a_this_kept a_this_history a_this_slots a_this_isSaved a_this_stream a_this_pad v_historyLong v_streamLong v_spot v_padLong v_padSpot v_readNumber g_all' g_history g_kept)[i]?) = ([(a_this_history, .inl (cA, 402, .inl g_history)), (a_this_kept, .inl (cA, 67, .inl g_kept))] : va_W).map some from rfl).trans (show ([2, 3] : List Nat).map (fun i => (zw_38 cA n a_this a_this_all a_this_kept a_this_history a_this_slots a_this_isSaved a_this_stream a_this_pad v_historyLong v_streamLong v_spot v_padLong v_padSpot v_readNumber g_all g_history g_kept)[i]?) = ([(a_this_history, .inl (cA, 402, .inl g_history)), (a_this_kept, .inl (cA, 67, .inl g_kept))] : va_W).map some from rfl).symm, by decide +kernel, rfl⟩
set_option maxHeartbeats 4000000 in
set_option maxRecDepth 100000 in
theorem zk_117 (cA : ClassId) (n : Nat) (a_this a_this_all a_this_kept a_this_history a_this_slots a_this_isSaved a_this_stream a_this_pad : Nat) (v_historyLong : Int32) (v_streamLong : Int32) (v_spot : Int32) (v_padLong : Int32) (v_padSpot : Int32) (v_readNumber : Int32) (g_all : Ar) (g_history : Ar) (g_kept : Ar) (v_historyLong' : Int32) (g_history' : Ar) : zCW (zw_38 cA n a_this a_this_all a_this_kept a_this_history a_this_slots a_this_isSaved a_this_stream a_this_pad v_historyLong v_streamLong v_spot v_padLong v_padSpot v_readNumber g_all g_history g_kept) (zw_38 cA n a_this a_this_all a_this_kept a_this_history a_this_slots a_this_isSaved a_this_stream a_this_pad v_historyLong' v_streamLong v_spot v_padLong v_padSpot v_readNumber g_all g_history' g_kept) [0, 2, 3] [1] (zw_37 cA 0 a_this a_this_all a_this_kept a_this_history a_this_slots a_this_isSaved a_this_stream a_this_pad v_historyLong v_streamLong v_spot v_padLong v_padSpot v_readNumber g_history g_kept) (zw_37 cA 0 a_this a_this_all a_this_kept a_this_history a_this_slots a_this_isSaved a_this_stream a_this_pad v_historyLong' v_streamLong v_spot v_padLong v_padSpot v_readNumber g_history' g_kept) := ⟨rfl, (show (zw_37 cA 0 a_this a_this_all a_this_kept a_this_history a_this_slots a_this_isSaved a_this_stream a_this_pad v_historyLong' v_streamLong v_spot v_padLong v_padSpot v_readNumber g_history' g_kept).map Prod.fst = ([a_this, a_this_history, a_this_kept] : List Nat) from rfl).trans (show (zw_37 cA 0 a_this a_this_all a_this_kept a_this_history a_this_slots a_this_isSaved a_this_stream a_this_pad v_historyLong v_streamLong v_spot v_padLong v_padSpot v_readNumber g_history g_kept).map Prod.fst = ([a_this, a_this_history, a_this_kept] : List Nat) from rfl).symm, by decide +kernel, (show (zw_38 cA n a_this a_this_all a_this_kept a_this_history a_this_slots a_this_isSaved a_this_stream a_this_pad v_historyLong' v_streamLong v_spot v_padLong v_padSpot v_readNumber g_all g_history' g_kept).map Prod.fst = ([a_this, a_this_all, a_this_history, a_this_kept] : List Nat) from rfl).trans (show (zw_38 cA n a_this a_this_all a_this_kept a_this_history a_this_slots a_this_isSaved a_this_stream a_this_pad v_historyLong v_streamLong v_spot v_padLong v_padSpot v_readNumber g_all g_history g_kept).map Prod.fst = ([a_this, a_this_all, a_this_history, a_this_kept] : List Nat) from rfl).symm, rfl, (show ([1] : List Nat).map (fun i => (zw_38 cA n a_this a_this_all a_this_kept a_this_history a_this_slots a_this_isSaved a_this_stream a_this_pad v_historyLong' v_streamLong v_spot v_padLong v_padSpot v_readNumber g_all g_history' g_kept)[i]?) = ([(a_this_all, .inl (cA, 67, .inl g_all))] : va_W).map some from rfl).trans (show ([1] : List Nat).map (fun i => (zw_38 cA n a_this a_this_all a_this_kept a_this_history a_this_slots a_this_isSaved a_this_stream a_this_pad v_historyLong v_streamLong v_spot v_padLong v_padSpot v_readNumber g_all g_history g_kept)[i]?) = ([(a_this_all, .inl (cA, 67, .inl g_all))] : va_W).map some from rfl).symm, by decide +kernel, rfl⟩
set_option maxHeartbeats 4000000 in
set_option maxRecDepth 100000 in
theorem m_X9_set (l : Launch) (D : va_G) (cA : ClassId) (a_this a_this_all a_this_kept a_this_history a_this_slots a_this_isSaved a_this_stream a_this_pad : Nat) (v_historyLong : Int32) (v_streamLong : Int32) (v_spot : Int32) (v_padLong : Int32) (v_padSpot : Int32) (v_readNumber : Int32) (g_all : Ar) (g_history : Ar) (g_kept : Ar) (i1 : Int32) (i2 : Int32) (out : Int32 × Int32 × Ar × Ar × Ar) (hF : F_X9_set v_historyLong g_all g_history g_kept i1 i2 = some out) : zM l D cA yX9_set cX9_set 3 (some .int) 3 69 [.ref a_this, .int i1, .int i2] (zw_38 cA 0 a_this a_this_all a_this_kept a_this_history a_this_slots a_this_isSaved a_this_stream a_this_pad v_historyLong v_streamLong v_spot v_padLong v_padSpot v_readNumber g_all g_history g_kept) (zw_38 cA 0 a_this a_this_all a_this_kept a_this_history a_this_slots a_this_isSaved a_this_stream a_this_pad out.2.1 v_streamLong v_spot v_padLong v_padSpot v_readNumber out.2.2.1 out.2.2.2.1 out.2.2.2.2) (some (.int out.1)) := by
  refine z_body (by decide) (Nat.le_of_ble_eq_true rfl) ?_
  intro p e s m args below meth c ls H locs A X hl hw
  have hl : lv_has ls 3 [(0, .ref a_this), (1, .int i1), (2, .int i2)] := hl
  unfold F_X9_set at hF
  refine z_aload_n 0 X dX9_set_0 hl 0 rfl ?_
  obtain ⟨u1, e2, hF⟩ := zbd hF
  refine z_callV 1 zc9 mv_X9_keep ml_9_120 0 [] (zk_115 cA 0 a_this a_this_all a_this_kept a_this_history a_this_slots a_this_isSaved a_this_stream a_this_pad v_historyLong v_streamLong v_spot v_padLong v_padSpot v_readNumber g_all g_history g_kept u1) (m_X9_keep l D cA a_this a_this_all a_this_kept a_this_history a_this_slots a_this_isSaved a_this_stream a_this_pad v_historyLong v_streamLong v_spot v_padLong v_padSpot v_readNumber g_all g_kept u1 e2) X dX9_set_1 hw hl rfl rfl rfl (Nat.le_of_ble_eq_true rfl) ⟨Nat.le_of_ble_eq_true rfl, Nat.le_of_ble_eq_true rfl⟩ ⟨Nat.zero_le _, Nat.zero_le _⟩ (fun H locs hw => ?_)
  refine z_aload_n 4 X dX9_set_4 hl 0 rfl ?_
  refine z_aload_n 5 X dX9_set_5 hl 0 rfl ?_
  refine z_iload_n 6 X dX9_set_6 hl 1 rfl ?_
  refine z_iload_n 7 X dX9_set_7 hl 2 rfl ?_
  obtain ⟨u3, e4, hF⟩ := zbd hF
  refine z_callV 8 zc9 mv_X9_doSet ml_9_123 0 [.ref a_this] (zk_116 cA 0 a_this a_this_all a_this_kept a_this_history a_this_slots a_this_isSaved a_this_stream a_this_pad v_historyLong v_streamLong v_spot v_padLong v_padSpot v_readNumber g_all g_history u1 u3.2) (m_X9_doSet l D cA a_this a_this_all a_this_kept a_this_history a_this_slots a_this_isSaved a_this_stream a_this_pad v_historyLong v_streamLong v_spot v_padLong v_padSpot v_readNumber g_all i1 i2 u3 e4) X dX9_set_8 hw hl rfl rfl rfl (Nat.le_of_ble_eq_true rfl) ⟨Nat.le_of_ble_eq_true rfl, Nat.le_of_ble_eq_true rfl⟩ ⟨Nat.zero_le _, Nat.zero_le _⟩ (fun H locs hw => ?_)
  obtain ⟨u5, e6, hF⟩ := zbd hF
  refine z_callV 11 zc9 mv_X9_changed ml_9_126 0 [] (zk_117 cA 0 a_this a_this_all a_this_kept a_this_history a_this_slots a_this_isSaved a_this_stream a_this_pad v_historyLong v_streamLong v_spot v_padLong v_padSpot v_readNumber u3.2 g_history u1 u5.2.1 u5.2.2) (m_X9_changed l D cA a_this a_this_all a_this_kept a_this_history a_this_slots a_this_isSaved a_this_stream a_this_pad v_historyLong v_streamLong v_spot v_padLong v_padSpot v_readNumber g_history u1 u3.1 u5 e6) X dX9_set_11 hw hl rfl rfl rfl (Nat.le_of_ble_eq_true rfl) ⟨Nat.le_of_ble_eq_true rfl, Nat.le_of_ble_eq_true rfl⟩ ⟨Nat.zero_le _, Nat.zero_le _⟩ (fun H locs hw => ?_)
  cases hF
  exact z_iret 14 X dX9_set_14 hw rfl rfl
theorem dX9_isNumber_0 : decode cX9_isNumber 0 = .ok (.iload_n 0, 1) := by decide +kernel
theorem dX9_isNumber_1 : decode cX9_isNumber 1 = .ok (.i2l, 1) := by decide +kernel
theorem dX9_isNumber_2 : decode cX9_isNumber 2 = .ok (.lconst 0, 1) := by decide +kernel
theorem dX9_isNumber_3 : decode cX9_isNumber 3 = .ok (.ldc2_w 89, 3) := by decide +kernel
theorem dX9_isNumber_6 : decode cX9_isNumber 6 = .ok (.invokestatic 91, 3) := by decide +kernel
theorem dX9_isNumber_9 : decode cX9_isNumber 9 = .ok (.ireturn, 1) := by decide +kernel
set_option maxHeartbeats 4000000 in
set_option maxRecDepth 100000 in
theorem m_X9_isNumber (l : Launch) (D : va_G) (cA : ClassId) (i0 : Int32) (out : Int32) (hF : F_X9_isNumber i0 = some out) : zM l D cA yX9_isNumber cX9_isNumber 1 (some .boolean) 1 25 [.int i0] (zw_4 cA 0  ) (zw_4 cA 0  ) (some (.int out)) := by
  refine z_body (by decide) (Nat.le_of_ble_eq_true rfl) ?_
  intro p e s m args below meth c ls H locs A X hl hw
  have hl : lv_has ls 1 [(0, .int i0)] := hl
  unfold F_X9_isNumber at hF
  refine z_iload_n 0 X dX9_isNumber_0 hl 0 rfl ?_
  refine z_i2l 1 X dX9_isNumber_1 ?_
  refine z_lconst 2 0 X dX9_isNumber_2 (by decide) ?_
  refine z_ldc2 3 65535 X dX9_isNumber_3 cl_9_89 ?_
  obtain ⟨u1, e2, hF⟩ := zbd hF
  refine z_callS 6 mv_X9_in ml_9_91 [] (zk_6 cA 0) (m_X9_in l D cA (i0.toInt64) 0 65535 u1 e2) X dX9_isNumber_6 hw hl rfl rfl (Nat.le_of_ble_eq_true rfl) ⟨Nat.le_of_ble_eq_true rfl, Nat.le_of_ble_eq_true rfl⟩ ⟨Nat.zero_le _, Nat.zero_le _⟩ (fun H locs hw => ?_)
  obtain ⟨gz, hF⟩ := zgd hF
  cases hF
  exact z_zret 9 X dX9_isNumber_9 hw gz rfl rfl
theorem dX9_number_0 : decode cX9_number 0 = .ok (.iload_n 1, 1) := by decide +kernel
theorem dX9_number_1 : decode cX9_number 1 = .ok (.ifCond .ge 7, 3) := by decide +kernel
theorem dX9_number_4 : decode cX9_number 4 = .ok (.iconst (-1), 1) := by decide +kernel
theorem dX9_number_5 : decode cX9_number 5 = .ok (.goto 11, 3) := by decide +kernel
theorem dX9_number_8 : decode cX9_number 8 = .ok (.aload_n 0, 1) := by decide +kernel
theorem dX9_number_9 : decode cX9_number 9 = .ok (.getfield 7, 3) := by decide +kernel
theorem dX9_number_12 : decode cX9_number 12 = .ok (.iconst 3, 1) := by decide +kernel
theorem dX9_number_13 : decode cX9_number 13 = .ok (.iload_n 1, 1) := by decide +kernel
theorem dX9_number_14 : decode cX9_number 14 = .ok (.iadd, 1) := by decide +kernel
theorem dX9_number_15 : decode cX9_number 15 = .ok (.iaload, 1) := by decide +kernel
theorem dX9_number_16 : decode cX9_number 16 = .ok (.ireturn, 1) := by decide +kernel
set_option maxHeartbeats 4000000 in
set_option maxRecDepth 100000 in
theorem m_X9_number (l : Launch) (D : va_G) (cA : ClassId) (a_this a_this_all a_this_kept a_this_history a_this_slots a_this_isSaved a_this_stream a_this_pad : Nat) (v_historyLong : Int32) (v_streamLong : Int32) (v_spot : Int32) (v_padLong : Int32) (v_padSpot : Int32) (v_readNumber : Int32) (g_all : Ar) (i1 : Int32) (out : Int32) (hF : F_X9_number g_all i1 = some out) : zM l D cA yX9_number cX9_number 2 (some .int) 0 0 [.ref a_this, .int i1] (zw_36 cA 0 a_this a_this_all a_this_kept a_this_history a_this_slots a_this_isSaved a_this_stream a_this_pad v_historyLong v_streamLong v_spot v_padLong v_padSpot v_readNumber g_all) (zw_36 cA 0 a_this a_this_all a_this_kept a_this_history a_this_slots a_this_isSaved a_this_stream a_this_pad v_historyLong v_streamLong v_spot v_padLong v_padSpot v_readNumber g_all) (some (.int out)) := by
  refine z_body (by decide) (Nat.le_of_ble_eq_true rfl) ?_
  intro p e s m args below meth c ls H locs A X hl hw
  have hl : lv_has ls 2 [(0, .ref a_this), (1, .int i1)] := hl
  unfold F_X9_number at hF
  refine z_iload_n 0 X dX9_number_0 hl 1 rfl ?_
  refine z_if_ge 1 8 X dX9_number_1 (by decide) (fun c1 => ?_) (fun c1 => ?_)
  · replace hF := zpos c1 hF
    refine z_aload_n 8 X dX9_number_8 hl 0 rfl ?_
    refine z_get 9 zc9 0 0 fl_9_7 X dX9_number_9 hw rfl (by decide) rfl ?_
    refine z_iconst 12 3 X dX9_number_12 (by decide) ?_
    refine z_iload_n 13 X dX9_number_13 hl 1 rfl ?_
    refine z_iadd 14 X dX9_number_14 ?_
    obtain ⟨gd2, hF⟩ := zgd hF
    refine z_iald 15 1 (g_all (3 + i1).toNatClampNeg) X dX9_number_15 hw rfl gd2 rfl ?_
    cases hF
    exact z_iret 16 X dX9_number_16 hw rfl rfl
  · replace hF := zneg c1 hF
    refine z_iconst 4 (-1) X dX9_number_4 (by decide) ?_
    refine z_goto 5 16 X dX9_number_5 (by decide) ?_
    cases hF
    exact z_iret 16 X dX9_number_16 hw rfl rfl
theorem dX9_lowest_0 : decode cX9_lowest 0 = .ok (.iconst 0, 1) := by decide +kernel
theorem dX9_lowest_1 : decode cX9_lowest 1 = .ok (.istore_n 2, 1) := by decide +kernel
theorem dX9_lowest_2 : decode cX9_lowest 2 = .ok (.iload_n 2, 1) := by decide +kernel
theorem dX9_lowest_3 : decode cX9_lowest 3 = .ok (.aload_n 0, 1) := by decide +kernel
theorem dX9_lowest_4 : decode cX9_lowest 4 = .ok (.getfield 7, 3) := by decide +kernel
theorem dX9_lowest_7 : decode cX9_lowest 7 = .ok (.iconst 2, 1) := by decide +kernel
theorem dX9_lowest_8 : decode cX9_lowest 8 = .ok (.iaload, 1) := by decide +kernel
theorem dX9_lowest_9 : decode cX9_lowest 9 = .ok (.if_icmp .ge 18, 3) := by decide +kernel
theorem dX9_lowest_12 : decode cX9_lowest 12 = .ok (.aload_n 0, 1) := by decide +kernel
theorem dX9_lowest_13 : decode cX9_lowest 13 = .ok (.iload_n 2, 1) := by decide +kernel
theorem dX9_lowest_14 : decode cX9_lowest 14 = .ok (.invokevirtual 35, 3) := by decide +kernel
theorem dX9_lowest_17 : decode cX9_lowest 17 = .ok (.iload_n 1, 1) := by decide +kernel
theorem dX9_lowest_18 : decode cX9_lowest 18 = .ok (.if_icmp .ge 9, 3) := by decide +kernel
theorem dX9_lowest_21 : decode cX9_lowest 21 = .ok (.iinc 2 1, 3) := by decide +kernel
theorem dX9_lowest_24 : decode cX9_lowest 24 = .ok (.goto (-22), 3) := by decide +kernel
theorem dX9_lowest_27 : decode cX9_lowest 27 = .ok (.iload_n 2, 1) := by decide +kernel
theorem dX9_lowest_28 : decode cX9_lowest 28 = .ok (.ireturn, 1) := by decide +kernel
set_option maxHeartbeats 4000000 in
set_option maxRecDepth 100000 in
theorem zk_118 (cA : ClassId) (n : Nat) (a_this a_this_all a_this_kept a_this_history a_this_slots a_this_isSaved a_this_stream a_this_pad : Nat) (v_historyLong : Int32) (v_streamLong : Int32) (v_spot : Int32) (v_padLong : Int32) (v_padSpot : Int32) (v_readNumber : Int32) (g_all : Ar)  : zCW (zw_36 cA n a_this a_this_all a_this_kept a_this_history a_this_slots a_this_isSaved a_this_stream a_this_pad v_historyLong v_streamLong v_spot v_padLong v_padSpot v_readNumber g_all) (zw_36 cA n a_this a_this_all a_this_kept a_this_history a_this_slots a_this_isSaved a_this_stream a_this_pad v_historyLong v_streamLong v_spot v_padLong v_padSpot v_readNumber g_all) [0, 1] [] (zw_36 cA 0 a_this a_this_all a_this_kept a_this_history a_this_slots a_this_isSaved a_this_stream a_this_pad v_historyLong v_streamLong v_spot v_padLong v_padSpot v_readNumber g_all) (zw_36 cA 0 a_this a_this_all a_this_kept a_this_history a_this_slots a_this_isSaved a_this_stream a_this_pad v_historyLong v_streamLong v_spot v_padLong v_padSpot v_readNumber g_all) := ⟨rfl, (show (zw_36 cA 0 a_this a_this_all a_this_kept a_this_history a_this_slots a_this_isSaved a_this_stream a_this_pad v_historyLong v_streamLong v_spot v_padLong v_padSpot v_readNumber g_all).map Prod.fst = ([a_this, a_this_all] : List Nat) from rfl).trans (show (zw_36 cA 0 a_this a_this_all a_this_kept a_this_history a_this_slots a_this_isSaved a_this_stream a_this_pad v_historyLong v_streamLong v_spot v_padLong v_padSpot v_readNumber g_all).map Prod.fst = ([a_this, a_this_all] : List Nat) from rfl).symm, by decide +kernel, (show (zw_36 cA n a_this a_this_all a_this_kept a_this_history a_this_slots a_this_isSaved a_this_stream a_this_pad v_historyLong v_streamLong v_spot v_padLong v_padSpot v_readNumber g_all).map Prod.fst = ([a_this, a_this_all] : List Nat) from rfl).trans (show (zw_36 cA n a_this a_this_all a_this_kept a_this_history a_this_slots a_this_isSaved a_this_stream a_this_pad v_historyLong v_streamLong v_spot v_padLong v_padSpot v_readNumber g_all).map Prod.fst = ([a_this, a_this_all] : List Nat) from rfl).symm, rfl, rfl, by decide +kernel, rfl⟩
set_option maxHeartbeats 4000000 in
set_option maxRecDepth 100000 in
theorem l_X9_lowest_2 (l : Launch) (D : va_G) (cA : ClassId) (a_this a_this_all a_this_kept a_this_history a_this_slots a_this_isSaved a_this_stream a_this_pad : Nat) (v_historyLong : Int32) (v_streamLong : Int32) (v_spot : Int32) (v_padLong : Int32) (v_padSpot : Int32) (v_readNumber : Int32) (g_all : Ar) (i1 : Int32) (out : Int32) {p : Program} {e : Env} {s : State} {m : MethodId} {args : Array Value} {below : List Frame} {meth : Method} {c : Code} {A : Nat → Prop} (X : zX D cA p s m args meth c cX9_lowest 3 RX9 (some .int)) (k : Int32 → Option (Int32)) (hk : ∀ (i2 : Int32) (H : Heap) (locs : List Loc) (ls : Array Slot), zH D A s (zw_36 cA 0 a_this a_this_all a_this_kept a_this_history a_this_slots a_this_isSaved a_this_stream a_this_pad v_historyLong v_streamLong v_spot v_padLong v_padSpot v_readNumber g_all) H locs → lv_has ls 3 [(2, .int i2)] → k i2 = some out → W p l e (zR 1 21) s m args below meth c H locs 0 0 (MQ below (zQ D (zw_36 cA 0 a_this a_this_all a_this_kept a_this_history a_this_slots a_this_isSaved a_this_stream a_this_pad v_historyLong v_streamLong v_spot v_padLong v_padSpot v_readNumber g_all) (some (.int out)) A) args s 0 0 A) (F0 m 27 ls [])) :
    ∀ (fuel : Nat) (i2 : Int32) (H : Heap) (locs : List Loc) (ls : Array Slot), zH D A s (zw_36 cA 0 a_this a_this_all a_this_kept a_this_history a_this_slots a_this_isSaved a_this_stream a_this_pad v_historyLong v_streamLong v_spot v_padLong v_padSpot v_readNumber g_all) H locs → lv_has ls 3 [(0, .ref a_this), (1, .int i1), (2, .int i2)] → F_X9_lowest_L2 g_all i1 k fuel i2 = some out → W p l e (zR 1 21) s m args below meth c H locs 0 0 (MQ below (zQ D (zw_36 cA 0 a_this a_this_all a_this_kept a_this_history a_this_slots a_this_isSaved a_this_stream a_this_pad v_historyLong v_streamLong v_spot v_padLong v_padSpot v_readNumber g_all) (some (.int out)) A) args s 0 0 A) (F0 m 2 ls []) := by
  intro fuel
  induction fuel with
  | zero => intro i2 H locs ls hw hl hF; exact nomatch (show (none : Option (Int32)) = some out from hF)
  | succ fuel ih =>
    intro i2 H locs ls hw hl hF
    rw [F_X9_lowest_L2] at hF
    refine z_iload_n 2 X dX9_lowest_2 hl 2 rfl ?_
    refine z_aload_n 3 X dX9_lowest_3 hl 0 rfl ?_
    refine z_get 4 zc9 0 0 fl_9_7 X dX9_lowest_4 hw rfl (by decide) rfl ?_
    refine z_iconst 7 2 X dX9_lowest_7 (by decide) ?_
    refine z_iald 8 1 (g_all 2) X dX9_lowest_8 hw rfl (by decide) rfl ?_
    refine z_icmp_ge 9 27 X dX9_lowest_9 (by decide) (fun c1 => ?_) (fun c1 => ?_)
    · replace hF := zpos c1 hF
      exact hk i2 H locs ls hw (lv_sub hl [2] rfl) hF
    · replace hF := zneg c1 hF
      refine z_aload_n 12 X dX9_lowest_12 hl 0 rfl ?_
      refine z_iload_n 13 X dX9_lowest_13 hl 2 rfl ?_
      obtain ⟨u2, e3, hF⟩ := zbd hF
      refine z_callV 14 zc9 mv_X9_number ml_9_35 0 [] (zk_118 cA 0 a_this a_this_all a_this_kept a_this_history a_this_slots a_this_isSaved a_this_stream a_this_pad v_historyLong v_streamLong v_spot v_padLong v_padSpot v_readNumber g_all) (m_X9_number l D cA a_this a_this_all a_this_kept a_this_history a_this_slots a_this_isSaved a_this_stream a_this_pad v_historyLong v_streamLong v_spot v_padLong v_padSpot v_readNumber g_all i2 u2 e3) X dX9_lowest_14 hw hl rfl rfl rfl (Nat.le_of_ble_eq_true rfl) ⟨Nat.le_of_ble_eq_true rfl, Nat.le_of_ble_eq_true rfl⟩ ⟨Nat.zero_le _, Nat.zero_le _⟩ (fun H locs hw => ?_)
      refine z_iload_n 17 X dX9_lowest_17 hl 1 rfl ?_
      refine z_icmp_ge 18 27 X dX9_lowest_18 (by decide) (fun c4 => ?_) (fun c4 => ?_)
      · replace hF := zpos c4 hF
        exact hk i2 H locs ls hw (lv_sub hl [2] rfl) hF
      · replace hF := zneg c4 hF
        refine z_iinc2 21 1 [(2, .int (i2 + 1)), (0, .ref a_this), (1, .int i1)] X dX9_lowest_21 hl 2 rfl (by decide) (by decide) rfl (fun ls hl => ?_)
        refine z_goto 24 2 X dX9_lowest_24 (by decide) ?_
        exact ih (i2 + 1) H locs ls hw (lv_sub hl [1, 2, 0] rfl) hF
set_option maxHeartbeats 4000000 in
set_option maxRecDepth 100000 in
theorem m_X9_lowest (l : Launch) (D : va_G) (cA : ClassId) (a_this a_this_all a_this_kept a_this_history a_this_slots a_this_isSaved a_this_stream a_this_pad : Nat) (v_historyLong : Int32) (v_streamLong : Int32) (v_spot : Int32) (v_padLong : Int32) (v_padSpot : Int32) (v_readNumber : Int32) (g_all : Ar) (i1 : Int32) (out : Int32) (hF : F_X9_lowest g_all i1 = some out) : zM l D cA yX9_lowest cX9_lowest 3 (some .int) 1 21 [.ref a_this, .int i1] (zw_36 cA 0 a_this a_this_all a_this_kept a_this_history a_this_slots a_this_isSaved a_this_stream a_this_pad v_historyLong v_streamLong v_spot v_padLong v_padSpot v_readNumber g_all) (zw_36 cA 0 a_this a_this_all a_this_kept a_this_history a_this_slots a_this_isSaved a_this_stream a_this_pad v_historyLong v_streamLong v_spot v_padLong v_padSpot v_readNumber g_all) (some (.int out)) := by
  refine z_body (by decide) (Nat.le_of_ble_eq_true rfl) ?_
  intro p e s m args below meth c ls H locs A X hl hw
  have hl : lv_has ls 3 [(0, .ref a_this), (1, .int i1)] := hl
  unfold F_X9_lowest at hF
  refine z_iconst 0 0 X dX9_lowest_0 (by decide) ?_
  refine z_istore_n 1 [(2, .int 0), (0, .ref a_this), (1, .int i1)] X dX9_lowest_1 hl (by decide) rfl (fun ls hl => ?_)
  refine l_X9_lowest_2 l D cA a_this a_this_all a_this_kept a_this_history a_this_slots a_this_isSaved a_this_stream a_this_pad v_historyLong v_streamLong v_spot v_padLong v_padSpot v_readNumber g_all i1 out X _ (fun i2_5 H locs ls hw hl hF => ?_) zFuel 0 H locs ls hw (lv_sub hl [1, 2, 0] rfl) hF
  refine z_iload_n 27 X dX9_lowest_27 hl 0 rfl ?_
  cases hF
  exact z_iret 28 X dX9_lowest_28 hw rfl rfl
theorem dX9_isThere_0 : decode cX9_isThere 0 = .ok (.aload_n 0, 1) := by decide +kernel
theorem dX9_isThere_1 : decode cX9_isThere 1 = .ok (.iload_n 1, 1) := by decide +kernel
theorem dX9_isThere_2 : decode cX9_isThere 2 = .ok (.invokevirtual 102, 3) := by decide +kernel
theorem dX9_isThere_5 : decode cX9_isThere 5 = .ok (.istore_n 2, 1) := by decide +kernel
theorem dX9_isThere_6 : decode cX9_isThere 6 = .ok (.iload_n 2, 1) := by decide +kernel
theorem dX9_isThere_7 : decode cX9_isThere 7 = .ok (.aload_n 0, 1) := by decide +kernel
theorem dX9_isThere_8 : decode cX9_isThere 8 = .ok (.getfield 7, 3) := by decide +kernel
theorem dX9_isThere_11 : decode cX9_isThere 11 = .ok (.iconst 2, 1) := by decide +kernel
theorem dX9_isThere_12 : decode cX9_isThere 12 = .ok (.iaload, 1) := by decide +kernel
theorem dX9_isThere_13 : decode cX9_isThere 13 = .ok (.if_icmp .ge 16, 3) := by decide +kernel
theorem dX9_isThere_16 : decode cX9_isThere 16 = .ok (.aload_n 0, 1) := by decide +kernel
theorem dX9_isThere_17 : decode cX9_isThere 17 = .ok (.iload_n 2, 1) := by decide +kernel
theorem dX9_isThere_18 : decode cX9_isThere 18 = .ok (.invokevirtual 35, 3) := by decide +kernel
theorem dX9_isThere_21 : decode cX9_isThere 21 = .ok (.iload_n 1, 1) := by decide +kernel
theorem dX9_isThere_22 : decode cX9_isThere 22 = .ok (.if_icmp .ne 7, 3) := by decide +kernel
theorem dX9_isThere_25 : decode cX9_isThere 25 = .ok (.iconst 1, 1) := by decide +kernel
theorem dX9_isThere_26 : decode cX9_isThere 26 = .ok (.goto 4, 3) := by decide +kernel
theorem dX9_isThere_29 : decode cX9_isThere 29 = .ok (.iconst 0, 1) := by decide +kernel
theorem dX9_isThere_30 : decode cX9_isThere 30 = .ok (.ireturn, 1) := by decide +kernel
set_option maxHeartbeats 4000000 in
set_option maxRecDepth 100000 in
theorem m_X9_isThere (l : Launch) (D : va_G) (cA : ClassId) (a_this a_this_all a_this_kept a_this_history a_this_slots a_this_isSaved a_this_stream a_this_pad : Nat) (v_historyLong : Int32) (v_streamLong : Int32) (v_spot : Int32) (v_padLong : Int32) (v_padSpot : Int32) (v_readNumber : Int32) (g_all : Ar) (i1 : Int32) (out : Int32) (hF : F_X9_isThere g_all i1 = some out) : zM l D cA yX9_isThere cX9_isThere 3 (some .boolean) 2 43 [.ref a_this, .int i1] (zw_36 cA 0 a_this a_this_all a_this_kept a_this_history a_this_slots a_this_isSaved a_this_stream a_this_pad v_historyLong v_streamLong v_spot v_padLong v_padSpot v_readNumber g_all) (zw_36 cA 0 a_this a_this_all a_this_kept a_this_history a_this_slots a_this_isSaved a_this_stream a_this_pad v_historyLong v_streamLong v_spot v_padLong v_padSpot v_readNumber g_all) (some (.int out)) := by
  refine z_body (by decide) (Nat.le_of_ble_eq_true rfl) ?_
  intro p e s m args below meth c ls H locs A X hl hw
  have hl : lv_has ls 3 [(0, .ref a_this), (1, .int i1)] := hl
  unfold F_X9_isThere at hF
  refine z_aload_n 0 X dX9_isThere_0 hl 0 rfl ?_
  refine z_iload_n 1 X dX9_isThere_1 hl 1 rfl ?_
  obtain ⟨u1, e2, hF⟩ := zbd hF
  refine z_callV 2 zc9 mv_X9_lowest ml_9_102 0 [] (zk_118 cA 0 a_this a_this_all a_this_kept a_this_history a_this_slots a_this_isSaved a_this_stream a_this_pad v_historyLong v_streamLong v_spot v_padLong v_padSpot v_readNumber g_all) (m_X9_lowest l D cA a_this a_this_all a_this_kept a_this_history a_this_slots a_this_isSaved a_this_stream a_this_pad v_historyLong v_streamLong v_spot v_padLong v_padSpot v_readNumber g_all i1 u1 e2) X dX9_isThere_2 hw hl rfl rfl rfl (Nat.le_of_ble_eq_true rfl) ⟨Nat.le_of_ble_eq_true rfl, Nat.le_of_ble_eq_true rfl⟩ ⟨Nat.zero_le _, Nat.zero_le _⟩ (fun H locs hw => ?_)
  refine z_istore_n 5 [(2, .int u1), (0, .ref a_this), (1, .int i1)] X dX9_isThere_5 hl (by decide) rfl (fun ls hl => ?_)
  refine z_iload_n 6 X dX9_isThere_6 hl 0 rfl ?_
  refine z_aload_n 7 X dX9_isThere_7 hl 1 rfl ?_
  refine z_get 8 zc9 0 0 fl_9_7 X dX9_isThere_8 hw rfl (by decide) rfl ?_
  refine z_iconst 11 2 X dX9_isThere_11 (by decide) ?_
  refine z_iald 12 1 (g_all 2) X dX9_isThere_12 hw rfl (by decide) rfl ?_
  refine z_icmp_ge 13 29 X dX9_isThere_13 (by decide) (fun c3 => ?_) (fun c3 => ?_)
  · replace hF := zpos c3 hF
    refine z_iconst 29 0 X dX9_isThere_29 (by decide) ?_
    cases hF
    exact z_zret 30 X dX9_isThere_30 hw (by decide) rfl rfl
  · replace hF := zneg c3 hF
    refine z_aload_n 16 X dX9_isThere_16 hl 1 rfl ?_
    refine z_iload_n 17 X dX9_isThere_17 hl 0 rfl ?_
    obtain ⟨u4, e5, hF⟩ := zbd hF
    refine z_callV 18 zc9 mv_X9_number ml_9_35 0 [] (zk_118 cA 0 a_this a_this_all a_this_kept a_this_history a_this_slots a_this_isSaved a_this_stream a_this_pad v_historyLong v_streamLong v_spot v_padLong v_padSpot v_readNumber g_all) (m_X9_number l D cA a_this a_this_all a_this_kept a_this_history a_this_slots a_this_isSaved a_this_stream a_this_pad v_historyLong v_streamLong v_spot v_padLong v_padSpot v_readNumber g_all u1 u4 e5) X dX9_isThere_18 hw hl rfl rfl rfl (Nat.le_of_ble_eq_true rfl) ⟨Nat.le_of_ble_eq_true rfl, Nat.le_of_ble_eq_true rfl⟩ ⟨Nat.zero_le _, Nat.zero_le _⟩ (fun H locs hw => ?_)
    refine z_iload_n 21 X dX9_isThere_21 hl 2 rfl ?_
    refine z_icmp_ne 22 29 X dX9_isThere_22 (by decide) (fun c6 => ?_) (fun c6 => ?_)
    · replace hF := zneg c6 hF
      refine z_iconst 29 0 X dX9_isThere_29 (by decide) ?_
      cases hF
      exact z_zret 30 X dX9_isThere_30 hw (by decide) rfl rfl
    · replace hF := zpos c6 hF
      refine z_iconst 25 1 X dX9_isThere_25 (by decide) ?_
      refine z_goto 26 30 X dX9_isThere_26 (by decide) ?_
      cases hF
      exact z_zret 30 X dX9_isThere_30 hw (by decide) rfl rfl
theorem dX9_doPutIn_0 : decode cX9_doPutIn 0 = .ok (.iload_n 1, 1) := by decide +kernel
theorem dX9_doPutIn_1 : decode cX9_doPutIn 1 = .ok (.invokestatic 105, 3) := by decide +kernel
theorem dX9_doPutIn_4 : decode cX9_doPutIn 4 = .ok (.ifCond .ne 6, 3) := by decide +kernel
theorem dX9_doPutIn_7 : decode cX9_doPutIn 7 = .ok (.bipush (-2), 2) := by decide +kernel
theorem dX9_doPutIn_9 : decode cX9_doPutIn 9 = .ok (.ireturn, 1) := by decide +kernel
theorem dX9_doPutIn_10 : decode cX9_doPutIn 10 = .ok (.aload_n 0, 1) := by decide +kernel
theorem dX9_doPutIn_11 : decode cX9_doPutIn 11 = .ok (.getfield 7, 3) := by decide +kernel
theorem dX9_doPutIn_14 : decode cX9_doPutIn 14 = .ok (.iconst 2, 1) := by decide +kernel
theorem dX9_doPutIn_15 : decode cX9_doPutIn 15 = .ok (.iaload, 1) := by decide +kernel
theorem dX9_doPutIn_16 : decode cX9_doPutIn 16 = .ok (.bipush 64, 2) := by decide +kernel
theorem dX9_doPutIn_18 : decode cX9_doPutIn 18 = .ok (.if_icmp .ne 6, 3) := by decide +kernel
theorem dX9_doPutIn_21 : decode cX9_doPutIn 21 = .ok (.bipush (-4), 2) := by decide +kernel
theorem dX9_doPutIn_23 : decode cX9_doPutIn 23 = .ok (.ireturn, 1) := by decide +kernel
theorem dX9_doPutIn_24 : decode cX9_doPutIn 24 = .ok (.aload_n 0, 1) := by decide +kernel
theorem dX9_doPutIn_25 : decode cX9_doPutIn 25 = .ok (.iload_n 1, 1) := by decide +kernel
theorem dX9_doPutIn_26 : decode cX9_doPutIn 26 = .ok (.invokevirtual 109, 3) := by decide +kernel
theorem dX9_doPutIn_29 : decode cX9_doPutIn 29 = .ok (.ifCond .eq 6, 3) := by decide +kernel
theorem dX9_doPutIn_32 : decode cX9_doPutIn 32 = .ok (.bipush (-5), 2) := by decide +kernel
theorem dX9_doPutIn_34 : decode cX9_doPutIn 34 = .ok (.ireturn, 1) := by decide +kernel
theorem dX9_doPutIn_35 : decode cX9_doPutIn 35 = .ok (.aload_n 0, 1) := by decide +kernel
theorem dX9_doPutIn_36 : decode cX9_doPutIn 36 = .ok (.iload_n 1, 1) := by decide +kernel
theorem dX9_doPutIn_37 : decode cX9_doPutIn 37 = .ok (.invokevirtual 102, 3) := by decide +kernel
theorem dX9_doPutIn_40 : decode cX9_doPutIn 40 = .ok (.istore_n 2, 1) := by decide +kernel
theorem dX9_doPutIn_41 : decode cX9_doPutIn 41 = .ok (.aload_n 0, 1) := by decide +kernel
theorem dX9_doPutIn_42 : decode cX9_doPutIn 42 = .ok (.getfield 7, 3) := by decide +kernel
theorem dX9_doPutIn_45 : decode cX9_doPutIn 45 = .ok (.iconst 2, 1) := by decide +kernel
theorem dX9_doPutIn_46 : decode cX9_doPutIn 46 = .ok (.iaload, 1) := by decide +kernel
theorem dX9_doPutIn_47 : decode cX9_doPutIn 47 = .ok (.istore_n 3, 1) := by decide +kernel
theorem dX9_doPutIn_48 : decode cX9_doPutIn 48 = .ok (.iload_n 3, 1) := by decide +kernel
theorem dX9_doPutIn_49 : decode cX9_doPutIn 49 = .ok (.iload_n 2, 1) := by decide +kernel
theorem dX9_doPutIn_50 : decode cX9_doPutIn 50 = .ok (.if_icmp .le 27, 3) := by decide +kernel
theorem dX9_doPutIn_53 : decode cX9_doPutIn 53 = .ok (.aload_n 0, 1) := by decide +kernel
theorem dX9_doPutIn_54 : decode cX9_doPutIn 54 = .ok (.getfield 7, 3) := by decide +kernel
theorem dX9_doPutIn_57 : decode cX9_doPutIn 57 = .ok (.iconst 3, 1) := by decide +kernel
theorem dX9_doPutIn_58 : decode cX9_doPutIn 58 = .ok (.iload_n 3, 1) := by decide +kernel
theorem dX9_doPutIn_59 : decode cX9_doPutIn 59 = .ok (.iadd, 1) := by decide +kernel
theorem dX9_doPutIn_60 : decode cX9_doPutIn 60 = .ok (.aload_n 0, 1) := by decide +kernel
theorem dX9_doPutIn_61 : decode cX9_doPutIn 61 = .ok (.getfield 7, 3) := by decide +kernel
theorem dX9_doPutIn_64 : decode cX9_doPutIn 64 = .ok (.iconst 3, 1) := by decide +kernel
theorem dX9_doPutIn_65 : decode cX9_doPutIn 65 = .ok (.iload_n 3, 1) := by decide +kernel
theorem dX9_doPutIn_66 : decode cX9_doPutIn 66 = .ok (.iadd, 1) := by decide +kernel
theorem dX9_doPutIn_67 : decode cX9_doPutIn 67 = .ok (.iconst 1, 1) := by decide +kernel
theorem dX9_doPutIn_68 : decode cX9_doPutIn 68 = .ok (.isub, 1) := by decide +kernel
theorem dX9_doPutIn_69 : decode cX9_doPutIn 69 = .ok (.iaload, 1) := by decide +kernel
theorem dX9_doPutIn_70 : decode cX9_doPutIn 70 = .ok (.iastore, 1) := by decide +kernel
theorem dX9_doPutIn_71 : decode cX9_doPutIn 71 = .ok (.iinc 3 (-1), 3) := by decide +kernel
theorem dX9_doPutIn_74 : decode cX9_doPutIn 74 = .ok (.goto (-26), 3) := by decide +kernel
theorem dX9_doPutIn_77 : decode cX9_doPutIn 77 = .ok (.aload_n 0, 1) := by decide +kernel
theorem dX9_doPutIn_78 : decode cX9_doPutIn 78 = .ok (.getfield 7, 3) := by decide +kernel
theorem dX9_doPutIn_81 : decode cX9_doPutIn 81 = .ok (.iconst 3, 1) := by decide +kernel
theorem dX9_doPutIn_82 : decode cX9_doPutIn 82 = .ok (.iload_n 2, 1) := by decide +kernel
theorem dX9_doPutIn_83 : decode cX9_doPutIn 83 = .ok (.iadd, 1) := by decide +kernel
theorem dX9_doPutIn_84 : decode cX9_doPutIn 84 = .ok (.iload_n 1, 1) := by decide +kernel
theorem dX9_doPutIn_85 : decode cX9_doPutIn 85 = .ok (.iastore, 1) := by decide +kernel
theorem dX9_doPutIn_86 : decode cX9_doPutIn 86 = .ok (.aload_n 0, 1) := by decide +kernel
theorem dX9_doPutIn_87 : decode cX9_doPutIn 87 = .ok (.getfield 7, 3) := by decide +kernel
theorem dX9_doPutIn_90 : decode cX9_doPutIn 90 = .ok (.iconst 2, 1) := by decide +kernel
theorem dX9_doPutIn_91 : decode cX9_doPutIn 91 = .ok (.dup2, 1) := by decide +kernel
theorem dX9_doPutIn_92 : decode cX9_doPutIn 92 = .ok (.iaload, 1) := by decide +kernel
theorem dX9_doPutIn_93 : decode cX9_doPutIn 93 = .ok (.iconst 1, 1) := by decide +kernel
theorem dX9_doPutIn_94 : decode cX9_doPutIn 94 = .ok (.iadd, 1) := by decide +kernel
theorem dX9_doPutIn_95 : decode cX9_doPutIn 95 = .ok (.iastore, 1) := by decide +kernel
theorem dX9_doPutIn_96 : decode cX9_doPutIn 96 = .ok (.iload_n 2, 1) := by decide +kernel
theorem dX9_doPutIn_97 : decode cX9_doPutIn 97 = .ok (.ireturn, 1) := by decide +kernel
set_option maxHeartbeats 4000000 in
set_option maxRecDepth 100000 in
theorem l_X9_doPutIn_48 (l : Launch) (D : va_G) (cA : ClassId) (a_this a_this_all a_this_kept a_this_history a_this_slots a_this_isSaved a_this_stream a_this_pad : Nat) (v_historyLong : Int32) (v_streamLong : Int32) (v_spot : Int32) (v_padLong : Int32) (v_padSpot : Int32) (v_readNumber : Int32) (i1 : Int32) (i2 : Int32) (out : Int32 × Ar) {p : Program} {e : Env} {s : State} {m : MethodId} {args : Array Value} {below : List Frame} {meth : Method} {c : Code} {A : Nat → Prop} (X : zX D cA p s m args meth c cX9_doPutIn 4 RX9 (some .int)) (k : Ar → Option (Int32 × Ar)) (hk : ∀ (g_all : Ar) (H : Heap) (locs : List Loc) (ls : Array Slot), zH D A s (zw_36 cA 0 a_this a_this_all a_this_kept a_this_history a_this_slots a_this_isSaved a_this_stream a_this_pad v_historyLong v_streamLong v_spot v_padLong v_padSpot v_readNumber g_all) H locs → lv_has ls 4 [(0, .ref a_this), (1, .int i1), (2, .int i2)] → k g_all = some out → W p l e (zR 3 65) s m args below meth c H locs 0 0 (MQ below (zQ D (zw_36 cA 0 a_this a_this_all a_this_kept a_this_history a_this_slots a_this_isSaved a_this_stream a_this_pad v_historyLong v_streamLong v_spot v_padLong v_padSpot v_readNumber out.2) (some (.int out.1)) A) args s 0 0 A) (F0 m 77 ls [])) :
    ∀ (fuel : Nat) (g_all : Ar) (i3 : Int32) (H : Heap) (locs : List Loc) (ls : Array Slot), zH D A s (zw_36 cA 0 a_this a_this_all a_this_kept a_this_history a_this_slots a_this_isSaved a_this_stream a_this_pad v_historyLong v_streamLong v_spot v_padLong v_padSpot v_readNumber g_all) H locs → lv_has ls 4 [(0, .ref a_this), (1, .int i1), (2, .int i2), (3, .int i3)] → F_X9_doPutIn_L48 i2 k fuel g_all i3 = some out → W p l e (zR 3 65) s m args below meth c H locs 0 0 (MQ below (zQ D (zw_36 cA 0 a_this a_this_all a_this_kept a_this_history a_this_slots a_this_isSaved a_this_stream a_this_pad v_historyLong v_streamLong v_spot v_padLong v_padSpot v_readNumber out.2) (some (.int out.1)) A) args s 0 0 A) (F0 m 48 ls []) := by
  intro fuel
  induction fuel with
  | zero => intro g_all i3 H locs ls hw hl hF; exact nomatch (show (none : Option (Int32 × Ar)) = some out from hF)
  | succ fuel ih =>
    intro g_all i3 H locs ls hw hl hF
    rw [F_X9_doPutIn_L48] at hF
    refine z_iload_n 48 X dX9_doPutIn_48 hl 3 rfl ?_
    refine z_iload_n 49 X dX9_doPutIn_49 hl 2 rfl ?_
    refine z_icmp_le 50 77 X dX9_doPutIn_50 (by decide) (fun c10 => ?_) (fun c10 => ?_)
    · replace hF := zpos c10 hF
      exact hk g_all H locs ls hw (lv_sub hl [0, 1, 2] rfl) hF
    · replace hF := zneg c10 hF
      refine z_aload_n 53 X dX9_doPutIn_53 hl 0 rfl ?_
      refine z_get 54 zc9 0 0 fl_9_7 X dX9_doPutIn_54 hw rfl (by decide) rfl ?_
      refine z_iconst 57 3 X dX9_doPutIn_57 (by decide) ?_
      refine z_iload_n 58 X dX9_doPutIn_58 hl 3 rfl ?_
      refine z_iadd 59 X dX9_doPutIn_59 ?_
      refine z_aload_n 60 X dX9_doPutIn_60 hl 0 rfl ?_
      refine z_get 61 zc9 0 0 fl_9_7 X dX9_doPutIn_61 hw rfl (by decide) rfl ?_
      refine z_iconst 64 3 X dX9_doPutIn_64 (by decide) ?_
      refine z_iload_n 65 X dX9_doPutIn_65 hl 3 rfl ?_
      refine z_iadd 66 X dX9_doPutIn_66 ?_
      refine z_iconst 67 1 X dX9_doPutIn_67 (by decide) ?_
      refine z_isub 68 X dX9_doPutIn_68 ?_
      obtain ⟨gd11, hF⟩ := zgd hF
      refine z_iald 69 1 (g_all ((3 + i3) - 1).toNatClampNeg) X dX9_doPutIn_69 hw rfl gd11 rfl ?_
      obtain ⟨gd12, hF⟩ := zgd hF
      refine z_iast 70 1 (zw_36 cA 0 a_this a_this_all a_this_kept a_this_history a_this_slots a_this_isSaved a_this_stream a_this_pad v_historyLong v_streamLong v_spot v_padLong v_padSpot v_readNumber (upd g_all ((3 + i3).toNatClampNeg) (g_all ((3 + i3) - 1).toNatClampNeg))) X dX9_doPutIn_70 hw rfl gd12 rfl (fun H locs hw => ?_)
      refine z_iinc2 71 (-1) [(3, .int (i3 + (-1))), (0, .ref a_this), (1, .int i1), (2, .int i2)] X dX9_doPutIn_71 hl 3 rfl (by decide) (by decide) rfl (fun ls hl => ?_)
      refine z_goto 74 48 X dX9_doPutIn_74 (by decide) ?_
      exact ih (upd g_all ((3 + i3).toNatClampNeg) (g_all ((3 + i3) - 1).toNatClampNeg)) (i3 + (-1)) H locs ls hw (lv_sub hl [1, 2, 3, 0] rfl) hF
set_option maxHeartbeats 4000000 in
set_option maxRecDepth 100000 in
theorem m_X9_doPutIn (l : Launch) (D : va_G) (cA : ClassId) (a_this a_this_all a_this_kept a_this_history a_this_slots a_this_isSaved a_this_stream a_this_pad : Nat) (v_historyLong : Int32) (v_streamLong : Int32) (v_spot : Int32) (v_padLong : Int32) (v_padSpot : Int32) (v_readNumber : Int32) (g_all : Ar) (i1 : Int32) (out : Int32 × Ar) (hF : F_X9_doPutIn g_all i1 = some out) : zM l D cA yX9_doPutIn cX9_doPutIn 4 (some .int) 3 65 [.ref a_this, .int i1] (zw_36 cA 0 a_this a_this_all a_this_kept a_this_history a_this_slots a_this_isSaved a_this_stream a_this_pad v_historyLong v_streamLong v_spot v_padLong v_padSpot v_readNumber g_all) (zw_36 cA 0 a_this a_this_all a_this_kept a_this_history a_this_slots a_this_isSaved a_this_stream a_this_pad v_historyLong v_streamLong v_spot v_padLong v_padSpot v_readNumber out.2) (some (.int out.1)) := by
  refine z_body (by decide) (Nat.le_of_ble_eq_true rfl) ?_
  intro p e s m args below meth c ls H locs A X hl hw
  have hl : lv_has ls 4 [(0, .ref a_this), (1, .int i1)] := hl
  unfold F_X9_doPutIn at hF
  refine z_iload_n 0 X dX9_doPutIn_0 hl 1 rfl ?_
  obtain ⟨u1, e2, hF⟩ := zbd hF
  refine z_callS 1 mv_X9_isNumber ml_9_105 [] (zk_114 cA 0 a_this a_this_all a_this_kept a_this_history a_this_slots a_this_isSaved a_this_stream a_this_pad v_historyLong v_streamLong v_spot v_padLong v_padSpot v_readNumber g_all) (m_X9_isNumber l D cA i1 u1 e2) X dX9_doPutIn_1 hw hl rfl rfl (Nat.le_of_ble_eq_true rfl) ⟨Nat.le_of_ble_eq_true rfl, Nat.le_of_ble_eq_true rfl⟩ ⟨Nat.zero_le _, Nat.zero_le _⟩ (fun H locs hw => ?_)
  refine z_if_ne 4 10 X dX9_doPutIn_4 (by decide) (fun c3 => ?_) (fun c3 => ?_)
  · replace hF := zneg c3 hF
    refine z_aload_n 10 X dX9_doPutIn_10 hl 0 rfl ?_
    refine z_get 11 zc9 0 0 fl_9_7 X dX9_doPutIn_11 hw rfl (by decide) rfl ?_
    refine z_iconst 14 2 X dX9_doPutIn_14 (by decide) ?_
    refine z_iald 15 1 (g_all 2) X dX9_doPutIn_15 hw rfl (by decide) rfl ?_
    refine z_bipush 16 64 X dX9_doPutIn_16 (by decide) ?_
    refine z_icmp_ne 18 24 X dX9_doPutIn_18 (by decide) (fun c4 => ?_) (fun c4 => ?_)
    · replace hF := zneg c4 hF
      refine z_aload_n 24 X dX9_doPutIn_24 hl 0 rfl ?_
      refine z_iload_n 25 X dX9_doPutIn_25 hl 1 rfl ?_
      obtain ⟨u5, e6, hF⟩ := zbd hF
      refine z_callV 26 zc9 mv_X9_isThere ml_9_109 0 [] (zk_118 cA 0 a_this a_this_all a_this_kept a_this_history a_this_slots a_this_isSaved a_this_stream a_this_pad v_historyLong v_streamLong v_spot v_padLong v_padSpot v_readNumber g_all) (m_X9_isThere l D cA a_this a_this_all a_this_kept a_this_history a_this_slots a_this_isSaved a_this_stream a_this_pad v_historyLong v_streamLong v_spot v_padLong v_padSpot v_readNumber g_all i1 u5 e6) X dX9_doPutIn_26 hw hl rfl rfl rfl (Nat.le_of_ble_eq_true rfl) ⟨Nat.le_of_ble_eq_true rfl, Nat.le_of_ble_eq_true rfl⟩ ⟨Nat.zero_le _, Nat.zero_le _⟩ (fun H locs hw => ?_)
      refine z_if_eq 29 35 X dX9_doPutIn_29 (by decide) (fun c7 => ?_) (fun c7 => ?_)
      · replace hF := zpos c7 hF
        refine z_aload_n 35 X dX9_doPutIn_35 hl 0 rfl ?_
        refine z_iload_n 36 X dX9_doPutIn_36 hl 1 rfl ?_
        obtain ⟨u8, e9, hF⟩ := zbd hF
        refine z_callV 37 zc9 mv_X9_lowest ml_9_102 0 [] (zk_118 cA 0 a_this a_this_all a_this_kept a_this_history a_this_slots a_this_isSaved a_this_stream a_this_pad v_historyLong v_streamLong v_spot v_padLong v_padSpot v_readNumber g_all) (m_X9_lowest l D cA a_this a_this_all a_this_kept a_this_history a_this_slots a_this_isSaved a_this_stream a_this_pad v_historyLong v_streamLong v_spot v_padLong v_padSpot v_readNumber g_all i1 u8 e9) X dX9_doPutIn_37 hw hl rfl rfl rfl (Nat.le_of_ble_eq_true rfl) ⟨Nat.le_of_ble_eq_true rfl, Nat.le_of_ble_eq_true rfl⟩ ⟨Nat.zero_le _, Nat.zero_le _⟩ (fun H locs hw => ?_)
        refine z_istore_n 40 [(2, .int u8), (0, .ref a_this), (1, .int i1)] X dX9_doPutIn_40 hl (by decide) rfl (fun ls hl => ?_)
        refine z_aload_n 41 X dX9_doPutIn_41 hl 1 rfl ?_
        refine z_get 42 zc9 0 0 fl_9_7 X dX9_doPutIn_42 hw rfl (by decide) rfl ?_
        refine z_iconst 45 2 X dX9_doPutIn_45 (by decide) ?_
        refine z_iald 46 1 (g_all 2) X dX9_doPutIn_46 hw rfl (by decide) rfl ?_
        refine z_istore_n 47 [(3, .int (g_all 2)), (2, .int u8), (0, .ref a_this), (1, .int i1)] X dX9_doPutIn_47 hl (by decide) rfl (fun ls hl => ?_)
        refine l_X9_doPutIn_48 l D cA a_this a_this_all a_this_kept a_this_history a_this_slots a_this_isSaved a_this_stream a_this_pad v_historyLong v_streamLong v_spot v_padLong v_padSpot v_readNumber i1 u8 out X _ (fun g_all_13 H locs ls hw hl hF => ?_) zFuel g_all (g_all 2) H locs ls hw (lv_sub hl [2, 3, 1, 0] rfl) hF
        refine z_aload_n 77 X dX9_doPutIn_77 hl 0 rfl ?_
        refine z_get 78 zc9 0 0 fl_9_7 X dX9_doPutIn_78 hw rfl (by decide) rfl ?_
        refine z_iconst 81 3 X dX9_doPutIn_81 (by decide) ?_
        refine z_iload_n 82 X dX9_doPutIn_82 hl 2 rfl ?_
        refine z_iadd 83 X dX9_doPutIn_83 ?_
        refine z_iload_n 84 X dX9_doPutIn_84 hl 1 rfl ?_
        obtain ⟨gd14, hF⟩ := zgd hF
        refine z_iast 85 1 (zw_36 cA 0 a_this a_this_all a_this_kept a_this_history a_this_slots a_this_isSaved a_this_stream a_this_pad v_historyLong v_streamLong v_spot v_padLong v_padSpot v_readNumber (upd g_all_13 ((3 + u8).toNatClampNeg) i1)) X dX9_doPutIn_85 hw rfl gd14 rfl (fun H locs hw => ?_)
        refine z_aload_n 86 X dX9_doPutIn_86 hl 0 rfl ?_
        refine z_get 87 zc9 0 0 fl_9_7 X dX9_doPutIn_87 hw rfl (by decide) rfl ?_
        refine z_iconst 90 2 X dX9_doPutIn_90 (by decide) ?_
        refine z_dup2 91 X dX9_doPutIn_91 rfl rfl ?_
        refine z_iald 92 1 ((upd g_all_13 ((3 + u8).toNatClampNeg) i1) 2) X dX9_doPutIn_92 hw rfl (by decide) rfl ?_
        refine z_iconst 93 1 X dX9_doPutIn_93 (by decide) ?_
        refine z_iadd 94 X dX9_doPutIn_94 ?_
        refine z_iast 95 1 (zw_36 cA 0 a_this a_this_all a_this_kept a_this_history a_this_slots a_this_isSaved a_this_stream a_this_pad v_historyLong v_streamLong v_spot v_padLong v_padSpot v_readNumber (upd (upd g_all_13 ((3 + u8).toNatClampNeg) i1) 2 (((upd g_all_13 ((3 + u8).toNatClampNeg) i1) 2) + 1))) X dX9_doPutIn_95 hw rfl (by decide) rfl (fun H locs hw => ?_)
        refine z_iload_n 96 X dX9_doPutIn_96 hl 2 rfl ?_
        cases hF
        exact z_iret 97 X dX9_doPutIn_97 hw rfl rfl
      · replace hF := zneg c7 hF
        refine z_bipush 32 (-5) X dX9_doPutIn_32 (by decide) ?_
        cases hF
        exact z_iret 34 X dX9_doPutIn_34 hw rfl rfl
    · replace hF := zpos c4 hF
      refine z_bipush 21 (-4) X dX9_doPutIn_21 (by decide) ?_
      cases hF
      exact z_iret 23 X dX9_doPutIn_23 hw rfl rfl
  · replace hF := zpos c3 hF
    refine z_bipush 7 (-2) X dX9_doPutIn_7 (by decide) ?_
    cases hF
    exact z_iret 9 X dX9_doPutIn_9 hw rfl rfl
theorem dX9_putIn_0 : decode cX9_putIn 0 = .ok (.aload_n 0, 1) := by decide +kernel
theorem dX9_putIn_1 : decode cX9_putIn 1 = .ok (.invokevirtual 120, 3) := by decide +kernel
theorem dX9_putIn_4 : decode cX9_putIn 4 = .ok (.aload_n 0, 1) := by decide +kernel
theorem dX9_putIn_5 : decode cX9_putIn 5 = .ok (.aload_n 0, 1) := by decide +kernel
theorem dX9_putIn_6 : decode cX9_putIn 6 = .ok (.iload_n 1, 1) := by decide +kernel
theorem dX9_putIn_7 : decode cX9_putIn 7 = .ok (.invokevirtual 129, 3) := by decide +kernel
theorem dX9_putIn_10 : decode cX9_putIn 10 = .ok (.invokevirtual 126, 3) := by decide +kernel
theorem dX9_putIn_13 : decode cX9_putIn 13 = .ok (.ireturn, 1) := by decide +kernel
set_option maxHeartbeats 4000000 in
set_option maxRecDepth 100000 in
theorem m_X9_putIn (l : Launch) (D : va_G) (cA : ClassId) (a_this a_this_all a_this_kept a_this_history a_this_slots a_this_isSaved a_this_stream a_this_pad : Nat) (v_historyLong : Int32) (v_streamLong : Int32) (v_spot : Int32) (v_padLong : Int32) (v_padSpot : Int32) (v_readNumber : Int32) (g_all : Ar) (g_history : Ar) (g_kept : Ar) (i1 : Int32) (out : Int32 × Int32 × Ar × Ar × Ar) (hF : F_X9_putIn v_historyLong g_all g_history g_kept i1 = some out) : zM l D cA yX9_putIn cX9_putIn 2 (some .int) 4 88 [.ref a_this, .int i1] (zw_38 cA 0 a_this a_this_all a_this_kept a_this_history a_this_slots a_this_isSaved a_this_stream a_this_pad v_historyLong v_streamLong v_spot v_padLong v_padSpot v_readNumber g_all g_history g_kept) (zw_38 cA 0 a_this a_this_all a_this_kept a_this_history a_this_slots a_this_isSaved a_this_stream a_this_pad out.2.1 v_streamLong v_spot v_padLong v_padSpot v_readNumber out.2.2.1 out.2.2.2.1 out.2.2.2.2) (some (.int out.1)) := by
  refine z_body (by decide) (Nat.le_of_ble_eq_true rfl) ?_
  intro p e s m args below meth c ls H locs A X hl hw
  have hl : lv_has ls 2 [(0, .ref a_this), (1, .int i1)] := hl
  unfold F_X9_putIn at hF
  refine z_aload_n 0 X dX9_putIn_0 hl 0 rfl ?_
  obtain ⟨u1, e2, hF⟩ := zbd hF
  refine z_callV 1 zc9 mv_X9_keep ml_9_120 0 [] (zk_115 cA 0 a_this a_this_all a_this_kept a_this_history a_this_slots a_this_isSaved a_this_stream a_this_pad v_historyLong v_streamLong v_spot v_padLong v_padSpot v_readNumber g_all g_history g_kept u1) (m_X9_keep l D cA a_this a_this_all a_this_kept a_this_history a_this_slots a_this_isSaved a_this_stream a_this_pad v_historyLong v_streamLong v_spot v_padLong v_padSpot v_readNumber g_all g_kept u1 e2) X dX9_putIn_1 hw hl rfl rfl rfl (Nat.le_of_ble_eq_true rfl) ⟨Nat.le_of_ble_eq_true rfl, Nat.le_of_ble_eq_true rfl⟩ ⟨Nat.zero_le _, Nat.zero_le _⟩ (fun H locs hw => ?_)
  refine z_aload_n 4 X dX9_putIn_4 hl 0 rfl ?_
  refine z_aload_n 5 X dX9_putIn_5 hl 0 rfl ?_
  refine z_iload_n 6 X dX9_putIn_6 hl 1 rfl ?_
  obtain ⟨u3, e4, hF⟩ := zbd hF
  refine z_callV 7 zc9 mv_X9_doPutIn ml_9_129 0 [.ref a_this] (zk_116 cA 0 a_this a_this_all a_this_kept a_this_history a_this_slots a_this_isSaved a_this_stream a_this_pad v_historyLong v_streamLong v_spot v_padLong v_padSpot v_readNumber g_all g_history u1 u3.2) (m_X9_doPutIn l D cA a_this a_this_all a_this_kept a_this_history a_this_slots a_this_isSaved a_this_stream a_this_pad v_historyLong v_streamLong v_spot v_padLong v_padSpot v_readNumber g_all i1 u3 e4) X dX9_putIn_7 hw hl rfl rfl rfl (Nat.le_of_ble_eq_true rfl) ⟨Nat.le_of_ble_eq_true rfl, Nat.le_of_ble_eq_true rfl⟩ ⟨Nat.zero_le _, Nat.zero_le _⟩ (fun H locs hw => ?_)
  obtain ⟨u5, e6, hF⟩ := zbd hF
  refine z_callV 10 zc9 mv_X9_changed ml_9_126 0 [] (zk_117 cA 0 a_this a_this_all a_this_kept a_this_history a_this_slots a_this_isSaved a_this_stream a_this_pad v_historyLong v_streamLong v_spot v_padLong v_padSpot v_readNumber u3.2 g_history u1 u5.2.1 u5.2.2) (m_X9_changed l D cA a_this a_this_all a_this_kept a_this_history a_this_slots a_this_isSaved a_this_stream a_this_pad v_historyLong v_streamLong v_spot v_padLong v_padSpot v_readNumber g_history u1 u3.1 u5 e6) X dX9_putIn_10 hw hl rfl rfl rfl (Nat.le_of_ble_eq_true rfl) ⟨Nat.le_of_ble_eq_true rfl, Nat.le_of_ble_eq_true rfl⟩ ⟨Nat.zero_le _, Nat.zero_le _⟩ (fun H locs hw => ?_)
  cases hF
  exact z_iret 13 X dX9_putIn_13 hw rfl rfl
theorem dX9_doTakeOut_0 : decode cX9_doTakeOut 0 = .ok (.iload_n 1, 1) := by decide +kernel
theorem dX9_doTakeOut_1 : decode cX9_doTakeOut 1 = .ok (.invokestatic 105, 3) := by decide +kernel
theorem dX9_doTakeOut_4 : decode cX9_doTakeOut 4 = .ok (.ifCond .ne 6, 3) := by decide +kernel
theorem dX9_doTakeOut_7 : decode cX9_doTakeOut 7 = .ok (.bipush (-2), 2) := by decide +kernel
theorem dX9_doTakeOut_9 : decode cX9_doTakeOut 9 = .ok (.ireturn, 1) := by decide +kernel
theorem dX9_doTakeOut_10 : decode cX9_doTakeOut 10 = .ok (.aload_n 0, 1) := by decide +kernel
theorem dX9_doTakeOut_11 : decode cX9_doTakeOut 11 = .ok (.iload_n 1, 1) := by decide +kernel
theorem dX9_doTakeOut_12 : decode cX9_doTakeOut 12 = .ok (.invokevirtual 109, 3) := by decide +kernel
theorem dX9_doTakeOut_15 : decode cX9_doTakeOut 15 = .ok (.ifCond .ne 5, 3) := by decide +kernel
theorem dX9_doTakeOut_18 : decode cX9_doTakeOut 18 = .ok (.iconst (-1), 1) := by decide +kernel
theorem dX9_doTakeOut_19 : decode cX9_doTakeOut 19 = .ok (.ireturn, 1) := by decide +kernel
theorem dX9_doTakeOut_20 : decode cX9_doTakeOut 20 = .ok (.aload_n 0, 1) := by decide +kernel
theorem dX9_doTakeOut_21 : decode cX9_doTakeOut 21 = .ok (.iload_n 1, 1) := by decide +kernel
theorem dX9_doTakeOut_22 : decode cX9_doTakeOut 22 = .ok (.invokevirtual 102, 3) := by decide +kernel
theorem dX9_doTakeOut_25 : decode cX9_doTakeOut 25 = .ok (.istore_n 2, 1) := by decide +kernel
theorem dX9_doTakeOut_26 : decode cX9_doTakeOut 26 = .ok (.aload_n 0, 1) := by decide +kernel
theorem dX9_doTakeOut_27 : decode cX9_doTakeOut 27 = .ok (.getfield 7, 3) := by decide +kernel
theorem dX9_doTakeOut_30 : decode cX9_doTakeOut 30 = .ok (.iconst 2, 1) := by decide +kernel
theorem dX9_doTakeOut_31 : decode cX9_doTakeOut 31 = .ok (.dup2, 1) := by decide +kernel
theorem dX9_doTakeOut_32 : decode cX9_doTakeOut 32 = .ok (.iaload, 1) := by decide +kernel
theorem dX9_doTakeOut_33 : decode cX9_doTakeOut 33 = .ok (.iconst 1, 1) := by decide +kernel
theorem dX9_doTakeOut_34 : decode cX9_doTakeOut 34 = .ok (.isub, 1) := by decide +kernel
theorem dX9_doTakeOut_35 : decode cX9_doTakeOut 35 = .ok (.iastore, 1) := by decide +kernel
theorem dX9_doTakeOut_36 : decode cX9_doTakeOut 36 = .ok (.iload_n 2, 1) := by decide +kernel
theorem dX9_doTakeOut_37 : decode cX9_doTakeOut 37 = .ok (.istore_n 3, 1) := by decide +kernel
theorem dX9_doTakeOut_38 : decode cX9_doTakeOut 38 = .ok (.iload_n 3, 1) := by decide +kernel
theorem dX9_doTakeOut_39 : decode cX9_doTakeOut 39 = .ok (.aload_n 0, 1) := by decide +kernel
theorem dX9_doTakeOut_40 : decode cX9_doTakeOut 40 = .ok (.getfield 7, 3) := by decide +kernel
theorem dX9_doTakeOut_43 : decode cX9_doTakeOut 43 = .ok (.iconst 2, 1) := by decide +kernel
theorem dX9_doTakeOut_44 : decode cX9_doTakeOut 44 = .ok (.iaload, 1) := by decide +kernel
theorem dX9_doTakeOut_45 : decode cX9_doTakeOut 45 = .ok (.if_icmp .ge 27, 3) := by decide +kernel
theorem dX9_doTakeOut_48 : decode cX9_doTakeOut 48 = .ok (.aload_n 0, 1) := by decide +kernel
theorem dX9_doTakeOut_49 : decode cX9_doTakeOut 49 = .ok (.getfield 7, 3) := by decide +kernel
theorem dX9_doTakeOut_52 : decode cX9_doTakeOut 52 = .ok (.iconst 3, 1) := by decide +kernel
theorem dX9_doTakeOut_53 : decode cX9_doTakeOut 53 = .ok (.iload_n 3, 1) := by decide +kernel
theorem dX9_doTakeOut_54 : decode cX9_doTakeOut 54 = .ok (.iadd, 1) := by decide +kernel
theorem dX9_doTakeOut_55 : decode cX9_doTakeOut 55 = .ok (.aload_n 0, 1) := by decide +kernel
theorem dX9_doTakeOut_56 : decode cX9_doTakeOut 56 = .ok (.getfield 7, 3) := by decide +kernel
theorem dX9_doTakeOut_59 : decode cX9_doTakeOut 59 = .ok (.iconst 3, 1) := by decide +kernel
theorem dX9_doTakeOut_60 : decode cX9_doTakeOut 60 = .ok (.iload_n 3, 1) := by decide +kernel
theorem dX9_doTakeOut_61 : decode cX9_doTakeOut 61 = .ok (.iadd, 1) := by decide +kernel
theorem dX9_doTakeOut_62 : decode cX9_doTakeOut 62 = .ok (.iconst 1, 1) := by decide +kernel
theorem dX9_doTakeOut_63 : decode cX9_doTakeOut 63 = .ok (.iadd, 1) := by decide +kernel
theorem dX9_doTakeOut_64 : decode cX9_doTakeOut 64 = .ok (.iaload, 1) := by decide +kernel
theorem dX9_doTakeOut_65 : decode cX9_doTakeOut 65 = .ok (.iastore, 1) := by decide +kernel
theorem dX9_doTakeOut_66 : decode cX9_doTakeOut 66 = .ok (.iinc 3 1, 3) := by decide +kernel
theorem dX9_doTakeOut_69 : decode cX9_doTakeOut 69 = .ok (.goto (-31), 3) := by decide +kernel
theorem dX9_doTakeOut_72 : decode cX9_doTakeOut 72 = .ok (.iload_n 2, 1) := by decide +kernel
theorem dX9_doTakeOut_73 : decode cX9_doTakeOut 73 = .ok (.ireturn, 1) := by decide +kernel
set_option maxHeartbeats 4000000 in
set_option maxRecDepth 100000 in
theorem l_X9_doTakeOut_38 (l : Launch) (D : va_G) (cA : ClassId) (a_this a_this_all a_this_kept a_this_history a_this_slots a_this_isSaved a_this_stream a_this_pad : Nat) (v_historyLong : Int32) (v_streamLong : Int32) (v_spot : Int32) (v_padLong : Int32) (v_padSpot : Int32) (v_readNumber : Int32) (i2 : Int32) (out : Int32 × Ar) {p : Program} {e : Env} {s : State} {m : MethodId} {args : Array Value} {below : List Frame} {meth : Method} {c : Code} {A : Nat → Prop} (X : zX D cA p s m args meth c cX9_doTakeOut 4 RX9 (some .int)) (k : Ar → Option (Int32 × Ar)) (hk : ∀ (g_all : Ar) (H : Heap) (locs : List Loc) (ls : Array Slot), zH D A s (zw_36 cA 0 a_this a_this_all a_this_kept a_this_history a_this_slots a_this_isSaved a_this_stream a_this_pad v_historyLong v_streamLong v_spot v_padLong v_padSpot v_readNumber g_all) H locs → lv_has ls 4 [(2, .int i2)] → k g_all = some out → W p l e (zR 3 65) s m args below meth c H locs 0 0 (MQ below (zQ D (zw_36 cA 0 a_this a_this_all a_this_kept a_this_history a_this_slots a_this_isSaved a_this_stream a_this_pad v_historyLong v_streamLong v_spot v_padLong v_padSpot v_readNumber out.2) (some (.int out.1)) A) args s 0 0 A) (F0 m 72 ls [])) :
    ∀ (fuel : Nat) (g_all : Ar) (i3 : Int32) (H : Heap) (locs : List Loc) (ls : Array Slot), zH D A s (zw_36 cA 0 a_this a_this_all a_this_kept a_this_history a_this_slots a_this_isSaved a_this_stream a_this_pad v_historyLong v_streamLong v_spot v_padLong v_padSpot v_readNumber g_all) H locs → lv_has ls 4 [(0, .ref a_this), (2, .int i2), (3, .int i3)] → F_X9_doTakeOut_L38 k fuel g_all i3 = some out → W p l e (zR 3 65) s m args below meth c H locs 0 0 (MQ below (zQ D (zw_36 cA 0 a_this a_this_all a_this_kept a_this_history a_this_slots a_this_isSaved a_this_stream a_this_pad v_historyLong v_streamLong v_spot v_padLong v_padSpot v_readNumber out.2) (some (.int out.1)) A) args s 0 0 A) (F0 m 38 ls []) := by
  intro fuel
  induction fuel with
  | zero => intro g_all i3 H locs ls hw hl hF; exact nomatch (show (none : Option (Int32 × Ar)) = some out from hF)
  | succ fuel ih =>
    intro g_all i3 H locs ls hw hl hF
    rw [F_X9_doTakeOut_L38] at hF
    refine z_iload_n 38 X dX9_doTakeOut_38 hl 2 rfl ?_
    refine z_aload_n 39 X dX9_doTakeOut_39 hl 0 rfl ?_
    refine z_get 40 zc9 0 0 fl_9_7 X dX9_doTakeOut_40 hw rfl (by decide) rfl ?_
    refine z_iconst 43 2 X dX9_doTakeOut_43 (by decide) ?_
    refine z_iald 44 1 (g_all 2) X dX9_doTakeOut_44 hw rfl (by decide) rfl ?_
    refine z_icmp_ge 45 72 X dX9_doTakeOut_45 (by decide) (fun c9 => ?_) (fun c9 => ?_)
    · replace hF := zpos c9 hF
      exact hk g_all H locs ls hw (lv_sub hl [1] rfl) hF
    · replace hF := zneg c9 hF
      refine z_aload_n 48 X dX9_doTakeOut_48 hl 0 rfl ?_
      refine z_get 49 zc9 0 0 fl_9_7 X dX9_doTakeOut_49 hw rfl (by decide) rfl ?_
      refine z_iconst 52 3 X dX9_doTakeOut_52 (by decide) ?_
      refine z_iload_n 53 X dX9_doTakeOut_53 hl 2 rfl ?_
      refine z_iadd 54 X dX9_doTakeOut_54 ?_
      refine z_aload_n 55 X dX9_doTakeOut_55 hl 0 rfl ?_
      refine z_get 56 zc9 0 0 fl_9_7 X dX9_doTakeOut_56 hw rfl (by decide) rfl ?_
      refine z_iconst 59 3 X dX9_doTakeOut_59 (by decide) ?_
      refine z_iload_n 60 X dX9_doTakeOut_60 hl 2 rfl ?_
      refine z_iadd 61 X dX9_doTakeOut_61 ?_
      refine z_iconst 62 1 X dX9_doTakeOut_62 (by decide) ?_
      refine z_iadd 63 X dX9_doTakeOut_63 ?_
      obtain ⟨gd10, hF⟩ := zgd hF
      refine z_iald 64 1 (g_all ((3 + i3) + 1).toNatClampNeg) X dX9_doTakeOut_64 hw rfl gd10 rfl ?_
      obtain ⟨gd11, hF⟩ := zgd hF
      refine z_iast 65 1 (zw_36 cA 0 a_this a_this_all a_this_kept a_this_history a_this_slots a_this_isSaved a_this_stream a_this_pad v_historyLong v_streamLong v_spot v_padLong v_padSpot v_readNumber (upd g_all ((3 + i3).toNatClampNeg) (g_all ((3 + i3) + 1).toNatClampNeg))) X dX9_doTakeOut_65 hw rfl gd11 rfl (fun H locs hw => ?_)
      refine z_iinc2 66 1 [(3, .int (i3 + 1)), (0, .ref a_this), (2, .int i2)] X dX9_doTakeOut_66 hl 2 rfl (by decide) (by decide) rfl (fun ls hl => ?_)
      refine z_goto 69 38 X dX9_doTakeOut_69 (by decide) ?_
      exact ih (upd g_all ((3 + i3).toNatClampNeg) (g_all ((3 + i3) + 1).toNatClampNeg)) (i3 + 1) H locs ls hw (lv_sub hl [1, 2, 0] rfl) hF
set_option maxHeartbeats 4000000 in
set_option maxRecDepth 100000 in
theorem m_X9_doTakeOut (l : Launch) (D : va_G) (cA : ClassId) (a_this a_this_all a_this_kept a_this_history a_this_slots a_this_isSaved a_this_stream a_this_pad : Nat) (v_historyLong : Int32) (v_streamLong : Int32) (v_spot : Int32) (v_padLong : Int32) (v_padSpot : Int32) (v_readNumber : Int32) (g_all : Ar) (i1 : Int32) (out : Int32 × Ar) (hF : F_X9_doTakeOut g_all i1 = some out) : zM l D cA yX9_doTakeOut cX9_doTakeOut 4 (some .int) 3 65 [.ref a_this, .int i1] (zw_36 cA 0 a_this a_this_all a_this_kept a_this_history a_this_slots a_this_isSaved a_this_stream a_this_pad v_historyLong v_streamLong v_spot v_padLong v_padSpot v_readNumber g_all) (zw_36 cA 0 a_this a_this_all a_this_kept a_this_history a_this_slots a_this_isSaved a_this_stream a_this_pad v_historyLong v_streamLong v_spot v_padLong v_padSpot v_readNumber out.2) (some (.int out.1)) := by
  refine z_body (by decide) (Nat.le_of_ble_eq_true rfl) ?_
  intro p e s m args below meth c ls H locs A X hl hw
  have hl : lv_has ls 4 [(0, .ref a_this), (1, .int i1)] := hl
  unfold F_X9_doTakeOut at hF
  refine z_iload_n 0 X dX9_doTakeOut_0 hl 1 rfl ?_
  obtain ⟨u1, e2, hF⟩ := zbd hF
  refine z_callS 1 mv_X9_isNumber ml_9_105 [] (zk_114 cA 0 a_this a_this_all a_this_kept a_this_history a_this_slots a_this_isSaved a_this_stream a_this_pad v_historyLong v_streamLong v_spot v_padLong v_padSpot v_readNumber g_all) (m_X9_isNumber l D cA i1 u1 e2) X dX9_doTakeOut_1 hw hl rfl rfl (Nat.le_of_ble_eq_true rfl) ⟨Nat.le_of_ble_eq_true rfl, Nat.le_of_ble_eq_true rfl⟩ ⟨Nat.zero_le _, Nat.zero_le _⟩ (fun H locs hw => ?_)
  refine z_if_ne 4 10 X dX9_doTakeOut_4 (by decide) (fun c3 => ?_) (fun c3 => ?_)
  · replace hF := zneg c3 hF
    refine z_aload_n 10 X dX9_doTakeOut_10 hl 0 rfl ?_
    refine z_iload_n 11 X dX9_doTakeOut_11 hl 1 rfl ?_
    obtain ⟨u4, e5, hF⟩ := zbd hF
    refine z_callV 12 zc9 mv_X9_isThere ml_9_109 0 [] (zk_118 cA 0 a_this a_this_all a_this_kept a_this_history a_this_slots a_this_isSaved a_this_stream a_this_pad v_historyLong v_streamLong v_spot v_padLong v_padSpot v_readNumber g_all) (m_X9_isThere l D cA a_this a_this_all a_this_kept a_this_history a_this_slots a_this_isSaved a_this_stream a_this_pad v_historyLong v_streamLong v_spot v_padLong v_padSpot v_readNumber g_all i1 u4 e5) X dX9_doTakeOut_12 hw hl rfl rfl rfl (Nat.le_of_ble_eq_true rfl) ⟨Nat.le_of_ble_eq_true rfl, Nat.le_of_ble_eq_true rfl⟩ ⟨Nat.zero_le _, Nat.zero_le _⟩ (fun H locs hw => ?_)
    refine z_if_ne 15 20 X dX9_doTakeOut_15 (by decide) (fun c6 => ?_) (fun c6 => ?_)
    · replace hF := zneg c6 hF
      refine z_aload_n 20 X dX9_doTakeOut_20 hl 0 rfl ?_
      refine z_iload_n 21 X dX9_doTakeOut_21 hl 1 rfl ?_
      obtain ⟨u7, e8, hF⟩ := zbd hF
      refine z_callV 22 zc9 mv_X9_lowest ml_9_102 0 [] (zk_118 cA 0 a_this a_this_all a_this_kept a_this_history a_this_slots a_this_isSaved a_this_stream a_this_pad v_historyLong v_streamLong v_spot v_padLong v_padSpot v_readNumber g_all) (m_X9_lowest l D cA a_this a_this_all a_this_kept a_this_history a_this_slots a_this_isSaved a_this_stream a_this_pad v_historyLong v_streamLong v_spot v_padLong v_padSpot v_readNumber g_all i1 u7 e8) X dX9_doTakeOut_22 hw hl rfl rfl rfl (Nat.le_of_ble_eq_true rfl) ⟨Nat.le_of_ble_eq_true rfl, Nat.le_of_ble_eq_true rfl⟩ ⟨Nat.zero_le _, Nat.zero_le _⟩ (fun H locs hw => ?_)
      refine z_istore_n 25 [(2, .int u7), (0, .ref a_this), (1, .int i1)] X dX9_doTakeOut_25 hl (by decide) rfl (fun ls hl => ?_)
      refine z_aload_n 26 X dX9_doTakeOut_26 hl 1 rfl ?_
      refine z_get 27 zc9 0 0 fl_9_7 X dX9_doTakeOut_27 hw rfl (by decide) rfl ?_
      refine z_iconst 30 2 X dX9_doTakeOut_30 (by decide) ?_
      refine z_dup2 31 X dX9_doTakeOut_31 rfl rfl ?_
      refine z_iald 32 1 (g_all 2) X dX9_doTakeOut_32 hw rfl (by decide) rfl ?_
      refine z_iconst 33 1 X dX9_doTakeOut_33 (by decide) ?_
      refine z_isub 34 X dX9_doTakeOut_34 ?_
      refine z_iast 35 1 (zw_36 cA 0 a_this a_this_all a_this_kept a_this_history a_this_slots a_this_isSaved a_this_stream a_this_pad v_historyLong v_streamLong v_spot v_padLong v_padSpot v_readNumber (upd g_all 2 ((g_all 2) - 1))) X dX9_doTakeOut_35 hw rfl (by decide) rfl (fun H locs hw => ?_)
      refine z_iload_n 36 X dX9_doTakeOut_36 hl 0 rfl ?_
      refine z_istore_n 37 [(3, .int u7), (2, .int u7), (0, .ref a_this), (1, .int i1)] X dX9_doTakeOut_37 hl (by decide) rfl (fun ls hl => ?_)
      refine l_X9_doTakeOut_38 l D cA a_this a_this_all a_this_kept a_this_history a_this_slots a_this_isSaved a_this_stream a_this_pad v_historyLong v_streamLong v_spot v_padLong v_padSpot v_readNumber u7 out X _ (fun g_all_12 H locs ls hw hl hF => ?_) zFuel (upd g_all 2 ((g_all 2) - 1)) u7 H locs ls hw (lv_sub hl [2, 1, 0] rfl) hF
      refine z_iload_n 72 X dX9_doTakeOut_72 hl 0 rfl ?_
      cases hF
      exact z_iret 73 X dX9_doTakeOut_73 hw rfl rfl
    · replace hF := zpos c6 hF
      refine z_iconst 18 (-1) X dX9_doTakeOut_18 (by decide) ?_
      cases hF
      exact z_iret 19 X dX9_doTakeOut_19 hw rfl rfl
  · replace hF := zpos c3 hF
    refine z_bipush 7 (-2) X dX9_doTakeOut_7 (by decide) ?_
    cases hF
    exact z_iret 9 X dX9_doTakeOut_9 hw rfl rfl
theorem dX9_takeOut_0 : decode cX9_takeOut 0 = .ok (.aload_n 0, 1) := by decide +kernel
theorem dX9_takeOut_1 : decode cX9_takeOut 1 = .ok (.invokevirtual 120, 3) := by decide +kernel
theorem dX9_takeOut_4 : decode cX9_takeOut 4 = .ok (.aload_n 0, 1) := by decide +kernel
theorem dX9_takeOut_5 : decode cX9_takeOut 5 = .ok (.aload_n 0, 1) := by decide +kernel
theorem dX9_takeOut_6 : decode cX9_takeOut 6 = .ok (.iload_n 1, 1) := by decide +kernel
theorem dX9_takeOut_7 : decode cX9_takeOut 7 = .ok (.invokevirtual 132, 3) := by decide +kernel
theorem dX9_takeOut_10 : decode cX9_takeOut 10 = .ok (.invokevirtual 126, 3) := by decide +kernel
theorem dX9_takeOut_13 : decode cX9_takeOut 13 = .ok (.ireturn, 1) := by decide +kernel
set_option maxHeartbeats 4000000 in
set_option maxRecDepth 100000 in
theorem m_X9_takeOut (l : Launch) (D : va_G) (cA : ClassId) (a_this a_this_all a_this_kept a_this_history a_this_slots a_this_isSaved a_this_stream a_this_pad : Nat) (v_historyLong : Int32) (v_streamLong : Int32) (v_spot : Int32) (v_padLong : Int32) (v_padSpot : Int32) (v_readNumber : Int32) (g_all : Ar) (g_history : Ar) (g_kept : Ar) (i1 : Int32) (out : Int32 × Int32 × Ar × Ar × Ar) (hF : F_X9_takeOut v_historyLong g_all g_history g_kept i1 = some out) : zM l D cA yX9_takeOut cX9_takeOut 2 (some .int) 4 88 [.ref a_this, .int i1] (zw_38 cA 0 a_this a_this_all a_this_kept a_this_history a_this_slots a_this_isSaved a_this_stream a_this_pad v_historyLong v_streamLong v_spot v_padLong v_padSpot v_readNumber g_all g_history g_kept) (zw_38 cA 0 a_this a_this_all a_this_kept a_this_history a_this_slots a_this_isSaved a_this_stream a_this_pad out.2.1 v_streamLong v_spot v_padLong v_padSpot v_readNumber out.2.2.1 out.2.2.2.1 out.2.2.2.2) (some (.int out.1)) := by
  refine z_body (by decide) (Nat.le_of_ble_eq_true rfl) ?_
  intro p e s m args below meth c ls H locs A X hl hw
  have hl : lv_has ls 2 [(0, .ref a_this), (1, .int i1)] := hl
  unfold F_X9_takeOut at hF
  refine z_aload_n 0 X dX9_takeOut_0 hl 0 rfl ?_
  obtain ⟨u1, e2, hF⟩ := zbd hF
  refine z_callV 1 zc9 mv_X9_keep ml_9_120 0 [] (zk_115 cA 0 a_this a_this_all a_this_kept a_this_history a_this_slots a_this_isSaved a_this_stream a_this_pad v_historyLong v_streamLong v_spot v_padLong v_padSpot v_readNumber g_all g_history g_kept u1) (m_X9_keep l D cA a_this a_this_all a_this_kept a_this_history a_this_slots a_this_isSaved a_this_stream a_this_pad v_historyLong v_streamLong v_spot v_padLong v_padSpot v_readNumber g_all g_kept u1 e2) X dX9_takeOut_1 hw hl rfl rfl rfl (Nat.le_of_ble_eq_true rfl) ⟨Nat.le_of_ble_eq_true rfl, Nat.le_of_ble_eq_true rfl⟩ ⟨Nat.zero_le _, Nat.zero_le _⟩ (fun H locs hw => ?_)
  refine z_aload_n 4 X dX9_takeOut_4 hl 0 rfl ?_
  refine z_aload_n 5 X dX9_takeOut_5 hl 0 rfl ?_
  refine z_iload_n 6 X dX9_takeOut_6 hl 1 rfl ?_
  obtain ⟨u3, e4, hF⟩ := zbd hF
  refine z_callV 7 zc9 mv_X9_doTakeOut ml_9_132 0 [.ref a_this] (zk_116 cA 0 a_this a_this_all a_this_kept a_this_history a_this_slots a_this_isSaved a_this_stream a_this_pad v_historyLong v_streamLong v_spot v_padLong v_padSpot v_readNumber g_all g_history u1 u3.2) (m_X9_doTakeOut l D cA a_this a_this_all a_this_kept a_this_history a_this_slots a_this_isSaved a_this_stream a_this_pad v_historyLong v_streamLong v_spot v_padLong v_padSpot v_readNumber g_all i1 u3 e4) X dX9_takeOut_7 hw hl rfl rfl rfl (Nat.le_of_ble_eq_true rfl) ⟨Nat.le_of_ble_eq_true rfl, Nat.le_of_ble_eq_true rfl⟩ ⟨Nat.zero_le _, Nat.zero_le _⟩ (fun H locs hw => ?_)
  obtain ⟨u5, e6, hF⟩ := zbd hF
  refine z_callV 10 zc9 mv_X9_changed ml_9_126 0 [] (zk_117 cA 0 a_this a_this_all a_this_kept a_this_history a_this_slots a_this_isSaved a_this_stream a_this_pad v_historyLong v_streamLong v_spot v_padLong v_padSpot v_readNumber u3.2 g_history u1 u5.2.1 u5.2.2) (m_X9_changed l D cA a_this a_this_all a_this_kept a_this_history a_this_slots a_this_isSaved a_this_stream a_this_pad v_historyLong v_streamLong v_spot v_padLong v_padSpot v_readNumber g_history u1 u3.1 u5 e6) X dX9_takeOut_10 hw hl rfl rfl rfl (Nat.le_of_ble_eq_true rfl) ⟨Nat.le_of_ble_eq_true rfl, Nat.le_of_ble_eq_true rfl⟩ ⟨Nat.zero_le _, Nat.zero_le _⟩ (fun H locs hw => ?_)
  cases hF
  exact z_iret 13 X dX9_takeOut_13 hw rfl rfl
theorem dX9_isPlace_0 : decode cX9_isPlace 0 = .ok (.iload_n 1, 1) := by decide +kernel
theorem dX9_isPlace_1 : decode cX9_isPlace 1 = .ok (.i2l, 1) := by decide +kernel
theorem dX9_isPlace_2 : decode cX9_isPlace 2 = .ok (.lconst 0, 1) := by decide +kernel
theorem dX9_isPlace_3 : decode cX9_isPlace 3 = .ok (.aload_n 0, 1) := by decide +kernel
theorem dX9_isPlace_4 : decode cX9_isPlace 4 = .ok (.getfield 7, 3) := by decide +kernel
theorem dX9_isPlace_7 : decode cX9_isPlace 7 = .ok (.iconst 2, 1) := by decide +kernel
theorem dX9_isPlace_8 : decode cX9_isPlace 8 = .ok (.iaload, 1) := by decide +kernel
theorem dX9_isPlace_9 : decode cX9_isPlace 9 = .ok (.i2l, 1) := by decide +kernel
theorem dX9_isPlace_10 : decode cX9_isPlace 10 = .ok (.lconst 1, 1) := by decide +kernel
theorem dX9_isPlace_11 : decode cX9_isPlace 11 = .ok (.lsub, 1) := by decide +kernel
theorem dX9_isPlace_12 : decode cX9_isPlace 12 = .ok (.invokestatic 91, 3) := by decide +kernel
theorem dX9_isPlace_15 : decode cX9_isPlace 15 = .ok (.ireturn, 1) := by decide +kernel
set_option maxHeartbeats 4000000 in
set_option maxRecDepth 100000 in
theorem m_X9_isPlace (l : Launch) (D : va_G) (cA : ClassId) (a_this a_this_all a_this_kept a_this_history a_this_slots a_this_isSaved a_this_stream a_this_pad : Nat) (v_historyLong : Int32) (v_streamLong : Int32) (v_spot : Int32) (v_padLong : Int32) (v_padSpot : Int32) (v_readNumber : Int32) (g_all : Ar) (i1 : Int32) (out : Int32) (hF : F_X9_isPlace g_all i1 = some out) : zM l D cA yX9_isPlace cX9_isPlace 2 (some .boolean) 1 25 [.ref a_this, .int i1] (zw_36 cA 0 a_this a_this_all a_this_kept a_this_history a_this_slots a_this_isSaved a_this_stream a_this_pad v_historyLong v_streamLong v_spot v_padLong v_padSpot v_readNumber g_all) (zw_36 cA 0 a_this a_this_all a_this_kept a_this_history a_this_slots a_this_isSaved a_this_stream a_this_pad v_historyLong v_streamLong v_spot v_padLong v_padSpot v_readNumber g_all) (some (.int out)) := by
  refine z_body (by decide) (Nat.le_of_ble_eq_true rfl) ?_
  intro p e s m args below meth c ls H locs A X hl hw
  have hl : lv_has ls 2 [(0, .ref a_this), (1, .int i1)] := hl
  unfold F_X9_isPlace at hF
  refine z_iload_n 0 X dX9_isPlace_0 hl 1 rfl ?_
  refine z_i2l 1 X dX9_isPlace_1 ?_
  refine z_lconst 2 0 X dX9_isPlace_2 (by decide) ?_
  refine z_aload_n 3 X dX9_isPlace_3 hl 0 rfl ?_
  refine z_get 4 zc9 0 0 fl_9_7 X dX9_isPlace_4 hw rfl (by decide) rfl ?_
  refine z_iconst 7 2 X dX9_isPlace_7 (by decide) ?_
  refine z_iald 8 1 (g_all 2) X dX9_isPlace_8 hw rfl (by decide) rfl ?_
  refine z_i2l 9 X dX9_isPlace_9 ?_
  refine z_lconst 10 1 X dX9_isPlace_10 (by decide) ?_
  refine z_lsub 11 X dX9_isPlace_11 ?_
  obtain ⟨u1, e2, hF⟩ := zbd hF
  refine z_callS 12 mv_X9_in ml_9_91 [] (zk_114 cA 0 a_this a_this_all a_this_kept a_this_history a_this_slots a_this_isSaved a_this_stream a_this_pad v_historyLong v_streamLong v_spot v_padLong v_padSpot v_readNumber g_all) (m_X9_in l D cA (i1.toInt64) 0 (((g_all 2).toInt64) - 1) u1 e2) X dX9_isPlace_12 hw hl rfl rfl (Nat.le_of_ble_eq_true rfl) ⟨Nat.le_of_ble_eq_true rfl, Nat.le_of_ble_eq_true rfl⟩ ⟨Nat.zero_le _, Nat.zero_le _⟩ (fun H locs hw => ?_)
  obtain ⟨gz, hF⟩ := zgd hF
  cases hF
  exact z_zret 15 X dX9_isPlace_15 hw gz rfl rfl
theorem dX9_blocks_0 : decode cX9_blocks 0 = .ok (.aload_n 0, 1) := by decide +kernel
theorem dX9_blocks_1 : decode cX9_blocks 1 = .ok (.getfield 7, 3) := by decide +kernel
theorem dX9_blocks_4 : decode cX9_blocks 4 = .ok (.iconst 2, 1) := by decide +kernel
theorem dX9_blocks_5 : decode cX9_blocks 5 = .ok (.iaload, 1) := by decide +kernel
theorem dX9_blocks_6 : decode cX9_blocks 6 = .ok (.aload_n 0, 1) := by decide +kernel
theorem dX9_blocks_7 : decode cX9_blocks 7 = .ok (.getfield 7, 3) := by decide +kernel
theorem dX9_blocks_10 : decode cX9_blocks 10 = .ok (.iconst 0, 1) := by decide +kernel
theorem dX9_blocks_11 : decode cX9_blocks 11 = .ok (.iaload, 1) := by decide +kernel
theorem dX9_blocks_12 : decode cX9_blocks 12 = .ok (.iadd, 1) := by decide +kernel
theorem dX9_blocks_13 : decode cX9_blocks 13 = .ok (.iconst 1, 1) := by decide +kernel
theorem dX9_blocks_14 : decode cX9_blocks 14 = .ok (.isub, 1) := by decide +kernel
theorem dX9_blocks_15 : decode cX9_blocks 15 = .ok (.aload_n 0, 1) := by decide +kernel
theorem dX9_blocks_16 : decode cX9_blocks 16 = .ok (.getfield 7, 3) := by decide +kernel
theorem dX9_blocks_19 : decode cX9_blocks 19 = .ok (.iconst 0, 1) := by decide +kernel
theorem dX9_blocks_20 : decode cX9_blocks 20 = .ok (.iaload, 1) := by decide +kernel
theorem dX9_blocks_21 : decode cX9_blocks 21 = .ok (.idiv, 1) := by decide +kernel
theorem dX9_blocks_22 : decode cX9_blocks 22 = .ok (.ireturn, 1) := by decide +kernel
set_option maxHeartbeats 4000000 in
set_option maxRecDepth 100000 in
theorem m_X9_blocks (l : Launch) (D : va_G) (cA : ClassId) (a_this a_this_all a_this_kept a_this_history a_this_slots a_this_isSaved a_this_stream a_this_pad : Nat) (v_historyLong : Int32) (v_streamLong : Int32) (v_spot : Int32) (v_padLong : Int32) (v_padSpot : Int32) (v_readNumber : Int32) (g_all : Ar) (out : Int32) (hF : F_X9_blocks g_all = some out) : zM l D cA yX9_blocks cX9_blocks 1 (some .int) 0 0 [.ref a_this] (zw_36 cA 0 a_this a_this_all a_this_kept a_this_history a_this_slots a_this_isSaved a_this_stream a_this_pad v_historyLong v_streamLong v_spot v_padLong v_padSpot v_readNumber g_all) (zw_36 cA 0 a_this a_this_all a_this_kept a_this_history a_this_slots a_this_isSaved a_this_stream a_this_pad v_historyLong v_streamLong v_spot v_padLong v_padSpot v_readNumber g_all) (some (.int out)) := by
  refine z_body (by decide) (Nat.le_of_ble_eq_true rfl) ?_
  intro p e s m args below meth c ls H locs A X hl hw
  have hl : lv_has ls 1 [(0, .ref a_this)] := hl
  unfold F_X9_blocks at hF
  refine z_aload_n 0 X dX9_blocks_0 hl 0 rfl ?_
  refine z_get 1 zc9 0 0 fl_9_7 X dX9_blocks_1 hw rfl (by decide) rfl ?_
  refine z_iconst 4 2 X dX9_blocks_4 (by decide) ?_
  refine z_iald 5 1 (g_all 2) X dX9_blocks_5 hw rfl (by decide) rfl ?_
  refine z_aload_n 6 X dX9_blocks_6 hl 0 rfl ?_
  refine z_get 7 zc9 0 0 fl_9_7 X dX9_blocks_7 hw rfl (by decide) rfl ?_
  refine z_iconst 10 0 X dX9_blocks_10 (by decide) ?_
  refine z_iald 11 1 (g_all 0) X dX9_blocks_11 hw rfl (by decide) rfl ?_
  refine z_iadd 12 X dX9_blocks_12 ?_
  refine z_iconst 13 1 X dX9_blocks_13 (by decide) ?_
  refine z_isub 14 X dX9_blocks_14 ?_
  refine z_aload_n 15 X dX9_blocks_15 hl 0 rfl ?_
  refine z_get 16 zc9 0 0 fl_9_7 X dX9_blocks_16 hw rfl (by decide) rfl ?_
  refine z_iconst 19 0 X dX9_blocks_19 (by decide) ?_
  refine z_iald 20 1 (g_all 0) X dX9_blocks_20 hw rfl (by decide) rfl ?_
  obtain ⟨gd1, hF⟩ := zgd hF
  refine z_idiv 21 X dX9_blocks_21 gd1 ?_
  cases hF
  exact z_iret 22 X dX9_blocks_22 hw rfl rfl
theorem dX9_first_0 : decode cX9_first 0 = .ok (.aload_n 0, 1) := by decide +kernel
theorem dX9_first_1 : decode cX9_first 1 = .ok (.getfield 7, 3) := by decide +kernel
theorem dX9_first_4 : decode cX9_first 4 = .ok (.iconst 0, 1) := by decide +kernel
theorem dX9_first_5 : decode cX9_first 5 = .ok (.iaload, 1) := by decide +kernel
theorem dX9_first_6 : decode cX9_first 6 = .ok (.iload_n 1, 1) := by decide +kernel
theorem dX9_first_7 : decode cX9_first 7 = .ok (.imul, 1) := by decide +kernel
theorem dX9_first_8 : decode cX9_first 8 = .ok (.ireturn, 1) := by decide +kernel
set_option maxHeartbeats 4000000 in
set_option maxRecDepth 100000 in
theorem m_X9_first (l : Launch) (D : va_G) (cA : ClassId) (a_this a_this_all a_this_kept a_this_history a_this_slots a_this_isSaved a_this_stream a_this_pad : Nat) (v_historyLong : Int32) (v_streamLong : Int32) (v_spot : Int32) (v_padLong : Int32) (v_padSpot : Int32) (v_readNumber : Int32) (g_all : Ar) (i1 : Int32) (out : Int32) (hF : F_X9_first g_all i1 = some out) : zM l D cA yX9_first cX9_first 2 (some .int) 0 0 [.ref a_this, .int i1] (zw_36 cA 0 a_this a_this_all a_this_kept a_this_history a_this_slots a_this_isSaved a_this_stream a_this_pad v_historyLong v_streamLong v_spot v_padLong v_padSpot v_readNumber g_all) (zw_36 cA 0 a_this a_this_all a_this_kept a_this_history a_this_slots a_this_isSaved a_this_stream a_this_pad v_historyLong v_streamLong v_spot v_padLong v_padSpot v_readNumber g_all) (some (.int out)) := by
  refine z_body (by decide) (Nat.le_of_ble_eq_true rfl) ?_
  intro p e s m args below meth c ls H locs A X hl hw
  have hl : lv_has ls 2 [(0, .ref a_this), (1, .int i1)] := hl
  unfold F_X9_first at hF
  refine z_aload_n 0 X dX9_first_0 hl 0 rfl ?_
  refine z_get 1 zc9 0 0 fl_9_7 X dX9_first_1 hw rfl (by decide) rfl ?_
  refine z_iconst 4 0 X dX9_first_4 (by decide) ?_
  refine z_iald 5 1 (g_all 0) X dX9_first_5 hw rfl (by decide) rfl ?_
  refine z_iload_n 6 X dX9_first_6 hl 1 rfl ?_
  refine z_imul 7 X dX9_first_7 ?_
  cases hF
  exact z_iret 8 X dX9_first_8 hw rfl rfl
theorem dX9_end_0 : decode cX9_end 0 = .ok (.aload_n 0, 1) := by decide +kernel
theorem dX9_end_1 : decode cX9_end 1 = .ok (.getfield 7, 3) := by decide +kernel
theorem dX9_end_4 : decode cX9_end 4 = .ok (.iconst 0, 1) := by decide +kernel
theorem dX9_end_5 : decode cX9_end 5 = .ok (.iaload, 1) := by decide +kernel
theorem dX9_end_6 : decode cX9_end 6 = .ok (.iload_n 1, 1) := by decide +kernel
theorem dX9_end_7 : decode cX9_end 7 = .ok (.iconst 1, 1) := by decide +kernel
theorem dX9_end_8 : decode cX9_end 8 = .ok (.iadd, 1) := by decide +kernel
theorem dX9_end_9 : decode cX9_end 9 = .ok (.imul, 1) := by decide +kernel
theorem dX9_end_10 : decode cX9_end 10 = .ok (.istore_n 2, 1) := by decide +kernel
theorem dX9_end_11 : decode cX9_end 11 = .ok (.iload_n 2, 1) := by decide +kernel
theorem dX9_end_12 : decode cX9_end 12 = .ok (.aload_n 0, 1) := by decide +kernel
theorem dX9_end_13 : decode cX9_end 13 = .ok (.getfield 7, 3) := by decide +kernel
theorem dX9_end_16 : decode cX9_end 16 = .ok (.iconst 2, 1) := by decide +kernel
theorem dX9_end_17 : decode cX9_end 17 = .ok (.iaload, 1) := by decide +kernel
theorem dX9_end_18 : decode cX9_end 18 = .ok (.if_icmp .ge 7, 3) := by decide +kernel
theorem dX9_end_21 : decode cX9_end 21 = .ok (.iload_n 2, 1) := by decide +kernel
theorem dX9_end_22 : decode cX9_end 22 = .ok (.goto 9, 3) := by decide +kernel
theorem dX9_end_25 : decode cX9_end 25 = .ok (.aload_n 0, 1) := by decide +kernel
theorem dX9_end_26 : decode cX9_end 26 = .ok (.getfield 7, 3) := by decide +kernel
theorem dX9_end_29 : decode cX9_end 29 = .ok (.iconst 2, 1) := by decide +kernel
theorem dX9_end_30 : decode cX9_end 30 = .ok (.iaload, 1) := by decide +kernel
theorem dX9_end_31 : decode cX9_end 31 = .ok (.ireturn, 1) := by decide +kernel
set_option maxHeartbeats 4000000 in
set_option maxRecDepth 100000 in
theorem m_X9_end (l : Launch) (D : va_G) (cA : ClassId) (a_this a_this_all a_this_kept a_this_history a_this_slots a_this_isSaved a_this_stream a_this_pad : Nat) (v_historyLong : Int32) (v_streamLong : Int32) (v_spot : Int32) (v_padLong : Int32) (v_padSpot : Int32) (v_readNumber : Int32) (g_all : Ar) (i1 : Int32) (out : Int32) (hF : F_X9_end g_all i1 = some out) : zM l D cA yX9_end cX9_end 3 (some .int) 0 0 [.ref a_this, .int i1] (zw_36 cA 0 a_this a_this_all a_this_kept a_this_history a_this_slots a_this_isSaved a_this_stream a_this_pad v_historyLong v_streamLong v_spot v_padLong v_padSpot v_readNumber g_all) (zw_36 cA 0 a_this a_this_all a_this_kept a_this_history a_this_slots a_this_isSaved a_this_stream a_this_pad v_historyLong v_streamLong v_spot v_padLong v_padSpot v_readNumber g_all) (some (.int out)) := by
  refine z_body (by decide) (Nat.le_of_ble_eq_true rfl) ?_
  intro p e s m args below meth c ls H locs A X hl hw
  have hl : lv_has ls 3 [(0, .ref a_this), (1, .int i1)] := hl
  unfold F_X9_end at hF
  refine z_aload_n 0 X dX9_end_0 hl 0 rfl ?_
  refine z_get 1 zc9 0 0 fl_9_7 X dX9_end_1 hw rfl (by decide) rfl ?_
  refine z_iconst 4 0 X dX9_end_4 (by decide) ?_
  refine z_iald 5 1 (g_all 0) X dX9_end_5 hw rfl (by decide) rfl ?_
  refine z_iload_n 6 X dX9_end_6 hl 1 rfl ?_
  refine z_iconst 7 1 X dX9_end_7 (by decide) ?_
  refine z_iadd 8 X dX9_end_8 ?_
  refine z_imul 9 X dX9_end_9 ?_
  refine z_istore_n 10 [(2, .int ((g_all 0) * (i1 + 1))), (0, .ref a_this), (1, .int i1)] X dX9_end_10 hl (by decide) rfl (fun ls hl => ?_)
  refine z_iload_n 11 X dX9_end_11 hl 0 rfl ?_
  refine z_aload_n 12 X dX9_end_12 hl 1 rfl ?_
  refine z_get 13 zc9 0 0 fl_9_7 X dX9_end_13 hw rfl (by decide) rfl ?_
  refine z_iconst 16 2 X dX9_end_16 (by decide) ?_
  refine z_iald 17 1 (g_all 2) X dX9_end_17 hw rfl (by decide) rfl ?_
  refine z_icmp_ge 18 25 X dX9_end_18 (by decide) (fun c1 => ?_) (fun c1 => ?_)
  · replace hF := zpos c1 hF
    refine z_aload_n 25 X dX9_end_25 hl 1 rfl ?_
    refine z_get 26 zc9 0 0 fl_9_7 X dX9_end_26 hw rfl (by decide) rfl ?_
    refine z_iconst 29 2 X dX9_end_29 (by decide) ?_
    refine z_iald 30 1 (g_all 2) X dX9_end_30 hw rfl (by decide) rfl ?_
    cases hF
    exact z_iret 31 X dX9_end_31 hw rfl rfl
  · replace hF := zneg c1 hF
    refine z_iload_n 21 X dX9_end_21 hl 0 rfl ?_
    refine z_goto 22 31 X dX9_end_22 (by decide) ?_
    cases hF
    exact z_iret 31 X dX9_end_31 hw rfl rfl
theorem dX9_gapOf_0 : decode cX9_gapOf 0 = .ok (.aload_n 0, 1) := by decide +kernel
theorem dX9_gapOf_1 : decode cX9_gapOf 1 = .ok (.iload_n 1, 1) := by decide +kernel
theorem dX9_gapOf_2 : decode cX9_gapOf 2 = .ok (.invokevirtual 35, 3) := by decide +kernel
theorem dX9_gapOf_5 : decode cX9_gapOf 5 = .ok (.aload_n 0, 1) := by decide +kernel
theorem dX9_gapOf_6 : decode cX9_gapOf 6 = .ok (.iload_n 1, 1) := by decide +kernel
theorem dX9_gapOf_7 : decode cX9_gapOf 7 = .ok (.iconst 1, 1) := by decide +kernel
theorem dX9_gapOf_8 : decode cX9_gapOf 8 = .ok (.isub, 1) := by decide +kernel
theorem dX9_gapOf_9 : decode cX9_gapOf 9 = .ok (.invokevirtual 35, 3) := by decide +kernel
theorem dX9_gapOf_12 : decode cX9_gapOf 12 = .ok (.isub, 1) := by decide +kernel
theorem dX9_gapOf_13 : decode cX9_gapOf 13 = .ok (.iconst 1, 1) := by decide +kernel
theorem dX9_gapOf_14 : decode cX9_gapOf 14 = .ok (.isub, 1) := by decide +kernel
theorem dX9_gapOf_15 : decode cX9_gapOf 15 = .ok (.ireturn, 1) := by decide +kernel
set_option maxHeartbeats 4000000 in
set_option maxRecDepth 100000 in
theorem m_X9_gapOf (l : Launch) (D : va_G) (cA : ClassId) (a_this a_this_all a_this_kept a_this_history a_this_slots a_this_isSaved a_this_stream a_this_pad : Nat) (v_historyLong : Int32) (v_streamLong : Int32) (v_spot : Int32) (v_padLong : Int32) (v_padSpot : Int32) (v_readNumber : Int32) (g_all : Ar) (i1 : Int32) (out : Int32) (hF : F_X9_gapOf g_all i1 = some out) : zM l D cA yX9_gapOf cX9_gapOf 2 (some .int) 1 21 [.ref a_this, .int i1] (zw_36 cA 0 a_this a_this_all a_this_kept a_this_history a_this_slots a_this_isSaved a_this_stream a_this_pad v_historyLong v_streamLong v_spot v_padLong v_padSpot v_readNumber g_all) (zw_36 cA 0 a_this a_this_all a_this_kept a_this_history a_this_slots a_this_isSaved a_this_stream a_this_pad v_historyLong v_streamLong v_spot v_padLong v_padSpot v_readNumber g_all) (some (.int out)) := by
  refine z_body (by decide) (Nat.le_of_ble_eq_true rfl) ?_
  intro p e s m args below meth c ls H locs A X hl hw
  have hl : lv_has ls 2 [(0, .ref a_this), (1, .int i1)] := hl
  unfold F_X9_gapOf at hF
  refine z_aload_n 0 X dX9_gapOf_0 hl 0 rfl ?_
  refine z_iload_n 1 X dX9_gapOf_1 hl 1 rfl ?_
  obtain ⟨u1, e2, hF⟩ := zbd hF
  refine z_callV 2 zc9 mv_X9_number ml_9_35 0 [] (zk_118 cA 0 a_this a_this_all a_this_kept a_this_history a_this_slots a_this_isSaved a_this_stream a_this_pad v_historyLong v_streamLong v_spot v_padLong v_padSpot v_readNumber g_all) (m_X9_number l D cA a_this a_this_all a_this_kept a_this_history a_this_slots a_this_isSaved a_this_stream a_this_pad v_historyLong v_streamLong v_spot v_padLong v_padSpot v_readNumber g_all i1 u1 e2) X dX9_gapOf_2 hw hl rfl rfl rfl (Nat.le_of_ble_eq_true rfl) ⟨Nat.le_of_ble_eq_true rfl, Nat.le_of_ble_eq_true rfl⟩ ⟨Nat.zero_le _, Nat.zero_le _⟩ (fun H locs hw => ?_)
  refine z_aload_n 5 X dX9_gapOf_5 hl 0 rfl ?_
  refine z_iload_n 6 X dX9_gapOf_6 hl 1 rfl ?_
  refine z_iconst 7 1 X dX9_gapOf_7 (by decide) ?_
  refine z_isub 8 X dX9_gapOf_8 ?_
  obtain ⟨u3, e4, hF⟩ := zbd hF
  refine z_callV 9 zc9 mv_X9_number ml_9_35 0 [.int u1] (zk_118 cA 0 a_this a_this_all a_this_kept a_this_history a_this_slots a_this_isSaved a_this_stream a_this_pad v_historyLong v_streamLong v_spot v_padLong v_padSpot v_readNumber g_all) (m_X9_number l D cA a_this a_this_all a_this_kept a_this_history a_this_slots a_this_isSaved a_this_stream a_this_pad v_historyLong v_streamLong v_spot v_padLong v_padSpot v_readNumber g_all (i1 - 1) u3 e4) X dX9_gapOf_9 hw hl rfl rfl rfl (Nat.le_of_ble_eq_true rfl) ⟨Nat.le_of_ble_eq_true rfl, Nat.le_of_ble_eq_true rfl⟩ ⟨Nat.zero_le _, Nat.zero_le _⟩ (fun H locs hw => ?_)
  refine z_isub 12 X dX9_gapOf_12 ?_
  refine z_iconst 13 1 X dX9_gapOf_13 (by decide) ?_
  refine z_isub 14 X dX9_gapOf_14 ?_
  cases hF
  exact z_iret 15 X dX9_gapOf_15 hw rfl rfl
theorem dX9_isEscape_0 : decode cX9_isEscape 0 = .ok (.iload_n 1, 1) := by decide +kernel
theorem dX9_isEscape_1 : decode cX9_isEscape 1 = .ok (.iload_n 2, 1) := by decide +kernel
theorem dX9_isEscape_2 : decode cX9_isEscape 2 = .ok (.ishr, 1) := by decide +kernel
theorem dX9_isEscape_3 : decode cX9_isEscape 3 = .ok (.aload_n 0, 1) := by decide +kernel
theorem dX9_isEscape_4 : decode cX9_isEscape 4 = .ok (.getfield 7, 3) := by decide +kernel
theorem dX9_isEscape_7 : decode cX9_isEscape 7 = .ok (.iconst 1, 1) := by decide +kernel
theorem dX9_isEscape_8 : decode cX9_isEscape 8 = .ok (.iaload, 1) := by decide +kernel
theorem dX9_isEscape_9 : decode cX9_isEscape 9 = .ok (.if_icmp .lt 7, 3) := by decide +kernel
theorem dX9_isEscape_12 : decode cX9_isEscape 12 = .ok (.iconst 1, 1) := by decide +kernel
theorem dX9_isEscape_13 : decode cX9_isEscape 13 = .ok (.goto 4, 3) := by decide +kernel
theorem dX9_isEscape_16 : decode cX9_isEscape 16 = .ok (.iconst 0, 1) := by decide +kernel
theorem dX9_isEscape_17 : decode cX9_isEscape 17 = .ok (.ireturn, 1) := by decide +kernel
set_option maxHeartbeats 4000000 in
set_option maxRecDepth 100000 in
theorem m_X9_isEscape (l : Launch) (D : va_G) (cA : ClassId) (a_this a_this_all a_this_kept a_this_history a_this_slots a_this_isSaved a_this_stream a_this_pad : Nat) (v_historyLong : Int32) (v_streamLong : Int32) (v_spot : Int32) (v_padLong : Int32) (v_padSpot : Int32) (v_readNumber : Int32) (g_all : Ar) (i1 : Int32) (i2 : Int32) (out : Int32) (hF : F_X9_isEscape g_all i1 i2 = some out) : zM l D cA yX9_isEscape cX9_isEscape 3 (some .boolean) 0 0 [.ref a_this, .int i1, .int i2] (zw_36 cA 0 a_this a_this_all a_this_kept a_this_history a_this_slots a_this_isSaved a_this_stream a_this_pad v_historyLong v_streamLong v_spot v_padLong v_padSpot v_readNumber g_all) (zw_36 cA 0 a_this a_this_all a_this_kept a_this_history a_this_slots a_this_isSaved a_this_stream a_this_pad v_historyLong v_streamLong v_spot v_padLong v_padSpot v_readNumber g_all) (some (.int out)) := by
  refine z_body (by decide) (Nat.le_of_ble_eq_true rfl) ?_
  intro p e s m args below meth c ls H locs A X hl hw
  have hl : lv_has ls 3 [(0, .ref a_this), (1, .int i1), (2, .int i2)] := hl
  unfold F_X9_isEscape at hF
  refine z_iload_n 0 X dX9_isEscape_0 hl 1 rfl ?_
  refine z_iload_n 1 X dX9_isEscape_1 hl 2 rfl ?_
  refine z_ishr 2 X dX9_isEscape_2 ?_
  refine z_aload_n 3 X dX9_isEscape_3 hl 0 rfl ?_
  refine z_get 4 zc9 0 0 fl_9_7 X dX9_isEscape_4 hw rfl (by decide) rfl ?_
  refine z_iconst 7 1 X dX9_isEscape_7 (by decide) ?_
  refine z_iald 8 1 (g_all 1) X dX9_isEscape_8 hw rfl (by decide) rfl ?_
  refine z_icmp_lt 9 16 X dX9_isEscape_9 (by decide) (fun c1 => ?_) (fun c1 => ?_)
  · replace hF := zpos c1 hF
    refine z_iconst 16 0 X dX9_isEscape_16 (by decide) ?_
    cases hF
    exact z_zret 17 X dX9_isEscape_17 hw (by decide) rfl rfl
  · replace hF := zneg c1 hF
    refine z_iconst 12 1 X dX9_isEscape_12 (by decide) ?_
    refine z_goto 13 17 X dX9_isEscape_13 (by decide) ?_
    cases hF
    exact z_zret 17 X dX9_isEscape_17 hw (by decide) rfl rfl
theorem dX9_codeBits_0 : decode cX9_codeBits 0 = .ok (.aload_n 0, 1) := by decide +kernel
theorem dX9_codeBits_1 : decode cX9_codeBits 1 = .ok (.iload_n 1, 1) := by decide +kernel
theorem dX9_codeBits_2 : decode cX9_codeBits 2 = .ok (.iload_n 2, 1) := by decide +kernel
theorem dX9_codeBits_3 : decode cX9_codeBits 3 = .ok (.invokevirtual 39, 3) := by decide +kernel
theorem dX9_codeBits_6 : decode cX9_codeBits 6 = .ok (.ifCond .eq 15, 3) := by decide +kernel
theorem dX9_codeBits_9 : decode cX9_codeBits 9 = .ok (.aload_n 0, 1) := by decide +kernel
theorem dX9_codeBits_10 : decode cX9_codeBits 10 = .ok (.getfield 7, 3) := by decide +kernel
theorem dX9_codeBits_13 : decode cX9_codeBits 13 = .ok (.iconst 1, 1) := by decide +kernel
theorem dX9_codeBits_14 : decode cX9_codeBits 14 = .ok (.iaload, 1) := by decide +kernel
theorem dX9_codeBits_15 : decode cX9_codeBits 15 = .ok (.bipush 16, 2) := by decide +kernel
theorem dX9_codeBits_17 : decode cX9_codeBits 17 = .ok (.iadd, 1) := by decide +kernel
theorem dX9_codeBits_18 : decode cX9_codeBits 18 = .ok (.goto 10, 3) := by decide +kernel
theorem dX9_codeBits_21 : decode cX9_codeBits 21 = .ok (.iload_n 1, 1) := by decide +kernel
theorem dX9_codeBits_22 : decode cX9_codeBits 22 = .ok (.iload_n 2, 1) := by decide +kernel
theorem dX9_codeBits_23 : decode cX9_codeBits 23 = .ok (.ishr, 1) := by decide +kernel
theorem dX9_codeBits_24 : decode cX9_codeBits 24 = .ok (.iconst 1, 1) := by decide +kernel
theorem dX9_codeBits_25 : decode cX9_codeBits 25 = .ok (.iadd, 1) := by decide +kernel
theorem dX9_codeBits_26 : decode cX9_codeBits 26 = .ok (.iload_n 2, 1) := by decide +kernel
theorem dX9_codeBits_27 : decode cX9_codeBits 27 = .ok (.iadd, 1) := by decide +kernel
theorem dX9_codeBits_28 : decode cX9_codeBits 28 = .ok (.ireturn, 1) := by decide +kernel
set_option maxHeartbeats 4000000 in
set_option maxRecDepth 100000 in
theorem m_X9_codeBits (l : Launch) (D : va_G) (cA : ClassId) (a_this a_this_all a_this_kept a_this_history a_this_slots a_this_isSaved a_this_stream a_this_pad : Nat) (v_historyLong : Int32) (v_streamLong : Int32) (v_spot : Int32) (v_padLong : Int32) (v_padSpot : Int32) (v_readNumber : Int32) (g_all : Ar) (i1 : Int32) (i2 : Int32) (out : Int32) (hF : F_X9_codeBits g_all i1 i2 = some out) : zM l D cA yX9_codeBits cX9_codeBits 3 (some .int) 1 22 [.ref a_this, .int i1, .int i2] (zw_36 cA 0 a_this a_this_all a_this_kept a_this_history a_this_slots a_this_isSaved a_this_stream a_this_pad v_historyLong v_streamLong v_spot v_padLong v_padSpot v_readNumber g_all) (zw_36 cA 0 a_this a_this_all a_this_kept a_this_history a_this_slots a_this_isSaved a_this_stream a_this_pad v_historyLong v_streamLong v_spot v_padLong v_padSpot v_readNumber g_all) (some (.int out)) := by
  refine z_body (by decide) (Nat.le_of_ble_eq_true rfl) ?_
  intro p e s m args below meth c ls H locs A X hl hw
  have hl : lv_has ls 3 [(0, .ref a_this), (1, .int i1), (2, .int i2)] := hl
  unfold F_X9_codeBits at hF
  refine z_aload_n 0 X dX9_codeBits_0 hl 0 rfl ?_
  refine z_iload_n 1 X dX9_codeBits_1 hl 1 rfl ?_
  refine z_iload_n 2 X dX9_codeBits_2 hl 2 rfl ?_
  obtain ⟨u1, e2, hF⟩ := zbd hF
  refine z_callV 3 zc9 mv_X9_isEscape ml_9_39 0 [] (zk_118 cA 0 a_this a_this_all a_this_kept a_this_history a_this_slots a_this_isSaved a_this_stream a_this_pad v_historyLong v_streamLong v_spot v_padLong v_padSpot v_readNumber g_all) (m_X9_isEscape l D cA a_this a_this_all a_this_kept a_this_history a_this_slots a_this_isSaved a_this_stream a_this_pad v_historyLong v_streamLong v_spot v_padLong v_padSpot v_readNumber g_all i1 i2 u1 e2) X dX9_codeBits_3 hw hl rfl rfl rfl (Nat.le_of_ble_eq_true rfl) ⟨Nat.le_of_ble_eq_true rfl, Nat.le_of_ble_eq_true rfl⟩ ⟨Nat.zero_le _, Nat.zero_le _⟩ (fun H locs hw => ?_)
  refine z_if_eq 6 21 X dX9_codeBits_6 (by decide) (fun c3 => ?_) (fun c3 => ?_)
  · replace hF := zpos c3 hF
    refine z_iload_n 21 X dX9_codeBits_21 hl 1 rfl ?_
    refine z_iload_n 22 X dX9_codeBits_22 hl 2 rfl ?_
    refine z_ishr 23 X dX9_codeBits_23 ?_
    refine z_iconst 24 1 X dX9_codeBits_24 (by decide) ?_
    refine z_iadd 25 X dX9_codeBits_25 ?_
    refine z_iload_n 26 X dX9_codeBits_26 hl 2 rfl ?_
    refine z_iadd 27 X dX9_codeBits_27 ?_
    cases hF
    exact z_iret 28 X dX9_codeBits_28 hw rfl rfl
  · replace hF := zneg c3 hF
    refine z_aload_n 9 X dX9_codeBits_9 hl 0 rfl ?_
    refine z_get 10 zc9 0 0 fl_9_7 X dX9_codeBits_10 hw rfl (by decide) rfl ?_
    refine z_iconst 13 1 X dX9_codeBits_13 (by decide) ?_
    refine z_iald 14 1 (g_all 1) X dX9_codeBits_14 hw rfl (by decide) rfl ?_
    refine z_bipush 15 16 X dX9_codeBits_15 (by decide) ?_
    refine z_iadd 17 X dX9_codeBits_17 ?_
    refine z_goto 18 28 X dX9_codeBits_18 (by decide) ?_
    cases hF
    exact z_iret 28 X dX9_codeBits_28 hw rfl rfl
