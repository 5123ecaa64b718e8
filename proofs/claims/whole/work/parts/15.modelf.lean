theorem dX9_save_0 : decode cX9_save 0 = .ok (.iload_n 1, 1) := by decide +kernel
theorem dX9_save_1 : decode cX9_save 1 = .ok (.i2l, 1) := by decide +kernel
theorem dX9_save_2 : decode cX9_save 2 = .ok (.lconst 0, 1) := by decide +kernel
theorem dX9_save_3 : decode cX9_save 3 = .ok (.lconst 1, 1) := by decide +kernel
theorem dX9_save_4 : decode cX9_save 4 = .ok (.invokestatic 91, 3) := by decide +kernel
theorem dX9_save_7 : decode cX9_save 7 = .ok (.ifCond .ne 6, 3) := by decide +kernel
theorem dX9_save_10 : decode cX9_save 10 = .ok (.bipush (-2), 2) := by decide +kernel
theorem dX9_save_12 : decode cX9_save 12 = .ok (.ireturn, 1) := by decide +kernel
theorem dX9_save_13 : decode cX9_save 13 = .ok (.iconst 0, 1) := by decide +kernel
theorem dX9_save_14 : decode cX9_save 14 = .ok (.istore_n 2, 1) := by decide +kernel
theorem dX9_save_15 : decode cX9_save 15 = .ok (.iload_n 2, 1) := by decide +kernel
theorem dX9_save_16 : decode cX9_save 16 = .ok (.bipush 67, 2) := by decide +kernel
theorem dX9_save_18 : decode cX9_save 18 = .ok (.if_icmp .ge 26, 3) := by decide +kernel
theorem dX9_save_21 : decode cX9_save 21 = .ok (.aload_n 0, 1) := by decide +kernel
theorem dX9_save_22 : decode cX9_save 22 = .ok (.getfield 19, 3) := by decide +kernel
theorem dX9_save_25 : decode cX9_save 25 = .ok (.bipush 67, 2) := by decide +kernel
theorem dX9_save_27 : decode cX9_save 27 = .ok (.iload_n 1, 1) := by decide +kernel
theorem dX9_save_28 : decode cX9_save 28 = .ok (.imul, 1) := by decide +kernel
theorem dX9_save_29 : decode cX9_save 29 = .ok (.iload_n 2, 1) := by decide +kernel
theorem dX9_save_30 : decode cX9_save 30 = .ok (.iadd, 1) := by decide +kernel
theorem dX9_save_31 : decode cX9_save 31 = .ok (.aload_n 0, 1) := by decide +kernel
theorem dX9_save_32 : decode cX9_save 32 = .ok (.getfield 7, 3) := by decide +kernel
theorem dX9_save_35 : decode cX9_save 35 = .ok (.iload_n 2, 1) := by decide +kernel
theorem dX9_save_36 : decode cX9_save 36 = .ok (.iaload, 1) := by decide +kernel
theorem dX9_save_37 : decode cX9_save 37 = .ok (.iastore, 1) := by decide +kernel
theorem dX9_save_38 : decode cX9_save 38 = .ok (.iinc 2 1, 3) := by decide +kernel
theorem dX9_save_41 : decode cX9_save 41 = .ok (.goto (-26), 3) := by decide +kernel
theorem dX9_save_44 : decode cX9_save 44 = .ok (.aload_n 0, 1) := by decide +kernel
theorem dX9_save_45 : decode cX9_save 45 = .ok (.getfield 22, 3) := by decide +kernel
theorem dX9_save_48 : decode cX9_save 48 = .ok (.iload_n 1, 1) := by decide +kernel
theorem dX9_save_49 : decode cX9_save 49 = .ok (.iconst 1, 1) := by decide +kernel
theorem dX9_save_50 : decode cX9_save 50 = .ok (.iastore, 1) := by decide +kernel
theorem dX9_save_51 : decode cX9_save 51 = .ok (.aload_n 0, 1) := by decide +kernel
theorem dX9_save_52 : decode cX9_save 52 = .ok (.getfield 7, 3) := by decide +kernel
theorem dX9_save_55 : decode cX9_save 55 = .ok (.iconst 2, 1) := by decide +kernel
theorem dX9_save_56 : decode cX9_save 56 = .ok (.iaload, 1) := by decide +kernel
theorem dX9_save_57 : decode cX9_save 57 = .ok (.ireturn, 1) := by decide +kernel
set_option maxHeartbeats 4000000 in
set_option maxRecDepth 100000 in
theorem zk_140 (cA : ClassId) (n : Nat) (a_this a_this_all a_this_kept a_this_history a_this_slots a_this_isSaved a_this_stream a_this_pad : Nat) (v_historyLong : Int32) (v_streamLong : Int32) (v_spot : Int32) (v_padLong : Int32) (v_padSpot : Int32) (v_readNumber : Int32) (g_all : Ar) (g_isSaved : Ar) (g_slots : Ar)  : zCW (zw_46 cA n a_this a_this_all a_this_kept a_this_history a_this_slots a_this_isSaved a_this_stream a_this_pad v_historyLong v_streamLong v_spot v_padLong v_padSpot v_readNumber g_all g_isSaved g_slots) (zw_46 cA n a_this a_this_all a_this_kept a_this_history a_this_slots a_this_isSaved a_this_stream a_this_pad v_historyLong v_streamLong v_spot v_padLong v_padSpot v_readNumber g_all g_isSaved g_slots) [] [0, 1, 2, 3] (zw_4 cA 0  ) (zw_4 cA 0  ) := ⟨rfl, (show (zw_4 cA 0  ).map Prod.fst = ([] : List Nat) from rfl).trans (show (zw_4 cA 0  ).map Prod.fst = ([] : List Nat) from rfl).symm, by decide +kernel, (show (zw_46 cA n a_this a_this_all a_this_kept a_this_history a_this_slots a_this_isSaved a_this_stream a_this_pad v_historyLong v_streamLong v_spot v_padLong v_padSpot v_readNumber g_all g_isSaved g_slots).map Prod.fst = ([a_this, a_this_all, a_this_isSaved, a_this_slots] : List Nat) from rfl).trans (show (zw_46 cA n a_this a_this_all a_this_kept a_this_history a_this_slots a_this_isSaved a_this_stream a_this_pad v_historyLong v_streamLong v_spot v_padLong v_padSpot v_readNumber g_all g_isSaved g_slots).map Prod.fst = ([a_this, a_this_all, a_this_isSaved, a_this_slots] : List Nat) from rfl).symm, rfl, (show ([0, 1, 2, 3] : List Nat).map (fun i => (zw_46 cA n a_this a_this_all a_this_kept a_this_history a_this_slots a_this_isSaved a_this_stream a_this_pad v_historyLong v_streamLong v_spot v_padLong v_padSpot v_readNumber g_all g_isSaved g_slots)[i]?) = ([(a_this, .inr (9, [.ref a_this_all, .ref a_this_kept, .ref a_this_history, .int v_historyLong, .ref a_this_slots, .ref a_this_isSaved, .ref a_this_stream, .int v_streamLong, .int v_spot, .ref a_this_pad, .int v_padLong, .int v_padSpot, .int v_readNumber])), (a_this_all, .inl (cA, 67, .inl g_all)), (a_this_isSaved, .inl (cA, 2, .inl g_isSaved)), (a_this_slots, .inl (cA, 134, .inl g_slots))] : va_W).map some from rfl).trans (show ([0, 1, 2, 3] : List Nat).map (fun i => (zw_46 cA n a_this a_this_all a_this_kept a_this_history a_this_slots a_this_isSaved a_this_stream a_this_pad v_historyLong v_streamLong v_spot v_padLong v_padSpot v_readNumber g_all g_isSaved g_slots)[i]?) = ([(a_this, .inr (9, [.ref a_this_all, .ref a_this_kept, .ref a_this_history, .int v_historyLong, .ref a_this_slots, .ref a_this_isSaved, .ref a_this_stream, .int v_streamLong, .int v_spot, .ref a_this_pad, .int v_padLong, .int v_padSpot, .int v_readNumber])), (a_this_all, .inl (cA, 67, .inl g_all)), (a_this_isSaved, .inl (cA, 2, .inl g_isSaved)), (a_this_slots, .inl (cA, 134, .inl g_slots))] : va_W).map some from rfl).symm, by decide +kernel, rfl⟩
set_option maxHeartbeats 4000000 in
set_option maxRecDepth 100000 in
theorem l_X9_save_15 (l : Launch) (D : va_G) (cA : ClassId) (a_this a_this_all a_this_kept a_this_history a_this_slots a_this_isSaved a_this_stream a_this_pad : Nat) (v_historyLong : Int32) (v_streamLong : Int32) (v_spot : Int32) (v_padLong : Int32) (v_padSpot : Int32) (v_readNumber : Int32) (g_all : Ar) (g_isSaved : Ar) (i1 : Int32) (out : Int32 × Ar × Ar) {p : Program} {e : Env} {s : State} {m : MethodId} {args : Array Value} {below : List Frame} {meth : Method} {c : Code} {A : Nat → Prop} (X : zX D cA p s m args meth c cX9_save 3 RX9 (some .int)) (k : Ar → Option (Int32 × Ar × Ar)) (hk : ∀ (g_slots : Ar) (H : Heap) (locs : List Loc) (ls : Array Slot), zH D A s (zw_46 cA 0 a_this a_this_all a_this_kept a_this_history a_this_slots a_this_isSaved a_this_stream a_this_pad v_historyLong v_streamLong v_spot v_padLong v_padSpot v_readNumber g_all g_isSaved g_slots) H locs → lv_has ls 3 [(0, .ref a_this), (1, .int i1)] → k g_slots = some out → W p l e (zR 1 25) s m args below meth c H locs 0 0 (MQ below (zQ D (zw_46 cA 0 a_this a_this_all a_this_kept a_this_history a_this_slots a_this_isSaved a_this_stream a_this_pad v_historyLong v_streamLong v_spot v_padLong v_padSpot v_readNumber g_all out.2.1 out.2.2) (some (.int out.1)) A) args s 0 0 A) (F0 m 44 ls [])) :
    ∀ (fuel : Nat) (g_slots : Ar) (i2 : Int32) (H : Heap) (locs : List Loc) (ls : Array Slot), zH D A s (zw_46 cA 0 a_this a_this_all a_this_kept a_this_history a_this_slots a_this_isSaved a_this_stream a_this_pad v_historyLong v_streamLong v_spot v_padLong v_padSpot v_readNumber g_all g_isSaved g_slots) H locs → lv_has ls 3 [(0, .ref a_this), (1, .int i1), (2, .int i2)] → F_X9_save_L15 g_all i1 k fuel g_slots i2 = some out → W p l e (zR 1 25) s m args below meth c H locs 0 0 (MQ below (zQ D (zw_46 cA 0 a_this a_this_all a_this_kept a_this_history a_this_slots a_this_isSaved a_this_stream a_this_pad v_historyLong v_streamLong v_spot v_padLong v_padSpot v_readNumber g_all out.2.1 out.2.2) (some (.int out.1)) A) args s 0 0 A) (F0 m 15 ls []) := by
  intro fuel
  induction fuel with
  | zero => intro g_slots i2 H locs ls hw hl hF; exact nomatch (show (none : Option (Int32 × Ar × Ar)) = some out from hF)
  | succ fuel ih =>
    intro g_slots i2 H locs ls hw hl hF
    rw [F_X9_save_L15] at hF
    refine z_iload_n 15 X dX9_save_15 hl 2 rfl ?_
    refine z_bipush 16 67 X dX9_save_16 (by decide) ?_
    refine z_icmp_ge 18 44 X dX9_save_18 (by decide) (fun c4 => ?_) (fun c4 => ?_)
    · replace hF := zpos c4 hF
      exact hk g_slots H locs ls hw (lv_sub hl [0, 1] rfl) hF
    · replace hF := zneg c4 hF
      refine z_aload_n 21 X dX9_save_21 hl 0 rfl ?_
      refine z_get 22 zc9 0 4 fl_9_19 X dX9_save_22 hw rfl (by decide) rfl ?_
      refine z_bipush 25 67 X dX9_save_25 (by decide) ?_
      refine z_iload_n 27 X dX9_save_27 hl 1 rfl ?_
      refine z_imul 28 X dX9_save_28 ?_
      refine z_iload_n 29 X dX9_save_29 hl 2 rfl ?_
      refine z_iadd 30 X dX9_save_30 ?_
      refine z_aload_n 31 X dX9_save_31 hl 0 rfl ?_
      refine z_get 32 zc9 0 0 fl_9_7 X dX9_save_32 hw rfl (by decide) rfl ?_
      refine z_iload_n 35 X dX9_save_35 hl 2 rfl ?_
      obtain ⟨gd5, hF⟩ := zgd hF
      refine z_iald 36 1 (g_all i2.toNatClampNeg) X dX9_save_36 hw rfl gd5 rfl ?_
      obtain ⟨gd6, hF⟩ := zgd hF
      refine z_iast 37 3 (zw_46 cA 0 a_this a_this_all a_this_kept a_this_history a_this_slots a_this_isSaved a_this_stream a_this_pad v_historyLong v_streamLong v_spot v_padLong v_padSpot v_readNumber g_all g_isSaved (upd g_slots (((67 * i1) + i2).toNatClampNeg) (g_all i2.toNatClampNeg))) X dX9_save_37 hw rfl gd6 rfl (fun H locs hw => ?_)
      refine z_iinc2 38 1 [(2, .int (i2 + 1)), (0, .ref a_this), (1, .int i1)] X dX9_save_38 hl 2 rfl (by decide) (by decide) rfl (fun ls hl => ?_)
      refine z_goto 41 15 X dX9_save_41 (by decide) ?_
      exact ih (upd g_slots (((67 * i1) + i2).toNatClampNeg) (g_all i2.toNatClampNeg)) (i2 + 1) H locs ls hw (lv_sub hl [1, 2, 0] rfl) hF
set_option maxHeartbeats 4000000 in
set_option maxRecDepth 100000 in
theorem m_X9_save (l : Launch) (D : va_G) (cA : ClassId) (a_this a_this_all a_this_kept a_this_history a_this_slots a_this_isSaved a_this_stream a_this_pad : Nat) (v_historyLong : Int32) (v_streamLong : Int32) (v_spot : Int32) (v_padLong : Int32) (v_padSpot : Int32) (v_readNumber : Int32) (g_all : Ar) (g_isSaved : Ar) (g_slots : Ar) (i1 : Int32) (out : Int32 × Ar × Ar) (hF : F_X9_save g_all g_isSaved g_slots i1 = some out) : zM l D cA yX9_save cX9_save 3 (some .int) 1 25 [.ref a_this, .int i1] (zw_46 cA 0 a_this a_this_all a_this_kept a_this_history a_this_slots a_this_isSaved a_this_stream a_this_pad v_historyLong v_streamLong v_spot v_padLong v_padSpot v_readNumber g_all g_isSaved g_slots) (zw_46 cA 0 a_this a_this_all a_this_kept a_this_history a_this_slots a_this_isSaved a_this_stream a_this_pad v_historyLong v_streamLong v_spot v_padLong v_padSpot v_readNumber g_all out.2.1 out.2.2) (some (.int out.1)) := by
  refine z_body (by decide) (Nat.le_of_ble_eq_true rfl) ?_
  intro p e s m args below meth c ls H locs A X hl hw
  have hl : lv_has ls 3 [(0, .ref a_this), (1, .int i1)] := hl
  unfold F_X9_save at hF
  refine z_iload_n 0 X dX9_save_0 hl 1 rfl ?_
  refine z_i2l 1 X dX9_save_1 ?_
  refine z_lconst 2 0 X dX9_save_2 (by decide) ?_
  refine z_lconst 3 1 X dX9_save_3 (by decide) ?_
  obtain ⟨u1, e2, hF⟩ := zbd hF
  refine z_callS 4 mv_X9_in ml_9_91 [] (zk_140 cA 0 a_this a_this_all a_this_kept a_this_history a_this_slots a_this_isSaved a_this_stream a_this_pad v_historyLong v_streamLong v_spot v_padLong v_padSpot v_readNumber g_all g_isSaved g_slots) (m_X9_in l D cA (i1.toInt64) 0 1 u1 e2) X dX9_save_4 hw hl rfl rfl (Nat.le_of_ble_eq_true rfl) ⟨Nat.le_of_ble_eq_true rfl, Nat.le_of_ble_eq_true rfl⟩ ⟨Nat.zero_le _, Nat.zero_le _⟩ (fun H locs hw => ?_)
  refine z_if_ne 7 13 X dX9_save_7 (by decide) (fun c3 => ?_) (fun c3 => ?_)
  · replace hF := zneg c3 hF
    refine z_iconst 13 0 X dX9_save_13 (by decide) ?_
    refine z_istore_n 14 [(2, .int 0), (0, .ref a_this), (1, .int i1)] X dX9_save_14 hl (by decide) rfl (fun ls hl => ?_)
    refine l_X9_save_15 l D cA a_this a_this_all a_this_kept a_this_history a_this_slots a_this_isSaved a_this_stream a_this_pad v_historyLong v_streamLong v_spot v_padLong v_padSpot v_readNumber g_all g_isSaved i1 out X _ (fun g_slots_7 H locs ls hw hl hF => ?_) zFuel g_slots 0 H locs ls hw (lv_sub hl [1, 2, 0] rfl) hF
    refine z_aload_n 44 X dX9_save_44 hl 0 rfl ?_
    refine z_get 45 zc9 0 5 fl_9_22 X dX9_save_45 hw rfl (by decide) rfl ?_
    refine z_iload_n 48 X dX9_save_48 hl 1 rfl ?_
    refine z_iconst 49 1 X dX9_save_49 (by decide) ?_
    obtain ⟨gd8, hF⟩ := zgd hF
    refine z_iast 50 2 (zw_46 cA 0 a_this a_this_all a_this_kept a_this_history a_this_slots a_this_isSaved a_this_stream a_this_pad v_historyLong v_streamLong v_spot v_padLong v_padSpot v_readNumber g_all (upd g_isSaved (i1.toNatClampNeg) 1) g_slots_7) X dX9_save_50 hw rfl gd8 rfl (fun H locs hw => ?_)
    refine z_aload_n 51 X dX9_save_51 hl 0 rfl ?_
    refine z_get 52 zc9 0 0 fl_9_7 X dX9_save_52 hw rfl (by decide) rfl ?_
    refine z_iconst 55 2 X dX9_save_55 (by decide) ?_
    refine z_iald 56 1 (g_all 2) X dX9_save_56 hw rfl (by decide) rfl ?_
    cases hF
    exact z_iret 57 X dX9_save_57 hw rfl rfl
  · replace hF := zpos c3 hF
    refine z_bipush 10 (-2) X dX9_save_10 (by decide) ?_
    cases hF
    exact z_iret 12 X dX9_save_12 hw rfl rfl
theorem dX9_restore_0 : decode cX9_restore 0 = .ok (.iload_n 1, 1) := by decide +kernel
theorem dX9_restore_1 : decode cX9_restore 1 = .ok (.i2l, 1) := by decide +kernel
theorem dX9_restore_2 : decode cX9_restore 2 = .ok (.lconst 0, 1) := by decide +kernel
theorem dX9_restore_3 : decode cX9_restore 3 = .ok (.lconst 1, 1) := by decide +kernel
theorem dX9_restore_4 : decode cX9_restore 4 = .ok (.invokestatic 91, 3) := by decide +kernel
theorem dX9_restore_7 : decode cX9_restore 7 = .ok (.ifCond .ne 6, 3) := by decide +kernel
theorem dX9_restore_10 : decode cX9_restore 10 = .ok (.bipush (-2), 2) := by decide +kernel
theorem dX9_restore_12 : decode cX9_restore 12 = .ok (.ireturn, 1) := by decide +kernel
theorem dX9_restore_13 : decode cX9_restore 13 = .ok (.aload_n 0, 1) := by decide +kernel
theorem dX9_restore_14 : decode cX9_restore 14 = .ok (.getfield 22, 3) := by decide +kernel
theorem dX9_restore_17 : decode cX9_restore 17 = .ok (.iload_n 1, 1) := by decide +kernel
theorem dX9_restore_18 : decode cX9_restore 18 = .ok (.iaload, 1) := by decide +kernel
theorem dX9_restore_19 : decode cX9_restore 19 = .ok (.ifCond .ne 6, 3) := by decide +kernel
theorem dX9_restore_22 : decode cX9_restore 22 = .ok (.bipush (-5), 2) := by decide +kernel
theorem dX9_restore_24 : decode cX9_restore 24 = .ok (.ireturn, 1) := by decide +kernel
theorem dX9_restore_25 : decode cX9_restore 25 = .ok (.aload_n 0, 1) := by decide +kernel
theorem dX9_restore_26 : decode cX9_restore 26 = .ok (.invokevirtual 120, 3) := by decide +kernel
theorem dX9_restore_29 : decode cX9_restore 29 = .ok (.iconst 0, 1) := by decide +kernel
theorem dX9_restore_30 : decode cX9_restore 30 = .ok (.istore_n 2, 1) := by decide +kernel
theorem dX9_restore_31 : decode cX9_restore 31 = .ok (.iload_n 2, 1) := by decide +kernel
theorem dX9_restore_32 : decode cX9_restore 32 = .ok (.bipush 67, 2) := by decide +kernel
theorem dX9_restore_34 : decode cX9_restore 34 = .ok (.if_icmp .ge 26, 3) := by decide +kernel
theorem dX9_restore_37 : decode cX9_restore 37 = .ok (.aload_n 0, 1) := by decide +kernel
theorem dX9_restore_38 : decode cX9_restore 38 = .ok (.getfield 7, 3) := by decide +kernel
theorem dX9_restore_41 : decode cX9_restore 41 = .ok (.iload_n 2, 1) := by decide +kernel
theorem dX9_restore_42 : decode cX9_restore 42 = .ok (.aload_n 0, 1) := by decide +kernel
theorem dX9_restore_43 : decode cX9_restore 43 = .ok (.getfield 19, 3) := by decide +kernel
theorem dX9_restore_46 : decode cX9_restore 46 = .ok (.bipush 67, 2) := by decide +kernel
theorem dX9_restore_48 : decode cX9_restore 48 = .ok (.iload_n 1, 1) := by decide +kernel
theorem dX9_restore_49 : decode cX9_restore 49 = .ok (.imul, 1) := by decide +kernel
theorem dX9_restore_50 : decode cX9_restore 50 = .ok (.iload_n 2, 1) := by decide +kernel
theorem dX9_restore_51 : decode cX9_restore 51 = .ok (.iadd, 1) := by decide +kernel
theorem dX9_restore_52 : decode cX9_restore 52 = .ok (.iaload, 1) := by decide +kernel
theorem dX9_restore_53 : decode cX9_restore 53 = .ok (.iastore, 1) := by decide +kernel
theorem dX9_restore_54 : decode cX9_restore 54 = .ok (.iinc 2 1, 3) := by decide +kernel
theorem dX9_restore_57 : decode cX9_restore 57 = .ok (.goto (-26), 3) := by decide +kernel
theorem dX9_restore_60 : decode cX9_restore 60 = .ok (.aload_n 0, 1) := by decide +kernel
theorem dX9_restore_61 : decode cX9_restore 61 = .ok (.aload_n 0, 1) := by decide +kernel
theorem dX9_restore_62 : decode cX9_restore 62 = .ok (.getfield 7, 3) := by decide +kernel
theorem dX9_restore_65 : decode cX9_restore 65 = .ok (.iconst 2, 1) := by decide +kernel
theorem dX9_restore_66 : decode cX9_restore 66 = .ok (.iaload, 1) := by decide +kernel
theorem dX9_restore_67 : decode cX9_restore 67 = .ok (.invokevirtual 126, 3) := by decide +kernel
theorem dX9_restore_70 : decode cX9_restore 70 = .ok (.ireturn, 1) := by decide +kernel
set_option maxHeartbeats 4000000 in
set_option maxRecDepth 100000 in
theorem zk_141 (cA : ClassId) (n : Nat) (a_this a_this_all a_this_kept a_this_history a_this_slots a_this_isSaved a_this_stream a_this_pad : Nat) (v_historyLong : Int32) (v_streamLong : Int32) (v_spot : Int32) (v_padLong : Int32) (v_padSpot : Int32) (v_readNumber : Int32) (g_all : Ar) (g_history : Ar) (g_isSaved : Ar) (g_kept : Ar) (g_slots : Ar)  : zCW (zw_47 cA n a_this a_this_all a_this_kept a_this_history a_this_slots a_this_isSaved a_this_stream a_this_pad v_historyLong v_streamLong v_spot v_padLong v_padSpot v_readNumber g_all g_history g_isSaved g_kept g_slots) (zw_47 cA n a_this a_this_all a_this_kept a_this_history a_this_slots a_this_isSaved a_this_stream a_this_pad v_historyLong v_streamLong v_spot v_padLong v_padSpot v_readNumber g_all g_history g_isSaved g_kept g_slots) [] [0, 1, 2, 3, 4, 5] (zw_4 cA 0  ) (zw_4 cA 0  ) := ⟨rfl, (show (zw_4 cA 0  ).map Prod.fst = ([] : List Nat) from rfl).trans (show (zw_4 cA 0  ).map Prod.fst = ([] : List Nat) from rfl).symm, by decide +kernel, (show (zw_47 cA n a_this a_this_all a_this_kept a_this_history a_this_slots a_this_isSaved a_this_stream a_this_pad v_historyLong v_streamLong v_spot v_padLong v_padSpot v_readNumber g_all g_history g_isSaved g_kept g_slots).map Prod.fst = ([a_this, a_this_all, a_this_history, a_this_isSaved, a_this_kept, a_this_slots] : List Nat) from rfl).trans (show (zw_47 cA n a_this a_this_all a_this_kept a_this_history a_this_slots a_this_isSaved a_this_stream a_this_pad v_historyLong v_streamLong v_spot v_padLong v_padSpot v_readNumber g_all g_history g_isSaved g_kept g_slots).map Prod.fst = ([a_this, a_this_all, a_this_history, a_this_isSaved, a_this_kept, a_this_slots] : List Nat) from rfl).symm, rfl, (show ([0, 1, 2, 3, 4, 5] : List Nat).map (fun i => (zw_47 cA n a_this a_this_all a_this_kept a_this_history a_this_slots a_this_isSaved a_this_stream a_this_pad v_historyLong v_streamLong v_spot v_padLong v_padSpot v_readNumber g_all g_history g_isSaved g_kept g_slots)[i]?) = ([(a_this, .inr (9, [.ref a_this_all, .ref a_this_kept, .ref a_this_history, .int v_historyLong, .ref a_this_slots, .ref a_this_isSaved, .ref a_this_stream, .int v_streamLong, .int v_spot, .ref a_this_pad, .int v_padLong, .int v_padSpot, .int v_readNumber])), (a_this_all, .inl (cA, 67, .inl g_all)), (a_this_history, .inl (cA, 402, .inl g_history)), (a_this_isSaved, .inl (cA, 2, .inl g_isSaved)), (a_this_kept, .inl (cA, 67, .inl g_kept)), (a_this_slots, .inl (cA, 134, .inl g_slots))] : va_W).map some from rfl).trans (show ([0, 1, 2, 3, 4, 5] : List Nat).map (fun i => (zw_47 cA n a_this a_this_all a_this_kept a_this_history a_this_slots a_this_isSaved a_this_stream a_this_pad v_historyLong v_streamLong v_spot v_padLong v_padSpot v_readNumber g_all g_history g_isSaved g_kept g_slots)[i]?) = ([(a_this, .inr (9, [.ref a_this_all, .ref a_this_kept, .ref a_this_history, .int v_historyLong, .ref a_this_slots, .ref a_this_isSaved, .ref a_this_stream, .int v_streamLong, .int v_spot, .ref a_this_pad, .int v_padLong, .int v_padSpot, .int v_readNumber])), (a_this_all, .inl (cA, 67, .inl g_all)), (a_this_history, .inl (cA, 402, .inl g_history)), (a_this_isSaved, .inl (cA, 2, .inl g_isSaved)), (a_this_kept, .inl (cA, 67, .inl g_kept)), (a_this_slots, .inl (cA, 134, .inl g_slots))] : va_W).map some from rfl).symm, by decide +kernel, rfl⟩
set_option maxHeartbeats 4000000 in
set_option maxRecDepth 100000 in
theorem zk_142 (cA : ClassId) (n : Nat) (a_this a_this_all a_this_kept a_this_history a_this_slots a_this_isSaved a_this_stream a_this_pad : Nat) (v_historyLong : Int32) (v_streamLong : Int32) (v_spot : Int32) (v_padLong : Int32) (v_padSpot : Int32) (v_readNumber : Int32) (g_all : Ar) (g_history : Ar) (g_isSaved : Ar) (g_kept : Ar) (g_slots : Ar) (g_kept' : Ar) : zCW (zw_47 cA n a_this a_this_all a_this_kept a_this_history a_this_slots a_this_isSaved a_this_stream a_this_pad v_historyLong v_streamLong v_spot v_padLong v_padSpot v_readNumber g_all g_history g_isSaved g_kept g_slots) (zw_47 cA n a_this a_this_all a_this_kept a_this_history a_this_slots a_this_isSaved a_this_stream a_this_pad v_historyLong v_streamLong v_spot v_padLong v_padSpot v_readNumber g_all g_history g_isSaved g_kept' g_slots) [0, 1, 4] [2, 3, 5] (zw_35 cA 0 a_this a_this_all a_this_kept a_this_history a_this_slots a_this_isSaved a_this_stream a_this_pad v_historyLong v_streamLong v_spot v_padLong v_padSpot v_readNumber g_all g_kept) (zw_35 cA 0 a_this a_this_all a_this_kept a_this_history a_this_slots a_this_isSaved a_this_stream a_this_pad v_historyLong v_streamLong v_spot v_padLong v_padSpot v_readNumber g_all g_kept') := ⟨rfl, (show (zw_35 cA 0 a_this a_this_all a_this_kept a_this_history a_this_slots a_this_isSaved a_this_stream a_this_pad v_historyLong v_streamLong v_spot v_padLong v_padSpot v_readNumber g_all g_kept').map Prod.fst = ([a_this, a_this_all, a_this_kept] : List Nat) from rfl).trans (show (zw_35 cA 0 a_this a_this_all a_this_kept a_this_history a_this_slots a_this_isSaved a_this_stream a_this_pad v_historyLong v_streamLong v_spot v_padLong v_padSpot v_readNumber g_all g_kept).map Prod.fst = ([a_this, a_this_all, a_this_kept] : List Nat) from rfl).symm, by decide +kernel, (show (zw_47 cA n a_this a_this_all a_this_kept a_this_history a_this_slots a_this_isSaved a_this_stream a_this_pad v_historyLong v_streamLong v_spot v_padLong v_padSpot v_readNumber g_all g_history g_isSaved g_kept' g_slots).map Prod.fst = ([a_this, a_this_all, a_this_history, a_this_isSaved, a_this_kept, a_this_slots] : List Nat) from rfl).trans (show (zw_47 cA n a_this a_this_all a_this_kept a_this_history a_this_slots a_this_isSaved a_this_stream a_this_pad v_historyLong v_streamLong v_spot v_padLong v_padSpot v_readNumber g_all g_history g_isSaved g_kept g_slots).map Prod.fst = ([a_this, a_this_all, a_this_history, a_this_isSaved, a_this_kept, a_this_slots] : List Nat) from rfl).symm, rfl, (show ([2, 3, 5] : List Nat).map (fun i => (zw_47 cA n a_this a_this_all a_this_kept a_this_history a_this_slots a_this_isSaved a_this_stream a_this_pad v_historyLong v_streamLong v_spot v_padLong v_padSpot v_readNumber g_all g_history g_isSaved g_kept' g_slots)[i]?) = ([(a_this_history, .inl (cA, 402, .inl g_history)), (a_this_isSaved, .inl (cA, 2, .inl g_isSaved)), (a_this_slots, .inl (cA, 134, .inl g_slots))] : va_W).map some from rfl).trans (show ([2, 3, 5] : List Nat).map (fun i => (zw_47 cA n a_this a_this_all a_this_kept a_this_history a_this_slots a_this_isSaved a_this_stream a_this_pad v_historyLong v_streamLong v_spot v_padLong v_padSpot v_readNumber g_all g_history g_isSaved g_kept g_slots)[i]?) = ([(a_this_history, .inl (cA, 402, .inl g_history)), (a_this_isSaved, .inl (cA, 2, .inl g_isSaved)), (a_this_slots, .inl (cA, 134, .inl g_slots))] : va_W).map some from rfl).symm, by decide +kernel, rfl⟩
set_option maxHeartbeats 4000000 in
set_option maxRecDepth 100000 in
theorem zk_143 (cA : ClassId) (n : Nat) (a_this a_this_all a_this_kept a_this_history a_this_slots a_this_isSaved a_this_stream a_this_pad : Nat) (v_historyLong : Int32) (v_streamLong : Int32) (v_spot : Int32) (v_padLong : Int32) (v_padSpot : Int32) (v_readNumber : Int32) (g_all : Ar) (g_history : Ar) (g_isSaved : Ar) (g_kept : Ar) (g_slots : Ar) (v_historyLong' : Int32) (g_history' : Ar) : zCW (zw_47 cA n a_this a_this_all a_this_kept a_this_history a_this_slots a_this_isSaved a_this_stream a_this_pad v_historyLong v_streamLong v_spot v_padLong v_padSpot v_readNumber g_all g_history g_isSaved g_kept g_slots) (zw_47 cA n a_this a_this_all a_this_kept a_this_history a_this_slots a_this_isSaved a_this_stream a_this_pad v_historyLong' v_streamLong v_spot v_padLong v_padSpot v_readNumber g_all g_history' g_isSaved g_kept g_slots) [0, 2, 4] [1, 3, 5] (zw_37 cA 0 a_this a_this_all a_this_kept a_this_history a_this_slots a_this_isSaved a_this_stream a_this_pad v_historyLong v_streamLong v_spot v_padLong v_padSpot v_readNumber g_history g_kept) (zw_37 cA 0 a_this a_this_all a_this_kept a_this_history a_this_slots a_this_isSaved a_this_stream a_this_pad v_historyLong' v_streamLong v_spot v_padLong v_padSpot v_readNumber g_history' g_kept) := ⟨rfl, (show (zw_37 cA 0 a_this a_this_all a_this_kept a_this_history a_this_slots a_this_isSaved a_this_stream a_this_pad v_historyLong' v_streamLong v_spot v_padLong v_padSpot v_readNumber g_history' g_kept).map Prod.fst = ([a_this, a_this_history, a_this_kept] : List Nat) from rfl).trans (show (zw_37 cA 0 a_this a_this_all a_this_kept a_this_history a_this_slots a_this_isSaved a_this_stream a_this_pad v_historyLong v_streamLong v_spot v_padLong v_padSpot v_readNumber g_history g_kept).map Prod.fst = ([a_this, a_this_history, a_this_kept] : List Nat) from rfl).symm, by decide +kernel, (show (zw_47 cA n a_this a_this_all a_this_kept a_this_history a_this_slots a_this_isSaved a_this_stream a_this_pad v_historyLong' v_streamLong v_spot v_padLong v_padSpot v_readNumber g_all g_history' g_isSaved g_kept g_slots).map Prod.fst = ([a_this, a_this_all, a_this_history, a_this_isSaved, a_this_kept, a_this_slots] : List Nat) from rfl).trans (show (zw_47 cA n a_this a_this_all a_this_kept a_this_history a_this_slots a_this_isSaved a_this_stream a_this_pad v_historyLong v_streamLong v_spot v_padLong v_padSpot v_readNumber g_all g_history g_isSaved g_kept g_slots).map Prod.fst = ([a_this, a_this_all, a_this_history, a_this_isSaved, a_this_kept, a_this_slots] : List Nat) from rfl).symm, rfl, (show ([1, 3, 5] : List Nat).map (fun i => (zw_47 cA n a_this a_this_all a_this_kept a_this_history a_this_slots a_this_isSaved a_this_stream a_this_pad v_historyLong' v_streamLong v_spot v_padLong v_padSpot v_readNumber g_all g_history' g_isSaved g_kept g_slots)[i]?) = ([(a_this_all, .inl (cA, 67, .inl g_all)), (a_this_isSaved, .inl (cA, 2, .inl g_isSaved)), (a_this_slots, .inl (cA, 134, .inl g_slots))] : va_W).map some from rfl).trans (show ([1, 3, 5] : List Nat).map (fun i => (zw_47 cA n a_this a_this_all a_this_kept a_this_history a_this_slots a_this_isSaved a_this_stream a_this_pad v_historyLong v_streamLong v_spot v_padLong v_padSpot v_readNumber g_all g_history g_isSaved g_kept g_slots)[i]?) = ([(a_this_all, .inl (cA, 67, .inl g_all)), (a_this_isSaved, .inl (cA, 2, .inl g_isSaved)), (a_this_slots, .inl (cA, 134, .inl g_slots))] : va_W).map some from rfl).symm, by decide +kernel, rfl⟩
set_option maxHeartbeats 4000000 in
set_option maxRecDepth 100000 in
theorem l_X9_restore_31 (l : Launch) (D : va_G) (cA : ClassId) (a_this a_this_all a_this_kept a_this_history a_this_slots a_this_isSaved a_this_stream a_this_pad : Nat) (v_historyLong : Int32) (v_streamLong : Int32) (v_spot : Int32) (v_padLong : Int32) (v_padSpot : Int32) (v_readNumber : Int32) (g_history : Ar) (g_isSaved : Ar) (g_kept : Ar) (g_slots : Ar) (i1 : Int32) (out : Int32 × Int32 × Ar × Ar × Ar) {p : Program} {e : Env} {s : State} {m : MethodId} {args : Array Value} {below : List Frame} {meth : Method} {c : Code} {A : Nat → Prop} (X : zX D cA p s m args meth c cX9_restore 3 RX9 (some .int)) (k : Ar → Option (Int32 × Int32 × Ar × Ar × Ar)) (hk : ∀ (g_all : Ar) (H : Heap) (locs : List Loc) (ls : Array Slot), zH D A s (zw_47 cA 0 a_this a_this_all a_this_kept a_this_history a_this_slots a_this_isSaved a_this_stream a_this_pad v_historyLong v_streamLong v_spot v_padLong v_padSpot v_readNumber g_all g_history g_isSaved g_kept g_slots) H locs → lv_has ls 3 [(0, .ref a_this)] → k g_all = some out → W p l e (zR 1 25) s m args below meth c H locs 0 0 (MQ below (zQ D (zw_47 cA 0 a_this a_this_all a_this_kept a_this_history a_this_slots a_this_isSaved a_this_stream a_this_pad out.2.1 v_streamLong v_spot v_padLong v_padSpot v_readNumber out.2.2.1 out.2.2.2.1 g_isSaved out.2.2.2.2 g_slots) (some (.int out.1)) A) args s 0 0 A) (F0 m 60 ls [])) :
    ∀ (fuel : Nat) (g_all : Ar) (i2 : Int32) (H : Heap) (locs : List Loc) (ls : Array Slot), zH D A s (zw_47 cA 0 a_this a_this_all a_this_kept a_this_history a_this_slots a_this_isSaved a_this_stream a_this_pad v_historyLong v_streamLong v_spot v_padLong v_padSpot v_readNumber g_all g_history g_isSaved g_kept g_slots) H locs → lv_has ls 3 [(0, .ref a_this), (1, .int i1), (2, .int i2)] → F_X9_restore_L31 g_slots i1 k fuel g_all i2 = some out → W p l e (zR 1 25) s m args below meth c H locs 0 0 (MQ below (zQ D (zw_47 cA 0 a_this a_this_all a_this_kept a_this_history a_this_slots a_this_isSaved a_this_stream a_this_pad out.2.1 v_streamLong v_spot v_padLong v_padSpot v_readNumber out.2.2.1 out.2.2.2.1 g_isSaved out.2.2.2.2 g_slots) (some (.int out.1)) A) args s 0 0 A) (F0 m 31 ls []) := by
  intro fuel
  induction fuel with
  | zero => intro g_all i2 H locs ls hw hl hF; exact nomatch (show (none : Option (Int32 × Int32 × Ar × Ar × Ar)) = some out from hF)
  | succ fuel ih =>
    intro g_all i2 H locs ls hw hl hF
    rw [F_X9_restore_L31] at hF
    refine z_iload_n 31 X dX9_restore_31 hl 2 rfl ?_
    refine z_bipush 32 67 X dX9_restore_32 (by decide) ?_
    refine z_icmp_ge 34 60 X dX9_restore_34 (by decide) (fun c8 => ?_) (fun c8 => ?_)
    · replace hF := zpos c8 hF
      exact hk g_all H locs ls hw (lv_sub hl [0] rfl) hF
    · replace hF := zneg c8 hF
      refine z_aload_n 37 X dX9_restore_37 hl 0 rfl ?_
      refine z_get 38 zc9 0 0 fl_9_7 X dX9_restore_38 hw rfl (by decide) rfl ?_
      refine z_iload_n 41 X dX9_restore_41 hl 2 rfl ?_
      refine z_aload_n 42 X dX9_restore_42 hl 0 rfl ?_
      refine z_get 43 zc9 0 4 fl_9_19 X dX9_restore_43 hw rfl (by decide) rfl ?_
      refine z_bipush 46 67 X dX9_restore_46 (by decide) ?_
      refine z_iload_n 48 X dX9_restore_48 hl 1 rfl ?_
      refine z_imul 49 X dX9_restore_49 ?_
      refine z_iload_n 50 X dX9_restore_50 hl 2 rfl ?_
      refine z_iadd 51 X dX9_restore_51 ?_
      obtain ⟨gd9, hF⟩ := zgd hF
      refine z_iald 52 5 (g_slots ((67 * i1) + i2).toNatClampNeg) X dX9_restore_52 hw rfl gd9 rfl ?_
      obtain ⟨gd10, hF⟩ := zgd hF
      refine z_iast 53 1 (zw_47 cA 0 a_this a_this_all a_this_kept a_this_history a_this_slots a_this_isSaved a_this_stream a_this_pad v_historyLong v_streamLong v_spot v_padLong v_padSpot v_readNumber (upd g_all (i2.toNatClampNeg) (g_slots ((67 * i1) + i2).toNatClampNeg)) g_history g_isSaved g_kept g_slots) X dX9_restore_53 hw rfl gd10 rfl (fun H locs hw => ?_)
      refine z_iinc2 54 1 [(2, .int (i2 + 1)), (0, .ref a_this), (1, .int i1)] X dX9_restore_54 hl 2 rfl (by decide) (by decide) rfl (fun ls hl => ?_)
      refine z_goto 57 31 X dX9_restore_57 (by decide) ?_
      exact ih (upd g_all (i2.toNatClampNeg) (g_slots ((67 * i1) + i2).toNatClampNeg)) (i2 + 1) H locs ls hw (lv_sub hl [1, 2, 0] rfl) hF
set_option maxHeartbeats 4000000 in
set_option maxRecDepth 100000 in
theorem m_X9_restore (l : Launch) (D : va_G) (cA : ClassId) (a_this a_this_all a_this_kept a_this_history a_this_slots a_this_isSaved a_this_stream a_this_pad : Nat) (v_historyLong : Int32) (v_streamLong : Int32) (v_spot : Int32) (v_padLong : Int32) (v_padSpot : Int32) (v_readNumber : Int32) (g_all : Ar) (g_history : Ar) (g_isSaved : Ar) (g_kept : Ar) (g_slots : Ar) (i1 : Int32) (out : Int32 × Int32 × Ar × Ar × Ar) (hF : F_X9_restore v_historyLong g_all g_history g_isSaved g_kept g_slots i1 = some out) : zM l D cA yX9_restore cX9_restore 3 (some .int) 1 25 [.ref a_this, .int i1] (zw_47 cA 0 a_this a_this_all a_this_kept a_this_history a_this_slots a_this_isSaved a_this_stream a_this_pad v_historyLong v_streamLong v_spot v_padLong v_padSpot v_readNumber g_all g_history g_isSaved g_kept g_slots) (zw_47 cA 0 a_this a_this_all a_this_kept a_this_history a_this_slots a_this_isSaved a_this_stream a_this_pad out.2.1 v_streamLong v_spot v_padLong v_padSpot v_readNumber out.2.2.1 out.2.2.2.1 g_isSaved out.2.2.2.2 g_slots) (some (.int out.1)) := by
  refine z_body (by decide) (Nat.le_of_ble_eq_true rfl) ?_
  intro p e s m args below meth c ls H locs A X hl hw
  have hl : lv_has ls 3 [(0, .ref a_this), (1, .int i1)] := hl
  unfold F_X9_restore at hF
  refine z_iload_n 0 X dX9_restore_0 hl 1 rfl ?_
  refine z_i2l 1 X dX9_restore_1 ?_
  refine z_lconst 2 0 X dX9_restore_2 (by decide) ?_
  refine z_lconst 3 1 X dX9_restore_3 (by decide) ?_
  obtain ⟨u1, e2, hF⟩ := zbd hF
  refine z_callS 4 mv_X9_in ml_9_91 [] (zk_141 cA 0 a_this a_this_all a_this_kept a_this_history a_this_slots a_this_isSaved a_this_stream a_this_pad v_historyLong v_streamLong v_spot v_padLong v_padSpot v_readNumber g_all g_history g_isSaved g_kept g_slots) (m_X9_in l D cA (i1.toInt64) 0 1 u1 e2) X dX9_restore_4 hw hl rfl rfl (Nat.le_of_ble_eq_true rfl) ⟨Nat.le_of_ble_eq_true rfl, Nat.le_of_ble_eq_true rfl⟩ ⟨Nat.zero_le _, Nat.zero_le _⟩ (fun H locs hw => ?_)
  refine z_if_ne 7 13 X dX9_restore_7 (by decide) (fun c3 => ?_) (fun c3 => ?_)
  · replace hF := zneg c3 hF
    refine z_aload_n 13 X dX9_restore_13 hl 0 rfl ?_
    refine z_get 14 zc9 0 5 fl_9_22 X dX9_restore_14 hw rfl (by decide) rfl ?_
    refine z_iload_n 17 X dX9_restore_17 hl 1 rfl ?_
    obtain ⟨gd4, hF⟩ := zgd hF
    refine z_iald 18 3 (g_isSaved i1.toNatClampNeg) X dX9_restore_18 hw rfl gd4 rfl ?_
    refine z_if_ne 19 25 X dX9_restore_19 (by decide) (fun c5 => ?_) (fun c5 => ?_)
    · replace hF := zneg c5 hF
      refine z_aload_n 25 X dX9_restore_25 hl 0 rfl ?_
      obtain ⟨u6, e7, hF⟩ := zbd hF
      refine z_callV 26 zc9 mv_X9_keep ml_9_120 0 [] (zk_142 cA 0 a_this a_this_all a_this_kept a_this_history a_this_slots a_this_isSaved a_this_stream a_this_pad v_historyLong v_streamLong v_spot v_padLong v_padSpot v_readNumber g_all g_history g_isSaved g_kept g_slots u6) (m_X9_keep l D cA a_this a_this_all a_this_kept a_this_history a_this_slots a_this_isSaved a_this_stream a_this_pad v_historyLong v_streamLong v_spot v_padLong v_padSpot v_readNumber g_all g_kept u6 e7) X dX9_restore_26 hw hl rfl rfl rfl (Nat.le_of_ble_eq_true rfl) ⟨Nat.le_of_ble_eq_true rfl, Nat.le_of_ble_eq_true rfl⟩ ⟨Nat.zero_le _, Nat.zero_le _⟩ (fun H locs hw => ?_)
      refine z_iconst 29 0 X dX9_restore_29 (by decide) ?_
      refine z_istore_n 30 [(2, .int 0), (0, .ref a_this), (1, .int i1)] X dX9_restore_30 hl (by decide) rfl (fun ls hl => ?_)
      refine l_X9_restore_31 l D cA a_this a_this_all a_this_kept a_this_history a_this_slots a_this_isSaved a_this_stream a_this_pad v_historyLong v_streamLong v_spot v_padLong v_padSpot v_readNumber g_history g_isSaved u6 g_slots i1 out X _ (fun g_all_11 H locs ls hw hl hF => ?_) zFuel g_all 0 H locs ls hw (lv_sub hl [1, 2, 0] rfl) hF
      refine z_aload_n 60 X dX9_restore_60 hl 0 rfl ?_
      refine z_aload_n 61 X dX9_restore_61 hl 0 rfl ?_
      refine z_get 62 zc9 0 0 fl_9_7 X dX9_restore_62 hw rfl (by decide) rfl ?_
      refine z_iconst 65 2 X dX9_restore_65 (by decide) ?_
      refine z_iald 66 1 (g_all_11 2) X dX9_restore_66 hw rfl (by decide) rfl ?_
      obtain ⟨u12, e13, hF⟩ := zbd hF
      refine z_callV 67 zc9 mv_X9_changed ml_9_126 0 [] (zk_143 cA 0 a_this a_this_all a_this_kept a_this_history a_this_slots a_this_isSaved a_this_stream a_this_pad v_historyLong v_streamLong v_spot v_padLong v_padSpot v_readNumber g_all_11 g_history g_isSaved u6 g_slots u12.2.1 u12.2.2) (m_X9_changed l D cA a_this a_this_all a_this_kept a_this_history a_this_slots a_this_isSaved a_this_stream a_this_pad v_historyLong v_streamLong v_spot v_padLong v_padSpot v_readNumber g_history u6 (g_all_11 2) u12 e13) X dX9_restore_67 hw hl rfl rfl rfl (Nat.le_of_ble_eq_true rfl) ⟨Nat.le_of_ble_eq_true rfl, Nat.le_of_ble_eq_true rfl⟩ ⟨Nat.zero_le _, Nat.zero_le _⟩ (fun H locs hw => ?_)
      cases hF
      exact z_iret 70 X dX9_restore_70 hw rfl rfl
    · replace hF := zpos c5 hF
      refine z_bipush 22 (-5) X dX9_restore_22 (by decide) ?_
      cases hF
      exact z_iret 24 X dX9_restore_24 hw rfl rfl
  · replace hF := zpos c3 hF
    refine z_bipush 10 (-2) X dX9_restore_10 (by decide) ?_
    cases hF
    exact z_iret 12 X dX9_restore_12 hw rfl rfl
