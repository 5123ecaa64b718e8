theorem dX0_write_0 : decode cX0_write 0 = .ok (.iload_n 1, 1) := by decide +kernel
theorem dX0_write_1 : decode cX0_write 1 = .ok (.ifCond .lt 19, 3) := by decide +kernel
theorem dX0_write_4 : decode cX0_write 4 = .ok (.iload_n 1, 1) := by decide +kernel
theorem dX0_write_5 : decode cX0_write 5 = .ok (.aload_n 0, 1) := by decide +kernel
theorem dX0_write_6 : decode cX0_write 6 = .ok (.getfield 13, 3) := by decide +kernel
theorem dX0_write_9 : decode cX0_write 9 = .ok (.arraylength, 1) := by decide +kernel
theorem dX0_write_10 : decode cX0_write 10 = .ok (.if_icmp .ge 10, 3) := by decide +kernel
theorem dX0_write_13 : decode cX0_write 13 = .ok (.aload_n 0, 1) := by decide +kernel
theorem dX0_write_14 : decode cX0_write 14 = .ok (.getfield 13, 3) := by decide +kernel
theorem dX0_write_17 : decode cX0_write 17 = .ok (.iload_n 1, 1) := by decide +kernel
theorem dX0_write_18 : decode cX0_write 18 = .ok (.iload_n 2, 1) := by decide +kernel
theorem dX0_write_19 : decode cX0_write 19 = .ok (.iastore, 1) := by decide +kernel
theorem dX0_write_20 : decode cX0_write 20 = .ok (.return_, 1) := by decide +kernel
set_option maxHeartbeats 4000000 in
set_option maxRecDepth 100000 in
theorem m_X0_write (l : Launch) (D : va_G) (cA : ClassId) (n : Nat) (a_this a_this_cells : Nat) (g_cells : Ar) (i1 : Int32) (i2 : Int32) (out : Ar) (hF : F_X0_write n g_cells i1 i2 = some out) : zM l D cA yX0_write cX0_write 3 none 0 0 [.ref a_this, .int i1, .int i2] (zw_0 cA n a_this a_this_cells g_cells) (zw_0 cA n a_this a_this_cells out) none := by
  refine z_body (by decide) (Nat.le_of_ble_eq_true rfl) ?_
  intro p e s m args below meth c ls H locs A X hl hw
  have hl : lv_has ls 3 [(0, .ref a_this), (1, .int i1), (2, .int i2)] := hl
  unfold F_X0_write at hF
  refine z_iload_n 0 X dX0_write_0 hl 1 rfl ?_
  refine z_if_lt 1 20 X dX0_write_1 (by decide) (fun c1 => ?_) (fun c1 => ?_)
  · replace hF := zpos c1 hF
    cases hF
    exact z_vret 20 X dX0_write_20 hw rfl rfl
  · replace hF := zneg c1 hF
    refine z_iload_n 4 X dX0_write_4 hl 1 rfl ?_
    refine z_aload_n 5 X dX0_write_5 hl 0 rfl ?_
    refine z_get 6 zc0 0 0 fl_0_13 X dX0_write_6 hw rfl (by decide) rfl ?_
    refine z_alen 9 1 (Int32.ofNat n) X dX0_write_9 hw rfl rfl ?_
    refine z_icmp_ge 10 20 X dX0_write_10 (by decide) (fun c2 => ?_) (fun c2 => ?_)
    · replace hF := zpos c2 hF
      cases hF
      exact z_vret 20 X dX0_write_20 hw rfl rfl
    · replace hF := zneg c2 hF
      refine z_aload_n 13 X dX0_write_13 hl 0 rfl ?_
      refine z_get 14 zc0 0 0 fl_0_13 X dX0_write_14 hw rfl (by decide) rfl ?_
      refine z_iload_n 17 X dX0_write_17 hl 1 rfl ?_
      refine z_iload_n 18 X dX0_write_18 hl 2 rfl ?_
      obtain ⟨gd3, hF⟩ := zgd hF
      refine z_iast 19 1 (zw_0 cA n a_this a_this_cells (upd g_cells (i1.toNatClampNeg) i2)) X dX0_write_19 hw rfl gd3 rfl (fun H locs hw => ?_)
      cases hF
      exact z_vret 20 X dX0_write_20 hw rfl rfl
theorem dX0_read_0 : decode cX0_read 0 = .ok (.iload_n 1, 1) := by decide +kernel
theorem dX0_read_1 : decode cX0_read 1 = .ok (.ifCond .lt 21, 3) := by decide +kernel
theorem dX0_read_4 : decode cX0_read 4 = .ok (.iload_n 1, 1) := by decide +kernel
theorem dX0_read_5 : decode cX0_read 5 = .ok (.aload_n 0, 1) := by decide +kernel
theorem dX0_read_6 : decode cX0_read 6 = .ok (.getfield 13, 3) := by decide +kernel
theorem dX0_read_9 : decode cX0_read 9 = .ok (.arraylength, 1) := by decide +kernel
theorem dX0_read_10 : decode cX0_read 10 = .ok (.if_icmp .ge 12, 3) := by decide +kernel
theorem dX0_read_13 : decode cX0_read 13 = .ok (.aload_n 0, 1) := by decide +kernel
theorem dX0_read_14 : decode cX0_read 14 = .ok (.getfield 13, 3) := by decide +kernel
theorem dX0_read_17 : decode cX0_read 17 = .ok (.iload_n 1, 1) := by decide +kernel
theorem dX0_read_18 : decode cX0_read 18 = .ok (.iaload, 1) := by decide +kernel
theorem dX0_read_19 : decode cX0_read 19 = .ok (.goto 4, 3) := by decide +kernel
theorem dX0_read_22 : decode cX0_read 22 = .ok (.iconst 0, 1) := by decide +kernel
theorem dX0_read_23 : decode cX0_read 23 = .ok (.ireturn, 1) := by decide +kernel
set_option maxHeartbeats 4000000 in
set_option maxRecDepth 100000 in
theorem m_X0_read (l : Launch) (D : va_G) (cA : ClassId) (n : Nat) (a_this a_this_cells : Nat) (g_cells : Ar) (i1 : Int32) (out : Int32) (hF : F_X0_read n g_cells i1 = some out) : zM l D cA yX0_read cX0_read 2 (some .int) 0 0 [.ref a_this, .int i1] (zw_0 cA n a_this a_this_cells g_cells) (zw_0 cA n a_this a_this_cells g_cells) (some (.int out)) := by
  refine z_body (by decide) (Nat.le_of_ble_eq_true rfl) ?_
  intro p e s m args below meth c ls H locs A X hl hw
  have hl : lv_has ls 2 [(0, .ref a_this), (1, .int i1)] := hl
  unfold F_X0_read at hF
  refine z_iload_n 0 X dX0_read_0 hl 1 rfl ?_
  refine z_if_lt 1 22 X dX0_read_1 (by decide) (fun c1 => ?_) (fun c1 => ?_)
  · replace hF := zpos c1 hF
    refine z_iconst 22 0 X dX0_read_22 (by decide) ?_
    cases hF
    exact z_iret 23 X dX0_read_23 hw rfl rfl
  · replace hF := zneg c1 hF
    refine z_iload_n 4 X dX0_read_4 hl 1 rfl ?_
    refine z_aload_n 5 X dX0_read_5 hl 0 rfl ?_
    refine z_get 6 zc0 0 0 fl_0_13 X dX0_read_6 hw rfl (by decide) rfl ?_
    refine z_alen 9 1 (Int32.ofNat n) X dX0_read_9 hw rfl rfl ?_
    refine z_icmp_ge 10 22 X dX0_read_10 (by decide) (fun c2 => ?_) (fun c2 => ?_)
    · replace hF := zpos c2 hF
      refine z_iconst 22 0 X dX0_read_22 (by decide) ?_
      cases hF
      exact z_iret 23 X dX0_read_23 hw rfl rfl
    · replace hF := zneg c2 hF
      refine z_aload_n 13 X dX0_read_13 hl 0 rfl ?_
      refine z_get 14 zc0 0 0 fl_0_13 X dX0_read_14 hw rfl (by decide) rfl ?_
      refine z_iload_n 17 X dX0_read_17 hl 1 rfl ?_
      obtain ⟨gd3, hF⟩ := zgd hF
      refine z_iald 18 1 (g_cells i1.toNatClampNeg) X dX0_read_18 hw rfl gd3 rfl ?_
      refine z_goto 19 23 X dX0_read_19 (by decide) ?_
      cases hF
      exact z_iret 23 X dX0_read_23 hw rfl rfl
theorem dX8_isSetting_0 : decode cX8_isSetting 0 = .ok (.iload_n 0, 1) := by decide +kernel
theorem dX8_isSetting_1 : decode cX8_isSetting 1 = .ok (.ifCond .ne 20, 3) := by decide +kernel
theorem dX8_isSetting_4 : decode cX8_isSetting 4 = .ok (.iload_n 1, 1) := by decide +kernel
theorem dX8_isSetting_5 : decode cX8_isSetting 5 = .ok (.iconst 1, 1) := by decide +kernel
theorem dX8_isSetting_6 : decode cX8_isSetting 6 = .ok (.if_icmp .lt 13, 3) := by decide +kernel
theorem dX8_isSetting_9 : decode cX8_isSetting 9 = .ok (.iload_n 1, 1) := by decide +kernel
theorem dX8_isSetting_10 : decode cX8_isSetting 10 = .ok (.bipush 16, 2) := by decide +kernel
theorem dX8_isSetting_12 : decode cX8_isSetting 12 = .ok (.if_icmp .gt 7, 3) := by decide +kernel
theorem dX8_isSetting_15 : decode cX8_isSetting 15 = .ok (.iconst 1, 1) := by decide +kernel
theorem dX8_isSetting_16 : decode cX8_isSetting 16 = .ok (.goto 4, 3) := by decide +kernel
theorem dX8_isSetting_19 : decode cX8_isSetting 19 = .ok (.iconst 0, 1) := by decide +kernel
theorem dX8_isSetting_20 : decode cX8_isSetting 20 = .ok (.ireturn, 1) := by decide +kernel
theorem dX8_isSetting_21 : decode cX8_isSetting 21 = .ok (.iload_n 0, 1) := by decide +kernel
theorem dX8_isSetting_22 : decode cX8_isSetting 22 = .ok (.iconst 1, 1) := by decide +kernel
theorem dX8_isSetting_23 : decode cX8_isSetting 23 = .ok (.if_icmp .ne 18, 3) := by decide +kernel
theorem dX8_isSetting_26 : decode cX8_isSetting 26 = .ok (.iload_n 1, 1) := by decide +kernel
theorem dX8_isSetting_27 : decode cX8_isSetting 27 = .ok (.iconst 1, 1) := by decide +kernel
theorem dX8_isSetting_28 : decode cX8_isSetting 28 = .ok (.if_icmp .lt 13, 3) := by decide +kernel
theorem dX8_isSetting_31 : decode cX8_isSetting 31 = .ok (.iload_n 1, 1) := by decide +kernel
theorem dX8_isSetting_32 : decode cX8_isSetting 32 = .ok (.bipush 30, 2) := by decide +kernel
theorem dX8_isSetting_34 : decode cX8_isSetting 34 = .ok (.if_icmp .gt 7, 3) := by decide +kernel
theorem dX8_isSetting_37 : decode cX8_isSetting 37 = .ok (.iconst 1, 1) := by decide +kernel
theorem dX8_isSetting_38 : decode cX8_isSetting 38 = .ok (.goto 4, 3) := by decide +kernel
theorem dX8_isSetting_41 : decode cX8_isSetting 41 = .ok (.iconst 0, 1) := by decide +kernel
theorem dX8_isSetting_42 : decode cX8_isSetting 42 = .ok (.ireturn, 1) := by decide +kernel
set_option maxHeartbeats 4000000 in
set_option maxRecDepth 100000 in
theorem m_X8_isSetting (l : Launch) (D : va_G) (cA : ClassId) (i0 : Int32) (i1 : Int32) (out : Int32) (hF : F_X8_isSetting i0 i1 = some out) : zM l D cA yX8_isSetting cX8_isSetting 2 (some .boolean) 0 0 [.int i0, .int i1] (zw_4 cA 0  ) (zw_4 cA 0  ) (some (.int out)) := by
  refine z_body (by decide) (Nat.le_of_ble_eq_true rfl) ?_
  intro p e s m args below meth c ls H locs A X hl hw
  have hl : lv_has ls 2 [(0, .int i0), (1, .int i1)] := hl
  unfold F_X8_isSetting at hF
  refine z_iload_n 0 X dX8_isSetting_0 hl 0 rfl ?_
  refine z_if_ne 1 21 X dX8_isSetting_1 (by decide) (fun c1 => ?_) (fun c1 => ?_)
  · replace hF := zneg c1 hF
    refine z_iload_n 21 X dX8_isSetting_21 hl 0 rfl ?_
    refine z_iconst 22 1 X dX8_isSetting_22 (by decide) ?_
    refine z_icmp_ne 23 41 X dX8_isSetting_23 (by decide) (fun c2 => ?_) (fun c2 => ?_)
    · replace hF := zneg c2 hF
      refine z_iconst 41 0 X dX8_isSetting_41 (by decide) ?_
      cases hF
      exact z_zret 42 X dX8_isSetting_42 hw (by decide) rfl rfl
    · replace hF := zpos c2 hF
      refine z_iload_n 26 X dX8_isSetting_26 hl 1 rfl ?_
      refine z_iconst 27 1 X dX8_isSetting_27 (by decide) ?_
      refine z_icmp_lt 28 41 X dX8_isSetting_28 (by decide) (fun c3 => ?_) (fun c3 => ?_)
      · replace hF := zpos c3 hF
        refine z_iconst 41 0 X dX8_isSetting_41 (by decide) ?_
        cases hF
        exact z_zret 42 X dX8_isSetting_42 hw (by decide) rfl rfl
      · replace hF := zneg c3 hF
        refine z_iload_n 31 X dX8_isSetting_31 hl 1 rfl ?_
        refine z_bipush 32 30 X dX8_isSetting_32 (by decide) ?_
        refine z_icmp_gt 34 41 X dX8_isSetting_34 (by decide) (fun c4 => ?_) (fun c4 => ?_)
        · replace hF := zpos c4 hF
          refine z_iconst 41 0 X dX8_isSetting_41 (by decide) ?_
          cases hF
          exact z_zret 42 X dX8_isSetting_42 hw (by decide) rfl rfl
        · replace hF := zneg c4 hF
          refine z_iconst 37 1 X dX8_isSetting_37 (by decide) ?_
          refine z_goto 38 42 X dX8_isSetting_38 (by decide) ?_
          cases hF
          exact z_zret 42 X dX8_isSetting_42 hw (by decide) rfl rfl
  · replace hF := zpos c1 hF
    refine z_iload_n 4 X dX8_isSetting_4 hl 1 rfl ?_
    refine z_iconst 5 1 X dX8_isSetting_5 (by decide) ?_
    refine z_icmp_lt 6 19 X dX8_isSetting_6 (by decide) (fun c5 => ?_) (fun c5 => ?_)
    · replace hF := zpos c5 hF
      refine z_iconst 19 0 X dX8_isSetting_19 (by decide) ?_
      cases hF
      exact z_zret 20 X dX8_isSetting_20 hw (by decide) rfl rfl
    · replace hF := zneg c5 hF
      refine z_iload_n 9 X dX8_isSetting_9 hl 1 rfl ?_
      refine z_bipush 10 16 X dX8_isSetting_10 (by decide) ?_
      refine z_icmp_gt 12 19 X dX8_isSetting_12 (by decide) (fun c6 => ?_) (fun c6 => ?_)
      · replace hF := zpos c6 hF
        refine z_iconst 19 0 X dX8_isSetting_19 (by decide) ?_
        cases hF
        exact z_zret 20 X dX8_isSetting_20 hw (by decide) rfl rfl
      · replace hF := zneg c6 hF
        refine z_iconst 15 1 X dX8_isSetting_15 (by decide) ?_
        refine z_goto 16 20 X dX8_isSetting_16 (by decide) ?_
        cases hF
        exact z_zret 20 X dX8_isSetting_20 hw (by decide) rfl rfl
theorem dX8_isEscape_0 : decode cX8_isEscape 0 = .ok (.iload_n 0, 1) := by decide +kernel
theorem dX8_isEscape_1 : decode cX8_isEscape 1 = .ok (.iload_n 1, 1) := by decide +kernel
theorem dX8_isEscape_2 : decode cX8_isEscape 2 = .ok (.ishr, 1) := by decide +kernel
theorem dX8_isEscape_3 : decode cX8_isEscape 3 = .ok (.iload_n 2, 1) := by decide +kernel
theorem dX8_isEscape_4 : decode cX8_isEscape 4 = .ok (.if_icmp .lt 7, 3) := by decide +kernel
theorem dX8_isEscape_7 : decode cX8_isEscape 7 = .ok (.iconst 1, 1) := by decide +kernel
theorem dX8_isEscape_8 : decode cX8_isEscape 8 = .ok (.goto 4, 3) := by decide +kernel
theorem dX8_isEscape_11 : decode cX8_isEscape 11 = .ok (.iconst 0, 1) := by decide +kernel
theorem dX8_isEscape_12 : decode cX8_isEscape 12 = .ok (.ireturn, 1) := by decide +kernel
set_option maxHeartbeats 4000000 in
set_option maxRecDepth 100000 in
theorem m_X8_isEscape (l : Launch) (D : va_G) (cA : ClassId) (i0 : Int32) (i1 : Int32) (i2 : Int32) (out : Int32) (hF : F_X8_isEscape i0 i1 i2 = some out) : zM l D cA yX8_isEscape cX8_isEscape 3 (some .boolean) 0 0 [.int i0, .int i1, .int i2] (zw_4 cA 0  ) (zw_4 cA 0  ) (some (.int out)) := by
  refine z_body (by decide) (Nat.le_of_ble_eq_true rfl) ?_
  intro p e s m args below meth c ls H locs A X hl hw
  have hl : lv_has ls 3 [(0, .int i0), (1, .int i1), (2, .int i2)] := hl
  unfold F_X8_isEscape at hF
  refine z_iload_n 0 X dX8_isEscape_0 hl 0 rfl ?_
  refine z_iload_n 1 X dX8_isEscape_1 hl 1 rfl ?_
  refine z_ishr 2 X dX8_isEscape_2 ?_
  refine z_iload_n 3 X dX8_isEscape_3 hl 2 rfl ?_
  refine z_icmp_lt 4 11 X dX8_isEscape_4 (by decide) (fun c1 => ?_) (fun c1 => ?_)
  · replace hF := zpos c1 hF
    refine z_iconst 11 0 X dX8_isEscape_11 (by decide) ?_
    cases hF
    exact z_zret 12 X dX8_isEscape_12 hw (by decide) rfl rfl
  · replace hF := zneg c1 hF
    refine z_iconst 7 1 X dX8_isEscape_7 (by decide) ?_
    refine z_goto 8 12 X dX8_isEscape_8 (by decide) ?_
    cases hF
    exact z_zret 12 X dX8_isEscape_12 hw (by decide) rfl rfl
theorem dX8_codeBits_0 : decode cX8_codeBits 0 = .ok (.iload_n 0, 1) := by decide +kernel
theorem dX8_codeBits_1 : decode cX8_codeBits 1 = .ok (.iload_n 1, 1) := by decide +kernel
theorem dX8_codeBits_2 : decode cX8_codeBits 2 = .ok (.iload_n 2, 1) := by decide +kernel
theorem dX8_codeBits_3 : decode cX8_codeBits 3 = .ok (.invokestatic 270, 3) := by decide +kernel
theorem dX8_codeBits_6 : decode cX8_codeBits 6 = .ok (.ifCond .eq 10, 3) := by decide +kernel
theorem dX8_codeBits_9 : decode cX8_codeBits 9 = .ok (.iload_n 2, 1) := by decide +kernel
theorem dX8_codeBits_10 : decode cX8_codeBits 10 = .ok (.bipush 16, 2) := by decide +kernel
theorem dX8_codeBits_12 : decode cX8_codeBits 12 = .ok (.iadd, 1) := by decide +kernel
theorem dX8_codeBits_13 : decode cX8_codeBits 13 = .ok (.goto 10, 3) := by decide +kernel
theorem dX8_codeBits_16 : decode cX8_codeBits 16 = .ok (.iload_n 0, 1) := by decide +kernel
theorem dX8_codeBits_17 : decode cX8_codeBits 17 = .ok (.iload_n 1, 1) := by decide +kernel
theorem dX8_codeBits_18 : decode cX8_codeBits 18 = .ok (.ishr, 1) := by decide +kernel
theorem dX8_codeBits_19 : decode cX8_codeBits 19 = .ok (.iconst 1, 1) := by decide +kernel
theorem dX8_codeBits_20 : decode cX8_codeBits 20 = .ok (.iadd, 1) := by decide +kernel
theorem dX8_codeBits_21 : decode cX8_codeBits 21 = .ok (.iload_n 1, 1) := by decide +kernel
theorem dX8_codeBits_22 : decode cX8_codeBits 22 = .ok (.iadd, 1) := by decide +kernel
theorem dX8_codeBits_23 : decode cX8_codeBits 23 = .ok (.ireturn, 1) := by decide +kernel
set_option maxHeartbeats 4000000 in
set_option maxRecDepth 100000 in
theorem zk_6 (cA : ClassId) (n : Nat)    : zCW (zw_4 cA n  ) (zw_4 cA n  ) [] [] (zw_4 cA 0  ) (zw_4 cA 0  ) := ⟨rfl, (show (zw_4 cA 0  ).map Prod.fst = ([] : List Nat) from rfl).trans (show (zw_4 cA 0  ).map Prod.fst = ([] : List Nat) from rfl).symm, by decide +kernel, (show (zw_4 cA n  ).map Prod.fst = ([] : List Nat) from rfl).trans (show (zw_4 cA n  ).map Prod.fst = ([] : List Nat) from rfl).symm, rfl, rfl, by decide +kernel, rfl⟩
set_option maxHeartbeats 4000000 in
set_option maxRecDepth 100000 in
theorem m_X8_codeBits (l : Launch) (D : va_G) (cA : ClassId) (i0 : Int32) (i1 : Int32) (i2 : Int32) (out : Int32) (hF : F_X8_codeBits i0 i1 i2 = some out) : zM l D cA yX8_codeBits cX8_codeBits 3 (some .int) 1 22 [.int i0, .int i1, .int i2] (zw_4 cA 0  ) (zw_4 cA 0  ) (some (.int out)) := by
  refine z_body (by decide) (Nat.le_of_ble_eq_true rfl) ?_
  intro p e s m args below meth c ls H locs A X hl hw
  have hl : lv_has ls 3 [(0, .int i0), (1, .int i1), (2, .int i2)] := hl
  unfold F_X8_codeBits at hF
  refine z_iload_n 0 X dX8_codeBits_0 hl 0 rfl ?_
  refine z_iload_n 1 X dX8_codeBits_1 hl 1 rfl ?_
  refine z_iload_n 2 X dX8_codeBits_2 hl 2 rfl ?_
  obtain ⟨u1, e2, hF⟩ := zbd hF
  refine z_callS 3 mv_X8_isEscape ml_8_270 [] (zk_6 cA 0) (m_X8_isEscape l D cA i0 i1 i2 u1 e2) X dX8_codeBits_3 hw hl rfl rfl (Nat.le_of_ble_eq_true rfl) ⟨Nat.le_of_ble_eq_true rfl, Nat.le_of_ble_eq_true rfl⟩ ⟨Nat.zero_le _, Nat.zero_le _⟩ (fun H locs hw => ?_)
  refine z_if_eq 6 16 X dX8_codeBits_6 (by decide) (fun c3 => ?_) (fun c3 => ?_)
  · replace hF := zpos c3 hF
    refine z_iload_n 16 X dX8_codeBits_16 hl 0 rfl ?_
    refine z_iload_n 17 X dX8_codeBits_17 hl 1 rfl ?_
    refine z_ishr 18 X dX8_codeBits_18 ?_
    refine z_iconst 19 1 X dX8_codeBits_19 (by decide) ?_
    refine z_iadd 20 X dX8_codeBits_20 ?_
    refine z_iload_n 21 X dX8_codeBits_21 hl 1 rfl ?_
    refine z_iadd 22 X dX8_codeBits_22 ?_
    cases hF
    exact z_iret 23 X dX8_codeBits_23 hw rfl rfl
  · replace hF := zneg c3 hF
    refine z_iload_n 9 X dX8_codeBits_9 hl 2 rfl ?_
    refine z_bipush 10 16 X dX8_codeBits_10 (by decide) ?_
    refine z_iadd 12 X dX8_codeBits_12 ?_
    refine z_goto 13 23 X dX8_codeBits_13 (by decide) ?_
    cases hF
    exact z_iret 23 X dX8_codeBits_23 hw rfl rfl
theorem dX8_isNumber_0 : decode cX8_isNumber 0 = .ok (.iload_n 0, 1) := by decide +kernel
theorem dX8_isNumber_1 : decode cX8_isNumber 1 = .ok (.ifCond .lt 13, 3) := by decide +kernel
theorem dX8_isNumber_4 : decode cX8_isNumber 4 = .ok (.iload_n 0, 1) := by decide +kernel
theorem dX8_isNumber_5 : decode cX8_isNumber 5 = .ok (.ldc 76, 2) := by decide +kernel
theorem dX8_isNumber_7 : decode cX8_isNumber 7 = .ok (.if_icmp .gt 7, 3) := by decide +kernel
theorem dX8_isNumber_10 : decode cX8_isNumber 10 = .ok (.iconst 1, 1) := by decide +kernel
theorem dX8_isNumber_11 : decode cX8_isNumber 11 = .ok (.goto 4, 3) := by decide +kernel
theorem dX8_isNumber_14 : decode cX8_isNumber 14 = .ok (.iconst 0, 1) := by decide +kernel
theorem dX8_isNumber_15 : decode cX8_isNumber 15 = .ok (.ireturn, 1) := by decide +kernel
set_option maxHeartbeats 4000000 in
set_option maxRecDepth 100000 in
theorem m_X8_isNumber (l : Launch) (D : va_G) (cA : ClassId) (i0 : Int32) (out : Int32) (hF : F_X8_isNumber i0 = some out) : zM l D cA yX8_isNumber cX8_isNumber 1 (some .boolean) 0 0 [.int i0] (zw_4 cA 0  ) (zw_4 cA 0  ) (some (.int out)) := by
  refine z_body (by decide) (Nat.le_of_ble_eq_true rfl) ?_
  intro p e s m args below meth c ls H locs A X hl hw
  have hl : lv_has ls 1 [(0, .int i0)] := hl
  unfold F_X8_isNumber at hF
  refine z_iload_n 0 X dX8_isNumber_0 hl 0 rfl ?_
  refine z_if_lt 1 14 X dX8_isNumber_1 (by decide) (fun c1 => ?_) (fun c1 => ?_)
  · replace hF := zpos c1 hF
    refine z_iconst 14 0 X dX8_isNumber_14 (by decide) ?_
    cases hF
    exact z_zret 15 X dX8_isNumber_15 hw (by decide) rfl rfl
  · replace hF := zneg c1 hF
    refine z_iload_n 4 X dX8_isNumber_4 hl 0 rfl ?_
    refine z_ldc 5 65535 X dX8_isNumber_5 cl_8_76 ?_
    refine z_icmp_gt 7 14 X dX8_isNumber_7 (by decide) (fun c2 => ?_) (fun c2 => ?_)
    · replace hF := zpos c2 hF
      refine z_iconst 14 0 X dX8_isNumber_14 (by decide) ?_
      cases hF
      exact z_zret 15 X dX8_isNumber_15 hw (by decide) rfl rfl
    · replace hF := zneg c2 hF
      refine z_iconst 10 1 X dX8_isNumber_10 (by decide) ?_
      refine z_goto 11 15 X dX8_isNumber_11 (by decide) ?_
      cases hF
      exact z_zret 15 X dX8_isNumber_15 hw (by decide) rfl rfl
