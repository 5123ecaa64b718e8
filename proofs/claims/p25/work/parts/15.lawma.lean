theorem dL_up_0 : decode cL_up 0 = .ok (.iload_n 0, 1) := by decide +kernel
theorem dL_up_1 : decode cL_up 1 = .ok (.ldc 8, 2) := by decide +kernel
theorem dL_up_3 : decode cL_up 3 = .ok (.iand, 1) := by decide +kernel
theorem dL_up_4 : decode cL_up 4 = .ok (.iload_n 1, 1) := by decide +kernel
theorem dL_up_5 : decode cL_up 5 = .ok (.irem, 1) := by decide +kernel
theorem dL_up_6 : decode cL_up 6 = .ok (.ireturn, 1) := by decide +kernel
set_option maxHeartbeats 4000000 in
set_option maxRecDepth 100000 in
theorem m_L_up (l : Launch) (D : va_G) (cA : ClassId) (i0 : Int32) (i1 : Int32) (out : Int32) (hF : F_L_up i0 i1 = some out) : zM l D cA yL_up cL_up 2 (some .int) 0 0 [.int i0, .int i1] (zw_4 cA 0  ) (zw_4 cA 0  ) (some (.int out)) := by
  refine z_body (by decide) (Nat.le_of_ble_eq_true rfl) ?_
  intro p e s m args below meth c ls H locs A X hl hw
  have hl : lv_has ls 2 [(0, .int i0), (1, .int i1)] := hl
  unfold F_L_up at hF
  refine z_iload_n 0 X dL_up_0 hl 0 rfl ?_
  refine z_ldc 1 2147483647 X dL_up_1 cl_L_8 ?_
  refine z_iand 3 X dL_up_3 ?_
  refine z_iload_n 4 X dL_up_4 hl 1 rfl ?_
  obtain ⟨gd1, hF⟩ := zgd hF
  refine z_irem 5 X dL_up_5 gd1 ?_
  cases hF
  exact z_iret 6 X dL_up_6 hw rfl rfl
theorem dL_cell_0 : decode cL_cell 0 = .ok (.iload_n 1, 1) := by decide +kernel
theorem dL_cell_1 : decode cL_cell 1 = .ok (.aload_n 0, 1) := by decide +kernel
theorem dL_cell_2 : decode cL_cell 2 = .ok (.arraylength, 1) := by decide +kernel
theorem dL_cell_3 : decode cL_cell 3 = .ok (.if_icmp .ge 9, 3) := by decide +kernel
theorem dL_cell_6 : decode cL_cell 6 = .ok (.aload_n 0, 1) := by decide +kernel
theorem dL_cell_7 : decode cL_cell 7 = .ok (.iload_n 1, 1) := by decide +kernel
theorem dL_cell_8 : decode cL_cell 8 = .ok (.iaload, 1) := by decide +kernel
theorem dL_cell_9 : decode cL_cell 9 = .ok (.goto 11, 3) := by decide +kernel
theorem dL_cell_12 : decode cL_cell 12 = .ok (.ldc 7, 2) := by decide +kernel
theorem dL_cell_14 : decode cL_cell 14 = .ok (.iload_n 1, 1) := by decide +kernel
theorem dL_cell_15 : decode cL_cell 15 = .ok (.sipush 859, 3) := by decide +kernel
theorem dL_cell_18 : decode cL_cell 18 = .ok (.iadd, 1) := by decide +kernel
theorem dL_cell_19 : decode cL_cell 19 = .ok (.imul, 1) := by decide +kernel
theorem dL_cell_20 : decode cL_cell 20 = .ok (.ireturn, 1) := by decide +kernel
set_option maxHeartbeats 4000000 in
set_option maxRecDepth 100000 in
theorem m_L_cell (l : Launch) (D : va_G) (cA : ClassId) (a_script : Nat) (i1 : Int32) (L : Nat) (xs : Nat → Int32) (out : Int32) (hF : F_L_cell xs L i1 = some out) : zMx l D cA yL_cell cL_cell 2 (some .int) 0 0 [.ref a_script, .int i1] a_script L xs (some (.int out)) := by
  refine z_bodyx (by decide) (Nat.le_of_ble_eq_true rfl) ?_
  intro p e s m args below meth c ls H locs A X hS hl hw
  have hl : lv_has ls 2 [(0, .ref a_script), (1, .int i1)] := hl
  unfold F_L_cell at hF
  refine z_iload_n 0 X dL_cell_0 hl 1 rfl ?_
  refine z_aload_n 1 X dL_cell_1 hl 0 rfl ?_
  refine z_slen 2 X dL_cell_2 hw hS ?_
  refine z_icmp_ge 3 12 X dL_cell_3 (by decide) (fun c1 => ?_) (fun c1 => ?_)
  · replace hF := zpos c1 hF
    refine z_ldc 12 1996959894 X dL_cell_12 cl_L_7 ?_
    refine z_iload_n 14 X dL_cell_14 hl 1 rfl ?_
    refine z_sipush 15 859 X dL_cell_15 (by decide) ?_
    refine z_iadd 18 X dL_cell_18 ?_
    refine z_imul 19 X dL_cell_19 ?_
    cases hF
    exact z_iret 20 X dL_cell_20 hw rfl rfl
  · replace hF := zneg c1 hF
    refine z_aload_n 6 X dL_cell_6 hl 0 rfl ?_
    refine z_iload_n 7 X dL_cell_7 hl 1 rfl ?_
    obtain ⟨gd2, hF⟩ := zgd hF
    refine z_sld 8 X dL_cell_8 hw hS gd2 ?_
    refine z_goto 9 20 X dL_cell_9 (by decide) ?_
    cases hF
    exact z_iret 20 X dL_cell_20 hw rfl rfl
