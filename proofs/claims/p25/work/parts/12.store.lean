theorem dX6_store_0 : decode cX6_store 0 = .ok (.iload_n 1, 1) := by decide +kernel
theorem dX6_store_1 : decode cX6_store 1 = .ok (.bipush 68, 2) := by decide +kernel
theorem dX6_store_3 : decode cX6_store 3 = .ok (.imul, 1) := by decide +kernel
theorem dX6_store_4 : decode cX6_store 4 = .ok (.istore_n 3, 1) := by decide +kernel
theorem dX6_store_5 : decode cX6_store 5 = .ok (.aload_n 0, 1) := by decide +kernel
theorem dX6_store_6 : decode cX6_store 6 = .ok (.getfield 16, 3) := by decide +kernel
theorem dX6_store_9 : decode cX6_store 9 = .ok (.iload_n 3, 1) := by decide +kernel
theorem dX6_store_10 : decode cX6_store 10 = .ok (.iconst 1, 1) := by decide +kernel
theorem dX6_store_11 : decode cX6_store 11 = .ok (.invokevirtual 24, 3) := by decide +kernel
theorem dX6_store_14 : decode cX6_store 14 = .ok (.aload_n 0, 1) := by decide +kernel
theorem dX6_store_15 : decode cX6_store 15 = .ok (.getfield 16, 3) := by decide +kernel
theorem dX6_store_18 : decode cX6_store 18 = .ok (.iload_n 3, 1) := by decide +kernel
theorem dX6_store_19 : decode cX6_store 19 = .ok (.iconst 1, 1) := by decide +kernel
theorem dX6_store_20 : decode cX6_store 20 = .ok (.iadd, 1) := by decide +kernel
theorem dX6_store_21 : decode cX6_store 21 = .ok (.aload_n 2, 1) := by decide +kernel
theorem dX6_store_22 : decode cX6_store 22 = .ok (.getfield 28, 3) := by decide +kernel
theorem dX6_store_25 : decode cX6_store 25 = .ok (.invokevirtual 24, 3) := by decide +kernel
theorem dX6_store_28 : decode cX6_store 28 = .ok (.aload_n 0, 1) := by decide +kernel
theorem dX6_store_29 : decode cX6_store 29 = .ok (.getfield 16, 3) := by decide +kernel
theorem dX6_store_32 : decode cX6_store 32 = .ok (.iload_n 3, 1) := by decide +kernel
theorem dX6_store_33 : decode cX6_store 33 = .ok (.iconst 2, 1) := by decide +kernel
theorem dX6_store_34 : decode cX6_store 34 = .ok (.iadd, 1) := by decide +kernel
theorem dX6_store_35 : decode cX6_store 35 = .ok (.aload_n 2, 1) := by decide +kernel
theorem dX6_store_36 : decode cX6_store 36 = .ok (.getfield 34, 3) := by decide +kernel
theorem dX6_store_39 : decode cX6_store 39 = .ok (.invokevirtual 24, 3) := by decide +kernel
theorem dX6_store_42 : decode cX6_store 42 = .ok (.aload_n 0, 1) := by decide +kernel
theorem dX6_store_43 : decode cX6_store 43 = .ok (.getfield 16, 3) := by decide +kernel
theorem dX6_store_46 : decode cX6_store 46 = .ok (.iload_n 3, 1) := by decide +kernel
theorem dX6_store_47 : decode cX6_store 47 = .ok (.iconst 3, 1) := by decide +kernel
theorem dX6_store_48 : decode cX6_store 48 = .ok (.iadd, 1) := by decide +kernel
theorem dX6_store_49 : decode cX6_store 49 = .ok (.aload_n 2, 1) := by decide +kernel
theorem dX6_store_50 : decode cX6_store 50 = .ok (.getfield 37, 3) := by decide +kernel
theorem dX6_store_53 : decode cX6_store 53 = .ok (.invokevirtual 24, 3) := by decide +kernel
theorem dX6_store_56 : decode cX6_store 56 = .ok (.iconst 0, 1) := by decide +kernel
theorem dX6_store_57 : decode cX6_store 57 = .ok (.istore 4, 2) := by decide +kernel
theorem dX6_store_59 : decode cX6_store 59 = .ok (.iload 4, 2) := by decide +kernel
theorem dX6_store_61 : decode cX6_store 61 = .ok (.aload_n 2, 1) := by decide +kernel
theorem dX6_store_62 : decode cX6_store 62 = .ok (.getfield 28, 3) := by decide +kernel
theorem dX6_store_65 : decode cX6_store 65 = .ok (.if_icmp .ge 28, 3) := by decide +kernel
theorem dX6_store_68 : decode cX6_store 68 = .ok (.aload_n 0, 1) := by decide +kernel
theorem dX6_store_69 : decode cX6_store 69 = .ok (.getfield 16, 3) := by decide +kernel
theorem dX6_store_72 : decode cX6_store 72 = .ok (.iload_n 3, 1) := by decide +kernel
theorem dX6_store_73 : decode cX6_store 73 = .ok (.iconst 4, 1) := by decide +kernel
theorem dX6_store_74 : decode cX6_store 74 = .ok (.iadd, 1) := by decide +kernel
theorem dX6_store_75 : decode cX6_store 75 = .ok (.iload 4, 2) := by decide +kernel
theorem dX6_store_77 : decode cX6_store 77 = .ok (.iadd, 1) := by decide +kernel
theorem dX6_store_78 : decode cX6_store 78 = .ok (.aload_n 2, 1) := by decide +kernel
theorem dX6_store_79 : decode cX6_store 79 = .ok (.iload 4, 2) := by decide +kernel
theorem dX6_store_81 : decode cX6_store 81 = .ok (.invokevirtual 40, 3) := by decide +kernel
theorem dX6_store_84 : decode cX6_store 84 = .ok (.invokevirtual 24, 3) := by decide +kernel
theorem dX6_store_87 : decode cX6_store 87 = .ok (.iinc 4 1, 3) := by decide +kernel
theorem dX6_store_90 : decode cX6_store 90 = .ok (.goto (-31), 3) := by decide +kernel
theorem dX6_store_93 : decode cX6_store 93 = .ok (.return_, 1) := by decide +kernel
set_option maxHeartbeats 4000000 in
set_option maxRecDepth 100000 in
theorem zk_1 (cA : ClassId) (n : Nat) (a_this a_this_cells a_this_cells_cells a_p2 a_p2_numbers a_p2_numbers_cells : Nat) (g_cells_cells : Ar) (v_p2_length : Int32) (v_p2_blockSize : Int32) (v_p2_ones : Int32) (g_p2_numbers_cells : Ar) (g_cells_cells' : Ar) : zCW (zw_2 cA n a_this a_this_cells a_this_cells_cells a_p2 a_p2_numbers a_p2_numbers_cells g_cells_cells v_p2_length v_p2_blockSize v_p2_ones g_p2_numbers_cells) (zw_2 cA n a_this a_this_cells a_this_cells_cells a_p2 a_p2_numbers a_p2_numbers_cells g_cells_cells' v_p2_length v_p2_blockSize v_p2_ones g_p2_numbers_cells) [1, 2] [0, 3, 4, 5] (zw_0 cA n a_this_cells a_this_cells_cells g_cells_cells) (zw_0 cA n a_this_cells a_this_cells_cells g_cells_cells') := ⟨rfl, (show (zw_0 cA n a_this_cells a_this_cells_cells g_cells_cells').map Prod.fst = ([a_this_cells, a_this_cells_cells] : List Nat) from rfl).trans (show (zw_0 cA n a_this_cells a_this_cells_cells g_cells_cells).map Prod.fst = ([a_this_cells, a_this_cells_cells] : List Nat) from rfl).symm, by decide +kernel, (show (zw_2 cA n a_this a_this_cells a_this_cells_cells a_p2 a_p2_numbers a_p2_numbers_cells g_cells_cells' v_p2_length v_p2_blockSize v_p2_ones g_p2_numbers_cells).map Prod.fst = ([a_this, a_this_cells, a_this_cells_cells, a_p2, a_p2_numbers, a_p2_numbers_cells] : List Nat) from rfl).trans (show (zw_2 cA n a_this a_this_cells a_this_cells_cells a_p2 a_p2_numbers a_p2_numbers_cells g_cells_cells v_p2_length v_p2_blockSize v_p2_ones g_p2_numbers_cells).map Prod.fst = ([a_this, a_this_cells, a_this_cells_cells, a_p2, a_p2_numbers, a_p2_numbers_cells] : List Nat) from rfl).symm, rfl, (show ([0, 3, 4, 5] : List Nat).map (fun i => (zw_2 cA n a_this a_this_cells a_this_cells_cells a_p2 a_p2_numbers a_p2_numbers_cells g_cells_cells' v_p2_length v_p2_blockSize v_p2_ones g_p2_numbers_cells)[i]?) = ([(a_this, .inr (6, [.ref a_this_cells])), (a_p2, .inr (5, [.ref a_p2_numbers, .int v_p2_length, .int v_p2_blockSize, .int v_p2_ones])), (a_p2_numbers, .inr (0, [.ref a_p2_numbers_cells])), (a_p2_numbers_cells, .inl (cA, 64, .inl g_p2_numbers_cells))] : va_W).map some from rfl).trans (show ([0, 3, 4, 5] : List Nat).map (fun i => (zw_2 cA n a_this a_this_cells a_this_cells_cells a_p2 a_p2_numbers a_p2_numbers_cells g_cells_cells v_p2_length v_p2_blockSize v_p2_ones g_p2_numbers_cells)[i]?) = ([(a_this, .inr (6, [.ref a_this_cells])), (a_p2, .inr (5, [.ref a_p2_numbers, .int v_p2_length, .int v_p2_blockSize, .int v_p2_ones])), (a_p2_numbers, .inr (0, [.ref a_p2_numbers_cells])), (a_p2_numbers_cells, .inl (cA, 64, .inl g_p2_numbers_cells))] : va_W).map some from rfl).symm, by decide +kernel, rfl⟩
set_option maxHeartbeats 4000000 in
set_option maxRecDepth 100000 in
theorem zk_2 (cA : ClassId) (n : Nat) (a_this a_this_cells a_this_cells_cells a_p2 a_p2_numbers a_p2_numbers_cells : Nat) (g_cells_cells : Ar) (v_p2_length : Int32) (v_p2_blockSize : Int32) (v_p2_ones : Int32) (g_p2_numbers_cells : Ar)  : zCW (zw_2 cA n a_this a_this_cells a_this_cells_cells a_p2 a_p2_numbers a_p2_numbers_cells g_cells_cells v_p2_length v_p2_blockSize v_p2_ones g_p2_numbers_cells) (zw_2 cA n a_this a_this_cells a_this_cells_cells a_p2 a_p2_numbers a_p2_numbers_cells g_cells_cells v_p2_length v_p2_blockSize v_p2_ones g_p2_numbers_cells) [3, 4, 5] [0, 1, 2] (zw_1 cA 0 a_p2 a_p2_numbers a_p2_numbers_cells v_p2_length v_p2_blockSize v_p2_ones g_p2_numbers_cells) (zw_1 cA 0 a_p2 a_p2_numbers a_p2_numbers_cells v_p2_length v_p2_blockSize v_p2_ones g_p2_numbers_cells) := ⟨rfl, (show (zw_1 cA 0 a_p2 a_p2_numbers a_p2_numbers_cells v_p2_length v_p2_blockSize v_p2_ones g_p2_numbers_cells).map Prod.fst = ([a_p2, a_p2_numbers, a_p2_numbers_cells] : List Nat) from rfl).trans (show (zw_1 cA 0 a_p2 a_p2_numbers a_p2_numbers_cells v_p2_length v_p2_blockSize v_p2_ones g_p2_numbers_cells).map Prod.fst = ([a_p2, a_p2_numbers, a_p2_numbers_cells] : List Nat) from rfl).symm, by decide +kernel, (show (zw_2 cA n a_this a_this_cells a_this_cells_cells a_p2 a_p2_numbers a_p2_numbers_cells g_cells_cells v_p2_length v_p2_blockSize v_p2_ones g_p2_numbers_cells).map Prod.fst = ([a_this, a_this_cells, a_this_cells_cells, a_p2, a_p2_numbers, a_p2_numbers_cells] : List Nat) from rfl).trans (show (zw_2 cA n a_this a_this_cells a_this_cells_cells a_p2 a_p2_numbers a_p2_numbers_cells g_cells_cells v_p2_length v_p2_blockSize v_p2_ones g_p2_numbers_cells).map Prod.fst = ([a_this, a_this_cells, a_this_cells_cells, a_p2, a_p2_numbers, a_p2_numbers_cells] : List Nat) from rfl).symm, rfl, (show ([0, 1, 2] : List Nat).map (fun i => (zw_2 cA n a_this a_this_cells a_this_cells_cells a_p2 a_p2_numbers a_p2_numbers_cells g_cells_cells v_p2_length v_p2_blockSize v_p2_ones g_p2_numbers_cells)[i]?) = ([(a_this, .inr (6, [.ref a_this_cells])), (a_this_cells, .inr (0, [.ref a_this_cells_cells])), (a_this_cells_cells, .inl (cA, n, .inl g_cells_cells))] : va_W).map some from rfl).trans (show ([0, 1, 2] : List Nat).map (fun i => (zw_2 cA n a_this a_this_cells a_this_cells_cells a_p2 a_p2_numbers a_p2_numbers_cells g_cells_cells v_p2_length v_p2_blockSize v_p2_ones g_p2_numbers_cells)[i]?) = ([(a_this, .inr (6, [.ref a_this_cells])), (a_this_cells, .inr (0, [.ref a_this_cells_cells])), (a_this_cells_cells, .inl (cA, n, .inl g_cells_cells))] : va_W).map some from rfl).symm, by decide +kernel, rfl⟩
set_option maxHeartbeats 4000000 in
set_option maxRecDepth 100000 in
theorem l_X6_store_59 (l : Launch) (D : va_G) (cA : ClassId) (n : Nat) (a_this a_this_cells a_this_cells_cells a_p2 a_p2_numbers a_p2_numbers_cells : Nat) (v_p2_length : Int32) (v_p2_blockSize : Int32) (v_p2_ones : Int32) (g_p2_numbers_cells : Ar) (i3 : Int32) (out : Ar) {p : Program} {e : Env} {s : State} {m : MethodId} {args : Array Value} {below : List Frame} {meth : Method} {c : Code} {A : Nat → Prop} (X : zX D cA p s m args meth c cX6_store 5 RX6 none) (k : Ar → Option (Ar)) (hk : ∀ (g_cells_cells : Ar) (H : Heap) (locs : List Loc) (ls : Array Slot), zH D A s (zw_2 cA n a_this a_this_cells a_this_cells_cells a_p2 a_p2_numbers a_p2_numbers_cells g_cells_cells v_p2_length v_p2_blockSize v_p2_ones g_p2_numbers_cells) H locs → lv_has ls 5 [] → k g_cells_cells = some out → W p l e (zR 2 42) s m args below meth c H locs 0 0 (MQ below (zQ D (zw_2 cA n a_this a_this_cells a_this_cells_cells a_p2 a_p2_numbers a_p2_numbers_cells out v_p2_length v_p2_blockSize v_p2_ones g_p2_numbers_cells) none A) args s 0 0 A) (F0 m 93 ls [])) :
    ∀ (fuel : Nat) (g_cells_cells : Ar) (i4 : Int32) (H : Heap) (locs : List Loc) (ls : Array Slot), zH D A s (zw_2 cA n a_this a_this_cells a_this_cells_cells a_p2 a_p2_numbers a_p2_numbers_cells g_cells_cells v_p2_length v_p2_blockSize v_p2_ones g_p2_numbers_cells) H locs → lv_has ls 5 [(0, .ref a_this), (2, .ref a_p2), (3, .int i3), (4, .int i4)] → F_X6_store_L59 n v_p2_length g_p2_numbers_cells i3 k fuel g_cells_cells i4 = some out → W p l e (zR 2 42) s m args below meth c H locs 0 0 (MQ below (zQ D (zw_2 cA n a_this a_this_cells a_this_cells_cells a_p2 a_p2_numbers a_p2_numbers_cells out v_p2_length v_p2_blockSize v_p2_ones g_p2_numbers_cells) none A) args s 0 0 A) (F0 m 59 ls []) := by
  intro fuel
  induction fuel with
  | zero => intro g_cells_cells i4 H locs ls hw hl hF; exact nomatch (show (none : Option (Ar)) = some out from hF)
  | succ fuel ih =>
    intro g_cells_cells i4 H locs ls hw hl hF
    rw [F_X6_store_L59] at hF
    refine z_iload 59 X dX6_store_59 hl 3 rfl ?_
    refine z_aload_n 61 X dX6_store_61 hl 1 rfl ?_
    refine z_getN 62 zc5 3 1 fl_6_28 X dX6_store_62 hw rfl (by decide) rfl ?_
    refine z_icmp_ge 65 93 X dX6_store_65 (by decide) (fun c9 => ?_) (fun c9 => ?_)
    · replace hF := zpos c9 hF
      exact hk g_cells_cells H locs ls hw (lv_sub hl [] rfl) hF
    · replace hF := zneg c9 hF
      refine z_aload_n 68 X dX6_store_68 hl 0 rfl ?_
      refine z_get 69 zc6 0 0 fl_6_16 X dX6_store_69 hw rfl (by decide) rfl ?_
      refine z_iload_n 72 X dX6_store_72 hl 2 rfl ?_
      refine z_iconst 73 4 X dX6_store_73 (by decide) ?_
      refine z_iadd 74 X dX6_store_74 ?_
      refine z_iload 75 X dX6_store_75 hl 3 rfl ?_
      refine z_iadd 77 X dX6_store_77 ?_
      refine z_aload_n 78 X dX6_store_78 hl 1 rfl ?_
      refine z_iload 79 X dX6_store_79 hl 3 rfl ?_
      obtain ⟨u10, e11, hF⟩ := zbd hF
      refine z_callV 81 zc5 mv_X5_number ml_6_40 3 [.int ((i3 + 4) + i4), .ref a_this_cells] (zk_2 cA n a_this a_this_cells a_this_cells_cells a_p2 a_p2_numbers a_p2_numbers_cells g_cells_cells v_p2_length v_p2_blockSize v_p2_ones g_p2_numbers_cells) (m_X5_number l D cA a_p2 a_p2_numbers a_p2_numbers_cells v_p2_length v_p2_blockSize v_p2_ones g_p2_numbers_cells i4 u10 e11) X dX6_store_81 hw hl rfl rfl rfl (Nat.le_of_ble_eq_true rfl) ⟨Nat.le_of_ble_eq_true rfl, Nat.le_of_ble_eq_true rfl⟩ ⟨Nat.zero_le _, Nat.zero_le _⟩ (fun H locs hw => ?_)
      obtain ⟨u12, e13, hF⟩ := zbd hF
      refine z_callV 84 zc0 mv_X0_write ml_6_24 1 [] (zk_1 cA n a_this a_this_cells a_this_cells_cells a_p2 a_p2_numbers a_p2_numbers_cells g_cells_cells v_p2_length v_p2_blockSize v_p2_ones g_p2_numbers_cells u12) (m_X0_write l D cA n a_this_cells a_this_cells_cells g_cells_cells ((i3 + 4) + i4) u10 u12 e13) X dX6_store_84 hw hl rfl rfl rfl (Nat.le_of_ble_eq_true rfl) ⟨Nat.le_of_ble_eq_true rfl, Nat.le_of_ble_eq_true rfl⟩ ⟨Nat.zero_le _, Nat.zero_le _⟩ (fun H locs hw => ?_)
      refine z_iinc2 87 1 [(4, .int (i4 + 1)), (0, .ref a_this), (2, .ref a_p2), (3, .int i3)] X dX6_store_87 hl 3 rfl (by decide) (by decide) rfl (fun ls hl => ?_)
      refine z_goto 90 59 X dX6_store_90 (by decide) ?_
      exact ih u12 (i4 + 1) H locs ls hw (lv_sub hl [1, 2, 3, 0] rfl) hF
set_option maxHeartbeats 4000000 in
set_option maxRecDepth 100000 in
theorem m_X6_store (l : Launch) (D : va_G) (cA : ClassId) (n : Nat) (a_this a_this_cells a_this_cells_cells a_p2 a_p2_numbers a_p2_numbers_cells : Nat) (g_cells_cells : Ar) (v_p2_length : Int32) (v_p2_blockSize : Int32) (v_p2_ones : Int32) (g_p2_numbers_cells : Ar) (i1 : Int32) (out : Ar) (hF : F_X6_store n g_cells_cells v_p2_length v_p2_blockSize v_p2_ones g_p2_numbers_cells i1 = some out) : zM l D cA yX6_store cX6_store 5 none 2 42 [.ref a_this, .int i1, .ref a_p2] (zw_2 cA n a_this a_this_cells a_this_cells_cells a_p2 a_p2_numbers a_p2_numbers_cells g_cells_cells v_p2_length v_p2_blockSize v_p2_ones g_p2_numbers_cells) (zw_2 cA n a_this a_this_cells a_this_cells_cells a_p2 a_p2_numbers a_p2_numbers_cells out v_p2_length v_p2_blockSize v_p2_ones g_p2_numbers_cells) none := by
  refine z_body (by decide) (Nat.le_of_ble_eq_true rfl) ?_
  intro p e s m args below meth c ls H locs A X hl hw
  have hl : lv_has ls 5 [(0, .ref a_this), (1, .int i1), (2, .ref a_p2)] := hl
  unfold F_X6_store at hF
  refine z_iload_n 0 X dX6_store_0 hl 1 rfl ?_
  refine z_bipush 1 68 X dX6_store_1 (by decide) ?_
  refine z_imul 3 X dX6_store_3 ?_
  refine z_istore_n 4 [(3, .int (i1 * 68)), (0, .ref a_this), (1, .int i1), (2, .ref a_p2)] X dX6_store_4 hl (by decide) rfl (fun ls hl => ?_)
  refine z_aload_n 5 X dX6_store_5 hl 1 rfl ?_
  refine z_get 6 zc6 0 0 fl_6_16 X dX6_store_6 hw rfl (by decide) rfl ?_
  refine z_iload_n 9 X dX6_store_9 hl 0 rfl ?_
  refine z_iconst 10 1 X dX6_store_10 (by decide) ?_
  obtain ⟨u1, e2, hF⟩ := zbd hF
  refine z_callV 11 zc0 mv_X0_write ml_6_24 1 [] (zk_1 cA n a_this a_this_cells a_this_cells_cells a_p2 a_p2_numbers a_p2_numbers_cells g_cells_cells v_p2_length v_p2_blockSize v_p2_ones g_p2_numbers_cells u1) (m_X0_write l D cA n a_this_cells a_this_cells_cells g_cells_cells (i1 * 68) 1 u1 e2) X dX6_store_11 hw hl rfl rfl rfl (Nat.le_of_ble_eq_true rfl) ⟨Nat.le_of_ble_eq_true rfl, Nat.le_of_ble_eq_true rfl⟩ ⟨Nat.zero_le _, Nat.zero_le _⟩ (fun H locs hw => ?_)
  refine z_aload_n 14 X dX6_store_14 hl 1 rfl ?_
  refine z_get 15 zc6 0 0 fl_6_16 X dX6_store_15 hw rfl (by decide) rfl ?_
  refine z_iload_n 18 X dX6_store_18 hl 0 rfl ?_
  refine z_iconst 19 1 X dX6_store_19 (by decide) ?_
  refine z_iadd 20 X dX6_store_20 ?_
  refine z_aload_n 21 X dX6_store_21 hl 3 rfl ?_
  refine z_getN 22 zc5 3 1 fl_6_28 X dX6_store_22 hw rfl (by decide) rfl ?_
  obtain ⟨u3, e4, hF⟩ := zbd hF
  refine z_callV 25 zc0 mv_X0_write ml_6_24 1 [] (zk_1 cA n a_this a_this_cells a_this_cells_cells a_p2 a_p2_numbers a_p2_numbers_cells u1 v_p2_length v_p2_blockSize v_p2_ones g_p2_numbers_cells u3) (m_X0_write l D cA n a_this_cells a_this_cells_cells u1 ((i1 * 68) + 1) v_p2_length u3 e4) X dX6_store_25 hw hl rfl rfl rfl (Nat.le_of_ble_eq_true rfl) ⟨Nat.le_of_ble_eq_true rfl, Nat.le_of_ble_eq_true rfl⟩ ⟨Nat.zero_le _, Nat.zero_le _⟩ (fun H locs hw => ?_)
  refine z_aload_n 28 X dX6_store_28 hl 1 rfl ?_
  refine z_get 29 zc6 0 0 fl_6_16 X dX6_store_29 hw rfl (by decide) rfl ?_
  refine z_iload_n 32 X dX6_store_32 hl 0 rfl ?_
  refine z_iconst 33 2 X dX6_store_33 (by decide) ?_
  refine z_iadd 34 X dX6_store_34 ?_
  refine z_aload_n 35 X dX6_store_35 hl 3 rfl ?_
  refine z_getN 36 zc5 3 2 fl_6_34 X dX6_store_36 hw rfl (by decide) rfl ?_
  obtain ⟨u5, e6, hF⟩ := zbd hF
  refine z_callV 39 zc0 mv_X0_write ml_6_24 1 [] (zk_1 cA n a_this a_this_cells a_this_cells_cells a_p2 a_p2_numbers a_p2_numbers_cells u3 v_p2_length v_p2_blockSize v_p2_ones g_p2_numbers_cells u5) (m_X0_write l D cA n a_this_cells a_this_cells_cells u3 ((i1 * 68) + 2) v_p2_blockSize u5 e6) X dX6_store_39 hw hl rfl rfl rfl (Nat.le_of_ble_eq_true rfl) ⟨Nat.le_of_ble_eq_true rfl, Nat.le_of_ble_eq_true rfl⟩ ⟨Nat.zero_le _, Nat.zero_le _⟩ (fun H locs hw => ?_)
  refine z_aload_n 42 X dX6_store_42 hl 1 rfl ?_
  refine z_get 43 zc6 0 0 fl_6_16 X dX6_store_43 hw rfl (by decide) rfl ?_
  refine z_iload_n 46 X dX6_store_46 hl 0 rfl ?_
  refine z_iconst 47 3 X dX6_store_47 (by decide) ?_
  refine z_iadd 48 X dX6_store_48 ?_
  refine z_aload_n 49 X dX6_store_49 hl 3 rfl ?_
  refine z_getN 50 zc5 3 3 fl_6_37 X dX6_store_50 hw rfl (by decide) rfl ?_
  obtain ⟨u7, e8, hF⟩ := zbd hF
  refine z_callV 53 zc0 mv_X0_write ml_6_24 1 [] (zk_1 cA n a_this a_this_cells a_this_cells_cells a_p2 a_p2_numbers a_p2_numbers_cells u5 v_p2_length v_p2_blockSize v_p2_ones g_p2_numbers_cells u7) (m_X0_write l D cA n a_this_cells a_this_cells_cells u5 ((i1 * 68) + 3) v_p2_ones u7 e8) X dX6_store_53 hw hl rfl rfl rfl (Nat.le_of_ble_eq_true rfl) ⟨Nat.le_of_ble_eq_true rfl, Nat.le_of_ble_eq_true rfl⟩ ⟨Nat.zero_le _, Nat.zero_le _⟩ (fun H locs hw => ?_)
  refine z_iconst 56 0 X dX6_store_56 (by decide) ?_
  refine z_istore 57 [(4, .int 0), (3, .int (i1 * 68)), (0, .ref a_this), (1, .int i1), (2, .ref a_p2)] X dX6_store_57 hl (by decide) rfl (fun ls hl => ?_)
  refine l_X6_store_59 l D cA n a_this a_this_cells a_this_cells_cells a_p2 a_p2_numbers a_p2_numbers_cells v_p2_length v_p2_blockSize v_p2_ones g_p2_numbers_cells (i1 * 68) out X _ (fun g_cells_cells_14 H locs ls hw hl hF => ?_) zFuel u7 0 H locs ls hw (lv_sub hl [2, 4, 1, 0] rfl) hF
  cases hF
  exact z_vret 93 X dX6_store_93 hw rfl rfl
theorem dX2_note_0 : decode cX2_note 0 = .ok (.aload_n 0, 1) := by decide +kernel
theorem dX2_note_1 : decode cX2_note 1 = .ok (.getfield 16, 3) := by decide +kernel
theorem dX2_note_4 : decode cX2_note 4 = .ok (.aload_n 0, 1) := by decide +kernel
theorem dX2_note_5 : decode cX2_note 5 = .ok (.getfield 20, 3) := by decide +kernel
theorem dX2_note_8 : decode cX2_note 8 = .ok (.aload_n 1, 1) := by decide +kernel
theorem dX2_note_9 : decode cX2_note 9 = .ok (.invokevirtual 27, 3) := by decide +kernel
theorem dX2_note_12 : decode cX2_note 12 = .ok (.return_, 1) := by decide +kernel
set_option maxHeartbeats 4000000 in
set_option maxRecDepth 100000 in
theorem zk_3 (cA : ClassId) (n : Nat) (a_this a_this_states a_this_states_cells a_this_states_cells_cells a_p1 a_p1_numbers a_p1_numbers_cells : Nat) (v_free : Int32) (v_length : Int32) (g_states_cells_cells : Ar) (v_p1_length : Int32) (v_p1_blockSize : Int32) (v_p1_ones : Int32) (g_p1_numbers_cells : Ar) (g_states_cells_cells' : Ar) : zCW (zw_3 cA n a_this a_this_states a_this_states_cells a_this_states_cells_cells a_p1 a_p1_numbers a_p1_numbers_cells v_free v_length g_states_cells_cells v_p1_length v_p1_blockSize v_p1_ones g_p1_numbers_cells) (zw_3 cA n a_this a_this_states a_this_states_cells a_this_states_cells_cells a_p1 a_p1_numbers a_p1_numbers_cells v_free v_length g_states_cells_cells' v_p1_length v_p1_blockSize v_p1_ones g_p1_numbers_cells) [1, 2, 3, 4, 5, 6] [0] (zw_2 cA 476 a_this_states a_this_states_cells a_this_states_cells_cells a_p1 a_p1_numbers a_p1_numbers_cells g_states_cells_cells v_p1_length v_p1_blockSize v_p1_ones g_p1_numbers_cells) (zw_2 cA 476 a_this_states a_this_states_cells a_this_states_cells_cells a_p1 a_p1_numbers a_p1_numbers_cells g_states_cells_cells' v_p1_length v_p1_blockSize v_p1_ones g_p1_numbers_cells) := ⟨rfl, (show (zw_2 cA 476 a_this_states a_this_states_cells a_this_states_cells_cells a_p1 a_p1_numbers a_p1_numbers_cells g_states_cells_cells' v_p1_length v_p1_blockSize v_p1_ones g_p1_numbers_cells).map Prod.fst = ([a_this_states, a_this_states_cells, a_this_states_cells_cells, a_p1, a_p1_numbers, a_p1_numbers_cells] : List Nat) from rfl).trans (show (zw_2 cA 476 a_this_states a_this_states_cells a_this_states_cells_cells a_p1 a_p1_numbers a_p1_numbers_cells g_states_cells_cells v_p1_length v_p1_blockSize v_p1_ones g_p1_numbers_cells).map Prod.fst = ([a_this_states, a_this_states_cells, a_this_states_cells_cells, a_p1, a_p1_numbers, a_p1_numbers_cells] : List Nat) from rfl).symm, by decide +kernel, (show (zw_3 cA n a_this a_this_states a_this_states_cells a_this_states_cells_cells a_p1 a_p1_numbers a_p1_numbers_cells v_free v_length g_states_cells_cells' v_p1_length v_p1_blockSize v_p1_ones g_p1_numbers_cells).map Prod.fst = ([a_this, a_this_states, a_this_states_cells, a_this_states_cells_cells, a_p1, a_p1_numbers, a_p1_numbers_cells] : List Nat) from rfl).trans (show (zw_3 cA n a_this a_this_states a_this_states_cells a_this_states_cells_cells a_p1 a_p1_numbers a_p1_numbers_cells v_free v_length g_states_cells_cells v_p1_length v_p1_blockSize v_p1_ones g_p1_numbers_cells).map Prod.fst = ([a_this, a_this_states, a_this_states_cells, a_this_states_cells_cells, a_p1, a_p1_numbers, a_p1_numbers_cells] : List Nat) from rfl).symm, rfl, (show ([0] : List Nat).map (fun i => (zw_3 cA n a_this a_this_states a_this_states_cells a_this_states_cells_cells a_p1 a_p1_numbers a_p1_numbers_cells v_free v_length g_states_cells_cells' v_p1_length v_p1_blockSize v_p1_ones g_p1_numbers_cells)[i]?) = ([(a_this, .inr (2, [.ref a_this_states, .int v_free, .int v_length]))] : va_W).map some from rfl).trans (show ([0] : List Nat).map (fun i => (zw_3 cA n a_this a_this_states a_this_states_cells a_this_states_cells_cells a_p1 a_p1_numbers a_p1_numbers_cells v_free v_length g_states_cells_cells v_p1_length v_p1_blockSize v_p1_ones g_p1_numbers_cells)[i]?) = ([(a_this, .inr (2, [.ref a_this_states, .int v_free, .int v_length]))] : va_W).map some from rfl).symm, by decide +kernel, rfl⟩
set_option maxHeartbeats 4000000 in
set_option maxRecDepth 100000 in
theorem m_X2_note (l : Launch) (D : va_G) (cA : ClassId) (a_this a_this_states a_this_states_cells a_this_states_cells_cells a_p1 a_p1_numbers a_p1_numbers_cells : Nat) (v_free : Int32) (v_length : Int32) (g_states_cells_cells : Ar) (v_p1_length : Int32) (v_p1_blockSize : Int32) (v_p1_ones : Int32) (g_p1_numbers_cells : Ar) (out : Ar) (hF : F_X2_note v_free g_states_cells_cells v_p1_length v_p1_blockSize v_p1_ones g_p1_numbers_cells = some out) : zM l D cA yX2_note cX2_note 2 none 3 66 [.ref a_this, .ref a_p1] (zw_3 cA 0 a_this a_this_states a_this_states_cells a_this_states_cells_cells a_p1 a_p1_numbers a_p1_numbers_cells v_free v_length g_states_cells_cells v_p1_length v_p1_blockSize v_p1_ones g_p1_numbers_cells) (zw_3 cA 0 a_this a_this_states a_this_states_cells a_this_states_cells_cells a_p1 a_p1_numbers a_p1_numbers_cells v_free v_length out v_p1_length v_p1_blockSize v_p1_ones g_p1_numbers_cells) none := by
  refine z_body (by decide) (Nat.le_of_ble_eq_true rfl) ?_
  intro p e s m args below meth c ls H locs A X hl hw
  have hl : lv_has ls 2 [(0, .ref a_this), (1, .ref a_p1)] := hl
  unfold F_X2_note at hF
  refine z_aload_n 0 X dX2_note_0 hl 0 rfl ?_
  refine z_get 1 zc2 0 0 fl_2_16 X dX2_note_1 hw rfl (by decide) rfl ?_
  refine z_aload_n 4 X dX2_note_4 hl 0 rfl ?_
  refine z_get 5 zc2 0 1 fl_2_20 X dX2_note_5 hw rfl (by decide) rfl ?_
  refine z_aload_n 8 X dX2_note_8 hl 1 rfl ?_
  obtain ⟨u1, e2, hF⟩ := zbd hF
  refine z_callV 9 zc6 mv_X6_store ml_2_27 1 [] (zk_3 cA 0 a_this a_this_states a_this_states_cells a_this_states_cells_cells a_p1 a_p1_numbers a_p1_numbers_cells v_free v_length g_states_cells_cells v_p1_length v_p1_blockSize v_p1_ones g_p1_numbers_cells u1) (m_X6_store l D cA 476 a_this_states a_this_states_cells a_this_states_cells_cells a_p1 a_p1_numbers a_p1_numbers_cells g_states_cells_cells v_p1_length v_p1_blockSize v_p1_ones g_p1_numbers_cells v_free u1 e2) X dX2_note_9 hw hl rfl rfl rfl (Nat.le_of_ble_eq_true rfl) ⟨Nat.le_of_ble_eq_true rfl, Nat.le_of_ble_eq_true rfl⟩ ⟨Nat.zero_le _, Nat.zero_le _⟩ (fun H locs hw => ?_)
  cases hF
  exact z_vret 12 X dX2_note_12 hw rfl rfl
theorem dX2_keepNoted_0 : decode cX2_keepNoted 0 = .ok (.aload_n 0, 1) := by decide +kernel
theorem dX2_keepNoted_1 : decode cX2_keepNoted 1 = .ok (.aload_n 0, 1) := by decide +kernel
theorem dX2_keepNoted_2 : decode cX2_keepNoted 2 = .ok (.getfield 20, 3) := by decide +kernel
theorem dX2_keepNoted_5 : decode cX2_keepNoted 5 = .ok (.iconst 1, 1) := by decide +kernel
theorem dX2_keepNoted_6 : decode cX2_keepNoted 6 = .ok (.iadd, 1) := by decide +kernel
theorem dX2_keepNoted_7 : decode cX2_keepNoted 7 = .ok (.bipush 7, 2) := by decide +kernel
theorem dX2_keepNoted_9 : decode cX2_keepNoted 9 = .ok (.if_icmp .ge 12, 3) := by decide +kernel
theorem dX2_keepNoted_12 : decode cX2_keepNoted 12 = .ok (.aload_n 0, 1) := by decide +kernel
theorem dX2_keepNoted_13 : decode cX2_keepNoted 13 = .ok (.getfield 20, 3) := by decide +kernel
theorem dX2_keepNoted_16 : decode cX2_keepNoted 16 = .ok (.iconst 1, 1) := by decide +kernel
theorem dX2_keepNoted_17 : decode cX2_keepNoted 17 = .ok (.iadd, 1) := by decide +kernel
theorem dX2_keepNoted_18 : decode cX2_keepNoted 18 = .ok (.goto 4, 3) := by decide +kernel
theorem dX2_keepNoted_21 : decode cX2_keepNoted 21 = .ok (.iconst 0, 1) := by decide +kernel
theorem dX2_keepNoted_22 : decode cX2_keepNoted 22 = .ok (.putfield 20, 3) := by decide +kernel
theorem dX2_keepNoted_25 : decode cX2_keepNoted 25 = .ok (.aload_n 0, 1) := by decide +kernel
theorem dX2_keepNoted_26 : decode cX2_keepNoted 26 = .ok (.aload_n 0, 1) := by decide +kernel
theorem dX2_keepNoted_27 : decode cX2_keepNoted 27 = .ok (.getfield 24, 3) := by decide +kernel
theorem dX2_keepNoted_30 : decode cX2_keepNoted 30 = .ok (.iconst 1, 1) := by decide +kernel
theorem dX2_keepNoted_31 : decode cX2_keepNoted 31 = .ok (.iadd, 1) := by decide +kernel
theorem dX2_keepNoted_32 : decode cX2_keepNoted 32 = .ok (.bipush 6, 2) := by decide +kernel
theorem dX2_keepNoted_34 : decode cX2_keepNoted 34 = .ok (.invokestatic 31, 3) := by decide +kernel
theorem dX2_keepNoted_37 : decode cX2_keepNoted 37 = .ok (.putfield 24, 3) := by decide +kernel
theorem dX2_keepNoted_40 : decode cX2_keepNoted 40 = .ok (.return_, 1) := by decide +kernel
set_option maxHeartbeats 4000000 in
set_option maxRecDepth 100000 in
theorem m_X2_keepNoted (l : Launch) (D : va_G) (cA : ClassId) (a_this a_this_states : Nat) (v_free : Int32) (v_length : Int32) (out : Int32 × Int32) (hF : F_X2_keepNoted v_free v_length = some out) : zM l D cA yX2_keepNoted cX2_keepNoted 1 none 1 21 [.ref a_this] (zw_6 cA 0 a_this a_this_states v_free v_length) (zw_6 cA 0 a_this a_this_states out.1 out.2) none := by
  refine z_body (by decide) (Nat.le_of_ble_eq_true rfl) ?_
  intro p e s m args below meth c ls H locs A X hl hw
  have hl : lv_has ls 1 [(0, .ref a_this)] := hl
  unfold F_X2_keepNoted at hF
  refine z_aload_n 0 X dX2_keepNoted_0 hl 0 rfl ?_
  refine z_aload_n 1 X dX2_keepNoted_1 hl 0 rfl ?_
  refine z_get 2 zc2 0 1 fl_2_20 X dX2_keepNoted_2 hw rfl (by decide) rfl ?_
  refine z_iconst 5 1 X dX2_keepNoted_5 (by decide) ?_
  refine z_iadd 6 X dX2_keepNoted_6 ?_
  refine z_bipush 7 7 X dX2_keepNoted_7 (by decide) ?_
  refine z_icmp_ge 9 21 X dX2_keepNoted_9 (by decide) (fun c1 => ?_) (fun c1 => ?_)
  · replace hF := zpos c1 hF
    refine z_iconst 21 0 X dX2_keepNoted_21 (by decide) ?_
    refine z_put 22 zc2 0 1 (zw_6 cA 0 a_this a_this_states 0 v_length) fl_2_20 X dX2_keepNoted_22 hw rfl (by decide) rfl rfl rfl (Nat.le_of_ble_eq_true rfl) rfl (fun H locs hw => ?_)
    refine z_aload_n 25 X dX2_keepNoted_25 hl 0 rfl ?_
    refine z_aload_n 26 X dX2_keepNoted_26 hl 0 rfl ?_
    refine z_get 27 zc2 0 2 fl_2_24 X dX2_keepNoted_27 hw rfl (by decide) rfl ?_
    refine z_iconst 30 1 X dX2_keepNoted_30 (by decide) ?_
    refine z_iadd 31 X dX2_keepNoted_31 ?_
    refine z_bipush 32 6 X dX2_keepNoted_32 (by decide) ?_
    refine z_min 34 ml_2_31 mq_min X dX2_keepNoted_34 hl ⟨Nat.le_of_ble_eq_true rfl, Nat.le_of_ble_eq_true rfl⟩ ⟨Nat.zero_le _, Nat.zero_le _⟩ ?_
    refine z_put 37 zc2 0 2 (zw_6 cA 0 a_this a_this_states 0 (if 6 < (v_length + 1) then 6 else (v_length + 1))) fl_2_24 X dX2_keepNoted_37 hw rfl (by decide) rfl rfl rfl (Nat.le_of_ble_eq_true rfl) rfl (fun H locs hw => ?_)
    cases hF
    exact z_vret 40 X dX2_keepNoted_40 hw rfl rfl
  · replace hF := zneg c1 hF
    refine z_aload_n 12 X dX2_keepNoted_12 hl 0 rfl ?_
    refine z_get 13 zc2 0 1 fl_2_20 X dX2_keepNoted_13 hw rfl (by decide) rfl ?_
    refine z_iconst 16 1 X dX2_keepNoted_16 (by decide) ?_
    refine z_iadd 17 X dX2_keepNoted_17 ?_
    refine z_goto 18 22 X dX2_keepNoted_18 (by decide) ?_
    refine z_put 22 zc2 0 1 (zw_6 cA 0 a_this a_this_states (v_free + 1) v_length) fl_2_20 X dX2_keepNoted_22 hw rfl (by decide) rfl rfl rfl (Nat.le_of_ble_eq_true rfl) rfl (fun H locs hw => ?_)
    refine z_aload_n 25 X dX2_keepNoted_25 hl 0 rfl ?_
    refine z_aload_n 26 X dX2_keepNoted_26 hl 0 rfl ?_
    refine z_get 27 zc2 0 2 fl_2_24 X dX2_keepNoted_27 hw rfl (by decide) rfl ?_
    refine z_iconst 30 1 X dX2_keepNoted_30 (by decide) ?_
    refine z_iadd 31 X dX2_keepNoted_31 ?_
    refine z_bipush 32 6 X dX2_keepNoted_32 (by decide) ?_
    refine z_min 34 ml_2_31 mq_min X dX2_keepNoted_34 hl ⟨Nat.le_of_ble_eq_true rfl, Nat.le_of_ble_eq_true rfl⟩ ⟨Nat.zero_le _, Nat.zero_le _⟩ ?_
    refine z_put 37 zc2 0 2 (zw_6 cA 0 a_this a_this_states (v_free + 1) (if 6 < (v_length + 1) then 6 else (v_length + 1))) fl_2_24 X dX2_keepNoted_37 hw rfl (by decide) rfl rfl rfl (Nat.le_of_ble_eq_true rfl) rfl (fun H locs hw => ?_)
    cases hF
    exact z_vret 40 X dX2_keepNoted_40 hw rfl rfl
