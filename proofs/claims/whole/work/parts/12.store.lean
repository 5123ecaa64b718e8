theorem dX6_store_0 : decode cX6_store 0 = .ok (.iload_n 1, 1) := by decide +kernel
theorem dX6_store_1 : decode cX6_store 1 = .ok (.bipush 68, 2) := by decide +kernel
theorem dX6_store_3 : decode cX6_store 3 = .ok (.imul, 1) := by decide +kernel
theorem dX6_store_4 : decode cX6_store 4 = .ok (.istore_n 3, 1) := by decide +kernel
theorem dX6_store_5 : decode cX6_store 5 = .ok (.aload_n 0, 1) := by decide +kernel
theorem dX6_store_6 : decode cX6_store 6 = .ok (.getfield 16, 3) := by decide +kernel
theorem dX6_store_9 : decode cX6_store 9 = .ok (.iload_n 3, 1) := by decide +kernel
theorem dX6_store_10 : decode cX6_store 10 = .ok (.iconst 1, 1) := by decide +kernel
theorem dX6_store_11 : decode cX6_store 11 = .ok (.invokevirtual 24, 3) := by decide +kernel
theorem dX6_store_14 : decode cX6_store 14 = .ok (.aload_n 0, 1) := by decide +kernel
theorem dX6_store_15 : decode cX6_store 15 = .ok (.getfield 16, 3) := by decide +kernel
theorem dX6_store_18 : decode cX6_store 18 = .ok (.iload_n 3, 1) := by decide +kernel
theorem dX6_store_19 : decode cX6_store 19 = .ok (.iconst 1, 1) := by decide +kernel
theorem dX6_store_20 : decode cX6_store 20 = .ok (.iadd, 1) := by decide +kernel
theorem dX6_store_21 : decode cX6_store 21 = .ok (.aload_n 2, 1) := by decide +kernel
theorem dX6_store_22 : decode cX6_store 22 = .ok (.getfield 28, 3) := by decide +kernel
theorem dX6_store_25 : decode cX6_store 25 = .ok (.invokevirtual 24, 3) := by decide +kernel
theorem dX6_store_28 : decode cX6_store 28 = .ok (.aload_n 0, 1) := by decide +kernel
theorem dX6_store_29 : decode cX6_store 29 = .ok (.getfield 16, 3) := by decide +kernel
theorem dX6_store_32 : decode cX6_store 32 = .ok (.iload_n 3, 1) := by decide +kernel
theorem dX6_store_33 : decode cX6_store 33 = .ok (.iconst 2, 1) := by decide +kernel
theorem dX6_store_34 : decode cX6_store 34 = .ok (.iadd, 1) := by decide +kernel
theorem dX6_store_35 : decode cX6_store 35 = .ok (.aload_n 2, 1) := by decide +kernel
theorem dX6_store_36 : decode cX6_store 36 = .ok (.getfield 34, 3) := by decide +kernel
theorem dX6_store_39 : decode cX6_store 39 = .ok (.invokevirtual 24, 3) := by decide +kernel
theorem dX6_store_42 : decode cX6_store 42 = .ok (.aload_n 0, 1) := by decide +kernel
theorem dX6_store_43 : decode cX6_store 43 = .ok (.getfield 16, 3) := by decide +kernel
theorem dX6_store_46 : decode cX6_store 46 = .ok (.iload_n 3, 1) := by decide +kernel
theorem dX6_store_47 : decode cX6_store 47 = .ok (.iconst 3, 1) := by decide +kernel
theorem dX6_store_48 : decode cX6_store 48 = .ok (.iadd, 1) := by decide +kernel
theorem dX6_store_49 : decode cX6_store 49 = .ok (.aload_n 2, 1) := by decide +kernel
theorem dX6_store_50 : decode cX6_store 50 = .ok (.getfield 37, 3) := by decide +kernel
theorem dX6_store_53 : decode cX6_store 53 = .ok (.invokevirtual 24, 3) := by decide +kernel
theorem dX6_store_56 : decode cX6_store 56 = .ok (.iconst 0, 1) := by decide +kernel
theorem dX6_store_57 : decode cX6_store 57 = .ok (.istore 4, 2) := by decide +kernel
theorem dX6_store_59 : decode cX6_store 59 = .ok (.iload 4, 2) := by decide +kernel
theorem dX6_store_61 : decode cX6_store 61 = .ok (.aload_n 2, 1) := by decide +kernel
theorem dX6_store_62 : decode cX6_store 62 = .ok (.getfield 28, 3) := by decide +kernel
theorem dX6_store_65 : decode cX6_store 65 = .ok (.if_icmp .ge 28, 3) := by decide +kernel
theorem dX6_store_68 : decode cX6_store 68 = .ok (.aload_n 0, 1) := by decide +kernel
theorem dX6_store_69 : decode cX6_store 69 = .ok (.getfield 16, 3) := by decide +kernel
theorem dX6_store_72 : decode cX6_store 72 = .ok (.iload_n 3, 1) := by decide +kernel
theorem dX6_store_73 : decode cX6_store 73 = .ok (.iconst 4, 1) := by decide +kernel
theorem dX6_store_74 : decode cX6_store 74 = .ok (.iadd, 1) := by decide +kernel
theorem dX6_store_75 : decode cX6_store 75 = .ok (.iload 4, 2) := by decide +kernel
theorem dX6_store_77 : decode cX6_store 77 = .ok (.iadd, 1) := by decide +kernel
theorem dX6_store_78 : decode cX6_store 78 = .ok (.aload_n 2, 1) := by decide +kernel
theorem dX6_store_79 : decode cX6_store 79 = .ok (.iload 4, 2) := by decide +kernel
theorem dX6_store_81 : decode cX6_store 81 = .ok (.invokevirtual 40, 3) := by decide +kernel
theorem dX6_store_84 : decode cX6_store 84 = .ok (.invokevirtual 24, 3) := by decide +kernel
theorem dX6_store_87 : decode cX6_store 87 = .ok (.iinc 4 1, 3) := by decide +kernel
theorem dX6_store_90 : decode cX6_store 90 = .ok (.goto (-31), 3) := by decide +kernel
theorem dX6_store_93 : decode cX6_store 93 = .ok (.return_, 1) := by decide +kernel
set_option maxHeartbeats 4000000 in
set_option maxRecDepth 100000 in
theorem zk_1 (cA : ClassId) (n : Nat) (a_this a_this_cells a_this_cells_cells a_p2 a_p2_numbers a_p2_numbers_cells : Nat) (g_cells_cells : Ar) (v_p2_length : Int32) (v_p2_blockSize : Int32) (v_p2_ones : Int32) (g_p2_numbers_cells : Ar) (g_cells_cells' : Ar) : zCW (zw_2 cA n a_this a_this_cells a_this_cells_cells a_p2 a_p2_numbers a_p2_numbers_cells g_cells_cells v_p2_length v_p2_blockSize v_p2_ones g_p2_numbers_cells) (zw_2 cA n a_this a_this_cells a_this_cells_cells a_p2 a_p2_numbers a_p2_numbers_cells g_cells_cells' v_p2_length v_p2_blockSize v_p2_ones g_p2_numbers_cells) [1, 2] [0, 3, 4, 5] (zw_0 cA n a_this_cells a_this_cells_cells g_cells_cells) (zw_0 cA n a_this_cells a_this_cells_cells g_cells_cells') := ⟨rfl, (show (zw_0 cA n a_this_cells a_this_cells_cells g_cells_cells').map Prod.fst = ([a_this_cells, a_this_cells_cells] : List Nat) from rfl).trans (show (zw_0 cA n a_this_cells a_this_cells_cells g_cells_cells).map Prod.fst = ([a_this_cells, a_this_cells_cells] : List Nat) from rfl).symm, by decide +kernel, (show (zw_2 cA n a_this a_this_cells a_this_cells_cells a_p2 a_p2_numbers a_p2_numbers_cells g_cells_cells' v_p2_length v_p2_blockSize v_p2_ones g_p2_numbers_cells).map Prod.fst = ([a_this, a_this_cells, a_this_cells_cells, a_p2, a_p2_numbers, a_p2_numbers_cells] : List Nat) from rfl).trans (show (zw_2 cA n a_this a_this_cells a_this_cells_cells a_p2 a_p2_numbers a_p2_numbers_cells g_cells_cells v_p2_length v_p2_blockSize v_p2_ones g_p2_numbers_cells).map Prod.fst = ([a_this, a_this_cells, a_this_cells_cells, a_p2, a_p2_numbers, a_p2_numbers_cells] : List Nat) from rfl).symm, rfl, (show ([0, 3, 4, 5] : List Nat).map (fun i => (zw_2 cA n a_this a_this_cells a_this_cells_cells a_p2 a_p2_numbers a_p2_numbers_cells g_cells_cells' v_p2_length v_p2_blockSize v_p2_ones g_p2_numbers_cells)[i]?) = ([(a_this, .inr (6, [.ref a_this_cells])), (a_p2, .inr (5, [.ref a_p2_numbers, .int v_p2_length, .int v_p2_blockSize, .int v_p2_ones])), (a_p2_numbers, .inr (0, [.ref a_p2_numbers_cells])), (a_p2_numbers_cells, .inl (cA, 64, .inl g_p2_numbers_cells))] : va_W).map some from rfl).trans (show ([0, 3, 4, 5] : List Nat).map (fun i => (zw_2 cA n a_this a_this_cells a_this_cells_cells a_p2 a_p2_numbers a_p2_numbers_cells g_cells_cells v_p2_length v_p2_blockSize v_p2_ones g_p2_numbers_cells)[i]?) = ([(a_this, .inr (6, [.ref a_this_cells])), (a_p2, .inr (5, [.ref a_p2_numbers, .int v_p2_length, .int v_p2_blockSize, .int v_p2_ones])), (a_p2_numbers, .inr (0, [.ref a_p2_numbers_cells])), (a_p2_numbers_cells, .inl (cA, 64, .inl g_p2_numbers_cells))] : va_W).map some from rfl).symm, by decide +kernel, rfl⟩
set_option maxHeartbeats 4000000 in
set_option maxRecDepth 100000 in
theorem zk_2 (cA : ClassId) (n : Nat) (a_this a_this_cells a_this_cells_cells a_p2 a_p2_numbers a_p2_numbers_cells : Nat) (g_cells_cells : Ar) (v_p2_length : Int32) (v_p2_blockSize : Int32) (v_p2_ones : Int32) (g_p2_numbers_cells : Ar)  : zCW (zw_2 cA n a_this a_this_cells a_this_cells_cells a_p2 a_p2_numbers a_p2_numbers_cells g_cells_cells v_p2_length v_p2_blockSize v_p2_ones g_p2_numbers_cells) (zw_2 cA n a_this a_this_cells a_this_cells_cells a_p2 a_p2_numbers a_p2_numbers_cells g_cells_cells v_p2_length v_p2_blockSize v_p2_ones g_p2_numbers_cells) [3, 4, 5] [0, 1, 2] (zw_1 cA 0 a_p2 a_p2_numbers a_p2_numbers_cells v_p2_length v_p2_blockSize v_p2_ones g_p2_numbers_cells) (zw_1 cA 0 a_p2 a_p2_numbers a_p2_numbers_cells v_p2_length v_p2_blockSize v_p2_ones g_p2_numbers_cells) := ⟨rfl, (show (zw_1 cA 0 a_p2 a_p2_numbers a_p2_numbers_cells v_p2_length v_p2_blockSize v_p2_ones g_p2_numbers_cells).map Prod.fst = ([a_p2, a_p2_numbers, a_p2_numbers_cells] : List Nat) from rfl).trans (show (zw_1 cA 0 a_p2 a_p2_numbers a_p2_numbers_cells v_p2_length v_p2_blockSize v_p2_ones g_p2_numbers_cells).map Prod.fst = ([a_p2, a_p2_numbers, a_p2_numbers_cells] : List Nat) from rfl).symm, by decide +kernel, (show (zw_2 cA n a_this a_this_cells a_this_cells_cells a_p2 a_p2_numbers a_p2_numbers_cells g_cells_cells v_p2_length v_p2_blockSize v_p2_ones g_p2_numbers_cells).map Prod.fst = ([a_this, a_this_cells, a_this_cells_cells, a_p2, a_p2_numbers, a_p2_numbers_cells] : List Nat) from rfl).trans (show (zw_2 cA n a_this a_this_cells a_this_cells_cells a_p2 a_p2_numbers a_p2_numbers_cells g_cells_cells v_p2_length v_p2_blockSize v_p2_ones g_p2_numbers_cells).map Prod.fst = ([a_this, a_this_cells, a_this_cells_cells, a_p2, a_p2_numbers, a_p2_numbers_cells] : List Nat) from rfl).symm, rfl, (show ([0, 1, 2] : List Nat).map (fun i => (zw_2 cA n a_this a_this_cells a_this_cells_cells a_p2 a_p2_numbers a_p2_numbers_cells g_cells_cells v_p2_length v_p2_blockSize v_p2_ones g_p2_numbers_cells)[i]?) = ([(a_this, .inr (6, [.ref a_this_cells])), (a_this_cells, .inr (0, [.ref a_this_cells_cells])), (a_this_cells_cells, .inl (cA, n, .inl g_cells_cells))] : va_W).map some from rfl).trans (show ([0, 1, 2] : List Nat).map (fun i => (zw_2 cA n a_this a_this_cells a_this_cells_cells a_p2 a_p2_numbers a_p2_numbers_cells g_cells_cells v_p2_length v_p2_blockSize v_p2_ones g_p2_numbers_cells)[i]?) = ([(a_this, .inr (6, [.ref a_this_cells])), (a_this_cells, .inr (0, [.ref a_this_cells_cells])), (a_this_cells_cells, .inl (cA, n, .inl g_cells_cells))] : va_W).map some from rfl).symm, by decide +kernel, rfl⟩
set_option maxHeartbeats 4000000 in
set_option maxRecDepth 100000 in
theorem l_X6_store_59 (l : Launch) (D : va_G) (cA : ClassId) (n : Nat) (a_this a_this_cells a_this_cells_cells a_p2 a_p2_numbers a_p2_numbers_cells : Nat) (v_p2_length : Int32) (v_p2_blockSize : Int32) (v_p2_ones : Int32) (g_p2_numbers_cells : Ar) (i3 : Int32) (out : Ar) {p : Program} {e : Env} {s : State} {m : MethodId} {args : Array Value} {below : List Frame} {meth : Method} {c : Code} {A : Nat → Prop} (X : zX D cA p s m args meth c cX6_store 5 RX6 none) (k : Ar → Option (Ar)) (hk : ∀ (g_cells_cells : Ar) (H : Heap) (locs : List Loc) (ls : Array Slot), zH D A s (zw_2 cA n a_this a_this_cells a_this_cells_cells a_p2 a_p2_numbers a_p2_numbers_cells g_cells_cells v_p2_length v_p2_blockSize v_p2_ones g_p2_numbers_cells) H locs → lv_has ls 5 [] → k g_cells_cells = some out → W p l e (zR 2 42) s m args below meth c H locs 0 0 (MQ below (zQ D (zw_2 cA n a_this a_this_cells a_this_cells_cells a_p2 a_p2_numbers a_p2_numbers_cells out v_p2_length v_p2_blockSize v_p2_ones g_p2_numbers_cells) none A) args s 0 0 A) (F0 m 93 ls [])) :
    ∀ (fuel : Nat) (g_cells_cells : Ar) (i4 : Int32) (H : Heap) (locs : List Loc) (ls : Array Slot), zH D A s (zw_2 cA n a_this a_this_cells a_this_cells_cells a_p2 a_p2_numbers a_p2_numbers_cells g_cells_cells v_p2_length v_p2_blockSize v_p2_ones g_p2_numbers_cells) H locs → lv_has ls 5 [(0, .ref a_this), (2, .ref a_p2), (3, .int i3), (4, .int i4)] → F_X6_store_L59 n v_p2_length g_p2_numbers_cells i3 k fuel g_cells_cells i4 = some out → W p l e (zR 2 42) s m args below meth c H locs 0 0 (MQ below (zQ D (zw_2 cA n a_this a_this_cells a_this_cells_cells a_p2 a_p2_numbers a_p2_numbers_cells out v_p2_length v_p2_blockSize v_p2_ones g_p2_numbers_cells) none A) args s 0 0 A) (F0 m 59 ls []) := by
  intro fuel
  induction fuel with
  | zero => intro g_cells_cells i4 H locs ls hw hl hF; exact nomatch (show (none : Option (Ar)) = some out from hF)
  | succ fuel ih =>
    intro g_cells_cells i4 H locs ls hw hl hF
    rw [F_X6_store_L59] at hF
    refine z_iload 59 X dX6_store_59 hl 3 rfl ?_
    refine z_aload_n 61 X dX6_store_61 hl 1 rfl ?_
    refine z_getN 62 zc5 3 1 fl_6_28 X dX6_store_62 hw rfl (by decide) rfl ?_
    refine z_icmp_ge 65 93 X dX6_store_65 (by decide) (fun c9 => ?_) (fun c9 => ?_)
    · replace hF := zpos c9 hF
      exact hk g_cells_cells H locs ls hw (lv_sub hl [] rfl) hF
    · replace hF := zneg c9 hF
      refine z_aload_n 68 X dX6_store_68 hl 0 rfl ?_
      refine z_get 69 zc6 0 0 fl_6_16 X dX6_store_69 hw rfl (by decide) rfl ?_
      refine z_iload_n 72 X dX6_store_72 hl 2 rfl ?_
      refine z_iconst 73 4 X dX6_store_73 (by decide) ?_
      refine z_iadd 74 X dX6_store_74 ?_
      refine z_iload 75 X dX6_store_75 hl 3 rfl ?_
      refine z_iadd 77 X dX6_store_77 ?_
      refine z_aload_n 78 X dX6_store_78 hl 1 rfl ?_
      refine z_iload 79 X dX6_store_79 hl 3 rfl ?_
      obtain ⟨u10, e11, hF⟩ := zbd hF
      refine z_callV 81 zc5 mv_X5_number ml_6_40 3 [.int ((i3 + 4) + i4), .ref a_this_cells] (zk_2 cA n a_this a_this_cells a_this_cells_cells a_p2 a_p2_numbers a_p2_numbers_cells g_cells_cells v_p2_length v_p2_blockSize v_p2_ones g_p2_numbers_cells) (m_X5_number l D cA a_p2 a_p2_numbers a_p2_numbers_cells v_p2_length v_p2_blockSize v_p2_ones g_p2_numbers_cells i4 u10 e11) X dX6_store_81 hw hl rfl rfl rfl (Nat.le_of_ble_eq_true rfl) ⟨Nat.le_of_ble_eq_true rfl, Nat.le_of_ble_eq_true rfl⟩ ⟨Nat.zero_le _, Nat.zero_le _⟩ (fun H locs hw => ?_)
      obtain ⟨u12, e13, hF⟩ := zbd hF
      refine z_callV 84 zc0 mv_X0_write ml_6_24 1 [] (zk_1 cA n a_this a_this_cells a_this_cells_cells a_p2 a_p2_numbers a_p2_numbers_cells g_cells_cells v_p2_length v_p2_blockSize v_p2_ones g_p2_numbers_cells u12) (m_X0_write l D cA n a_this_cells a_this_cells_cells g_cells_cells ((i3 + 4) + i4) u10 u12 e13) X dX6_store_84 hw hl rfl rfl rfl (Nat.le_of_ble_eq_true rfl) ⟨Nat.le_of_ble_eq_true rfl, Nat.le_of_ble_eq_true rfl⟩ ⟨Nat.zero_le _, Nat.zero_le _⟩ (fun H locs hw => ?_)
      refine z_iinc2 87 1 [(4, .int (i4 + 1)), (0, .ref a_this), (2, .ref a_p2), (3, .int i3)] X dX6_store_87 hl 3 rfl (by decide) (by decide) rfl (fun ls hl => ?_)
      refine z_goto 90 59 X dX6_store_90 (by decide) ?_
      exact ih u12 (i4 + 1) H locs ls hw (lv_sub hl [1, 2, 3, 0] rfl) hF
set_option maxHeartbeats 4000000 in
set_option maxRecDepth 100000 in
theorem m_X6_store (l : Launch) (D : va_G) (cA : ClassId) (n : Nat) (a_this a_this_cells a_this_cells_cells a_p2 a_p2_numbers a_p2_numbers_cells : Nat) (g_cells_cells : Ar) (v_p2_length : Int32) (v_p2_blockSize : Int32) (v_p2_ones : Int32) (g_p2_numbers_cells : Ar) (i1 : Int32) (out : Ar) (hF : F_X6_store n g_cells_cells v_p2_length v_p2_blockSize v_p2_ones g_p2_numbers_cells i1 = some out) : zM l D cA yX6_store cX6_store 5 none 2 42 [.ref a_this, .int i1, .ref a_p2] (zw_2 cA n a_this a_this_cells a_this_cells_cells a_p2 a_p2_numbers a_p2_numbers_cells g_cells_cells v_p2_length v_p2_blockSize v_p2_ones g_p2_numbers_cells) (zw_2 cA n a_this a_this_cells a_this_cells_cells a_p2 a_p2_numbers a_p2_numbers_cells out v_p2_length v_p2_blockSize v_p2_ones g_p2_numbers_cells) none := by
  refine z_body (by decide) (Nat.le_of_ble_eq_true rfl) ?_
  intro p e s m args below meth c ls H locs A X hl hw
  have hl : lv_has ls 5 [(0, .ref a_this), (1, .int i1), (2, .ref a_p2)] := hl
  unfold F_X6_store at hF
  refine z_iload_n 0 X dX6_store_0 hl 1 rfl ?_
  refine z_bipush 1 68 X dX6_store_1 (by decide) ?_
  refine z_imul 3 X dX6_store_3 ?_
  refine z_istore_n 4 [(3, .int (i1 * 68)), (0, .ref a_this), (1, .int i1), (2, .ref a_p2)] X dX6_store_4 hl (by decide) rfl (fun ls hl => ?_)
  refine z_aload_n 5 X dX6_store_5 hl 1 rfl ?_
  refine z_get 6 zc6 0 0 fl_6_16 X dX6_store_6 hw rfl (by decide) rfl ?_
  refine z_iload_n 9 X dX6_store_9 hl 0 rfl ?_
  refine z_iconst 10 1 X dX6_store_10 (by decide) ?_
  obtain ⟨u1, e2, hF⟩ := zbd hF
  refine z_callV 11 zc0 mv_X0_write ml_6_24 1 [] (zk_1 cA n a_this a_this_cells a_this_cells_cells a_p2 a_p2_numbers a_p2_numbers_cells g_cells_cells v_p2_length v_p2_blockSize v_p2_ones g_p2_numbers_cells u1) (m_X0_write l D cA n a_this_cells a_this_cells_cells g_cells_cells (i1 * 68) 1 u1 e2) X dX6_store_11 hw hl rfl rfl rfl (Nat.le_of_ble_eq_true rfl) ⟨Nat.le_of_ble_eq_true rfl, Nat.le_of_ble_eq_true rfl⟩ ⟨Nat.zero_le _, Nat.zero_le _⟩ (fun H locs hw => ?_)
  refine z_aload_n 14 X dX6_store_14 hl 1 rfl ?_
  refine z_get 15 zc6 0 0 fl_6_16 X dX6_store_15 hw rfl (by decide) rfl ?_
  refine z_iload_n 18 X dX6_store_18 hl 0 rfl ?_
  refine z_iconst 19 1 X dX6_store_19 (by decide) ?_
  refine z_iadd 20 X dX6_store_20 ?_
  refine z_aload_n 21 X dX6_store_21 hl 3 rfl ?_
  refine z_getN 22 zc5 3 1 fl_6_28 X dX6_store_22 hw rfl (by decide) rfl ?_
  obtain ⟨u3, e4, hF⟩ := zbd hF
  refine z_callV 25 zc0 mv_X0_write ml_6_24 1 [] (zk_1 cA n a_this a_this_cells a_this_cells_cells a_p2 a_p2_numbers a_p2_numbers_cells u1 v_p2_length v_p2_blockSize v_p2_ones g_p2_numbers_cells u3) (m_X0_write l D cA n a_this_cells a_this_cells_cells u1 ((i1 * 68) + 1) v_p2_length u3 e4) X dX6_store_25 hw hl rfl rfl rfl (Nat.le_of_ble_eq_true rfl) ⟨Nat.le_of_ble_eq_true rfl, Nat.le_of_ble_eq_true rfl⟩ ⟨Nat.zero_le _, Nat.zero_le _⟩ (fun H locs hw => ?_)
  refine z_aload_n 28 X dX6_store_28 hl 1 rfl ?_
  refine z_get 29 zc6 0 0 fl_6_16 X dX6_store_29 hw rfl (by decide) rfl ?_
  refine z_iload_n 32 X dX6_store_32 hl 0 rfl ?_
  refine z_iconst 33 2 X dX6_store_33 (by decide) ?_
  refine z_iadd 34 X dX6_store_34 ?_
  refine z_aload_n 35 X dX6_store_35 hl 3 rfl ?_
  refine z_getN 36 zc5 3 2 fl_6_34 X dX6_store_36 hw rfl (by decide) rfl ?_
  obtain ⟨u5, e6, hF⟩ := zbd hF
  refine z_callV 39 zc0 mv_X0_write ml_6_24 1 [] (zk_1 cA n a_this a_this_cells a_this_cells_cells a_p2 a_p2_numbers a_p2_numbers_cells u3 v_p2_length v_p2_blockSize v_p2_ones g_p2_numbers_cells u5) (m_X0_write l D cA n a_this_cells a_this_cells_cells u3 ((i1 * 68) + 2) v_p2_blockSize u5 e6) X dX6_store_39 hw hl rfl rfl rfl (Nat.le_of_ble_eq_true rfl) ⟨Nat.le_of_ble_eq_true rfl, Nat.le_of_ble_eq_true rfl⟩ ⟨Nat.zero_le _, Nat.zero_le _⟩ (fun H locs hw => ?_)
  refine z_aload_n 42 X dX6_store_42 hl 1 rfl ?_
  refine z_get 43 zc6 0 0 fl_6_16 X dX6_store_43 hw rfl (by decide) rfl ?_
  refine z_iload_n 46 X dX6_store_46 hl 0 rfl ?_
  refine z_iconst 47 3 X dX6_store_47 (by decide) ?_
  refine z_iadd 48 X dX6_store_48 ?_
  refine z_aload_n 49 X dX6_store_49 hl 3 rfl ?_
  refine z_getN 50 zc5 3 3 fl_6_37 X dX6_store_50 hw rfl (by decide) rfl ?_
  obtain ⟨u7, e8, hF⟩ := zbd hF
  refine z_callV 53 zc0 mv_X0_write ml_6_24 1 [] (zk_1 cA n a_this a_this_cells a_this_cells_cells a_p2 a_p2_numbers a_p2_numbers_cells u5 v_p2_length v_p2_blockSize v_p2_ones g_p2_numbers_cells u7) (m_X0_write l D cA n a_this_cells a_this_cells_cells u5 ((i1 * 68) + 3) v_p2_ones u7 e8) X dX6_store_53 hw hl rfl rfl rfl (Nat.le_of_ble_eq_true rfl) ⟨Nat.le_of_ble_eq_true rfl, Nat.le_of_ble_eq_true rfl⟩ ⟨Nat.zero_le _, Nat.zero_le _⟩ (fun H locs hw => ?_)
  refine z_iconst 56 0 X dX6_store_56 (by decide) ?_
  refine z_istore 57 [(4, .int 0), (3, .int (i1 * 68)), (0, .ref a_this), (1, .int i1), (2, .ref a_p2)] X dX6_store_57 hl (by decide) rfl (fun ls hl => ?_)
  refine l_X6_store_59 l D cA n a_this a_this_cells a_this_cells_cells a_p2 a_p2_numbers a_p2_numbers_cells v_p2_length v_p2_blockSize v_p2_ones g_p2_numbers_cells (i1 * 68) out X _ (fun g_cells_cells_14 H locs ls hw hl hF => ?_) zFuel u7 0 H locs ls hw (lv_sub hl [2, 4, 1, 0] rfl) hF
  cases hF
  exact z_vret 93 X dX6_store_93 hw rfl rfl
theorem dX2_note_0 : decode cX2_note 0 = .ok (.aload_n 0, 1) := by decide +kernel
theorem dX2_note_1 : decode cX2_note 1 = .ok (.getfield 16, 3) := by decide +kernel
theorem dX2_note_4 : decode cX2_note 4 = .ok (.aload_n 0, 1) := by decide +kernel
theorem dX2_note_5 : decode cX2_note 5 = .ok (.getfield 20, 3) := by decide +kernel
theorem dX2_note_8 : decode cX2_note 8 = .ok (.aload_n 1, 1) := by decide +kernel
theorem dX2_note_9 : decode cX2_note 9 = .ok (.invokevirtual 27, 3) := by decide +kernel
theorem dX2_note_12 : decode cX2_note 12 = .ok (.return_, 1) := by decide +kernel
set_option maxHeartbeats 4000000 in
set_option maxRecDepth 100000 in
theorem zk_3 (cA : ClassId) (n : Nat) (a_this a_this_states a_this_states_cells a_this_states_cells_cells a_p1 a_p1_numbers a_p1_numbers_cells : Nat) (v_free : Int32) (v_length : Int32) (g_states_cells_cells : Ar) (v_p1_length : Int32) (v_p1_blockSize : Int32) (v_p1_ones : Int32) (g_p1_numbers_cells : Ar) (g_states_cells_cells' : Ar) : zCW (zw_3 cA n a_this a_this_states a_this_states_cells a_this_states_cells_cells a_p1 a_p1_numbers a_p1_numbers_cells v_free v_length g_states_cells_cells v_p1_length v_p1_blockSize v_p1_ones g_p1_numbers_cells) (zw_3 cA n a_this a_this_states a_this_states_cells a_this_states_cells_cells a_p1 a_p1_numbers a_p1_numbers_cells v_free v_length g_states_cells_cells' v_p1_length v_p1_blockSize v_p1_ones g_p1_numbers_cells) [1, 2, 3, 4, 5, 6] [0] (zw_2 cA 476 a_this_states a_this_states_cells a_this_states_cells_cells a_p1 a_p1_numbers a_p1_numbers_cells g_states_cells_cells v_p1_length v_p1_blockSize v_p1_ones g_p1_numbers_cells) (zw_2 cA 476 a_this_states a_this_states_cells a_this_states_cells_cells a_p1 a_p1_numbers a_p1_numbers_cells g_states_cells_cells' v_p1_length v_p1_blockSize v_p1_ones g_p1_numbers_cells) := ⟨rfl, (show (zw_2 cA 476 a_this_states a_this_states_cells a_this_states_cells_cells a_p1 a_p1_numbers a_p1_numbers_cells g_states_cells_cells' v_p1_length v_p1_blockSize v_p1_ones g_p1_numbers_cells).map Prod.fst = ([a_this_states, a_this_states_cells, a_this_states_cells_cells, a_p1, a_p1_numbers, a_p1_numbers_cells] : List Nat) from rfl).trans (show (zw_2 cA 476 a_this_states a_this_states_cells a_this_states_cells_cells a_p1 a_p1_numbers a_p1_numbers_cells g_states_cells_cells v_p1_length v_p1_blockSize v_p1_ones g_p1_numbers_cells).map Prod.fst = ([a_this_states, a_this_states_cells, a_this_states_cells_cells, a_p1, a_p1_numbers, a_p1_numbers_cells] : List Nat) from rfl).symm, by decide +kernel, (show (zw_3 cA n a_this a_this_states a_this_states_cells a_this_states_cells_cells a_p1 a_p1_numbers a_p1_numbers_cells v_free v_length g_states_cells_cells' v_p1_length v_p1_blockSize v_p1_ones g_p1_numbers_cells).map Prod.fst = ([a_this, a_this_states, a_this_states_cells, a_this_states_cells_cells, a_p1, a_p1_numbers, a_p1_numbers_cells] : List Nat) from rfl).trans (show (zw_3 cA n a_this a_this_states a_this_states_cells a_this_states_cells_cells a_p1 a_p1_numbers a_p1_numbers_cells v_free v_length g_states_cells_cells v_p1_length v_p1_blockSize v_p1_ones g_p1_numbers_cells).map Prod.fst = ([a_this, a_this_states, a_this_states_cells, a_this_states_cells_cells, a_p1, a_p1_numbers, a_p1_numbers_cells] : List Nat) from rfl).symm, rfl, (show ([0] : List Nat).map (fun i => (zw_3 cA n a_this a_this_states a_this_states_cells a_this_states_cells_cells a_p1 a_p1_numbers a_p1_numbers_cells v_free v_length g_states_cells_cells' v_p1_length v_p1_blockSize v_p1_ones g_p1_numbers_cells)[i]?) = ([(a_this, .inr (2, [.ref a_this_states, .int v_free, .int v_length]))] : va_W).map some from rfl).trans (show ([0] : List Nat).map (fun i => (zw_3 cA n a_this a_this_states a_this_states_cells a_this_states_cells_cells a_p1 a_p1_numbers a_p1_numbers_cells v_free v_length g_states_cells_cells v_p1_length v_p1_blockSize v_p1_ones g_p1_numbers_cells)[i]?) = ([(a_this, .inr (2, [.ref a_this_states, .int v_free, .int v_length]))] : va_W).map some from rfl).symm, by decide +kernel, rfl⟩
set_option maxHeartbeats 4000000 in
set_option maxRecDepth 100000 in
theorem m_X2_note (l : Launch) (D : va_G) (cA : ClassId) (a_this a_this_states a_this_states_cells a_this_states_cells_cells a_p1 a_p1_numbers a_p1_numbers_cells : Nat) (v_free : Int32) (v_length : Int32) (g_states_cells_cells : Ar) (v_p1_length : Int32) (v_p1_blockSize : Int32) (v_p1_ones : Int32) (g_p1_numbers_cells : Ar) (out : Ar) (hF : F_X2_note v_free g_states_cells_cells v_p1_length v_p1_blockSize v_p1_ones g_p1_numbers_cells = some out) : zM l D cA yX2_note cX2_note 2 none 3 66 [.ref a_this, .ref a_p1] (zw_3 cA 0 a_this a_this_states a_this_states_cells a_this_states_cells_cells a_p1 a_p1_numbers a_p1_numbers_cells v_free v_length g_states_cells_cells v_p1_length v_p1_blockSize v_p1_ones g_p1_numbers_cells) (zw_3 cA 0 a_this a_this_states a_this_states_cells a_this_states_cells_cells a_p1 a_p1_numbers a_p1_numbers_cells v_free v_length out v_p1_length v_p1_blockSize v_p1_ones g_p1_numbers_cells) none := by
  refine z_body (by decide) (Nat.le_of_ble_eq_true rfl) ?_
  intro p e s m args below meth c ls H locs A X hl hw
  have hl : lv_has ls 2 [(0, .ref a_this), (1, .ref a_p1)] := hl
  unfold F_X2_note at hF
  refine z_aload_n 0 X dX2_note_0 hl 0 rfl ?_
  refine z_get 1 zc2 0 0 fl_2_16 X dX2_note_1 hw rfl (by decide) rfl ?_
  refine z_aload_n 4 X dX2_note_4 hl 0 rfl ?_
  refine z_get 5 zc2 0 1 fl_2_20 X dX2_note_5 hw rfl (by decide) rfl ?_
  refine z_aload_n 8 X dX2_note_8 hl 1 rfl ?_
  obtain ⟨u1, e2, hF⟩ := zbd hF
  refine z_callV 9 zc6 mv_X6_store ml_2_27 1 [] (zk_3 cA 0 a_this a_this_states a_this_states_cells a_this_states_cells_cells a_p1 a_p1_numbers a_p1_numbers_cells v_free v_length g_states_cells_cells v_p1_length v_p1_blockSize v_p1_ones g_p1_numbers_cells u1) (m_X6_store l D cA 476 a_this_states a_this_states_cells a_this_states_cells_cells a_p1 a_p1_numbers a_p1_numbers_cells g_states_cells_cells v_p1_length v_p1_blockSize v_p1_ones g_p1_numbers_cells v_free u1 e2) X dX2_note_9 hw hl rfl rfl rfl (Nat.le_of_ble_eq_true rfl) ⟨Nat.le_of_ble_eq_true rfl, Nat.le_of_ble_eq_true rfl⟩ ⟨Nat.zero_le _, Nat.zero_le _⟩ (fun H locs hw => ?_)
  cases hF
  exact z_vret 12 X dX2_note_12 hw rfl rfl
theorem dX2_keepNoted_0 : decode cX2_keepNoted 0 = .ok (.aload_n 0, 1) := by decide +kernel
theorem dX2_keepNoted_1 : decode cX2_keepNoted 1 = .ok (.aload_n 0, 1) := by decide +kernel
theorem dX2_keepNoted_2 : decode cX2_keepNoted 2 = .ok (.getfield 20, 3) := by decide +kernel
theorem dX2_keepNoted_5 : decode cX2_keepNoted 5 = .ok (.iconst 1, 1) := by decide +kernel
theorem dX2_keepNoted_6 : decode cX2_keepNoted 6 = .ok (.iadd, 1) := by decide +kernel
theorem dX2_keepNoted_7 : decode cX2_keepNoted 7 = .ok (.bipush 7, 2) := by decide +kernel
theorem dX2_keepNoted_9 : decode cX2_keepNoted 9 = .ok (.if_icmp .ge 12, 3) := by decide +kernel
theorem dX2_keepNoted_12 : decode cX2_keepNoted 12 = .ok (.aload_n 0, 1) := by decide +kernel
theorem dX2_keepNoted_13 : decode cX2_keepNoted 13 = .ok (.getfield 20, 3) := by decide +kernel
theorem dX2_keepNoted_16 : decode cX2_keepNoted 16 = .ok (.iconst 1, 1) := by decide +kernel
theorem dX2_keepNoted_17 : decode cX2_keepNoted 17 = .ok (.iadd, 1) := by decide +kernel
theorem dX2_keepNoted_18 : decode cX2_keepNoted 18 = .ok (.goto 4, 3) := by decide +kernel
theorem dX2_keepNoted_21 : decode cX2_keepNoted 21 = .ok (.iconst 0, 1) := by decide +kernel
theorem dX2_keepNoted_22 : decode cX2_keepNoted 22 = .ok (.putfield 20, 3) := by decide +kernel
theorem dX2_keepNoted_25 : decode cX2_keepNoted 25 = .ok (.aload_n 0, 1) := by decide +kernel
theorem dX2_keepNoted_26 : decode cX2_keepNoted 26 = .ok (.aload_n 0, 1) := by decide +kernel
theorem dX2_keepNoted_27 : decode cX2_keepNoted 27 = .ok (.getfield 24, 3) := by decide +kernel
theorem dX2_keepNoted_30 : decode cX2_keepNoted 30 = .ok (.iconst 1, 1) := by decide +kernel
theorem dX2_keepNoted_31 : decode cX2_keepNoted 31 = .ok (.iadd, 1) := by decide +kernel
theorem dX2_keepNoted_32 : decode cX2_keepNoted 32 = .ok (.bipush 6, 2) := by decide +kernel
theorem dX2_keepNoted_34 : decode cX2_keepNoted 34 = .ok (.invokestatic 31, 3) := by decide +kernel
theorem dX2_keepNoted_37 : decode cX2_keepNoted 37 = .ok (.putfield 24, 3) := by decide +kernel
theorem dX2_keepNoted_40 : decode cX2_keepNoted 40 = .ok (.return_, 1) := by decide +kernel
set_option maxHeartbeats 4000000 in
set_option maxRecDepth 100000 in
theorem m_X2_keepNoted (l : Launch) (D : va_G) (cA : ClassId) (a_this a_this_states : Nat) (v_free : Int32) (v_length : Int32) (out : Int32 × Int32) (hF : F_X2_keepNoted v_free v_length = some out) : zM l D cA yX2_keepNoted cX2_keepNoted 1 none 1 21 [.ref a_this] (zw_6 cA 0 a_this a_this_states v_free v_length) (zw_6 cA 0 a_this a_this_states out.1 out.2) none := by
  refine z_body (by decide) (Nat.le_of_ble_eq_true rfl) ?_
  intro p e s m args below meth c ls H locs A X hl hw
  have hl : lv_has ls 1 [(0, .ref a_this)] := hl
  unfold F_X2_keepNoted at hF
  refine z_aload_n 0 X dX2_keepNoted_0 hl 0 rfl ?_
  refine z_aload_n 1 X dX2_keepNoted_1 hl 0 rfl ?_
  refine z_get 2 zc2 0 1 fl_2_20 X dX2_keepNoted_2 hw rfl (by decide) rfl ?_
  refine z_iconst 5 1 X dX2_keepNoted_5 (by decide) ?_
  refine z_iadd 6 X dX2_keepNoted_6 ?_
  refine z_bipush 7 7 X dX2_keepNoted_7 (by decide) ?_
  refine z_icmp_ge 9 21 X dX2_keepNoted_9 (by decide) (fun c1 => ?_) (fun c1 => ?_)
  · replace hF := zpos c1 hF
    refine z_iconst 21 0 X dX2_keepNoted_21 (by decide) ?_
    refine z_put 22 zc2 0 1 (zw_6 cA 0 a_this a_this_states 0 v_length) fl_2_20 X dX2_keepNoted_22 hw rfl (by decide) rfl rfl rfl (Nat.le_of_ble_eq_true rfl) rfl (fun H locs hw => ?_)
    refine z_aload_n 25 X dX2_keepNoted_25 hl 0 rfl ?_
    refine z_aload_n 26 X dX2_keepNoted_26 hl 0 rfl ?_
    refine z_get 27 zc2 0 2 fl_2_24 X dX2_keepNoted_27 hw rfl (by decide) rfl ?_
    refine z_iconst 30 1 X dX2_keepNoted_30 (by decide) ?_
    refine z_iadd 31 X dX2_keepNoted_31 ?_
    refine z_bipush 32 6 X dX2_keepNoted_32 (by decide) ?_
    refine z_min 34 ml_2_31 mq_min X dX2_keepNoted_34 hl ⟨Nat.le_of_ble_eq_true rfl, Nat.le_of_ble_eq_true rfl⟩ ⟨Nat.zero_le _, Nat.zero_le _⟩ ?_
    refine z_put 37 zc2 0 2 (zw_6 cA 0 a_this a_this_states 0 (if 6 < (v_length + 1) then 6 else (v_length + 1))) fl_2_24 X dX2_keepNoted_37 hw rfl (by decide) rfl rfl rfl (Nat.le_of_ble_eq_true rfl) rfl (fun H locs hw => ?_)
    cases hF
    exact z_vret 40 X dX2_keepNoted_40 hw rfl rfl
  · replace hF := zneg c1 hF
    refine z_aload_n 12 X dX2_keepNoted_12 hl 0 rfl ?_
    refine z_get 13 zc2 0 1 fl_2_20 X dX2_keepNoted_13 hw rfl (by decide) rfl ?_
    refine z_iconst 16 1 X dX2_keepNoted_16 (by decide) ?_
    refine z_iadd 17 X dX2_keepNoted_17 ?_
    refine z_goto 18 22 X dX2_keepNoted_18 (by decide) ?_
    refine z_put 22 zc2 0 1 (zw_6 cA 0 a_this a_this_states (v_free + 1) v_length) fl_2_20 X dX2_keepNoted_22 hw rfl (by decide) rfl rfl rfl (Nat.le_of_ble_eq_true rfl) rfl (fun H locs hw => ?_)
    refine z_aload_n 25 X dX2_keepNoted_25 hl 0 rfl ?_
    refine z_aload_n 26 X dX2_keepNoted_26 hl 0 rfl ?_
    refine z_get 27 zc2 0 2 fl_2_24 X dX2_keepNoted_27 hw rfl (by decide) rfl ?_
    refine z_iconst 30 1 X dX2_keepNoted_30 (by decide) ?_
    refine z_iadd 31 X dX2_keepNoted_31 ?_
    refine z_bipush 32 6 X dX2_keepNoted_32 (by decide) ?_
    refine z_min 34 ml_2_31 mq_min X dX2_keepNoted_34 hl ⟨Nat.le_of_ble_eq_true rfl, Nat.le_of_ble_eq_true rfl⟩ ⟨Nat.zero_le _, Nat.zero_le _⟩ ?_
    refine z_put 37 zc2 0 2 (zw_6 cA 0 a_this a_this_states (v_free + 1) (if 6 < (v_length + 1) then 6 else (v_length + 1))) fl_2_24 X dX2_keepNoted_37 hw rfl (by decide) rfl rfl rfl (Nat.le_of_ble_eq_true rfl) rfl (fun H locs hw => ?_)
    cases hF
    exact z_vret 40 X dX2_keepNoted_40 hw rfl rfl
theorem dX3_append_0 : decode cX3_append 0 = .ok (.aload_n 0, 1) := by decide +kernel
theorem dX3_append_1 : decode cX3_append 1 = .ok (.getfield 14, 3) := by decide +kernel
theorem dX3_append_4 : decode cX3_append 4 = .ok (.aload_n 0, 1) := by decide +kernel
theorem dX3_append_5 : decode cX3_append 5 = .ok (.getfield 20, 3) := by decide +kernel
theorem dX3_append_8 : decode cX3_append 8 = .ok (.iload_n 1, 1) := by decide +kernel
theorem dX3_append_9 : decode cX3_append 9 = .ok (.invokevirtual 24, 3) := by decide +kernel
theorem dX3_append_12 : decode cX3_append 12 = .ok (.aload_n 0, 1) := by decide +kernel
theorem dX3_append_13 : decode cX3_append 13 = .ok (.dup, 1) := by decide +kernel
theorem dX3_append_14 : decode cX3_append 14 = .ok (.getfield 20, 3) := by decide +kernel
theorem dX3_append_17 : decode cX3_append 17 = .ok (.iconst 1, 1) := by decide +kernel
theorem dX3_append_18 : decode cX3_append 18 = .ok (.iadd, 1) := by decide +kernel
theorem dX3_append_19 : decode cX3_append 19 = .ok (.putfield 20, 3) := by decide +kernel
theorem dX3_append_22 : decode cX3_append 22 = .ok (.return_, 1) := by decide +kernel
set_option maxHeartbeats 4000000 in
set_option maxRecDepth 100000 in
theorem zk_86 (cA : ClassId) (n : Nat) (a_this a_this_signs a_this_signs_cells : Nat) (v_length : Int32) (g_signs_cells : Ar) (g_signs_cells' : Ar) : zCW (zw_27 cA n a_this a_this_signs a_this_signs_cells v_length g_signs_cells) (zw_27 cA n a_this a_this_signs a_this_signs_cells v_length g_signs_cells') [1, 2] [0] (zw_0 cA 80 a_this_signs a_this_signs_cells g_signs_cells) (zw_0 cA 80 a_this_signs a_this_signs_cells g_signs_cells') := ⟨rfl, (show (zw_0 cA 80 a_this_signs a_this_signs_cells g_signs_cells').map Prod.fst = ([a_this_signs, a_this_signs_cells] : List Nat) from rfl).trans (show (zw_0 cA 80 a_this_signs a_this_signs_cells g_signs_cells).map Prod.fst = ([a_this_signs, a_this_signs_cells] : List Nat) from rfl).symm, by decide +kernel, (show (zw_27 cA n a_this a_this_signs a_this_signs_cells v_length g_signs_cells').map Prod.fst = ([a_this, a_this_signs, a_this_signs_cells] : List Nat) from rfl).trans (show (zw_27 cA n a_this a_this_signs a_this_signs_cells v_length g_signs_cells).map Prod.fst = ([a_this, a_this_signs, a_this_signs_cells] : List Nat) from rfl).symm, rfl, (show ([0] : List Nat).map (fun i => (zw_27 cA n a_this a_this_signs a_this_signs_cells v_length g_signs_cells')[i]?) = ([(a_this, .inr (3, [.ref a_this_signs, .int v_length]))] : va_W).map some from rfl).trans (show ([0] : List Nat).map (fun i => (zw_27 cA n a_this a_this_signs a_this_signs_cells v_length g_signs_cells)[i]?) = ([(a_this, .inr (3, [.ref a_this_signs, .int v_length]))] : va_W).map some from rfl).symm, by decide +kernel, rfl⟩
set_option maxHeartbeats 4000000 in
set_option maxRecDepth 100000 in
theorem m_X3_append (l : Launch) (D : va_G) (cA : ClassId) (a_this a_this_signs a_this_signs_cells : Nat) (v_length : Int32) (g_signs_cells : Ar) (i1 : Int32) (out : Int32 × Ar) (hF : F_X3_append v_length g_signs_cells i1 = some out) : zM l D cA yX3_append cX3_append 2 none 1 22 [.ref a_this, .int i1] (zw_27 cA 0 a_this a_this_signs a_this_signs_cells v_length g_signs_cells) (zw_27 cA 0 a_this a_this_signs a_this_signs_cells out.1 out.2) none := by
  refine z_body (by decide) (Nat.le_of_ble_eq_true rfl) ?_
  intro p e s m args below meth c ls H locs A X hl hw
  have hl : lv_has ls 2 [(0, .ref a_this), (1, .int i1)] := hl
  unfold F_X3_append at hF
  refine z_aload_n 0 X dX3_append_0 hl 0 rfl ?_
  refine z_get 1 zc3 0 0 fl_3_14 X dX3_append_1 hw rfl (by decide) rfl ?_
  refine z_aload_n 4 X dX3_append_4 hl 0 rfl ?_
  refine z_get 5 zc3 0 1 fl_3_20 X dX3_append_5 hw rfl (by decide) rfl ?_
  refine z_iload_n 8 X dX3_append_8 hl 1 rfl ?_
  obtain ⟨u1, e2, hF⟩ := zbd hF
  refine z_callV 9 zc0 mv_X0_write ml_3_24 1 [] (zk_86 cA 0 a_this a_this_signs a_this_signs_cells v_length g_signs_cells u1) (m_X0_write l D cA 80 a_this_signs a_this_signs_cells g_signs_cells v_length i1 u1 e2) X dX3_append_9 hw hl rfl rfl rfl (Nat.le_of_ble_eq_true rfl) ⟨Nat.le_of_ble_eq_true rfl, Nat.le_of_ble_eq_true rfl⟩ ⟨Nat.zero_le _, Nat.zero_le _⟩ (fun H locs hw => ?_)
  refine z_aload_n 12 X dX3_append_12 hl 0 rfl ?_
  refine z_dup 13 X dX3_append_13 rfl ?_
  refine z_get 14 zc3 0 1 fl_3_20 X dX3_append_14 hw rfl (by decide) rfl ?_
  refine z_iconst 17 1 X dX3_append_17 (by decide) ?_
  refine z_iadd 18 X dX3_append_18 ?_
  refine z_put 19 zc3 0 1 (zw_27 cA 0 a_this a_this_signs a_this_signs_cells (v_length + 1) u1) fl_3_20 X dX3_append_19 hw rfl (by decide) rfl rfl rfl (Nat.le_of_ble_eq_true rfl) rfl (fun H locs hw => ?_)
  cases hF
  exact z_vret 22 X dX3_append_22 hw rfl rfl
theorem dX3_isOrder_0 : decode cX3_isOrder 0 = .ok (.iload_n 0, 1) := by decide +kernel
theorem dX3_isOrder_1 : decode cX3_isOrder 1 = .ok (.bipush 43, 2) := by decide +kernel
theorem dX3_isOrder_3 : decode cX3_isOrder 3 = .ok (.if_icmp .eq 21, 3) := by decide +kernel
theorem dX3_isOrder_6 : decode cX3_isOrder 6 = .ok (.iload_n 0, 1) := by decide +kernel
theorem dX3_isOrder_7 : decode cX3_isOrder 7 = .ok (.bipush 45, 2) := by decide +kernel
theorem dX3_isOrder_9 : decode cX3_isOrder 9 = .ok (.if_icmp .eq 15, 3) := by decide +kernel
theorem dX3_isOrder_12 : decode cX3_isOrder 12 = .ok (.iload_n 0, 1) := by decide +kernel
theorem dX3_isOrder_13 : decode cX3_isOrder 13 = .ok (.bipush 98, 2) := by decide +kernel
theorem dX3_isOrder_15 : decode cX3_isOrder 15 = .ok (.if_icmp .eq 9, 3) := by decide +kernel
theorem dX3_isOrder_18 : decode cX3_isOrder 18 = .ok (.iload_n 0, 1) := by decide +kernel
theorem dX3_isOrder_19 : decode cX3_isOrder 19 = .ok (.bipush 111, 2) := by decide +kernel
theorem dX3_isOrder_21 : decode cX3_isOrder 21 = .ok (.if_icmp .ne 7, 3) := by decide +kernel
theorem dX3_isOrder_24 : decode cX3_isOrder 24 = .ok (.iconst 1, 1) := by decide +kernel
theorem dX3_isOrder_25 : decode cX3_isOrder 25 = .ok (.goto 4, 3) := by decide +kernel
theorem dX3_isOrder_28 : decode cX3_isOrder 28 = .ok (.iconst 0, 1) := by decide +kernel
theorem dX3_isOrder_29 : decode cX3_isOrder 29 = .ok (.ireturn, 1) := by decide +kernel
set_option maxHeartbeats 4000000 in
set_option maxRecDepth 100000 in
theorem m_X3_isOrder (l : Launch) (D : va_G) (cA : ClassId) (i0 : Int32) (out : Int32) (hF : F_X3_isOrder i0 = some out) : zM l D cA yX3_isOrder cX3_isOrder 1 (some .boolean) 0 0 [.int i0] (zw_4 cA 0  ) (zw_4 cA 0  ) (some (.int out)) := by
  refine z_body (by decide) (Nat.le_of_ble_eq_true rfl) ?_
  intro p e s m args below meth c ls H locs A X hl hw
  have hl : lv_has ls 1 [(0, .int i0)] := hl
  unfold F_X3_isOrder at hF
  refine z_iload_n 0 X dX3_isOrder_0 hl 0 rfl ?_
  refine z_bipush 1 43 X dX3_isOrder_1 (by decide) ?_
  refine z_icmp_eq 3 24 X dX3_isOrder_3 (by decide) (fun c1 => ?_) (fun c1 => ?_)
  · replace hF := zpos c1 hF
    refine z_iconst 24 1 X dX3_isOrder_24 (by decide) ?_
    refine z_goto 25 29 X dX3_isOrder_25 (by decide) ?_
    cases hF
    exact z_zret 29 X dX3_isOrder_29 hw (by decide) rfl rfl
  · replace hF := zneg c1 hF
    refine z_iload_n 6 X dX3_isOrder_6 hl 0 rfl ?_
    refine z_bipush 7 45 X dX3_isOrder_7 (by decide) ?_
    refine z_icmp_eq 9 24 X dX3_isOrder_9 (by decide) (fun c2 => ?_) (fun c2 => ?_)
    · replace hF := zpos c2 hF
      refine z_iconst 24 1 X dX3_isOrder_24 (by decide) ?_
      refine z_goto 25 29 X dX3_isOrder_25 (by decide) ?_
      cases hF
      exact z_zret 29 X dX3_isOrder_29 hw (by decide) rfl rfl
    · replace hF := zneg c2 hF
      refine z_iload_n 12 X dX3_isOrder_12 hl 0 rfl ?_
      refine z_bipush 13 98 X dX3_isOrder_13 (by decide) ?_
      refine z_icmp_eq 15 24 X dX3_isOrder_15 (by decide) (fun c3 => ?_) (fun c3 => ?_)
      · replace hF := zpos c3 hF
        refine z_iconst 24 1 X dX3_isOrder_24 (by decide) ?_
        refine z_goto 25 29 X dX3_isOrder_25 (by decide) ?_
        cases hF
        exact z_zret 29 X dX3_isOrder_29 hw (by decide) rfl rfl
      · replace hF := zneg c3 hF
        refine z_iload_n 18 X dX3_isOrder_18 hl 0 rfl ?_
        refine z_bipush 19 111 X dX3_isOrder_19 (by decide) ?_
        refine z_icmp_ne 21 28 X dX3_isOrder_21 (by decide) (fun c4 => ?_) (fun c4 => ?_)
        · replace hF := zneg c4 hF
          refine z_iconst 28 0 X dX3_isOrder_28 (by decide) ?_
          cases hF
          exact z_zret 29 X dX3_isOrder_29 hw (by decide) rfl rfl
        · replace hF := zpos c4 hF
          refine z_iconst 24 1 X dX3_isOrder_24 (by decide) ?_
          refine z_goto 25 29 X dX3_isOrder_25 (by decide) ?_
          cases hF
          exact z_zret 29 X dX3_isOrder_29 hw (by decide) rfl rfl
theorem dX3_withDigit_0 : decode cX3_withDigit 0 = .ok (.iload_n 0, 1) := by decide +kernel
theorem dX3_withDigit_1 : decode cX3_withDigit 1 = .ok (.ifCond .ne 6, 3) := by decide +kernel
theorem dX3_withDigit_4 : decode cX3_withDigit 4 = .ok (.ldc 44, 2) := by decide +kernel
theorem dX3_withDigit_6 : decode cX3_withDigit 6 = .ok (.ireturn, 1) := by decide +kernel
theorem dX3_withDigit_7 : decode cX3_withDigit 7 = .ok (.iconst 0, 1) := by decide +kernel
theorem dX3_withDigit_8 : decode cX3_withDigit 8 = .ok (.iload_n 0, 1) := by decide +kernel
theorem dX3_withDigit_9 : decode cX3_withDigit 9 = .ok (.invokestatic 45, 3) := by decide +kernel
theorem dX3_withDigit_12 : decode cX3_withDigit 12 = .ok (.bipush 10, 2) := by decide +kernel
theorem dX3_withDigit_14 : decode cX3_withDigit 14 = .ok (.imul, 1) := by decide +kernel
theorem dX3_withDigit_15 : decode cX3_withDigit 15 = .ok (.iload_n 1, 1) := by decide +kernel
theorem dX3_withDigit_16 : decode cX3_withDigit 16 = .ok (.iadd, 1) := by decide +kernel
theorem dX3_withDigit_17 : decode cX3_withDigit 17 = .ok (.ireturn, 1) := by decide +kernel
set_option maxHeartbeats 4000000 in
set_option maxRecDepth 100000 in
theorem m_X3_withDigit (l : Launch) (D : va_G) (cA : ClassId) (i0 : Int32) (i1 : Int32) (out : Int32) (hF : F_X3_withDigit i0 i1 = some out) : zM l D cA yX3_withDigit cX3_withDigit 2 (some .int) 1 21 [.int i0, .int i1] (zw_4 cA 0  ) (zw_4 cA 0  ) (some (.int out)) := by
  refine z_body (by decide) (Nat.le_of_ble_eq_true rfl) ?_
  intro p e s m args below meth c ls H locs A X hl hw
  have hl : lv_has ls 2 [(0, .int i0), (1, .int i1)] := hl
  unfold F_X3_withDigit at hF
  refine z_iload_n 0 X dX3_withDigit_0 hl 0 rfl ?_
  refine z_if_ne 1 7 X dX3_withDigit_1 (by decide) (fun c1 => ?_) (fun c1 => ?_)
  · replace hF := zneg c1 hF
    refine z_iconst 7 0 X dX3_withDigit_7 (by decide) ?_
    refine z_iload_n 8 X dX3_withDigit_8 hl 0 rfl ?_
    refine z_max 9 ml_3_45 mq_max X dX3_withDigit_9 hl ⟨Nat.le_of_ble_eq_true rfl, Nat.le_of_ble_eq_true rfl⟩ ⟨Nat.zero_le _, Nat.zero_le _⟩ ?_
    refine z_bipush 12 10 X dX3_withDigit_12 (by decide) ?_
    refine z_imul 14 X dX3_withDigit_14 ?_
    refine z_iload_n 15 X dX3_withDigit_15 hl 1 rfl ?_
    refine z_iadd 16 X dX3_withDigit_16 ?_
    cases hF
    exact z_iret 17 X dX3_withDigit_17 hw rfl rfl
  · replace hF := zpos c1 hF
    refine z_ldc 4 65536 X dX3_withDigit_4 cl_3_44 ?_
    cases hF
    exact z_iret 6 X dX3_withDigit_6 hw rfl rfl
theorem dX3_faultPlace_0 : decode cX3_faultPlace 0 = .ok (.iconst 0, 1) := by decide +kernel
theorem dX3_faultPlace_1 : decode cX3_faultPlace 1 = .ok (.istore_n 1, 1) := by decide +kernel
theorem dX3_faultPlace_2 : decode cX3_faultPlace 2 = .ok (.iconst (-1), 1) := by decide +kernel
theorem dX3_faultPlace_3 : decode cX3_faultPlace 3 = .ok (.istore_n 2, 1) := by decide +kernel
theorem dX3_faultPlace_4 : decode cX3_faultPlace 4 = .ok (.iconst 0, 1) := by decide +kernel
theorem dX3_faultPlace_5 : decode cX3_faultPlace 5 = .ok (.istore_n 3, 1) := by decide +kernel
theorem dX3_faultPlace_6 : decode cX3_faultPlace 6 = .ok (.iload_n 3, 1) := by decide +kernel
theorem dX3_faultPlace_7 : decode cX3_faultPlace 7 = .ok (.aload_n 0, 1) := by decide +kernel
theorem dX3_faultPlace_8 : decode cX3_faultPlace 8 = .ok (.getfield 20, 3) := by decide +kernel
theorem dX3_faultPlace_11 : decode cX3_faultPlace 11 = .ok (.if_icmp .ge 107, 3) := by decide +kernel
theorem dX3_faultPlace_14 : decode cX3_faultPlace 14 = .ok (.aload_n 0, 1) := by decide +kernel
theorem dX3_faultPlace_15 : decode cX3_faultPlace 15 = .ok (.getfield 14, 3) := by decide +kernel
theorem dX3_faultPlace_18 : decode cX3_faultPlace 18 = .ok (.iload_n 3, 1) := by decide +kernel
theorem dX3_faultPlace_19 : decode cX3_faultPlace 19 = .ok (.invokevirtual 28, 3) := by decide +kernel
theorem dX3_faultPlace_22 : decode cX3_faultPlace 22 = .ok (.istore 4, 2) := by decide +kernel
theorem dX3_faultPlace_24 : decode cX3_faultPlace 24 = .ok (.iload_n 1, 1) := by decide +kernel
theorem dX3_faultPlace_25 : decode cX3_faultPlace 25 = .ok (.ifCond .ne 21, 3) := by decide +kernel
theorem dX3_faultPlace_28 : decode cX3_faultPlace 28 = .ok (.iload 4, 2) := by decide +kernel
theorem dX3_faultPlace_30 : decode cX3_faultPlace 30 = .ok (.invokestatic 32, 3) := by decide +kernel
theorem dX3_faultPlace_33 : decode cX3_faultPlace 33 = .ok (.ifCond .ne 5, 3) := by decide +kernel
theorem dX3_faultPlace_36 : decode cX3_faultPlace 36 = .ok (.iload_n 3, 1) := by decide +kernel
theorem dX3_faultPlace_37 : decode cX3_faultPlace 37 = .ok (.ireturn, 1) := by decide +kernel
theorem dX3_faultPlace_38 : decode cX3_faultPlace 38 = .ok (.iload 4, 2) := by decide +kernel
theorem dX3_faultPlace_40 : decode cX3_faultPlace 40 = .ok (.istore_n 1, 1) := by decide +kernel
theorem dX3_faultPlace_41 : decode cX3_faultPlace 41 = .ok (.iconst (-1), 1) := by decide +kernel
theorem dX3_faultPlace_42 : decode cX3_faultPlace 42 = .ok (.istore_n 2, 1) := by decide +kernel
theorem dX3_faultPlace_43 : decode cX3_faultPlace 43 = .ok (.goto 69, 3) := by decide +kernel
theorem dX3_faultPlace_46 : decode cX3_faultPlace 46 = .ok (.iload 4, 2) := by decide +kernel
theorem dX3_faultPlace_48 : decode cX3_faultPlace 48 = .ok (.invokestatic 36, 3) := by decide +kernel
theorem dX3_faultPlace_51 : decode cX3_faultPlace 51 = .ok (.ifCond .eq 21, 3) := by decide +kernel
theorem dX3_faultPlace_54 : decode cX3_faultPlace 54 = .ok (.iload_n 2, 1) := by decide +kernel
theorem dX3_faultPlace_55 : decode cX3_faultPlace 55 = .ok (.iload 4, 2) := by decide +kernel
theorem dX3_faultPlace_57 : decode cX3_faultPlace 57 = .ok (.bipush 48, 2) := by decide +kernel
theorem dX3_faultPlace_59 : decode cX3_faultPlace 59 = .ok (.isub, 1) := by decide +kernel
theorem dX3_faultPlace_60 : decode cX3_faultPlace 60 = .ok (.invokestatic 39, 3) := by decide +kernel
theorem dX3_faultPlace_63 : decode cX3_faultPlace 63 = .ok (.istore_n 2, 1) := by decide +kernel
theorem dX3_faultPlace_64 : decode cX3_faultPlace 64 = .ok (.iload_n 2, 1) := by decide +kernel
theorem dX3_faultPlace_65 : decode cX3_faultPlace 65 = .ok (.ldc 43, 2) := by decide +kernel
theorem dX3_faultPlace_67 : decode cX3_faultPlace 67 = .ok (.if_icmp .le 45, 3) := by decide +kernel
theorem dX3_faultPlace_70 : decode cX3_faultPlace 70 = .ok (.iload_n 3, 1) := by decide +kernel
theorem dX3_faultPlace_71 : decode cX3_faultPlace 71 = .ok (.ireturn, 1) := by decide +kernel
theorem dX3_faultPlace_72 : decode cX3_faultPlace 72 = .ok (.iload_n 2, 1) := by decide +kernel
theorem dX3_faultPlace_73 : decode cX3_faultPlace 73 = .ok (.ifCond .lt 15, 3) := by decide +kernel
theorem dX3_faultPlace_76 : decode cX3_faultPlace 76 = .ok (.iload 4, 2) := by decide +kernel
theorem dX3_faultPlace_78 : decode cX3_faultPlace 78 = .ok (.bipush 59, 2) := by decide +kernel
theorem dX3_faultPlace_80 : decode cX3_faultPlace 80 = .ok (.if_icmp .ne 8, 3) := by decide +kernel
theorem dX3_faultPlace_83 : decode cX3_faultPlace 83 = .ok (.iconst 0, 1) := by decide +kernel
theorem dX3_faultPlace_84 : decode cX3_faultPlace 84 = .ok (.istore_n 1, 1) := by decide +kernel
theorem dX3_faultPlace_85 : decode cX3_faultPlace 85 = .ok (.goto 27, 3) := by decide +kernel
theorem dX3_faultPlace_88 : decode cX3_faultPlace 88 = .ok (.iload_n 2, 1) := by decide +kernel
theorem dX3_faultPlace_89 : decode cX3_faultPlace 89 = .ok (.ifCond .lt 21, 3) := by decide +kernel
theorem dX3_faultPlace_92 : decode cX3_faultPlace 92 = .ok (.iload 4, 2) := by decide +kernel
theorem dX3_faultPlace_94 : decode cX3_faultPlace 94 = .ok (.bipush 44, 2) := by decide +kernel
theorem dX3_faultPlace_96 : decode cX3_faultPlace 96 = .ok (.if_icmp .ne 14, 3) := by decide +kernel
theorem dX3_faultPlace_99 : decode cX3_faultPlace 99 = .ok (.iload_n 1, 1) := by decide +kernel
theorem dX3_faultPlace_100 : decode cX3_faultPlace 100 = .ok (.bipush 43, 2) := by decide +kernel
theorem dX3_faultPlace_102 : decode cX3_faultPlace 102 = .ok (.if_icmp .ne 8, 3) := by decide +kernel
theorem dX3_faultPlace_105 : decode cX3_faultPlace 105 = .ok (.iconst (-1), 1) := by decide +kernel
theorem dX3_faultPlace_106 : decode cX3_faultPlace 106 = .ok (.istore_n 2, 1) := by decide +kernel
theorem dX3_faultPlace_107 : decode cX3_faultPlace 107 = .ok (.goto 5, 3) := by decide +kernel
theorem dX3_faultPlace_110 : decode cX3_faultPlace 110 = .ok (.iload_n 3, 1) := by decide +kernel
theorem dX3_faultPlace_111 : decode cX3_faultPlace 111 = .ok (.ireturn, 1) := by decide +kernel
theorem dX3_faultPlace_112 : decode cX3_faultPlace 112 = .ok (.iinc 3 1, 3) := by decide +kernel
theorem dX3_faultPlace_115 : decode cX3_faultPlace 115 = .ok (.goto (-109), 3) := by decide +kernel
theorem dX3_faultPlace_118 : decode cX3_faultPlace 118 = .ok (.iload_n 1, 1) := by decide +kernel
theorem dX3_faultPlace_119 : decode cX3_faultPlace 119 = .ok (.ifCond .eq 12, 3) := by decide +kernel
theorem dX3_faultPlace_122 : decode cX3_faultPlace 122 = .ok (.iload_n 2, 1) := by decide +kernel
theorem dX3_faultPlace_123 : decode cX3_faultPlace 123 = .ok (.ifCond .lt 8, 3) := by decide +kernel
theorem dX3_faultPlace_126 : decode cX3_faultPlace 126 = .ok (.bipush (-6), 2) := by decide +kernel
theorem dX3_faultPlace_128 : decode cX3_faultPlace 128 = .ok (.goto 7, 3) := by decide +kernel
theorem dX3_faultPlace_131 : decode cX3_faultPlace 131 = .ok (.aload_n 0, 1) := by decide +kernel
theorem dX3_faultPlace_132 : decode cX3_faultPlace 132 = .ok (.getfield 20, 3) := by decide +kernel
theorem dX3_faultPlace_135 : decode cX3_faultPlace 135 = .ok (.ireturn, 1) := by decide +kernel
set_option maxHeartbeats 4000000 in
set_option maxRecDepth 100000 in
theorem zk_89 (cA : ClassId) (n : Nat) (a_this a_this_signs a_this_signs_cells : Nat) (v_length : Int32) (g_signs_cells : Ar)  : zCW (zw_27 cA n a_this a_this_signs a_this_signs_cells v_length g_signs_cells) (zw_27 cA n a_this a_this_signs a_this_signs_cells v_length g_signs_cells) [1, 2] [0] (zw_0 cA 80 a_this_signs a_this_signs_cells g_signs_cells) (zw_0 cA 80 a_this_signs a_this_signs_cells g_signs_cells) := ⟨rfl, (show (zw_0 cA 80 a_this_signs a_this_signs_cells g_signs_cells).map Prod.fst = ([a_this_signs, a_this_signs_cells] : List Nat) from rfl).trans (show (zw_0 cA 80 a_this_signs a_this_signs_cells g_signs_cells).map Prod.fst = ([a_this_signs, a_this_signs_cells] : List Nat) from rfl).symm, by decide +kernel, (show (zw_27 cA n a_this a_this_signs a_this_signs_cells v_length g_signs_cells).map Prod.fst = ([a_this, a_this_signs, a_this_signs_cells] : List Nat) from rfl).trans (show (zw_27 cA n a_this a_this_signs a_this_signs_cells v_length g_signs_cells).map Prod.fst = ([a_this, a_this_signs, a_this_signs_cells] : List Nat) from rfl).symm, rfl, (show ([0] : List Nat).map (fun i => (zw_27 cA n a_this a_this_signs a_this_signs_cells v_length g_signs_cells)[i]?) = ([(a_this, .inr (3, [.ref a_this_signs, .int v_length]))] : va_W).map some from rfl).trans (show ([0] : List Nat).map (fun i => (zw_27 cA n a_this a_this_signs a_this_signs_cells v_length g_signs_cells)[i]?) = ([(a_this, .inr (3, [.ref a_this_signs, .int v_length]))] : va_W).map some from rfl).symm, by decide +kernel, rfl⟩
set_option maxHeartbeats 4000000 in
set_option maxRecDepth 100000 in
theorem zk_90 (cA : ClassId) (n : Nat) (a_this a_this_signs a_this_signs_cells : Nat) (v_length : Int32) (g_signs_cells : Ar)  : zCW (zw_27 cA n a_this a_this_signs a_this_signs_cells v_length g_signs_cells) (zw_27 cA n a_this a_this_signs a_this_signs_cells v_length g_signs_cells) [] [0, 1, 2] (zw_4 cA 0  ) (zw_4 cA 0  ) := ⟨rfl, (show (zw_4 cA 0  ).map Prod.fst = ([] : List Nat) from rfl).trans (show (zw_4 cA 0  ).map Prod.fst = ([] : List Nat) from rfl).symm, by decide +kernel, (show (zw_27 cA n a_this a_this_signs a_this_signs_cells v_length g_signs_cells).map Prod.fst = ([a_this, a_this_signs, a_this_signs_cells] : List Nat) from rfl).trans (show (zw_27 cA n a_this a_this_signs a_this_signs_cells v_length g_signs_cells).map Prod.fst = ([a_this, a_this_signs, a_this_signs_cells] : List Nat) from rfl).symm, rfl, (show ([0, 1, 2] : List Nat).map (fun i => (zw_27 cA n a_this a_this_signs a_this_signs_cells v_length g_signs_cells)[i]?) = ([(a_this, .inr (3, [.ref a_this_signs, .int v_length])), (a_this_signs, .inr (0, [.ref a_this_signs_cells])), (a_this_signs_cells, .inl (cA, 80, .inl g_signs_cells))] : va_W).map some from rfl).trans (show ([0, 1, 2] : List Nat).map (fun i => (zw_27 cA n a_this a_this_signs a_this_signs_cells v_length g_signs_cells)[i]?) = ([(a_this, .inr (3, [.ref a_this_signs, .int v_length])), (a_this_signs, .inr (0, [.ref a_this_signs_cells])), (a_this_signs_cells, .inl (cA, 80, .inl g_signs_cells))] : va_W).map some from rfl).symm, by decide +kernel, rfl⟩
set_option maxHeartbeats 4000000 in
set_option maxRecDepth 100000 in
theorem l_X3_faultPlace_6 (l : Launch) (D : va_G) (cA : ClassId) (a_this a_this_signs a_this_signs_cells : Nat) (v_length : Int32) (g_signs_cells : Ar) (out : Int32) {p : Program} {e : Env} {s : State} {m : MethodId} {args : Array Value} {below : List Frame} {meth : Method} {c : Code} {A : Nat → Prop} (X : zX D cA p s m args meth c cX3_faultPlace 5 RX3 (some .int)) (k : Int32 → Int32 → Option (Int32)) (hk : ∀ (i1 : Int32) (i2 : Int32) (H : Heap) (locs : List Loc) (ls : Array Slot), zH D A s (zw_27 cA 0 a_this a_this_signs a_this_signs_cells v_length g_signs_cells) H locs → lv_has ls 5 [(0, .ref a_this), (1, .int i1), (2, .int i2)] → k i1 i2 = some out → W p l e (zR 2 42) s m args below meth c H locs 0 0 (MQ below (zQ D (zw_27 cA 0 a_this a_this_signs a_this_signs_cells v_length g_signs_cells) (some (.int out)) A) args s 0 0 A) (F0 m 118 ls [])) :
    ∀ (fuel : Nat) (i1 : Int32) (i2 : Int32) (i3 : Int32) (H : Heap) (locs : List Loc) (ls : Array Slot), zH D A s (zw_27 cA 0 a_this a_this_signs a_this_signs_cells v_length g_signs_cells) H locs → lv_has ls 5 [(0, .ref a_this), (1, .int i1), (2, .int i2), (3, .int i3)] → F_X3_faultPlace_L6 v_length g_signs_cells k fuel i1 i2 i3 = some out → W p l e (zR 2 42) s m args below meth c H locs 0 0 (MQ below (zQ D (zw_27 cA 0 a_this a_this_signs a_this_signs_cells v_length g_signs_cells) (some (.int out)) A) args s 0 0 A) (F0 m 6 ls []) := by
  intro fuel
  induction fuel with
  | zero => intro i1 i2 i3 H locs ls hw hl hF; exact nomatch (show (none : Option (Int32)) = some out from hF)
  | succ fuel ih =>
    intro i1 i2 i3 H locs ls hw hl hF
    rw [F_X3_faultPlace_L6] at hF
    refine z_iload_n 6 X dX3_faultPlace_6 hl 3 rfl ?_
    refine z_aload_n 7 X dX3_faultPlace_7 hl 0 rfl ?_
    refine z_get 8 zc3 0 1 fl_3_20 X dX3_faultPlace_8 hw rfl (by decide) rfl ?_
    refine z_icmp_ge 11 118 X dX3_faultPlace_11 (by decide) (fun c1 => ?_) (fun c1 => ?_)
    · replace hF := zpos c1 hF
      exact hk i1 i2 H locs ls hw (lv_sub hl [0, 1, 2] rfl) hF
    · replace hF := zneg c1 hF
      refine z_aload_n 14 X dX3_faultPlace_14 hl 0 rfl ?_
      refine z_get 15 zc3 0 0 fl_3_14 X dX3_faultPlace_15 hw rfl (by decide) rfl ?_
      refine z_iload_n 18 X dX3_faultPlace_18 hl 3 rfl ?_
      obtain ⟨u2, e3, hF⟩ := zbd hF
      refine z_callV 19 zc0 mv_X0_read ml_3_28 1 [] (zk_89 cA 0 a_this a_this_signs a_this_signs_cells v_length g_signs_cells) (m_X0_read l D cA 80 a_this_signs a_this_signs_cells g_signs_cells i3 u2 e3) X dX3_faultPlace_19 hw hl rfl rfl rfl (Nat.le_of_ble_eq_true rfl) ⟨Nat.le_of_ble_eq_true rfl, Nat.le_of_ble_eq_true rfl⟩ ⟨Nat.zero_le _, Nat.zero_le _⟩ (fun H locs hw => ?_)
      refine z_istore 22 [(4, .int u2), (0, .ref a_this), (1, .int i1), (2, .int i2), (3, .int i3)] X dX3_faultPlace_22 hl (by decide) rfl (fun ls hl => ?_)
      refine z_iload_n 24 X dX3_faultPlace_24 hl 2 rfl ?_
      refine z_if_ne 25 46 X dX3_faultPlace_25 (by decide) (fun c4 => ?_) (fun c4 => ?_)
      · replace hF := zneg c4 hF
        refine z_iload 46 X dX3_faultPlace_46 hl 0 rfl ?_
        obtain ⟨u5, e6, hF⟩ := zbd hF
        refine z_callSN 48 mv_X8_isDigit ml_3_36 [] (zk_90 cA 0 a_this a_this_signs a_this_signs_cells v_length g_signs_cells) (m_X8_isDigit l D cA u2 u5 e6) X dX3_faultPlace_48 hw hl rfl rfl (Nat.le_of_ble_eq_true rfl) ⟨Nat.le_of_ble_eq_true rfl, Nat.le_of_ble_eq_true rfl⟩ ⟨Nat.zero_le _, Nat.zero_le _⟩ (fun H locs hw => ?_)
        refine z_if_eq 51 72 X dX3_faultPlace_51 (by decide) (fun c7 => ?_) (fun c7 => ?_)
        · replace hF := zpos c7 hF
          refine z_iload_n 72 X dX3_faultPlace_72 hl 3 rfl ?_
          refine z_if_lt 73 88 X dX3_faultPlace_73 (by decide) (fun c8 => ?_) (fun c8 => ?_)
          · replace hF := zpos c8 hF
            refine z_iload_n 88 X dX3_faultPlace_88 hl 3 rfl ?_
            refine z_if_lt 89 110 X dX3_faultPlace_89 (by decide) (fun c9 => ?_) (fun c9 => ?_)
            · replace hF := zpos c9 hF
              refine z_iload_n 110 X dX3_faultPlace_110 hl 4 rfl ?_
              cases hF
              exact z_iret 111 X dX3_faultPlace_111 hw rfl rfl
            · replace hF := zneg c9 hF
              refine z_iload 92 X dX3_faultPlace_92 hl 0 rfl ?_
              refine z_bipush 94 44 X dX3_faultPlace_94 (by decide) ?_
              refine z_icmp_ne 96 110 X dX3_faultPlace_96 (by decide) (fun c10 => ?_) (fun c10 => ?_)
              · replace hF := zneg c10 hF
                refine z_iload_n 110 X dX3_faultPlace_110 hl 4 rfl ?_
                cases hF
                exact z_iret 111 X dX3_faultPlace_111 hw rfl rfl
              · replace hF := zpos c10 hF
                refine z_iload_n 99 X dX3_faultPlace_99 hl 2 rfl ?_
                refine z_bipush 100 43 X dX3_faultPlace_100 (by decide) ?_
                refine z_icmp_ne 102 110 X dX3_faultPlace_102 (by decide) (fun c11 => ?_) (fun c11 => ?_)
                · replace hF := zneg c11 hF
                  refine z_iload_n 110 X dX3_faultPlace_110 hl 4 rfl ?_
                  cases hF
                  exact z_iret 111 X dX3_faultPlace_111 hw rfl rfl
                · replace hF := zpos c11 hF
                  refine z_iconst 105 (-1) X dX3_faultPlace_105 (by decide) ?_
                  refine z_istore_n 106 [(2, .int (-1)), (4, .int u2), (0, .ref a_this), (1, .int i1), (3, .int i3)] X dX3_faultPlace_106 hl (by decide) rfl (fun ls hl => ?_)
                  refine z_goto 107 112 X dX3_faultPlace_107 (by decide) ?_
                  refine z_iinc2 112 1 [(3, .int (i3 + 1)), (2, .int (-1)), (4, .int u2), (0, .ref a_this), (1, .int i1)] X dX3_faultPlace_112 hl 4 rfl (by decide) (by decide) rfl (fun ls hl => ?_)
                  refine z_goto 115 6 X dX3_faultPlace_115 (by decide) ?_
                  exact ih i1 (-1) (i3 + 1) H locs ls hw (lv_sub hl [3, 4, 1, 0] rfl) hF
          · replace hF := zneg c8 hF
            refine z_iload 76 X dX3_faultPlace_76 hl 0 rfl ?_
            refine z_bipush 78 59 X dX3_faultPlace_78 (by decide) ?_
            refine z_icmp_ne 80 88 X dX3_faultPlace_80 (by decide) (fun c12 => ?_) (fun c12 => ?_)
            · replace hF := zneg c12 hF
              refine z_iload_n 88 X dX3_faultPlace_88 hl 3 rfl ?_
              refine z_if_lt 89 110 X dX3_faultPlace_89 (by decide) (fun c13 => ?_) (fun c13 => ?_)
              · replace hF := zpos c13 hF
                refine z_iload_n 110 X dX3_faultPlace_110 hl 4 rfl ?_
                cases hF
                exact z_iret 111 X dX3_faultPlace_111 hw rfl rfl
              · replace hF := zneg c13 hF
                refine z_iload 92 X dX3_faultPlace_92 hl 0 rfl ?_
                refine z_bipush 94 44 X dX3_faultPlace_94 (by decide) ?_
                refine z_icmp_ne 96 110 X dX3_faultPlace_96 (by decide) (fun c14 => ?_) (fun c14 => ?_)
                · replace hF := zneg c14 hF
                  refine z_iload_n 110 X dX3_faultPlace_110 hl 4 rfl ?_
                  cases hF
                  exact z_iret 111 X dX3_faultPlace_111 hw rfl rfl
                · replace hF := zpos c14 hF
                  refine z_iload_n 99 X dX3_faultPlace_99 hl 2 rfl ?_
                  refine z_bipush 100 43 X dX3_faultPlace_100 (by decide) ?_
                  refine z_icmp_ne 102 110 X dX3_faultPlace_102 (by decide) (fun c15 => ?_) (fun c15 => ?_)
                  · replace hF := zneg c15 hF
                    refine z_iload_n 110 X dX3_faultPlace_110 hl 4 rfl ?_
                    cases hF
                    exact z_iret 111 X dX3_faultPlace_111 hw rfl rfl
                  · replace hF := zpos c15 hF
                    refine z_iconst 105 (-1) X dX3_faultPlace_105 (by decide) ?_
                    refine z_istore_n 106 [(2, .int (-1)), (4, .int u2), (0, .ref a_this), (1, .int i1), (3, .int i3)] X dX3_faultPlace_106 hl (by decide) rfl (fun ls hl => ?_)
                    refine z_goto 107 112 X dX3_faultPlace_107 (by decide) ?_
                    refine z_iinc2 112 1 [(3, .int (i3 + 1)), (2, .int (-1)), (4, .int u2), (0, .ref a_this), (1, .int i1)] X dX3_faultPlace_112 hl 4 rfl (by decide) (by decide) rfl (fun ls hl => ?_)
                    refine z_goto 115 6 X dX3_faultPlace_115 (by decide) ?_
                    exact ih i1 (-1) (i3 + 1) H locs ls hw (lv_sub hl [3, 4, 1, 0] rfl) hF
            · replace hF := zpos c12 hF
              refine z_iconst 83 0 X dX3_faultPlace_83 (by decide) ?_
              refine z_istore_n 84 [(1, .int 0), (4, .int u2), (0, .ref a_this), (2, .int i2), (3, .int i3)] X dX3_faultPlace_84 hl (by decide) rfl (fun ls hl => ?_)
              refine z_goto 85 112 X dX3_faultPlace_85 (by decide) ?_
              refine z_iinc2 112 1 [(3, .int (i3 + 1)), (1, .int 0), (4, .int u2), (0, .ref a_this), (2, .int i2)] X dX3_faultPlace_112 hl 4 rfl (by decide) (by decide) rfl (fun ls hl => ?_)
              refine z_goto 115 6 X dX3_faultPlace_115 (by decide) ?_
              exact ih 0 i2 (i3 + 1) H locs ls hw (lv_sub hl [3, 1, 4, 0] rfl) hF
        · replace hF := zneg c7 hF
          refine z_iload_n 54 X dX3_faultPlace_54 hl 3 rfl ?_
          refine z_iload 55 X dX3_faultPlace_55 hl 0 rfl ?_
          refine z_bipush 57 48 X dX3_faultPlace_57 (by decide) ?_
          refine z_isub 59 X dX3_faultPlace_59 ?_
          obtain ⟨u16, e17, hF⟩ := zbd hF
          refine z_callS 60 mv_X3_withDigit ml_3_39 [] (zk_90 cA 0 a_this a_this_signs a_this_signs_cells v_length g_signs_cells) (m_X3_withDigit l D cA i2 (u2 - 48) u16 e17) X dX3_faultPlace_60 hw hl rfl rfl (Nat.le_of_ble_eq_true rfl) ⟨Nat.le_of_ble_eq_true rfl, Nat.le_of_ble_eq_true rfl⟩ ⟨Nat.zero_le _, Nat.zero_le _⟩ (fun H locs hw => ?_)
          refine z_istore_n 63 [(2, .int u16), (4, .int u2), (0, .ref a_this), (1, .int i1), (3, .int i3)] X dX3_faultPlace_63 hl (by decide) rfl (fun ls hl => ?_)
          refine z_iload_n 64 X dX3_faultPlace_64 hl 0 rfl ?_
          refine z_ldc 65 65535 X dX3_faultPlace_65 cl_3_43 ?_
          refine z_icmp_le 67 112 X dX3_faultPlace_67 (by decide) (fun c18 => ?_) (fun c18 => ?_)
          · replace hF := zpos c18 hF
            refine z_iinc2 112 1 [(3, .int (i3 + 1)), (2, .int u16), (4, .int u2), (0, .ref a_this), (1, .int i1)] X dX3_faultPlace_112 hl 4 rfl (by decide) (by decide) rfl (fun ls hl => ?_)
            refine z_goto 115 6 X dX3_faultPlace_115 (by decide) ?_
            exact ih i1 u16 (i3 + 1) H locs ls hw (lv_sub hl [3, 4, 1, 0] rfl) hF
          · replace hF := zneg c18 hF
            refine z_iload_n 70 X dX3_faultPlace_70 hl 4 rfl ?_
            cases hF
            exact z_iret 71 X dX3_faultPlace_71 hw rfl rfl
      · replace hF := zpos c4 hF
        refine z_iload 28 X dX3_faultPlace_28 hl 0 rfl ?_
        obtain ⟨u19, e20, hF⟩ := zbd hF
        refine z_callS 30 mv_X3_isOrder ml_3_32 [] (zk_90 cA 0 a_this a_this_signs a_this_signs_cells v_length g_signs_cells) (m_X3_isOrder l D cA u2 u19 e20) X dX3_faultPlace_30 hw hl rfl rfl (Nat.le_of_ble_eq_true rfl) ⟨Nat.le_of_ble_eq_true rfl, Nat.le_of_ble_eq_true rfl⟩ ⟨Nat.zero_le _, Nat.zero_le _⟩ (fun H locs hw => ?_)
        refine z_if_ne 33 38 X dX3_faultPlace_33 (by decide) (fun c21 => ?_) (fun c21 => ?_)
        · replace hF := zneg c21 hF
          refine z_iload 38 X dX3_faultPlace_38 hl 0 rfl ?_
          refine z_istore_n 40 [(1, .int u2), (4, .int u2), (0, .ref a_this), (2, .int i2), (3, .int i3)] X dX3_faultPlace_40 hl (by decide) rfl (fun ls hl => ?_)
          refine z_iconst 41 (-1) X dX3_faultPlace_41 (by decide) ?_
          refine z_istore_n 42 [(2, .int (-1)), (1, .int u2), (4, .int u2), (0, .ref a_this), (3, .int i3)] X dX3_faultPlace_42 hl (by decide) rfl (fun ls hl => ?_)
          refine z_goto 43 112 X dX3_faultPlace_43 (by decide) ?_
          refine z_iinc2 112 1 [(3, .int (i3 + 1)), (2, .int (-1)), (1, .int u2), (4, .int u2), (0, .ref a_this)] X dX3_faultPlace_112 hl 4 rfl (by decide) (by decide) rfl (fun ls hl => ?_)
          refine z_goto 115 6 X dX3_faultPlace_115 (by decide) ?_
          exact ih u2 (-1) (i3 + 1) H locs ls hw (lv_sub hl [4, 2, 1, 0] rfl) hF
        · replace hF := zpos c21 hF
          refine z_iload_n 36 X dX3_faultPlace_36 hl 4 rfl ?_
          cases hF
          exact z_iret 37 X dX3_faultPlace_37 hw rfl rfl
set_option maxHeartbeats 4000000 in
set_option maxRecDepth 100000 in
theorem m_X3_faultPlace (l : Launch) (D : va_G) (cA : ClassId) (a_this a_this_signs a_this_signs_cells : Nat) (v_length : Int32) (g_signs_cells : Ar) (out : Int32) (hF : F_X3_faultPlace v_length g_signs_cells = some out) : zM l D cA yX3_faultPlace cX3_faultPlace 5 (some .int) 2 42 [.ref a_this] (zw_27 cA 0 a_this a_this_signs a_this_signs_cells v_length g_signs_cells) (zw_27 cA 0 a_this a_this_signs a_this_signs_cells v_length g_signs_cells) (some (.int out)) := by
  refine z_body (by decide) (Nat.le_of_ble_eq_true rfl) ?_
  intro p e s m args below meth c ls H locs A X hl hw
  have hl : lv_has ls 5 [(0, .ref a_this)] := hl
  unfold F_X3_faultPlace at hF
  refine z_iconst 0 0 X dX3_faultPlace_0 (by decide) ?_
  refine z_istore_n 1 [(1, .int 0), (0, .ref a_this)] X dX3_faultPlace_1 hl (by decide) rfl (fun ls hl => ?_)
  refine z_iconst 2 (-1) X dX3_faultPlace_2 (by decide) ?_
  refine z_istore_n 3 [(2, .int (-1)), (1, .int 0), (0, .ref a_this)] X dX3_faultPlace_3 hl (by decide) rfl (fun ls hl => ?_)
  refine z_iconst 4 0 X dX3_faultPlace_4 (by decide) ?_
  refine z_istore_n 5 [(3, .int 0), (2, .int (-1)), (1, .int 0), (0, .ref a_this)] X dX3_faultPlace_5 hl (by decide) rfl (fun ls hl => ?_)
  refine l_X3_faultPlace_6 l D cA a_this a_this_signs a_this_signs_cells v_length g_signs_cells out X _ (fun i1_22 i2_23 H locs ls hw hl hF => ?_) zFuel 0 (-1) 0 H locs ls hw (lv_sub hl [3, 2, 1, 0] rfl) hF
  refine z_iload_n 118 X dX3_faultPlace_118 hl 1 rfl ?_
  refine z_if_eq 119 131 X dX3_faultPlace_119 (by decide) (fun c24 => ?_) (fun c24 => ?_)
  · replace hF := zpos c24 hF
    refine z_aload_n 131 X dX3_faultPlace_131 hl 0 rfl ?_
    refine z_get 132 zc3 0 1 fl_3_20 X dX3_faultPlace_132 hw rfl (by decide) rfl ?_
    cases hF
    exact z_iret 135 X dX3_faultPlace_135 hw rfl rfl
  · replace hF := zneg c24 hF
    refine z_iload_n 122 X dX3_faultPlace_122 hl 2 rfl ?_
    refine z_if_lt 123 131 X dX3_faultPlace_123 (by decide) (fun c25 => ?_) (fun c25 => ?_)
    · replace hF := zpos c25 hF
      refine z_aload_n 131 X dX3_faultPlace_131 hl 0 rfl ?_
      refine z_get 132 zc3 0 1 fl_3_20 X dX3_faultPlace_132 hw rfl (by decide) rfl ?_
      cases hF
      exact z_iret 135 X dX3_faultPlace_135 hw rfl rfl
    · replace hF := zneg c25 hF
      refine z_bipush 126 (-6) X dX3_faultPlace_126 (by decide) ?_
      refine z_goto 128 135 X dX3_faultPlace_128 (by decide) ?_
      cases hF
      exact z_iret 135 X dX3_faultPlace_135 hw rfl rfl
theorem dX3_signOrEnd_0 : decode cX3_signOrEnd 0 = .ok (.iload_n 1, 1) := by decide +kernel
theorem dX3_signOrEnd_1 : decode cX3_signOrEnd 1 = .ok (.aload_n 0, 1) := by decide +kernel
theorem dX3_signOrEnd_2 : decode cX3_signOrEnd 2 = .ok (.getfield 20, 3) := by decide +kernel
theorem dX3_signOrEnd_5 : decode cX3_signOrEnd 5 = .ok (.if_icmp .ge 14, 3) := by decide +kernel
theorem dX3_signOrEnd_8 : decode cX3_signOrEnd 8 = .ok (.aload_n 0, 1) := by decide +kernel
theorem dX3_signOrEnd_9 : decode cX3_signOrEnd 9 = .ok (.getfield 14, 3) := by decide +kernel
theorem dX3_signOrEnd_12 : decode cX3_signOrEnd 12 = .ok (.iload_n 1, 1) := by decide +kernel
theorem dX3_signOrEnd_13 : decode cX3_signOrEnd 13 = .ok (.invokevirtual 28, 3) := by decide +kernel
theorem dX3_signOrEnd_16 : decode cX3_signOrEnd 16 = .ok (.goto 5, 3) := by decide +kernel
theorem dX3_signOrEnd_19 : decode cX3_signOrEnd 19 = .ok (.bipush 59, 2) := by decide +kernel
theorem dX3_signOrEnd_21 : decode cX3_signOrEnd 21 = .ok (.ireturn, 1) := by decide +kernel
set_option maxHeartbeats 4000000 in
set_option maxRecDepth 100000 in
theorem m_X3_signOrEnd (l : Launch) (D : va_G) (cA : ClassId) (a_this a_this_signs a_this_signs_cells : Nat) (v_length : Int32) (g_signs_cells : Ar) (i1 : Int32) (out : Int32) (hF : F_X3_signOrEnd v_length g_signs_cells i1 = some out) : zM l D cA yX3_signOrEnd cX3_signOrEnd 2 (some .int) 1 21 [.ref a_this, .int i1] (zw_27 cA 0 a_this a_this_signs a_this_signs_cells v_length g_signs_cells) (zw_27 cA 0 a_this a_this_signs a_this_signs_cells v_length g_signs_cells) (some (.int out)) := by
  refine z_body (by decide) (Nat.le_of_ble_eq_true rfl) ?_
  intro p e s m args below meth c ls H locs A X hl hw
  have hl : lv_has ls 2 [(0, .ref a_this), (1, .int i1)] := hl
  unfold F_X3_signOrEnd at hF
  refine z_iload_n 0 X dX3_signOrEnd_0 hl 1 rfl ?_
  refine z_aload_n 1 X dX3_signOrEnd_1 hl 0 rfl ?_
  refine z_get 2 zc3 0 1 fl_3_20 X dX3_signOrEnd_2 hw rfl (by decide) rfl ?_
  refine z_icmp_ge 5 19 X dX3_signOrEnd_5 (by decide) (fun c1 => ?_) (fun c1 => ?_)
  · replace hF := zpos c1 hF
    refine z_bipush 19 59 X dX3_signOrEnd_19 (by decide) ?_
    cases hF
    exact z_iret 21 X dX3_signOrEnd_21 hw rfl rfl
  · replace hF := zneg c1 hF
    refine z_aload_n 8 X dX3_signOrEnd_8 hl 0 rfl ?_
    refine z_get 9 zc3 0 0 fl_3_14 X dX3_signOrEnd_9 hw rfl (by decide) rfl ?_
    refine z_iload_n 12 X dX3_signOrEnd_12 hl 1 rfl ?_
    obtain ⟨u2, e3, hF⟩ := zbd hF
    refine z_callV 13 zc0 mv_X0_read ml_3_28 1 [] (zk_89 cA 0 a_this a_this_signs a_this_signs_cells v_length g_signs_cells) (m_X0_read l D cA 80 a_this_signs a_this_signs_cells g_signs_cells i1 u2 e3) X dX3_signOrEnd_13 hw hl rfl rfl rfl (Nat.le_of_ble_eq_true rfl) ⟨Nat.le_of_ble_eq_true rfl, Nat.le_of_ble_eq_true rfl⟩ ⟨Nat.zero_le _, Nat.zero_le _⟩ (fun H locs hw => ?_)
    refine z_goto 16 21 X dX3_signOrEnd_16 (by decide) ?_
    cases hF
    exact z_iret 21 X dX3_signOrEnd_21 hw rfl rfl
theorem dX6_load_0 : decode cX6_load 0 = .ok (.iload_n 1, 1) := by decide +kernel
theorem dX6_load_1 : decode cX6_load 1 = .ok (.bipush 68, 2) := by decide +kernel
theorem dX6_load_3 : decode cX6_load 3 = .ok (.imul, 1) := by decide +kernel
theorem dX6_load_4 : decode cX6_load 4 = .ok (.istore_n 3, 1) := by decide +kernel
theorem dX6_load_5 : decode cX6_load 5 = .ok (.aload_n 2, 1) := by decide +kernel
theorem dX6_load_6 : decode cX6_load 6 = .ok (.aload_n 0, 1) := by decide +kernel
theorem dX6_load_7 : decode cX6_load 7 = .ok (.getfield 16, 3) := by decide +kernel
theorem dX6_load_10 : decode cX6_load 10 = .ok (.iload_n 3, 1) := by decide +kernel
theorem dX6_load_11 : decode cX6_load 11 = .ok (.iconst 1, 1) := by decide +kernel
theorem dX6_load_12 : decode cX6_load 12 = .ok (.iadd, 1) := by decide +kernel
theorem dX6_load_13 : decode cX6_load 13 = .ok (.invokevirtual 20, 3) := by decide +kernel
theorem dX6_load_16 : decode cX6_load 16 = .ok (.putfield 28, 3) := by decide +kernel
theorem dX6_load_19 : decode cX6_load 19 = .ok (.aload_n 2, 1) := by decide +kernel
theorem dX6_load_20 : decode cX6_load 20 = .ok (.aload_n 0, 1) := by decide +kernel
theorem dX6_load_21 : decode cX6_load 21 = .ok (.getfield 16, 3) := by decide +kernel
theorem dX6_load_24 : decode cX6_load 24 = .ok (.iload_n 3, 1) := by decide +kernel
theorem dX6_load_25 : decode cX6_load 25 = .ok (.iconst 2, 1) := by decide +kernel
theorem dX6_load_26 : decode cX6_load 26 = .ok (.iadd, 1) := by decide +kernel
theorem dX6_load_27 : decode cX6_load 27 = .ok (.invokevirtual 20, 3) := by decide +kernel
theorem dX6_load_30 : decode cX6_load 30 = .ok (.putfield 34, 3) := by decide +kernel
theorem dX6_load_33 : decode cX6_load 33 = .ok (.aload_n 2, 1) := by decide +kernel
theorem dX6_load_34 : decode cX6_load 34 = .ok (.aload_n 0, 1) := by decide +kernel
theorem dX6_load_35 : decode cX6_load 35 = .ok (.getfield 16, 3) := by decide +kernel
theorem dX6_load_38 : decode cX6_load 38 = .ok (.iload_n 3, 1) := by decide +kernel
theorem dX6_load_39 : decode cX6_load 39 = .ok (.iconst 3, 1) := by decide +kernel
theorem dX6_load_40 : decode cX6_load 40 = .ok (.iadd, 1) := by decide +kernel
theorem dX6_load_41 : decode cX6_load 41 = .ok (.invokevirtual 20, 3) := by decide +kernel
theorem dX6_load_44 : decode cX6_load 44 = .ok (.putfield 37, 3) := by decide +kernel
theorem dX6_load_47 : decode cX6_load 47 = .ok (.iconst 0, 1) := by decide +kernel
theorem dX6_load_48 : decode cX6_load 48 = .ok (.istore 4, 2) := by decide +kernel
theorem dX6_load_50 : decode cX6_load 50 = .ok (.iload 4, 2) := by decide +kernel
theorem dX6_load_52 : decode cX6_load 52 = .ok (.aload_n 2, 1) := by decide +kernel
theorem dX6_load_53 : decode cX6_load 53 = .ok (.getfield 28, 3) := by decide +kernel
theorem dX6_load_56 : decode cX6_load 56 = .ok (.if_icmp .ge 31, 3) := by decide +kernel
theorem dX6_load_59 : decode cX6_load 59 = .ok (.aload_n 2, 1) := by decide +kernel
theorem dX6_load_60 : decode cX6_load 60 = .ok (.getfield 43, 3) := by decide +kernel
theorem dX6_load_63 : decode cX6_load 63 = .ok (.iload 4, 2) := by decide +kernel
theorem dX6_load_65 : decode cX6_load 65 = .ok (.aload_n 0, 1) := by decide +kernel
theorem dX6_load_66 : decode cX6_load 66 = .ok (.getfield 16, 3) := by decide +kernel
theorem dX6_load_69 : decode cX6_load 69 = .ok (.iload_n 3, 1) := by decide +kernel
theorem dX6_load_70 : decode cX6_load 70 = .ok (.iconst 4, 1) := by decide +kernel
theorem dX6_load_71 : decode cX6_load 71 = .ok (.iadd, 1) := by decide +kernel
theorem dX6_load_72 : decode cX6_load 72 = .ok (.iload 4, 2) := by decide +kernel
theorem dX6_load_74 : decode cX6_load 74 = .ok (.iadd, 1) := by decide +kernel
theorem dX6_load_75 : decode cX6_load 75 = .ok (.invokevirtual 20, 3) := by decide +kernel
theorem dX6_load_78 : decode cX6_load 78 = .ok (.invokevirtual 24, 3) := by decide +kernel
theorem dX6_load_81 : decode cX6_load 81 = .ok (.iinc 4 1, 3) := by decide +kernel
theorem dX6_load_84 : decode cX6_load 84 = .ok (.goto (-34), 3) := by decide +kernel
theorem dX6_load_87 : decode cX6_load 87 = .ok (.return_, 1) := by decide +kernel
set_option maxHeartbeats 4000000 in
set_option maxRecDepth 100000 in
theorem zk_101 (cA : ClassId) (n : Nat) (a_this a_this_cells a_this_cells_cells a_p2 a_p2_numbers a_p2_numbers_cells : Nat) (g_cells_cells : Ar) (v_p2_length : Int32) (v_p2_blockSize : Int32) (v_p2_ones : Int32) (g_p2_numbers_cells : Ar)  : zCW (zw_2 cA n a_this a_this_cells a_this_cells_cells a_p2 a_p2_numbers a_p2_numbers_cells g_cells_cells v_p2_length v_p2_blockSize v_p2_ones g_p2_numbers_cells) (zw_2 cA n a_this a_this_cells a_this_cells_cells a_p2 a_p2_numbers a_p2_numbers_cells g_cells_cells v_p2_length v_p2_blockSize v_p2_ones g_p2_numbers_cells) [1, 2] [0, 3, 4, 5] (zw_0 cA n a_this_cells a_this_cells_cells g_cells_cells) (zw_0 cA n a_this_cells a_this_cells_cells g_cells_cells) := ⟨rfl, (show (zw_0 cA n a_this_cells a_this_cells_cells g_cells_cells).map Prod.fst = ([a_this_cells, a_this_cells_cells] : List Nat) from rfl).trans (show (zw_0 cA n a_this_cells a_this_cells_cells g_cells_cells).map Prod.fst = ([a_this_cells, a_this_cells_cells] : List Nat) from rfl).symm, by decide +kernel, (show (zw_2 cA n a_this a_this_cells a_this_cells_cells a_p2 a_p2_numbers a_p2_numbers_cells g_cells_cells v_p2_length v_p2_blockSize v_p2_ones g_p2_numbers_cells).map Prod.fst = ([a_this, a_this_cells, a_this_cells_cells, a_p2, a_p2_numbers, a_p2_numbers_cells] : List Nat) from rfl).trans (show (zw_2 cA n a_this a_this_cells a_this_cells_cells a_p2 a_p2_numbers a_p2_numbers_cells g_cells_cells v_p2_length v_p2_blockSize v_p2_ones g_p2_numbers_cells).map Prod.fst = ([a_this, a_this_cells, a_this_cells_cells, a_p2, a_p2_numbers, a_p2_numbers_cells] : List Nat) from rfl).symm, rfl, (show ([0, 3, 4, 5] : List Nat).map (fun i => (zw_2 cA n a_this a_this_cells a_this_cells_cells a_p2 a_p2_numbers a_p2_numbers_cells g_cells_cells v_p2_length v_p2_blockSize v_p2_ones g_p2_numbers_cells)[i]?) = ([(a_this, .inr (6, [.ref a_this_cells])), (a_p2, .inr (5, [.ref a_p2_numbers, .int v_p2_length, .int v_p2_blockSize, .int v_p2_ones])), (a_p2_numbers, .inr (0, [.ref a_p2_numbers_cells])), (a_p2_numbers_cells, .inl (cA, 64, .inl g_p2_numbers_cells))] : va_W).map some from rfl).trans (show ([0, 3, 4, 5] : List Nat).map (fun i => (zw_2 cA n a_this a_this_cells a_this_cells_cells a_p2 a_p2_numbers a_p2_numbers_cells g_cells_cells v_p2_length v_p2_blockSize v_p2_ones g_p2_numbers_cells)[i]?) = ([(a_this, .inr (6, [.ref a_this_cells])), (a_p2, .inr (5, [.ref a_p2_numbers, .int v_p2_length, .int v_p2_blockSize, .int v_p2_ones])), (a_p2_numbers, .inr (0, [.ref a_p2_numbers_cells])), (a_p2_numbers_cells, .inl (cA, 64, .inl g_p2_numbers_cells))] : va_W).map some from rfl).symm, by decide +kernel, rfl⟩
set_option maxHeartbeats 4000000 in
set_option maxRecDepth 100000 in
theorem zk_102 (cA : ClassId) (n : Nat) (a_this a_this_cells a_this_cells_cells a_p2 a_p2_numbers a_p2_numbers_cells : Nat) (g_cells_cells : Ar) (v_p2_length : Int32) (v_p2_blockSize : Int32) (v_p2_ones : Int32) (g_p2_numbers_cells : Ar) (g_p2_numbers_cells' : Ar) : zCW (zw_2 cA n a_this a_this_cells a_this_cells_cells a_p2 a_p2_numbers a_p2_numbers_cells g_cells_cells v_p2_length v_p2_blockSize v_p2_ones g_p2_numbers_cells) (zw_2 cA n a_this a_this_cells a_this_cells_cells a_p2 a_p2_numbers a_p2_numbers_cells g_cells_cells v_p2_length v_p2_blockSize v_p2_ones g_p2_numbers_cells') [4, 5] [0, 1, 2, 3] (zw_0 cA 64 a_p2_numbers a_p2_numbers_cells g_p2_numbers_cells) (zw_0 cA 64 a_p2_numbers a_p2_numbers_cells g_p2_numbers_cells') := ⟨rfl, (show (zw_0 cA 64 a_p2_numbers a_p2_numbers_cells g_p2_numbers_cells').map Prod.fst = ([a_p2_numbers, a_p2_numbers_cells] : List Nat) from rfl).trans (show (zw_0 cA 64 a_p2_numbers a_p2_numbers_cells g_p2_numbers_cells).map Prod.fst = ([a_p2_numbers, a_p2_numbers_cells] : List Nat) from rfl).symm, by decide +kernel, (show (zw_2 cA n a_this a_this_cells a_this_cells_cells a_p2 a_p2_numbers a_p2_numbers_cells g_cells_cells v_p2_length v_p2_blockSize v_p2_ones g_p2_numbers_cells').map Prod.fst = ([a_this, a_this_cells, a_this_cells_cells, a_p2, a_p2_numbers, a_p2_numbers_cells] : List Nat) from rfl).trans (show (zw_2 cA n a_this a_this_cells a_this_cells_cells a_p2 a_p2_numbers a_p2_numbers_cells g_cells_cells v_p2_length v_p2_blockSize v_p2_ones g_p2_numbers_cells).map Prod.fst = ([a_this, a_this_cells, a_this_cells_cells, a_p2, a_p2_numbers, a_p2_numbers_cells] : List Nat) from rfl).symm, rfl, (show ([0, 1, 2, 3] : List Nat).map (fun i => (zw_2 cA n a_this a_this_cells a_this_cells_cells a_p2 a_p2_numbers a_p2_numbers_cells g_cells_cells v_p2_length v_p2_blockSize v_p2_ones g_p2_numbers_cells')[i]?) = ([(a_this, .inr (6, [.ref a_this_cells])), (a_this_cells, .inr (0, [.ref a_this_cells_cells])), (a_this_cells_cells, .inl (cA, n, .inl g_cells_cells)), (a_p2, .inr (5, [.ref a_p2_numbers, .int v_p2_length, .int v_p2_blockSize, .int v_p2_ones]))] : va_W).map some from rfl).trans (show ([0, 1, 2, 3] : List Nat).map (fun i => (zw_2 cA n a_this a_this_cells a_this_cells_cells a_p2 a_p2_numbers a_p2_numbers_cells g_cells_cells v_p2_length v_p2_blockSize v_p2_ones g_p2_numbers_cells)[i]?) = ([(a_this, .inr (6, [.ref a_this_cells])), (a_this_cells, .inr (0, [.ref a_this_cells_cells])), (a_this_cells_cells, .inl (cA, n, .inl g_cells_cells)), (a_p2, .inr (5, [.ref a_p2_numbers, .int v_p2_length, .int v_p2_blockSize, .int v_p2_ones]))] : va_W).map some from rfl).symm, by decide +kernel, rfl⟩
set_option maxHeartbeats 4000000 in
set_option maxRecDepth 100000 in
theorem l_X6_load_50 (l : Launch) (D : va_G) (cA : ClassId) (n : Nat) (a_this a_this_cells a_this_cells_cells a_p2 a_p2_numbers a_p2_numbers_cells : Nat) (g_cells_cells : Ar) (v_p2_length : Int32) (v_p2_blockSize : Int32) (v_p2_ones : Int32) (i3 : Int32) (out : Int32 × Int32 × Int32 × Ar) {p : Program} {e : Env} {s : State} {m : MethodId} {args : Array Value} {below : List Frame} {meth : Method} {c : Code} {A : Nat → Prop} (X : zX D cA p s m args meth c cX6_load 5 RX6 none) (k : Ar → Option (Int32 × Int32 × Int32 × Ar)) (hk : ∀ (g_p2_numbers_cells : Ar) (H : Heap) (locs : List Loc) (ls : Array Slot), zH D A s (zw_2 cA n a_this a_this_cells a_this_cells_cells a_p2 a_p2_numbers a_p2_numbers_cells g_cells_cells v_p2_length v_p2_blockSize v_p2_ones g_p2_numbers_cells) H locs → lv_has ls 5 [] → k g_p2_numbers_cells = some out → W p l e (zR 1 22) s m args below meth c H locs 0 0 (MQ below (zQ D (zw_2 cA n a_this a_this_cells a_this_cells_cells a_p2 a_p2_numbers a_p2_numbers_cells g_cells_cells out.1 out.2.1 out.2.2.1 out.2.2.2) none A) args s 0 0 A) (F0 m 87 ls [])) :
    ∀ (fuel : Nat) (g_p2_numbers_cells : Ar) (i4 : Int32) (H : Heap) (locs : List Loc) (ls : Array Slot), zH D A s (zw_2 cA n a_this a_this_cells a_this_cells_cells a_p2 a_p2_numbers a_p2_numbers_cells g_cells_cells v_p2_length v_p2_blockSize v_p2_ones g_p2_numbers_cells) H locs → lv_has ls 5 [(0, .ref a_this), (2, .ref a_p2), (3, .int i3), (4, .int i4)] → F_X6_load_L50 n g_cells_cells v_p2_length i3 k fuel g_p2_numbers_cells i4 = some out → W p l e (zR 1 22) s m args below meth c H locs 0 0 (MQ below (zQ D (zw_2 cA n a_this a_this_cells a_this_cells_cells a_p2 a_p2_numbers a_p2_numbers_cells g_cells_cells out.1 out.2.1 out.2.2.1 out.2.2.2) none A) args s 0 0 A) (F0 m 50 ls []) := by
  intro fuel
  induction fuel with
  | zero => intro g_p2_numbers_cells i4 H locs ls hw hl hF; exact nomatch (show (none : Option (Int32 × Int32 × Int32 × Ar)) = some out from hF)
  | succ fuel ih =>
    intro g_p2_numbers_cells i4 H locs ls hw hl hF
    rw [F_X6_load_L50] at hF
    refine z_iload 50 X dX6_load_50 hl 3 rfl ?_
    refine z_aload_n 52 X dX6_load_52 hl 1 rfl ?_
    refine z_getN 53 zc5 3 1 fl_6_28 X dX6_load_53 hw rfl (by decide) rfl ?_
    refine z_icmp_ge 56 87 X dX6_load_56 (by decide) (fun c7 => ?_) (fun c7 => ?_)
    · replace hF := zpos c7 hF
      exact hk g_p2_numbers_cells H locs ls hw (lv_sub hl [] rfl) hF
    · replace hF := zneg c7 hF
      refine z_aload_n 59 X dX6_load_59 hl 1 rfl ?_
      refine z_getN 60 zc5 3 0 fl_6_43 X dX6_load_60 hw rfl (by decide) rfl ?_
      refine z_iload 63 X dX6_load_63 hl 3 rfl ?_
      refine z_aload_n 65 X dX6_load_65 hl 0 rfl ?_
      refine z_get 66 zc6 0 0 fl_6_16 X dX6_load_66 hw rfl (by decide) rfl ?_
      refine z_iload_n 69 X dX6_load_69 hl 2 rfl ?_
      refine z_iconst 70 4 X dX6_load_70 (by decide) ?_
      refine z_iadd 71 X dX6_load_71 ?_
      refine z_iload 72 X dX6_load_72 hl 3 rfl ?_
      refine z_iadd 74 X dX6_load_74 ?_
      obtain ⟨u8, e9, hF⟩ := zbd hF
      refine z_callV 75 zc0 mv_X0_read ml_6_20 1 [.int i4, .ref a_p2_numbers] (zk_101 cA n a_this a_this_cells a_this_cells_cells a_p2 a_p2_numbers a_p2_numbers_cells g_cells_cells v_p2_length v_p2_blockSize v_p2_ones g_p2_numbers_cells) (m_X0_read l D cA n a_this_cells a_this_cells_cells g_cells_cells ((i3 + 4) + i4) u8 e9) X dX6_load_75 hw hl rfl rfl rfl (Nat.le_of_ble_eq_true rfl) ⟨Nat.le_of_ble_eq_true rfl, Nat.le_of_ble_eq_true rfl⟩ ⟨Nat.zero_le _, Nat.zero_le _⟩ (fun H locs hw => ?_)
      obtain ⟨u10, e11, hF⟩ := zbd hF
      refine z_callV 78 zc0 mv_X0_write ml_6_24 4 [] (zk_102 cA n a_this a_this_cells a_this_cells_cells a_p2 a_p2_numbers a_p2_numbers_cells g_cells_cells v_p2_length v_p2_blockSize v_p2_ones g_p2_numbers_cells u10) (m_X0_write l D cA 64 a_p2_numbers a_p2_numbers_cells g_p2_numbers_cells i4 u8 u10 e11) X dX6_load_78 hw hl rfl rfl rfl (Nat.le_of_ble_eq_true rfl) ⟨Nat.le_of_ble_eq_true rfl, Nat.le_of_ble_eq_true rfl⟩ ⟨Nat.zero_le _, Nat.zero_le _⟩ (fun H locs hw => ?_)
      refine z_iinc2 81 1 [(4, .int (i4 + 1)), (0, .ref a_this), (2, .ref a_p2), (3, .int i3)] X dX6_load_81 hl 3 rfl (by decide) (by decide) rfl (fun ls hl => ?_)
      refine z_goto 84 50 X dX6_load_84 (by decide) ?_
      exact ih u10 (i4 + 1) H locs ls hw (lv_sub hl [1, 2, 3, 0] rfl) hF
set_option maxHeartbeats 4000000 in
set_option maxRecDepth 100000 in
theorem m_X6_load (l : Launch) (D : va_G) (cA : ClassId) (n : Nat) (a_this a_this_cells a_this_cells_cells a_p2 a_p2_numbers a_p2_numbers_cells : Nat) (g_cells_cells : Ar) (v_p2_length : Int32) (v_p2_blockSize : Int32) (v_p2_ones : Int32) (g_p2_numbers_cells : Ar) (i1 : Int32) (out : Int32 × Int32 × Int32 × Ar) (hF : F_X6_load n g_cells_cells v_p2_length v_p2_blockSize v_p2_ones g_p2_numbers_cells i1 = some out) : zM l D cA yX6_load cX6_load 5 none 1 22 [.ref a_this, .int i1, .ref a_p2] (zw_2 cA n a_this a_this_cells a_this_cells_cells a_p2 a_p2_numbers a_p2_numbers_cells g_cells_cells v_p2_length v_p2_blockSize v_p2_ones g_p2_numbers_cells) (zw_2 cA n a_this a_this_cells a_this_cells_cells a_p2 a_p2_numbers a_p2_numbers_cells g_cells_cells out.1 out.2.1 out.2.2.1 out.2.2.2) none := by
  refine z_body (by decide) (Nat.le_of_ble_eq_true rfl) ?_
  intro p e s m args below meth c ls H locs A X hl hw
  have hl : lv_has ls 5 [(0, .ref a_this), (1, .int i1), (2, .ref a_p2)] := hl
  unfold F_X6_load at hF
  refine z_iload_n 0 X dX6_load_0 hl 1 rfl ?_
  refine z_bipush 1 68 X dX6_load_1 (by decide) ?_
  refine z_imul 3 X dX6_load_3 ?_
  refine z_istore_n 4 [(3, .int (i1 * 68)), (0, .ref a_this), (1, .int i1), (2, .ref a_p2)] X dX6_load_4 hl (by decide) rfl (fun ls hl => ?_)
  refine z_aload_n 5 X dX6_load_5 hl 3 rfl ?_
  refine z_aload_n 6 X dX6_load_6 hl 1 rfl ?_
  refine z_get 7 zc6 0 0 fl_6_16 X dX6_load_7 hw rfl (by decide) rfl ?_
  refine z_iload_n 10 X dX6_load_10 hl 0 rfl ?_
  refine z_iconst 11 1 X dX6_load_11 (by decide) ?_
  refine z_iadd 12 X dX6_load_12 ?_
  obtain ⟨u1, e2, hF⟩ := zbd hF
  refine z_callV 13 zc0 mv_X0_read ml_6_20 1 [.ref a_p2] (zk_101 cA n a_this a_this_cells a_this_cells_cells a_p2 a_p2_numbers a_p2_numbers_cells g_cells_cells v_p2_length v_p2_blockSize v_p2_ones g_p2_numbers_cells) (m_X0_read l D cA n a_this_cells a_this_cells_cells g_cells_cells ((i1 * 68) + 1) u1 e2) X dX6_load_13 hw hl rfl rfl rfl (Nat.le_of_ble_eq_true rfl) ⟨Nat.le_of_ble_eq_true rfl, Nat.le_of_ble_eq_true rfl⟩ ⟨Nat.zero_le _, Nat.zero_le _⟩ (fun H locs hw => ?_)
  refine z_putN 16 zc5 3 1 (zw_2 cA n a_this a_this_cells a_this_cells_cells a_p2 a_p2_numbers a_p2_numbers_cells g_cells_cells u1 v_p2_blockSize v_p2_ones g_p2_numbers_cells) fl_6_28 X dX6_load_16 hw rfl (by decide) rfl rfl rfl (Nat.le_of_ble_eq_true rfl) rfl (fun H locs hw => ?_)
  refine z_aload_n 19 X dX6_load_19 hl 3 rfl ?_
  refine z_aload_n 20 X dX6_load_20 hl 1 rfl ?_
  refine z_get 21 zc6 0 0 fl_6_16 X dX6_load_21 hw rfl (by decide) rfl ?_
  refine z_iload_n 24 X dX6_load_24 hl 0 rfl ?_
  refine z_iconst 25 2 X dX6_load_25 (by decide) ?_
  refine z_iadd 26 X dX6_load_26 ?_
  obtain ⟨u3, e4, hF⟩ := zbd hF
  refine z_callV 27 zc0 mv_X0_read ml_6_20 1 [.ref a_p2] (zk_101 cA n a_this a_this_cells a_this_cells_cells a_p2 a_p2_numbers a_p2_numbers_cells g_cells_cells u1 v_p2_blockSize v_p2_ones g_p2_numbers_cells) (m_X0_read l D cA n a_this_cells a_this_cells_cells g_cells_cells ((i1 * 68) + 2) u3 e4) X dX6_load_27 hw hl rfl rfl rfl (Nat.le_of_ble_eq_true rfl) ⟨Nat.le_of_ble_eq_true rfl, Nat.le_of_ble_eq_true rfl⟩ ⟨Nat.zero_le _, Nat.zero_le _⟩ (fun H locs hw => ?_)
  refine z_putN 30 zc5 3 2 (zw_2 cA n a_this a_this_cells a_this_cells_cells a_p2 a_p2_numbers a_p2_numbers_cells g_cells_cells u1 u3 v_p2_ones g_p2_numbers_cells) fl_6_34 X dX6_load_30 hw rfl (by decide) rfl rfl rfl (Nat.le_of_ble_eq_true rfl) rfl (fun H locs hw => ?_)
  refine z_aload_n 33 X dX6_load_33 hl 3 rfl ?_
  refine z_aload_n 34 X dX6_load_34 hl 1 rfl ?_
  refine z_get 35 zc6 0 0 fl_6_16 X dX6_load_35 hw rfl (by decide) rfl ?_
  refine z_iload_n 38 X dX6_load_38 hl 0 rfl ?_
  refine z_iconst 39 3 X dX6_load_39 (by decide) ?_
  refine z_iadd 40 X dX6_load_40 ?_
  obtain ⟨u5, e6, hF⟩ := zbd hF
  refine z_callV 41 zc0 mv_X0_read ml_6_20 1 [.ref a_p2] (zk_101 cA n a_this a_this_cells a_this_cells_cells a_p2 a_p2_numbers a_p2_numbers_cells g_cells_cells u1 u3 v_p2_ones g_p2_numbers_cells) (m_X0_read l D cA n a_this_cells a_this_cells_cells g_cells_cells ((i1 * 68) + 3) u5 e6) X dX6_load_41 hw hl rfl rfl rfl (Nat.le_of_ble_eq_true rfl) ⟨Nat.le_of_ble_eq_true rfl, Nat.le_of_ble_eq_true rfl⟩ ⟨Nat.zero_le _, Nat.zero_le _⟩ (fun H locs hw => ?_)
  refine z_putN 44 zc5 3 3 (zw_2 cA n a_this a_this_cells a_this_cells_cells a_p2 a_p2_numbers a_p2_numbers_cells g_cells_cells u1 u3 u5 g_p2_numbers_cells) fl_6_37 X dX6_load_44 hw rfl (by decide) rfl rfl rfl (Nat.le_of_ble_eq_true rfl) rfl (fun H locs hw => ?_)
  refine z_iconst 47 0 X dX6_load_47 (by decide) ?_
  refine z_istore 48 [(4, .int 0), (3, .int (i1 * 68)), (0, .ref a_this), (1, .int i1), (2, .ref a_p2)] X dX6_load_48 hl (by decide) rfl (fun ls hl => ?_)
  refine l_X6_load_50 l D cA n a_this a_this_cells a_this_cells_cells a_p2 a_p2_numbers a_p2_numbers_cells g_cells_cells u1 u3 u5 (i1 * 68) out X _ (fun g_p2_numbers_cells_12 H locs ls hw hl hF => ?_) zFuel g_p2_numbers_cells 0 H locs ls hw (lv_sub hl [2, 4, 1, 0] rfl) hF
  cases hF
  exact z_vret 87 X dX6_load_87 hw rfl rfl
theorem dX2_bringLatest_0 : decode cX2_bringLatest 0 = .ok (.aload_n 0, 1) := by decide +kernel
theorem dX2_bringLatest_1 : decode cX2_bringLatest 1 = .ok (.aload_n 0, 1) := by decide +kernel
theorem dX2_bringLatest_2 : decode cX2_bringLatest 2 = .ok (.getfield 20, 3) := by decide +kernel
theorem dX2_bringLatest_5 : decode cX2_bringLatest 5 = .ok (.ifCond .le 12, 3) := by decide +kernel
theorem dX2_bringLatest_8 : decode cX2_bringLatest 8 = .ok (.aload_n 0, 1) := by decide +kernel
theorem dX2_bringLatest_9 : decode cX2_bringLatest 9 = .ok (.getfield 20, 3) := by decide +kernel
theorem dX2_bringLatest_12 : decode cX2_bringLatest 12 = .ok (.iconst 1, 1) := by decide +kernel
theorem dX2_bringLatest_13 : decode cX2_bringLatest 13 = .ok (.isub, 1) := by decide +kernel
theorem dX2_bringLatest_14 : decode cX2_bringLatest 14 = .ok (.goto 5, 3) := by decide +kernel
theorem dX2_bringLatest_17 : decode cX2_bringLatest 17 = .ok (.bipush 6, 2) := by decide +kernel
theorem dX2_bringLatest_19 : decode cX2_bringLatest 19 = .ok (.putfield 20, 3) := by decide +kernel
theorem dX2_bringLatest_22 : decode cX2_bringLatest 22 = .ok (.aload_n 0, 1) := by decide +kernel
theorem dX2_bringLatest_23 : decode cX2_bringLatest 23 = .ok (.dup, 1) := by decide +kernel
theorem dX2_bringLatest_24 : decode cX2_bringLatest 24 = .ok (.getfield 24, 3) := by decide +kernel
theorem dX2_bringLatest_27 : decode cX2_bringLatest 27 = .ok (.iconst 1, 1) := by decide +kernel
theorem dX2_bringLatest_28 : decode cX2_bringLatest 28 = .ok (.isub, 1) := by decide +kernel
theorem dX2_bringLatest_29 : decode cX2_bringLatest 29 = .ok (.putfield 24, 3) := by decide +kernel
theorem dX2_bringLatest_32 : decode cX2_bringLatest 32 = .ok (.aload_n 0, 1) := by decide +kernel
theorem dX2_bringLatest_33 : decode cX2_bringLatest 33 = .ok (.getfield 16, 3) := by decide +kernel
theorem dX2_bringLatest_36 : decode cX2_bringLatest 36 = .ok (.aload_n 0, 1) := by decide +kernel
theorem dX2_bringLatest_37 : decode cX2_bringLatest 37 = .ok (.getfield 20, 3) := by decide +kernel
theorem dX2_bringLatest_40 : decode cX2_bringLatest 40 = .ok (.aload_n 1, 1) := by decide +kernel
theorem dX2_bringLatest_41 : decode cX2_bringLatest 41 = .ok (.invokevirtual 37, 3) := by decide +kernel
theorem dX2_bringLatest_44 : decode cX2_bringLatest 44 = .ok (.return_, 1) := by decide +kernel
set_option maxHeartbeats 4000000 in
set_option maxRecDepth 100000 in
theorem zk_103 (cA : ClassId) (n : Nat) (a_this a_this_states a_this_states_cells a_this_states_cells_cells a_p1 a_p1_numbers a_p1_numbers_cells : Nat) (v_free : Int32) (v_length : Int32) (g_states_cells_cells : Ar) (v_p1_length : Int32) (v_p1_blockSize : Int32) (v_p1_ones : Int32) (g_p1_numbers_cells : Ar) (v_p1_length' : Int32) (v_p1_blockSize' : Int32) (v_p1_ones' : Int32) (g_p1_numbers_cells' : Ar) : zCW (zw_3 cA n a_this a_this_states a_this_states_cells a_this_states_cells_cells a_p1 a_p1_numbers a_p1_numbers_cells v_free v_length g_states_cells_cells v_p1_length v_p1_blockSize v_p1_ones g_p1_numbers_cells) (zw_3 cA n a_this a_this_states a_this_states_cells a_this_states_cells_cells a_p1 a_p1_numbers a_p1_numbers_cells v_free v_length g_states_cells_cells v_p1_length' v_p1_blockSize' v_p1_ones' g_p1_numbers_cells') [1, 2, 3, 4, 5, 6] [0] (zw_2 cA 476 a_this_states a_this_states_cells a_this_states_cells_cells a_p1 a_p1_numbers a_p1_numbers_cells g_states_cells_cells v_p1_length v_p1_blockSize v_p1_ones g_p1_numbers_cells) (zw_2 cA 476 a_this_states a_this_states_cells a_this_states_cells_cells a_p1 a_p1_numbers a_p1_numbers_cells g_states_cells_cells v_p1_length' v_p1_blockSize' v_p1_ones' g_p1_numbers_cells') := ⟨rfl, (show (zw_2 cA 476 a_this_states a_this_states_cells a_this_states_cells_cells a_p1 a_p1_numbers a_p1_numbers_cells g_states_cells_cells v_p1_length' v_p1_blockSize' v_p1_ones' g_p1_numbers_cells').map Prod.fst = ([a_this_states, a_this_states_cells, a_this_states_cells_cells, a_p1, a_p1_numbers, a_p1_numbers_cells] : List Nat) from rfl).trans (show (zw_2 cA 476 a_this_states a_this_states_cells a_this_states_cells_cells a_p1 a_p1_numbers a_p1_numbers_cells g_states_cells_cells v_p1_length v_p1_blockSize v_p1_ones g_p1_numbers_cells).map Prod.fst = ([a_this_states, a_this_states_cells, a_this_states_cells_cells, a_p1, a_p1_numbers, a_p1_numbers_cells] : List Nat) from rfl).symm, by decide +kernel, (show (zw_3 cA n a_this a_this_states a_this_states_cells a_this_states_cells_cells a_p1 a_p1_numbers a_p1_numbers_cells v_free v_length g_states_cells_cells v_p1_length' v_p1_blockSize' v_p1_ones' g_p1_numbers_cells').map Prod.fst = ([a_this, a_this_states, a_this_states_cells, a_this_states_cells_cells, a_p1, a_p1_numbers, a_p1_numbers_cells] : List Nat) from rfl).trans (show (zw_3 cA n a_this a_this_states a_this_states_cells a_this_states_cells_cells a_p1 a_p1_numbers a_p1_numbers_cells v_free v_length g_states_cells_cells v_p1_length v_p1_blockSize v_p1_ones g_p1_numbers_cells).map Prod.fst = ([a_this, a_this_states, a_this_states_cells, a_this_states_cells_cells, a_p1, a_p1_numbers, a_p1_numbers_cells] : List Nat) from rfl).symm, rfl, (show ([0] : List Nat).map (fun i => (zw_3 cA n a_this a_this_states a_this_states_cells a_this_states_cells_cells a_p1 a_p1_numbers a_p1_numbers_cells v_free v_length g_states_cells_cells v_p1_length' v_p1_blockSize' v_p1_ones' g_p1_numbers_cells')[i]?) = ([(a_this, .inr (2, [.ref a_this_states, .int v_free, .int v_length]))] : va_W).map some from rfl).trans (show ([0] : List Nat).map (fun i => (zw_3 cA n a_this a_this_states a_this_states_cells a_this_states_cells_cells a_p1 a_p1_numbers a_p1_numbers_cells v_free v_length g_states_cells_cells v_p1_length v_p1_blockSize v_p1_ones g_p1_numbers_cells)[i]?) = ([(a_this, .inr (2, [.ref a_this_states, .int v_free, .int v_length]))] : va_W).map some from rfl).symm, by decide +kernel, rfl⟩
set_option maxHeartbeats 4000000 in
set_option maxRecDepth 100000 in
theorem m_X2_bringLatest (l : Launch) (D : va_G) (cA : ClassId) (a_this a_this_states a_this_states_cells a_this_states_cells_cells a_p1 a_p1_numbers a_p1_numbers_cells : Nat) (v_free : Int32) (v_length : Int32) (g_states_cells_cells : Ar) (v_p1_length : Int32) (v_p1_blockSize : Int32) (v_p1_ones : Int32) (g_p1_numbers_cells : Ar) (out : Int32 × Int32 × Int32 × Int32 × Int32 × Ar) (hF : F_X2_bringLatest v_free v_length g_states_cells_cells v_p1_length v_p1_blockSize v_p1_ones g_p1_numbers_cells = some out) : zM l D cA yX2_bringLatest cX2_bringLatest 2 none 2 46 [.ref a_this, .ref a_p1] (zw_3 cA 0 a_this a_this_states a_this_states_cells a_this_states_cells_cells a_p1 a_p1_numbers a_p1_numbers_cells v_free v_length g_states_cells_cells v_p1_length v_p1_blockSize v_p1_ones g_p1_numbers_cells) (zw_3 cA 0 a_this a_this_states a_this_states_cells a_this_states_cells_cells a_p1 a_p1_numbers a_p1_numbers_cells out.1 out.2.1 g_states_cells_cells out.2.2.1 out.2.2.2.1 out.2.2.2.2.1 out.2.2.2.2.2) none := by
  refine z_body (by decide) (Nat.le_of_ble_eq_true rfl) ?_
  intro p e s m args below meth c ls H locs A X hl hw
  have hl : lv_has ls 2 [(0, .ref a_this), (1, .ref a_p1)] := hl
  unfold F_X2_bringLatest at hF
  refine z_aload_n 0 X dX2_bringLatest_0 hl 0 rfl ?_
  refine z_aload_n 1 X dX2_bringLatest_1 hl 0 rfl ?_
  refine z_get 2 zc2 0 1 fl_2_20 X dX2_bringLatest_2 hw rfl (by decide) rfl ?_
  refine z_if_le 5 17 X dX2_bringLatest_5 (by decide) (fun c1 => ?_) (fun c1 => ?_)
  · replace hF := zpos c1 hF
    refine z_bipush 17 6 X dX2_bringLatest_17 (by decide) ?_
    refine z_put 19 zc2 0 1 (zw_3 cA 0 a_this a_this_states a_this_states_cells a_this_states_cells_cells a_p1 a_p1_numbers a_p1_numbers_cells 6 v_length g_states_cells_cells v_p1_length v_p1_blockSize v_p1_ones g_p1_numbers_cells) fl_2_20 X dX2_bringLatest_19 hw rfl (by decide) rfl rfl rfl (Nat.le_of_ble_eq_true rfl) rfl (fun H locs hw => ?_)
    refine z_aload_n 22 X dX2_bringLatest_22 hl 0 rfl ?_
    refine z_dup 23 X dX2_bringLatest_23 rfl ?_
    refine z_get 24 zc2 0 2 fl_2_24 X dX2_bringLatest_24 hw rfl (by decide) rfl ?_
    refine z_iconst 27 1 X dX2_bringLatest_27 (by decide) ?_
    refine z_isub 28 X dX2_bringLatest_28 ?_
    refine z_put 29 zc2 0 2 (zw_3 cA 0 a_this a_this_states a_this_states_cells a_this_states_cells_cells a_p1 a_p1_numbers a_p1_numbers_cells 6 (v_length - 1) g_states_cells_cells v_p1_length v_p1_blockSize v_p1_ones g_p1_numbers_cells) fl_2_24 X dX2_bringLatest_29 hw rfl (by decide) rfl rfl rfl (Nat.le_of_ble_eq_true rfl) rfl (fun H locs hw => ?_)
    refine z_aload_n 32 X dX2_bringLatest_32 hl 0 rfl ?_
    refine z_get 33 zc2 0 0 fl_2_16 X dX2_bringLatest_33 hw rfl (by decide) rfl ?_
    refine z_aload_n 36 X dX2_bringLatest_36 hl 0 rfl ?_
    refine z_get 37 zc2 0 1 fl_2_20 X dX2_bringLatest_37 hw rfl (by decide) rfl ?_
    refine z_aload_n 40 X dX2_bringLatest_40 hl 1 rfl ?_
    obtain ⟨u2, e3, hF⟩ := zbd hF
    refine z_callV 41 zc6 mv_X6_load ml_2_37 1 [] (zk_103 cA 0 a_this a_this_states a_this_states_cells a_this_states_cells_cells a_p1 a_p1_numbers a_p1_numbers_cells 6 (v_length - 1) g_states_cells_cells v_p1_length v_p1_blockSize v_p1_ones g_p1_numbers_cells u2.1 u2.2.1 u2.2.2.1 u2.2.2.2) (m_X6_load l D cA 476 a_this_states a_this_states_cells a_this_states_cells_cells a_p1 a_p1_numbers a_p1_numbers_cells g_states_cells_cells v_p1_length v_p1_blockSize v_p1_ones g_p1_numbers_cells 6 u2 e3) X dX2_bringLatest_41 hw hl rfl rfl rfl (Nat.le_of_ble_eq_true rfl) ⟨Nat.le_of_ble_eq_true rfl, Nat.le_of_ble_eq_true rfl⟩ ⟨Nat.zero_le _, Nat.zero_le _⟩ (fun H locs hw => ?_)
    cases hF
    exact z_vret 44 X dX2_bringLatest_44 hw rfl rfl
  · replace hF := zneg c1 hF
    refine z_aload_n 8 X dX2_bringLatest_8 hl 0 rfl ?_
    refine z_get 9 zc2 0 1 fl_2_20 X dX2_bringLatest_9 hw rfl (by decide) rfl ?_
    refine z_iconst 12 1 X dX2_bringLatest_12 (by decide) ?_
    refine z_isub 13 X dX2_bringLatest_13 ?_
    refine z_goto 14 19 X dX2_bringLatest_14 (by decide) ?_
    refine z_put 19 zc2 0 1 (zw_3 cA 0 a_this a_this_states a_this_states_cells a_this_states_cells_cells a_p1 a_p1_numbers a_p1_numbers_cells (v_free - 1) v_length g_states_cells_cells v_p1_length v_p1_blockSize v_p1_ones g_p1_numbers_cells) fl_2_20 X dX2_bringLatest_19 hw rfl (by decide) rfl rfl rfl (Nat.le_of_ble_eq_true rfl) rfl (fun H locs hw => ?_)
    refine z_aload_n 22 X dX2_bringLatest_22 hl 0 rfl ?_
    refine z_dup 23 X dX2_bringLatest_23 rfl ?_
    refine z_get 24 zc2 0 2 fl_2_24 X dX2_bringLatest_24 hw rfl (by decide) rfl ?_
    refine z_iconst 27 1 X dX2_bringLatest_27 (by decide) ?_
    refine z_isub 28 X dX2_bringLatest_28 ?_
    refine z_put 29 zc2 0 2 (zw_3 cA 0 a_this a_this_states a_this_states_cells a_this_states_cells_cells a_p1 a_p1_numbers a_p1_numbers_cells (v_free - 1) (v_length - 1) g_states_cells_cells v_p1_length v_p1_blockSize v_p1_ones g_p1_numbers_cells) fl_2_24 X dX2_bringLatest_29 hw rfl (by decide) rfl rfl rfl (Nat.le_of_ble_eq_true rfl) rfl (fun H locs hw => ?_)
    refine z_aload_n 32 X dX2_bringLatest_32 hl 0 rfl ?_
    refine z_get 33 zc2 0 0 fl_2_16 X dX2_bringLatest_33 hw rfl (by decide) rfl ?_
    refine z_aload_n 36 X dX2_bringLatest_36 hl 0 rfl ?_
    refine z_get 37 zc2 0 1 fl_2_20 X dX2_bringLatest_37 hw rfl (by decide) rfl ?_
    refine z_aload_n 40 X dX2_bringLatest_40 hl 1 rfl ?_
    obtain ⟨u4, e5, hF⟩ := zbd hF
    refine z_callV 41 zc6 mv_X6_load ml_2_37 1 [] (zk_103 cA 0 a_this a_this_states a_this_states_cells a_this_states_cells_cells a_p1 a_p1_numbers a_p1_numbers_cells (v_free - 1) (v_length - 1) g_states_cells_cells v_p1_length v_p1_blockSize v_p1_ones g_p1_numbers_cells u4.1 u4.2.1 u4.2.2.1 u4.2.2.2) (m_X6_load l D cA 476 a_this_states a_this_states_cells a_this_states_cells_cells a_p1 a_p1_numbers a_p1_numbers_cells g_states_cells_cells v_p1_length v_p1_blockSize v_p1_ones g_p1_numbers_cells (v_free - 1) u4 e5) X dX2_bringLatest_41 hw hl rfl rfl rfl (Nat.le_of_ble_eq_true rfl) ⟨Nat.le_of_ble_eq_true rfl, Nat.le_of_ble_eq_true rfl⟩ ⟨Nat.zero_le _, Nat.zero_le _⟩ (fun H locs hw => ?_)
    cases hF
    exact z_vret 44 X dX2_bringLatest_44 hw rfl rfl
theorem dX6_isStored_0 : decode cX6_isStored 0 = .ok (.aload_n 0, 1) := by decide +kernel
theorem dX6_isStored_1 : decode cX6_isStored 1 = .ok (.getfield 16, 3) := by decide +kernel
theorem dX6_isStored_4 : decode cX6_isStored 4 = .ok (.iload_n 1, 1) := by decide +kernel
theorem dX6_isStored_5 : decode cX6_isStored 5 = .ok (.bipush 68, 2) := by decide +kernel
theorem dX6_isStored_7 : decode cX6_isStored 7 = .ok (.imul, 1) := by decide +kernel
theorem dX6_isStored_8 : decode cX6_isStored 8 = .ok (.invokevirtual 20, 3) := by decide +kernel
theorem dX6_isStored_11 : decode cX6_isStored 11 = .ok (.iconst 1, 1) := by decide +kernel
theorem dX6_isStored_12 : decode cX6_isStored 12 = .ok (.if_icmp .ne 7, 3) := by decide +kernel
theorem dX6_isStored_15 : decode cX6_isStored 15 = .ok (.iconst 1, 1) := by decide +kernel
theorem dX6_isStored_16 : decode cX6_isStored 16 = .ok (.goto 4, 3) := by decide +kernel
theorem dX6_isStored_19 : decode cX6_isStored 19 = .ok (.iconst 0, 1) := by decide +kernel
theorem dX6_isStored_20 : decode cX6_isStored 20 = .ok (.ireturn, 1) := by decide +kernel
set_option maxHeartbeats 4000000 in
set_option maxRecDepth 100000 in
theorem zk_108 (cA : ClassId) (n : Nat) (a_this a_this_cells a_this_cells_cells : Nat) (g_cells_cells : Ar)  : zCW (zw_33 cA n a_this a_this_cells a_this_cells_cells g_cells_cells) (zw_33 cA n a_this a_this_cells a_this_cells_cells g_cells_cells) [1, 2] [0] (zw_0 cA n a_this_cells a_this_cells_cells g_cells_cells) (zw_0 cA n a_this_cells a_this_cells_cells g_cells_cells) := ⟨rfl, (show (zw_0 cA n a_this_cells a_this_cells_cells g_cells_cells).map Prod.fst = ([a_this_cells, a_this_cells_cells] : List Nat) from rfl).trans (show (zw_0 cA n a_this_cells a_this_cells_cells g_cells_cells).map Prod.fst = ([a_this_cells, a_this_cells_cells] : List Nat) from rfl).symm, by decide +kernel, (show (zw_33 cA n a_this a_this_cells a_this_cells_cells g_cells_cells).map Prod.fst = ([a_this, a_this_cells, a_this_cells_cells] : List Nat) from rfl).trans (show (zw_33 cA n a_this a_this_cells a_this_cells_cells g_cells_cells).map Prod.fst = ([a_this, a_this_cells, a_this_cells_cells] : List Nat) from rfl).symm, rfl, (show ([0] : List Nat).map (fun i => (zw_33 cA n a_this a_this_cells a_this_cells_cells g_cells_cells)[i]?) = ([(a_this, .inr (6, [.ref a_this_cells]))] : va_W).map some from rfl).trans (show ([0] : List Nat).map (fun i => (zw_33 cA n a_this a_this_cells a_this_cells_cells g_cells_cells)[i]?) = ([(a_this, .inr (6, [.ref a_this_cells]))] : va_W).map some from rfl).symm, by decide +kernel, rfl⟩
set_option maxHeartbeats 4000000 in
set_option maxRecDepth 100000 in
theorem m_X6_isStored (l : Launch) (D : va_G) (cA : ClassId) (n : Nat) (a_this a_this_cells a_this_cells_cells : Nat) (g_cells_cells : Ar) (i1 : Int32) (out : Int32) (hF : F_X6_isStored n g_cells_cells i1 = some out) : zM l D cA yX6_isStored cX6_isStored 2 (some .boolean) 1 21 [.ref a_this, .int i1] (zw_33 cA n a_this a_this_cells a_this_cells_cells g_cells_cells) (zw_33 cA n a_this a_this_cells a_this_cells_cells g_cells_cells) (some (.int out)) := by
  refine z_body (by decide) (Nat.le_of_ble_eq_true rfl) ?_
  intro p e s m args below meth c ls H locs A X hl hw
  have hl : lv_has ls 2 [(0, .ref a_this), (1, .int i1)] := hl
  unfold F_X6_isStored at hF
  refine z_aload_n 0 X dX6_isStored_0 hl 0 rfl ?_
  refine z_get 1 zc6 0 0 fl_6_16 X dX6_isStored_1 hw rfl (by decide) rfl ?_
  refine z_iload_n 4 X dX6_isStored_4 hl 1 rfl ?_
  refine z_bipush 5 68 X dX6_isStored_5 (by decide) ?_
  refine z_imul 7 X dX6_isStored_7 ?_
  obtain ⟨u1, e2, hF⟩ := zbd hF
  refine z_callV 8 zc0 mv_X0_read ml_6_20 1 [] (zk_108 cA n a_this a_this_cells a_this_cells_cells g_cells_cells) (m_X0_read l D cA n a_this_cells a_this_cells_cells g_cells_cells (i1 * 68) u1 e2) X dX6_isStored_8 hw hl rfl rfl rfl (Nat.le_of_ble_eq_true rfl) ⟨Nat.le_of_ble_eq_true rfl, Nat.le_of_ble_eq_true rfl⟩ ⟨Nat.zero_le _, Nat.zero_le _⟩ (fun H locs hw => ?_)
  refine z_iconst 11 1 X dX6_isStored_11 (by decide) ?_
  refine z_icmp_ne 12 19 X dX6_isStored_12 (by decide) (fun c3 => ?_) (fun c3 => ?_)
  · replace hF := zneg c3 hF
    refine z_iconst 19 0 X dX6_isStored_19 (by decide) ?_
    cases hF
    exact z_zret 20 X dX6_isStored_20 hw (by decide) rfl rfl
  · replace hF := zpos c3 hF
    refine z_iconst 15 1 X dX6_isStored_15 (by decide) ?_
    refine z_goto 16 20 X dX6_isStored_16 (by decide) ?_
    cases hF
    exact z_zret 20 X dX6_isStored_20 hw (by decide) rfl rfl
