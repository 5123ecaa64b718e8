/-! THE CLAIM OUT OF ONE WALK OF THE LAW'S BODY. Your part is whole_start (and what it stands on); all else here is the same for every law, but numbers. -/
def R_law : String := "RiceBlocksLaw"
def lw_P (b : Addr) (xs : List Int32) (args : Array Value) (s : State) : Prop := args = #[.ref b] ∧ s.IntsAt b xs ∧ xs.length ≤ 1536 ∧ (Jvm.Cond.and given_1 narrow_1).before args s = true
def lw_Q (_ : Array Value) (s : State) (o : Outcome) (t : State) : Prop := o = .returned (some (.int 1)) ∧ Framed s o t [] 600000 7302250
def lw_Z (below : List Frame) (a : Array Value) (s : State) : State → Prop := fun t => ∃ o, t.status = .running ∧ Ended t below o ∧ lw_Q a s o t
/-- the law's own end, with 1 on the stack, nothing written that was there before, its room as the claim has it -/
theorem lw_ret {p : Program} {l : Launch} {e : Env} {s : State} {m : MethodId} {below : List Frame} {meth : Method} {c : Code} {b : Nat} (hx : p.tables.exec = Jvm.exec) (hb : c.code = code) (hr : meth.sig.returnType = ret) (hlocks : meth.locks = false) {pc : Nat} {H : Heap} {ls : Array Slot} (hdg : decode code pc = .ok (.ireturn, 1)) : W p l e room_1 s m #[Value.ref b] below meth c H [] 600000 7302250 (lw_Z below #[Value.ref b] s) (F0 m pc ls [.int 1]) := by
  intro T hT X
  obtain ⟨fs, hret, hrun, hended, hW, hframe⟩ := X.leave (v := some (.int 1)) (hlocks := hlocks) (fun h => by rw [hr] at h; cases h)
  have hmeth' : T.vm.method? m = some meth := X.method'
  refine ⟨T.setFrames fs, ?_, .returned (some (.int 1)), hrun, hended, rfl, ⟨_, rfl⟩, hW, hframe⟩
  jvm_step X.here [X.here.top, hx, hb, hdg, hmeth', hr, ret, narrow_b1]
  (try refine ⟨rfl, ?_⟩); (try refine ⟨rfl, ?_⟩)
  first | (intro acts; rw [hret _ acts rfl rfl rfl]) | rw [hret _ _ rfl rfl rfl]
  exact Steps.refl _
/-- what holds at the law's entry: the machine, the code, the tables' words (any of lw_tbl by 'hts w (by decide +kernel)'), the script of L ints xs at the cell b, what the Statement gives of the start (any of its parts by flat_of_before) -/
def lw_At (p : Program) (s : State) (m : MethodId) (meth : Method) (c : Code) (b L : Nat) (xs : Nat → Int32) : Prop :=
  p.tables.exec = Jvm.exec ∧ c.code = code ∧ meth.sig.returnType = ret ∧ c.maxLocals = 4 ∧ s.vm.findClass R_law = some m.cls ∧ (∀ w ∈ lw_tbl, w.before #[Value.ref b] s = true) ∧ va_X b L xs s s.heap ∧ b < s.heap.size ∧ meth.locks = false ∧ (Jvm.Cond.and given_1 narrow_1).before #[Value.ref b] s = true
def zw_48 (cA : ClassId) (n : Nat) (a_x : Nat) (a_x_row : Nat) (a_x_coding : Nat) (a_x_trial : Nat) (a_x_pad : Nat) (a_x_history : Nat) (a_x_slots : Nat) (a_x_coding_prices : Nat) (a_x_coding_stream : Nat) (a_x_coding_exponents : Nat) (a_x_coding_skips : Nat) (a_x_coding_exponents_cells : Nat) (a_x_coding_prices_sums : Nat) (a_x_coding_prices_sums_cells : Nat) (a_x_coding_skips_cells : Nat) (a_x_coding_stream_cells : Nat) (a_x_coding_stream_cells_cells : Nat) (a_x_history_states : Nat) (a_x_history_states_cells : Nat) (a_x_history_states_cells_cells : Nat) (a_x_pad_signs : Nat) (a_x_pad_signs_cells : Nat) (a_x_row_numbers : Nat) (a_x_row_numbers_cells : Nat) (a_x_slots_cells : Nat) (a_x_slots_cells_cells : Nat) (a_x_trial_sums : Nat) (a_x_trial_sums_cells : Nat) (a_m : Nat) (a_m_all : Nat) (a_m_kept : Nat) (a_m_history : Nat) (a_m_slots : Nat) (a_m_isSaved : Nat) (a_m_stream : Nat) (a_m_pad : Nat) (g_x_coding_exponents_cells : Ar) (v_x_coding_prices_length : Int32) (g_x_coding_prices_sums_cells : Ar) (g_x_coding_skips_cells : Ar) (v_x_coding_stream_length : Int32) (v_x_coding_stream_start : Int32) (v_x_coding_stream_next : Int32) (v_x_coding_stream_exponent : Int32) (v_x_coding_stream_number : Int32) (g_x_coding_stream_cells_cells : Ar) (v_x_history_free : Int32) (v_x_history_length : Int32) (g_x_history_states_cells_cells : Ar) (v_x_pad_length : Int32) (g_x_pad_signs_cells : Ar) (v_x_row_length : Int32) (v_x_row_blockSize : Int32) (v_x_row_ones : Int32) (g_x_row_numbers_cells : Ar) (g_x_slots_cells_cells : Ar) (v_x_trial_length : Int32) (g_x_trial_sums_cells : Ar) (v_m_historyLong : Int32) (v_m_streamLong : Int32) (v_m_spot : Int32) (v_m_padLong : Int32) (v_m_padSpot : Int32) (v_m_readNumber : Int32) (g_m_all : Ar) (g_m_history : Ar) (g_m_isSaved : Ar) (g_m_kept : Ar) (g_m_pad : Ar) (g_m_slots : Ar) (g_m_stream : Ar) : va_W := [(a_x, .inr (8, [.ref a_x_row, .ref a_x_coding, .ref a_x_trial, .ref a_x_pad, .ref a_x_history, .ref a_x_slots])), (a_x_coding, .inr (1, [.ref a_x_coding_prices, .ref a_x_coding_stream, .ref a_x_coding_exponents, .ref a_x_coding_skips])), (a_x_coding_exponents, .inr (0, [.ref a_x_coding_exponents_cells])), (a_x_coding_exponents_cells, .inl (cA, 64, .inl g_x_coding_exponents_cells)), (a_x_coding_prices, .inr (4, [.ref a_x_coding_prices_sums, .int v_x_coding_prices_length])), (a_x_coding_prices_sums, .inr (0, [.ref a_x_coding_prices_sums_cells])), (a_x_coding_prices_sums_cells, .inl (cA, 1040, .inl g_x_coding_prices_sums_cells)), (a_x_coding_skips, .inr (0, [.ref a_x_coding_skips_cells])), (a_x_coding_skips_cells, .inl (cA, 64, .inl g_x_coding_skips_cells)), (a_x_coding_stream, .inr (7, [.ref a_x_coding_stream_cells, .int v_x_coding_stream_length, .int v_x_coding_stream_start, .int v_x_coding_stream_next, .int v_x_coding_stream_exponent, .int v_x_coding_stream_number])), (a_x_coding_stream_cells, .inr (0, [.ref a_x_coding_stream_cells_cells])), (a_x_coding_stream_cells_cells, .inl (cA, 1344, .inl g_x_coding_stream_cells_cells)), (a_x_history, .inr (2, [.ref a_x_history_states, .int v_x_history_free, .int v_x_history_length])), (a_x_history_states, .inr (6, [.ref a_x_history_states_cells])), (a_x_history_states_cells, .inr (0, [.ref a_x_history_states_cells_cells])), (a_x_history_states_cells_cells, .inl (cA, 476, .inl g_x_history_states_cells_cells)), (a_x_pad, .inr (3, [.ref a_x_pad_signs, .int v_x_pad_length])), (a_x_pad_signs, .inr (0, [.ref a_x_pad_signs_cells])), (a_x_pad_signs_cells, .inl (cA, 80, .inl g_x_pad_signs_cells)), (a_x_row, .inr (5, [.ref a_x_row_numbers, .int v_x_row_length, .int v_x_row_blockSize, .int v_x_row_ones])), (a_x_row_numbers, .inr (0, [.ref a_x_row_numbers_cells])), (a_x_row_numbers_cells, .inl (cA, 64, .inl g_x_row_numbers_cells)), (a_x_slots, .inr (6, [.ref a_x_slots_cells])), (a_x_slots_cells, .inr (0, [.ref a_x_slots_cells_cells])), (a_x_slots_cells_cells, .inl (cA, 136, .inl g_x_slots_cells_cells)), (a_x_trial, .inr (4, [.ref a_x_trial_sums, .int v_x_trial_length])), (a_x_trial_sums, .inr (0, [.ref a_x_trial_sums_cells])), (a_x_trial_sums_cells, .inl (cA, 1040, .inl g_x_trial_sums_cells)), (a_m, .inr (9, [.ref a_m_all, .ref a_m_kept, .ref a_m_history, .int v_m_historyLong, .ref a_m_slots, .ref a_m_isSaved, .ref a_m_stream, .int v_m_streamLong, .int v_m_spot, .ref a_m_pad, .int v_m_padLong, .int v_m_padSpot, .int v_m_readNumber])), (a_m_all, .inl (cA, 67, .inl g_m_all)), (a_m_history, .inl (cA, 402, .inl g_m_history)), (a_m_isSaved, .inl (cA, 2, .inl g_m_isSaved)), (a_m_kept, .inl (cA, 67, .inl g_m_kept)), (a_m_pad, .inl (cA, 80, .inl g_m_pad)), (a_m_slots, .inl (cA, 134, .inl g_m_slots)), (a_m_stream, .inl (cA, 3300, .inl g_m_stream))]
theorem mv_X8_set : zMV RX8 yX8_set cX8_set 3 (some .int) 2 := ⟨wsG_mem (zt1 (List.mem_of_getElem? (i := 203) (by decide +kernel))) rfl, wsG_mem (zt1 (List.mem_of_getElem? (i := 1) (by decide +kernel))) rfl, ⟨by decide +kernel, by decide +kernel, by decide +kernel⟩, wsG_mem (zt1 (List.mem_of_getElem? (i := 201) (by decide +kernel))) rfl, wsG_mem (zt1 (List.mem_of_getElem? (i := 202) (by decide +kernel))) rfl⟩
theorem ml_L_13 : Cond.methodLink RL 13 yX8_set ∈ wsG := wsG_mem (zt1 (List.mem_of_getElem? (i := 200) (by decide +kernel))) rfl
theorem mv_X9_set : zMV RX9 yX9_set cX9_set 3 (some .int) 2 := ⟨wsG_mem (zt3 (List.mem_of_getElem? (i := 165) (by decide +kernel))) rfl, wsG_mem (zt1 (List.mem_of_getElem? (i := 11) (by decide +kernel))) rfl, ⟨by decide +kernel, by decide +kernel, by decide +kernel⟩, wsG_mem (zt3 (List.mem_of_getElem? (i := 163) (by decide +kernel))) rfl, wsG_mem (zt3 (List.mem_of_getElem? (i := 164) (by decide +kernel))) rfl⟩
theorem ml_L_17 : Cond.methodLink RL 17 yX9_set ∈ wsG := wsG_mem (zt3 (List.mem_of_getElem? (i := 162) (by decide +kernel))) rfl
theorem mv_X8_putIn : zMV RX8 yX8_putIn cX8_putIn 2 (some .int) 1 := ⟨wsG_mem (zt2 (List.mem_of_getElem? (i := 73) (by decide +kernel))) rfl, wsG_mem (zt1 (List.mem_of_getElem? (i := 1) (by decide +kernel))) rfl, ⟨by decide +kernel, by decide +kernel, by decide +kernel⟩, wsG_mem (zt2 (List.mem_of_getElem? (i := 71) (by decide +kernel))) rfl, wsG_mem (zt2 (List.mem_of_getElem? (i := 72) (by decide +kernel))) rfl⟩
theorem ml_L_18 : Cond.methodLink RL 18 yX8_putIn ∈ wsG := wsG_mem (zt2 (List.mem_of_getElem? (i := 70) (by decide +kernel))) rfl
theorem mv_X9_putIn : zMV RX9 yX9_putIn cX9_putIn 2 (some .int) 1 := ⟨wsG_mem (zt3 (List.mem_of_getElem? (i := 189) (by decide +kernel))) rfl, wsG_mem (zt1 (List.mem_of_getElem? (i := 11) (by decide +kernel))) rfl, ⟨by decide +kernel, by decide +kernel, by decide +kernel⟩, wsG_mem (zt3 (List.mem_of_getElem? (i := 187) (by decide +kernel))) rfl, wsG_mem (zt3 (List.mem_of_getElem? (i := 188) (by decide +kernel))) rfl⟩
theorem ml_L_22 : Cond.methodLink RL 22 yX9_putIn ∈ wsG := wsG_mem (zt3 (List.mem_of_getElem? (i := 186) (by decide +kernel))) rfl
theorem mv_X8_takeOut : zMV RX8 yX8_takeOut cX8_takeOut 2 (some .int) 1 := ⟨wsG_mem (zt2 (List.mem_of_getElem? (i := 102) (by decide +kernel))) rfl, wsG_mem (zt1 (List.mem_of_getElem? (i := 1) (by decide +kernel))) rfl, ⟨by decide +kernel, by decide +kernel, by decide +kernel⟩, wsG_mem (zt2 (List.mem_of_getElem? (i := 100) (by decide +kernel))) rfl, wsG_mem (zt2 (List.mem_of_getElem? (i := 101) (by decide +kernel))) rfl⟩
theorem ml_L_23 : Cond.methodLink RL 23 yX8_takeOut ∈ wsG := wsG_mem (zt2 (List.mem_of_getElem? (i := 99) (by decide +kernel))) rfl
theorem mv_X9_takeOut : zMV RX9 yX9_takeOut cX9_takeOut 2 (some .int) 1 := ⟨wsG_mem (zt3 (List.mem_of_getElem? (i := 213) (by decide +kernel))) rfl, wsG_mem (zt1 (List.mem_of_getElem? (i := 11) (by decide +kernel))) rfl, ⟨by decide +kernel, by decide +kernel, by decide +kernel⟩, wsG_mem (zt3 (List.mem_of_getElem? (i := 211) (by decide +kernel))) rfl, wsG_mem (zt3 (List.mem_of_getElem? (i := 212) (by decide +kernel))) rfl⟩
theorem ml_L_26 : Cond.methodLink RL 26 yX9_takeOut ∈ wsG := wsG_mem (zt3 (List.mem_of_getElem? (i := 210) (by decide +kernel))) rfl
theorem mv_X8_shift : zMV RX8 yX8_shift cX8_shift 5 (some .int) 2 := ⟨wsG_mem (zt2 (List.mem_of_getElem? (i := 114) (by decide +kernel))) rfl, wsG_mem (zt1 (List.mem_of_getElem? (i := 1) (by decide +kernel))) rfl, ⟨by decide +kernel, by decide +kernel, by decide +kernel⟩, wsG_mem (zt2 (List.mem_of_getElem? (i := 112) (by decide +kernel))) rfl, wsG_mem (zt2 (List.mem_of_getElem? (i := 113) (by decide +kernel))) rfl⟩
theorem ml_L_27 : Cond.methodLink RL 27 yX8_shift ∈ wsG := wsG_mem (zt2 (List.mem_of_getElem? (i := 111) (by decide +kernel))) rfl
theorem mv_X9_shift : zMV RX9 yX9_shift cX9_shift 3 (some .int) 2 := ⟨wsG_mem (zt3 (List.mem_of_getElem? (i := 221) (by decide +kernel))) rfl, wsG_mem (zt1 (List.mem_of_getElem? (i := 11) (by decide +kernel))) rfl, ⟨by decide +kernel, by decide +kernel, by decide +kernel⟩, wsG_mem (zt3 (List.mem_of_getElem? (i := 219) (by decide +kernel))) rfl, wsG_mem (zt3 (List.mem_of_getElem? (i := 220) (by decide +kernel))) rfl⟩
theorem ml_L_30 : Cond.methodLink RL 30 yX9_shift ∈ wsG := wsG_mem (zt3 (List.mem_of_getElem? (i := 218) (by decide +kernel))) rfl
theorem mv_X8_gap : zMV RX8 yX8_gap cX8_gap 5 (some .int) 2 := ⟨wsG_mem (zt2 (List.mem_of_getElem? (i := 126) (by decide +kernel))) rfl, wsG_mem (zt1 (List.mem_of_getElem? (i := 1) (by decide +kernel))) rfl, ⟨by decide +kernel, by decide +kernel, by decide +kernel⟩, wsG_mem (zt2 (List.mem_of_getElem? (i := 124) (by decide +kernel))) rfl, wsG_mem (zt2 (List.mem_of_getElem? (i := 125) (by decide +kernel))) rfl⟩
theorem ml_L_31 : Cond.methodLink RL 31 yX8_gap ∈ wsG := wsG_mem (zt2 (List.mem_of_getElem? (i := 123) (by decide +kernel))) rfl
theorem mv_X9_gap : zMV RX9 yX9_gap cX9_gap 5 (some .int) 2 := ⟨wsG_mem (zt4 (List.mem_of_getElem? (i := 38) (by decide +kernel))) rfl, wsG_mem (zt1 (List.mem_of_getElem? (i := 11) (by decide +kernel))) rfl, ⟨by decide +kernel, by decide +kernel, by decide +kernel⟩, wsG_mem (zt4 (List.mem_of_getElem? (i := 36) (by decide +kernel))) rfl, wsG_mem (zt4 (List.mem_of_getElem? (i := 37) (by decide +kernel))) rfl⟩
theorem ml_L_34 : Cond.methodLink RL 34 yX9_gap ∈ wsG := wsG_mem (zt4 (List.mem_of_getElem? (i := 35) (by decide +kernel))) rfl
theorem mv_X8_block : zMV RX8 yX8_block cX8_block 6 (some .int) 2 := ⟨wsG_mem (zt2 (List.mem_of_getElem? (i := 148) (by decide +kernel))) rfl, wsG_mem (zt1 (List.mem_of_getElem? (i := 1) (by decide +kernel))) rfl, ⟨by decide +kernel, by decide +kernel, by decide +kernel⟩, wsG_mem (zt2 (List.mem_of_getElem? (i := 146) (by decide +kernel))) rfl, wsG_mem (zt2 (List.mem_of_getElem? (i := 147) (by decide +kernel))) rfl⟩
theorem ml_L_35 : Cond.methodLink RL 35 yX8_block ∈ wsG := wsG_mem (zt2 (List.mem_of_getElem? (i := 145) (by decide +kernel))) rfl
theorem mv_X9_block : zMV RX9 yX9_block cX9_block 3 (some .int) 2 := ⟨wsG_mem (zt4 (List.mem_of_getElem? (i := 46) (by decide +kernel))) rfl, wsG_mem (zt1 (List.mem_of_getElem? (i := 11) (by decide +kernel))) rfl, ⟨by decide +kernel, by decide +kernel, by decide +kernel⟩, wsG_mem (zt4 (List.mem_of_getElem? (i := 44) (by decide +kernel))) rfl, wsG_mem (zt4 (List.mem_of_getElem? (i := 45) (by decide +kernel))) rfl⟩
theorem ml_L_38 : Cond.methodLink RL 38 yX9_block ∈ wsG := wsG_mem (zt4 (List.mem_of_getElem? (i := 43) (by decide +kernel))) rfl
theorem mv_X8_bit : zMV RX8 yX8_bit cX8_bit 2 (some .int) 1 := ⟨wsG_mem (zt2 (List.mem_of_getElem? (i := 165) (by decide +kernel))) rfl, wsG_mem (zt1 (List.mem_of_getElem? (i := 1) (by decide +kernel))) rfl, ⟨by decide +kernel, by decide +kernel, by decide +kernel⟩, wsG_mem (zt2 (List.mem_of_getElem? (i := 163) (by decide +kernel))) rfl, wsG_mem (zt2 (List.mem_of_getElem? (i := 164) (by decide +kernel))) rfl⟩
theorem ml_L_39 : Cond.methodLink RL 39 yX8_bit ∈ wsG := wsG_mem (zt2 (List.mem_of_getElem? (i := 162) (by decide +kernel))) rfl
theorem mv_X9_bit : zMV RX9 yX9_bit cX9_bit 2 (some .int) 1 := ⟨wsG_mem (zt4 (List.mem_of_getElem? (i := 66) (by decide +kernel))) rfl, wsG_mem (zt1 (List.mem_of_getElem? (i := 11) (by decide +kernel))) rfl, ⟨by decide +kernel, by decide +kernel, by decide +kernel⟩, wsG_mem (zt4 (List.mem_of_getElem? (i := 64) (by decide +kernel))) rfl, wsG_mem (zt4 (List.mem_of_getElem? (i := 65) (by decide +kernel))) rfl⟩
theorem ml_L_42 : Cond.methodLink RL 42 yX9_bit ∈ wsG := wsG_mem (zt4 (List.mem_of_getElem? (i := 63) (by decide +kernel))) rfl
theorem mv_X8_bits : zMV RX8 yX8_bits cX8_bits 2 (some .long) 1 := ⟨wsG_mem (zt2 (List.mem_of_getElem? (i := 179) (by decide +kernel))) rfl, wsG_mem (zt1 (List.mem_of_getElem? (i := 1) (by decide +kernel))) rfl, ⟨by decide +kernel, by decide +kernel, by decide +kernel⟩, wsG_mem (zt2 (List.mem_of_getElem? (i := 177) (by decide +kernel))) rfl, wsG_mem (zt2 (List.mem_of_getElem? (i := 178) (by decide +kernel))) rfl⟩
theorem ml_L_43 : Cond.methodLink RL 43 yX8_bits ∈ wsG := wsG_mem (zt2 (List.mem_of_getElem? (i := 176) (by decide +kernel))) rfl
theorem mv_X9_bits : zMV RX9 yX9_bits cX9_bits 5 (some .long) 1 := ⟨wsG_mem (zt4 (List.mem_of_getElem? (i := 82) (by decide +kernel))) rfl, wsG_mem (zt1 (List.mem_of_getElem? (i := 11) (by decide +kernel))) rfl, ⟨by decide +kernel, by decide +kernel, by decide +kernel⟩, wsG_mem (zt4 (List.mem_of_getElem? (i := 80) (by decide +kernel))) rfl, wsG_mem (zt4 (List.mem_of_getElem? (i := 81) (by decide +kernel))) rfl⟩
theorem ml_L_47 : Cond.methodLink RL 47 yX9_bits ∈ wsG := wsG_mem (zt4 (List.mem_of_getElem? (i := 79) (by decide +kernel))) rfl
theorem mv_X8_count : zMV RX8 yX8_count cX8_count 2 (some .int) 1 := ⟨wsG_mem (zt2 (List.mem_of_getElem? (i := 190) (by decide +kernel))) rfl, wsG_mem (zt1 (List.mem_of_getElem? (i := 1) (by decide +kernel))) rfl, ⟨by decide +kernel, by decide +kernel, by decide +kernel⟩, wsG_mem (zt2 (List.mem_of_getElem? (i := 188) (by decide +kernel))) rfl, wsG_mem (zt2 (List.mem_of_getElem? (i := 189) (by decide +kernel))) rfl⟩
theorem ml_L_48 : Cond.methodLink RL 48 yX8_count ∈ wsG := wsG_mem (zt2 (List.mem_of_getElem? (i := 187) (by decide +kernel))) rfl
theorem mv_X9_count : zMV RX9 yX9_count cX9_count 2 (some .int) 1 := ⟨wsG_mem (zt4 (List.mem_of_getElem? (i := 88) (by decide +kernel))) rfl, wsG_mem (zt1 (List.mem_of_getElem? (i := 11) (by decide +kernel))) rfl, ⟨by decide +kernel, by decide +kernel, by decide +kernel⟩, wsG_mem (zt4 (List.mem_of_getElem? (i := 86) (by decide +kernel))) rfl, wsG_mem (zt4 (List.mem_of_getElem? (i := 87) (by decide +kernel))) rfl⟩
theorem ml_L_51 : Cond.methodLink RL 51 yX9_count ∈ wsG := wsG_mem (zt4 (List.mem_of_getElem? (i := 85) (by decide +kernel))) rfl
theorem mv_X8_at : zMV RX8 yX8_at cX8_at 5 (some .int) 2 := ⟨wsG_mem (zt2 (List.mem_of_getElem? (i := 203) (by decide +kernel))) rfl, wsG_mem (zt1 (List.mem_of_getElem? (i := 1) (by decide +kernel))) rfl, ⟨by decide +kernel, by decide +kernel, by decide +kernel⟩, wsG_mem (zt2 (List.mem_of_getElem? (i := 201) (by decide +kernel))) rfl, wsG_mem (zt2 (List.mem_of_getElem? (i := 202) (by decide +kernel))) rfl⟩
theorem ml_L_52 : Cond.methodLink RL 52 yX8_at ∈ wsG := wsG_mem (zt2 (List.mem_of_getElem? (i := 200) (by decide +kernel))) rfl
theorem mv_X9_at : zMV RX9 yX9_at cX9_at 4 (some .int) 2 := ⟨wsG_mem (zt4 (List.mem_of_getElem? (i := 100) (by decide +kernel))) rfl, wsG_mem (zt1 (List.mem_of_getElem? (i := 11) (by decide +kernel))) rfl, ⟨by decide +kernel, by decide +kernel, by decide +kernel⟩, wsG_mem (zt4 (List.mem_of_getElem? (i := 98) (by decide +kernel))) rfl, wsG_mem (zt4 (List.mem_of_getElem? (i := 99) (by decide +kernel))) rfl⟩
theorem ml_L_55 : Cond.methodLink RL 55 yX9_at ∈ wsG := wsG_mem (zt4 (List.mem_of_getElem? (i := 97) (by decide +kernel))) rfl
theorem mv_X8_find : zMV RX8 yX8_find cX8_find 5 (some .int) 2 := ⟨wsG_mem (zt2 (List.mem_of_getElem? (i := 235) (by decide +kernel))) rfl, wsG_mem (zt1 (List.mem_of_getElem? (i := 1) (by decide +kernel))) rfl, ⟨by decide +kernel, by decide +kernel, by decide +kernel⟩, wsG_mem (zt2 (List.mem_of_getElem? (i := 233) (by decide +kernel))) rfl, wsG_mem (zt2 (List.mem_of_getElem? (i := 234) (by decide +kernel))) rfl⟩
theorem ml_L_56 : Cond.methodLink RL 56 yX8_find ∈ wsG := wsG_mem (zt2 (List.mem_of_getElem? (i := 232) (by decide +kernel))) rfl
theorem mv_X9_find : zMV RX9 yX9_find cX9_find 3 (some .int) 2 := ⟨wsG_mem (zt4 (List.mem_of_getElem? (i := 104) (by decide +kernel))) rfl, wsG_mem (zt1 (List.mem_of_getElem? (i := 11) (by decide +kernel))) rfl, ⟨by decide +kernel, by decide +kernel, by decide +kernel⟩, wsG_mem (zt4 (List.mem_of_getElem? (i := 102) (by decide +kernel))) rfl, wsG_mem (zt4 (List.mem_of_getElem? (i := 103) (by decide +kernel))) rfl⟩
theorem ml_L_59 : Cond.methodLink RL 59 yX9_find ∈ wsG := wsG_mem (zt4 (List.mem_of_getElem? (i := 101) (by decide +kernel))) rfl
theorem mv_X8_cost : zMV RX8 yX8_cost cX8_cost 3 (some .int) 2 := ⟨wsG_mem (zt3 (List.mem_of_getElem? (i := 7) (by decide +kernel))) rfl, wsG_mem (zt1 (List.mem_of_getElem? (i := 1) (by decide +kernel))) rfl, ⟨by decide +kernel, by decide +kernel, by decide +kernel⟩, wsG_mem (zt3 (List.mem_of_getElem? (i := 5) (by decide +kernel))) rfl, wsG_mem (zt3 (List.mem_of_getElem? (i := 6) (by decide +kernel))) rfl⟩
theorem ml_L_60 : Cond.methodLink RL 60 yX8_cost ∈ wsG := wsG_mem (zt3 (List.mem_of_getElem? (i := 4) (by decide +kernel))) rfl
theorem mv_X9_cost : zMV RX9 yX9_cost cX9_cost 3 (some .int) 2 := ⟨wsG_mem (zt4 (List.mem_of_getElem? (i := 117) (by decide +kernel))) rfl, wsG_mem (zt1 (List.mem_of_getElem? (i := 11) (by decide +kernel))) rfl, ⟨by decide +kernel, by decide +kernel, by decide +kernel⟩, wsG_mem (zt4 (List.mem_of_getElem? (i := 115) (by decide +kernel))) rfl, wsG_mem (zt4 (List.mem_of_getElem? (i := 116) (by decide +kernel))) rfl⟩
theorem ml_L_63 : Cond.methodLink RL 63 yX9_cost ∈ wsG := wsG_mem (zt4 (List.mem_of_getElem? (i := 114) (by decide +kernel))) rfl
theorem mv_X8_with : zMV RX8 yX8_with cX8_with 3 (some .int) 2 := ⟨wsG_mem (zt3 (List.mem_of_getElem? (i := 11) (by decide +kernel))) rfl, wsG_mem (zt1 (List.mem_of_getElem? (i := 1) (by decide +kernel))) rfl, ⟨by decide +kernel, by decide +kernel, by decide +kernel⟩, wsG_mem (zt3 (List.mem_of_getElem? (i := 9) (by decide +kernel))) rfl, wsG_mem (zt3 (List.mem_of_getElem? (i := 10) (by decide +kernel))) rfl⟩
theorem ml_L_64 : Cond.methodLink RL 64 yX8_with ∈ wsG := wsG_mem (zt3 (List.mem_of_getElem? (i := 8) (by decide +kernel))) rfl
theorem mv_X9_with : zMV RX9 yX9_with cX9_with 3 (some .int) 2 := ⟨wsG_mem (zt4 (List.mem_of_getElem? (i := 122) (by decide +kernel))) rfl, wsG_mem (zt1 (List.mem_of_getElem? (i := 11) (by decide +kernel))) rfl, ⟨by decide +kernel, by decide +kernel, by decide +kernel⟩, wsG_mem (zt4 (List.mem_of_getElem? (i := 120) (by decide +kernel))) rfl, wsG_mem (zt4 (List.mem_of_getElem? (i := 121) (by decide +kernel))) rfl⟩
theorem ml_L_67 : Cond.methodLink RL 67 yX9_with ∈ wsG := wsG_mem (zt4 (List.mem_of_getElem? (i := 119) (by decide +kernel))) rfl
theorem mv_X8_best : zMV RX8 yX8_best cX8_best 6 (some .int) 1 := ⟨wsG_mem (zt3 (List.mem_of_getElem? (i := 24) (by decide +kernel))) rfl, wsG_mem (zt1 (List.mem_of_getElem? (i := 1) (by decide +kernel))) rfl, ⟨by decide +kernel, by decide +kernel, by decide +kernel⟩, wsG_mem (zt3 (List.mem_of_getElem? (i := 22) (by decide +kernel))) rfl, wsG_mem (zt3 (List.mem_of_getElem? (i := 23) (by decide +kernel))) rfl⟩
theorem ml_L_68 : Cond.methodLink RL 68 yX8_best ∈ wsG := wsG_mem (zt3 (List.mem_of_getElem? (i := 21) (by decide +kernel))) rfl
theorem mv_X9_best : zMV RX9 yX9_best cX9_best 6 (some .int) 1 := ⟨wsG_mem (zt4 (List.mem_of_getElem? (i := 130) (by decide +kernel))) rfl, wsG_mem (zt1 (List.mem_of_getElem? (i := 11) (by decide +kernel))) rfl, ⟨by decide +kernel, by decide +kernel, by decide +kernel⟩, wsG_mem (zt4 (List.mem_of_getElem? (i := 128) (by decide +kernel))) rfl, wsG_mem (zt4 (List.mem_of_getElem? (i := 129) (by decide +kernel))) rfl⟩
theorem ml_L_71 : Cond.methodLink RL 71 yX9_best ∈ wsG := wsG_mem (zt4 (List.mem_of_getElem? (i := 127) (by decide +kernel))) rfl
theorem mv_X8_check : zMV RX8 yX8_check cX8_check 2 (some .int) 0 := ⟨wsG_mem (zt3 (List.mem_of_getElem? (i := 28) (by decide +kernel))) rfl, wsG_mem (zt1 (List.mem_of_getElem? (i := 1) (by decide +kernel))) rfl, ⟨by decide +kernel, by decide +kernel, by decide +kernel⟩, wsG_mem (zt3 (List.mem_of_getElem? (i := 26) (by decide +kernel))) rfl, wsG_mem (zt3 (List.mem_of_getElem? (i := 27) (by decide +kernel))) rfl⟩
theorem ml_L_72 : Cond.methodLink RL 72 yX8_check ∈ wsG := wsG_mem (zt3 (List.mem_of_getElem? (i := 25) (by decide +kernel))) rfl
theorem mv_X9_check : zMV RX9 yX9_check cX9_check 5 (some .int) 0 := ⟨wsG_mem (zt4 (List.mem_of_getElem? (i := 134) (by decide +kernel))) rfl, wsG_mem (zt1 (List.mem_of_getElem? (i := 11) (by decide +kernel))) rfl, ⟨by decide +kernel, by decide +kernel, by decide +kernel⟩, wsG_mem (zt4 (List.mem_of_getElem? (i := 132) (by decide +kernel))) rfl, wsG_mem (zt4 (List.mem_of_getElem? (i := 133) (by decide +kernel))) rfl⟩
theorem ml_L_76 : Cond.methodLink RL 76 yX9_check ∈ wsG := wsG_mem (zt4 (List.mem_of_getElem? (i := 131) (by decide +kernel))) rfl
theorem cl_L_77 : Cond.constantLong RL 77 (4294967295) ∈ wsG := wsG_mem (zt4 (List.mem_of_getElem? (i := 200) (by decide +kernel))) rfl
theorem mv_X8_put : zMV RX8 yX8_put cX8_put 5 (some .int) 1 := ⟨wsG_mem (zt3 (List.mem_of_getElem? (i := 32) (by decide +kernel))) rfl, wsG_mem (zt1 (List.mem_of_getElem? (i := 1) (by decide +kernel))) rfl, ⟨by decide +kernel, by decide +kernel, by decide +kernel⟩, wsG_mem (zt3 (List.mem_of_getElem? (i := 30) (by decide +kernel))) rfl, wsG_mem (zt3 (List.mem_of_getElem? (i := 31) (by decide +kernel))) rfl⟩
theorem ml_L_79 : Cond.methodLink RL 79 yX8_put ∈ wsG := wsG_mem (zt3 (List.mem_of_getElem? (i := 29) (by decide +kernel))) rfl
theorem mv_X9_put : zMV RX9 yX9_put cX9_put 8 (some .int) 1 := ⟨wsG_mem (zt4 (List.mem_of_getElem? (i := 146) (by decide +kernel))) rfl, wsG_mem (zt1 (List.mem_of_getElem? (i := 11) (by decide +kernel))) rfl, ⟨by decide +kernel, by decide +kernel, by decide +kernel⟩, wsG_mem (zt4 (List.mem_of_getElem? (i := 144) (by decide +kernel))) rfl, wsG_mem (zt4 (List.mem_of_getElem? (i := 145) (by decide +kernel))) rfl⟩
theorem ml_L_83 : Cond.methodLink RL 83 yX9_put ∈ wsG := wsG_mem (zt4 (List.mem_of_getElem? (i := 143) (by decide +kernel))) rfl
theorem mv_X8_wipe : zMV RX8 yX8_wipe cX8_wipe 2 (some .int) 0 := ⟨wsG_mem (zt3 (List.mem_of_getElem? (i := 47) (by decide +kernel))) rfl, wsG_mem (zt1 (List.mem_of_getElem? (i := 1) (by decide +kernel))) rfl, ⟨by decide +kernel, by decide +kernel, by decide +kernel⟩, wsG_mem (zt3 (List.mem_of_getElem? (i := 45) (by decide +kernel))) rfl, wsG_mem (zt3 (List.mem_of_getElem? (i := 46) (by decide +kernel))) rfl⟩
theorem ml_L_84 : Cond.methodLink RL 84 yX8_wipe ∈ wsG := wsG_mem (zt3 (List.mem_of_getElem? (i := 44) (by decide +kernel))) rfl
theorem mv_X9_wipe : zMV RX9 yX9_wipe cX9_wipe 2 (some .int) 0 := ⟨wsG_mem (zt4 (List.mem_of_getElem? (i := 153) (by decide +kernel))) rfl, wsG_mem (zt1 (List.mem_of_getElem? (i := 11) (by decide +kernel))) rfl, ⟨by decide +kernel, by decide +kernel, by decide +kernel⟩, wsG_mem (zt4 (List.mem_of_getElem? (i := 151) (by decide +kernel))) rfl, wsG_mem (zt4 (List.mem_of_getElem? (i := 152) (by decide +kernel))) rfl⟩
theorem ml_L_87 : Cond.methodLink RL 87 yX9_wipe ∈ wsG := wsG_mem (zt4 (List.mem_of_getElem? (i := 150) (by decide +kernel))) rfl
theorem mv_X8_fault : zMV RX8 yX8_fault cX8_fault 1 (some .int) 0 := ⟨wsG_mem (zt3 (List.mem_of_getElem? (i := 51) (by decide +kernel))) rfl, wsG_mem (zt1 (List.mem_of_getElem? (i := 1) (by decide +kernel))) rfl, ⟨by decide +kernel, by decide +kernel, by decide +kernel⟩, wsG_mem (zt3 (List.mem_of_getElem? (i := 49) (by decide +kernel))) rfl, wsG_mem (zt3 (List.mem_of_getElem? (i := 50) (by decide +kernel))) rfl⟩
theorem ml_L_88 : Cond.methodLink RL 88 yX8_fault ∈ wsG := wsG_mem (zt3 (List.mem_of_getElem? (i := 48) (by decide +kernel))) rfl
theorem ml_L_91 : Cond.methodLink RL 91 yX9_fault ∈ wsG := wsG_mem (zt4 (List.mem_of_getElem? (i := 154) (by decide +kernel))) rfl
theorem mv_X8_carryOut : zMV RX8 yX8_carryOut cX8_carryOut 2 (some .int) 0 := ⟨wsG_mem (zt3 (List.mem_of_getElem? (i := 72) (by decide +kernel))) rfl, wsG_mem (zt1 (List.mem_of_getElem? (i := 1) (by decide +kernel))) rfl, ⟨by decide +kernel, by decide +kernel, by decide +kernel⟩, wsG_mem (zt3 (List.mem_of_getElem? (i := 70) (by decide +kernel))) rfl, wsG_mem (zt3 (List.mem_of_getElem? (i := 71) (by decide +kernel))) rfl⟩
theorem ml_L_92 : Cond.methodLink RL 92 yX8_carryOut ∈ wsG := wsG_mem (zt3 (List.mem_of_getElem? (i := 69) (by decide +kernel))) rfl
theorem mv_X9_carryOut : zMV RX9 yX9_carryOut cX9_carryOut 3 (some .int) 0 := ⟨wsG_mem (zt4 (List.mem_of_getElem? (i := 178) (by decide +kernel))) rfl, wsG_mem (zt1 (List.mem_of_getElem? (i := 11) (by decide +kernel))) rfl, ⟨by decide +kernel, by decide +kernel, by decide +kernel⟩, wsG_mem (zt4 (List.mem_of_getElem? (i := 176) (by decide +kernel))) rfl, wsG_mem (zt4 (List.mem_of_getElem? (i := 177) (by decide +kernel))) rfl⟩
theorem ml_L_95 : Cond.methodLink RL 95 yX9_carryOut ∈ wsG := wsG_mem (zt4 (List.mem_of_getElem? (i := 175) (by decide +kernel))) rfl
theorem mv_X8_undo : zMV RX8 yX8_undo cX8_undo 1 (some .int) 0 := ⟨wsG_mem (zt3 (List.mem_of_getElem? (i := 89) (by decide +kernel))) rfl, wsG_mem (zt1 (List.mem_of_getElem? (i := 1) (by decide +kernel))) rfl, ⟨by decide +kernel, by decide +kernel, by decide +kernel⟩, wsG_mem (zt3 (List.mem_of_getElem? (i := 87) (by decide +kernel))) rfl, wsG_mem (zt3 (List.mem_of_getElem? (i := 88) (by decide +kernel))) rfl⟩
theorem ml_L_96 : Cond.methodLink RL 96 yX8_undo ∈ wsG := wsG_mem (zt3 (List.mem_of_getElem? (i := 86) (by decide +kernel))) rfl
theorem mv_X9_undo : zMV RX9 yX9_undo cX9_undo 2 (some .int) 0 := ⟨wsG_mem (zt4 (List.mem_of_getElem? (i := 191) (by decide +kernel))) rfl, wsG_mem (zt1 (List.mem_of_getElem? (i := 11) (by decide +kernel))) rfl, ⟨by decide +kernel, by decide +kernel, by decide +kernel⟩, wsG_mem (zt4 (List.mem_of_getElem? (i := 189) (by decide +kernel))) rfl, wsG_mem (zt4 (List.mem_of_getElem? (i := 190) (by decide +kernel))) rfl⟩
theorem ml_L_99 : Cond.methodLink RL 99 yX9_undo ∈ wsG := wsG_mem (zt4 (List.mem_of_getElem? (i := 188) (by decide +kernel))) rfl
theorem mv_X8_save : zMV RX8 yX8_save cX8_save 2 (some .int) 1 := ⟨wsG_mem (zt3 (List.mem_of_getElem? (i := 102) (by decide +kernel))) rfl, wsG_mem (zt1 (List.mem_of_getElem? (i := 1) (by decide +kernel))) rfl, ⟨by decide +kernel, by decide +kernel, by decide +kernel⟩, wsG_mem (zt3 (List.mem_of_getElem? (i := 100) (by decide +kernel))) rfl, wsG_mem (zt3 (List.mem_of_getElem? (i := 101) (by decide +kernel))) rfl⟩
theorem ml_L_100 : Cond.methodLink RL 100 yX8_save ∈ wsG := wsG_mem (zt3 (List.mem_of_getElem? (i := 99) (by decide +kernel))) rfl
theorem mv_X9_save : zMV RX9 yX9_save cX9_save 3 (some .int) 1 := ⟨wsG_mem (zt4 (List.mem_of_getElem? (i := 195) (by decide +kernel))) rfl, wsG_mem (zt1 (List.mem_of_getElem? (i := 11) (by decide +kernel))) rfl, ⟨by decide +kernel, by decide +kernel, by decide +kernel⟩, wsG_mem (zt4 (List.mem_of_getElem? (i := 193) (by decide +kernel))) rfl, wsG_mem (zt4 (List.mem_of_getElem? (i := 194) (by decide +kernel))) rfl⟩
theorem ml_L_103 : Cond.methodLink RL 103 yX9_save ∈ wsG := wsG_mem (zt4 (List.mem_of_getElem? (i := 192) (by decide +kernel))) rfl
theorem mv_X8_restore : zMV RX8 yX8_restore cX8_restore 2 (some .int) 1 := ⟨wsG_mem (zt3 (List.mem_of_getElem? (i := 110) (by decide +kernel))) rfl, wsG_mem (zt1 (List.mem_of_getElem? (i := 1) (by decide +kernel))) rfl, ⟨by decide +kernel, by decide +kernel, by decide +kernel⟩, wsG_mem (zt3 (List.mem_of_getElem? (i := 108) (by decide +kernel))) rfl, wsG_mem (zt3 (List.mem_of_getElem? (i := 109) (by decide +kernel))) rfl⟩
theorem ml_L_104 : Cond.methodLink RL 104 yX8_restore ∈ wsG := wsG_mem (zt3 (List.mem_of_getElem? (i := 107) (by decide +kernel))) rfl
theorem mv_X9_restore : zMV RX9 yX9_restore cX9_restore 3 (some .int) 1 := ⟨wsG_mem (zt4 (List.mem_of_getElem? (i := 199) (by decide +kernel))) rfl, wsG_mem (zt1 (List.mem_of_getElem? (i := 11) (by decide +kernel))) rfl, ⟨by decide +kernel, by decide +kernel, by decide +kernel⟩, wsG_mem (zt4 (List.mem_of_getElem? (i := 197) (by decide +kernel))) rfl, wsG_mem (zt4 (List.mem_of_getElem? (i := 198) (by decide +kernel))) rfl⟩
theorem ml_L_107 : Cond.methodLink RL 107 yX9_restore ∈ wsG := wsG_mem (zt4 (List.mem_of_getElem? (i := 196) (by decide +kernel))) rfl
theorem dL_law_0 : decode cL_law 0 = .ok (.new 7, 3) := by decide +kernel
theorem dL_law_3 : decode cL_law 3 = .ok (.dup, 1) := by decide +kernel
theorem dL_law_4 : decode cL_law 4 = .ok (.invokespecial 9, 3) := by decide +kernel
theorem dL_law_7 : decode cL_law 7 = .ok (.astore_n 1, 1) := by decide +kernel
theorem dL_law_8 : decode cL_law 8 = .ok (.new 10, 3) := by decide +kernel
theorem dL_law_11 : decode cL_law 11 = .ok (.dup, 1) := by decide +kernel
theorem dL_law_12 : decode cL_law 12 = .ok (.invokespecial 12, 3) := by decide +kernel
theorem dL_law_15 : decode cL_law 15 = .ok (.astore_n 2, 1) := by decide +kernel
theorem dL_law_16 : decode cL_law 16 = .ok (.iconst 0, 1) := by decide +kernel
theorem dL_law_17 : decode cL_law 17 = .ok (.istore_n 3, 1) := by decide +kernel
theorem dL_law_18 : decode cL_law 18 = .ok (.iload_n 3, 1) := by decide +kernel
theorem dL_law_19 : decode cL_law 19 = .ok (.aload_n 0, 1) := by decide +kernel
theorem dL_law_20 : decode cL_law 20 = .ok (.arraylength, 1) := by decide +kernel
theorem dL_law_21 : decode cL_law 21 = .ok (.iconst 3, 1) := by decide +kernel
theorem dL_law_22 : decode cL_law 22 = .ok (.isub, 1) := by decide +kernel
theorem dL_law_23 : decode cL_law 23 = .ok (.if_icmp .gt 686, 3) := by decide +kernel
theorem dL_law_26 : decode cL_law 26 = .ok (.aload_n 0, 1) := by decide +kernel
theorem dL_law_27 : decode cL_law 27 = .ok (.iload_n 3, 1) := by decide +kernel
theorem dL_law_28 : decode cL_law 28 = .ok (.iaload, 1) := by decide +kernel
theorem dL_law_29 : decode cL_law 29 = .ok (.bipush 31, 2) := by decide +kernel
theorem dL_law_31 : decode cL_law 31 = .ok (.iand, 1) := by decide +kernel
theorem dL_law_32 : decode cL_law 32 = .ok (.tableswitch 671 0 21 #[104, 137, 160, 183, 216, 249, 282, 305, 329, 352, 385, 418, 451, 484, 507, 520, 573, 586, 599, 612, 625, 648], 104) := by decide +kernel
theorem dL_law_136 : decode cL_law 136 = .ok (.aload_n 1, 1) := by decide +kernel
theorem dL_law_137 : decode cL_law 137 = .ok (.aload_n 0, 1) := by decide +kernel
theorem dL_law_138 : decode cL_law 138 = .ok (.iload_n 3, 1) := by decide +kernel
theorem dL_law_139 : decode cL_law 139 = .ok (.iconst 1, 1) := by decide +kernel
theorem dL_law_140 : decode cL_law 140 = .ok (.iadd, 1) := by decide +kernel
theorem dL_law_141 : decode cL_law 141 = .ok (.iaload, 1) := by decide +kernel
theorem dL_law_142 : decode cL_law 142 = .ok (.aload_n 0, 1) := by decide +kernel
theorem dL_law_143 : decode cL_law 143 = .ok (.iload_n 3, 1) := by decide +kernel
theorem dL_law_144 : decode cL_law 144 = .ok (.iconst 2, 1) := by decide +kernel
theorem dL_law_145 : decode cL_law 145 = .ok (.iadd, 1) := by decide +kernel
theorem dL_law_146 : decode cL_law 146 = .ok (.iaload, 1) := by decide +kernel
theorem dL_law_147 : decode cL_law 147 = .ok (.invokevirtual 13, 3) := by decide +kernel
theorem dL_law_150 : decode cL_law 150 = .ok (.aload_n 2, 1) := by decide +kernel
theorem dL_law_151 : decode cL_law 151 = .ok (.aload_n 0, 1) := by decide +kernel
theorem dL_law_152 : decode cL_law 152 = .ok (.iload_n 3, 1) := by decide +kernel
theorem dL_law_153 : decode cL_law 153 = .ok (.iconst 1, 1) := by decide +kernel
theorem dL_law_154 : decode cL_law 154 = .ok (.iadd, 1) := by decide +kernel
theorem dL_law_155 : decode cL_law 155 = .ok (.iaload, 1) := by decide +kernel
theorem dL_law_156 : decode cL_law 156 = .ok (.aload_n 0, 1) := by decide +kernel
theorem dL_law_157 : decode cL_law 157 = .ok (.iload_n 3, 1) := by decide +kernel
theorem dL_law_158 : decode cL_law 158 = .ok (.iconst 2, 1) := by decide +kernel
theorem dL_law_159 : decode cL_law 159 = .ok (.iadd, 1) := by decide +kernel
theorem dL_law_160 : decode cL_law 160 = .ok (.iaload, 1) := by decide +kernel
theorem dL_law_161 : decode cL_law 161 = .ok (.invokevirtual 17, 3) := by decide +kernel
theorem dL_law_164 : decode cL_law 164 = .ok (.if_icmp .eq 539, 3) := by decide +kernel
theorem dL_law_167 : decode cL_law 167 = .ok (.iconst 0, 1) := by decide +kernel
theorem dL_law_168 : decode cL_law 168 = .ok (.ireturn, 1) := by decide +kernel
theorem dL_law_169 : decode cL_law 169 = .ok (.aload_n 1, 1) := by decide +kernel
theorem dL_law_170 : decode cL_law 170 = .ok (.aload_n 0, 1) := by decide +kernel
theorem dL_law_171 : decode cL_law 171 = .ok (.iload_n 3, 1) := by decide +kernel
theorem dL_law_172 : decode cL_law 172 = .ok (.iconst 1, 1) := by decide +kernel
theorem dL_law_173 : decode cL_law 173 = .ok (.iadd, 1) := by decide +kernel
theorem dL_law_174 : decode cL_law 174 = .ok (.iaload, 1) := by decide +kernel
theorem dL_law_175 : decode cL_law 175 = .ok (.invokevirtual 18, 3) := by decide +kernel
theorem dL_law_178 : decode cL_law 178 = .ok (.aload_n 2, 1) := by decide +kernel
theorem dL_law_179 : decode cL_law 179 = .ok (.aload_n 0, 1) := by decide +kernel
theorem dL_law_180 : decode cL_law 180 = .ok (.iload_n 3, 1) := by decide +kernel
theorem dL_law_181 : decode cL_law 181 = .ok (.iconst 1, 1) := by decide +kernel
theorem dL_law_182 : decode cL_law 182 = .ok (.iadd, 1) := by decide +kernel
theorem dL_law_183 : decode cL_law 183 = .ok (.iaload, 1) := by decide +kernel
theorem dL_law_184 : decode cL_law 184 = .ok (.invokevirtual 22, 3) := by decide +kernel
theorem dL_law_187 : decode cL_law 187 = .ok (.if_icmp .eq 516, 3) := by decide +kernel
theorem dL_law_190 : decode cL_law 190 = .ok (.iconst 0, 1) := by decide +kernel
theorem dL_law_191 : decode cL_law 191 = .ok (.ireturn, 1) := by decide +kernel
theorem dL_law_192 : decode cL_law 192 = .ok (.aload_n 1, 1) := by decide +kernel
theorem dL_law_193 : decode cL_law 193 = .ok (.aload_n 0, 1) := by decide +kernel
theorem dL_law_194 : decode cL_law 194 = .ok (.iload_n 3, 1) := by decide +kernel
theorem dL_law_195 : decode cL_law 195 = .ok (.iconst 1, 1) := by decide +kernel
theorem dL_law_196 : decode cL_law 196 = .ok (.iadd, 1) := by decide +kernel
theorem dL_law_197 : decode cL_law 197 = .ok (.iaload, 1) := by decide +kernel
theorem dL_law_198 : decode cL_law 198 = .ok (.invokevirtual 23, 3) := by decide +kernel
theorem dL_law_201 : decode cL_law 201 = .ok (.aload_n 2, 1) := by decide +kernel
theorem dL_law_202 : decode cL_law 202 = .ok (.aload_n 0, 1) := by decide +kernel
theorem dL_law_203 : decode cL_law 203 = .ok (.iload_n 3, 1) := by decide +kernel
theorem dL_law_204 : decode cL_law 204 = .ok (.iconst 1, 1) := by decide +kernel
theorem dL_law_205 : decode cL_law 205 = .ok (.iadd, 1) := by decide +kernel
theorem dL_law_206 : decode cL_law 206 = .ok (.iaload, 1) := by decide +kernel
theorem dL_law_207 : decode cL_law 207 = .ok (.invokevirtual 26, 3) := by decide +kernel
theorem dL_law_210 : decode cL_law 210 = .ok (.if_icmp .eq 493, 3) := by decide +kernel
theorem dL_law_213 : decode cL_law 213 = .ok (.iconst 0, 1) := by decide +kernel
theorem dL_law_214 : decode cL_law 214 = .ok (.ireturn, 1) := by decide +kernel
theorem dL_law_215 : decode cL_law 215 = .ok (.aload_n 1, 1) := by decide +kernel
theorem dL_law_216 : decode cL_law 216 = .ok (.aload_n 0, 1) := by decide +kernel
theorem dL_law_217 : decode cL_law 217 = .ok (.iload_n 3, 1) := by decide +kernel
theorem dL_law_218 : decode cL_law 218 = .ok (.iconst 1, 1) := by decide +kernel
theorem dL_law_219 : decode cL_law 219 = .ok (.iadd, 1) := by decide +kernel
theorem dL_law_220 : decode cL_law 220 = .ok (.iaload, 1) := by decide +kernel
theorem dL_law_221 : decode cL_law 221 = .ok (.aload_n 0, 1) := by decide +kernel
theorem dL_law_222 : decode cL_law 222 = .ok (.iload_n 3, 1) := by decide +kernel
theorem dL_law_223 : decode cL_law 223 = .ok (.iconst 2, 1) := by decide +kernel
theorem dL_law_224 : decode cL_law 224 = .ok (.iadd, 1) := by decide +kernel
theorem dL_law_225 : decode cL_law 225 = .ok (.iaload, 1) := by decide +kernel
theorem dL_law_226 : decode cL_law 226 = .ok (.invokevirtual 27, 3) := by decide +kernel
theorem dL_law_229 : decode cL_law 229 = .ok (.aload_n 2, 1) := by decide +kernel
theorem dL_law_230 : decode cL_law 230 = .ok (.aload_n 0, 1) := by decide +kernel
theorem dL_law_231 : decode cL_law 231 = .ok (.iload_n 3, 1) := by decide +kernel
theorem dL_law_232 : decode cL_law 232 = .ok (.iconst 1, 1) := by decide +kernel
theorem dL_law_233 : decode cL_law 233 = .ok (.iadd, 1) := by decide +kernel
theorem dL_law_234 : decode cL_law 234 = .ok (.iaload, 1) := by decide +kernel
theorem dL_law_235 : decode cL_law 235 = .ok (.aload_n 0, 1) := by decide +kernel
theorem dL_law_236 : decode cL_law 236 = .ok (.iload_n 3, 1) := by decide +kernel
theorem dL_law_237 : decode cL_law 237 = .ok (.iconst 2, 1) := by decide +kernel
theorem dL_law_238 : decode cL_law 238 = .ok (.iadd, 1) := by decide +kernel
theorem dL_law_239 : decode cL_law 239 = .ok (.iaload, 1) := by decide +kernel
theorem dL_law_240 : decode cL_law 240 = .ok (.invokevirtual 30, 3) := by decide +kernel
theorem dL_law_243 : decode cL_law 243 = .ok (.if_icmp .eq 460, 3) := by decide +kernel
theorem dL_law_246 : decode cL_law 246 = .ok (.iconst 0, 1) := by decide +kernel
theorem dL_law_247 : decode cL_law 247 = .ok (.ireturn, 1) := by decide +kernel
theorem dL_law_248 : decode cL_law 248 = .ok (.aload_n 1, 1) := by decide +kernel
theorem dL_law_249 : decode cL_law 249 = .ok (.aload_n 0, 1) := by decide +kernel
theorem dL_law_250 : decode cL_law 250 = .ok (.iload_n 3, 1) := by decide +kernel
theorem dL_law_251 : decode cL_law 251 = .ok (.iconst 1, 1) := by decide +kernel
theorem dL_law_252 : decode cL_law 252 = .ok (.iadd, 1) := by decide +kernel
theorem dL_law_253 : decode cL_law 253 = .ok (.iaload, 1) := by decide +kernel
theorem dL_law_254 : decode cL_law 254 = .ok (.aload_n 0, 1) := by decide +kernel
theorem dL_law_255 : decode cL_law 255 = .ok (.iload_n 3, 1) := by decide +kernel
theorem dL_law_256 : decode cL_law 256 = .ok (.iconst 2, 1) := by decide +kernel
theorem dL_law_257 : decode cL_law 257 = .ok (.iadd, 1) := by decide +kernel
theorem dL_law_258 : decode cL_law 258 = .ok (.iaload, 1) := by decide +kernel
theorem dL_law_259 : decode cL_law 259 = .ok (.invokevirtual 31, 3) := by decide +kernel
theorem dL_law_262 : decode cL_law 262 = .ok (.aload_n 2, 1) := by decide +kernel
theorem dL_law_263 : decode cL_law 263 = .ok (.aload_n 0, 1) := by decide +kernel
theorem dL_law_264 : decode cL_law 264 = .ok (.iload_n 3, 1) := by decide +kernel
theorem dL_law_265 : decode cL_law 265 = .ok (.iconst 1, 1) := by decide +kernel
theorem dL_law_266 : decode cL_law 266 = .ok (.iadd, 1) := by decide +kernel
theorem dL_law_267 : decode cL_law 267 = .ok (.iaload, 1) := by decide +kernel
theorem dL_law_268 : decode cL_law 268 = .ok (.aload_n 0, 1) := by decide +kernel
theorem dL_law_269 : decode cL_law 269 = .ok (.iload_n 3, 1) := by decide +kernel
theorem dL_law_270 : decode cL_law 270 = .ok (.iconst 2, 1) := by decide +kernel
theorem dL_law_271 : decode cL_law 271 = .ok (.iadd, 1) := by decide +kernel
theorem dL_law_272 : decode cL_law 272 = .ok (.iaload, 1) := by decide +kernel
theorem dL_law_273 : decode cL_law 273 = .ok (.invokevirtual 34, 3) := by decide +kernel
theorem dL_law_276 : decode cL_law 276 = .ok (.if_icmp .eq 427, 3) := by decide +kernel
theorem dL_law_279 : decode cL_law 279 = .ok (.iconst 0, 1) := by decide +kernel
theorem dL_law_280 : decode cL_law 280 = .ok (.ireturn, 1) := by decide +kernel
theorem dL_law_281 : decode cL_law 281 = .ok (.aload_n 1, 1) := by decide +kernel
theorem dL_law_282 : decode cL_law 282 = .ok (.aload_n 0, 1) := by decide +kernel
theorem dL_law_283 : decode cL_law 283 = .ok (.iload_n 3, 1) := by decide +kernel
theorem dL_law_284 : decode cL_law 284 = .ok (.iconst 1, 1) := by decide +kernel
theorem dL_law_285 : decode cL_law 285 = .ok (.iadd, 1) := by decide +kernel
theorem dL_law_286 : decode cL_law 286 = .ok (.iaload, 1) := by decide +kernel
theorem dL_law_287 : decode cL_law 287 = .ok (.aload_n 0, 1) := by decide +kernel
theorem dL_law_288 : decode cL_law 288 = .ok (.iload_n 3, 1) := by decide +kernel
theorem dL_law_289 : decode cL_law 289 = .ok (.iconst 2, 1) := by decide +kernel
theorem dL_law_290 : decode cL_law 290 = .ok (.iadd, 1) := by decide +kernel
theorem dL_law_291 : decode cL_law 291 = .ok (.iaload, 1) := by decide +kernel
theorem dL_law_292 : decode cL_law 292 = .ok (.invokevirtual 35, 3) := by decide +kernel
theorem dL_law_295 : decode cL_law 295 = .ok (.aload_n 2, 1) := by decide +kernel
theorem dL_law_296 : decode cL_law 296 = .ok (.aload_n 0, 1) := by decide +kernel
theorem dL_law_297 : decode cL_law 297 = .ok (.iload_n 3, 1) := by decide +kernel
theorem dL_law_298 : decode cL_law 298 = .ok (.iconst 1, 1) := by decide +kernel
theorem dL_law_299 : decode cL_law 299 = .ok (.iadd, 1) := by decide +kernel
theorem dL_law_300 : decode cL_law 300 = .ok (.iaload, 1) := by decide +kernel
theorem dL_law_301 : decode cL_law 301 = .ok (.aload_n 0, 1) := by decide +kernel
theorem dL_law_302 : decode cL_law 302 = .ok (.iload_n 3, 1) := by decide +kernel
theorem dL_law_303 : decode cL_law 303 = .ok (.iconst 2, 1) := by decide +kernel
theorem dL_law_304 : decode cL_law 304 = .ok (.iadd, 1) := by decide +kernel
theorem dL_law_305 : decode cL_law 305 = .ok (.iaload, 1) := by decide +kernel
theorem dL_law_306 : decode cL_law 306 = .ok (.invokevirtual 38, 3) := by decide +kernel
theorem dL_law_309 : decode cL_law 309 = .ok (.if_icmp .eq 394, 3) := by decide +kernel
theorem dL_law_312 : decode cL_law 312 = .ok (.iconst 0, 1) := by decide +kernel
theorem dL_law_313 : decode cL_law 313 = .ok (.ireturn, 1) := by decide +kernel
theorem dL_law_314 : decode cL_law 314 = .ok (.aload_n 1, 1) := by decide +kernel
theorem dL_law_315 : decode cL_law 315 = .ok (.aload_n 0, 1) := by decide +kernel
theorem dL_law_316 : decode cL_law 316 = .ok (.iload_n 3, 1) := by decide +kernel
theorem dL_law_317 : decode cL_law 317 = .ok (.iconst 1, 1) := by decide +kernel
theorem dL_law_318 : decode cL_law 318 = .ok (.iadd, 1) := by decide +kernel
theorem dL_law_319 : decode cL_law 319 = .ok (.iaload, 1) := by decide +kernel
theorem dL_law_320 : decode cL_law 320 = .ok (.invokevirtual 39, 3) := by decide +kernel
theorem dL_law_323 : decode cL_law 323 = .ok (.aload_n 2, 1) := by decide +kernel
theorem dL_law_324 : decode cL_law 324 = .ok (.aload_n 0, 1) := by decide +kernel
theorem dL_law_325 : decode cL_law 325 = .ok (.iload_n 3, 1) := by decide +kernel
theorem dL_law_326 : decode cL_law 326 = .ok (.iconst 1, 1) := by decide +kernel
theorem dL_law_327 : decode cL_law 327 = .ok (.iadd, 1) := by decide +kernel
theorem dL_law_328 : decode cL_law 328 = .ok (.iaload, 1) := by decide +kernel
theorem dL_law_329 : decode cL_law 329 = .ok (.invokevirtual 42, 3) := by decide +kernel
theorem dL_law_332 : decode cL_law 332 = .ok (.if_icmp .eq 371, 3) := by decide +kernel
theorem dL_law_335 : decode cL_law 335 = .ok (.iconst 0, 1) := by decide +kernel
theorem dL_law_336 : decode cL_law 336 = .ok (.ireturn, 1) := by decide +kernel
theorem dL_law_337 : decode cL_law 337 = .ok (.aload_n 1, 1) := by decide +kernel
theorem dL_law_338 : decode cL_law 338 = .ok (.aload_n 0, 1) := by decide +kernel
theorem dL_law_339 : decode cL_law 339 = .ok (.iload_n 3, 1) := by decide +kernel
theorem dL_law_340 : decode cL_law 340 = .ok (.iconst 1, 1) := by decide +kernel
theorem dL_law_341 : decode cL_law 341 = .ok (.iadd, 1) := by decide +kernel
theorem dL_law_342 : decode cL_law 342 = .ok (.iaload, 1) := by decide +kernel
theorem dL_law_343 : decode cL_law 343 = .ok (.invokevirtual 43, 3) := by decide +kernel
theorem dL_law_346 : decode cL_law 346 = .ok (.aload_n 2, 1) := by decide +kernel
theorem dL_law_347 : decode cL_law 347 = .ok (.aload_n 0, 1) := by decide +kernel
theorem dL_law_348 : decode cL_law 348 = .ok (.iload_n 3, 1) := by decide +kernel
theorem dL_law_349 : decode cL_law 349 = .ok (.iconst 1, 1) := by decide +kernel
theorem dL_law_350 : decode cL_law 350 = .ok (.iadd, 1) := by decide +kernel
theorem dL_law_351 : decode cL_law 351 = .ok (.iaload, 1) := by decide +kernel
theorem dL_law_352 : decode cL_law 352 = .ok (.invokevirtual 47, 3) := by decide +kernel
theorem dL_law_355 : decode cL_law 355 = .ok (.lcmp, 1) := by decide +kernel
theorem dL_law_356 : decode cL_law 356 = .ok (.ifCond .eq 347, 3) := by decide +kernel
theorem dL_law_359 : decode cL_law 359 = .ok (.iconst 0, 1) := by decide +kernel
theorem dL_law_360 : decode cL_law 360 = .ok (.ireturn, 1) := by decide +kernel
theorem dL_law_361 : decode cL_law 361 = .ok (.aload_n 1, 1) := by decide +kernel
theorem dL_law_362 : decode cL_law 362 = .ok (.aload_n 0, 1) := by decide +kernel
theorem dL_law_363 : decode cL_law 363 = .ok (.iload_n 3, 1) := by decide +kernel
theorem dL_law_364 : decode cL_law 364 = .ok (.iconst 1, 1) := by decide +kernel
theorem dL_law_365 : decode cL_law 365 = .ok (.iadd, 1) := by decide +kernel
theorem dL_law_366 : decode cL_law 366 = .ok (.iaload, 1) := by decide +kernel
theorem dL_law_367 : decode cL_law 367 = .ok (.invokevirtual 48, 3) := by decide +kernel
theorem dL_law_370 : decode cL_law 370 = .ok (.aload_n 2, 1) := by decide +kernel
theorem dL_law_371 : decode cL_law 371 = .ok (.aload_n 0, 1) := by decide +kernel
theorem dL_law_372 : decode cL_law 372 = .ok (.iload_n 3, 1) := by decide +kernel
theorem dL_law_373 : decode cL_law 373 = .ok (.iconst 1, 1) := by decide +kernel
theorem dL_law_374 : decode cL_law 374 = .ok (.iadd, 1) := by decide +kernel
theorem dL_law_375 : decode cL_law 375 = .ok (.iaload, 1) := by decide +kernel
theorem dL_law_376 : decode cL_law 376 = .ok (.invokevirtual 51, 3) := by decide +kernel
theorem dL_law_379 : decode cL_law 379 = .ok (.if_icmp .eq 324, 3) := by decide +kernel
theorem dL_law_382 : decode cL_law 382 = .ok (.iconst 0, 1) := by decide +kernel
theorem dL_law_383 : decode cL_law 383 = .ok (.ireturn, 1) := by decide +kernel
theorem dL_law_384 : decode cL_law 384 = .ok (.aload_n 1, 1) := by decide +kernel
theorem dL_law_385 : decode cL_law 385 = .ok (.aload_n 0, 1) := by decide +kernel
theorem dL_law_386 : decode cL_law 386 = .ok (.iload_n 3, 1) := by decide +kernel
theorem dL_law_387 : decode cL_law 387 = .ok (.iconst 1, 1) := by decide +kernel
theorem dL_law_388 : decode cL_law 388 = .ok (.iadd, 1) := by decide +kernel
theorem dL_law_389 : decode cL_law 389 = .ok (.iaload, 1) := by decide +kernel
theorem dL_law_390 : decode cL_law 390 = .ok (.aload_n 0, 1) := by decide +kernel
theorem dL_law_391 : decode cL_law 391 = .ok (.iload_n 3, 1) := by decide +kernel
theorem dL_law_392 : decode cL_law 392 = .ok (.iconst 2, 1) := by decide +kernel
theorem dL_law_393 : decode cL_law 393 = .ok (.iadd, 1) := by decide +kernel
theorem dL_law_394 : decode cL_law 394 = .ok (.iaload, 1) := by decide +kernel
theorem dL_law_395 : decode cL_law 395 = .ok (.invokevirtual 52, 3) := by decide +kernel
theorem dL_law_398 : decode cL_law 398 = .ok (.aload_n 2, 1) := by decide +kernel
theorem dL_law_399 : decode cL_law 399 = .ok (.aload_n 0, 1) := by decide +kernel
theorem dL_law_400 : decode cL_law 400 = .ok (.iload_n 3, 1) := by decide +kernel
theorem dL_law_401 : decode cL_law 401 = .ok (.iconst 1, 1) := by decide +kernel
theorem dL_law_402 : decode cL_law 402 = .ok (.iadd, 1) := by decide +kernel
theorem dL_law_403 : decode cL_law 403 = .ok (.iaload, 1) := by decide +kernel
theorem dL_law_404 : decode cL_law 404 = .ok (.aload_n 0, 1) := by decide +kernel
theorem dL_law_405 : decode cL_law 405 = .ok (.iload_n 3, 1) := by decide +kernel
theorem dL_law_406 : decode cL_law 406 = .ok (.iconst 2, 1) := by decide +kernel
theorem dL_law_407 : decode cL_law 407 = .ok (.iadd, 1) := by decide +kernel
theorem dL_law_408 : decode cL_law 408 = .ok (.iaload, 1) := by decide +kernel
theorem dL_law_409 : decode cL_law 409 = .ok (.invokevirtual 55, 3) := by decide +kernel
theorem dL_law_412 : decode cL_law 412 = .ok (.if_icmp .eq 291, 3) := by decide +kernel
theorem dL_law_415 : decode cL_law 415 = .ok (.iconst 0, 1) := by decide +kernel
theorem dL_law_416 : decode cL_law 416 = .ok (.ireturn, 1) := by decide +kernel
theorem dL_law_417 : decode cL_law 417 = .ok (.aload_n 1, 1) := by decide +kernel
theorem dL_law_418 : decode cL_law 418 = .ok (.aload_n 0, 1) := by decide +kernel
theorem dL_law_419 : decode cL_law 419 = .ok (.iload_n 3, 1) := by decide +kernel
theorem dL_law_420 : decode cL_law 420 = .ok (.iconst 1, 1) := by decide +kernel
theorem dL_law_421 : decode cL_law 421 = .ok (.iadd, 1) := by decide +kernel
theorem dL_law_422 : decode cL_law 422 = .ok (.iaload, 1) := by decide +kernel
theorem dL_law_423 : decode cL_law 423 = .ok (.aload_n 0, 1) := by decide +kernel
theorem dL_law_424 : decode cL_law 424 = .ok (.iload_n 3, 1) := by decide +kernel
theorem dL_law_425 : decode cL_law 425 = .ok (.iconst 2, 1) := by decide +kernel
theorem dL_law_426 : decode cL_law 426 = .ok (.iadd, 1) := by decide +kernel
theorem dL_law_427 : decode cL_law 427 = .ok (.iaload, 1) := by decide +kernel
theorem dL_law_428 : decode cL_law 428 = .ok (.invokevirtual 56, 3) := by decide +kernel
theorem dL_law_431 : decode cL_law 431 = .ok (.aload_n 2, 1) := by decide +kernel
theorem dL_law_432 : decode cL_law 432 = .ok (.aload_n 0, 1) := by decide +kernel
theorem dL_law_433 : decode cL_law 433 = .ok (.iload_n 3, 1) := by decide +kernel
theorem dL_law_434 : decode cL_law 434 = .ok (.iconst 1, 1) := by decide +kernel
theorem dL_law_435 : decode cL_law 435 = .ok (.iadd, 1) := by decide +kernel
theorem dL_law_436 : decode cL_law 436 = .ok (.iaload, 1) := by decide +kernel
theorem dL_law_437 : decode cL_law 437 = .ok (.aload_n 0, 1) := by decide +kernel
theorem dL_law_438 : decode cL_law 438 = .ok (.iload_n 3, 1) := by decide +kernel
theorem dL_law_439 : decode cL_law 439 = .ok (.iconst 2, 1) := by decide +kernel
theorem dL_law_440 : decode cL_law 440 = .ok (.iadd, 1) := by decide +kernel
theorem dL_law_441 : decode cL_law 441 = .ok (.iaload, 1) := by decide +kernel
theorem dL_law_442 : decode cL_law 442 = .ok (.invokevirtual 59, 3) := by decide +kernel
theorem dL_law_445 : decode cL_law 445 = .ok (.if_icmp .eq 258, 3) := by decide +kernel
theorem dL_law_448 : decode cL_law 448 = .ok (.iconst 0, 1) := by decide +kernel
theorem dL_law_449 : decode cL_law 449 = .ok (.ireturn, 1) := by decide +kernel
theorem dL_law_450 : decode cL_law 450 = .ok (.aload_n 1, 1) := by decide +kernel
theorem dL_law_451 : decode cL_law 451 = .ok (.aload_n 0, 1) := by decide +kernel
theorem dL_law_452 : decode cL_law 452 = .ok (.iload_n 3, 1) := by decide +kernel
theorem dL_law_453 : decode cL_law 453 = .ok (.iconst 1, 1) := by decide +kernel
theorem dL_law_454 : decode cL_law 454 = .ok (.iadd, 1) := by decide +kernel
theorem dL_law_455 : decode cL_law 455 = .ok (.iaload, 1) := by decide +kernel
theorem dL_law_456 : decode cL_law 456 = .ok (.aload_n 0, 1) := by decide +kernel
theorem dL_law_457 : decode cL_law 457 = .ok (.iload_n 3, 1) := by decide +kernel
theorem dL_law_458 : decode cL_law 458 = .ok (.iconst 2, 1) := by decide +kernel
theorem dL_law_459 : decode cL_law 459 = .ok (.iadd, 1) := by decide +kernel
theorem dL_law_460 : decode cL_law 460 = .ok (.iaload, 1) := by decide +kernel
theorem dL_law_461 : decode cL_law 461 = .ok (.invokevirtual 60, 3) := by decide +kernel
theorem dL_law_464 : decode cL_law 464 = .ok (.aload_n 2, 1) := by decide +kernel
theorem dL_law_465 : decode cL_law 465 = .ok (.aload_n 0, 1) := by decide +kernel
theorem dL_law_466 : decode cL_law 466 = .ok (.iload_n 3, 1) := by decide +kernel
theorem dL_law_467 : decode cL_law 467 = .ok (.iconst 1, 1) := by decide +kernel
theorem dL_law_468 : decode cL_law 468 = .ok (.iadd, 1) := by decide +kernel
theorem dL_law_469 : decode cL_law 469 = .ok (.iaload, 1) := by decide +kernel
theorem dL_law_470 : decode cL_law 470 = .ok (.aload_n 0, 1) := by decide +kernel
theorem dL_law_471 : decode cL_law 471 = .ok (.iload_n 3, 1) := by decide +kernel
theorem dL_law_472 : decode cL_law 472 = .ok (.iconst 2, 1) := by decide +kernel
theorem dL_law_473 : decode cL_law 473 = .ok (.iadd, 1) := by decide +kernel
theorem dL_law_474 : decode cL_law 474 = .ok (.iaload, 1) := by decide +kernel
theorem dL_law_475 : decode cL_law 475 = .ok (.invokevirtual 63, 3) := by decide +kernel
theorem dL_law_478 : decode cL_law 478 = .ok (.if_icmp .eq 225, 3) := by decide +kernel
theorem dL_law_481 : decode cL_law 481 = .ok (.iconst 0, 1) := by decide +kernel
theorem dL_law_482 : decode cL_law 482 = .ok (.ireturn, 1) := by decide +kernel
theorem dL_law_483 : decode cL_law 483 = .ok (.aload_n 1, 1) := by decide +kernel
theorem dL_law_484 : decode cL_law 484 = .ok (.aload_n 0, 1) := by decide +kernel
theorem dL_law_485 : decode cL_law 485 = .ok (.iload_n 3, 1) := by decide +kernel
theorem dL_law_486 : decode cL_law 486 = .ok (.iconst 1, 1) := by decide +kernel
theorem dL_law_487 : decode cL_law 487 = .ok (.iadd, 1) := by decide +kernel
theorem dL_law_488 : decode cL_law 488 = .ok (.iaload, 1) := by decide +kernel
theorem dL_law_489 : decode cL_law 489 = .ok (.aload_n 0, 1) := by decide +kernel
theorem dL_law_490 : decode cL_law 490 = .ok (.iload_n 3, 1) := by decide +kernel
theorem dL_law_491 : decode cL_law 491 = .ok (.iconst 2, 1) := by decide +kernel
theorem dL_law_492 : decode cL_law 492 = .ok (.iadd, 1) := by decide +kernel
theorem dL_law_493 : decode cL_law 493 = .ok (.iaload, 1) := by decide +kernel
theorem dL_law_494 : decode cL_law 494 = .ok (.invokevirtual 64, 3) := by decide +kernel
theorem dL_law_497 : decode cL_law 497 = .ok (.aload_n 2, 1) := by decide +kernel
theorem dL_law_498 : decode cL_law 498 = .ok (.aload_n 0, 1) := by decide +kernel
theorem dL_law_499 : decode cL_law 499 = .ok (.iload_n 3, 1) := by decide +kernel
theorem dL_law_500 : decode cL_law 500 = .ok (.iconst 1, 1) := by decide +kernel
theorem dL_law_501 : decode cL_law 501 = .ok (.iadd, 1) := by decide +kernel
theorem dL_law_502 : decode cL_law 502 = .ok (.iaload, 1) := by decide +kernel
theorem dL_law_503 : decode cL_law 503 = .ok (.aload_n 0, 1) := by decide +kernel
theorem dL_law_504 : decode cL_law 504 = .ok (.iload_n 3, 1) := by decide +kernel
theorem dL_law_505 : decode cL_law 505 = .ok (.iconst 2, 1) := by decide +kernel
theorem dL_law_506 : decode cL_law 506 = .ok (.iadd, 1) := by decide +kernel
theorem dL_law_507 : decode cL_law 507 = .ok (.iaload, 1) := by decide +kernel
theorem dL_law_508 : decode cL_law 508 = .ok (.invokevirtual 67, 3) := by decide +kernel
theorem dL_law_511 : decode cL_law 511 = .ok (.if_icmp .eq 192, 3) := by decide +kernel
theorem dL_law_514 : decode cL_law 514 = .ok (.iconst 0, 1) := by decide +kernel
theorem dL_law_515 : decode cL_law 515 = .ok (.ireturn, 1) := by decide +kernel
theorem dL_law_516 : decode cL_law 516 = .ok (.aload_n 1, 1) := by decide +kernel
theorem dL_law_517 : decode cL_law 517 = .ok (.aload_n 0, 1) := by decide +kernel
theorem dL_law_518 : decode cL_law 518 = .ok (.iload_n 3, 1) := by decide +kernel
theorem dL_law_519 : decode cL_law 519 = .ok (.iconst 1, 1) := by decide +kernel
theorem dL_law_520 : decode cL_law 520 = .ok (.iadd, 1) := by decide +kernel
theorem dL_law_521 : decode cL_law 521 = .ok (.iaload, 1) := by decide +kernel
theorem dL_law_522 : decode cL_law 522 = .ok (.invokevirtual 68, 3) := by decide +kernel
theorem dL_law_525 : decode cL_law 525 = .ok (.aload_n 2, 1) := by decide +kernel
theorem dL_law_526 : decode cL_law 526 = .ok (.aload_n 0, 1) := by decide +kernel
theorem dL_law_527 : decode cL_law 527 = .ok (.iload_n 3, 1) := by decide +kernel
theorem dL_law_528 : decode cL_law 528 = .ok (.iconst 1, 1) := by decide +kernel
theorem dL_law_529 : decode cL_law 529 = .ok (.iadd, 1) := by decide +kernel
theorem dL_law_530 : decode cL_law 530 = .ok (.iaload, 1) := by decide +kernel
theorem dL_law_531 : decode cL_law 531 = .ok (.invokevirtual 71, 3) := by decide +kernel
theorem dL_law_534 : decode cL_law 534 = .ok (.if_icmp .eq 169, 3) := by decide +kernel
theorem dL_law_537 : decode cL_law 537 = .ok (.iconst 0, 1) := by decide +kernel
theorem dL_law_538 : decode cL_law 538 = .ok (.ireturn, 1) := by decide +kernel
theorem dL_law_539 : decode cL_law 539 = .ok (.aload_n 1, 1) := by decide +kernel
theorem dL_law_540 : decode cL_law 540 = .ok (.invokevirtual 72, 3) := by decide +kernel
theorem dL_law_543 : decode cL_law 543 = .ok (.aload_n 2, 1) := by decide +kernel
theorem dL_law_544 : decode cL_law 544 = .ok (.invokevirtual 76, 3) := by decide +kernel
theorem dL_law_547 : decode cL_law 547 = .ok (.if_icmp .eq 156, 3) := by decide +kernel
theorem dL_law_550 : decode cL_law 550 = .ok (.iconst 0, 1) := by decide +kernel
theorem dL_law_551 : decode cL_law 551 = .ok (.ireturn, 1) := by decide +kernel
theorem dL_law_552 : decode cL_law 552 = .ok (.aload_n 1, 1) := by decide +kernel
theorem dL_law_553 : decode cL_law 553 = .ok (.aload_n 0, 1) := by decide +kernel
theorem dL_law_554 : decode cL_law 554 = .ok (.iload_n 3, 1) := by decide +kernel
theorem dL_law_555 : decode cL_law 555 = .ok (.iconst 1, 1) := by decide +kernel
theorem dL_law_556 : decode cL_law 556 = .ok (.iadd, 1) := by decide +kernel
theorem dL_law_557 : decode cL_law 557 = .ok (.iaload, 1) := by decide +kernel
theorem dL_law_558 : decode cL_law 558 = .ok (.i2l, 1) := by decide +kernel
theorem dL_law_559 : decode cL_law 559 = .ok (.bipush 32, 2) := by decide +kernel
theorem dL_law_561 : decode cL_law 561 = .ok (.lshl, 1) := by decide +kernel
theorem dL_law_562 : decode cL_law 562 = .ok (.aload_n 0, 1) := by decide +kernel
theorem dL_law_563 : decode cL_law 563 = .ok (.iload_n 3, 1) := by decide +kernel
theorem dL_law_564 : decode cL_law 564 = .ok (.iconst 2, 1) := by decide +kernel
theorem dL_law_565 : decode cL_law 565 = .ok (.iadd, 1) := by decide +kernel
theorem dL_law_566 : decode cL_law 566 = .ok (.iaload, 1) := by decide +kernel
theorem dL_law_567 : decode cL_law 567 = .ok (.i2l, 1) := by decide +kernel
theorem dL_law_568 : decode cL_law 568 = .ok (.ldc2_w 77, 3) := by decide +kernel
theorem dL_law_571 : decode cL_law 571 = .ok (.land, 1) := by decide +kernel
theorem dL_law_572 : decode cL_law 572 = .ok (.lor, 1) := by decide +kernel
theorem dL_law_573 : decode cL_law 573 = .ok (.invokevirtual 79, 3) := by decide +kernel
theorem dL_law_576 : decode cL_law 576 = .ok (.aload_n 2, 1) := by decide +kernel
theorem dL_law_577 : decode cL_law 577 = .ok (.aload_n 0, 1) := by decide +kernel
theorem dL_law_578 : decode cL_law 578 = .ok (.iload_n 3, 1) := by decide +kernel
theorem dL_law_579 : decode cL_law 579 = .ok (.iconst 1, 1) := by decide +kernel
theorem dL_law_580 : decode cL_law 580 = .ok (.iadd, 1) := by decide +kernel
theorem dL_law_581 : decode cL_law 581 = .ok (.iaload, 1) := by decide +kernel
theorem dL_law_582 : decode cL_law 582 = .ok (.i2l, 1) := by decide +kernel
theorem dL_law_583 : decode cL_law 583 = .ok (.bipush 32, 2) := by decide +kernel
theorem dL_law_585 : decode cL_law 585 = .ok (.lshl, 1) := by decide +kernel
theorem dL_law_586 : decode cL_law 586 = .ok (.aload_n 0, 1) := by decide +kernel
theorem dL_law_587 : decode cL_law 587 = .ok (.iload_n 3, 1) := by decide +kernel
theorem dL_law_588 : decode cL_law 588 = .ok (.iconst 2, 1) := by decide +kernel
theorem dL_law_589 : decode cL_law 589 = .ok (.iadd, 1) := by decide +kernel
theorem dL_law_590 : decode cL_law 590 = .ok (.iaload, 1) := by decide +kernel
theorem dL_law_591 : decode cL_law 591 = .ok (.i2l, 1) := by decide +kernel
theorem dL_law_592 : decode cL_law 592 = .ok (.ldc2_w 77, 3) := by decide +kernel
theorem dL_law_595 : decode cL_law 595 = .ok (.land, 1) := by decide +kernel
theorem dL_law_596 : decode cL_law 596 = .ok (.lor, 1) := by decide +kernel
theorem dL_law_597 : decode cL_law 597 = .ok (.invokevirtual 83, 3) := by decide +kernel
theorem dL_law_600 : decode cL_law 600 = .ok (.if_icmp .eq 103, 3) := by decide +kernel
theorem dL_law_603 : decode cL_law 603 = .ok (.iconst 0, 1) := by decide +kernel
theorem dL_law_604 : decode cL_law 604 = .ok (.ireturn, 1) := by decide +kernel
theorem dL_law_605 : decode cL_law 605 = .ok (.aload_n 1, 1) := by decide +kernel
theorem dL_law_606 : decode cL_law 606 = .ok (.invokevirtual 84, 3) := by decide +kernel
theorem dL_law_609 : decode cL_law 609 = .ok (.aload_n 2, 1) := by decide +kernel
theorem dL_law_610 : decode cL_law 610 = .ok (.invokevirtual 87, 3) := by decide +kernel
theorem dL_law_613 : decode cL_law 613 = .ok (.if_icmp .eq 90, 3) := by decide +kernel
theorem dL_law_616 : decode cL_law 616 = .ok (.iconst 0, 1) := by decide +kernel
theorem dL_law_617 : decode cL_law 617 = .ok (.ireturn, 1) := by decide +kernel
theorem dL_law_618 : decode cL_law 618 = .ok (.aload_n 1, 1) := by decide +kernel
theorem dL_law_619 : decode cL_law 619 = .ok (.invokevirtual 88, 3) := by decide +kernel
theorem dL_law_622 : decode cL_law 622 = .ok (.aload_n 2, 1) := by decide +kernel
theorem dL_law_623 : decode cL_law 623 = .ok (.invokevirtual 91, 3) := by decide +kernel
theorem dL_law_626 : decode cL_law 626 = .ok (.if_icmp .eq 77, 3) := by decide +kernel
theorem dL_law_629 : decode cL_law 629 = .ok (.iconst 0, 1) := by decide +kernel
theorem dL_law_630 : decode cL_law 630 = .ok (.ireturn, 1) := by decide +kernel
theorem dL_law_631 : decode cL_law 631 = .ok (.aload_n 1, 1) := by decide +kernel
theorem dL_law_632 : decode cL_law 632 = .ok (.invokevirtual 92, 3) := by decide +kernel
theorem dL_law_635 : decode cL_law 635 = .ok (.aload_n 2, 1) := by decide +kernel
theorem dL_law_636 : decode cL_law 636 = .ok (.invokevirtual 95, 3) := by decide +kernel
theorem dL_law_639 : decode cL_law 639 = .ok (.if_icmp .eq 64, 3) := by decide +kernel
theorem dL_law_642 : decode cL_law 642 = .ok (.iconst 0, 1) := by decide +kernel
theorem dL_law_643 : decode cL_law 643 = .ok (.ireturn, 1) := by decide +kernel
theorem dL_law_644 : decode cL_law 644 = .ok (.aload_n 1, 1) := by decide +kernel
theorem dL_law_645 : decode cL_law 645 = .ok (.invokevirtual 96, 3) := by decide +kernel
theorem dL_law_648 : decode cL_law 648 = .ok (.aload_n 2, 1) := by decide +kernel
theorem dL_law_649 : decode cL_law 649 = .ok (.invokevirtual 99, 3) := by decide +kernel
theorem dL_law_652 : decode cL_law 652 = .ok (.if_icmp .eq 51, 3) := by decide +kernel
theorem dL_law_655 : decode cL_law 655 = .ok (.iconst 0, 1) := by decide +kernel
theorem dL_law_656 : decode cL_law 656 = .ok (.ireturn, 1) := by decide +kernel
theorem dL_law_657 : decode cL_law 657 = .ok (.aload_n 1, 1) := by decide +kernel
theorem dL_law_658 : decode cL_law 658 = .ok (.aload_n 0, 1) := by decide +kernel
theorem dL_law_659 : decode cL_law 659 = .ok (.iload_n 3, 1) := by decide +kernel
theorem dL_law_660 : decode cL_law 660 = .ok (.iconst 1, 1) := by decide +kernel
theorem dL_law_661 : decode cL_law 661 = .ok (.iadd, 1) := by decide +kernel
theorem dL_law_662 : decode cL_law 662 = .ok (.iaload, 1) := by decide +kernel
theorem dL_law_663 : decode cL_law 663 = .ok (.invokevirtual 100, 3) := by decide +kernel
theorem dL_law_666 : decode cL_law 666 = .ok (.aload_n 2, 1) := by decide +kernel
theorem dL_law_667 : decode cL_law 667 = .ok (.aload_n 0, 1) := by decide +kernel
theorem dL_law_668 : decode cL_law 668 = .ok (.iload_n 3, 1) := by decide +kernel
theorem dL_law_669 : decode cL_law 669 = .ok (.iconst 1, 1) := by decide +kernel
theorem dL_law_670 : decode cL_law 670 = .ok (.iadd, 1) := by decide +kernel
theorem dL_law_671 : decode cL_law 671 = .ok (.iaload, 1) := by decide +kernel
theorem dL_law_672 : decode cL_law 672 = .ok (.invokevirtual 103, 3) := by decide +kernel
theorem dL_law_675 : decode cL_law 675 = .ok (.if_icmp .eq 28, 3) := by decide +kernel
theorem dL_law_678 : decode cL_law 678 = .ok (.iconst 0, 1) := by decide +kernel
theorem dL_law_679 : decode cL_law 679 = .ok (.ireturn, 1) := by decide +kernel
theorem dL_law_680 : decode cL_law 680 = .ok (.aload_n 1, 1) := by decide +kernel
theorem dL_law_681 : decode cL_law 681 = .ok (.aload_n 0, 1) := by decide +kernel
theorem dL_law_682 : decode cL_law 682 = .ok (.iload_n 3, 1) := by decide +kernel
theorem dL_law_683 : decode cL_law 683 = .ok (.iconst 1, 1) := by decide +kernel
theorem dL_law_684 : decode cL_law 684 = .ok (.iadd, 1) := by decide +kernel
theorem dL_law_685 : decode cL_law 685 = .ok (.iaload, 1) := by decide +kernel
theorem dL_law_686 : decode cL_law 686 = .ok (.invokevirtual 104, 3) := by decide +kernel
theorem dL_law_689 : decode cL_law 689 = .ok (.aload_n 2, 1) := by decide +kernel
theorem dL_law_690 : decode cL_law 690 = .ok (.aload_n 0, 1) := by decide +kernel
theorem dL_law_691 : decode cL_law 691 = .ok (.iload_n 3, 1) := by decide +kernel
theorem dL_law_692 : decode cL_law 692 = .ok (.iconst 1, 1) := by decide +kernel
theorem dL_law_693 : decode cL_law 693 = .ok (.iadd, 1) := by decide +kernel
theorem dL_law_694 : decode cL_law 694 = .ok (.iaload, 1) := by decide +kernel
theorem dL_law_695 : decode cL_law 695 = .ok (.invokevirtual 107, 3) := by decide +kernel
theorem dL_law_698 : decode cL_law 698 = .ok (.if_icmp .eq 5, 3) := by decide +kernel
theorem dL_law_701 : decode cL_law 701 = .ok (.iconst 0, 1) := by decide +kernel
theorem dL_law_702 : decode cL_law 702 = .ok (.ireturn, 1) := by decide +kernel
theorem dL_law_703 : decode cL_law 703 = .ok (.iinc 3 3, 3) := by decide +kernel
theorem dL_law_706 : decode cL_law 706 = .ok (.goto (-688), 3) := by decide +kernel
theorem dL_law_709 : decode cL_law 709 = .ok (.iconst 1, 1) := by decide +kernel
theorem dL_law_710 : decode cL_law 710 = .ok (.ireturn, 1) := by decide +kernel
section ZL
variable {p : Program} {l : Launch} {e : Env} {s : State} {m : MethodId} {below : List Frame} {meth : Method} {c : Code} {H : Heap} {locs : List Loc} {cells slots : Nat} {D : va_G} {cA : ClassId} {ls : Array Slot} {lv : List (Nat × Value)} {rest : List Value} {ws : va_W} {b L : Nat} {xs : Nat → Int32} {Q : State → Prop}
theorem z_slen (pc : Nat) (X : zX D cA p s m #[Value.ref b] meth c code 4 RL ret) (d : decode code pc = .ok (.arraylength, 1)) (hw : zH D (fun q => s.heap.size ≤ q) s ws H locs) (hS : va_X b L xs s s.heap ∧ b < s.heap.size) (kk : W p l e room_1 s m #[Value.ref b] below meth c H locs cells slots Q (F0 m (pc + 1) ls (.int (Int32.ofNat L) :: rest))) : W p l e room_1 s m #[Value.ref b] below meth c H locs cells slots Q (F0 m pc ls (.ref b :: rest)) :=
  va_slen X.1.1 X.1.2.1 hS.1 hS.2 (Nat.not_le.mpr hS.2) hw.2.2.1 d kk
theorem z_sld (pc : Nat) {i : Int32} (X : zX D cA p s m #[Value.ref b] meth c code 4 RL ret) (d : decode code pc = .ok (.iaload, 1)) (hw : zH D (fun q => s.heap.size ≤ q) s ws H locs) (hS : va_X b L xs s s.heap ∧ b < s.heap.size) (hin : ¬ (i < 0 ∨ L ≤ i.toNatClampNeg)) (kk : W p l e room_1 s m #[Value.ref b] below meth c H locs cells slots Q (F0 m (pc + 1) ls (.int (xs i.toNatClampNeg) :: rest))) : W p l e room_1 s m #[Value.ref b] below meth c H locs cells slots Q (F0 m pc ls (.int i :: .ref b :: rest)) :=
  va_sld X.1.1 X.1.2.1 hS.1 hS.2 (Nat.not_le.mpr hS.2) hw.2.2.1 hin d kk
theorem z_lawret (pc : Nat) (X : zX D cA p s m #[Value.ref b] meth c code 4 RL ret) (hw : zH D (fun q => s.heap.size ≤ q) s ws H locs) (d : decode code pc = .ok (.ireturn, 1)) : W p l e room_1 s m #[Value.ref b] below meth c H locs 36 8413 (lw_Z below #[Value.ref b] s) (F0 m pc ls [.int 1]) :=
  va_forget (fun q hq => hw.2.2.1.2.2 q hq) (W.widen (Nat.le_of_ble_eq_true rfl) (Nat.le_of_ble_eq_true rfl) (lw_ret X.1.1 X.1.2.1 X.2.2.2.2 X.2.2.2.1 d))
end ZL
