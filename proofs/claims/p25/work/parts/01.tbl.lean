-- ===== PART A: goes FIRST, ahead of the names: the tables' words, and 'selects' of the private methods out of them =====
/-- a private method of a class that the tables say can be made, by its rows of tables_1 -/
def lw_okq (q : MethodName × Nat) : Prop := (q.1.cls ≠ "java/lang/invoke/MethodHandle" ∧ q.1.cls ≠ "java/lang/invoke/VarHandle") ∧ Cond.instantiable q.1.cls q.2 ∈ tables_1 ∧ Cond.privateMethod q.1 ∈ tables_1 ∧ Cond.instanceMethod q.1 ∈ tables_1
theorem lw_p0 : lw_okq (⟨"RiceBlocks", "allEscapes", "()I"⟩, 6) := ⟨⟨by decide +kernel, by decide +kernel⟩, List.mem_of_getElem? (i := 12) (by decide +kernel), List.mem_of_getElem? (i := 218) (by decide +kernel), List.mem_of_getElem? (i := 219) (by decide +kernel)⟩
theorem lw_p1 : lw_okq (⟨"RiceBlocks", "escapesIn", "(III)I"⟩, 6) := ⟨⟨by decide +kernel, by decide +kernel⟩, List.mem_of_getElem? (i := 12) (by decide +kernel), List.mem_of_getElem? (i := 238) (by decide +kernel), List.mem_of_getElem? (i := 239) (by decide +kernel)⟩
theorem lw_p2 : lw_okq (⟨"RiceBlocks", "greatestExponent", "()I"⟩, 6) := ⟨⟨by decide +kernel, by decide +kernel⟩, List.mem_of_getElem? (i := 12) (by decide +kernel), List.mem_of_getElem? (i := 258) (by decide +kernel), List.mem_of_getElem? (i := 259) (by decide +kernel)⟩
theorem lw_p3 : lw_okq (⟨"RiceBlocks", "readUpTo", "(II)I"⟩, 6) := ⟨⟨by decide +kernel, by decide +kernel⟩, List.mem_of_getElem? (i := 12) (by decide +kernel), List.mem_of_getElem? (i := 281) (by decide +kernel), List.mem_of_getElem? (i := 282) (by decide +kernel)⟩
theorem lw_p4 : lw_okq (⟨"RiceBlocks", "openBlock", "(I)V"⟩, 6) := ⟨⟨by decide +kernel, by decide +kernel⟩, List.mem_of_getElem? (i := 12) (by decide +kernel), List.mem_of_getElem? (i := 285) (by decide +kernel), List.mem_of_getElem? (i := 286) (by decide +kernel)⟩
theorem lw_p5 : lw_okq (⟨"RiceBlocks$Stream", "readBits", "(I)I"⟩, 6) := ⟨⟨by decide +kernel, by decide +kernel⟩, List.mem_of_getElem? (i := 82) (by decide +kernel), List.mem_of_getElem? (i := 298) (by decide +kernel), List.mem_of_getElem? (i := 299) (by decide +kernel)⟩
theorem lw_p6 : lw_okq (⟨"RiceBlocks$Stream", "readGap", "(I)I"⟩, 6) := ⟨⟨by decide +kernel, by decide +kernel⟩, List.mem_of_getElem? (i := 82) (by decide +kernel), List.mem_of_getElem? (i := 315) (by decide +kernel), List.mem_of_getElem? (i := 316) (by decide +kernel)⟩
theorem lw_p7 : lw_okq (⟨"RiceBlocks", "addNumber", "(I)I"⟩, 6) := ⟨⟨by decide +kernel, by decide +kernel⟩, List.mem_of_getElem? (i := 12) (by decide +kernel), List.mem_of_getElem? (i := 340) (by decide +kernel), List.mem_of_getElem? (i := 341) (by decide +kernel)⟩
theorem lw_p8 : lw_okq (⟨"RiceBlocks", "settle", "(I)I"⟩, 6) := ⟨⟨by decide +kernel, by decide +kernel⟩, List.mem_of_getElem? (i := 12) (by decide +kernel), List.mem_of_getElem? (i := 361) (by decide +kernel), List.mem_of_getElem? (i := 362) (by decide +kernel)⟩
theorem lw_p9 : lw_okq (⟨"RiceBlocks$Coding", "codeBlock", "(LRiceBlocks$Row;I)V"⟩, 4) := ⟨⟨by decide +kernel, by decide +kernel⟩, List.mem_of_getElem? (i := 61) (by decide +kernel), List.mem_of_getElem? (i := 385) (by decide +kernel), List.mem_of_getElem? (i := 386) (by decide +kernel)⟩
theorem lw_p10 : lw_okq (⟨"RiceBlocks", "dropNumber", "(I)I"⟩, 6) := ⟨⟨by decide +kernel, by decide +kernel⟩, List.mem_of_getElem? (i := 12) (by decide +kernel), List.mem_of_getElem? (i := 422) (by decide +kernel), List.mem_of_getElem? (i := 423) (by decide +kernel)⟩
theorem lw_p11 : lw_okq (⟨"RiceBlocks", "changeSetting", "(II)I"⟩, 6) := ⟨⟨by decide +kernel, by decide +kernel⟩, List.mem_of_getElem? (i := 12) (by decide +kernel), List.mem_of_getElem? (i := 476) (by decide +kernel), List.mem_of_getElem? (i := 477) (by decide +kernel)⟩
theorem lw_p12 : lw_okq (⟨"RiceBlocks", "greatestGap", "(II)I"⟩, 6) := ⟨⟨by decide +kernel, by decide +kernel⟩, List.mem_of_getElem? (i := 12) (by decide +kernel), List.mem_of_getElem? (i := 492) (by decide +kernel), List.mem_of_getElem? (i := 493) (by decide +kernel)⟩
def lw_privs_1 : List (MethodName × Nat) := [(⟨"RiceBlocks", "allEscapes", "()I"⟩, 6), (⟨"RiceBlocks", "escapesIn", "(III)I"⟩, 6), (⟨"RiceBlocks", "greatestExponent", "()I"⟩, 6), (⟨"RiceBlocks", "readUpTo", "(II)I"⟩, 6), (⟨"RiceBlocks", "openBlock", "(I)V"⟩, 6), (⟨"RiceBlocks$Stream", "readBits", "(I)I"⟩, 6), (⟨"RiceBlocks$Stream", "readGap", "(I)I"⟩, 6), (⟨"RiceBlocks", "addNumber", "(I)I"⟩, 6), (⟨"RiceBlocks", "settle", "(I)I"⟩, 6), (⟨"RiceBlocks$Coding", "codeBlock", "(LRiceBlocks$Row;I)V"⟩, 4), (⟨"RiceBlocks", "dropNumber", "(I)I"⟩, 6), (⟨"RiceBlocks", "changeSetting", "(II)I"⟩, 6), (⟨"RiceBlocks", "greatestGap", "(II)I"⟩, 6)]
theorem lw_r1 : ∀ q ∈ lw_privs_1, lw_okq q := List.forall_mem_cons.mpr ⟨lw_p0, List.forall_mem_cons.mpr ⟨lw_p1, List.forall_mem_cons.mpr ⟨lw_p2, List.forall_mem_cons.mpr ⟨lw_p3, List.forall_mem_cons.mpr ⟨lw_p4, List.forall_mem_cons.mpr ⟨lw_p5, List.forall_mem_cons.mpr ⟨lw_p6, List.forall_mem_cons.mpr ⟨lw_p7, List.forall_mem_cons.mpr ⟨lw_p8, List.forall_mem_cons.mpr ⟨lw_p9, List.forall_mem_cons.mpr ⟨lw_p10, List.forall_mem_cons.mpr ⟨lw_p11, List.forall_mem_cons.mpr ⟨lw_p12, fun _ h => absurd h List.not_mem_nil⟩⟩⟩⟩⟩⟩⟩⟩⟩⟩⟩⟩⟩
def lw_privs : List (MethodName × Nat) := lw_privs_1
def lw_tbl : List Cond := k2_sels lw_privs ++ tables_1
theorem lw_privs_ok : ∀ q ∈ lw_privs, lw_okq q := lw_r1
def RX0 : String := "RiceBlocks$Cells"
def TX0 : u_T := fun k => match k with
  | _ => ("RiceBlocks$Cells", "cells", "[I", true)
def tyX0 : Nat → FieldType := fun k => match k with
  | _ => .array .int
abbrev wsX00 : List Cond := u_ws RX0 TX0 1
theorem nmX0 : ∀ a, a < 1 → ∀ b, b < 1 → a ≠ b → (TX0 a).2.1 ≠ (TX0 b).2.1 := by decide +kernel
theorem tyX0_ok : ∀ k, k < 1 → parseFieldDescriptor (TX0 k).2.2.1 = some (tyX0 k) := by decide +kernel
abbrev cX0_init : ByteArray := prog_2_method_1_code
def yX0_init : MethodName := ⟨RX0, "<init>", "(I)V"⟩
abbrev cX0_read : ByteArray := prog_2_method_2_code
def yX0_read : MethodName := ⟨RX0, "read", "(I)I"⟩
abbrev cX0_write : ByteArray := prog_2_method_3_code
def yX0_write : MethodName := ⟨RX0, "write", "(II)V"⟩
def RX1 : String := "RiceBlocks$Coding"
def TX1 : u_T := fun k => match k with
  | 0 => ("RiceBlocks$Coding", "prices", "LRiceBlocks$Prices;", true)
  | 1 => ("RiceBlocks$Coding", "stream", "LRiceBlocks$Stream;", true)
  | 2 => ("RiceBlocks$Coding", "exponents", "LRiceBlocks$Cells;", true)
  | _ => ("RiceBlocks$Coding", "skips", "LRiceBlocks$Cells;", true)
def tyX1 : Nat → FieldType := fun k => match k with
  | 0 => .object "RiceBlocks$Prices"
  | 1 => .object "RiceBlocks$Stream"
  | 2 => .object "RiceBlocks$Cells"
  | _ => .object "RiceBlocks$Cells"
abbrev wsX10 : List Cond := u_ws RX1 TX1 4
theorem nmX1 : ∀ a, a < 4 → ∀ b, b < 4 → a ≠ b → (TX1 a).2.1 ≠ (TX1 b).2.1 := by decide +kernel
theorem tyX1_ok : ∀ k, k < 4 → parseFieldDescriptor (TX1 k).2.2.1 = some (tyX1 k) := by decide +kernel
abbrev cX1_init : ByteArray := prog_3_method_1_code
def yX1_init : MethodName := ⟨RX1, "<init>", "()V"⟩
abbrev cX1_codeAnew : ByteArray := prog_3_method_2_code
def yX1_codeAnew : MethodName := ⟨RX1, "codeAnew", "(LRiceBlocks$Row;)V"⟩
abbrev cX1_codeStart : ByteArray := prog_3_method_3_code
def yX1_codeStart : MethodName := ⟨RX1, "codeStart", "(LRiceBlocks$Row;I)I"⟩
abbrev cX1_codeBlock : ByteArray := prog_3_method_4_code
def yX1_codeBlock : MethodName := ⟨RX1, "codeBlock", "(LRiceBlocks$Row;I)V"⟩
def RX2 : String := "RiceBlocks$History"
def TX2 : u_T := fun k => match k with
  | 0 => ("RiceBlocks$History", "states", "LRiceBlocks$States;", true)
  | 1 => ("RiceBlocks$History", "free", "I", false)
  | _ => ("RiceBlocks$History", "length", "I", false)
def tyX2 : Nat → FieldType := fun k => match k with
  | 0 => .object "RiceBlocks$States"
  | 1 => .int
  | _ => .int
abbrev wsX20 : List Cond := u_ws RX2 TX2 3
theorem nmX2 : ∀ a, a < 3 → ∀ b, b < 3 → a ≠ b → (TX2 a).2.1 ≠ (TX2 b).2.1 := by decide +kernel
theorem tyX2_ok : ∀ k, k < 3 → parseFieldDescriptor (TX2 k).2.2.1 = some (tyX2 k) := by decide +kernel
abbrev cX2_init : ByteArray := prog_4_method_1_code
def yX2_init : MethodName := ⟨RX2, "<init>", "()V"⟩
abbrev cX2_note : ByteArray := prog_4_method_2_code
def yX2_note : MethodName := ⟨RX2, "note", "(LRiceBlocks$Row;)V"⟩
abbrev cX2_keepNoted : ByteArray := prog_4_method_3_code
def yX2_keepNoted : MethodName := ⟨RX2, "keepNoted", "()V"⟩
def RX3 : String := "RiceBlocks$Pad"
def TX3 : u_T := fun k => match k with
  | 0 => ("RiceBlocks$Pad", "signs", "LRiceBlocks$Cells;", true)
  | _ => ("RiceBlocks$Pad", "length", "I", false)
def tyX3 : Nat → FieldType := fun k => match k with
  | 0 => .object "RiceBlocks$Cells"
  | _ => .int
abbrev wsX30 : List Cond := u_ws RX3 TX3 2
theorem nmX3 : ∀ a, a < 2 → ∀ b, b < 2 → a ≠ b → (TX3 a).2.1 ≠ (TX3 b).2.1 := by decide +kernel
theorem tyX3_ok : ∀ k, k < 2 → parseFieldDescriptor (TX3 k).2.2.1 = some (tyX3 k) := by decide +kernel
abbrev cX3_init : ByteArray := prog_5_method_1_code
def yX3_init : MethodName := ⟨RX3, "<init>", "()V"⟩
def RX4 : String := "RiceBlocks$Prices"
def TX4 : u_T := fun k => match k with
  | 0 => ("RiceBlocks$Prices", "sums", "LRiceBlocks$Cells;", true)
  | _ => ("RiceBlocks$Prices", "length", "I", false)
def tyX4 : Nat → FieldType := fun k => match k with
  | 0 => .object "RiceBlocks$Cells"
  | _ => .int
abbrev wsX40 : List Cond := u_ws RX4 TX4 2
theorem nmX4 : ∀ a, a < 2 → ∀ b, b < 2 → a ≠ b → (TX4 a).2.1 ≠ (TX4 b).2.1 := by decide +kernel
theorem tyX4_ok : ∀ k, k < 2 → parseFieldDescriptor (TX4 k).2.2.1 = some (tyX4 k) := by decide +kernel
abbrev cX4_init : ByteArray := prog_6_method_1_code
def yX4_init : MethodName := ⟨RX4, "<init>", "()V"⟩
abbrev cX4_fill : ByteArray := prog_6_method_2_code
def yX4_fill : MethodName := ⟨RX4, "fill", "(LRiceBlocks$Row;I)V"⟩
abbrev cX4_codesBits : ByteArray := prog_6_method_3_code
def yX4_codesBits : MethodName := ⟨RX4, "codesBits", "(III)I"⟩
abbrev cX4_blockBits : ByteArray := prog_6_method_4_code
def yX4_blockBits : MethodName := ⟨RX4, "blockBits", "(III)I"⟩
abbrev cX4_bestExponent : ByteArray := prog_6_method_5_code
def yX4_bestExponent : MethodName := ⟨RX4, "bestExponent", "(II)I"⟩
abbrev cX4_streamBits : ByteArray := prog_6_method_6_code
def yX4_streamBits : MethodName := ⟨RX4, "streamBits", "(I)I"⟩
def RX5 : String := "RiceBlocks$Row"
def TX5 : u_T := fun k => match k with
  | 0 => ("RiceBlocks$Row", "numbers", "LRiceBlocks$Cells;", true)
  | 1 => ("RiceBlocks$Row", "length", "I", false)
  | 2 => ("RiceBlocks$Row", "blockSize", "I", false)
  | _ => ("RiceBlocks$Row", "ones", "I", false)
def tyX5 : Nat → FieldType := fun k => match k with
  | 0 => .object "RiceBlocks$Cells"
  | 1 => .int
  | 2 => .int
  | _ => .int
abbrev wsX50 : List Cond := u_ws RX5 TX5 4
theorem nmX5 : ∀ a, a < 4 → ∀ b, b < 4 → a ≠ b → (TX5 a).2.1 ≠ (TX5 b).2.1 := by decide +kernel
theorem tyX5_ok : ∀ k, k < 4 → parseFieldDescriptor (TX5 k).2.2.1 = some (tyX5 k) := by decide +kernel
abbrev cX5_init : ByteArray := prog_7_method_1_code
def yX5_init : MethodName := ⟨RX5, "<init>", "()V"⟩
abbrev cX5_hasPlace : ByteArray := prog_7_method_2_code
def yX5_hasPlace : MethodName := ⟨RX5, "hasPlace", "(I)Z"⟩
abbrev cX5_number : ByteArray := prog_7_method_3_code
def yX5_number : MethodName := ⟨RX5, "number", "(I)I"⟩
abbrev cX5_numberAhead : ByteArray := prog_7_method_4_code
def yX5_numberAhead : MethodName := ⟨RX5, "numberAhead", "(I)I"⟩
abbrev cX5_gapAhead : ByteArray := prog_7_method_5_code
def yX5_gapAhead : MethodName := ⟨RX5, "gapAhead", "(I)I"⟩
abbrev cX5_placeOf : ByteArray := prog_7_method_6_code
def yX5_placeOf : MethodName := ⟨RX5, "placeOf", "(I)I"⟩
abbrev cX5_holds : ByteArray := prog_7_method_7_code
def yX5_holds : MethodName := ⟨RX5, "holds", "(II)Z"⟩
abbrev cX5_insert : ByteArray := prog_7_method_8_code
def yX5_insert : MethodName := ⟨RX5, "insert", "(II)V"⟩
abbrev cX5_remove : ByteArray := prog_7_method_9_code
def yX5_remove : MethodName := ⟨RX5, "remove", "(I)V"⟩
abbrev cX5_raiseFrom : ByteArray := prog_7_method_10_code
def yX5_raiseFrom : MethodName := ⟨RX5, "raiseFrom", "(II)V"⟩
abbrev cX5_blockOf : ByteArray := prog_7_method_11_code
def yX5_blockOf : MethodName := ⟨RX5, "blockOf", "(I)I"⟩
abbrev cX5_blocks : ByteArray := prog_7_method_12_code
def yX5_blocks : MethodName := ⟨RX5, "blocks", "()I"⟩
abbrev cX5_hasBlock : ByteArray := prog_7_method_13_code
def yX5_hasBlock : MethodName := ⟨RX5, "hasBlock", "(I)Z"⟩
abbrev cX5_firstOf : ByteArray := prog_7_method_14_code
def yX5_firstOf : MethodName := ⟨RX5, "firstOf", "(I)I"⟩
abbrev cX5_endOf : ByteArray := prog_7_method_15_code
def yX5_endOf : MethodName := ⟨RX5, "endOf", "(I)I"⟩
abbrev cX5_blockAround : ByteArray := prog_7_method_16_code
def yX5_blockAround : MethodName := ⟨RX5, "blockAround", "(I)I"⟩
def RX6 : String := "RiceBlocks$States"
def TX6 : u_T := fun k => match k with
  | _ => ("RiceBlocks$States", "cells", "LRiceBlocks$Cells;", true)
def tyX6 : Nat → FieldType := fun k => match k with
  | _ => .object "RiceBlocks$Cells"
abbrev wsX60 : List Cond := u_ws RX6 TX6 1
theorem nmX6 : ∀ a, a < 1 → ∀ b, b < 1 → a ≠ b → (TX6 a).2.1 ≠ (TX6 b).2.1 := by decide +kernel
theorem tyX6_ok : ∀ k, k < 1 → parseFieldDescriptor (TX6 k).2.2.1 = some (tyX6 k) := by decide +kernel
abbrev cX6_init : ByteArray := prog_8_method_1_code
def yX6_init : MethodName := ⟨RX6, "<init>", "(I)V"⟩
abbrev cX6_store : ByteArray := prog_8_method_3_code
def yX6_store : MethodName := ⟨RX6, "store", "(ILRiceBlocks$Row;)V"⟩
def RX7 : String := "RiceBlocks$Stream"
def TX7 : u_T := fun k => match k with
  | 0 => ("RiceBlocks$Stream", "cells", "LRiceBlocks$Cells;", true)
  | 1 => ("RiceBlocks$Stream", "length", "I", false)
  | 2 => ("RiceBlocks$Stream", "start", "I", false)
  | 3 => ("RiceBlocks$Stream", "next", "I", false)
  | 4 => ("RiceBlocks$Stream", "exponent", "I", false)
  | _ => ("RiceBlocks$Stream", "number", "I", false)
def tyX7 : Nat → FieldType := fun k => match k with
  | 0 => .object "RiceBlocks$Cells"
  | 1 => .int
  | 2 => .int
  | 3 => .int
  | 4 => .int
  | _ => .int
abbrev wsX70 : List Cond := u_ws RX7 TX7 6
theorem nmX7 : ∀ a, a < 6 → ∀ b, b < 6 → a ≠ b → (TX7 a).2.1 ≠ (TX7 b).2.1 := by decide +kernel
theorem tyX7_ok : ∀ k, k < 6 → parseFieldDescriptor (TX7 k).2.2.1 = some (tyX7 k) := by decide +kernel
abbrev cX7_init : ByteArray := prog_9_method_1_code
def yX7_init : MethodName := ⟨RX7, "<init>", "()V"⟩
abbrev cX7_hasPlace : ByteArray := prog_9_method_2_code
def yX7_hasPlace : MethodName := ⟨RX7, "hasPlace", "(I)Z"⟩
abbrev cX7_bitOrZero : ByteArray := prog_9_method_3_code
def yX7_bitOrZero : MethodName := ⟨RX7, "bitOrZero", "(I)I"⟩
abbrev cX7_wordFrom : ByteArray := prog_9_method_4_code
def yX7_wordFrom : MethodName := ⟨RX7, "wordFrom", "(I)J"⟩
abbrev cX7_append : ByteArray := prog_9_method_5_code
def yX7_append : MethodName := ⟨RX7, "append", "(II)V"⟩
abbrev cX7_appendCode : ByteArray := prog_9_method_6_code
def yX7_appendCode : MethodName := ⟨RX7, "appendCode", "(III)V"⟩
abbrev cX7_startAt : ByteArray := prog_9_method_7_code
def yX7_startAt : MethodName := ⟨RX7, "startAt", "(II)V"⟩
abbrev cX7_readExponent : ByteArray := prog_9_method_8_code
def yX7_readExponent : MethodName := ⟨RX7, "readExponent", "()V"⟩
abbrev cX7_readNumber : ByteArray := prog_9_method_9_code
def yX7_readNumber : MethodName := ⟨RX7, "readNumber", "(I)V"⟩
abbrev cX7_bitsRead : ByteArray := prog_9_method_10_code
def yX7_bitsRead : MethodName := ⟨RX7, "bitsRead", "()I"⟩
abbrev cX7_readGap : ByteArray := prog_9_method_11_code
def yX7_readGap : MethodName := ⟨RX7, "readGap", "(I)I"⟩
abbrev cX7_readBits : ByteArray := prog_9_method_12_code
def yX7_readBits : MethodName := ⟨RX7, "readBits", "(I)I"⟩
def RX8 : String := "RiceBlocks"
def TX8 : u_T := fun k => match k with
  | 0 => ("RiceBlocks", "row", "LRiceBlocks$Row;", true)
  | 1 => ("RiceBlocks", "coding", "LRiceBlocks$Coding;", true)
  | 2 => ("RiceBlocks", "trial", "LRiceBlocks$Prices;", true)
  | 3 => ("RiceBlocks", "pad", "LRiceBlocks$Pad;", true)
  | 4 => ("RiceBlocks", "history", "LRiceBlocks$History;", true)
  | _ => ("RiceBlocks", "slots", "LRiceBlocks$States;", true)
def tyX8 : Nat → FieldType := fun k => match k with
  | 0 => .object "RiceBlocks$Row"
  | 1 => .object "RiceBlocks$Coding"
  | 2 => .object "RiceBlocks$Prices"
  | 3 => .object "RiceBlocks$Pad"
  | 4 => .object "RiceBlocks$History"
  | _ => .object "RiceBlocks$States"
abbrev wsX80 : List Cond := u_ws RX8 TX8 6
theorem nmX8 : ∀ a, a < 6 → ∀ b, b < 6 → a ≠ b → (TX8 a).2.1 ≠ (TX8 b).2.1 := by decide +kernel
theorem tyX8_ok : ∀ k, k < 6 → parseFieldDescriptor (TX8 k).2.2.1 = some (tyX8 k) := by decide +kernel
abbrev cX8_init : ByteArray := prog_1_method_1_code
def yX8_init : MethodName := ⟨RX8, "<init>", "()V"⟩
abbrev cX8_set : ByteArray := prog_1_method_2_code
def yX8_set : MethodName := ⟨RX8, "set", "(II)I"⟩
abbrev cX8_putIn : ByteArray := prog_1_method_3_code
def yX8_putIn : MethodName := ⟨RX8, "putIn", "(I)I"⟩
abbrev cX8_takeOut : ByteArray := prog_1_method_4_code
def yX8_takeOut : MethodName := ⟨RX8, "takeOut", "(I)I"⟩
abbrev cX8_shift : ByteArray := prog_1_method_5_code
def yX8_shift : MethodName := ⟨RX8, "shift", "(II)I"⟩
abbrev cX8_gap : ByteArray := prog_1_method_6_code
def yX8_gap : MethodName := ⟨RX8, "gap", "(II)I"⟩
abbrev cX8_block : ByteArray := prog_1_method_7_code
def yX8_block : MethodName := ⟨RX8, "block", "(II)I"⟩
abbrev cX8_bit : ByteArray := prog_1_method_8_code
def yX8_bit : MethodName := ⟨RX8, "bit", "(I)I"⟩
abbrev cX8_bits : ByteArray := prog_1_method_9_code
def yX8_bits : MethodName := ⟨RX8, "bits", "(I)J"⟩
abbrev cX8_count : ByteArray := prog_1_method_10_code
def yX8_count : MethodName := ⟨RX8, "count", "(I)I"⟩
abbrev cX8_at : ByteArray := prog_1_method_11_code
def yX8_at : MethodName := ⟨RX8, "at", "(II)I"⟩
abbrev cX8_find : ByteArray := prog_1_method_12_code
def yX8_find : MethodName := ⟨RX8, "find", "(II)I"⟩
abbrev cX8_cost : ByteArray := prog_1_method_13_code
def yX8_cost : MethodName := ⟨RX8, "cost", "(II)I"⟩
abbrev cX8_with : ByteArray := prog_1_method_14_code
def yX8_with : MethodName := ⟨RX8, "with", "(II)I"⟩
abbrev cX8_best : ByteArray := prog_1_method_15_code
def yX8_best : MethodName := ⟨RX8, "best", "(I)I"⟩
abbrev cX8_check : ByteArray := prog_1_method_16_code
def yX8_check : MethodName := ⟨RX8, "check", "()I"⟩
abbrev cX8_settle : ByteArray := prog_1_method_24_code
def yX8_settle : MethodName := ⟨RX8, "settle", "(I)I"⟩
abbrev cX8_changeSetting : ByteArray := prog_1_method_25_code
def yX8_changeSetting : MethodName := ⟨RX8, "changeSetting", "(II)I"⟩
abbrev cX8_addNumber : ByteArray := prog_1_method_26_code
def yX8_addNumber : MethodName := ⟨RX8, "addNumber", "(I)I"⟩
abbrev cX8_dropNumber : ByteArray := prog_1_method_27_code
def yX8_dropNumber : MethodName := ⟨RX8, "dropNumber", "(I)I"⟩
abbrev cX8_openBlock : ByteArray := prog_1_method_30_code
def yX8_openBlock : MethodName := ⟨RX8, "openBlock", "(I)V"⟩
abbrev cX8_readUpTo : ByteArray := prog_1_method_31_code
def yX8_readUpTo : MethodName := ⟨RX8, "readUpTo", "(II)I"⟩
abbrev cX8_escapesIn : ByteArray := prog_1_method_32_code
def yX8_escapesIn : MethodName := ⟨RX8, "escapesIn", "(III)I"⟩
abbrev cX8_allEscapes : ByteArray := prog_1_method_33_code
def yX8_allEscapes : MethodName := ⟨RX8, "allEscapes", "()I"⟩
abbrev cX8_greatestGap : ByteArray := prog_1_method_34_code
def yX8_greatestGap : MethodName := ⟨RX8, "greatestGap", "(II)I"⟩
abbrev cX8_greatestExponent : ByteArray := prog_1_method_35_code
def yX8_greatestExponent : MethodName := ⟨RX8, "greatestExponent", "()I"⟩
abbrev cX8_isNumber : ByteArray := prog_1_method_36_code
def yX8_isNumber : MethodName := ⟨RX8, "isNumber", "(I)Z"⟩
abbrev cX8_isSetting : ByteArray := prog_1_method_37_code
def yX8_isSetting : MethodName := ⟨RX8, "isSetting", "(II)Z"⟩
abbrev cX8_isEscape : ByteArray := prog_1_method_40_code
def yX8_isEscape : MethodName := ⟨RX8, "isEscape", "(III)Z"⟩
abbrev cX8_codeBits : ByteArray := prog_1_method_41_code
def yX8_codeBits : MethodName := ⟨RX8, "codeBits", "(III)I"⟩
def RX9 : String := "RiceBlocksModel"
def TX9 : u_T := fun k => match k with
  | _ => ("", "", "", false)
def tyX9 : Nat → FieldType := fun k => match k with
  | _ => .int
abbrev wsX90 : List Cond := u_ws RX9 TX9 0
theorem nmX9 : ∀ a, a < 0 → ∀ b, b < 0 → a ≠ b → (TX9 a).2.1 ≠ (TX9 b).2.1 := by decide +kernel
theorem tyX9_ok : ∀ k, k < 0 → parseFieldDescriptor (TX9 k).2.2.1 = some (tyX9 k) := by decide +kernel
def RL : String := "RiceBlocksLaw"
abbrev cL_cell : ByteArray := method_2_code
def yL_cell : MethodName := ⟨RL, "cell", "([II)I"⟩
abbrev cL_up : ByteArray := method_3_code
def yL_up : MethodName := ⟨RL, "up", "(II)I"⟩
abbrev cL_isStep : ByteArray := method_4_code
def yL_isStep : MethodName := ⟨RL, "isStep", "(LRiceBlocks;I)Z"⟩
abbrev cL_read : ByteArray := method_5_code
def yL_read : MethodName := ⟨RL, "read", "(LRiceBlocks;II)I"⟩
abbrev cL_isCoded : ByteArray := method_6_code
def yL_isCoded : MethodName := ⟨RL, "isCoded", "(LRiceBlocks;)Z"⟩
abbrev cL_isLeast : ByteArray := method_7_code
def yL_isLeast : MethodName := ⟨RL, "isLeast", "(LRiceBlocks;I)Z"⟩
abbrev cL_law : ByteArray := code
def yL_law : MethodName := ⟨RL, "law", "([I)Z"⟩
abbrev vwCl : List vw_C := [(RX0, TX0, 1), (RX1, TX1, 4), (RX2, TX2, 3), (RX3, TX3, 2), (RX4, TX4, 2), (RX5, TX5, 4), (RX6, TX6, 1), (RX7, TX7, 6), (RX8, TX8, 6)]
