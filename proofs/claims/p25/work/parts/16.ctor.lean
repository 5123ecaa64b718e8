theorem mk_int : Cond.arrayClass .int ∈ wsG := wsG_mem (zt1 (List.mem_of_getElem? (i := 38) (by decide +kernel))) rfl
theorem ml_8_3 : Cond.methodLink RX8 3 Lib.objectInit ∈ wsG := wsG_mem (zt1 (List.mem_of_getElem? (i := 16) (by decide +kernel))) rfl
theorem mo_obj : Cond.instanceMethod Lib.objectInit ∈ wsG ∧ Cond.code Lib.objectInit ⟨#[0xb1]⟩ 1 none ∈ wsG := ⟨wsG_mem (zt1 (List.mem_of_getElem? (i := 17) (by decide +kernel))) rfl, wsG_mem (zt1 (List.mem_of_getElem? (i := 18) (by decide +kernel))) rfl⟩
theorem kl_8_9 : Cond.classLink RX8 9 RX5 ∈ wsG := wsG_mem (zt1 (List.mem_of_getElem? (i := 19) (by decide +kernel))) rfl
theorem kc_5 : Cond.instantiable RX5 4 ∈ wsG ∧ Cond.initialized RX5 ∈ wsG := ⟨wsG_mem (zt1 (List.mem_of_getElem? (i := 20) (by decide +kernel))) rfl, wsG_mem (zt1 (List.mem_of_getElem? (i := 2) (by decide +kernel))) rfl⟩
theorem ml_5_3 : Cond.methodLink RX5 3 Lib.objectInit ∈ wsG := wsG_mem (zt1 (List.mem_of_getElem? (i := 24) (by decide +kernel))) rfl
theorem kl_5_9 : Cond.classLink RX5 9 RX0 ∈ wsG := wsG_mem (zt1 (List.mem_of_getElem? (i := 25) (by decide +kernel))) rfl
theorem kc_0 : Cond.instantiable RX0 1 ∈ wsG ∧ Cond.initialized RX0 ∈ wsG := ⟨wsG_mem (zt1 (List.mem_of_getElem? (i := 26) (by decide +kernel))) rfl, wsG_mem (zt1 (List.mem_of_getElem? (i := 3) (by decide +kernel))) rfl⟩
theorem ml_0_1 : Cond.methodLink RX0 1 Lib.objectInit ∈ wsG := wsG_mem (zt1 (List.mem_of_getElem? (i := 30) (by decide +kernel))) rfl
theorem ml_0_7 : Cond.methodLink RX0 7 Lib.Math.max.name ∈ wsG := wsG_mem (zt1 (List.mem_of_getElem? (i := 31) (by decide +kernel))) rfl
theorem ml_5_11 : Cond.methodLink RX5 11 yX0_init ∈ wsG := wsG_mem (zt1 (List.mem_of_getElem? (i := 27) (by decide +kernel))) rfl
theorem mc_0 : zMC yX0_init cX0_init 2 1 := ⟨wsG_mem (zt1 (List.mem_of_getElem? (i := 29) (by decide +kernel))) rfl, wsG_mem (zt1 (List.mem_of_getElem? (i := 3) (by decide +kernel))) rfl, ⟨by decide +kernel, by decide +kernel, by decide +kernel⟩, wsG_mem (zt1 (List.mem_of_getElem? (i := 28) (by decide +kernel))) rfl, rfl⟩
theorem fl_5_27 : Cond.fieldLink RX5 27 (TX5 3).1 (TX5 3).2.1 (TX5 3).2.2.1 ∈ wsG := wsG_mem (zt1 (List.mem_of_getElem? (i := 47) (by decide +kernel))) rfl
theorem ml_8_11 : Cond.methodLinkNest RX8 11 yX5_init "RiceBlocks" ∈ wsN := wsN_mem (zt1 (List.mem_of_getElem? (i := 21) (by decide +kernel))) rfl
theorem mc_5 : zMC yX5_init cX5_init 1 0 := ⟨wsG_mem (zt1 (List.mem_of_getElem? (i := 23) (by decide +kernel))) rfl, wsG_mem (zt1 (List.mem_of_getElem? (i := 2) (by decide +kernel))) rfl, ⟨by decide +kernel, by decide +kernel, by decide +kernel⟩, wsG_mem (zt1 (List.mem_of_getElem? (i := 22) (by decide +kernel))) rfl, rfl⟩
theorem kl_8_16 : Cond.classLink RX8 16 RX1 ∈ wsG := wsG_mem (zt1 (List.mem_of_getElem? (i := 60) (by decide +kernel))) rfl
theorem kc_1 : Cond.instantiable RX1 4 ∈ wsG ∧ Cond.initialized RX1 ∈ wsG := ⟨wsG_mem (zt1 (List.mem_of_getElem? (i := 61) (by decide +kernel))) rfl, wsG_mem (zt1 (List.mem_of_getElem? (i := 5) (by decide +kernel))) rfl⟩
theorem ml_1_3 : Cond.methodLink RX1 3 Lib.objectInit ∈ wsG := wsG_mem (zt1 (List.mem_of_getElem? (i := 65) (by decide +kernel))) rfl
theorem kl_1_9 : Cond.classLink RX1 9 RX4 ∈ wsG := wsG_mem (zt1 (List.mem_of_getElem? (i := 66) (by decide +kernel))) rfl
theorem kc_4 : Cond.instantiable RX4 2 ∈ wsG ∧ Cond.initialized RX4 ∈ wsG := ⟨wsG_mem (zt1 (List.mem_of_getElem? (i := 67) (by decide +kernel))) rfl, wsG_mem (zt1 (List.mem_of_getElem? (i := 6) (by decide +kernel))) rfl⟩
theorem ml_4_3 : Cond.methodLink RX4 3 Lib.objectInit ∈ wsG := wsG_mem (zt1 (List.mem_of_getElem? (i := 71) (by decide +kernel))) rfl
theorem kl_4_9 : Cond.classLink RX4 9 RX0 ∈ wsG := wsG_mem (zt1 (List.mem_of_getElem? (i := 72) (by decide +kernel))) rfl
theorem ml_4_13 : Cond.methodLink RX4 13 yX0_init ∈ wsG := wsG_mem (zt1 (List.mem_of_getElem? (i := 73) (by decide +kernel))) rfl
theorem ml_1_11 : Cond.methodLinkNest RX1 11 yX4_init "RiceBlocks" ∈ wsN := wsN_mem (zt1 (List.mem_of_getElem? (i := 68) (by decide +kernel))) rfl
theorem mc_4 : zMC yX4_init cX4_init 1 0 := ⟨wsG_mem (zt1 (List.mem_of_getElem? (i := 70) (by decide +kernel))) rfl, wsG_mem (zt1 (List.mem_of_getElem? (i := 6) (by decide +kernel))) rfl, ⟨by decide +kernel, by decide +kernel, by decide +kernel⟩, wsG_mem (zt1 (List.mem_of_getElem? (i := 69) (by decide +kernel))) rfl, rfl⟩
theorem kl_1_18 : Cond.classLink RX1 18 RX7 ∈ wsG := wsG_mem (zt1 (List.mem_of_getElem? (i := 81) (by decide +kernel))) rfl
theorem kc_7 : Cond.instantiable RX7 6 ∈ wsG ∧ Cond.initialized RX7 ∈ wsG := ⟨wsG_mem (zt1 (List.mem_of_getElem? (i := 82) (by decide +kernel))) rfl, wsG_mem (zt1 (List.mem_of_getElem? (i := 7) (by decide +kernel))) rfl⟩
theorem ml_7_3 : Cond.methodLink RX7 3 Lib.objectInit ∈ wsG := wsG_mem (zt1 (List.mem_of_getElem? (i := 86) (by decide +kernel))) rfl
theorem kl_7_9 : Cond.classLink RX7 9 RX0 ∈ wsG := wsG_mem (zt1 (List.mem_of_getElem? (i := 87) (by decide +kernel))) rfl
theorem ml_7_11 : Cond.methodLink RX7 11 yX0_init ∈ wsG := wsG_mem (zt1 (List.mem_of_getElem? (i := 88) (by decide +kernel))) rfl
theorem ml_1_20 : Cond.methodLinkNest RX1 20 yX7_init "RiceBlocks" ∈ wsN := wsN_mem (zt1 (List.mem_of_getElem? (i := 83) (by decide +kernel))) rfl
theorem mc_7 : zMC yX7_init cX7_init 1 0 := ⟨wsG_mem (zt1 (List.mem_of_getElem? (i := 85) (by decide +kernel))) rfl, wsG_mem (zt1 (List.mem_of_getElem? (i := 7) (by decide +kernel))) rfl, ⟨by decide +kernel, by decide +kernel, by decide +kernel⟩, wsG_mem (zt1 (List.mem_of_getElem? (i := 84) (by decide +kernel))) rfl, rfl⟩
theorem kl_1_25 : Cond.classLink RX1 25 RX0 ∈ wsG := wsG_mem (zt1 (List.mem_of_getElem? (i := 111) (by decide +kernel))) rfl
theorem ml_1_27 : Cond.methodLink RX1 27 yX0_init ∈ wsG := wsG_mem (zt1 (List.mem_of_getElem? (i := 112) (by decide +kernel))) rfl
theorem ml_8_18 : Cond.methodLinkNest RX8 18 yX1_init "RiceBlocks" ∈ wsN := wsN_mem (zt1 (List.mem_of_getElem? (i := 62) (by decide +kernel))) rfl
theorem mc_1 : zMC yX1_init cX1_init 1 0 := ⟨wsG_mem (zt1 (List.mem_of_getElem? (i := 64) (by decide +kernel))) rfl, wsG_mem (zt1 (List.mem_of_getElem? (i := 5) (by decide +kernel))) rfl, ⟨by decide +kernel, by decide +kernel, by decide +kernel⟩, wsG_mem (zt1 (List.mem_of_getElem? (i := 63) (by decide +kernel))) rfl, rfl⟩
theorem kl_8_23 : Cond.classLink RX8 23 RX4 ∈ wsG := wsG_mem (zt1 (List.mem_of_getElem? (i := 130) (by decide +kernel))) rfl
theorem ml_8_25 : Cond.methodLinkNest RX8 25 yX4_init "RiceBlocks" ∈ wsN := wsN_mem (zt1 (List.mem_of_getElem? (i := 131) (by decide +kernel))) rfl
theorem kl_8_30 : Cond.classLink RX8 30 RX3 ∈ wsG := wsG_mem (zt1 (List.mem_of_getElem? (i := 132) (by decide +kernel))) rfl
theorem kc_3 : Cond.instantiable RX3 2 ∈ wsG ∧ Cond.initialized RX3 ∈ wsG := ⟨wsG_mem (zt1 (List.mem_of_getElem? (i := 133) (by decide +kernel))) rfl, wsG_mem (zt1 (List.mem_of_getElem? (i := 8) (by decide +kernel))) rfl⟩
theorem ml_3_3 : Cond.methodLink RX3 3 Lib.objectInit ∈ wsG := wsG_mem (zt1 (List.mem_of_getElem? (i := 137) (by decide +kernel))) rfl
theorem kl_3_9 : Cond.classLink RX3 9 RX0 ∈ wsG := wsG_mem (zt1 (List.mem_of_getElem? (i := 138) (by decide +kernel))) rfl
theorem ml_3_11 : Cond.methodLink RX3 11 yX0_init ∈ wsG := wsG_mem (zt1 (List.mem_of_getElem? (i := 139) (by decide +kernel))) rfl
theorem fl_3_14 : Cond.fieldLink RX3 14 (TX3 0).1 (TX3 0).2.1 (TX3 0).2.2.1 ∈ wsG := wsG_mem (zt1 (List.mem_of_getElem? (i := 140) (by decide +kernel))) rfl
theorem fl_3_20 : Cond.fieldLink RX3 20 (TX3 1).1 (TX3 1).2.1 (TX3 1).2.2.1 ∈ wsG := wsG_mem (zt1 (List.mem_of_getElem? (i := 141) (by decide +kernel))) rfl
theorem ml_8_32 : Cond.methodLinkNest RX8 32 yX3_init "RiceBlocks" ∈ wsN := wsN_mem (zt1 (List.mem_of_getElem? (i := 134) (by decide +kernel))) rfl
theorem mc_3 : zMC yX3_init cX3_init 1 0 := ⟨wsG_mem (zt1 (List.mem_of_getElem? (i := 136) (by decide +kernel))) rfl, wsG_mem (zt1 (List.mem_of_getElem? (i := 8) (by decide +kernel))) rfl, ⟨by decide +kernel, by decide +kernel, by decide +kernel⟩, wsG_mem (zt1 (List.mem_of_getElem? (i := 135) (by decide +kernel))) rfl, rfl⟩
theorem kl_8_37 : Cond.classLink RX8 37 RX2 ∈ wsG := wsG_mem (zt1 (List.mem_of_getElem? (i := 148) (by decide +kernel))) rfl
theorem kc_2 : Cond.instantiable RX2 3 ∈ wsG ∧ Cond.initialized RX2 ∈ wsG := ⟨wsG_mem (zt1 (List.mem_of_getElem? (i := 149) (by decide +kernel))) rfl, wsG_mem (zt1 (List.mem_of_getElem? (i := 9) (by decide +kernel))) rfl⟩
theorem ml_2_3 : Cond.methodLink RX2 3 Lib.objectInit ∈ wsG := wsG_mem (zt1 (List.mem_of_getElem? (i := 153) (by decide +kernel))) rfl
theorem kl_2_9 : Cond.classLink RX2 9 RX6 ∈ wsG := wsG_mem (zt1 (List.mem_of_getElem? (i := 154) (by decide +kernel))) rfl
theorem kc_6 : Cond.instantiable RX6 1 ∈ wsG ∧ Cond.initialized RX6 ∈ wsG := ⟨wsG_mem (zt1 (List.mem_of_getElem? (i := 155) (by decide +kernel))) rfl, wsG_mem (zt1 (List.mem_of_getElem? (i := 10) (by decide +kernel))) rfl⟩
theorem ml_6_5 : Cond.methodLink RX6 5 Lib.objectInit ∈ wsG := wsG_mem (zt1 (List.mem_of_getElem? (i := 159) (by decide +kernel))) rfl
theorem kl_6_11 : Cond.classLink RX6 11 RX0 ∈ wsG := wsG_mem (zt1 (List.mem_of_getElem? (i := 160) (by decide +kernel))) rfl
theorem ml_6_13 : Cond.methodLink RX6 13 yX0_init ∈ wsG := wsG_mem (zt1 (List.mem_of_getElem? (i := 161) (by decide +kernel))) rfl
theorem ml_2_13 : Cond.methodLink RX2 13 yX6_init ∈ wsG := wsG_mem (zt1 (List.mem_of_getElem? (i := 156) (by decide +kernel))) rfl
theorem mc_6 : zMC yX6_init cX6_init 2 1 := ⟨wsG_mem (zt1 (List.mem_of_getElem? (i := 158) (by decide +kernel))) rfl, wsG_mem (zt1 (List.mem_of_getElem? (i := 10) (by decide +kernel))) rfl, ⟨by decide +kernel, by decide +kernel, by decide +kernel⟩, wsG_mem (zt1 (List.mem_of_getElem? (i := 157) (by decide +kernel))) rfl, rfl⟩
theorem ml_8_39 : Cond.methodLinkNest RX8 39 yX2_init "RiceBlocks" ∈ wsN := wsN_mem (zt1 (List.mem_of_getElem? (i := 150) (by decide +kernel))) rfl
theorem mc_2 : zMC yX2_init cX2_init 1 0 := ⟨wsG_mem (zt1 (List.mem_of_getElem? (i := 152) (by decide +kernel))) rfl, wsG_mem (zt1 (List.mem_of_getElem? (i := 9) (by decide +kernel))) rfl, ⟨by decide +kernel, by decide +kernel, by decide +kernel⟩, wsG_mem (zt1 (List.mem_of_getElem? (i := 151) (by decide +kernel))) rfl, rfl⟩
theorem kl_8_44 : Cond.classLink RX8 44 RX6 ∈ wsG := wsG_mem (zt1 (List.mem_of_getElem? (i := 177) (by decide +kernel))) rfl
theorem ml_8_46 : Cond.methodLink RX8 46 yX6_init ∈ wsG := wsG_mem (zt1 (List.mem_of_getElem? (i := 178) (by decide +kernel))) rfl
theorem fl_8_49 : Cond.fieldLink RX8 49 (TX8 5).1 (TX8 5).2.1 (TX8 5).2.2.1 ∈ wsG := wsG_mem (zt1 (List.mem_of_getElem? (i := 184) (by decide +kernel))) rfl
theorem dX0_init_0 : decode cX0_init 0 = .ok (.aload_n 0, 1) := by decide +kernel
theorem dX0_init_1 : decode cX0_init 1 = .ok (.invokespecial 1, 3) := by decide +kernel
theorem dX0_init_4 : decode cX0_init 4 = .ok (.aload_n 0, 1) := by decide +kernel
theorem dX0_init_5 : decode cX0_init 5 = .ok (.iconst 0, 1) := by decide +kernel
theorem dX0_init_6 : decode cX0_init 6 = .ok (.iload_n 1, 1) := by decide +kernel
theorem dX0_init_7 : decode cX0_init 7 = .ok (.invokestatic 7, 3) := by decide +kernel
theorem dX0_init_10 : decode cX0_init 10 = .ok (.newarray .int, 2) := by decide +kernel
theorem dX0_init_12 : decode cX0_init 12 = .ok (.putfield 13, 3) := by decide +kernel
theorem dX0_init_15 : decode cX0_init 15 = .ok (.return_, 1) := by decide +kernel
theorem dX5_init_0 : decode cX5_init 0 = .ok (.aload_n 0, 1) := by decide +kernel
theorem dX5_init_1 : decode cX5_init 1 = .ok (.invokespecial 3, 3) := by decide +kernel
theorem dX5_init_4 : decode cX5_init 4 = .ok (.aload_n 0, 1) := by decide +kernel
theorem dX5_init_5 : decode cX5_init 5 = .ok (.new 9, 3) := by decide +kernel
theorem dX5_init_8 : decode cX5_init 8 = .ok (.dup, 1) := by decide +kernel
theorem dX5_init_9 : decode cX5_init 9 = .ok (.bipush 64, 2) := by decide +kernel
theorem dX5_init_11 : decode cX5_init 11 = .ok (.invokespecial 11, 3) := by decide +kernel
theorem dX5_init_14 : decode cX5_init 14 = .ok (.putfield 14, 3) := by decide +kernel
theorem dX5_init_17 : decode cX5_init 17 = .ok (.aload_n 0, 1) := by decide +kernel
theorem dX5_init_18 : decode cX5_init 18 = .ok (.iconst 0, 1) := by decide +kernel
theorem dX5_init_19 : decode cX5_init 19 = .ok (.putfield 20, 3) := by decide +kernel
theorem dX5_init_22 : decode cX5_init 22 = .ok (.aload_n 0, 1) := by decide +kernel
theorem dX5_init_23 : decode cX5_init 23 = .ok (.iconst 4, 1) := by decide +kernel
theorem dX5_init_24 : decode cX5_init 24 = .ok (.putfield 24, 3) := by decide +kernel
theorem dX5_init_27 : decode cX5_init 27 = .ok (.aload_n 0, 1) := by decide +kernel
theorem dX5_init_28 : decode cX5_init 28 = .ok (.bipush 8, 2) := by decide +kernel
theorem dX5_init_30 : decode cX5_init 30 = .ok (.putfield 27, 3) := by decide +kernel
theorem dX5_init_33 : decode cX5_init 33 = .ok (.return_, 1) := by decide +kernel
theorem dX6_init_0 : decode cX6_init 0 = .ok (.aload_n 0, 1) := by decide +kernel
theorem dX6_init_1 : decode cX6_init 1 = .ok (.invokespecial 5, 3) := by decide +kernel
theorem dX6_init_4 : decode cX6_init 4 = .ok (.aload_n 0, 1) := by decide +kernel
theorem dX6_init_5 : decode cX6_init 5 = .ok (.new 11, 3) := by decide +kernel
theorem dX6_init_8 : decode cX6_init 8 = .ok (.dup, 1) := by decide +kernel
theorem dX6_init_9 : decode cX6_init 9 = .ok (.iload_n 1, 1) := by decide +kernel
theorem dX6_init_10 : decode cX6_init 10 = .ok (.bipush 68, 2) := by decide +kernel
theorem dX6_init_12 : decode cX6_init 12 = .ok (.imul, 1) := by decide +kernel
theorem dX6_init_13 : decode cX6_init 13 = .ok (.invokespecial 13, 3) := by decide +kernel
theorem dX6_init_16 : decode cX6_init 16 = .ok (.putfield 16, 3) := by decide +kernel
theorem dX6_init_19 : decode cX6_init 19 = .ok (.return_, 1) := by decide +kernel
theorem dX2_init_0 : decode cX2_init 0 = .ok (.aload_n 0, 1) := by decide +kernel
theorem dX2_init_1 : decode cX2_init 1 = .ok (.invokespecial 3, 3) := by decide +kernel
theorem dX2_init_4 : decode cX2_init 4 = .ok (.aload_n 0, 1) := by decide +kernel
theorem dX2_init_5 : decode cX2_init 5 = .ok (.new 9, 3) := by decide +kernel
theorem dX2_init_8 : decode cX2_init 8 = .ok (.dup, 1) := by decide +kernel
theorem dX2_init_9 : decode cX2_init 9 = .ok (.bipush 7, 2) := by decide +kernel
theorem dX2_init_11 : decode cX2_init 11 = .ok (.invokespecial 13, 3) := by decide +kernel
theorem dX2_init_14 : decode cX2_init 14 = .ok (.putfield 16, 3) := by decide +kernel
theorem dX2_init_17 : decode cX2_init 17 = .ok (.aload_n 0, 1) := by decide +kernel
theorem dX2_init_18 : decode cX2_init 18 = .ok (.iconst 0, 1) := by decide +kernel
theorem dX2_init_19 : decode cX2_init 19 = .ok (.putfield 20, 3) := by decide +kernel
theorem dX2_init_22 : decode cX2_init 22 = .ok (.aload_n 0, 1) := by decide +kernel
theorem dX2_init_23 : decode cX2_init 23 = .ok (.iconst 0, 1) := by decide +kernel
theorem dX2_init_24 : decode cX2_init 24 = .ok (.putfield 24, 3) := by decide +kernel
theorem dX2_init_27 : decode cX2_init 27 = .ok (.return_, 1) := by decide +kernel
theorem dX3_init_0 : decode cX3_init 0 = .ok (.aload_n 0, 1) := by decide +kernel
theorem dX3_init_1 : decode cX3_init 1 = .ok (.invokespecial 3, 3) := by decide +kernel
theorem dX3_init_4 : decode cX3_init 4 = .ok (.aload_n 0, 1) := by decide +kernel
theorem dX3_init_5 : decode cX3_init 5 = .ok (.new 9, 3) := by decide +kernel
theorem dX3_init_8 : decode cX3_init 8 = .ok (.dup, 1) := by decide +kernel
theorem dX3_init_9 : decode cX3_init 9 = .ok (.bipush 80, 2) := by decide +kernel
theorem dX3_init_11 : decode cX3_init 11 = .ok (.invokespecial 11, 3) := by decide +kernel
theorem dX3_init_14 : decode cX3_init 14 = .ok (.putfield 14, 3) := by decide +kernel
theorem dX3_init_17 : decode cX3_init 17 = .ok (.aload_n 0, 1) := by decide +kernel
theorem dX3_init_18 : decode cX3_init 18 = .ok (.iconst 0, 1) := by decide +kernel
theorem dX3_init_19 : decode cX3_init 19 = .ok (.putfield 20, 3) := by decide +kernel
theorem dX3_init_22 : decode cX3_init 22 = .ok (.return_, 1) := by decide +kernel
theorem dX4_init_0 : decode cX4_init 0 = .ok (.aload_n 0, 1) := by decide +kernel
theorem dX4_init_1 : decode cX4_init 1 = .ok (.invokespecial 3, 3) := by decide +kernel
theorem dX4_init_4 : decode cX4_init 4 = .ok (.aload_n 0, 1) := by decide +kernel
theorem dX4_init_5 : decode cX4_init 5 = .ok (.new 9, 3) := by decide +kernel
theorem dX4_init_8 : decode cX4_init 8 = .ok (.dup, 1) := by decide +kernel
theorem dX4_init_9 : decode cX4_init 9 = .ok (.sipush 1040, 3) := by decide +kernel
theorem dX4_init_12 : decode cX4_init 12 = .ok (.invokespecial 13, 3) := by decide +kernel
theorem dX4_init_15 : decode cX4_init 15 = .ok (.putfield 16, 3) := by decide +kernel
theorem dX4_init_18 : decode cX4_init 18 = .ok (.aload_n 0, 1) := by decide +kernel
theorem dX4_init_19 : decode cX4_init 19 = .ok (.iconst 0, 1) := by decide +kernel
theorem dX4_init_20 : decode cX4_init 20 = .ok (.putfield 20, 3) := by decide +kernel
theorem dX4_init_23 : decode cX4_init 23 = .ok (.return_, 1) := by decide +kernel
theorem dX7_init_0 : decode cX7_init 0 = .ok (.aload_n 0, 1) := by decide +kernel
theorem dX7_init_1 : decode cX7_init 1 = .ok (.invokespecial 3, 3) := by decide +kernel
theorem dX7_init_4 : decode cX7_init 4 = .ok (.aload_n 0, 1) := by decide +kernel
theorem dX7_init_5 : decode cX7_init 5 = .ok (.new 9, 3) := by decide +kernel
theorem dX7_init_8 : decode cX7_init 8 = .ok (.dup, 1) := by decide +kernel
theorem dX7_init_9 : decode cX7_init 9 = .ok (.sipush 1344, 3) := by decide +kernel
theorem dX7_init_12 : decode cX7_init 12 = .ok (.invokespecial 11, 3) := by decide +kernel
theorem dX7_init_15 : decode cX7_init 15 = .ok (.putfield 14, 3) := by decide +kernel
theorem dX7_init_18 : decode cX7_init 18 = .ok (.aload_n 0, 1) := by decide +kernel
theorem dX7_init_19 : decode cX7_init 19 = .ok (.iconst 0, 1) := by decide +kernel
theorem dX7_init_20 : decode cX7_init 20 = .ok (.putfield 20, 3) := by decide +kernel
theorem dX7_init_23 : decode cX7_init 23 = .ok (.aload_n 0, 1) := by decide +kernel
theorem dX7_init_24 : decode cX7_init 24 = .ok (.iconst 0, 1) := by decide +kernel
theorem dX7_init_25 : decode cX7_init 25 = .ok (.putfield 24, 3) := by decide +kernel
theorem dX7_init_28 : decode cX7_init 28 = .ok (.aload_n 0, 1) := by decide +kernel
theorem dX7_init_29 : decode cX7_init 29 = .ok (.iconst 0, 1) := by decide +kernel
theorem dX7_init_30 : decode cX7_init 30 = .ok (.putfield 27, 3) := by decide +kernel
theorem dX7_init_33 : decode cX7_init 33 = .ok (.aload_n 0, 1) := by decide +kernel
theorem dX7_init_34 : decode cX7_init 34 = .ok (.iconst 0, 1) := by decide +kernel
theorem dX7_init_35 : decode cX7_init 35 = .ok (.putfield 30, 3) := by decide +kernel
theorem dX7_init_38 : decode cX7_init 38 = .ok (.aload_n 0, 1) := by decide +kernel
theorem dX7_init_39 : decode cX7_init 39 = .ok (.iconst (-1), 1) := by decide +kernel
theorem dX7_init_40 : decode cX7_init 40 = .ok (.putfield 33, 3) := by decide +kernel
theorem dX7_init_43 : decode cX7_init 43 = .ok (.return_, 1) := by decide +kernel
theorem dX1_init_0 : decode cX1_init 0 = .ok (.aload_n 0, 1) := by decide +kernel
theorem dX1_init_1 : decode cX1_init 1 = .ok (.invokespecial 3, 3) := by decide +kernel
theorem dX1_init_4 : decode cX1_init 4 = .ok (.aload_n 0, 1) := by decide +kernel
theorem dX1_init_5 : decode cX1_init 5 = .ok (.new 9, 3) := by decide +kernel
theorem dX1_init_8 : decode cX1_init 8 = .ok (.dup, 1) := by decide +kernel
theorem dX1_init_9 : decode cX1_init 9 = .ok (.invokespecial 11, 3) := by decide +kernel
theorem dX1_init_12 : decode cX1_init 12 = .ok (.putfield 12, 3) := by decide +kernel
theorem dX1_init_15 : decode cX1_init 15 = .ok (.aload_n 0, 1) := by decide +kernel
theorem dX1_init_16 : decode cX1_init 16 = .ok (.new 18, 3) := by decide +kernel
theorem dX1_init_19 : decode cX1_init 19 = .ok (.dup, 1) := by decide +kernel
theorem dX1_init_20 : decode cX1_init 20 = .ok (.invokespecial 20, 3) := by decide +kernel
theorem dX1_init_23 : decode cX1_init 23 = .ok (.putfield 21, 3) := by decide +kernel
theorem dX1_init_26 : decode cX1_init 26 = .ok (.aload_n 0, 1) := by decide +kernel
theorem dX1_init_27 : decode cX1_init 27 = .ok (.new 25, 3) := by decide +kernel
theorem dX1_init_30 : decode cX1_init 30 = .ok (.dup, 1) := by decide +kernel
theorem dX1_init_31 : decode cX1_init 31 = .ok (.bipush 64, 2) := by decide +kernel
theorem dX1_init_33 : decode cX1_init 33 = .ok (.invokespecial 27, 3) := by decide +kernel
theorem dX1_init_36 : decode cX1_init 36 = .ok (.putfield 30, 3) := by decide +kernel
theorem dX1_init_39 : decode cX1_init 39 = .ok (.aload_n 0, 1) := by decide +kernel
theorem dX1_init_40 : decode cX1_init 40 = .ok (.new 25, 3) := by decide +kernel
theorem dX1_init_43 : decode cX1_init 43 = .ok (.dup, 1) := by decide +kernel
theorem dX1_init_44 : decode cX1_init 44 = .ok (.bipush 64, 2) := by decide +kernel
theorem dX1_init_46 : decode cX1_init 46 = .ok (.invokespecial 27, 3) := by decide +kernel
theorem dX1_init_49 : decode cX1_init 49 = .ok (.putfield 34, 3) := by decide +kernel
theorem dX1_init_52 : decode cX1_init 52 = .ok (.return_, 1) := by decide +kernel
theorem dX8_init_0 : decode cX8_init 0 = .ok (.aload_n 0, 1) := by decide +kernel
theorem dX8_init_1 : decode cX8_init 1 = .ok (.invokespecial 3, 3) := by decide +kernel
theorem dX8_init_4 : decode cX8_init 4 = .ok (.aload_n 0, 1) := by decide +kernel
theorem dX8_init_5 : decode cX8_init 5 = .ok (.new 9, 3) := by decide +kernel
theorem dX8_init_8 : decode cX8_init 8 = .ok (.dup, 1) := by decide +kernel
theorem dX8_init_9 : decode cX8_init 9 = .ok (.invokespecial 11, 3) := by decide +kernel
theorem dX8_init_12 : decode cX8_init 12 = .ok (.putfield 12, 3) := by decide +kernel
theorem dX8_init_15 : decode cX8_init 15 = .ok (.aload_n 0, 1) := by decide +kernel
theorem dX8_init_16 : decode cX8_init 16 = .ok (.new 16, 3) := by decide +kernel
theorem dX8_init_19 : decode cX8_init 19 = .ok (.dup, 1) := by decide +kernel
theorem dX8_init_20 : decode cX8_init 20 = .ok (.invokespecial 18, 3) := by decide +kernel
theorem dX8_init_23 : decode cX8_init 23 = .ok (.putfield 19, 3) := by decide +kernel
theorem dX8_init_26 : decode cX8_init 26 = .ok (.aload_n 0, 1) := by decide +kernel
theorem dX8_init_27 : decode cX8_init 27 = .ok (.new 23, 3) := by decide +kernel
theorem dX8_init_30 : decode cX8_init 30 = .ok (.dup, 1) := by decide +kernel
theorem dX8_init_31 : decode cX8_init 31 = .ok (.invokespecial 25, 3) := by decide +kernel
theorem dX8_init_34 : decode cX8_init 34 = .ok (.putfield 26, 3) := by decide +kernel
theorem dX8_init_37 : decode cX8_init 37 = .ok (.aload_n 0, 1) := by decide +kernel
theorem dX8_init_38 : decode cX8_init 38 = .ok (.new 30, 3) := by decide +kernel
theorem dX8_init_41 : decode cX8_init 41 = .ok (.dup, 1) := by decide +kernel
theorem dX8_init_42 : decode cX8_init 42 = .ok (.invokespecial 32, 3) := by decide +kernel
theorem dX8_init_45 : decode cX8_init 45 = .ok (.putfield 33, 3) := by decide +kernel
theorem dX8_init_48 : decode cX8_init 48 = .ok (.aload_n 0, 1) := by decide +kernel
theorem dX8_init_49 : decode cX8_init 49 = .ok (.new 37, 3) := by decide +kernel
theorem dX8_init_52 : decode cX8_init 52 = .ok (.dup, 1) := by decide +kernel
theorem dX8_init_53 : decode cX8_init 53 = .ok (.invokespecial 39, 3) := by decide +kernel
theorem dX8_init_56 : decode cX8_init 56 = .ok (.putfield 40, 3) := by decide +kernel
theorem dX8_init_59 : decode cX8_init 59 = .ok (.aload_n 0, 1) := by decide +kernel
theorem dX8_init_60 : decode cX8_init 60 = .ok (.new 44, 3) := by decide +kernel
theorem dX8_init_63 : decode cX8_init 63 = .ok (.dup, 1) := by decide +kernel
theorem dX8_init_64 : decode cX8_init 64 = .ok (.iconst 2, 1) := by decide +kernel
theorem dX8_init_65 : decode cX8_init 65 = .ok (.invokespecial 46, 3) := by decide +kernel
theorem dX8_init_68 : decode cX8_init 68 = .ok (.putfield 49, 3) := by decide +kernel
theorem dX8_init_71 : decode cX8_init 71 = .ok (.return_, 1) := by decide +kernel
set_option maxHeartbeats 4000000 in
set_option maxRecDepth 100000 in
theorem n_X0_init_64 (l : Launch) (D : va_G) (cA : ClassId) (a0 : Nat) : zMI l D cA yX0_init cX0_init 2 1 30 1 64 [.ref a0, .int 64] [(a0, .inr (0, [.null]))] (fun as => [(a0, .inr (0, [.ref (as 0)])), ((as 0), .inl (cA, 64, .inl (fun _ => 0)))]) := by
  refine z_bodyI (by decide) rfl (Nat.le_of_ble_eq_true rfl) ?_
  intro p e s m args below meth c ls H locs A hin X hl hw
  have hl : lv_has ls 2 [(0, .ref a0), (1, .int 64)] := hl
  refine z_aload_n 0 X dX0_init_0 hl 0 rfl ?_
  refine z_obj 1 ml_0_1 mo_obj X dX0_init_1 hl ⟨Nat.le_of_ble_eq_true rfl, Nat.le_of_ble_eq_true rfl⟩ ?_
  refine z_aload_n 4 X dX0_init_4 hl 0 rfl ?_
  refine z_iconst 5 0 X dX0_init_5 (by decide) ?_
  refine z_iload_n 6 X dX0_init_6 hl 1 rfl ?_
  refine z_max 7 ml_0_7 mq_max X dX0_init_7 hl ⟨Nat.le_of_ble_eq_true rfl, Nat.le_of_ble_eq_true rfl⟩ ⟨Nat.le_of_ble_eq_true rfl, Nat.le_of_ble_eq_true rfl⟩ ?_
  refine z_newa 10 64 mk_int X dX0_init_10 hw (by decide) (by decide) (Nat.le_of_ble_eq_true rfl) ⟨Nat.le_of_ble_eq_true rfl, Nat.le_of_ble_eq_true rfl⟩ (fun q1 H hw => ?_)
  have hw : zH D A s [(a0, .inr (0, [.null])), (q1, .inl (cA, 64, .inl (fun _ => 0)))] H locs := hw
  refine z_putF 12 zc0 0 0 [(a0, .inr (0, [.ref q1])), (q1, .inl (cA, 64, .inl (fun _ => 0)))] fl_0_13 hin X dX0_init_12 hw rfl (by decide) rfl rfl rfl rfl (Nat.le_of_ble_eq_true rfl) rfl (fun H locs hw => ?_)
  exact z_vretI 15 (fun k => match k with | 0 => q1 | _ => 0) X dX0_init_15 hw rfl rfl rfl
set_option maxHeartbeats 4000000 in
set_option maxRecDepth 100000 in
theorem n_X5_init (l : Launch) (D : va_G) (cA : ClassId) (a0 : Nat) : zMI l D cA yX5_init cX5_init 1 2 51 2 65 [.ref a0] [(a0, .inr (5, [.null, .int 0, .int 0, .int 0]))] (fun as => [(a0, .inr (5, [.ref (as 0), .int 0, .int 4, .int 8])), ((as 0), .inr (0, [.ref (as 1)])), ((as 1), .inl (cA, 64, .inl (fun _ => 0)))]) := by
  refine z_bodyI (by decide) rfl (Nat.le_of_ble_eq_true rfl) ?_
  intro p e s m args below meth c ls H locs A hin X hl hw
  have hl : lv_has ls 1 [(0, .ref a0)] := hl
  refine z_aload_n 0 X dX5_init_0 hl 0 rfl ?_
  refine z_obj 1 ml_5_3 mo_obj X dX5_init_1 hl ⟨Nat.le_of_ble_eq_true rfl, Nat.le_of_ble_eq_true rfl⟩ ?_
  refine z_aload_n 4 X dX5_init_4 hl 0 rfl ?_
  refine z_new 5 zc0 kl_5_9 kc_0 [.null] X dX5_init_5 hw (fun j hj => by rw [show j = 0 by omega]; rfl) ⟨Nat.le_of_ble_eq_true rfl, Nat.le_of_ble_eq_true rfl⟩ (fun q1 H hw => ?_)
  have hw : zH D A s [(a0, .inr (5, [.null, .int 0, .int 0, .int 0])), (q1, .inr (0, [.null]))] H locs := hw
  refine z_dup 8 X dX5_init_8 rfl ?_
  refine z_bipush 9 64 X dX5_init_9 (by decide) ?_
  refine z_callI 11 mc_0 ml_5_11 [1] [0] [.ref q1, .ref a0] [(a0, .inr (5, [.null, .int 0, .int 0, .int 0]))] (n_X0_init_64 l D cA q1) X dX5_init_11 hw hl rfl rfl (by decide +kernel) (by decide +kernel) (by decide +kernel) rfl rfl (Nat.le_of_ble_eq_true rfl) ⟨Nat.le_of_ble_eq_true rfl, Nat.le_of_ble_eq_true rfl⟩ ⟨Nat.le_of_ble_eq_true rfl, Nat.le_of_ble_eq_true rfl⟩ (fun as2 H locs hw => ?_)
  have hw : zH D A s [(a0, .inr (5, [.null, .int 0, .int 0, .int 0])), (q1, .inr (0, [.ref (as2 0)])), ((as2 0), .inl (cA, 64, .inl (fun _ => 0)))] H locs := hw
  refine z_putF 14 zc5 0 0 [(a0, .inr (5, [.ref q1, .int 0, .int 0, .int 0])), (q1, .inr (0, [.ref (as2 0)])), ((as2 0), .inl (cA, 64, .inl (fun _ => 0)))] fl_5_14 hin X dX5_init_14 hw rfl (by decide) rfl rfl rfl rfl (Nat.le_of_ble_eq_true rfl) rfl (fun H locs hw => ?_)
  refine z_aload_n 17 X dX5_init_17 hl 0 rfl ?_
  refine z_iconst 18 0 X dX5_init_18 (by decide) ?_
  refine z_put 19 zc5 0 1 [(a0, .inr (5, [.ref q1, .int 0, .int 0, .int 0])), (q1, .inr (0, [.ref (as2 0)])), ((as2 0), .inl (cA, 64, .inl (fun _ => 0)))] fl_5_20 X dX5_init_19 hw rfl (by decide) rfl rfl rfl (Nat.le_of_ble_eq_true rfl) rfl (fun H locs hw => ?_)
  refine z_aload_n 22 X dX5_init_22 hl 0 rfl ?_
  refine z_iconst 23 4 X dX5_init_23 (by decide) ?_
  refine z_put 24 zc5 0 2 [(a0, .inr (5, [.ref q1, .int 0, .int 4, .int 0])), (q1, .inr (0, [.ref (as2 0)])), ((as2 0), .inl (cA, 64, .inl (fun _ => 0)))] fl_5_24 X dX5_init_24 hw rfl (by decide) rfl rfl rfl (Nat.le_of_ble_eq_true rfl) rfl (fun H locs hw => ?_)
  refine z_aload_n 27 X dX5_init_27 hl 0 rfl ?_
  refine z_bipush 28 8 X dX5_init_28 (by decide) ?_
  refine z_put 30 zc5 0 3 [(a0, .inr (5, [.ref q1, .int 0, .int 4, .int 8])), (q1, .inr (0, [.ref (as2 0)])), ((as2 0), .inl (cA, 64, .inl (fun _ => 0)))] fl_5_27 X dX5_init_30 hw rfl (by decide) rfl rfl rfl (Nat.le_of_ble_eq_true rfl) rfl (fun H locs hw => ?_)
  exact z_vretI 33 (fun k => match k with | 0 => q1 | 1 => (as2 0) | _ => 0) X dX5_init_33 hw rfl rfl rfl
set_option maxHeartbeats 4000000 in
set_option maxRecDepth 100000 in
theorem n_X0_init_1040 (l : Launch) (D : va_G) (cA : ClassId) (a0 : Nat) : zMI l D cA yX0_init cX0_init 2 1 30 1 1040 [.ref a0, .int 1040] [(a0, .inr (0, [.null]))] (fun as => [(a0, .inr (0, [.ref (as 0)])), ((as 0), .inl (cA, 1040, .inl (fun _ => 0)))]) := by
  refine z_bodyI (by decide) rfl (Nat.le_of_ble_eq_true rfl) ?_
  intro p e s m args below meth c ls H locs A hin X hl hw
  have hl : lv_has ls 2 [(0, .ref a0), (1, .int 1040)] := hl
  refine z_aload_n 0 X dX0_init_0 hl 0 rfl ?_
  refine z_obj 1 ml_0_1 mo_obj X dX0_init_1 hl ⟨Nat.le_of_ble_eq_true rfl, Nat.le_of_ble_eq_true rfl⟩ ?_
  refine z_aload_n 4 X dX0_init_4 hl 0 rfl ?_
  refine z_iconst 5 0 X dX0_init_5 (by decide) ?_
  refine z_iload_n 6 X dX0_init_6 hl 1 rfl ?_
  refine z_max 7 ml_0_7 mq_max X dX0_init_7 hl ⟨Nat.le_of_ble_eq_true rfl, Nat.le_of_ble_eq_true rfl⟩ ⟨Nat.le_of_ble_eq_true rfl, Nat.le_of_ble_eq_true rfl⟩ ?_
  refine z_newa 10 1040 mk_int X dX0_init_10 hw (by decide) (by decide) (Nat.le_of_ble_eq_true rfl) ⟨Nat.le_of_ble_eq_true rfl, Nat.le_of_ble_eq_true rfl⟩ (fun q1 H hw => ?_)
  have hw : zH D A s [(a0, .inr (0, [.null])), (q1, .inl (cA, 1040, .inl (fun _ => 0)))] H locs := hw
  refine z_putF 12 zc0 0 0 [(a0, .inr (0, [.ref q1])), (q1, .inl (cA, 1040, .inl (fun _ => 0)))] fl_0_13 hin X dX0_init_12 hw rfl (by decide) rfl rfl rfl rfl (Nat.le_of_ble_eq_true rfl) rfl (fun H locs hw => ?_)
  exact z_vretI 15 (fun k => match k with | 0 => q1 | _ => 0) X dX0_init_15 hw rfl rfl rfl
set_option maxHeartbeats 4000000 in
set_option maxRecDepth 100000 in
theorem n_X4_init (l : Launch) (D : va_G) (cA : ClassId) (a0 : Nat) : zMI l D cA yX4_init cX4_init 1 2 51 2 1041 [.ref a0] [(a0, .inr (4, [.null, .int 0]))] (fun as => [(a0, .inr (4, [.ref (as 0), .int 0])), ((as 0), .inr (0, [.ref (as 1)])), ((as 1), .inl (cA, 1040, .inl (fun _ => 0)))]) := by
  refine z_bodyI (by decide) rfl (Nat.le_of_ble_eq_true rfl) ?_
  intro p e s m args below meth c ls H locs A hin X hl hw
  have hl : lv_has ls 1 [(0, .ref a0)] := hl
  refine z_aload_n 0 X dX4_init_0 hl 0 rfl ?_
  refine z_obj 1 ml_4_3 mo_obj X dX4_init_1 hl ⟨Nat.le_of_ble_eq_true rfl, Nat.le_of_ble_eq_true rfl⟩ ?_
  refine z_aload_n 4 X dX4_init_4 hl 0 rfl ?_
  refine z_new 5 zc0 kl_4_9 kc_0 [.null] X dX4_init_5 hw (fun j hj => by rw [show j = 0 by omega]; rfl) ⟨Nat.le_of_ble_eq_true rfl, Nat.le_of_ble_eq_true rfl⟩ (fun q1 H hw => ?_)
  have hw : zH D A s [(a0, .inr (4, [.null, .int 0])), (q1, .inr (0, [.null]))] H locs := hw
  refine z_dup 8 X dX4_init_8 rfl ?_
  refine z_sipush 9 1040 X dX4_init_9 (by decide) ?_
  refine z_callI 12 mc_0 ml_4_13 [1] [0] [.ref q1, .ref a0] [(a0, .inr (4, [.null, .int 0]))] (n_X0_init_1040 l D cA q1) X dX4_init_12 hw hl rfl rfl (by decide +kernel) (by decide +kernel) (by decide +kernel) rfl rfl (Nat.le_of_ble_eq_true rfl) ⟨Nat.le_of_ble_eq_true rfl, Nat.le_of_ble_eq_true rfl⟩ ⟨Nat.le_of_ble_eq_true rfl, Nat.le_of_ble_eq_true rfl⟩ (fun as2 H locs hw => ?_)
  have hw : zH D A s [(a0, .inr (4, [.null, .int 0])), (q1, .inr (0, [.ref (as2 0)])), ((as2 0), .inl (cA, 1040, .inl (fun _ => 0)))] H locs := hw
  refine z_putF 15 zc4 0 0 [(a0, .inr (4, [.ref q1, .int 0])), (q1, .inr (0, [.ref (as2 0)])), ((as2 0), .inl (cA, 1040, .inl (fun _ => 0)))] fl_4_16 hin X dX4_init_15 hw rfl (by decide) rfl rfl rfl rfl (Nat.le_of_ble_eq_true rfl) rfl (fun H locs hw => ?_)
  refine z_aload_n 18 X dX4_init_18 hl 0 rfl ?_
  refine z_iconst 19 0 X dX4_init_19 (by decide) ?_
  refine z_put 20 zc4 0 1 [(a0, .inr (4, [.ref q1, .int 0])), (q1, .inr (0, [.ref (as2 0)])), ((as2 0), .inl (cA, 1040, .inl (fun _ => 0)))] fl_4_20 X dX4_init_20 hw rfl (by decide) rfl rfl rfl (Nat.le_of_ble_eq_true rfl) rfl (fun H locs hw => ?_)
  exact z_vretI 23 (fun k => match k with | 0 => q1 | 1 => (as2 0) | _ => 0) X dX4_init_23 hw rfl rfl rfl
set_option maxHeartbeats 4000000 in
set_option maxRecDepth 100000 in
theorem n_X0_init_1344 (l : Launch) (D : va_G) (cA : ClassId) (a0 : Nat) : zMI l D cA yX0_init cX0_init 2 1 30 1 1344 [.ref a0, .int 1344] [(a0, .inr (0, [.null]))] (fun as => [(a0, .inr (0, [.ref (as 0)])), ((as 0), .inl (cA, 1344, .inl (fun _ => 0)))]) := by
  refine z_bodyI (by decide) rfl (Nat.le_of_ble_eq_true rfl) ?_
  intro p e s m args below meth c ls H locs A hin X hl hw
  have hl : lv_has ls 2 [(0, .ref a0), (1, .int 1344)] := hl
  refine z_aload_n 0 X dX0_init_0 hl 0 rfl ?_
  refine z_obj 1 ml_0_1 mo_obj X dX0_init_1 hl ⟨Nat.le_of_ble_eq_true rfl, Nat.le_of_ble_eq_true rfl⟩ ?_
  refine z_aload_n 4 X dX0_init_4 hl 0 rfl ?_
  refine z_iconst 5 0 X dX0_init_5 (by decide) ?_
  refine z_iload_n 6 X dX0_init_6 hl 1 rfl ?_
  refine z_max 7 ml_0_7 mq_max X dX0_init_7 hl ⟨Nat.le_of_ble_eq_true rfl, Nat.le_of_ble_eq_true rfl⟩ ⟨Nat.le_of_ble_eq_true rfl, Nat.le_of_ble_eq_true rfl⟩ ?_
  refine z_newa 10 1344 mk_int X dX0_init_10 hw (by decide) (by decide) (Nat.le_of_ble_eq_true rfl) ⟨Nat.le_of_ble_eq_true rfl, Nat.le_of_ble_eq_true rfl⟩ (fun q1 H hw => ?_)
  have hw : zH D A s [(a0, .inr (0, [.null])), (q1, .inl (cA, 1344, .inl (fun _ => 0)))] H locs := hw
  refine z_putF 12 zc0 0 0 [(a0, .inr (0, [.ref q1])), (q1, .inl (cA, 1344, .inl (fun _ => 0)))] fl_0_13 hin X dX0_init_12 hw rfl (by decide) rfl rfl rfl rfl (Nat.le_of_ble_eq_true rfl) rfl (fun H locs hw => ?_)
  exact z_vretI 15 (fun k => match k with | 0 => q1 | _ => 0) X dX0_init_15 hw rfl rfl rfl
set_option maxHeartbeats 4000000 in
set_option maxRecDepth 100000 in
theorem n_X7_init (l : Launch) (D : va_G) (cA : ClassId) (a0 : Nat) : zMI l D cA yX7_init cX7_init 1 2 51 2 1345 [.ref a0] [(a0, .inr (7, [.null, .int 0, .int 0, .int 0, .int 0, .int 0]))] (fun as => [(a0, .inr (7, [.ref (as 0), .int 0, .int 0, .int 0, .int 0, .int (-1)])), ((as 0), .inr (0, [.ref (as 1)])), ((as 1), .inl (cA, 1344, .inl (fun _ => 0)))]) := by
  refine z_bodyI (by decide) rfl (Nat.le_of_ble_eq_true rfl) ?_
  intro p e s m args below meth c ls H locs A hin X hl hw
  have hl : lv_has ls 1 [(0, .ref a0)] := hl
  refine z_aload_n 0 X dX7_init_0 hl 0 rfl ?_
  refine z_obj 1 ml_7_3 mo_obj X dX7_init_1 hl ⟨Nat.le_of_ble_eq_true rfl, Nat.le_of_ble_eq_true rfl⟩ ?_
  refine z_aload_n 4 X dX7_init_4 hl 0 rfl ?_
  refine z_new 5 zc0 kl_7_9 kc_0 [.null] X dX7_init_5 hw (fun j hj => by rw [show j = 0 by omega]; rfl) ⟨Nat.le_of_ble_eq_true rfl, Nat.le_of_ble_eq_true rfl⟩ (fun q1 H hw => ?_)
  have hw : zH D A s [(a0, .inr (7, [.null, .int 0, .int 0, .int 0, .int 0, .int 0])), (q1, .inr (0, [.null]))] H locs := hw
  refine z_dup 8 X dX7_init_8 rfl ?_
  refine z_sipush 9 1344 X dX7_init_9 (by decide) ?_
  refine z_callI 12 mc_0 ml_7_11 [1] [0] [.ref q1, .ref a0] [(a0, .inr (7, [.null, .int 0, .int 0, .int 0, .int 0, .int 0]))] (n_X0_init_1344 l D cA q1) X dX7_init_12 hw hl rfl rfl (by decide +kernel) (by decide +kernel) (by decide +kernel) rfl rfl (Nat.le_of_ble_eq_true rfl) ⟨Nat.le_of_ble_eq_true rfl, Nat.le_of_ble_eq_true rfl⟩ ⟨Nat.le_of_ble_eq_true rfl, Nat.le_of_ble_eq_true rfl⟩ (fun as2 H locs hw => ?_)
  have hw : zH D A s [(a0, .inr (7, [.null, .int 0, .int 0, .int 0, .int 0, .int 0])), (q1, .inr (0, [.ref (as2 0)])), ((as2 0), .inl (cA, 1344, .inl (fun _ => 0)))] H locs := hw
  refine z_putF 15 zc7 0 0 [(a0, .inr (7, [.ref q1, .int 0, .int 0, .int 0, .int 0, .int 0])), (q1, .inr (0, [.ref (as2 0)])), ((as2 0), .inl (cA, 1344, .inl (fun _ => 0)))] fl_7_14 hin X dX7_init_15 hw rfl (by decide) rfl rfl rfl rfl (Nat.le_of_ble_eq_true rfl) rfl (fun H locs hw => ?_)
  refine z_aload_n 18 X dX7_init_18 hl 0 rfl ?_
  refine z_iconst 19 0 X dX7_init_19 (by decide) ?_
  refine z_put 20 zc7 0 1 [(a0, .inr (7, [.ref q1, .int 0, .int 0, .int 0, .int 0, .int 0])), (q1, .inr (0, [.ref (as2 0)])), ((as2 0), .inl (cA, 1344, .inl (fun _ => 0)))] fl_7_20 X dX7_init_20 hw rfl (by decide) rfl rfl rfl (Nat.le_of_ble_eq_true rfl) rfl (fun H locs hw => ?_)
  refine z_aload_n 23 X dX7_init_23 hl 0 rfl ?_
  refine z_iconst 24 0 X dX7_init_24 (by decide) ?_
  refine z_put 25 zc7 0 2 [(a0, .inr (7, [.ref q1, .int 0, .int 0, .int 0, .int 0, .int 0])), (q1, .inr (0, [.ref (as2 0)])), ((as2 0), .inl (cA, 1344, .inl (fun _ => 0)))] fl_7_24 X dX7_init_25 hw rfl (by decide) rfl rfl rfl (Nat.le_of_ble_eq_true rfl) rfl (fun H locs hw => ?_)
  refine z_aload_n 28 X dX7_init_28 hl 0 rfl ?_
  refine z_iconst 29 0 X dX7_init_29 (by decide) ?_
  refine z_put 30 zc7 0 3 [(a0, .inr (7, [.ref q1, .int 0, .int 0, .int 0, .int 0, .int 0])), (q1, .inr (0, [.ref (as2 0)])), ((as2 0), .inl (cA, 1344, .inl (fun _ => 0)))] fl_7_27 X dX7_init_30 hw rfl (by decide) rfl rfl rfl (Nat.le_of_ble_eq_true rfl) rfl (fun H locs hw => ?_)
  refine z_aload_n 33 X dX7_init_33 hl 0 rfl ?_
  refine z_iconst 34 0 X dX7_init_34 (by decide) ?_
  refine z_put 35 zc7 0 4 [(a0, .inr (7, [.ref q1, .int 0, .int 0, .int 0, .int 0, .int 0])), (q1, .inr (0, [.ref (as2 0)])), ((as2 0), .inl (cA, 1344, .inl (fun _ => 0)))] fl_7_30 X dX7_init_35 hw rfl (by decide) rfl rfl rfl (Nat.le_of_ble_eq_true rfl) rfl (fun H locs hw => ?_)
  refine z_aload_n 38 X dX7_init_38 hl 0 rfl ?_
  refine z_iconst 39 (-1) X dX7_init_39 (by decide) ?_
  refine z_put 40 zc7 0 5 [(a0, .inr (7, [.ref q1, .int 0, .int 0, .int 0, .int 0, .int (-1)])), (q1, .inr (0, [.ref (as2 0)])), ((as2 0), .inl (cA, 1344, .inl (fun _ => 0)))] fl_7_33 X dX7_init_40 hw rfl (by decide) rfl rfl rfl (Nat.le_of_ble_eq_true rfl) rfl (fun H locs hw => ?_)
  exact z_vretI 43 (fun k => match k with | 0 => q1 | 1 => (as2 0) | _ => 0) X dX7_init_43 hw rfl rfl rfl
set_option maxHeartbeats 4000000 in
set_option maxRecDepth 100000 in
theorem n_X1_init (l : Launch) (D : va_G) (cA : ClassId) (a0 : Nat) : zMI l D cA yX1_init cX1_init 1 3 71 10 2524 [.ref a0] [(a0, .inr (1, [.null, .null, .null, .null]))] (fun as => [(a0, .inr (1, [.ref (as 0), .ref (as 3), .ref (as 6), .ref (as 8)])), ((as 0), .inr (4, [.ref (as 1), .int 0])), ((as 1), .inr (0, [.ref (as 2)])), ((as 2), .inl (cA, 1040, .inl (fun _ => 0))), ((as 3), .inr (7, [.ref (as 4), .int 0, .int 0, .int 0, .int 0, .int (-1)])), ((as 4), .inr (0, [.ref (as 5)])), ((as 5), .inl (cA, 1344, .inl (fun _ => 0))), ((as 6), .inr (0, [.ref (as 7)])), ((as 7), .inl (cA, 64, .inl (fun _ => 0))), ((as 8), .inr (0, [.ref (as 9)])), ((as 9), .inl (cA, 64, .inl (fun _ => 0)))]) := by
  refine z_bodyI (by decide) rfl (Nat.le_of_ble_eq_true rfl) ?_
  intro p e s m args below meth c ls H locs A hin X hl hw
  have hl : lv_has ls 1 [(0, .ref a0)] := hl
  refine z_aload_n 0 X dX1_init_0 hl 0 rfl ?_
  refine z_obj 1 ml_1_3 mo_obj X dX1_init_1 hl ⟨Nat.le_of_ble_eq_true rfl, Nat.le_of_ble_eq_true rfl⟩ ?_
  refine z_aload_n 4 X dX1_init_4 hl 0 rfl ?_
  refine z_new 5 zc4 kl_1_9 kc_4 [.null, .int 0] X dX1_init_5 hw (fun j hj => by rcases (show j = 0 ∨ j = 1 by omega) with rfl | rfl <;> rfl) ⟨Nat.le_of_ble_eq_true rfl, Nat.le_of_ble_eq_true rfl⟩ (fun q1 H hw => ?_)
  have hw : zH D A s [(a0, .inr (1, [.null, .null, .null, .null])), (q1, .inr (4, [.null, .int 0]))] H locs := hw
  refine z_dup 8 X dX1_init_8 rfl ?_
  refine z_callIN 9 mc_4 ml_1_11 [1] [0] [.ref q1, .ref a0] [(a0, .inr (1, [.null, .null, .null, .null]))] (n_X4_init l D cA q1) X dX1_init_9 hw hl rfl rfl (by decide +kernel) (by decide +kernel) (by decide +kernel) rfl rfl (Nat.le_of_ble_eq_true rfl) ⟨Nat.le_of_ble_eq_true rfl, Nat.le_of_ble_eq_true rfl⟩ ⟨Nat.le_of_ble_eq_true rfl, Nat.le_of_ble_eq_true rfl⟩ (fun as2 H locs hw => ?_)
  have hw : zH D A s [(a0, .inr (1, [.null, .null, .null, .null])), (q1, .inr (4, [.ref (as2 0), .int 0])), ((as2 0), .inr (0, [.ref (as2 1)])), ((as2 1), .inl (cA, 1040, .inl (fun _ => 0)))] H locs := hw
  refine z_putF 12 zc1 0 0 [(a0, .inr (1, [.ref q1, .null, .null, .null])), (q1, .inr (4, [.ref (as2 0), .int 0])), ((as2 0), .inr (0, [.ref (as2 1)])), ((as2 1), .inl (cA, 1040, .inl (fun _ => 0)))] fl_1_12 hin X dX1_init_12 hw rfl (by decide) rfl rfl rfl rfl (Nat.le_of_ble_eq_true rfl) rfl (fun H locs hw => ?_)
  refine z_aload_n 15 X dX1_init_15 hl 0 rfl ?_
  refine z_new 16 zc7 kl_1_18 kc_7 [.null, .int 0, .int 0, .int 0, .int 0, .int 0] X dX1_init_16 hw (fun j hj => by rcases (show j = 0 ∨ j = 1 ∨ j = 2 ∨ j = 3 ∨ j = 4 ∨ j = 5 by omega) with rfl | rfl | rfl | rfl | rfl | rfl <;> rfl) ⟨Nat.le_of_ble_eq_true rfl, Nat.le_of_ble_eq_true rfl⟩ (fun q3 H hw => ?_)
  have hw : zH D A s [(a0, .inr (1, [.ref q1, .null, .null, .null])), (q1, .inr (4, [.ref (as2 0), .int 0])), ((as2 0), .inr (0, [.ref (as2 1)])), ((as2 1), .inl (cA, 1040, .inl (fun _ => 0))), (q3, .inr (7, [.null, .int 0, .int 0, .int 0, .int 0, .int 0]))] H locs := hw
  refine z_dup 19 X dX1_init_19 rfl ?_
  refine z_callIN 20 mc_7 ml_1_20 [4] [0, 1, 2, 3] [.ref q3, .ref a0] [(a0, .inr (1, [.ref q1, .null, .null, .null])), (q1, .inr (4, [.ref (as2 0), .int 0])), ((as2 0), .inr (0, [.ref (as2 1)])), ((as2 1), .inl (cA, 1040, .inl (fun _ => 0)))] (n_X7_init l D cA q3) X dX1_init_20 hw hl rfl rfl (by decide +kernel) (by decide +kernel) (by decide +kernel) rfl rfl (Nat.le_of_ble_eq_true rfl) ⟨Nat.le_of_ble_eq_true rfl, Nat.le_of_ble_eq_true rfl⟩ ⟨Nat.le_of_ble_eq_true rfl, Nat.le_of_ble_eq_true rfl⟩ (fun as4 H locs hw => ?_)
  have hw : zH D A s [(a0, .inr (1, [.ref q1, .null, .null, .null])), (q1, .inr (4, [.ref (as2 0), .int 0])), ((as2 0), .inr (0, [.ref (as2 1)])), ((as2 1), .inl (cA, 1040, .inl (fun _ => 0))), (q3, .inr (7, [.ref (as4 0), .int 0, .int 0, .int 0, .int 0, .int (-1)])), ((as4 0), .inr (0, [.ref (as4 1)])), ((as4 1), .inl (cA, 1344, .inl (fun _ => 0)))] H locs := hw
  refine z_putF 23 zc1 0 1 [(a0, .inr (1, [.ref q1, .ref q3, .null, .null])), (q1, .inr (4, [.ref (as2 0), .int 0])), ((as2 0), .inr (0, [.ref (as2 1)])), ((as2 1), .inl (cA, 1040, .inl (fun _ => 0))), (q3, .inr (7, [.ref (as4 0), .int 0, .int 0, .int 0, .int 0, .int (-1)])), ((as4 0), .inr (0, [.ref (as4 1)])), ((as4 1), .inl (cA, 1344, .inl (fun _ => 0)))] fl_1_21 hin X dX1_init_23 hw rfl (by decide) rfl rfl rfl rfl (Nat.le_of_ble_eq_true rfl) rfl (fun H locs hw => ?_)
  refine z_aload_n 26 X dX1_init_26 hl 0 rfl ?_
  refine z_new 27 zc0 kl_1_25 kc_0 [.null] X dX1_init_27 hw (fun j hj => by rw [show j = 0 by omega]; rfl) ⟨Nat.le_of_ble_eq_true rfl, Nat.le_of_ble_eq_true rfl⟩ (fun q5 H hw => ?_)
  have hw : zH D A s [(a0, .inr (1, [.ref q1, .ref q3, .null, .null])), (q1, .inr (4, [.ref (as2 0), .int 0])), ((as2 0), .inr (0, [.ref (as2 1)])), ((as2 1), .inl (cA, 1040, .inl (fun _ => 0))), (q3, .inr (7, [.ref (as4 0), .int 0, .int 0, .int 0, .int 0, .int (-1)])), ((as4 0), .inr (0, [.ref (as4 1)])), ((as4 1), .inl (cA, 1344, .inl (fun _ => 0))), (q5, .inr (0, [.null]))] H locs := hw
  refine z_dup 30 X dX1_init_30 rfl ?_
  refine z_bipush 31 64 X dX1_init_31 (by decide) ?_
  refine z_callI 33 mc_0 ml_1_27 [7] [0, 1, 2, 3, 4, 5, 6] [.ref q5, .ref a0] [(a0, .inr (1, [.ref q1, .ref q3, .null, .null])), (q1, .inr (4, [.ref (as2 0), .int 0])), ((as2 0), .inr (0, [.ref (as2 1)])), ((as2 1), .inl (cA, 1040, .inl (fun _ => 0))), (q3, .inr (7, [.ref (as4 0), .int 0, .int 0, .int 0, .int 0, .int (-1)])), ((as4 0), .inr (0, [.ref (as4 1)])), ((as4 1), .inl (cA, 1344, .inl (fun _ => 0)))] (n_X0_init_64 l D cA q5) X dX1_init_33 hw hl rfl rfl (by decide +kernel) (by decide +kernel) (by decide +kernel) rfl rfl (Nat.le_of_ble_eq_true rfl) ⟨Nat.le_of_ble_eq_true rfl, Nat.le_of_ble_eq_true rfl⟩ ⟨Nat.le_of_ble_eq_true rfl, Nat.le_of_ble_eq_true rfl⟩ (fun as6 H locs hw => ?_)
  have hw : zH D A s [(a0, .inr (1, [.ref q1, .ref q3, .null, .null])), (q1, .inr (4, [.ref (as2 0), .int 0])), ((as2 0), .inr (0, [.ref (as2 1)])), ((as2 1), .inl (cA, 1040, .inl (fun _ => 0))), (q3, .inr (7, [.ref (as4 0), .int 0, .int 0, .int 0, .int 0, .int (-1)])), ((as4 0), .inr (0, [.ref (as4 1)])), ((as4 1), .inl (cA, 1344, .inl (fun _ => 0))), (q5, .inr (0, [.ref (as6 0)])), ((as6 0), .inl (cA, 64, .inl (fun _ => 0)))] H locs := hw
  refine z_putF 36 zc1 0 2 [(a0, .inr (1, [.ref q1, .ref q3, .ref q5, .null])), (q1, .inr (4, [.ref (as2 0), .int 0])), ((as2 0), .inr (0, [.ref (as2 1)])), ((as2 1), .inl (cA, 1040, .inl (fun _ => 0))), (q3, .inr (7, [.ref (as4 0), .int 0, .int 0, .int 0, .int 0, .int (-1)])), ((as4 0), .inr (0, [.ref (as4 1)])), ((as4 1), .inl (cA, 1344, .inl (fun _ => 0))), (q5, .inr (0, [.ref (as6 0)])), ((as6 0), .inl (cA, 64, .inl (fun _ => 0)))] fl_1_30 hin X dX1_init_36 hw rfl (by decide) rfl rfl rfl rfl (Nat.le_of_ble_eq_true rfl) rfl (fun H locs hw => ?_)
  refine z_aload_n 39 X dX1_init_39 hl 0 rfl ?_
  refine z_new 40 zc0 kl_1_25 kc_0 [.null] X dX1_init_40 hw (fun j hj => by rw [show j = 0 by omega]; rfl) ⟨Nat.le_of_ble_eq_true rfl, Nat.le_of_ble_eq_true rfl⟩ (fun q7 H hw => ?_)
  have hw : zH D A s [(a0, .inr (1, [.ref q1, .ref q3, .ref q5, .null])), (q1, .inr (4, [.ref (as2 0), .int 0])), ((as2 0), .inr (0, [.ref (as2 1)])), ((as2 1), .inl (cA, 1040, .inl (fun _ => 0))), (q3, .inr (7, [.ref (as4 0), .int 0, .int 0, .int 0, .int 0, .int (-1)])), ((as4 0), .inr (0, [.ref (as4 1)])), ((as4 1), .inl (cA, 1344, .inl (fun _ => 0))), (q5, .inr (0, [.ref (as6 0)])), ((as6 0), .inl (cA, 64, .inl (fun _ => 0))), (q7, .inr (0, [.null]))] H locs := hw
  refine z_dup 43 X dX1_init_43 rfl ?_
  refine z_bipush 44 64 X dX1_init_44 (by decide) ?_
  refine z_callI 46 mc_0 ml_1_27 [9] [0, 1, 2, 3, 4, 5, 6, 7, 8] [.ref q7, .ref a0] [(a0, .inr (1, [.ref q1, .ref q3, .ref q5, .null])), (q1, .inr (4, [.ref (as2 0), .int 0])), ((as2 0), .inr (0, [.ref (as2 1)])), ((as2 1), .inl (cA, 1040, .inl (fun _ => 0))), (q3, .inr (7, [.ref (as4 0), .int 0, .int 0, .int 0, .int 0, .int (-1)])), ((as4 0), .inr (0, [.ref (as4 1)])), ((as4 1), .inl (cA, 1344, .inl (fun _ => 0))), (q5, .inr (0, [.ref (as6 0)])), ((as6 0), .inl (cA, 64, .inl (fun _ => 0)))] (n_X0_init_64 l D cA q7) X dX1_init_46 hw hl rfl rfl (by decide +kernel) (by decide +kernel) (by decide +kernel) rfl rfl (Nat.le_of_ble_eq_true rfl) ⟨Nat.le_of_ble_eq_true rfl, Nat.le_of_ble_eq_true rfl⟩ ⟨Nat.le_of_ble_eq_true rfl, Nat.le_of_ble_eq_true rfl⟩ (fun as8 H locs hw => ?_)
  have hw : zH D A s [(a0, .inr (1, [.ref q1, .ref q3, .ref q5, .null])), (q1, .inr (4, [.ref (as2 0), .int 0])), ((as2 0), .inr (0, [.ref (as2 1)])), ((as2 1), .inl (cA, 1040, .inl (fun _ => 0))), (q3, .inr (7, [.ref (as4 0), .int 0, .int 0, .int 0, .int 0, .int (-1)])), ((as4 0), .inr (0, [.ref (as4 1)])), ((as4 1), .inl (cA, 1344, .inl (fun _ => 0))), (q5, .inr (0, [.ref (as6 0)])), ((as6 0), .inl (cA, 64, .inl (fun _ => 0))), (q7, .inr (0, [.ref (as8 0)])), ((as8 0), .inl (cA, 64, .inl (fun _ => 0)))] H locs := hw
  refine z_putF 49 zc1 0 3 [(a0, .inr (1, [.ref q1, .ref q3, .ref q5, .ref q7])), (q1, .inr (4, [.ref (as2 0), .int 0])), ((as2 0), .inr (0, [.ref (as2 1)])), ((as2 1), .inl (cA, 1040, .inl (fun _ => 0))), (q3, .inr (7, [.ref (as4 0), .int 0, .int 0, .int 0, .int 0, .int (-1)])), ((as4 0), .inr (0, [.ref (as4 1)])), ((as4 1), .inl (cA, 1344, .inl (fun _ => 0))), (q5, .inr (0, [.ref (as6 0)])), ((as6 0), .inl (cA, 64, .inl (fun _ => 0))), (q7, .inr (0, [.ref (as8 0)])), ((as8 0), .inl (cA, 64, .inl (fun _ => 0)))] fl_1_34 hin X dX1_init_49 hw rfl (by decide) rfl rfl rfl rfl (Nat.le_of_ble_eq_true rfl) rfl (fun H locs hw => ?_)
  exact z_vretI 52 (fun k => match k with | 0 => q1 | 1 => (as2 0) | 2 => (as2 1) | 3 => q3 | 4 => (as4 0) | 5 => (as4 1) | 6 => q5 | 7 => (as6 0) | 8 => q7 | 9 => (as8 0) | _ => 0) X dX1_init_52 hw rfl rfl rfl
set_option maxHeartbeats 4000000 in
set_option maxRecDepth 100000 in
theorem n_X0_init_80 (l : Launch) (D : va_G) (cA : ClassId) (a0 : Nat) : zMI l D cA yX0_init cX0_init 2 1 30 1 80 [.ref a0, .int 80] [(a0, .inr (0, [.null]))] (fun as => [(a0, .inr (0, [.ref (as 0)])), ((as 0), .inl (cA, 80, .inl (fun _ => 0)))]) := by
  refine z_bodyI (by decide) rfl (Nat.le_of_ble_eq_true rfl) ?_
  intro p e s m args below meth c ls H locs A hin X hl hw
  have hl : lv_has ls 2 [(0, .ref a0), (1, .int 80)] := hl
  refine z_aload_n 0 X dX0_init_0 hl 0 rfl ?_
  refine z_obj 1 ml_0_1 mo_obj X dX0_init_1 hl ⟨Nat.le_of_ble_eq_true rfl, Nat.le_of_ble_eq_true rfl⟩ ?_
  refine z_aload_n 4 X dX0_init_4 hl 0 rfl ?_
  refine z_iconst 5 0 X dX0_init_5 (by decide) ?_
  refine z_iload_n 6 X dX0_init_6 hl 1 rfl ?_
  refine z_max 7 ml_0_7 mq_max X dX0_init_7 hl ⟨Nat.le_of_ble_eq_true rfl, Nat.le_of_ble_eq_true rfl⟩ ⟨Nat.le_of_ble_eq_true rfl, Nat.le_of_ble_eq_true rfl⟩ ?_
  refine z_newa 10 80 mk_int X dX0_init_10 hw (by decide) (by decide) (Nat.le_of_ble_eq_true rfl) ⟨Nat.le_of_ble_eq_true rfl, Nat.le_of_ble_eq_true rfl⟩ (fun q1 H hw => ?_)
  have hw : zH D A s [(a0, .inr (0, [.null])), (q1, .inl (cA, 80, .inl (fun _ => 0)))] H locs := hw
  refine z_putF 12 zc0 0 0 [(a0, .inr (0, [.ref q1])), (q1, .inl (cA, 80, .inl (fun _ => 0)))] fl_0_13 hin X dX0_init_12 hw rfl (by decide) rfl rfl rfl rfl (Nat.le_of_ble_eq_true rfl) rfl (fun H locs hw => ?_)
  exact z_vretI 15 (fun k => match k with | 0 => q1 | _ => 0) X dX0_init_15 hw rfl rfl rfl
set_option maxHeartbeats 4000000 in
set_option maxRecDepth 100000 in
theorem n_X3_init (l : Launch) (D : va_G) (cA : ClassId) (a0 : Nat) : zMI l D cA yX3_init cX3_init 1 2 51 2 81 [.ref a0] [(a0, .inr (3, [.null, .int 0]))] (fun as => [(a0, .inr (3, [.ref (as 0), .int 0])), ((as 0), .inr (0, [.ref (as 1)])), ((as 1), .inl (cA, 80, .inl (fun _ => 0)))]) := by
  refine z_bodyI (by decide) rfl (Nat.le_of_ble_eq_true rfl) ?_
  intro p e s m args below meth c ls H locs A hin X hl hw
  have hl : lv_has ls 1 [(0, .ref a0)] := hl
  refine z_aload_n 0 X dX3_init_0 hl 0 rfl ?_
  refine z_obj 1 ml_3_3 mo_obj X dX3_init_1 hl ⟨Nat.le_of_ble_eq_true rfl, Nat.le_of_ble_eq_true rfl⟩ ?_
  refine z_aload_n 4 X dX3_init_4 hl 0 rfl ?_
  refine z_new 5 zc0 kl_3_9 kc_0 [.null] X dX3_init_5 hw (fun j hj => by rw [show j = 0 by omega]; rfl) ⟨Nat.le_of_ble_eq_true rfl, Nat.le_of_ble_eq_true rfl⟩ (fun q1 H hw => ?_)
  have hw : zH D A s [(a0, .inr (3, [.null, .int 0])), (q1, .inr (0, [.null]))] H locs := hw
  refine z_dup 8 X dX3_init_8 rfl ?_
  refine z_bipush 9 80 X dX3_init_9 (by decide) ?_
  refine z_callI 11 mc_0 ml_3_11 [1] [0] [.ref q1, .ref a0] [(a0, .inr (3, [.null, .int 0]))] (n_X0_init_80 l D cA q1) X dX3_init_11 hw hl rfl rfl (by decide +kernel) (by decide +kernel) (by decide +kernel) rfl rfl (Nat.le_of_ble_eq_true rfl) ⟨Nat.le_of_ble_eq_true rfl, Nat.le_of_ble_eq_true rfl⟩ ⟨Nat.le_of_ble_eq_true rfl, Nat.le_of_ble_eq_true rfl⟩ (fun as2 H locs hw => ?_)
  have hw : zH D A s [(a0, .inr (3, [.null, .int 0])), (q1, .inr (0, [.ref (as2 0)])), ((as2 0), .inl (cA, 80, .inl (fun _ => 0)))] H locs := hw
  refine z_putF 14 zc3 0 0 [(a0, .inr (3, [.ref q1, .int 0])), (q1, .inr (0, [.ref (as2 0)])), ((as2 0), .inl (cA, 80, .inl (fun _ => 0)))] fl_3_14 hin X dX3_init_14 hw rfl (by decide) rfl rfl rfl rfl (Nat.le_of_ble_eq_true rfl) rfl (fun H locs hw => ?_)
  refine z_aload_n 17 X dX3_init_17 hl 0 rfl ?_
  refine z_iconst 18 0 X dX3_init_18 (by decide) ?_
  refine z_put 19 zc3 0 1 [(a0, .inr (3, [.ref q1, .int 0])), (q1, .inr (0, [.ref (as2 0)])), ((as2 0), .inl (cA, 80, .inl (fun _ => 0)))] fl_3_20 X dX3_init_19 hw rfl (by decide) rfl rfl rfl (Nat.le_of_ble_eq_true rfl) rfl (fun H locs hw => ?_)
  exact z_vretI 22 (fun k => match k with | 0 => q1 | 1 => (as2 0) | _ => 0) X dX3_init_22 hw rfl rfl rfl
set_option maxHeartbeats 4000000 in
set_option maxRecDepth 100000 in
theorem n_X0_init_476 (l : Launch) (D : va_G) (cA : ClassId) (a0 : Nat) : zMI l D cA yX0_init cX0_init 2 1 30 1 476 [.ref a0, .int 476] [(a0, .inr (0, [.null]))] (fun as => [(a0, .inr (0, [.ref (as 0)])), ((as 0), .inl (cA, 476, .inl (fun _ => 0)))]) := by
  refine z_bodyI (by decide) rfl (Nat.le_of_ble_eq_true rfl) ?_
  intro p e s m args below meth c ls H locs A hin X hl hw
  have hl : lv_has ls 2 [(0, .ref a0), (1, .int 476)] := hl
  refine z_aload_n 0 X dX0_init_0 hl 0 rfl ?_
  refine z_obj 1 ml_0_1 mo_obj X dX0_init_1 hl ⟨Nat.le_of_ble_eq_true rfl, Nat.le_of_ble_eq_true rfl⟩ ?_
  refine z_aload_n 4 X dX0_init_4 hl 0 rfl ?_
  refine z_iconst 5 0 X dX0_init_5 (by decide) ?_
  refine z_iload_n 6 X dX0_init_6 hl 1 rfl ?_
  refine z_max 7 ml_0_7 mq_max X dX0_init_7 hl ⟨Nat.le_of_ble_eq_true rfl, Nat.le_of_ble_eq_true rfl⟩ ⟨Nat.le_of_ble_eq_true rfl, Nat.le_of_ble_eq_true rfl⟩ ?_
  refine z_newa 10 476 mk_int X dX0_init_10 hw (by decide) (by decide) (Nat.le_of_ble_eq_true rfl) ⟨Nat.le_of_ble_eq_true rfl, Nat.le_of_ble_eq_true rfl⟩ (fun q1 H hw => ?_)
  have hw : zH D A s [(a0, .inr (0, [.null])), (q1, .inl (cA, 476, .inl (fun _ => 0)))] H locs := hw
  refine z_putF 12 zc0 0 0 [(a0, .inr (0, [.ref q1])), (q1, .inl (cA, 476, .inl (fun _ => 0)))] fl_0_13 hin X dX0_init_12 hw rfl (by decide) rfl rfl rfl rfl (Nat.le_of_ble_eq_true rfl) rfl (fun H locs hw => ?_)
  exact z_vretI 15 (fun k => match k with | 0 => q1 | _ => 0) X dX0_init_15 hw rfl rfl rfl
set_option maxHeartbeats 4000000 in
set_option maxRecDepth 100000 in
theorem n_X6_init_7 (l : Launch) (D : va_G) (cA : ClassId) (a0 : Nat) : zMI l D cA yX6_init cX6_init 2 2 51 2 477 [.ref a0, .int 7] [(a0, .inr (6, [.null]))] (fun as => [(a0, .inr (6, [.ref (as 0)])), ((as 0), .inr (0, [.ref (as 1)])), ((as 1), .inl (cA, 476, .inl (fun _ => 0)))]) := by
  refine z_bodyI (by decide) rfl (Nat.le_of_ble_eq_true rfl) ?_
  intro p e s m args below meth c ls H locs A hin X hl hw
  have hl : lv_has ls 2 [(0, .ref a0), (1, .int 7)] := hl
  refine z_aload_n 0 X dX6_init_0 hl 0 rfl ?_
  refine z_obj 1 ml_6_5 mo_obj X dX6_init_1 hl ⟨Nat.le_of_ble_eq_true rfl, Nat.le_of_ble_eq_true rfl⟩ ?_
  refine z_aload_n 4 X dX6_init_4 hl 0 rfl ?_
  refine z_new 5 zc0 kl_6_11 kc_0 [.null] X dX6_init_5 hw (fun j hj => by rw [show j = 0 by omega]; rfl) ⟨Nat.le_of_ble_eq_true rfl, Nat.le_of_ble_eq_true rfl⟩ (fun q1 H hw => ?_)
  have hw : zH D A s [(a0, .inr (6, [.null])), (q1, .inr (0, [.null]))] H locs := hw
  refine z_dup 8 X dX6_init_8 rfl ?_
  refine z_iload_n 9 X dX6_init_9 hl 1 rfl ?_
  refine z_bipush 10 68 X dX6_init_10 (by decide) ?_
  refine z_imul 12 X dX6_init_12 ?_
  refine lv_topi (fun z ez => ?_)
  have ez : z = 476 := ez.trans (by decide)
  subst ez
  refine z_callI 13 mc_0 ml_6_13 [1] [0] [.ref q1, .ref a0] [(a0, .inr (6, [.null]))] (n_X0_init_476 l D cA q1) X dX6_init_13 hw hl rfl rfl (by decide +kernel) (by decide +kernel) (by decide +kernel) rfl rfl (Nat.le_of_ble_eq_true rfl) ⟨Nat.le_of_ble_eq_true rfl, Nat.le_of_ble_eq_true rfl⟩ ⟨Nat.le_of_ble_eq_true rfl, Nat.le_of_ble_eq_true rfl⟩ (fun as2 H locs hw => ?_)
  have hw : zH D A s [(a0, .inr (6, [.null])), (q1, .inr (0, [.ref (as2 0)])), ((as2 0), .inl (cA, 476, .inl (fun _ => 0)))] H locs := hw
  refine z_putF 16 zc6 0 0 [(a0, .inr (6, [.ref q1])), (q1, .inr (0, [.ref (as2 0)])), ((as2 0), .inl (cA, 476, .inl (fun _ => 0)))] fl_6_16 hin X dX6_init_16 hw rfl (by decide) rfl rfl rfl rfl (Nat.le_of_ble_eq_true rfl) rfl (fun H locs hw => ?_)
  exact z_vretI 19 (fun k => match k with | 0 => q1 | 1 => (as2 0) | _ => 0) X dX6_init_19 hw rfl rfl rfl
set_option maxHeartbeats 4000000 in
set_option maxRecDepth 100000 in
theorem n_X2_init (l : Launch) (D : va_G) (cA : ClassId) (a0 : Nat) : zMI l D cA yX2_init cX2_init 1 3 72 3 478 [.ref a0] [(a0, .inr (2, [.null, .int 0, .int 0]))] (fun as => [(a0, .inr (2, [.ref (as 0), .int 0, .int 0])), ((as 0), .inr (6, [.ref (as 1)])), ((as 1), .inr (0, [.ref (as 2)])), ((as 2), .inl (cA, 476, .inl (fun _ => 0)))]) := by
  refine z_bodyI (by decide) rfl (Nat.le_of_ble_eq_true rfl) ?_
  intro p e s m args below meth c ls H locs A hin X hl hw
  have hl : lv_has ls 1 [(0, .ref a0)] := hl
  refine z_aload_n 0 X dX2_init_0 hl 0 rfl ?_
  refine z_obj 1 ml_2_3 mo_obj X dX2_init_1 hl ⟨Nat.le_of_ble_eq_true rfl, Nat.le_of_ble_eq_true rfl⟩ ?_
  refine z_aload_n 4 X dX2_init_4 hl 0 rfl ?_
  refine z_new 5 zc6 kl_2_9 kc_6 [.null] X dX2_init_5 hw (fun j hj => by rw [show j = 0 by omega]; rfl) ⟨Nat.le_of_ble_eq_true rfl, Nat.le_of_ble_eq_true rfl⟩ (fun q1 H hw => ?_)
  have hw : zH D A s [(a0, .inr (2, [.null, .int 0, .int 0])), (q1, .inr (6, [.null]))] H locs := hw
  refine z_dup 8 X dX2_init_8 rfl ?_
  refine z_bipush 9 7 X dX2_init_9 (by decide) ?_
  refine z_callI 11 mc_6 ml_2_13 [1] [0] [.ref q1, .ref a0] [(a0, .inr (2, [.null, .int 0, .int 0]))] (n_X6_init_7 l D cA q1) X dX2_init_11 hw hl rfl rfl (by decide +kernel) (by decide +kernel) (by decide +kernel) rfl rfl (Nat.le_of_ble_eq_true rfl) ⟨Nat.le_of_ble_eq_true rfl, Nat.le_of_ble_eq_true rfl⟩ ⟨Nat.le_of_ble_eq_true rfl, Nat.le_of_ble_eq_true rfl⟩ (fun as2 H locs hw => ?_)
  have hw : zH D A s [(a0, .inr (2, [.null, .int 0, .int 0])), (q1, .inr (6, [.ref (as2 0)])), ((as2 0), .inr (0, [.ref (as2 1)])), ((as2 1), .inl (cA, 476, .inl (fun _ => 0)))] H locs := hw
  refine z_putF 14 zc2 0 0 [(a0, .inr (2, [.ref q1, .int 0, .int 0])), (q1, .inr (6, [.ref (as2 0)])), ((as2 0), .inr (0, [.ref (as2 1)])), ((as2 1), .inl (cA, 476, .inl (fun _ => 0)))] fl_2_16 hin X dX2_init_14 hw rfl (by decide) rfl rfl rfl rfl (Nat.le_of_ble_eq_true rfl) rfl (fun H locs hw => ?_)
  refine z_aload_n 17 X dX2_init_17 hl 0 rfl ?_
  refine z_iconst 18 0 X dX2_init_18 (by decide) ?_
  refine z_put 19 zc2 0 1 [(a0, .inr (2, [.ref q1, .int 0, .int 0])), (q1, .inr (6, [.ref (as2 0)])), ((as2 0), .inr (0, [.ref (as2 1)])), ((as2 1), .inl (cA, 476, .inl (fun _ => 0)))] fl_2_20 X dX2_init_19 hw rfl (by decide) rfl rfl rfl (Nat.le_of_ble_eq_true rfl) rfl (fun H locs hw => ?_)
  refine z_aload_n 22 X dX2_init_22 hl 0 rfl ?_
  refine z_iconst 23 0 X dX2_init_23 (by decide) ?_
  refine z_put 24 zc2 0 2 [(a0, .inr (2, [.ref q1, .int 0, .int 0])), (q1, .inr (6, [.ref (as2 0)])), ((as2 0), .inr (0, [.ref (as2 1)])), ((as2 1), .inl (cA, 476, .inl (fun _ => 0)))] fl_2_24 X dX2_init_24 hw rfl (by decide) rfl rfl rfl (Nat.le_of_ble_eq_true rfl) rfl (fun H locs hw => ?_)
  exact z_vretI 27 (fun k => match k with | 0 => q1 | 1 => (as2 0) | 2 => (as2 1) | _ => 0) X dX2_init_27 hw rfl rfl rfl
set_option maxHeartbeats 4000000 in
set_option maxRecDepth 100000 in
theorem n_X0_init_136 (l : Launch) (D : va_G) (cA : ClassId) (a0 : Nat) : zMI l D cA yX0_init cX0_init 2 1 30 1 136 [.ref a0, .int 136] [(a0, .inr (0, [.null]))] (fun as => [(a0, .inr (0, [.ref (as 0)])), ((as 0), .inl (cA, 136, .inl (fun _ => 0)))]) := by
  refine z_bodyI (by decide) rfl (Nat.le_of_ble_eq_true rfl) ?_
  intro p e s m args below meth c ls H locs A hin X hl hw
  have hl : lv_has ls 2 [(0, .ref a0), (1, .int 136)] := hl
  refine z_aload_n 0 X dX0_init_0 hl 0 rfl ?_
  refine z_obj 1 ml_0_1 mo_obj X dX0_init_1 hl ⟨Nat.le_of_ble_eq_true rfl, Nat.le_of_ble_eq_true rfl⟩ ?_
  refine z_aload_n 4 X dX0_init_4 hl 0 rfl ?_
  refine z_iconst 5 0 X dX0_init_5 (by decide) ?_
  refine z_iload_n 6 X dX0_init_6 hl 1 rfl ?_
  refine z_max 7 ml_0_7 mq_max X dX0_init_7 hl ⟨Nat.le_of_ble_eq_true rfl, Nat.le_of_ble_eq_true rfl⟩ ⟨Nat.le_of_ble_eq_true rfl, Nat.le_of_ble_eq_true rfl⟩ ?_
  refine z_newa 10 136 mk_int X dX0_init_10 hw (by decide) (by decide) (Nat.le_of_ble_eq_true rfl) ⟨Nat.le_of_ble_eq_true rfl, Nat.le_of_ble_eq_true rfl⟩ (fun q1 H hw => ?_)
  have hw : zH D A s [(a0, .inr (0, [.null])), (q1, .inl (cA, 136, .inl (fun _ => 0)))] H locs := hw
  refine z_putF 12 zc0 0 0 [(a0, .inr (0, [.ref q1])), (q1, .inl (cA, 136, .inl (fun _ => 0)))] fl_0_13 hin X dX0_init_12 hw rfl (by decide) rfl rfl rfl rfl (Nat.le_of_ble_eq_true rfl) rfl (fun H locs hw => ?_)
  exact z_vretI 15 (fun k => match k with | 0 => q1 | _ => 0) X dX0_init_15 hw rfl rfl rfl
set_option maxHeartbeats 4000000 in
set_option maxRecDepth 100000 in
theorem n_X6_init_2 (l : Launch) (D : va_G) (cA : ClassId) (a0 : Nat) : zMI l D cA yX6_init cX6_init 2 2 51 2 137 [.ref a0, .int 2] [(a0, .inr (6, [.null]))] (fun as => [(a0, .inr (6, [.ref (as 0)])), ((as 0), .inr (0, [.ref (as 1)])), ((as 1), .inl (cA, 136, .inl (fun _ => 0)))]) := by
  refine z_bodyI (by decide) rfl (Nat.le_of_ble_eq_true rfl) ?_
  intro p e s m args below meth c ls H locs A hin X hl hw
  have hl : lv_has ls 2 [(0, .ref a0), (1, .int 2)] := hl
  refine z_aload_n 0 X dX6_init_0 hl 0 rfl ?_
  refine z_obj 1 ml_6_5 mo_obj X dX6_init_1 hl ⟨Nat.le_of_ble_eq_true rfl, Nat.le_of_ble_eq_true rfl⟩ ?_
  refine z_aload_n 4 X dX6_init_4 hl 0 rfl ?_
  refine z_new 5 zc0 kl_6_11 kc_0 [.null] X dX6_init_5 hw (fun j hj => by rw [show j = 0 by omega]; rfl) ⟨Nat.le_of_ble_eq_true rfl, Nat.le_of_ble_eq_true rfl⟩ (fun q1 H hw => ?_)
  have hw : zH D A s [(a0, .inr (6, [.null])), (q1, .inr (0, [.null]))] H locs := hw
  refine z_dup 8 X dX6_init_8 rfl ?_
  refine z_iload_n 9 X dX6_init_9 hl 1 rfl ?_
  refine z_bipush 10 68 X dX6_init_10 (by decide) ?_
  refine z_imul 12 X dX6_init_12 ?_
  refine lv_topi (fun z ez => ?_)
  have ez : z = 136 := ez.trans (by decide)
  subst ez
  refine z_callI 13 mc_0 ml_6_13 [1] [0] [.ref q1, .ref a0] [(a0, .inr (6, [.null]))] (n_X0_init_136 l D cA q1) X dX6_init_13 hw hl rfl rfl (by decide +kernel) (by decide +kernel) (by decide +kernel) rfl rfl (Nat.le_of_ble_eq_true rfl) ⟨Nat.le_of_ble_eq_true rfl, Nat.le_of_ble_eq_true rfl⟩ ⟨Nat.le_of_ble_eq_true rfl, Nat.le_of_ble_eq_true rfl⟩ (fun as2 H locs hw => ?_)
  have hw : zH D A s [(a0, .inr (6, [.null])), (q1, .inr (0, [.ref (as2 0)])), ((as2 0), .inl (cA, 136, .inl (fun _ => 0)))] H locs := hw
  refine z_putF 16 zc6 0 0 [(a0, .inr (6, [.ref q1])), (q1, .inr (0, [.ref (as2 0)])), ((as2 0), .inl (cA, 136, .inl (fun _ => 0)))] fl_6_16 hin X dX6_init_16 hw rfl (by decide) rfl rfl rfl rfl (Nat.le_of_ble_eq_true rfl) rfl (fun H locs hw => ?_)
  exact z_vretI 19 (fun k => match k with | 0 => q1 | 1 => (as2 0) | _ => 0) X dX6_init_19 hw rfl rfl rfl
set_option maxHeartbeats 4000000 in
set_option maxRecDepth 100000 in
theorem n_X8_init (l : Launch) (D : va_G) (cA : ClassId) (a0 : Nat) : zMI l D cA yX8_init cX8_init 1 4 92 27 4342 [.ref a0] [(a0, .inr (8, [.null, .null, .null, .null, .null, .null]))] (fun as => [(a0, .inr (8, [.ref (as 0), .ref (as 3), .ref (as 14), .ref (as 17), .ref (as 20), .ref (as 24)])), ((as 0), .inr (5, [.ref (as 1), .int 0, .int 4, .int 8])), ((as 1), .inr (0, [.ref (as 2)])), ((as 2), .inl (cA, 64, .inl (fun _ => 0))), ((as 3), .inr (1, [.ref (as 4), .ref (as 7), .ref (as 10), .ref (as 12)])), ((as 4), .inr (4, [.ref (as 5), .int 0])), ((as 5), .inr (0, [.ref (as 6)])), ((as 6), .inl (cA, 1040, .inl (fun _ => 0))), ((as 7), .inr (7, [.ref (as 8), .int 0, .int 0, .int 0, .int 0, .int (-1)])), ((as 8), .inr (0, [.ref (as 9)])), ((as 9), .inl (cA, 1344, .inl (fun _ => 0))), ((as 10), .inr (0, [.ref (as 11)])), ((as 11), .inl (cA, 64, .inl (fun _ => 0))), ((as 12), .inr (0, [.ref (as 13)])), ((as 13), .inl (cA, 64, .inl (fun _ => 0))), ((as 14), .inr (4, [.ref (as 15), .int 0])), ((as 15), .inr (0, [.ref (as 16)])), ((as 16), .inl (cA, 1040, .inl (fun _ => 0))), ((as 17), .inr (3, [.ref (as 18), .int 0])), ((as 18), .inr (0, [.ref (as 19)])), ((as 19), .inl (cA, 80, .inl (fun _ => 0))), ((as 20), .inr (2, [.ref (as 21), .int 0, .int 0])), ((as 21), .inr (6, [.ref (as 22)])), ((as 22), .inr (0, [.ref (as 23)])), ((as 23), .inl (cA, 476, .inl (fun _ => 0))), ((as 24), .inr (6, [.ref (as 25)])), ((as 25), .inr (0, [.ref (as 26)])), ((as 26), .inl (cA, 136, .inl (fun _ => 0)))]) := by
  refine z_bodyI (by decide) rfl (Nat.le_of_ble_eq_true rfl) ?_
  intro p e s m args below meth c ls H locs A hin X hl hw
  have hl : lv_has ls 1 [(0, .ref a0)] := hl
  refine z_aload_n 0 X dX8_init_0 hl 0 rfl ?_
  refine z_obj 1 ml_8_3 mo_obj X dX8_init_1 hl ⟨Nat.le_of_ble_eq_true rfl, Nat.le_of_ble_eq_true rfl⟩ ?_
  refine z_aload_n 4 X dX8_init_4 hl 0 rfl ?_
  refine z_new 5 zc5 kl_8_9 kc_5 [.null, .int 0, .int 0, .int 0] X dX8_init_5 hw (fun j hj => by rcases (show j = 0 ∨ j = 1 ∨ j = 2 ∨ j = 3 by omega) with rfl | rfl | rfl | rfl <;> rfl) ⟨Nat.le_of_ble_eq_true rfl, Nat.le_of_ble_eq_true rfl⟩ (fun q1 H hw => ?_)
  have hw : zH D A s [(a0, .inr (8, [.null, .null, .null, .null, .null, .null])), (q1, .inr (5, [.null, .int 0, .int 0, .int 0]))] H locs := hw
  refine z_dup 8 X dX8_init_8 rfl ?_
  refine z_callIN 9 mc_5 ml_8_11 [1] [0] [.ref q1, .ref a0] [(a0, .inr (8, [.null, .null, .null, .null, .null, .null]))] (n_X5_init l D cA q1) X dX8_init_9 hw hl rfl rfl (by decide +kernel) (by decide +kernel) (by decide +kernel) rfl rfl (Nat.le_of_ble_eq_true rfl) ⟨Nat.le_of_ble_eq_true rfl, Nat.le_of_ble_eq_true rfl⟩ ⟨Nat.le_of_ble_eq_true rfl, Nat.le_of_ble_eq_true rfl⟩ (fun as2 H locs hw => ?_)
  have hw : zH D A s [(a0, .inr (8, [.null, .null, .null, .null, .null, .null])), (q1, .inr (5, [.ref (as2 0), .int 0, .int 4, .int 8])), ((as2 0), .inr (0, [.ref (as2 1)])), ((as2 1), .inl (cA, 64, .inl (fun _ => 0)))] H locs := hw
  refine z_putF 12 zc8 0 0 [(a0, .inr (8, [.ref q1, .null, .null, .null, .null, .null])), (q1, .inr (5, [.ref (as2 0), .int 0, .int 4, .int 8])), ((as2 0), .inr (0, [.ref (as2 1)])), ((as2 1), .inl (cA, 64, .inl (fun _ => 0)))] fl_8_12 hin X dX8_init_12 hw rfl (by decide) rfl rfl rfl rfl (Nat.le_of_ble_eq_true rfl) rfl (fun H locs hw => ?_)
  refine z_aload_n 15 X dX8_init_15 hl 0 rfl ?_
  refine z_new 16 zc1 kl_8_16 kc_1 [.null, .null, .null, .null] X dX8_init_16 hw (fun j hj => by rcases (show j = 0 ∨ j = 1 ∨ j = 2 ∨ j = 3 by omega) with rfl | rfl | rfl | rfl <;> rfl) ⟨Nat.le_of_ble_eq_true rfl, Nat.le_of_ble_eq_true rfl⟩ (fun q3 H hw => ?_)
  have hw : zH D A s [(a0, .inr (8, [.ref q1, .null, .null, .null, .null, .null])), (q1, .inr (5, [.ref (as2 0), .int 0, .int 4, .int 8])), ((as2 0), .inr (0, [.ref (as2 1)])), ((as2 1), .inl (cA, 64, .inl (fun _ => 0))), (q3, .inr (1, [.null, .null, .null, .null]))] H locs := hw
  refine z_dup 19 X dX8_init_19 rfl ?_
  refine z_callIN 20 mc_1 ml_8_18 [4] [0, 1, 2, 3] [.ref q3, .ref a0] [(a0, .inr (8, [.ref q1, .null, .null, .null, .null, .null])), (q1, .inr (5, [.ref (as2 0), .int 0, .int 4, .int 8])), ((as2 0), .inr (0, [.ref (as2 1)])), ((as2 1), .inl (cA, 64, .inl (fun _ => 0)))] (n_X1_init l D cA q3) X dX8_init_20 hw hl rfl rfl (by decide +kernel) (by decide +kernel) (by decide +kernel) rfl rfl (Nat.le_of_ble_eq_true rfl) ⟨Nat.le_of_ble_eq_true rfl, Nat.le_of_ble_eq_true rfl⟩ ⟨Nat.le_of_ble_eq_true rfl, Nat.le_of_ble_eq_true rfl⟩ (fun as4 H locs hw => ?_)
  have hw : zH D A s [(a0, .inr (8, [.ref q1, .null, .null, .null, .null, .null])), (q1, .inr (5, [.ref (as2 0), .int 0, .int 4, .int 8])), ((as2 0), .inr (0, [.ref (as2 1)])), ((as2 1), .inl (cA, 64, .inl (fun _ => 0))), (q3, .inr (1, [.ref (as4 0), .ref (as4 3), .ref (as4 6), .ref (as4 8)])), ((as4 0), .inr (4, [.ref (as4 1), .int 0])), ((as4 1), .inr (0, [.ref (as4 2)])), ((as4 2), .inl (cA, 1040, .inl (fun _ => 0))), ((as4 3), .inr (7, [.ref (as4 4), .int 0, .int 0, .int 0, .int 0, .int (-1)])), ((as4 4), .inr (0, [.ref (as4 5)])), ((as4 5), .inl (cA, 1344, .inl (fun _ => 0))), ((as4 6), .inr (0, [.ref (as4 7)])), ((as4 7), .inl (cA, 64, .inl (fun _ => 0))), ((as4 8), .inr (0, [.ref (as4 9)])), ((as4 9), .inl (cA, 64, .inl (fun _ => 0)))] H locs := hw
  refine z_putF 23 zc8 0 1 [(a0, .inr (8, [.ref q1, .ref q3, .null, .null, .null, .null])), (q1, .inr (5, [.ref (as2 0), .int 0, .int 4, .int 8])), ((as2 0), .inr (0, [.ref (as2 1)])), ((as2 1), .inl (cA, 64, .inl (fun _ => 0))), (q3, .inr (1, [.ref (as4 0), .ref (as4 3), .ref (as4 6), .ref (as4 8)])), ((as4 0), .inr (4, [.ref (as4 1), .int 0])), ((as4 1), .inr (0, [.ref (as4 2)])), ((as4 2), .inl (cA, 1040, .inl (fun _ => 0))), ((as4 3), .inr (7, [.ref (as4 4), .int 0, .int 0, .int 0, .int 0, .int (-1)])), ((as4 4), .inr (0, [.ref (as4 5)])), ((as4 5), .inl (cA, 1344, .inl (fun _ => 0))), ((as4 6), .inr (0, [.ref (as4 7)])), ((as4 7), .inl (cA, 64, .inl (fun _ => 0))), ((as4 8), .inr (0, [.ref (as4 9)])), ((as4 9), .inl (cA, 64, .inl (fun _ => 0)))] fl_8_19 hin X dX8_init_23 hw rfl (by decide) rfl rfl rfl rfl (Nat.le_of_ble_eq_true rfl) rfl (fun H locs hw => ?_)
  refine z_aload_n 26 X dX8_init_26 hl 0 rfl ?_
  refine z_new 27 zc4 kl_8_23 kc_4 [.null, .int 0] X dX8_init_27 hw (fun j hj => by rcases (show j = 0 ∨ j = 1 by omega) with rfl | rfl <;> rfl) ⟨Nat.le_of_ble_eq_true rfl, Nat.le_of_ble_eq_true rfl⟩ (fun q5 H hw => ?_)
  have hw : zH D A s [(a0, .inr (8, [.ref q1, .ref q3, .null, .null, .null, .null])), (q1, .inr (5, [.ref (as2 0), .int 0, .int 4, .int 8])), ((as2 0), .inr (0, [.ref (as2 1)])), ((as2 1), .inl (cA, 64, .inl (fun _ => 0))), (q3, .inr (1, [.ref (as4 0), .ref (as4 3), .ref (as4 6), .ref (as4 8)])), ((as4 0), .inr (4, [.ref (as4 1), .int 0])), ((as4 1), .inr (0, [.ref (as4 2)])), ((as4 2), .inl (cA, 1040, .inl (fun _ => 0))), ((as4 3), .inr (7, [.ref (as4 4), .int 0, .int 0, .int 0, .int 0, .int (-1)])), ((as4 4), .inr (0, [.ref (as4 5)])), ((as4 5), .inl (cA, 1344, .inl (fun _ => 0))), ((as4 6), .inr (0, [.ref (as4 7)])), ((as4 7), .inl (cA, 64, .inl (fun _ => 0))), ((as4 8), .inr (0, [.ref (as4 9)])), ((as4 9), .inl (cA, 64, .inl (fun _ => 0))), (q5, .inr (4, [.null, .int 0]))] H locs := hw
  refine z_dup 30 X dX8_init_30 rfl ?_
  refine z_callIN 31 mc_4 ml_8_25 [15] [0, 1, 2, 3, 4, 5, 6, 7, 8, 9, 10, 11, 12, 13, 14] [.ref q5, .ref a0] [(a0, .inr (8, [.ref q1, .ref q3, .null, .null, .null, .null])), (q1, .inr (5, [.ref (as2 0), .int 0, .int 4, .int 8])), ((as2 0), .inr (0, [.ref (as2 1)])), ((as2 1), .inl (cA, 64, .inl (fun _ => 0))), (q3, .inr (1, [.ref (as4 0), .ref (as4 3), .ref (as4 6), .ref (as4 8)])), ((as4 0), .inr (4, [.ref (as4 1), .int 0])), ((as4 1), .inr (0, [.ref (as4 2)])), ((as4 2), .inl (cA, 1040, .inl (fun _ => 0))), ((as4 3), .inr (7, [.ref (as4 4), .int 0, .int 0, .int 0, .int 0, .int (-1)])), ((as4 4), .inr (0, [.ref (as4 5)])), ((as4 5), .inl (cA, 1344, .inl (fun _ => 0))), ((as4 6), .inr (0, [.ref (as4 7)])), ((as4 7), .inl (cA, 64, .inl (fun _ => 0))), ((as4 8), .inr (0, [.ref (as4 9)])), ((as4 9), .inl (cA, 64, .inl (fun _ => 0)))] (n_X4_init l D cA q5) X dX8_init_31 hw hl rfl rfl (by decide +kernel) (by decide +kernel) (by decide +kernel) rfl rfl (Nat.le_of_ble_eq_true rfl) ⟨Nat.le_of_ble_eq_true rfl, Nat.le_of_ble_eq_true rfl⟩ ⟨Nat.le_of_ble_eq_true rfl, Nat.le_of_ble_eq_true rfl⟩ (fun as6 H locs hw => ?_)
  have hw : zH D A s [(a0, .inr (8, [.ref q1, .ref q3, .null, .null, .null, .null])), (q1, .inr (5, [.ref (as2 0), .int 0, .int 4, .int 8])), ((as2 0), .inr (0, [.ref (as2 1)])), ((as2 1), .inl (cA, 64, .inl (fun _ => 0))), (q3, .inr (1, [.ref (as4 0), .ref (as4 3), .ref (as4 6), .ref (as4 8)])), ((as4 0), .inr (4, [.ref (as4 1), .int 0])), ((as4 1), .inr (0, [.ref (as4 2)])), ((as4 2), .inl (cA, 1040, .inl (fun _ => 0))), ((as4 3), .inr (7, [.ref (as4 4), .int 0, .int 0, .int 0, .int 0, .int (-1)])), ((as4 4), .inr (0, [.ref (as4 5)])), ((as4 5), .inl (cA, 1344, .inl (fun _ => 0))), ((as4 6), .inr (0, [.ref (as4 7)])), ((as4 7), .inl (cA, 64, .inl (fun _ => 0))), ((as4 8), .inr (0, [.ref (as4 9)])), ((as4 9), .inl (cA, 64, .inl (fun _ => 0))), (q5, .inr (4, [.ref (as6 0), .int 0])), ((as6 0), .inr (0, [.ref (as6 1)])), ((as6 1), .inl (cA, 1040, .inl (fun _ => 0)))] H locs := hw
  refine z_putF 34 zc8 0 2 [(a0, .inr (8, [.ref q1, .ref q3, .ref q5, .null, .null, .null])), (q1, .inr (5, [.ref (as2 0), .int 0, .int 4, .int 8])), ((as2 0), .inr (0, [.ref (as2 1)])), ((as2 1), .inl (cA, 64, .inl (fun _ => 0))), (q3, .inr (1, [.ref (as4 0), .ref (as4 3), .ref (as4 6), .ref (as4 8)])), ((as4 0), .inr (4, [.ref (as4 1), .int 0])), ((as4 1), .inr (0, [.ref (as4 2)])), ((as4 2), .inl (cA, 1040, .inl (fun _ => 0))), ((as4 3), .inr (7, [.ref (as4 4), .int 0, .int 0, .int 0, .int 0, .int (-1)])), ((as4 4), .inr (0, [.ref (as4 5)])), ((as4 5), .inl (cA, 1344, .inl (fun _ => 0))), ((as4 6), .inr (0, [.ref (as4 7)])), ((as4 7), .inl (cA, 64, .inl (fun _ => 0))), ((as4 8), .inr (0, [.ref (as4 9)])), ((as4 9), .inl (cA, 64, .inl (fun _ => 0))), (q5, .inr (4, [.ref (as6 0), .int 0])), ((as6 0), .inr (0, [.ref (as6 1)])), ((as6 1), .inl (cA, 1040, .inl (fun _ => 0)))] fl_8_26 hin X dX8_init_34 hw rfl (by decide) rfl rfl rfl rfl (Nat.le_of_ble_eq_true rfl) rfl (fun H locs hw => ?_)
  refine z_aload_n 37 X dX8_init_37 hl 0 rfl ?_
  refine z_new 38 zc3 kl_8_30 kc_3 [.null, .int 0] X dX8_init_38 hw (fun j hj => by rcases (show j = 0 ∨ j = 1 by omega) with rfl | rfl <;> rfl) ⟨Nat.le_of_ble_eq_true rfl, Nat.le_of_ble_eq_true rfl⟩ (fun q7 H hw => ?_)
  have hw : zH D A s [(a0, .inr (8, [.ref q1, .ref q3, .ref q5, .null, .null, .null])), (q1, .inr (5, [.ref (as2 0), .int 0, .int 4, .int 8])), ((as2 0), .inr (0, [.ref (as2 1)])), ((as2 1), .inl (cA, 64, .inl (fun _ => 0))), (q3, .inr (1, [.ref (as4 0), .ref (as4 3), .ref (as4 6), .ref (as4 8)])), ((as4 0), .inr (4, [.ref (as4 1), .int 0])), ((as4 1), .inr (0, [.ref (as4 2)])), ((as4 2), .inl (cA, 1040, .inl (fun _ => 0))), ((as4 3), .inr (7, [.ref (as4 4), .int 0, .int 0, .int 0, .int 0, .int (-1)])), ((as4 4), .inr (0, [.ref (as4 5)])), ((as4 5), .inl (cA, 1344, .inl (fun _ => 0))), ((as4 6), .inr (0, [.ref (as4 7)])), ((as4 7), .inl (cA, 64, .inl (fun _ => 0))), ((as4 8), .inr (0, [.ref (as4 9)])), ((as4 9), .inl (cA, 64, .inl (fun _ => 0))), (q5, .inr (4, [.ref (as6 0), .int 0])), ((as6 0), .inr (0, [.ref (as6 1)])), ((as6 1), .inl (cA, 1040, .inl (fun _ => 0))), (q7, .inr (3, [.null, .int 0]))] H locs := hw
  refine z_dup 41 X dX8_init_41 rfl ?_
  refine z_callIN 42 mc_3 ml_8_32 [18] [0, 1, 2, 3, 4, 5, 6, 7, 8, 9, 10, 11, 12, 13, 14, 15, 16, 17] [.ref q7, .ref a0] [(a0, .inr (8, [.ref q1, .ref q3, .ref q5, .null, .null, .null])), (q1, .inr (5, [.ref (as2 0), .int 0, .int 4, .int 8])), ((as2 0), .inr (0, [.ref (as2 1)])), ((as2 1), .inl (cA, 64, .inl (fun _ => 0))), (q3, .inr (1, [.ref (as4 0), .ref (as4 3), .ref (as4 6), .ref (as4 8)])), ((as4 0), .inr (4, [.ref (as4 1), .int 0])), ((as4 1), .inr (0, [.ref (as4 2)])), ((as4 2), .inl (cA, 1040, .inl (fun _ => 0))), ((as4 3), .inr (7, [.ref (as4 4), .int 0, .int 0, .int 0, .int 0, .int (-1)])), ((as4 4), .inr (0, [.ref (as4 5)])), ((as4 5), .inl (cA, 1344, .inl (fun _ => 0))), ((as4 6), .inr (0, [.ref (as4 7)])), ((as4 7), .inl (cA, 64, .inl (fun _ => 0))), ((as4 8), .inr (0, [.ref (as4 9)])), ((as4 9), .inl (cA, 64, .inl (fun _ => 0))), (q5, .inr (4, [.ref (as6 0), .int 0])), ((as6 0), .inr (0, [.ref (as6 1)])), ((as6 1), .inl (cA, 1040, .inl (fun _ => 0)))] (n_X3_init l D cA q7) X dX8_init_42 hw hl rfl rfl (by decide +kernel) (by decide +kernel) (by decide +kernel) rfl rfl (Nat.le_of_ble_eq_true rfl) ⟨Nat.le_of_ble_eq_true rfl, Nat.le_of_ble_eq_true rfl⟩ ⟨Nat.le_of_ble_eq_true rfl, Nat.le_of_ble_eq_true rfl⟩ (fun as8 H locs hw => ?_)
  have hw : zH D A s [(a0, .inr (8, [.ref q1, .ref q3, .ref q5, .null, .null, .null])), (q1, .inr (5, [.ref (as2 0), .int 0, .int 4, .int 8])), ((as2 0), .inr (0, [.ref (as2 1)])), ((as2 1), .inl (cA, 64, .inl (fun _ => 0))), (q3, .inr (1, [.ref (as4 0), .ref (as4 3), .ref (as4 6), .ref (as4 8)])), ((as4 0), .inr (4, [.ref (as4 1), .int 0])), ((as4 1), .inr (0, [.ref (as4 2)])), ((as4 2), .inl (cA, 1040, .inl (fun _ => 0))), ((as4 3), .inr (7, [.ref (as4 4), .int 0, .int 0, .int 0, .int 0, .int (-1)])), ((as4 4), .inr (0, [.ref (as4 5)])), ((as4 5), .inl (cA, 1344, .inl (fun _ => 0))), ((as4 6), .inr (0, [.ref (as4 7)])), ((as4 7), .inl (cA, 64, .inl (fun _ => 0))), ((as4 8), .inr (0, [.ref (as4 9)])), ((as4 9), .inl (cA, 64, .inl (fun _ => 0))), (q5, .inr (4, [.ref (as6 0), .int 0])), ((as6 0), .inr (0, [.ref (as6 1)])), ((as6 1), .inl (cA, 1040, .inl (fun _ => 0))), (q7, .inr (3, [.ref (as8 0), .int 0])), ((as8 0), .inr (0, [.ref (as8 1)])), ((as8 1), .inl (cA, 80, .inl (fun _ => 0)))] H locs := hw
  refine z_putF 45 zc8 0 3 [(a0, .inr (8, [.ref q1, .ref q3, .ref q5, .ref q7, .null, .null])), (q1, .inr (5, [.ref (as2 0), .int 0, .int 4, .int 8])), ((as2 0), .inr (0, [.ref (as2 1)])), ((as2 1), .inl (cA, 64, .inl (fun _ => 0))), (q3, .inr (1, [.ref (as4 0), .ref (as4 3), .ref (as4 6), .ref (as4 8)])), ((as4 0), .inr (4, [.ref (as4 1), .int 0])), ((as4 1), .inr (0, [.ref (as4 2)])), ((as4 2), .inl (cA, 1040, .inl (fun _ => 0))), ((as4 3), .inr (7, [.ref (as4 4), .int 0, .int 0, .int 0, .int 0, .int (-1)])), ((as4 4), .inr (0, [.ref (as4 5)])), ((as4 5), .inl (cA, 1344, .inl (fun _ => 0))), ((as4 6), .inr (0, [.ref (as4 7)])), ((as4 7), .inl (cA, 64, .inl (fun _ => 0))), ((as4 8), .inr (0, [.ref (as4 9)])), ((as4 9), .inl (cA, 64, .inl (fun _ => 0))), (q5, .inr (4, [.ref (as6 0), .int 0])), ((as6 0), .inr (0, [.ref (as6 1)])), ((as6 1), .inl (cA, 1040, .inl (fun _ => 0))), (q7, .inr (3, [.ref (as8 0), .int 0])), ((as8 0), .inr (0, [.ref (as8 1)])), ((as8 1), .inl (cA, 80, .inl (fun _ => 0)))] fl_8_33 hin X dX8_init_45 hw rfl (by decide) rfl rfl rfl rfl (Nat.le_of_ble_eq_true rfl) rfl (fun H locs hw => ?_)
  refine z_aload_n 48 X dX8_init_48 hl 0 rfl ?_
  refine z_new 49 zc2 kl_8_37 kc_2 [.null, .int 0, .int 0] X dX8_init_49 hw (fun j hj => by rcases (show j = 0 ∨ j = 1 ∨ j = 2 by omega) with rfl | rfl | rfl <;> rfl) ⟨Nat.le_of_ble_eq_true rfl, Nat.le_of_ble_eq_true rfl⟩ (fun q9 H hw => ?_)
  have hw : zH D A s [(a0, .inr (8, [.ref q1, .ref q3, .ref q5, .ref q7, .null, .null])), (q1, .inr (5, [.ref (as2 0), .int 0, .int 4, .int 8])), ((as2 0), .inr (0, [.ref (as2 1)])), ((as2 1), .inl (cA, 64, .inl (fun _ => 0))), (q3, .inr (1, [.ref (as4 0), .ref (as4 3), .ref (as4 6), .ref (as4 8)])), ((as4 0), .inr (4, [.ref (as4 1), .int 0])), ((as4 1), .inr (0, [.ref (as4 2)])), ((as4 2), .inl (cA, 1040, .inl (fun _ => 0))), ((as4 3), .inr (7, [.ref (as4 4), .int 0, .int 0, .int 0, .int 0, .int (-1)])), ((as4 4), .inr (0, [.ref (as4 5)])), ((as4 5), .inl (cA, 1344, .inl (fun _ => 0))), ((as4 6), .inr (0, [.ref (as4 7)])), ((as4 7), .inl (cA, 64, .inl (fun _ => 0))), ((as4 8), .inr (0, [.ref (as4 9)])), ((as4 9), .inl (cA, 64, .inl (fun _ => 0))), (q5, .inr (4, [.ref (as6 0), .int 0])), ((as6 0), .inr (0, [.ref (as6 1)])), ((as6 1), .inl (cA, 1040, .inl (fun _ => 0))), (q7, .inr (3, [.ref (as8 0), .int 0])), ((as8 0), .inr (0, [.ref (as8 1)])), ((as8 1), .inl (cA, 80, .inl (fun _ => 0))), (q9, .inr (2, [.null, .int 0, .int 0]))] H locs := hw
  refine z_dup 52 X dX8_init_52 rfl ?_
  refine z_callIN 53 mc_2 ml_8_39 [21] [0, 1, 2, 3, 4, 5, 6, 7, 8, 9, 10, 11, 12, 13, 14, 15, 16, 17, 18, 19, 20] [.ref q9, .ref a0] [(a0, .inr (8, [.ref q1, .ref q3, .ref q5, .ref q7, .null, .null])), (q1, .inr (5, [.ref (as2 0), .int 0, .int 4, .int 8])), ((as2 0), .inr (0, [.ref (as2 1)])), ((as2 1), .inl (cA, 64, .inl (fun _ => 0))), (q3, .inr (1, [.ref (as4 0), .ref (as4 3), .ref (as4 6), .ref (as4 8)])), ((as4 0), .inr (4, [.ref (as4 1), .int 0])), ((as4 1), .inr (0, [.ref (as4 2)])), ((as4 2), .inl (cA, 1040, .inl (fun _ => 0))), ((as4 3), .inr (7, [.ref (as4 4), .int 0, .int 0, .int 0, .int 0, .int (-1)])), ((as4 4), .inr (0, [.ref (as4 5)])), ((as4 5), .inl (cA, 1344, .inl (fun _ => 0))), ((as4 6), .inr (0, [.ref (as4 7)])), ((as4 7), .inl (cA, 64, .inl (fun _ => 0))), ((as4 8), .inr (0, [.ref (as4 9)])), ((as4 9), .inl (cA, 64, .inl (fun _ => 0))), (q5, .inr (4, [.ref (as6 0), .int 0])), ((as6 0), .inr (0, [.ref (as6 1)])), ((as6 1), .inl (cA, 1040, .inl (fun _ => 0))), (q7, .inr (3, [.ref (as8 0), .int 0])), ((as8 0), .inr (0, [.ref (as8 1)])), ((as8 1), .inl (cA, 80, .inl (fun _ => 0)))] (n_X2_init l D cA q9) X dX8_init_53 hw hl rfl rfl (by decide +kernel) (by decide +kernel) (by decide +kernel) rfl rfl (Nat.le_of_ble_eq_true rfl) ⟨Nat.le_of_ble_eq_true rfl, Nat.le_of_ble_eq_true rfl⟩ ⟨Nat.le_of_ble_eq_true rfl, Nat.le_of_ble_eq_true rfl⟩ (fun as10 H locs hw => ?_)
  have hw : zH D A s [(a0, .inr (8, [.ref q1, .ref q3, .ref q5, .ref q7, .null, .null])), (q1, .inr (5, [.ref (as2 0), .int 0, .int 4, .int 8])), ((as2 0), .inr (0, [.ref (as2 1)])), ((as2 1), .inl (cA, 64, .inl (fun _ => 0))), (q3, .inr (1, [.ref (as4 0), .ref (as4 3), .ref (as4 6), .ref (as4 8)])), ((as4 0), .inr (4, [.ref (as4 1), .int 0])), ((as4 1), .inr (0, [.ref (as4 2)])), ((as4 2), .inl (cA, 1040, .inl (fun _ => 0))), ((as4 3), .inr (7, [.ref (as4 4), .int 0, .int 0, .int 0, .int 0, .int (-1)])), ((as4 4), .inr (0, [.ref (as4 5)])), ((as4 5), .inl (cA, 1344, .inl (fun _ => 0))), ((as4 6), .inr (0, [.ref (as4 7)])), ((as4 7), .inl (cA, 64, .inl (fun _ => 0))), ((as4 8), .inr (0, [.ref (as4 9)])), ((as4 9), .inl (cA, 64, .inl (fun _ => 0))), (q5, .inr (4, [.ref (as6 0), .int 0])), ((as6 0), .inr (0, [.ref (as6 1)])), ((as6 1), .inl (cA, 1040, .inl (fun _ => 0))), (q7, .inr (3, [.ref (as8 0), .int 0])), ((as8 0), .inr (0, [.ref (as8 1)])), ((as8 1), .inl (cA, 80, .inl (fun _ => 0))), (q9, .inr (2, [.ref (as10 0), .int 0, .int 0])), ((as10 0), .inr (6, [.ref (as10 1)])), ((as10 1), .inr (0, [.ref (as10 2)])), ((as10 2), .inl (cA, 476, .inl (fun _ => 0)))] H locs := hw
  refine z_putF 56 zc8 0 4 [(a0, .inr (8, [.ref q1, .ref q3, .ref q5, .ref q7, .ref q9, .null])), (q1, .inr (5, [.ref (as2 0), .int 0, .int 4, .int 8])), ((as2 0), .inr (0, [.ref (as2 1)])), ((as2 1), .inl (cA, 64, .inl (fun _ => 0))), (q3, .inr (1, [.ref (as4 0), .ref (as4 3), .ref (as4 6), .ref (as4 8)])), ((as4 0), .inr (4, [.ref (as4 1), .int 0])), ((as4 1), .inr (0, [.ref (as4 2)])), ((as4 2), .inl (cA, 1040, .inl (fun _ => 0))), ((as4 3), .inr (7, [.ref (as4 4), .int 0, .int 0, .int 0, .int 0, .int (-1)])), ((as4 4), .inr (0, [.ref (as4 5)])), ((as4 5), .inl (cA, 1344, .inl (fun _ => 0))), ((as4 6), .inr (0, [.ref (as4 7)])), ((as4 7), .inl (cA, 64, .inl (fun _ => 0))), ((as4 8), .inr (0, [.ref (as4 9)])), ((as4 9), .inl (cA, 64, .inl (fun _ => 0))), (q5, .inr (4, [.ref (as6 0), .int 0])), ((as6 0), .inr (0, [.ref (as6 1)])), ((as6 1), .inl (cA, 1040, .inl (fun _ => 0))), (q7, .inr (3, [.ref (as8 0), .int 0])), ((as8 0), .inr (0, [.ref (as8 1)])), ((as8 1), .inl (cA, 80, .inl (fun _ => 0))), (q9, .inr (2, [.ref (as10 0), .int 0, .int 0])), ((as10 0), .inr (6, [.ref (as10 1)])), ((as10 1), .inr (0, [.ref (as10 2)])), ((as10 2), .inl (cA, 476, .inl (fun _ => 0)))] fl_8_40 hin X dX8_init_56 hw rfl (by decide) rfl rfl rfl rfl (Nat.le_of_ble_eq_true rfl) rfl (fun H locs hw => ?_)
  refine z_aload_n 59 X dX8_init_59 hl 0 rfl ?_
  refine z_new 60 zc6 kl_8_44 kc_6 [.null] X dX8_init_60 hw (fun j hj => by rw [show j = 0 by omega]; rfl) ⟨Nat.le_of_ble_eq_true rfl, Nat.le_of_ble_eq_true rfl⟩ (fun q11 H hw => ?_)
  have hw : zH D A s [(a0, .inr (8, [.ref q1, .ref q3, .ref q5, .ref q7, .ref q9, .null])), (q1, .inr (5, [.ref (as2 0), .int 0, .int 4, .int 8])), ((as2 0), .inr (0, [.ref (as2 1)])), ((as2 1), .inl (cA, 64, .inl (fun _ => 0))), (q3, .inr (1, [.ref (as4 0), .ref (as4 3), .ref (as4 6), .ref (as4 8)])), ((as4 0), .inr (4, [.ref (as4 1), .int 0])), ((as4 1), .inr (0, [.ref (as4 2)])), ((as4 2), .inl (cA, 1040, .inl (fun _ => 0))), ((as4 3), .inr (7, [.ref (as4 4), .int 0, .int 0, .int 0, .int 0, .int (-1)])), ((as4 4), .inr (0, [.ref (as4 5)])), ((as4 5), .inl (cA, 1344, .inl (fun _ => 0))), ((as4 6), .inr (0, [.ref (as4 7)])), ((as4 7), .inl (cA, 64, .inl (fun _ => 0))), ((as4 8), .inr (0, [.ref (as4 9)])), ((as4 9), .inl (cA, 64, .inl (fun _ => 0))), (q5, .inr (4, [.ref (as6 0), .int 0])), ((as6 0), .inr (0, [.ref (as6 1)])), ((as6 1), .inl (cA, 1040, .inl (fun _ => 0))), (q7, .inr (3, [.ref (as8 0), .int 0])), ((as8 0), .inr (0, [.ref (as8 1)])), ((as8 1), .inl (cA, 80, .inl (fun _ => 0))), (q9, .inr (2, [.ref (as10 0), .int 0, .int 0])), ((as10 0), .inr (6, [.ref (as10 1)])), ((as10 1), .inr (0, [.ref (as10 2)])), ((as10 2), .inl (cA, 476, .inl (fun _ => 0))), (q11, .inr (6, [.null]))] H locs := hw
  refine z_dup 63 X dX8_init_63 rfl ?_
  refine z_iconst 64 2 X dX8_init_64 (by decide) ?_
  refine z_callI 65 mc_6 ml_8_46 [25] [0, 1, 2, 3, 4, 5, 6, 7, 8, 9, 10, 11, 12, 13, 14, 15, 16, 17, 18, 19, 20, 21, 22, 23, 24] [.ref q11, .ref a0] [(a0, .inr (8, [.ref q1, .ref q3, .ref q5, .ref q7, .ref q9, .null])), (q1, .inr (5, [.ref (as2 0), .int 0, .int 4, .int 8])), ((as2 0), .inr (0, [.ref (as2 1)])), ((as2 1), .inl (cA, 64, .inl (fun _ => 0))), (q3, .inr (1, [.ref (as4 0), .ref (as4 3), .ref (as4 6), .ref (as4 8)])), ((as4 0), .inr (4, [.ref (as4 1), .int 0])), ((as4 1), .inr (0, [.ref (as4 2)])), ((as4 2), .inl (cA, 1040, .inl (fun _ => 0))), ((as4 3), .inr (7, [.ref (as4 4), .int 0, .int 0, .int 0, .int 0, .int (-1)])), ((as4 4), .inr (0, [.ref (as4 5)])), ((as4 5), .inl (cA, 1344, .inl (fun _ => 0))), ((as4 6), .inr (0, [.ref (as4 7)])), ((as4 7), .inl (cA, 64, .inl (fun _ => 0))), ((as4 8), .inr (0, [.ref (as4 9)])), ((as4 9), .inl (cA, 64, .inl (fun _ => 0))), (q5, .inr (4, [.ref (as6 0), .int 0])), ((as6 0), .inr (0, [.ref (as6 1)])), ((as6 1), .inl (cA, 1040, .inl (fun _ => 0))), (q7, .inr (3, [.ref (as8 0), .int 0])), ((as8 0), .inr (0, [.ref (as8 1)])), ((as8 1), .inl (cA, 80, .inl (fun _ => 0))), (q9, .inr (2, [.ref (as10 0), .int 0, .int 0])), ((as10 0), .inr (6, [.ref (as10 1)])), ((as10 1), .inr (0, [.ref (as10 2)])), ((as10 2), .inl (cA, 476, .inl (fun _ => 0)))] (n_X6_init_2 l D cA q11) X dX8_init_65 hw hl rfl rfl (by decide +kernel) (by decide +kernel) (by decide +kernel) rfl rfl (Nat.le_of_ble_eq_true rfl) ⟨Nat.le_of_ble_eq_true rfl, Nat.le_of_ble_eq_true rfl⟩ ⟨Nat.le_of_ble_eq_true rfl, Nat.le_of_ble_eq_true rfl⟩ (fun as12 H locs hw => ?_)
  have hw : zH D A s [(a0, .inr (8, [.ref q1, .ref q3, .ref q5, .ref q7, .ref q9, .null])), (q1, .inr (5, [.ref (as2 0), .int 0, .int 4, .int 8])), ((as2 0), .inr (0, [.ref (as2 1)])), ((as2 1), .inl (cA, 64, .inl (fun _ => 0))), (q3, .inr (1, [.ref (as4 0), .ref (as4 3), .ref (as4 6), .ref (as4 8)])), ((as4 0), .inr (4, [.ref (as4 1), .int 0])), ((as4 1), .inr (0, [.ref (as4 2)])), ((as4 2), .inl (cA, 1040, .inl (fun _ => 0))), ((as4 3), .inr (7, [.ref (as4 4), .int 0, .int 0, .int 0, .int 0, .int (-1)])), ((as4 4), .inr (0, [.ref (as4 5)])), ((as4 5), .inl (cA, 1344, .inl (fun _ => 0))), ((as4 6), .inr (0, [.ref (as4 7)])), ((as4 7), .inl (cA, 64, .inl (fun _ => 0))), ((as4 8), .inr (0, [.ref (as4 9)])), ((as4 9), .inl (cA, 64, .inl (fun _ => 0))), (q5, .inr (4, [.ref (as6 0), .int 0])), ((as6 0), .inr (0, [.ref (as6 1)])), ((as6 1), .inl (cA, 1040, .inl (fun _ => 0))), (q7, .inr (3, [.ref (as8 0), .int 0])), ((as8 0), .inr (0, [.ref (as8 1)])), ((as8 1), .inl (cA, 80, .inl (fun _ => 0))), (q9, .inr (2, [.ref (as10 0), .int 0, .int 0])), ((as10 0), .inr (6, [.ref (as10 1)])), ((as10 1), .inr (0, [.ref (as10 2)])), ((as10 2), .inl (cA, 476, .inl (fun _ => 0))), (q11, .inr (6, [.ref (as12 0)])), ((as12 0), .inr (0, [.ref (as12 1)])), ((as12 1), .inl (cA, 136, .inl (fun _ => 0)))] H locs := hw
  refine z_putF 68 zc8 0 5 [(a0, .inr (8, [.ref q1, .ref q3, .ref q5, .ref q7, .ref q9, .ref q11])), (q1, .inr (5, [.ref (as2 0), .int 0, .int 4, .int 8])), ((as2 0), .inr (0, [.ref (as2 1)])), ((as2 1), .inl (cA, 64, .inl (fun _ => 0))), (q3, .inr (1, [.ref (as4 0), .ref (as4 3), .ref (as4 6), .ref (as4 8)])), ((as4 0), .inr (4, [.ref (as4 1), .int 0])), ((as4 1), .inr (0, [.ref (as4 2)])), ((as4 2), .inl (cA, 1040, .inl (fun _ => 0))), ((as4 3), .inr (7, [.ref (as4 4), .int 0, .int 0, .int 0, .int 0, .int (-1)])), ((as4 4), .inr (0, [.ref (as4 5)])), ((as4 5), .inl (cA, 1344, .inl (fun _ => 0))), ((as4 6), .inr (0, [.ref (as4 7)])), ((as4 7), .inl (cA, 64, .inl (fun _ => 0))), ((as4 8), .inr (0, [.ref (as4 9)])), ((as4 9), .inl (cA, 64, .inl (fun _ => 0))), (q5, .inr (4, [.ref (as6 0), .int 0])), ((as6 0), .inr (0, [.ref (as6 1)])), ((as6 1), .inl (cA, 1040, .inl (fun _ => 0))), (q7, .inr (3, [.ref (as8 0), .int 0])), ((as8 0), .inr (0, [.ref (as8 1)])), ((as8 1), .inl (cA, 80, .inl (fun _ => 0))), (q9, .inr (2, [.ref (as10 0), .int 0, .int 0])), ((as10 0), .inr (6, [.ref (as10 1)])), ((as10 1), .inr (0, [.ref (as10 2)])), ((as10 2), .inl (cA, 476, .inl (fun _ => 0))), (q11, .inr (6, [.ref (as12 0)])), ((as12 0), .inr (0, [.ref (as12 1)])), ((as12 1), .inl (cA, 136, .inl (fun _ => 0)))] fl_8_49 hin X dX8_init_68 hw rfl (by decide) rfl rfl rfl rfl (Nat.le_of_ble_eq_true rfl) rfl (fun H locs hw => ?_)
  exact z_vretI 71 (fun k => match k with | 0 => q1 | 1 => (as2 0) | 2 => (as2 1) | 3 => q3 | 4 => (as4 0) | 5 => (as4 1) | 6 => (as4 2) | 7 => (as4 3) | 8 => (as4 4) | 9 => (as4 5) | 10 => (as4 6) | 11 => (as4 7) | 12 => (as4 8) | 13 => (as4 9) | 14 => q5 | 15 => (as6 0) | 16 => (as6 1) | 17 => q7 | 18 => (as8 0) | 19 => (as8 1) | 20 => q9 | 21 => (as10 0) | 22 => (as10 1) | 23 => (as10 2) | 24 => q11 | 25 => (as12 0) | 26 => (as12 1) | _ => 0) X dX8_init_71 hw rfl rfl rfl
