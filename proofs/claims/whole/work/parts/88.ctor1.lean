/-! THE CONSTRUCTORS: words, instructions. -/
def zi_0 : ax_M := (yX0_init, cX0_init, 1, none, 0, 1, 0, 0, [])
theorem dX0_init_0 : decode cX0_init 0 = .ok (.aload_n 0, 1) := by decide +kernel
theorem dX0_init_1 : decode cX0_init 1 = .ok (.invokespecial 3, 3) := by decide +kernel
theorem dX0_init_4 : decode cX0_init 4 = .ok (.aload_n 0, 1) := by decide +kernel
theorem dX0_init_5 : decode cX0_init 5 = .ok (.sipush 4000, 3) := by decide +kernel
theorem dX0_init_8 : decode cX0_init 8 = .ok (.newarray .int, 2) := by decide +kernel
theorem dX0_init_10 : decode cX0_init 10 = .ok (.putfield 9, 3) := by decide +kernel
theorem dX0_init_13 : decode cX0_init 13 = .ok (.return_, 1) := by decide +kernel
theorem ico_0 : Cond.code yX0_init cX0_init 1 none ∈ ax_TW := List.mem_filter.mpr ⟨List.mem_of_getElem? (i := 100) (by decide +kernel), rfl⟩
theorem iim_0 : Cond.instanceMethod yX0_init ∈ ax_TW := List.mem_filter.mpr ⟨List.mem_of_getElem? (i := 99) (by decide +kernel), rfl⟩
theorem iin_0 : Cond.instantiable RX0 2 ∈ ax_TW := List.mem_filter.mpr ⟨List.mem_of_getElem? (i := 97) (by decide +kernel), rfl⟩
theorem iit_0 : Cond.initialized RX0 ∈ ax_TW := List.mem_filter.mpr ⟨List.mem_of_getElem? (i := 68) (by decide +kernel), rfl⟩
theorem iob_0 : Cond.methodLink RX0 3 Jvm.Lib.objectInit ∈ ax_TW := List.mem_filter.mpr ⟨List.mem_of_getElem? (i := 101) (by decide +kernel), rfl⟩
def zi_1 : ax_M := (yX1_init, cX1_init, 1, none, 0, 1, 1, 0, [])
theorem dX1_init_0 : decode cX1_init 0 = .ok (.aload_n 0, 1) := by decide +kernel
theorem dX1_init_1 : decode cX1_init 1 = .ok (.invokespecial 3, 3) := by decide +kernel
theorem dX1_init_4 : decode cX1_init 4 = .ok (.aload_n 0, 1) := by decide +kernel
theorem dX1_init_5 : decode cX1_init 5 = .ok (.iconst 4, 1) := by decide +kernel
theorem dX1_init_6 : decode cX1_init 6 = .ok (.sipush 200, 3) := by decide +kernel
theorem dX1_init_9 : decode cX1_init 9 = .ok (.multianewarray 9 2, 4) := by decide +kernel
theorem dX1_init_13 : decode cX1_init 13 = .ok (.putfield 11, 3) := by decide +kernel
theorem dX1_init_16 : decode cX1_init 16 = .ok (.return_, 1) := by decide +kernel
theorem ico_1 : Cond.code yX1_init cX1_init 1 none ∈ ax_TW := List.mem_filter.mpr ⟨List.mem_of_getElem? (i := 217) (by decide +kernel), rfl⟩
theorem iim_1 : Cond.instanceMethod yX1_init ∈ ax_TW := List.mem_filter.mpr ⟨List.mem_of_getElem? (i := 216) (by decide +kernel), rfl⟩
theorem iin_1 : Cond.instantiable RX1 2 ∈ ax_TW := List.mem_filter.mpr ⟨List.mem_of_getElem? (i := 214) (by decide +kernel), rfl⟩
theorem iit_1 : Cond.initialized RX1 ∈ ax_TW := List.mem_filter.mpr ⟨List.mem_of_getElem? (i := 73) (by decide +kernel), rfl⟩
theorem iob_1 : Cond.methodLink RX1 3 Jvm.Lib.objectInit ∈ ax_TW := List.mem_filter.mpr ⟨List.mem_of_getElem? (i := 218) (by decide +kernel), rfl⟩
def zi_2 : ax_M := (yX2_init, cX2_init, 1, none, 0, 1, 2, 0, [])
theorem dX2_init_0 : decode cX2_init 0 = .ok (.aload_n 0, 1) := by decide +kernel
theorem dX2_init_1 : decode cX2_init 1 = .ok (.invokespecial 3, 3) := by decide +kernel
theorem dX2_init_4 : decode cX2_init 4 = .ok (.aload_n 0, 1) := by decide +kernel
theorem dX2_init_5 : decode cX2_init 5 = .ok (.new 9, 3) := by decide +kernel
theorem dX2_init_8 : decode cX2_init 8 = .ok (.dup, 1) := by decide +kernel
theorem dX2_init_9 : decode cX2_init 9 = .ok (.bipush 20, 2) := by decide +kernel
theorem dX2_init_11 : decode cX2_init 11 = .ok (.bipush 12, 2) := by decide +kernel
theorem dX2_init_13 : decode cX2_init 13 = .ok (.invokespecial 11, 3) := by decide +kernel
theorem dX2_init_16 : decode cX2_init 16 = .ok (.putfield 14, 3) := by decide +kernel
theorem dX2_init_19 : decode cX2_init 19 = .ok (.aload_n 0, 1) := by decide +kernel
theorem dX2_init_20 : decode cX2_init 20 = .ok (.new 9, 3) := by decide +kernel
theorem dX2_init_23 : decode cX2_init 23 = .ok (.dup, 1) := by decide +kernel
theorem dX2_init_24 : decode cX2_init 24 = .ok (.bipush 20, 2) := by decide +kernel
theorem dX2_init_26 : decode cX2_init 26 = .ok (.bipush 12, 2) := by decide +kernel
theorem dX2_init_28 : decode cX2_init 28 = .ok (.invokespecial 11, 3) := by decide +kernel
theorem dX2_init_31 : decode cX2_init 31 = .ok (.putfield 20, 3) := by decide +kernel
theorem dX2_init_34 : decode cX2_init 34 = .ok (.aload_n 0, 1) := by decide +kernel
theorem dX2_init_35 : decode cX2_init 35 = .ok (.bipush 8, 2) := by decide +kernel
theorem dX2_init_37 : decode cX2_init 37 = .ok (.newarray .int, 2) := by decide +kernel
theorem dX2_init_39 : decode cX2_init 39 = .ok (.putfield 23, 3) := by decide +kernel
theorem dX2_init_42 : decode cX2_init 42 = .ok (.aload_n 0, 1) := by decide +kernel
theorem dX2_init_43 : decode cX2_init 43 = .ok (.bipush 8, 2) := by decide +kernel
theorem dX2_init_45 : decode cX2_init 45 = .ok (.newarray .boolean, 2) := by decide +kernel
theorem dX2_init_47 : decode cX2_init 47 = .ok (.putfield 27, 3) := by decide +kernel
theorem dX2_init_50 : decode cX2_init 50 = .ok (.return_, 1) := by decide +kernel
theorem ico_2 : Cond.code yX2_init cX2_init 1 none ∈ ax_TW := List.mem_filter.mpr ⟨List.mem_of_getElem? (i := 170) (by decide +kernel), rfl⟩
theorem iim_2 : Cond.instanceMethod yX2_init ∈ ax_TW := List.mem_filter.mpr ⟨List.mem_of_getElem? (i := 169) (by decide +kernel), rfl⟩
theorem iin_2 : Cond.instantiable RX2 6 ∈ ax_TW := List.mem_filter.mpr ⟨List.mem_of_getElem? (i := 167) (by decide +kernel), rfl⟩
theorem iit_2 : Cond.initialized RX2 ∈ ax_TW := List.mem_filter.mpr ⟨List.mem_of_getElem? (i := 71) (by decide +kernel), rfl⟩
theorem iob_2 : Cond.methodLink RX2 3 Jvm.Lib.objectInit ∈ ax_TW := List.mem_filter.mpr ⟨List.mem_of_getElem? (i := 171) (by decide +kernel), rfl⟩
def zi_3 : ax_M := (yX3_init, cX3_init, 1, none, 0, 1, 3, 0, [])
theorem dX3_init_0 : decode cX3_init 0 = .ok (.aload_n 0, 1) := by decide +kernel
theorem dX3_init_1 : decode cX3_init 1 = .ok (.invokespecial 3, 3) := by decide +kernel
theorem dX3_init_4 : decode cX3_init 4 = .ok (.aload_n 0, 1) := by decide +kernel
theorem dX3_init_5 : decode cX3_init 5 = .ok (.new 9, 3) := by decide +kernel
theorem dX3_init_8 : decode cX3_init 8 = .ok (.dup, 1) := by decide +kernel
theorem dX3_init_9 : decode cX3_init 9 = .ok (.invokespecial 11, 3) := by decide +kernel
theorem dX3_init_12 : decode cX3_init 12 = .ok (.putfield 12, 3) := by decide +kernel
theorem dX3_init_15 : decode cX3_init 15 = .ok (.aload_n 0, 1) := by decide +kernel
theorem dX3_init_16 : decode cX3_init 16 = .ok (.new 18, 3) := by decide +kernel
theorem dX3_init_19 : decode cX3_init 19 = .ok (.dup, 1) := by decide +kernel
theorem dX3_init_20 : decode cX3_init 20 = .ok (.invokespecial 20, 3) := by decide +kernel
theorem dX3_init_23 : decode cX3_init 23 = .ok (.putfield 21, 3) := by decide +kernel
theorem dX3_init_26 : decode cX3_init 26 = .ok (.aload_n 0, 1) := by decide +kernel
theorem dX3_init_27 : decode cX3_init 27 = .ok (.new 25, 3) := by decide +kernel
theorem dX3_init_30 : decode cX3_init 30 = .ok (.dup, 1) := by decide +kernel
theorem dX3_init_31 : decode cX3_init 31 = .ok (.invokespecial 27, 3) := by decide +kernel
theorem dX3_init_34 : decode cX3_init 34 = .ok (.putfield 28, 3) := by decide +kernel
theorem dX3_init_37 : decode cX3_init 37 = .ok (.aload_n 0, 1) := by decide +kernel
theorem dX3_init_38 : decode cX3_init 38 = .ok (.new 32, 3) := by decide +kernel
theorem dX3_init_41 : decode cX3_init 41 = .ok (.dup, 1) := by decide +kernel
theorem dX3_init_42 : decode cX3_init 42 = .ok (.invokespecial 34, 3) := by decide +kernel
theorem dX3_init_45 : decode cX3_init 45 = .ok (.putfield 35, 3) := by decide +kernel
theorem dX3_init_48 : decode cX3_init 48 = .ok (.return_, 1) := by decide +kernel
theorem ico_3 : Cond.code yX3_init cX3_init 1 none ∈ ax_TW := List.mem_filter.mpr ⟨List.mem_of_getElem? (i := 209) (by decide +kernel), rfl⟩
theorem iim_3 : Cond.instanceMethod yX3_init ∈ ax_TW := List.mem_filter.mpr ⟨List.mem_of_getElem? (i := 208) (by decide +kernel), rfl⟩
theorem iin_3 : Cond.instantiable RX3 5 ∈ ax_TW := List.mem_filter.mpr ⟨List.mem_of_getElem? (i := 206) (by decide +kernel), rfl⟩
theorem iit_3 : Cond.initialized RX3 ∈ ax_TW := List.mem_filter.mpr ⟨List.mem_of_getElem? (i := 72) (by decide +kernel), rfl⟩
theorem iob_3 : Cond.methodLink RX3 3 Jvm.Lib.objectInit ∈ ax_TW := List.mem_filter.mpr ⟨List.mem_of_getElem? (i := 210) (by decide +kernel), rfl⟩
def zi_4 : ax_M := (yX4_init, cX4_init, 3, none, 0, 3, 4, 0, [])
theorem dX4_init_0 : decode cX4_init 0 = .ok (.aload_n 0, 1) := by decide +kernel
theorem dX4_init_1 : decode cX4_init 1 = .ok (.invokespecial 3, 3) := by decide +kernel
theorem dX4_init_4 : decode cX4_init 4 = .ok (.aload_n 0, 1) := by decide +kernel
theorem dX4_init_5 : decode cX4_init 5 = .ok (.iload_n 1, 1) := by decide +kernel
theorem dX4_init_6 : decode cX4_init 6 = .ok (.iload_n 2, 1) := by decide +kernel
theorem dX4_init_7 : decode cX4_init 7 = .ok (.multianewarray 9 2, 4) := by decide +kernel
theorem dX4_init_11 : decode cX4_init 11 = .ok (.putfield 11, 3) := by decide +kernel
theorem dX4_init_14 : decode cX4_init 14 = .ok (.aload_n 0, 1) := by decide +kernel
theorem dX4_init_15 : decode cX4_init 15 = .ok (.iload_n 1, 1) := by decide +kernel
theorem dX4_init_16 : decode cX4_init 16 = .ok (.newarray .int, 2) := by decide +kernel
theorem dX4_init_18 : decode cX4_init 18 = .ok (.putfield 16, 3) := by decide +kernel
theorem dX4_init_21 : decode cX4_init 21 = .ok (.aload_n 0, 1) := by decide +kernel
theorem dX4_init_22 : decode cX4_init 22 = .ok (.iload_n 2, 1) := by decide +kernel
theorem dX4_init_23 : decode cX4_init 23 = .ok (.putfield 20, 3) := by decide +kernel
theorem dX4_init_26 : decode cX4_init 26 = .ok (.return_, 1) := by decide +kernel
theorem ico_4 : Cond.code yX4_init cX4_init 3 none ∈ ax_TW := List.mem_filter.mpr ⟨List.mem_of_getElem? (i := 125) (by decide +kernel), rfl⟩
theorem iim_4 : Cond.instanceMethod yX4_init ∈ ax_TW := List.mem_filter.mpr ⟨List.mem_of_getElem? (i := 124) (by decide +kernel), rfl⟩
theorem iin_4 : Cond.instantiable RX4 3 ∈ ax_TW := List.mem_filter.mpr ⟨List.mem_of_getElem? (i := 122) (by decide +kernel), rfl⟩
theorem iit_4 : Cond.initialized RX4 ∈ ax_TW := List.mem_filter.mpr ⟨List.mem_of_getElem? (i := 70) (by decide +kernel), rfl⟩
theorem iob_4 : Cond.methodLink RX4 3 Jvm.Lib.objectInit ∈ ax_TW := List.mem_filter.mpr ⟨List.mem_of_getElem? (i := 126) (by decide +kernel), rfl⟩
def zi_5 : ax_M := (yX5_init, cX5_init, 1, none, 0, 1, 5, 0, [])
theorem dX5_init_0 : decode cX5_init 0 = .ok (.aload_n 0, 1) := by decide +kernel
theorem dX5_init_1 : decode cX5_init 1 = .ok (.invokespecial 3, 3) := by decide +kernel
theorem dX5_init_4 : decode cX5_init 4 = .ok (.aload_n 0, 1) := by decide +kernel
theorem dX5_init_5 : decode cX5_init 5 = .ok (.new 9, 3) := by decide +kernel
theorem dX5_init_8 : decode cX5_init 8 = .ok (.dup, 1) := by decide +kernel
theorem dX5_init_9 : decode cX5_init 9 = .ok (.iconst 1, 1) := by decide +kernel
theorem dX5_init_10 : decode cX5_init 10 = .ok (.bipush 6, 2) := by decide +kernel
theorem dX5_init_12 : decode cX5_init 12 = .ok (.invokespecial 11, 3) := by decide +kernel
theorem dX5_init_15 : decode cX5_init 15 = .ok (.putfield 14, 3) := by decide +kernel
theorem dX5_init_18 : decode cX5_init 18 = .ok (.aload_n 0, 1) := by decide +kernel
theorem dX5_init_19 : decode cX5_init 19 = .ok (.new 9, 3) := by decide +kernel
theorem dX5_init_22 : decode cX5_init 22 = .ok (.dup, 1) := by decide +kernel
theorem dX5_init_23 : decode cX5_init 23 = .ok (.bipush 6, 2) := by decide +kernel
theorem dX5_init_25 : decode cX5_init 25 = .ok (.bipush 10, 2) := by decide +kernel
theorem dX5_init_27 : decode cX5_init 27 = .ok (.invokespecial 11, 3) := by decide +kernel
theorem dX5_init_30 : decode cX5_init 30 = .ok (.putfield 20, 3) := by decide +kernel
theorem dX5_init_33 : decode cX5_init 33 = .ok (.aload_n 0, 1) := by decide +kernel
theorem dX5_init_34 : decode cX5_init 34 = .ok (.new 9, 3) := by decide +kernel
theorem dX5_init_37 : decode cX5_init 37 = .ok (.dup, 1) := by decide +kernel
theorem dX5_init_38 : decode cX5_init 38 = .ok (.bipush 20, 2) := by decide +kernel
theorem dX5_init_40 : decode cX5_init 40 = .ok (.iconst 5, 1) := by decide +kernel
theorem dX5_init_41 : decode cX5_init 41 = .ok (.invokespecial 11, 3) := by decide +kernel
theorem dX5_init_44 : decode cX5_init 44 = .ok (.putfield 23, 3) := by decide +kernel
theorem dX5_init_47 : decode cX5_init 47 = .ok (.aload_n 0, 1) := by decide +kernel
theorem dX5_init_48 : decode cX5_init 48 = .ok (.new 9, 3) := by decide +kernel
theorem dX5_init_51 : decode cX5_init 51 = .ok (.dup, 1) := by decide +kernel
theorem dX5_init_52 : decode cX5_init 52 = .ok (.iconst 1, 1) := by decide +kernel
theorem dX5_init_53 : decode cX5_init 53 = .ok (.bipush 20, 2) := by decide +kernel
theorem dX5_init_55 : decode cX5_init 55 = .ok (.invokespecial 11, 3) := by decide +kernel
theorem dX5_init_58 : decode cX5_init 58 = .ok (.putfield 26, 3) := by decide +kernel
theorem dX5_init_61 : decode cX5_init 61 = .ok (.aload_n 0, 1) := by decide +kernel
theorem dX5_init_62 : decode cX5_init 62 = .ok (.new 9, 3) := by decide +kernel
theorem dX5_init_65 : decode cX5_init 65 = .ok (.dup, 1) := by decide +kernel
theorem dX5_init_66 : decode cX5_init 66 = .ok (.iconst 1, 1) := by decide +kernel
theorem dX5_init_67 : decode cX5_init 67 = .ok (.bipush 20, 2) := by decide +kernel
theorem dX5_init_69 : decode cX5_init 69 = .ok (.invokespecial 11, 3) := by decide +kernel
theorem dX5_init_72 : decode cX5_init 72 = .ok (.putfield 29, 3) := by decide +kernel
theorem dX5_init_75 : decode cX5_init 75 = .ok (.aload_n 0, 1) := by decide +kernel
theorem dX5_init_76 : decode cX5_init 76 = .ok (.new 9, 3) := by decide +kernel
theorem dX5_init_79 : decode cX5_init 79 = .ok (.dup, 1) := by decide +kernel
theorem dX5_init_80 : decode cX5_init 80 = .ok (.iconst 1, 1) := by decide +kernel
theorem dX5_init_81 : decode cX5_init 81 = .ok (.bipush 20, 2) := by decide +kernel
theorem dX5_init_83 : decode cX5_init 83 = .ok (.invokespecial 11, 3) := by decide +kernel
theorem dX5_init_86 : decode cX5_init 86 = .ok (.putfield 32, 3) := by decide +kernel
theorem dX5_init_89 : decode cX5_init 89 = .ok (.return_, 1) := by decide +kernel
theorem ico_5 : Cond.code yX5_init cX5_init 1 none ∈ ax_TW := List.mem_filter.mpr ⟨List.mem_of_getElem? (i := 119) (by decide +kernel), rfl⟩
theorem iim_5 : Cond.instanceMethod yX5_init ∈ ax_TW := List.mem_filter.mpr ⟨List.mem_of_getElem? (i := 118) (by decide +kernel), rfl⟩
theorem iin_5 : Cond.instantiable RX5 6 ∈ ax_TW := List.mem_filter.mpr ⟨List.mem_of_getElem? (i := 116) (by decide +kernel), rfl⟩
theorem iit_5 : Cond.initialized RX5 ∈ ax_TW := List.mem_filter.mpr ⟨List.mem_of_getElem? (i := 69) (by decide +kernel), rfl⟩
theorem iob_5 : Cond.methodLink RX5 3 Jvm.Lib.objectInit ∈ ax_TW := List.mem_filter.mpr ⟨List.mem_of_getElem? (i := 120) (by decide +kernel), rfl⟩
def zi_6 : ax_M := (yX6_init, cX6_init, 1, none, 0, 1, 6, 0, [])
theorem dX6_init_0 : decode cX6_init 0 = .ok (.aload_n 0, 1) := by decide +kernel
theorem dX6_init_1 : decode cX6_init 1 = .ok (.invokespecial 3, 3) := by decide +kernel
theorem dX6_init_4 : decode cX6_init 4 = .ok (.aload_n 0, 1) := by decide +kernel
theorem dX6_init_5 : decode cX6_init 5 = .ok (.new 9, 3) := by decide +kernel
theorem dX6_init_8 : decode cX6_init 8 = .ok (.dup, 1) := by decide +kernel
theorem dX6_init_9 : decode cX6_init 9 = .ok (.invokespecial 11, 3) := by decide +kernel
theorem dX6_init_12 : decode cX6_init 12 = .ok (.putfield 12, 3) := by decide +kernel
theorem dX6_init_15 : decode cX6_init 15 = .ok (.aload_n 0, 1) := by decide +kernel
theorem dX6_init_16 : decode cX6_init 16 = .ok (.new 18, 3) := by decide +kernel
theorem dX6_init_19 : decode cX6_init 19 = .ok (.dup, 1) := by decide +kernel
theorem dX6_init_20 : decode cX6_init 20 = .ok (.invokespecial 20, 3) := by decide +kernel
theorem dX6_init_23 : decode cX6_init 23 = .ok (.putfield 21, 3) := by decide +kernel
theorem dX6_init_26 : decode cX6_init 26 = .ok (.aload_n 0, 1) := by decide +kernel
theorem dX6_init_27 : decode cX6_init 27 = .ok (.new 25, 3) := by decide +kernel
theorem dX6_init_30 : decode cX6_init 30 = .ok (.dup, 1) := by decide +kernel
theorem dX6_init_31 : decode cX6_init 31 = .ok (.invokespecial 27, 3) := by decide +kernel
theorem dX6_init_34 : decode cX6_init 34 = .ok (.putfield 28, 3) := by decide +kernel
theorem dX6_init_37 : decode cX6_init 37 = .ok (.return_, 1) := by decide +kernel
theorem ico_6 : Cond.code yX6_init cX6_init 1 none ∈ ax_TW := List.mem_filter.mpr ⟨List.mem_of_getElem? (i := 94) (by decide +kernel), rfl⟩
theorem iim_6 : Cond.instanceMethod yX6_init ∈ ax_TW := List.mem_filter.mpr ⟨List.mem_of_getElem? (i := 93) (by decide +kernel), rfl⟩
theorem iin_6 : Cond.instantiable RX6 3 ∈ ax_TW := List.mem_filter.mpr ⟨List.mem_of_getElem? (i := 91) (by decide +kernel), rfl⟩
theorem iit_6 : Cond.initialized RX6 ∈ ax_TW := List.mem_filter.mpr ⟨List.mem_of_getElem? (i := 67) (by decide +kernel), rfl⟩
theorem iob_6 : Cond.methodLink RX6 3 Jvm.Lib.objectInit ∈ ax_TW := List.mem_filter.mpr ⟨List.mem_of_getElem? (i := 95) (by decide +kernel), rfl⟩
def zi_7 : ax_M := (yX7_init, cX7_init, 1, none, 0, 1, 7, 0, [])
theorem dX7_init_0 : decode cX7_init 0 = .ok (.aload_n 0, 1) := by decide +kernel
theorem dX7_init_1 : decode cX7_init 1 = .ok (.invokespecial 1, 3) := by decide +kernel
theorem dX7_init_4 : decode cX7_init 4 = .ok (.aload_n 0, 1) := by decide +kernel
theorem dX7_init_5 : decode cX7_init 5 = .ok (.new 7, 3) := by decide +kernel
theorem dX7_init_8 : decode cX7_init 8 = .ok (.dup, 1) := by decide +kernel
theorem dX7_init_9 : decode cX7_init 9 = .ok (.invokespecial 9, 3) := by decide +kernel
theorem dX7_init_12 : decode cX7_init 12 = .ok (.putfield 10, 3) := by decide +kernel
theorem dX7_init_15 : decode cX7_init 15 = .ok (.aload_n 0, 1) := by decide +kernel
theorem dX7_init_16 : decode cX7_init 16 = .ok (.new 16, 3) := by decide +kernel
theorem dX7_init_19 : decode cX7_init 19 = .ok (.dup, 1) := by decide +kernel
theorem dX7_init_20 : decode cX7_init 20 = .ok (.invokespecial 18, 3) := by decide +kernel
theorem dX7_init_23 : decode cX7_init 23 = .ok (.putfield 19, 3) := by decide +kernel
theorem dX7_init_26 : decode cX7_init 26 = .ok (.aload_n 0, 1) := by decide +kernel
theorem dX7_init_27 : decode cX7_init 27 = .ok (.getfield 10, 3) := by decide +kernel
theorem dX7_init_30 : decode cX7_init 30 = .ok (.invokevirtual 23, 3) := by decide +kernel
theorem dX7_init_33 : decode cX7_init 33 = .ok (.return_, 1) := by decide +kernel
theorem ico_7 : Cond.code yX7_init cX7_init 1 none ∈ ax_TW := List.mem_filter.mpr ⟨List.mem_of_getElem? (i := 86) (by decide +kernel), rfl⟩
theorem iim_7 : Cond.instanceMethod yX7_init ∈ ax_TW := List.mem_filter.mpr ⟨List.mem_of_getElem? (i := 85) (by decide +kernel), rfl⟩
theorem iin_7 : Cond.instantiable RX7 2 ∈ ax_TW := List.mem_filter.mpr ⟨List.mem_of_getElem? (i := 83) (by decide +kernel), rfl⟩
theorem iit_7 : Cond.initialized RX7 ∈ ax_TW := zin_7
theorem iob_7 : Cond.methodLink RX7 1 Jvm.Lib.objectInit ∈ ax_TW := List.mem_filter.mpr ⟨List.mem_of_getElem? (i := 87) (by decide +kernel), rfl⟩
def zi_8 : ax_M := (yX8_init, cX8_init, 1, none, 0, 1, 8, 0, [])
theorem dX8_init_0 : decode cX8_init 0 = .ok (.aload_n 0, 1) := by decide +kernel
theorem dX8_init_1 : decode cX8_init 1 = .ok (.invokespecial 1, 3) := by decide +kernel
theorem dX8_init_4 : decode cX8_init 4 = .ok (.aload_n 0, 1) := by decide +kernel
theorem dX8_init_5 : decode cX8_init 5 = .ok (.iconst 2, 1) := by decide +kernel
theorem dX8_init_6 : decode cX8_init 6 = .ok (.newarray .int, 2) := by decide +kernel
theorem dX8_init_8 : decode cX8_init 8 = .ok (.putfield 7, 3) := by decide +kernel
theorem dX8_init_11 : decode cX8_init 11 = .ok (.aload_n 0, 1) := by decide +kernel
theorem dX8_init_12 : decode cX8_init 12 = .ok (.bipush 12, 2) := by decide +kernel
theorem dX8_init_14 : decode cX8_init 14 = .ok (.newarray .int, 2) := by decide +kernel
theorem dX8_init_16 : decode cX8_init 16 = .ok (.putfield 13, 3) := by decide +kernel
theorem dX8_init_19 : decode cX8_init 19 = .ok (.aload_n 0, 1) := by decide +kernel
theorem dX8_init_20 : decode cX8_init 20 = .ok (.bipush 12, 2) := by decide +kernel
theorem dX8_init_22 : decode cX8_init 22 = .ok (.newarray .int, 2) := by decide +kernel
theorem dX8_init_24 : decode cX8_init 24 = .ok (.putfield 16, 3) := by decide +kernel
theorem dX8_init_27 : decode cX8_init 27 = .ok (.aload_n 0, 1) := by decide +kernel
theorem dX8_init_28 : decode cX8_init 28 = .ok (.bipush 120, 2) := by decide +kernel
theorem dX8_init_30 : decode cX8_init 30 = .ok (.newarray .int, 2) := by decide +kernel
theorem dX8_init_32 : decode cX8_init 32 = .ok (.putfield 19, 3) := by decide +kernel
theorem dX8_init_35 : decode cX8_init 35 = .ok (.aload_n 0, 1) := by decide +kernel
theorem dX8_init_36 : decode cX8_init 36 = .ok (.iconst 2, 1) := by decide +kernel
theorem dX8_init_37 : decode cX8_init 37 = .ok (.newarray .int, 2) := by decide +kernel
theorem dX8_init_39 : decode cX8_init 39 = .ok (.putfield 22, 3) := by decide +kernel
theorem dX8_init_42 : decode cX8_init 42 = .ok (.aload_n 0, 1) := by decide +kernel
theorem dX8_init_43 : decode cX8_init 43 = .ok (.bipush 40, 2) := by decide +kernel
theorem dX8_init_45 : decode cX8_init 45 = .ok (.newarray .int, 2) := by decide +kernel
theorem dX8_init_47 : decode cX8_init 47 = .ok (.putfield 25, 3) := by decide +kernel
theorem dX8_init_50 : decode cX8_init 50 = .ok (.aload_n 0, 1) := by decide +kernel
theorem dX8_init_51 : decode cX8_init 51 = .ok (.bipush 40, 2) := by decide +kernel
theorem dX8_init_53 : decode cX8_init 53 = .ok (.newarray .int, 2) := by decide +kernel
theorem dX8_init_55 : decode cX8_init 55 = .ok (.putfield 28, 3) := by decide +kernel
theorem dX8_init_58 : decode cX8_init 58 = .ok (.aload_n 0, 1) := by decide +kernel
theorem dX8_init_59 : decode cX8_init 59 = .ok (.bipush 40, 2) := by decide +kernel
theorem dX8_init_61 : decode cX8_init 61 = .ok (.newarray .int, 2) := by decide +kernel
theorem dX8_init_63 : decode cX8_init 63 = .ok (.putfield 31, 3) := by decide +kernel
theorem dX8_init_66 : decode cX8_init 66 = .ok (.aload_n 0, 1) := by decide +kernel
theorem dX8_init_67 : decode cX8_init 67 = .ok (.sipush 200, 3) := by decide +kernel
theorem dX8_init_70 : decode cX8_init 70 = .ok (.newarray .int, 2) := by decide +kernel
theorem dX8_init_72 : decode cX8_init 72 = .ok (.putfield 34, 3) := by decide +kernel
theorem dX8_init_75 : decode cX8_init 75 = .ok (.aload_n 0, 1) := by decide +kernel
theorem dX8_init_76 : decode cX8_init 76 = .ok (.iconst 2, 1) := by decide +kernel
theorem dX8_init_77 : decode cX8_init 77 = .ok (.newarray .int, 2) := by decide +kernel
theorem dX8_init_79 : decode cX8_init 79 = .ok (.putfield 37, 3) := by decide +kernel
theorem dX8_init_82 : decode cX8_init 82 = .ok (.aload_n 0, 1) := by decide +kernel
theorem dX8_init_83 : decode cX8_init 83 = .ok (.bipush 40, 2) := by decide +kernel
theorem dX8_init_85 : decode cX8_init 85 = .ok (.newarray .int, 2) := by decide +kernel
theorem dX8_init_87 : decode cX8_init 87 = .ok (.putfield 40, 3) := by decide +kernel
theorem dX8_init_90 : decode cX8_init 90 = .ok (.aload_n 0, 1) := by decide +kernel
theorem dX8_init_91 : decode cX8_init 91 = .ok (.bipush 80, 2) := by decide +kernel
theorem dX8_init_93 : decode cX8_init 93 = .ok (.newarray .int, 2) := by decide +kernel
theorem dX8_init_95 : decode cX8_init 95 = .ok (.putfield 43, 3) := by decide +kernel
theorem dX8_init_98 : decode cX8_init 98 = .ok (.aload_n 0, 1) := by decide +kernel
theorem dX8_init_99 : decode cX8_init 99 = .ok (.sipush 960, 3) := by decide +kernel
theorem dX8_init_102 : decode cX8_init 102 = .ok (.newarray .int, 2) := by decide +kernel
theorem dX8_init_104 : decode cX8_init 104 = .ok (.putfield 46, 3) := by decide +kernel
theorem dX8_init_107 : decode cX8_init 107 = .ok (.aload_n 0, 1) := by decide +kernel
theorem dX8_init_108 : decode cX8_init 108 = .ok (.iconst 2, 1) := by decide +kernel
theorem dX8_init_109 : decode cX8_init 109 = .ok (.newarray .int, 2) := by decide +kernel
theorem dX8_init_111 : decode cX8_init 111 = .ok (.putfield 49, 3) := by decide +kernel
theorem dX8_init_114 : decode cX8_init 114 = .ok (.aload_n 0, 1) := by decide +kernel
theorem dX8_init_115 : decode cX8_init 115 = .ok (.bipush 16, 2) := by decide +kernel
theorem dX8_init_117 : decode cX8_init 117 = .ok (.newarray .int, 2) := by decide +kernel
theorem dX8_init_119 : decode cX8_init 119 = .ok (.putfield 52, 3) := by decide +kernel
theorem dX8_init_122 : decode cX8_init 122 = .ok (.aload_n 0, 1) := by decide +kernel
theorem dX8_init_123 : decode cX8_init 123 = .ok (.bipush 16, 2) := by decide +kernel
theorem dX8_init_125 : decode cX8_init 125 = .ok (.newarray .boolean, 2) := by decide +kernel
theorem dX8_init_127 : decode cX8_init 127 = .ok (.putfield 55, 3) := by decide +kernel
theorem dX8_init_130 : decode cX8_init 130 = .ok (.aload_n 0, 1) := by decide +kernel
theorem dX8_init_131 : decode cX8_init 131 = .ok (.iconst 2, 1) := by decide +kernel
theorem dX8_init_132 : decode cX8_init 132 = .ok (.newarray .boolean, 2) := by decide +kernel
theorem dX8_init_134 : decode cX8_init 134 = .ok (.putfield 59, 3) := by decide +kernel
theorem dX8_init_137 : decode cX8_init 137 = .ok (.aload_n 0, 1) := by decide +kernel
theorem dX8_init_138 : decode cX8_init 138 = .ok (.sipush 4400, 3) := by decide +kernel
theorem dX8_init_141 : decode cX8_init 141 = .ok (.newarray .boolean, 2) := by decide +kernel
theorem dX8_init_143 : decode cX8_init 143 = .ok (.putfield 62, 3) := by decide +kernel
theorem dX8_init_146 : decode cX8_init 146 = .ok (.aload_n 0, 1) := by decide +kernel
theorem dX8_init_147 : decode cX8_init 147 = .ok (.sipush 4400, 3) := by decide +kernel
theorem dX8_init_150 : decode cX8_init 150 = .ok (.newarray .boolean, 2) := by decide +kernel
theorem dX8_init_152 : decode cX8_init 152 = .ok (.putfield 65, 3) := by decide +kernel
theorem dX8_init_155 : decode cX8_init 155 = .ok (.aload_n 0, 1) := by decide +kernel
theorem dX8_init_156 : decode cX8_init 156 = .ok (.sipush 201, 3) := by decide +kernel
theorem dX8_init_159 : decode cX8_init 159 = .ok (.newarray .int, 2) := by decide +kernel
theorem dX8_init_161 : decode cX8_init 161 = .ok (.putfield 68, 3) := by decide +kernel
theorem dX8_init_164 : decode cX8_init 164 = .ok (.aload_n 0, 1) := by decide +kernel
theorem dX8_init_165 : decode cX8_init 165 = .ok (.sipush 201, 3) := by decide +kernel
theorem dX8_init_168 : decode cX8_init 168 = .ok (.newarray .int, 2) := by decide +kernel
theorem dX8_init_170 : decode cX8_init 170 = .ok (.putfield 71, 3) := by decide +kernel
theorem dX8_init_173 : decode cX8_init 173 = .ok (.aload_n 0, 1) := by decide +kernel
theorem dX8_init_174 : decode cX8_init 174 = .ok (.sipush 201, 3) := by decide +kernel
theorem dX8_init_177 : decode cX8_init 177 = .ok (.newarray .int, 2) := by decide +kernel
theorem dX8_init_179 : decode cX8_init 179 = .ok (.putfield 74, 3) := by decide +kernel
theorem dX8_init_182 : decode cX8_init 182 = .ok (.aload_n 0, 1) := by decide +kernel
theorem dX8_init_183 : decode cX8_init 183 = .ok (.sipush 201, 3) := by decide +kernel
theorem dX8_init_186 : decode cX8_init 186 = .ok (.newarray .int, 2) := by decide +kernel
theorem dX8_init_188 : decode cX8_init 188 = .ok (.putfield 77, 3) := by decide +kernel
theorem dX8_init_191 : decode cX8_init 191 = .ok (.return_, 1) := by decide +kernel
theorem ico_8 : Cond.code yX8_init cX8_init 1 none ∈ ax_TW := List.mem_filter.mpr ⟨List.mem_of_getElem? (i := 845) (by decide +kernel), rfl⟩
theorem iim_8 : Cond.instanceMethod yX8_init ∈ ax_TW := List.mem_filter.mpr ⟨List.mem_of_getElem? (i := 844) (by decide +kernel), rfl⟩
theorem iin_8 : Cond.instantiable RX8 30 ∈ ax_TW := List.mem_filter.mpr ⟨List.mem_of_getElem? (i := 842) (by decide +kernel), rfl⟩
theorem iit_8 : Cond.initialized RX8 ∈ ax_TW := List.mem_filter.mpr ⟨List.mem_of_getElem? (i := 74) (by decide +kernel), rfl⟩
theorem iob_8 : Cond.methodLink RX8 1 Jvm.Lib.objectInit ∈ ax_TW := List.mem_filter.mpr ⟨List.mem_of_getElem? (i := 846) (by decide +kernel), rfl⟩
theorem ifm_0_9 : Cond.fieldLink RX0 9 "LearnedCodes$Bits" "items" "[I" ∈ ax_TW := List.mem_filter.mpr ⟨List.mem_of_getElem? (i := 102) (by decide +kernel), rfl⟩
theorem zFi_0_9 {g : zG} (h : (ax_y (zq g)).cls = RX0) : zF g 9 0 0 := ⟨by decide, by decide +kernel, by rw [h]; exact ifm_0_9⟩
theorem icl_1_9 : Cond.classLink RX1 9 ("[" ++ (FieldType.array .int).toString) ∈ ax_TW := List.mem_filter.mpr ⟨List.mem_of_getElem? (i := 219) (by decide +kernel), rfl⟩
theorem ifm_1_11 : Cond.fieldLink RX1 11 "LearnedCodes$Events" "parts" "[[I" ∈ ax_TW := List.mem_filter.mpr ⟨List.mem_of_getElem? (i := 220) (by decide +kernel), rfl⟩
theorem zFi_1_11 {g : zG} (h : (ax_y (zq g)).cls = RX1) : zF g 11 1 0 := ⟨by decide, by decide +kernel, by rw [h]; exact ifm_1_11⟩
theorem icl_2_9 : Cond.classLink RX2 9 RX4 ∈ ax_TW := List.mem_filter.mpr ⟨List.mem_of_getElem? (i := 172) (by decide +kernel), rfl⟩
theorem iml_2_11 : Cond.methodLink RX2 11 yX4_init ∈ ax_TW := List.mem_filter.mpr ⟨List.mem_of_getElem? (i := 173) (by decide +kernel), rfl⟩
theorem yLi_2_11 : yLi RX2 11 zi_4 2 := ⟨Or.inl iml_2_11, fun w hw => (List.mem_cons.mp hw).elim (fun e => by rw [e]; exact ico_4) id, iit_4, iim_4, rfl, by decide +kernel, by decide +kernel, by decide +kernel, rfl, by decide⟩
theorem ifm_2_14 : Cond.fieldLink RX2 14 "LearnedCodes$Grammars" "tags" "LLearnedCodes$Rows;" ∈ ax_TW := List.mem_filter.mpr ⟨List.mem_of_getElem? (i := 174) (by decide +kernel), rfl⟩
theorem zFi_2_14 {g : zG} (h : (ax_y (zq g)).cls = RX2) : zF g 14 2 0 := ⟨by decide, by decide +kernel, by rw [h]; exact ifm_2_14⟩
theorem ifm_2_20 : Cond.fieldLink RX2 20 "LearnedCodes$Grammars" "contents" "LLearnedCodes$Rows;" ∈ ax_TW := List.mem_filter.mpr ⟨List.mem_of_getElem? (i := 175) (by decide +kernel), rfl⟩
theorem zFi_2_20 {g : zG} (h : (ax_y (zq g)).cls = RX2) : zF g 20 2 1 := ⟨by decide, by decide +kernel, by rw [h]; exact ifm_2_20⟩
theorem ifm_2_23 : Cond.fieldLink RX2 23 "LearnedCodes$Grammars" "names" "[I" ∈ ax_TW := List.mem_filter.mpr ⟨List.mem_of_getElem? (i := 176) (by decide +kernel), rfl⟩
theorem zFi_2_23 {g : zG} (h : (ax_y (zq g)).cls = RX2) : zF g 23 2 2 := ⟨by decide, by decide +kernel, by rw [h]; exact ifm_2_23⟩
theorem ifm_2_27 : Cond.fieldLink RX2 27 "LearnedCodes$Grammars" "filled" "[Z" ∈ ax_TW := List.mem_filter.mpr ⟨List.mem_of_getElem? (i := 177) (by decide +kernel), rfl⟩
theorem zFi_2_27 {g : zG} (h : (ax_y (zq g)).cls = RX2) : zF g 27 2 3 := ⟨by decide, by decide +kernel, by rw [h]; exact ifm_2_27⟩
theorem icl_3_9 : Cond.classLink RX3 9 RX0 ∈ ax_TW := List.mem_filter.mpr ⟨List.mem_of_getElem? (i := 211) (by decide +kernel), rfl⟩
theorem iml_3_11 : Cond.methodLinkNest RX3 11 yX0_init "LearnedCodes" ∈ ax_NW := List.mem_filter.mpr ⟨List.mem_of_getElem? (i := 212) (by decide +kernel), rfl⟩
theorem yLi_3_11 : yLi RX3 11 zi_0 0 := ⟨Or.inr iml_3_11, fun w hw => (List.mem_cons.mp hw).elim (fun e => by rw [e]; exact ico_0) id, iit_0, iim_0, rfl, by decide +kernel, by decide +kernel, by decide +kernel, rfl, by decide⟩
theorem ifm_3_12 : Cond.fieldLink RX3 12 "LearnedCodes$Reader" "stream" "LLearnedCodes$Bits;" ∈ ax_TW := List.mem_filter.mpr ⟨List.mem_of_getElem? (i := 232) (by decide +kernel), rfl⟩
theorem zFi_3_12 {g : zG} (h : (ax_y (zq g)).cls = RX3) : zF g 12 3 0 := ⟨by decide, by decide +kernel, by rw [h]; exact ifm_3_12⟩
theorem icl_3_18 : Cond.classLink RX3 18 RX1 ∈ ax_TW := List.mem_filter.mpr ⟨List.mem_of_getElem? (i := 213) (by decide +kernel), rfl⟩
theorem iml_3_20 : Cond.methodLinkNest RX3 20 yX1_init "LearnedCodes" ∈ ax_NW := List.mem_filter.mpr ⟨List.mem_of_getElem? (i := 215) (by decide +kernel), rfl⟩
theorem yLi_3_20 : yLi RX3 20 zi_1 0 := ⟨Or.inr iml_3_20, fun w hw => (List.mem_cons.mp hw).elim (fun e => by rw [e]; exact ico_1) id, iit_1, iim_1, rfl, by decide +kernel, by decide +kernel, by decide +kernel, rfl, by decide⟩
theorem ifm_3_21 : Cond.fieldLink RX3 21 "LearnedCodes$Reader" "events" "LLearnedCodes$Events;" ∈ ax_TW := List.mem_filter.mpr ⟨List.mem_of_getElem? (i := 234) (by decide +kernel), rfl⟩
theorem zFi_3_21 {g : zG} (h : (ax_y (zq g)).cls = RX3) : zF g 21 3 1 := ⟨by decide, by decide +kernel, by rw [h]; exact ifm_3_21⟩
theorem icl_3_25 : Cond.classLink RX3 25 RX5 ∈ ax_TW := List.mem_filter.mpr ⟨List.mem_of_getElem? (i := 228) (by decide +kernel), rfl⟩
theorem iml_3_27 : Cond.methodLinkNest RX3 27 yX5_init "LearnedCodes" ∈ ax_NW := List.mem_filter.mpr ⟨List.mem_of_getElem? (i := 229) (by decide +kernel), rfl⟩
theorem yLi_3_27 : yLi RX3 27 zi_5 0 := ⟨Or.inr iml_3_27, fun w hw => (List.mem_cons.mp hw).elim (fun e => by rw [e]; exact ico_5) id, iit_5, iim_5, rfl, by decide +kernel, by decide +kernel, by decide +kernel, rfl, by decide⟩
theorem ifm_3_28 : Cond.fieldLink RX3 28 "LearnedCodes$Reader" "tables" "LLearnedCodes$Tables;" ∈ ax_TW := List.mem_filter.mpr ⟨List.mem_of_getElem? (i := 236) (by decide +kernel), rfl⟩
theorem zFi_3_28 {g : zG} (h : (ax_y (zq g)).cls = RX3) : zF g 28 3 2 := ⟨by decide, by decide +kernel, by rw [h]; exact ifm_3_28⟩
theorem icl_3_32 : Cond.classLink RX3 32 RX2 ∈ ax_TW := List.mem_filter.mpr ⟨List.mem_of_getElem? (i := 230) (by decide +kernel), rfl⟩
theorem iml_3_34 : Cond.methodLinkNest RX3 34 yX2_init "LearnedCodes" ∈ ax_NW := List.mem_filter.mpr ⟨List.mem_of_getElem? (i := 231) (by decide +kernel), rfl⟩
theorem yLi_3_34 : yLi RX3 34 zi_2 0 := ⟨Or.inr iml_3_34, fun w hw => (List.mem_cons.mp hw).elim (fun e => by rw [e]; exact ico_2) id, iit_2, iim_2, rfl, by decide +kernel, by decide +kernel, by decide +kernel, rfl, by decide⟩
theorem ifm_3_35 : Cond.fieldLink RX3 35 "LearnedCodes$Reader" "grammars" "LLearnedCodes$Grammars;" ∈ ax_TW := List.mem_filter.mpr ⟨List.mem_of_getElem? (i := 237) (by decide +kernel), rfl⟩
theorem zFi_3_35 {g : zG} (h : (ax_y (zq g)).cls = RX3) : zF g 35 3 3 := ⟨by decide, by decide +kernel, by rw [h]; exact ifm_3_35⟩
theorem icl_4_9 : Cond.classLink RX4 9 ("[" ++ (FieldType.array .int).toString) ∈ ax_TW := List.mem_filter.mpr ⟨List.mem_of_getElem? (i := 127) (by decide +kernel), rfl⟩
theorem ifm_4_11 : Cond.fieldLink RX4 11 "LearnedCodes$Rows" "items" "[[I" ∈ ax_TW := List.mem_filter.mpr ⟨List.mem_of_getElem? (i := 129) (by decide +kernel), rfl⟩
theorem zFi_4_11 {g : zG} (h : (ax_y (zq g)).cls = RX4) : zF g 11 4 0 := ⟨by decide, by decide +kernel, by rw [h]; exact ifm_4_11⟩
theorem ifm_4_16 : Cond.fieldLink RX4 16 "LearnedCodes$Rows" "sizes" "[I" ∈ ax_TW := List.mem_filter.mpr ⟨List.mem_of_getElem? (i := 130) (by decide +kernel), rfl⟩
theorem zFi_4_16 {g : zG} (h : (ax_y (zq g)).cls = RX4) : zF g 16 4 1 := ⟨by decide, by decide +kernel, by rw [h]; exact ifm_4_16⟩
theorem ifm_4_20 : Cond.fieldLink RX4 20 "LearnedCodes$Rows" "room" "I" ∈ ax_TW := List.mem_filter.mpr ⟨List.mem_of_getElem? (i := 131) (by decide +kernel), rfl⟩
theorem zFi_4_20 {g : zG} (h : (ax_y (zq g)).cls = RX4) : zF g 20 4 2 := ⟨by decide, by decide +kernel, by rw [h]; exact ifm_4_20⟩
theorem icl_5_9 : Cond.classLink RX5 9 RX4 ∈ ax_TW := List.mem_filter.mpr ⟨List.mem_of_getElem? (i := 121) (by decide +kernel), rfl⟩
theorem iml_5_11 : Cond.methodLink RX5 11 yX4_init ∈ ax_TW := List.mem_filter.mpr ⟨List.mem_of_getElem? (i := 123) (by decide +kernel), rfl⟩
theorem yLi_5_11 : yLi RX5 11 zi_4 2 := ⟨Or.inl iml_5_11, fun w hw => (List.mem_cons.mp hw).elim (fun e => by rw [e]; exact ico_4) id, iit_4, iim_4, rfl, by decide +kernel, by decide +kernel, by decide +kernel, rfl, by decide⟩
theorem ifm_5_14 : Cond.fieldLink RX5 14 "LearnedCodes$Tables" "spaces" "LLearnedCodes$Rows;" ∈ ax_TW := List.mem_filter.mpr ⟨List.mem_of_getElem? (i := 139) (by decide +kernel), rfl⟩
theorem zFi_5_14 {g : zG} (h : (ax_y (zq g)).cls = RX5) : zF g 14 5 0 := ⟨by decide, by decide +kernel, by rw [h]; exact ifm_5_14⟩
theorem ifm_5_20 : Cond.fieldLink RX5 20 "LearnedCodes$Tables" "locals" "LLearnedCodes$Rows;" ∈ ax_TW := List.mem_filter.mpr ⟨List.mem_of_getElem? (i := 142) (by decide +kernel), rfl⟩
theorem zFi_5_20 {g : zG} (h : (ax_y (zq g)).cls = RX5) : zF g 20 5 1 := ⟨by decide, by decide +kernel, by rw [h]; exact ifm_5_20⟩
theorem ifm_5_23 : Cond.fieldLink RX5 23 "LearnedCodes$Tables" "values" "LLearnedCodes$Rows;" ∈ ax_TW := List.mem_filter.mpr ⟨List.mem_of_getElem? (i := 145) (by decide +kernel), rfl⟩
theorem zFi_5_23 {g : zG} (h : (ax_y (zq g)).cls = RX5) : zF g 23 5 2 := ⟨by decide, by decide +kernel, by rw [h]; exact ifm_5_23⟩
theorem ifm_5_26 : Cond.fieldLink RX5 26 "LearnedCodes$Tables" "allValues" "LLearnedCodes$Rows;" ∈ ax_TW := List.mem_filter.mpr ⟨List.mem_of_getElem? (i := 148) (by decide +kernel), rfl⟩
theorem zFi_5_26 {g : zG} (h : (ax_y (zq g)).cls = RX5) : zF g 26 5 3 := ⟨by decide, by decide +kernel, by rw [h]; exact ifm_5_26⟩
theorem ifm_5_29 : Cond.fieldLink RX5 29 "LearnedCodes$Tables" "nameSpaces" "LLearnedCodes$Rows;" ∈ ax_TW := List.mem_filter.mpr ⟨List.mem_of_getElem? (i := 151) (by decide +kernel), rfl⟩
theorem zFi_5_29 {g : zG} (h : (ax_y (zq g)).cls = RX5) : zF g 29 5 4 := ⟨by decide, by decide +kernel, by rw [h]; exact ifm_5_29⟩
theorem ifm_5_32 : Cond.fieldLink RX5 32 "LearnedCodes$Tables" "nameLocals" "LLearnedCodes$Rows;" ∈ ax_TW := List.mem_filter.mpr ⟨List.mem_of_getElem? (i := 152) (by decide +kernel), rfl⟩
theorem zFi_5_32 {g : zG} (h : (ax_y (zq g)).cls = RX5) : zF g 32 5 5 := ⟨by decide, by decide +kernel, by rw [h]; exact ifm_5_32⟩
theorem icl_6_9 : Cond.classLink RX6 9 RX0 ∈ ax_TW := List.mem_filter.mpr ⟨List.mem_of_getElem? (i := 96) (by decide +kernel), rfl⟩
theorem iml_6_11 : Cond.methodLinkNest RX6 11 yX0_init "LearnedCodes" ∈ ax_NW := List.mem_filter.mpr ⟨List.mem_of_getElem? (i := 98) (by decide +kernel), rfl⟩
theorem yLi_6_11 : yLi RX6 11 zi_0 0 := ⟨Or.inr iml_6_11, fun w hw => (List.mem_cons.mp hw).elim (fun e => by rw [e]; exact ico_0) id, iit_0, iim_0, rfl, by decide +kernel, by decide +kernel, by decide +kernel, rfl, by decide⟩
theorem ifm_6_12 : Cond.fieldLink RX6 12 "LearnedCodes$Writer" "output" "LLearnedCodes$Bits;" ∈ ax_TW := List.mem_filter.mpr ⟨List.mem_of_getElem? (i := 194) (by decide +kernel), rfl⟩
theorem zFi_6_12 {g : zG} (h : (ax_y (zq g)).cls = RX6) : zF g 12 6 0 := ⟨by decide, by decide +kernel, by rw [h]; exact ifm_6_12⟩
theorem icl_6_18 : Cond.classLink RX6 18 RX5 ∈ ax_TW := List.mem_filter.mpr ⟨List.mem_of_getElem? (i := 115) (by decide +kernel), rfl⟩
theorem iml_6_20 : Cond.methodLinkNest RX6 20 yX5_init "LearnedCodes" ∈ ax_NW := List.mem_filter.mpr ⟨List.mem_of_getElem? (i := 117) (by decide +kernel), rfl⟩
theorem yLi_6_20 : yLi RX6 20 zi_5 0 := ⟨Or.inr iml_6_20, fun w hw => (List.mem_cons.mp hw).elim (fun e => by rw [e]; exact ico_5) id, iit_5, iim_5, rfl, by decide +kernel, by decide +kernel, by decide +kernel, rfl, by decide⟩
theorem ifm_6_21 : Cond.fieldLink RX6 21 "LearnedCodes$Writer" "tables" "LLearnedCodes$Tables;" ∈ ax_TW := List.mem_filter.mpr ⟨List.mem_of_getElem? (i := 196) (by decide +kernel), rfl⟩
theorem zFi_6_21 {g : zG} (h : (ax_y (zq g)).cls = RX6) : zF g 21 6 1 := ⟨by decide, by decide +kernel, by rw [h]; exact ifm_6_21⟩
theorem icl_6_25 : Cond.classLink RX6 25 RX2 ∈ ax_TW := List.mem_filter.mpr ⟨List.mem_of_getElem? (i := 166) (by decide +kernel), rfl⟩
theorem iml_6_27 : Cond.methodLinkNest RX6 27 yX2_init "LearnedCodes" ∈ ax_NW := List.mem_filter.mpr ⟨List.mem_of_getElem? (i := 168) (by decide +kernel), rfl⟩
theorem yLi_6_27 : yLi RX6 27 zi_2 0 := ⟨Or.inr iml_6_27, fun w hw => (List.mem_cons.mp hw).elim (fun e => by rw [e]; exact ico_2) id, iit_2, iim_2, rfl, by decide +kernel, by decide +kernel, by decide +kernel, rfl, by decide⟩
theorem ifm_6_28 : Cond.fieldLink RX6 28 "LearnedCodes$Writer" "grammars" "LLearnedCodes$Grammars;" ∈ ax_TW := List.mem_filter.mpr ⟨List.mem_of_getElem? (i := 197) (by decide +kernel), rfl⟩
theorem zFi_6_28 {g : zG} (h : (ax_y (zq g)).cls = RX6) : zF g 28 6 2 := ⟨by decide, by decide +kernel, by rw [h]; exact ifm_6_28⟩
theorem icl_7_7 : Cond.classLink RX7 7 RX6 ∈ ax_TW := List.mem_filter.mpr ⟨List.mem_of_getElem? (i := 90) (by decide +kernel), rfl⟩
theorem iml_7_9 : Cond.methodLinkNest RX7 9 yX6_init "LearnedCodes" ∈ ax_NW := List.mem_filter.mpr ⟨List.mem_of_getElem? (i := 92) (by decide +kernel), rfl⟩
theorem yLi_7_9 : yLi RX7 9 zi_6 0 := ⟨Or.inr iml_7_9, fun w hw => (List.mem_cons.mp hw).elim (fun e => by rw [e]; exact ico_6) id, iit_6, iim_6, rfl, by decide +kernel, by decide +kernel, by decide +kernel, rfl, by decide⟩
theorem ifm_7_10 : Cond.fieldLink RX7 10 "LearnedCodes" "writer" "LLearnedCodes$Writer;" ∈ ax_TW := List.mem_filter.mpr ⟨List.mem_of_getElem? (i := 272) (by decide +kernel), rfl⟩
theorem zFi_7_10 {g : zG} (h : (ax_y (zq g)).cls = RX7) : zF g 10 7 0 := ⟨by decide, by decide +kernel, by rw [h]; exact ifm_7_10⟩
theorem icl_7_16 : Cond.classLink RX7 16 RX3 ∈ ax_TW := List.mem_filter.mpr ⟨List.mem_of_getElem? (i := 205) (by decide +kernel), rfl⟩
theorem iml_7_18 : Cond.methodLinkNest RX7 18 yX3_init "LearnedCodes" ∈ ax_NW := List.mem_filter.mpr ⟨List.mem_of_getElem? (i := 207) (by decide +kernel), rfl⟩
theorem yLi_7_18 : yLi RX7 18 zi_3 0 := ⟨Or.inr iml_7_18, fun w hw => (List.mem_cons.mp hw).elim (fun e => by rw [e]; exact ico_3) id, iit_3, iim_3, rfl, by decide +kernel, by decide +kernel, by decide +kernel, rfl, by decide⟩
theorem ifm_7_19 : Cond.fieldLink RX7 19 "LearnedCodes" "reader" "LLearnedCodes$Reader;" ∈ ax_TW := List.mem_filter.mpr ⟨List.mem_of_getElem? (i := 273) (by decide +kernel), rfl⟩
theorem zFi_7_19 {g : zG} (h : (ax_y (zq g)).cls = RX7) : zF g 19 7 1 := ⟨by decide, by decide +kernel, by rw [h]; exact ifm_7_19⟩
theorem ifm_8_7 : Cond.fieldLink RX8 7 "LearnedCodesModel" "spaceCount" "[I" ∈ ax_TW := List.mem_filter.mpr ⟨List.mem_of_getElem? (i := 848) (by decide +kernel), rfl⟩
theorem zFi_8_7 {g : zG} (h : (ax_y (zq g)).cls = RX8) : zF g 7 8 1 := ⟨by decide, by decide +kernel, by rw [h]; exact ifm_8_7⟩
theorem ifm_8_13 : Cond.fieldLink RX8 13 "LearnedCodesModel" "spaces" "[I" ∈ ax_TW := List.mem_filter.mpr ⟨List.mem_of_getElem? (i := 849) (by decide +kernel), rfl⟩
theorem zFi_8_13 {g : zG} (h : (ax_y (zq g)).cls = RX8) : zF g 13 8 2 := ⟨by decide, by decide +kernel, by rw [h]; exact ifm_8_13⟩
theorem ifm_8_16 : Cond.fieldLink RX8 16 "LearnedCodesModel" "localCount" "[I" ∈ ax_TW := List.mem_filter.mpr ⟨List.mem_of_getElem? (i := 850) (by decide +kernel), rfl⟩
theorem zFi_8_16 {g : zG} (h : (ax_y (zq g)).cls = RX8) : zF g 16 8 3 := ⟨by decide, by decide +kernel, by rw [h]; exact ifm_8_16⟩
theorem ifm_8_19 : Cond.fieldLink RX8 19 "LearnedCodesModel" "locals" "[I" ∈ ax_TW := List.mem_filter.mpr ⟨List.mem_of_getElem? (i := 851) (by decide +kernel), rfl⟩
theorem zFi_8_19 {g : zG} (h : (ax_y (zq g)).cls = RX8) : zF g 19 8 4 := ⟨by decide, by decide +kernel, by rw [h]; exact ifm_8_19⟩
theorem ifm_8_22 : Cond.fieldLink RX8 22 "LearnedCodesModel" "nameCount" "[I" ∈ ax_TW := List.mem_filter.mpr ⟨List.mem_of_getElem? (i := 852) (by decide +kernel), rfl⟩
theorem zFi_8_22 {g : zG} (h : (ax_y (zq g)).cls = RX8) : zF g 22 8 5 := ⟨by decide, by decide +kernel, by rw [h]; exact ifm_8_22⟩
theorem ifm_8_25 : Cond.fieldLink RX8 25 "LearnedCodesModel" "nameSpace" "[I" ∈ ax_TW := List.mem_filter.mpr ⟨List.mem_of_getElem? (i := 853) (by decide +kernel), rfl⟩
theorem zFi_8_25 {g : zG} (h : (ax_y (zq g)).cls = RX8) : zF g 25 8 6 := ⟨by decide, by decide +kernel, by rw [h]; exact ifm_8_25⟩
theorem ifm_8_28 : Cond.fieldLink RX8 28 "LearnedCodesModel" "nameLocal" "[I" ∈ ax_TW := List.mem_filter.mpr ⟨List.mem_of_getElem? (i := 854) (by decide +kernel), rfl⟩
theorem zFi_8_28 {g : zG} (h : (ax_y (zq g)).cls = RX8) : zF g 28 8 7 := ⟨by decide, by decide +kernel, by rw [h]; exact ifm_8_28⟩
theorem ifm_8_31 : Cond.fieldLink RX8 31 "LearnedCodesModel" "valueCount" "[I" ∈ ax_TW := List.mem_filter.mpr ⟨List.mem_of_getElem? (i := 855) (by decide +kernel), rfl⟩
theorem zFi_8_31 {g : zG} (h : (ax_y (zq g)).cls = RX8) : zF g 31 8 8 := ⟨by decide, by decide +kernel, by rw [h]; exact ifm_8_31⟩
theorem ifm_8_34 : Cond.fieldLink RX8 34 "LearnedCodesModel" "values" "[I" ∈ ax_TW := List.mem_filter.mpr ⟨List.mem_of_getElem? (i := 856) (by decide +kernel), rfl⟩
theorem zFi_8_34 {g : zG} (h : (ax_y (zq g)).cls = RX8) : zF g 34 8 9 := ⟨by decide, by decide +kernel, by rw [h]; exact ifm_8_34⟩
theorem ifm_8_37 : Cond.fieldLink RX8 37 "LearnedCodesModel" "allCount" "[I" ∈ ax_TW := List.mem_filter.mpr ⟨List.mem_of_getElem? (i := 857) (by decide +kernel), rfl⟩
theorem zFi_8_37 {g : zG} (h : (ax_y (zq g)).cls = RX8) : zF g 37 8 10 := ⟨by decide, by decide +kernel, by rw [h]; exact ifm_8_37⟩
theorem ifm_8_40 : Cond.fieldLink RX8 40 "LearnedCodesModel" "all" "[I" ∈ ax_TW := List.mem_filter.mpr ⟨List.mem_of_getElem? (i := 858) (by decide +kernel), rfl⟩
theorem zFi_8_40 {g : zG} (h : (ax_y (zq g)).cls = RX8) : zF g 40 8 11 := ⟨by decide, by decide +kernel, by rw [h]; exact ifm_8_40⟩
theorem ifm_8_43 : Cond.fieldLink RX8 43 "LearnedCodesModel" "rowCount" "[I" ∈ ax_TW := List.mem_filter.mpr ⟨List.mem_of_getElem? (i := 859) (by decide +kernel), rfl⟩
theorem zFi_8_43 {g : zG} (h : (ax_y (zq g)).cls = RX8) : zF g 43 8 12 := ⟨by decide, by decide +kernel, by rw [h]; exact ifm_8_43⟩
theorem ifm_8_46 : Cond.fieldLink RX8 46 "LearnedCodesModel" "rows" "[I" ∈ ax_TW := List.mem_filter.mpr ⟨List.mem_of_getElem? (i := 860) (by decide +kernel), rfl⟩
theorem zFi_8_46 {g : zG} (h : (ax_y (zq g)).cls = RX8) : zF g 46 8 13 := ⟨by decide, by decide +kernel, by rw [h]; exact ifm_8_46⟩
theorem ifm_8_49 : Cond.fieldLink RX8 49 "LearnedCodesModel" "depth" "[I" ∈ ax_TW := List.mem_filter.mpr ⟨List.mem_of_getElem? (i := 861) (by decide +kernel), rfl⟩
theorem zFi_8_49 {g : zG} (h : (ax_y (zq g)).cls = RX8) : zF g 49 8 14 := ⟨by decide, by decide +kernel, by rw [h]; exact ifm_8_49⟩
theorem ifm_8_52 : Cond.fieldLink RX8 52 "LearnedCodesModel" "openNames" "[I" ∈ ax_TW := List.mem_filter.mpr ⟨List.mem_of_getElem? (i := 862) (by decide +kernel), rfl⟩
theorem zFi_8_52 {g : zG} (h : (ax_y (zq g)).cls = RX8) : zF g 52 8 15 := ⟨by decide, by decide +kernel, by rw [h]; exact ifm_8_52⟩
theorem ifm_8_55 : Cond.fieldLink RX8 55 "LearnedCodesModel" "inContent" "[Z" ∈ ax_TW := List.mem_filter.mpr ⟨List.mem_of_getElem? (i := 863) (by decide +kernel), rfl⟩
theorem zFi_8_55 {g : zG} (h : (ax_y (zq g)).cls = RX8) : zF g 55 8 16 := ⟨by decide, by decide +kernel, by rw [h]; exact ifm_8_55⟩
theorem ifm_8_59 : Cond.fieldLink RX8 59 "LearnedCodesModel" "whole" "[Z" ∈ ax_TW := List.mem_filter.mpr ⟨List.mem_of_getElem? (i := 864) (by decide +kernel), rfl⟩
theorem zFi_8_59 {g : zG} (h : (ax_y (zq g)).cls = RX8) : zF g 59 8 17 := ⟨by decide, by decide +kernel, by rw [h]; exact ifm_8_59⟩
theorem ifm_8_62 : Cond.fieldLink RX8 62 "LearnedCodesModel" "bits" "[Z" ∈ ax_TW := List.mem_filter.mpr ⟨List.mem_of_getElem? (i := 865) (by decide +kernel), rfl⟩
theorem zFi_8_62 {g : zG} (h : (ax_y (zq g)).cls = RX8) : zF g 62 8 18 := ⟨by decide, by decide +kernel, by rw [h]; exact ifm_8_62⟩
theorem ifm_8_65 : Cond.fieldLink RX8 65 "LearnedCodesModel" "stream" "[Z" ∈ ax_TW := List.mem_filter.mpr ⟨List.mem_of_getElem? (i := 867) (by decide +kernel), rfl⟩
theorem zFi_8_65 {g : zG} (h : (ax_y (zq g)).cls = RX8) : zF g 65 8 20 := ⟨by decide, by decide +kernel, by rw [h]; exact ifm_8_65⟩
theorem ifm_8_68 : Cond.fieldLink RX8 68 "LearnedCodesModel" "eventKind" "[I" ∈ ax_TW := List.mem_filter.mpr ⟨List.mem_of_getElem? (i := 872) (by decide +kernel), rfl⟩
theorem zFi_8_68 {g : zG} (h : (ax_y (zq g)).cls = RX8) : zF g 68 8 25 := ⟨by decide, by decide +kernel, by rw [h]; exact ifm_8_68⟩
theorem ifm_8_71 : Cond.fieldLink RX8 71 "LearnedCodesModel" "eventSpace" "[I" ∈ ax_TW := List.mem_filter.mpr ⟨List.mem_of_getElem? (i := 873) (by decide +kernel), rfl⟩
theorem zFi_8_71 {g : zG} (h : (ax_y (zq g)).cls = RX8) : zF g 71 8 26 := ⟨by decide, by decide +kernel, by rw [h]; exact ifm_8_71⟩
theorem ifm_8_74 : Cond.fieldLink RX8 74 "LearnedCodesModel" "eventLocal" "[I" ∈ ax_TW := List.mem_filter.mpr ⟨List.mem_of_getElem? (i := 874) (by decide +kernel), rfl⟩
theorem zFi_8_74 {g : zG} (h : (ax_y (zq g)).cls = RX8) : zF g 74 8 27 := ⟨by decide, by decide +kernel, by rw [h]; exact ifm_8_74⟩
theorem ifm_8_77 : Cond.fieldLink RX8 77 "LearnedCodesModel" "eventValue" "[I" ∈ ax_TW := List.mem_filter.mpr ⟨List.mem_of_getElem? (i := 875) (by decide +kernel), rfl⟩
theorem zFi_8_77 {g : zG} (h : (ax_y (zq g)).cls = RX8) : zF g 77 8 28 := ⟨by decide, by decide +kernel, by rw [h]; exact ifm_8_77⟩
theorem idf_0 : ∀ j, j < 2 → defaultValue (ax_ty 0 j) = vp_V [.null, .int 0] j := by decide +kernel
theorem idf_1 : ∀ j, j < 2 → defaultValue (ax_ty 1 j) = vp_V [.null, .int 0] j := by decide +kernel
theorem idf_2 : ∀ j, j < 6 → defaultValue (ax_ty 2 j) = vp_V [.null, .null, .null, .null, .int 0, .int 0] j := by decide +kernel
theorem idf_3 : ∀ j, j < 5 → defaultValue (ax_ty 3 j) = vp_V [.null, .null, .null, .null, .int 0] j := by decide +kernel
theorem idf_4 : ∀ j, j < 3 → defaultValue (ax_ty 4 j) = vp_V [.null, .null, .int 0] j := by decide +kernel
theorem idf_5 : ∀ j, j < 6 → defaultValue (ax_ty 5 j) = vp_V [.null, .null, .null, .null, .null, .null] j := by decide +kernel
theorem idf_6 : ∀ j, j < 3 → defaultValue (ax_ty 6 j) = vp_V [.null, .null, .null] j := by decide +kernel
theorem idf_7 : ∀ j, j < 2 → defaultValue (ax_ty 7 j) = vp_V [.null, .null] j := by decide +kernel
theorem idf_8 : ∀ j, j < 30 → defaultValue (ax_ty 8 j) = vp_V [.int 0, .null, .null, .null, .null, .null, .null, .null, .null, .null, .null, .null, .null, .null, .null, .null, .null, .null, .null, .int 0, .null, .int 0, .int 0, .int 0, .int 0, .null, .null, .null, .null, .int 0] j := by decide +kernel
