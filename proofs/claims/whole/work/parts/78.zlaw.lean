/-! THE LAW'S WRAPPERS: rows. -/
def RL : String := "LearnedCodesLaw"
abbrev cL_open : ByteArray := method_3_code
def yL_open : MethodName := ⟨RL, "open", "(LLearnedCodes;II)I"⟩
def zw_open : ax_M := (yL_open, cL_open, 4, (some .int), 0, 3, 0, 1, [])
def hh_open : List (Nat × Nat × Nat × Nat) := [(0, 6, 9, 13), (0, 6, 12, 15), (0, 6, 15, 17)]
theorem dL_open_0 : decode cL_open 0 = .ok (.aload_n 0, 1) := by decide +kernel
theorem dL_open_1 : decode cL_open 1 = .ok (.iload_n 1, 1) := by decide +kernel
theorem dL_open_2 : decode cL_open 2 = .ok (.iload_n 2, 1) := by decide +kernel
theorem dL_open_3 : decode cL_open 3 = .ok (.invokevirtual 7, 3) := by decide +kernel
theorem dL_open_6 : decode cL_open 6 = .ok (.goto 12, 3) := by decide +kernel
theorem dL_open_9 : decode cL_open 9 = .ok (.astore_n 3, 1) := by decide +kernel
theorem dL_open_10 : decode cL_open 10 = .ok (.iconst 1, 1) := by decide +kernel
theorem dL_open_11 : decode cL_open 11 = .ok (.ireturn, 1) := by decide +kernel
theorem dL_open_12 : decode cL_open 12 = .ok (.astore_n 3, 1) := by decide +kernel
theorem dL_open_13 : decode cL_open 13 = .ok (.iconst 2, 1) := by decide +kernel
theorem dL_open_14 : decode cL_open 14 = .ok (.ireturn, 1) := by decide +kernel
theorem dL_open_15 : decode cL_open 15 = .ok (.astore_n 3, 1) := by decide +kernel
theorem dL_open_16 : decode cL_open 16 = .ok (.iconst 3, 1) := by decide +kernel
theorem dL_open_17 : decode cL_open 17 = .ok (.ireturn, 1) := by decide +kernel
theorem dL_open_18 : decode cL_open 18 = .ok (.iconst 0, 1) := by decide +kernel
theorem dL_open_19 : decode cL_open 19 = .ok (.ireturn, 1) := by decide +kernel
abbrev cL_attribute : ByteArray := method_4_code
def yL_attribute : MethodName := ⟨RL, "attribute", "(LLearnedCodes;III)I"⟩
def zw_attribute : ax_M := (yL_attribute, cL_attribute, 5, (some .int), 0, 4, 0, 1, [])
def hh_attribute : List (Nat × Nat × Nat × Nat) := [(0, 7, 10, 13), (0, 7, 14, 15), (0, 7, 18, 17)]
theorem dL_attribute_0 : decode cL_attribute 0 = .ok (.aload_n 0, 1) := by decide +kernel
theorem dL_attribute_1 : decode cL_attribute 1 = .ok (.iload_n 1, 1) := by decide +kernel
theorem dL_attribute_2 : decode cL_attribute 2 = .ok (.iload_n 2, 1) := by decide +kernel
theorem dL_attribute_3 : decode cL_attribute 3 = .ok (.iload_n 3, 1) := by decide +kernel
theorem dL_attribute_4 : decode cL_attribute 4 = .ok (.invokevirtual 19, 3) := by decide +kernel
theorem dL_attribute_7 : decode cL_attribute 7 = .ok (.goto 15, 3) := by decide +kernel
theorem dL_attribute_10 : decode cL_attribute 10 = .ok (.astore 4, 2) := by decide +kernel
theorem dL_attribute_12 : decode cL_attribute 12 = .ok (.iconst 1, 1) := by decide +kernel
theorem dL_attribute_13 : decode cL_attribute 13 = .ok (.ireturn, 1) := by decide +kernel
theorem dL_attribute_14 : decode cL_attribute 14 = .ok (.astore 4, 2) := by decide +kernel
theorem dL_attribute_16 : decode cL_attribute 16 = .ok (.iconst 2, 1) := by decide +kernel
theorem dL_attribute_17 : decode cL_attribute 17 = .ok (.ireturn, 1) := by decide +kernel
theorem dL_attribute_18 : decode cL_attribute 18 = .ok (.astore 4, 2) := by decide +kernel
theorem dL_attribute_20 : decode cL_attribute 20 = .ok (.iconst 3, 1) := by decide +kernel
theorem dL_attribute_21 : decode cL_attribute 21 = .ok (.ireturn, 1) := by decide +kernel
theorem dL_attribute_22 : decode cL_attribute 22 = .ok (.iconst 0, 1) := by decide +kernel
theorem dL_attribute_23 : decode cL_attribute 23 = .ok (.ireturn, 1) := by decide +kernel
abbrev cL_text : ByteArray := method_5_code
def yL_text : MethodName := ⟨RL, "text", "(LLearnedCodes;I)I"⟩
def zw_text : ax_M := (yL_text, cL_text, 3, (some .int), 0, 2, 0, 1, [])
def hh_text : List (Nat × Nat × Nat × Nat) := [(0, 5, 8, 13), (0, 5, 11, 15), (0, 5, 14, 17)]
theorem dL_text_0 : decode cL_text 0 = .ok (.aload_n 0, 1) := by decide +kernel
theorem dL_text_1 : decode cL_text 1 = .ok (.iload_n 1, 1) := by decide +kernel
theorem dL_text_2 : decode cL_text 2 = .ok (.invokevirtual 23, 3) := by decide +kernel
theorem dL_text_5 : decode cL_text 5 = .ok (.goto 12, 3) := by decide +kernel
theorem dL_text_8 : decode cL_text 8 = .ok (.astore_n 2, 1) := by decide +kernel
theorem dL_text_9 : decode cL_text 9 = .ok (.iconst 1, 1) := by decide +kernel
theorem dL_text_10 : decode cL_text 10 = .ok (.ireturn, 1) := by decide +kernel
theorem dL_text_11 : decode cL_text 11 = .ok (.astore_n 2, 1) := by decide +kernel
theorem dL_text_12 : decode cL_text 12 = .ok (.iconst 2, 1) := by decide +kernel
theorem dL_text_13 : decode cL_text 13 = .ok (.ireturn, 1) := by decide +kernel
theorem dL_text_14 : decode cL_text 14 = .ok (.astore_n 2, 1) := by decide +kernel
theorem dL_text_15 : decode cL_text 15 = .ok (.iconst 3, 1) := by decide +kernel
theorem dL_text_16 : decode cL_text 16 = .ok (.ireturn, 1) := by decide +kernel
theorem dL_text_17 : decode cL_text 17 = .ok (.iconst 0, 1) := by decide +kernel
theorem dL_text_18 : decode cL_text 18 = .ok (.ireturn, 1) := by decide +kernel
abbrev cL_close : ByteArray := method_6_code
def yL_close : MethodName := ⟨RL, "close", "(LLearnedCodes;[J)I"⟩
def zw_close : ax_M := (yL_close, cL_close, 3, (some .int), 0, 2, 0, 1, [])
def hh_close : List (Nat × Nat × Nat × Nat) := [(0, 8, 11, 15), (0, 8, 14, 17)]
theorem dL_close_0 : decode cL_close 0 = .ok (.aload_n 1, 1) := by decide +kernel
theorem dL_close_1 : decode cL_close 1 = .ok (.iconst 0, 1) := by decide +kernel
theorem dL_close_2 : decode cL_close 2 = .ok (.aload_n 0, 1) := by decide +kernel
theorem dL_close_3 : decode cL_close 3 = .ok (.invokevirtual 27, 3) := by decide +kernel
theorem dL_close_6 : decode cL_close 6 = .ok (.i2l, 1) := by decide +kernel
theorem dL_close_7 : decode cL_close 7 = .ok (.lastore, 1) := by decide +kernel
theorem dL_close_8 : decode cL_close 8 = .ok (.goto 9, 3) := by decide +kernel
theorem dL_close_11 : decode cL_close 11 = .ok (.astore_n 2, 1) := by decide +kernel
theorem dL_close_12 : decode cL_close 12 = .ok (.iconst 1, 1) := by decide +kernel
theorem dL_close_13 : decode cL_close 13 = .ok (.ireturn, 1) := by decide +kernel
theorem dL_close_14 : decode cL_close 14 = .ok (.astore_n 2, 1) := by decide +kernel
theorem dL_close_15 : decode cL_close 15 = .ok (.iconst 2, 1) := by decide +kernel
theorem dL_close_16 : decode cL_close 16 = .ok (.ireturn, 1) := by decide +kernel
theorem dL_close_17 : decode cL_close 17 = .ok (.iconst 0, 1) := by decide +kernel
theorem dL_close_18 : decode cL_close 18 = .ok (.ireturn, 1) := by decide +kernel
abbrev cL_push : ByteArray := method_7_code
def yL_push : MethodName := ⟨RL, "push", "(LLearnedCodes;Z[J)I"⟩
def zw_push : ax_M := (yL_push, cL_push, 4, (some .int), 0, 3, 0, 1, [])
def hh_push : List (Nat × Nat × Nat × Nat) := [(0, 9, 12, 15)]
theorem dL_push_0 : decode cL_push 0 = .ok (.aload_n 2, 1) := by decide +kernel
theorem dL_push_1 : decode cL_push 1 = .ok (.iconst 0, 1) := by decide +kernel
theorem dL_push_2 : decode cL_push 2 = .ok (.aload_n 0, 1) := by decide +kernel
theorem dL_push_3 : decode cL_push 3 = .ok (.iload_n 1, 1) := by decide +kernel
theorem dL_push_4 : decode cL_push 4 = .ok (.invokevirtual 31, 3) := by decide +kernel
theorem dL_push_7 : decode cL_push 7 = .ok (.i2l, 1) := by decide +kernel
theorem dL_push_8 : decode cL_push 8 = .ok (.lastore, 1) := by decide +kernel
theorem dL_push_9 : decode cL_push 9 = .ok (.goto 6, 3) := by decide +kernel
theorem dL_push_12 : decode cL_push 12 = .ok (.astore_n 3, 1) := by decide +kernel
theorem dL_push_13 : decode cL_push 13 = .ok (.iconst 1, 1) := by decide +kernel
theorem dL_push_14 : decode cL_push 14 = .ok (.ireturn, 1) := by decide +kernel
theorem dL_push_15 : decode cL_push 15 = .ok (.iconst 0, 1) := by decide +kernel
theorem dL_push_16 : decode cL_push 16 = .ok (.ireturn, 1) := by decide +kernel
abbrev cL_bit : ByteArray := method_8_code
def yL_bit : MethodName := ⟨RL, "bit", "(LLearnedCodes;I[J)I"⟩
def zw_bit : ax_M := (yL_bit, cL_bit, 4, (some .int), 0, 3, 0, 1, [])
def hh_bit : List (Nat × Nat × Nat × Nat) := [(0, 9, 12, 39)]
theorem dL_bit_0 : decode cL_bit 0 = .ok (.aload_n 2, 1) := by decide +kernel
theorem dL_bit_1 : decode cL_bit 1 = .ok (.iconst 0, 1) := by decide +kernel
theorem dL_bit_2 : decode cL_bit 2 = .ok (.aload_n 0, 1) := by decide +kernel
theorem dL_bit_3 : decode cL_bit 3 = .ok (.iload_n 1, 1) := by decide +kernel
theorem dL_bit_4 : decode cL_bit 4 = .ok (.invokevirtual 35, 3) := by decide +kernel
theorem dL_bit_7 : decode cL_bit 7 = .ok (.i2l, 1) := by decide +kernel
theorem dL_bit_8 : decode cL_bit 8 = .ok (.lastore, 1) := by decide +kernel
theorem dL_bit_9 : decode cL_bit 9 = .ok (.goto 6, 3) := by decide +kernel
theorem dL_bit_12 : decode cL_bit 12 = .ok (.astore_n 3, 1) := by decide +kernel
theorem dL_bit_13 : decode cL_bit 13 = .ok (.iconst 1, 1) := by decide +kernel
theorem dL_bit_14 : decode cL_bit 14 = .ok (.ireturn, 1) := by decide +kernel
theorem dL_bit_15 : decode cL_bit 15 = .ok (.iconst 0, 1) := by decide +kernel
theorem dL_bit_16 : decode cL_bit 16 = .ok (.ireturn, 1) := by decide +kernel
abbrev cL_flip : ByteArray := method_9_code
def yL_flip : MethodName := ⟨RL, "flip", "(LLearnedCodes;I)I"⟩
def zw_flip : ax_M := (yL_flip, cL_flip, 3, (some .int), 0, 2, 0, 1, [])
def hh_flip : List (Nat × Nat × Nat × Nat) := [(0, 5, 8, 39)]
theorem dL_flip_0 : decode cL_flip 0 = .ok (.aload_n 0, 1) := by decide +kernel
theorem dL_flip_1 : decode cL_flip 1 = .ok (.iload_n 1, 1) := by decide +kernel
theorem dL_flip_2 : decode cL_flip 2 = .ok (.invokevirtual 41, 3) := by decide +kernel
theorem dL_flip_5 : decode cL_flip 5 = .ok (.goto 6, 3) := by decide +kernel
theorem dL_flip_8 : decode cL_flip 8 = .ok (.astore_n 2, 1) := by decide +kernel
theorem dL_flip_9 : decode cL_flip 9 = .ok (.iconst 1, 1) := by decide +kernel
theorem dL_flip_10 : decode cL_flip 10 = .ok (.ireturn, 1) := by decide +kernel
theorem dL_flip_11 : decode cL_flip 11 = .ok (.iconst 0, 1) := by decide +kernel
theorem dL_flip_12 : decode cL_flip 12 = .ok (.ireturn, 1) := by decide +kernel
abbrev cL_cut : ByteArray := method_10_code
def yL_cut : MethodName := ⟨RL, "cut", "(LLearnedCodes;I)I"⟩
def zw_cut : ax_M := (yL_cut, cL_cut, 3, (some .int), 0, 2, 0, 1, [])
def hh_cut : List (Nat × Nat × Nat × Nat) := [(0, 5, 8, 13)]
theorem dL_cut_0 : decode cL_cut 0 = .ok (.aload_n 0, 1) := by decide +kernel
theorem dL_cut_1 : decode cL_cut 1 = .ok (.iload_n 1, 1) := by decide +kernel
theorem dL_cut_2 : decode cL_cut 2 = .ok (.invokevirtual 44, 3) := by decide +kernel
theorem dL_cut_5 : decode cL_cut 5 = .ok (.goto 6, 3) := by decide +kernel
theorem dL_cut_8 : decode cL_cut 8 = .ok (.astore_n 2, 1) := by decide +kernel
theorem dL_cut_9 : decode cL_cut 9 = .ok (.iconst 1, 1) := by decide +kernel
theorem dL_cut_10 : decode cL_cut 10 = .ok (.ireturn, 1) := by decide +kernel
theorem dL_cut_11 : decode cL_cut 11 = .ok (.iconst 0, 1) := by decide +kernel
theorem dL_cut_12 : decode cL_cut 12 = .ok (.ireturn, 1) := by decide +kernel
abbrev cL_read : ByteArray := method_11_code
def yL_read : MethodName := ⟨RL, "read", "(LLearnedCodes;[J)I"⟩
def zw_read : ax_M := (yL_read, cL_read, 3, (some .int), 0, 2, 0, 1, [])
def hh_read : List (Nat × Nat × Nat × Nat) := [(0, 8, 11, 13), (0, 8, 14, 17)]
theorem dL_read_0 : decode cL_read 0 = .ok (.aload_n 1, 1) := by decide +kernel
theorem dL_read_1 : decode cL_read 1 = .ok (.iconst 0, 1) := by decide +kernel
theorem dL_read_2 : decode cL_read 2 = .ok (.aload_n 0, 1) := by decide +kernel
theorem dL_read_3 : decode cL_read 3 = .ok (.invokevirtual 47, 3) := by decide +kernel
theorem dL_read_6 : decode cL_read 6 = .ok (.i2l, 1) := by decide +kernel
theorem dL_read_7 : decode cL_read 7 = .ok (.lastore, 1) := by decide +kernel
theorem dL_read_8 : decode cL_read 8 = .ok (.goto 9, 3) := by decide +kernel
theorem dL_read_11 : decode cL_read 11 = .ok (.astore_n 2, 1) := by decide +kernel
theorem dL_read_12 : decode cL_read 12 = .ok (.iconst 1, 1) := by decide +kernel
theorem dL_read_13 : decode cL_read 13 = .ok (.ireturn, 1) := by decide +kernel
theorem dL_read_14 : decode cL_read 14 = .ok (.astore_n 2, 1) := by decide +kernel
theorem dL_read_15 : decode cL_read 15 = .ok (.iconst 2, 1) := by decide +kernel
theorem dL_read_16 : decode cL_read 16 = .ok (.ireturn, 1) := by decide +kernel
theorem dL_read_17 : decode cL_read 17 = .ok (.iconst 0, 1) := by decide +kernel
theorem dL_read_18 : decode cL_read 18 = .ok (.ireturn, 1) := by decide +kernel
abbrev cL_event : ByteArray := method_12_code
def yL_event : MethodName := ⟨RL, "event", "(LLearnedCodes;II[J)I"⟩
def zw_event : ax_M := (yL_event, cL_event, 5, (some .int), 0, 4, 0, 1, [])
def hh_event : List (Nat × Nat × Nat × Nat) := [(0, 10, 13, 39), (0, 10, 17, 13)]
theorem dL_event_0 : decode cL_event 0 = .ok (.aload_n 3, 1) := by decide +kernel
theorem dL_event_1 : decode cL_event 1 = .ok (.iconst 0, 1) := by decide +kernel
theorem dL_event_2 : decode cL_event 2 = .ok (.aload_n 0, 1) := by decide +kernel
theorem dL_event_3 : decode cL_event 3 = .ok (.iload_n 1, 1) := by decide +kernel
theorem dL_event_4 : decode cL_event 4 = .ok (.iload_n 2, 1) := by decide +kernel
theorem dL_event_5 : decode cL_event 5 = .ok (.invokevirtual 50, 3) := by decide +kernel
theorem dL_event_8 : decode cL_event 8 = .ok (.i2l, 1) := by decide +kernel
theorem dL_event_9 : decode cL_event 9 = .ok (.lastore, 1) := by decide +kernel
theorem dL_event_10 : decode cL_event 10 = .ok (.goto 11, 3) := by decide +kernel
theorem dL_event_13 : decode cL_event 13 = .ok (.astore 4, 2) := by decide +kernel
theorem dL_event_15 : decode cL_event 15 = .ok (.iconst 1, 1) := by decide +kernel
theorem dL_event_16 : decode cL_event 16 = .ok (.ireturn, 1) := by decide +kernel
theorem dL_event_17 : decode cL_event 17 = .ok (.astore 4, 2) := by decide +kernel
theorem dL_event_19 : decode cL_event 19 = .ok (.iconst 2, 1) := by decide +kernel
theorem dL_event_20 : decode cL_event 20 = .ok (.ireturn, 1) := by decide +kernel
theorem dL_event_21 : decode cL_event 21 = .ok (.iconst 0, 1) := by decide +kernel
theorem dL_event_22 : decode cL_event 22 = .ok (.ireturn, 1) := by decide +kernel
abbrev cL_again : ByteArray := method_13_code
def yL_again : MethodName := ⟨RL, "again", "(LLearnedCodes;[J)I"⟩
def zw_again : ax_M := (yL_again, cL_again, 3, (some .int), 0, 2, 0, 1, [])
def hh_again : List (Nat × Nat × Nat × Nat) := [(0, 8, 11, 15), (0, 8, 14, 17)]
theorem dL_again_0 : decode cL_again 0 = .ok (.aload_n 1, 1) := by decide +kernel
theorem dL_again_1 : decode cL_again 1 = .ok (.iconst 0, 1) := by decide +kernel
theorem dL_again_2 : decode cL_again 2 = .ok (.aload_n 0, 1) := by decide +kernel
theorem dL_again_3 : decode cL_again 3 = .ok (.invokevirtual 54, 3) := by decide +kernel
theorem dL_again_6 : decode cL_again 6 = .ok (.i2l, 1) := by decide +kernel
theorem dL_again_7 : decode cL_again 7 = .ok (.lastore, 1) := by decide +kernel
theorem dL_again_8 : decode cL_again 8 = .ok (.goto 9, 3) := by decide +kernel
theorem dL_again_11 : decode cL_again 11 = .ok (.astore_n 2, 1) := by decide +kernel
theorem dL_again_12 : decode cL_again 12 = .ok (.iconst 1, 1) := by decide +kernel
theorem dL_again_13 : decode cL_again 13 = .ok (.ireturn, 1) := by decide +kernel
theorem dL_again_14 : decode cL_again 14 = .ok (.astore_n 2, 1) := by decide +kernel
theorem dL_again_15 : decode cL_again 15 = .ok (.iconst 2, 1) := by decide +kernel
theorem dL_again_16 : decode cL_again 16 = .ok (.ireturn, 1) := by decide +kernel
theorem dL_again_17 : decode cL_again 17 = .ok (.iconst 0, 1) := by decide +kernel
theorem dL_again_18 : decode cL_again 18 = .ok (.ireturn, 1) := by decide +kernel
theorem zcl_13 : Cond.classLink RL 13 xIA ∈ ax_TW := List.mem_filter.mpr ⟨List.mem_of_getElem? (i := 302) (by decide +kernel), rfl⟩
theorem zcl_15 : Cond.classLink RL 15 xIS ∈ ax_TW := List.mem_filter.mpr ⟨List.mem_of_getElem? (i := 303) (by decide +kernel), rfl⟩
theorem zcl_17 : Cond.classLink RL 17 xUO ∈ ax_TW := List.mem_filter.mpr ⟨List.mem_of_getElem? (i := 304) (by decide +kernel), rfl⟩
theorem zcl_39 : Cond.classLink RL 39 xIB ∈ ax_TW := List.mem_filter.mpr ⟨List.mem_of_getElem? (i := 643) (by decide +kernel), rfl⟩
theorem zml_open : Cond.methodLink RL 7 yX7_open ∈ ax_TW := List.mem_filter.mpr ⟨List.mem_of_getElem? (i := 305) (by decide +kernel), rfl⟩
theorem zim_open : Cond.instanceMethod yX7_open ∈ ax_TW := List.mem_filter.mpr ⟨List.mem_of_getElem? (i := 306) (by decide +kernel), rfl⟩
theorem zse_open : Cond.selects RX7 yX7_open yX7_open ∈ ax_TW := List.mem_filter.mpr ⟨List.mem_of_getElem? (i := 307) (by decide +kernel), rfl⟩
theorem zco_open : Cond.code yX7_open cX7_open 3 none ∈ ax_TW := List.mem_filter.mpr ⟨List.mem_of_getElem? (i := 308) (by decide +kernel), rfl⟩
theorem zml_attribute : Cond.methodLink RL 19 yX7_attribute ∈ ax_TW := List.mem_filter.mpr ⟨List.mem_of_getElem? (i := 591) (by decide +kernel), rfl⟩
theorem zim_attribute : Cond.instanceMethod yX7_attribute ∈ ax_TW := List.mem_filter.mpr ⟨List.mem_of_getElem? (i := 592) (by decide +kernel), rfl⟩
theorem zse_attribute : Cond.selects RX7 yX7_attribute yX7_attribute ∈ ax_TW := List.mem_filter.mpr ⟨List.mem_of_getElem? (i := 593) (by decide +kernel), rfl⟩
theorem zco_attribute : Cond.code yX7_attribute cX7_attribute 4 none ∈ ax_TW := List.mem_filter.mpr ⟨List.mem_of_getElem? (i := 594) (by decide +kernel), rfl⟩
theorem zml_text : Cond.methodLink RL 23 yX7_text ∈ ax_TW := List.mem_filter.mpr ⟨List.mem_of_getElem? (i := 605) (by decide +kernel), rfl⟩
theorem zim_text : Cond.instanceMethod yX7_text ∈ ax_TW := List.mem_filter.mpr ⟨List.mem_of_getElem? (i := 606) (by decide +kernel), rfl⟩
theorem zse_text : Cond.selects RX7 yX7_text yX7_text ∈ ax_TW := List.mem_filter.mpr ⟨List.mem_of_getElem? (i := 607) (by decide +kernel), rfl⟩
theorem zco_text : Cond.code yX7_text cX7_text 2 none ∈ ax_TW := List.mem_filter.mpr ⟨List.mem_of_getElem? (i := 608) (by decide +kernel), rfl⟩
theorem zml_close : Cond.methodLink RL 27 yX7_close ∈ ax_TW := List.mem_filter.mpr ⟨List.mem_of_getElem? (i := 623) (by decide +kernel), rfl⟩
theorem zim_close : Cond.instanceMethod yX7_close ∈ ax_TW := List.mem_filter.mpr ⟨List.mem_of_getElem? (i := 624) (by decide +kernel), rfl⟩
theorem zse_close : Cond.selects RX7 yX7_close yX7_close ∈ ax_TW := List.mem_filter.mpr ⟨List.mem_of_getElem? (i := 625) (by decide +kernel), rfl⟩
theorem zco_close : Cond.code yX7_close cX7_close 1 (some .int) ∈ ax_TW := List.mem_filter.mpr ⟨List.mem_of_getElem? (i := 626) (by decide +kernel), rfl⟩
theorem zml_push : Cond.methodLink RL 31 yX7_push ∈ ax_TW := List.mem_filter.mpr ⟨List.mem_of_getElem? (i := 630) (by decide +kernel), rfl⟩
theorem zim_push : Cond.instanceMethod yX7_push ∈ ax_TW := List.mem_filter.mpr ⟨List.mem_of_getElem? (i := 631) (by decide +kernel), rfl⟩
theorem zse_push : Cond.selects RX7 yX7_push yX7_push ∈ ax_TW := List.mem_filter.mpr ⟨List.mem_of_getElem? (i := 632) (by decide +kernel), rfl⟩
theorem zco_push : Cond.code yX7_push cX7_push 2 (some .int) ∈ ax_TW := List.mem_filter.mpr ⟨List.mem_of_getElem? (i := 633) (by decide +kernel), rfl⟩
theorem zml_bit : Cond.methodLink RL 35 yX7_bit ∈ ax_TW := List.mem_filter.mpr ⟨List.mem_of_getElem? (i := 644) (by decide +kernel), rfl⟩
theorem zim_bit : Cond.instanceMethod yX7_bit ∈ ax_TW := List.mem_filter.mpr ⟨List.mem_of_getElem? (i := 645) (by decide +kernel), rfl⟩
theorem zse_bit : Cond.selects RX7 yX7_bit yX7_bit ∈ ax_TW := List.mem_filter.mpr ⟨List.mem_of_getElem? (i := 646) (by decide +kernel), rfl⟩
theorem zco_bit : Cond.code yX7_bit cX7_bit 2 (some .int) ∈ ax_TW := List.mem_filter.mpr ⟨List.mem_of_getElem? (i := 647) (by decide +kernel), rfl⟩
theorem zml_flip : Cond.methodLink RL 41 yX7_flip ∈ ax_TW := List.mem_filter.mpr ⟨List.mem_of_getElem? (i := 671) (by decide +kernel), rfl⟩
theorem zim_flip : Cond.instanceMethod yX7_flip ∈ ax_TW := List.mem_filter.mpr ⟨List.mem_of_getElem? (i := 672) (by decide +kernel), rfl⟩
theorem zse_flip : Cond.selects RX7 yX7_flip yX7_flip ∈ ax_TW := List.mem_filter.mpr ⟨List.mem_of_getElem? (i := 673) (by decide +kernel), rfl⟩
theorem zco_flip : Cond.code yX7_flip cX7_flip 2 none ∈ ax_TW := List.mem_filter.mpr ⟨List.mem_of_getElem? (i := 674) (by decide +kernel), rfl⟩
theorem zml_cut : Cond.methodLink RL 44 yX7_cut ∈ ax_TW := List.mem_filter.mpr ⟨List.mem_of_getElem? (i := 678) (by decide +kernel), rfl⟩
theorem zim_cut : Cond.instanceMethod yX7_cut ∈ ax_TW := List.mem_filter.mpr ⟨List.mem_of_getElem? (i := 679) (by decide +kernel), rfl⟩
theorem zse_cut : Cond.selects RX7 yX7_cut yX7_cut ∈ ax_TW := List.mem_filter.mpr ⟨List.mem_of_getElem? (i := 680) (by decide +kernel), rfl⟩
theorem zco_cut : Cond.code yX7_cut cX7_cut 2 none ∈ ax_TW := List.mem_filter.mpr ⟨List.mem_of_getElem? (i := 681) (by decide +kernel), rfl⟩
theorem zml_read : Cond.methodLink RL 47 yX7_read ∈ ax_TW := List.mem_filter.mpr ⟨List.mem_of_getElem? (i := 686) (by decide +kernel), rfl⟩
theorem zim_read : Cond.instanceMethod yX7_read ∈ ax_TW := List.mem_filter.mpr ⟨List.mem_of_getElem? (i := 687) (by decide +kernel), rfl⟩
theorem zse_read : Cond.selects RX7 yX7_read yX7_read ∈ ax_TW := List.mem_filter.mpr ⟨List.mem_of_getElem? (i := 688) (by decide +kernel), rfl⟩
theorem zco_read : Cond.code yX7_read cX7_read 2 (some .int) ∈ ax_TW := List.mem_filter.mpr ⟨List.mem_of_getElem? (i := 689) (by decide +kernel), rfl⟩
theorem zml_event : Cond.methodLink RL 50 yX7_event ∈ ax_TW := List.mem_filter.mpr ⟨List.mem_of_getElem? (i := 822) (by decide +kernel), rfl⟩
theorem zim_event : Cond.instanceMethod yX7_event ∈ ax_TW := List.mem_filter.mpr ⟨List.mem_of_getElem? (i := 823) (by decide +kernel), rfl⟩
theorem zse_event : Cond.selects RX7 yX7_event yX7_event ∈ ax_TW := List.mem_filter.mpr ⟨List.mem_of_getElem? (i := 824) (by decide +kernel), rfl⟩
theorem zco_event : Cond.code yX7_event cX7_event 3 (some .int) ∈ ax_TW := List.mem_filter.mpr ⟨List.mem_of_getElem? (i := 825) (by decide +kernel), rfl⟩
theorem zml_again : Cond.methodLink RL 54 yX7_again ∈ ax_TW := List.mem_filter.mpr ⟨List.mem_of_getElem? (i := 835) (by decide +kernel), rfl⟩
theorem zim_again : Cond.instanceMethod yX7_again ∈ ax_TW := List.mem_filter.mpr ⟨List.mem_of_getElem? (i := 836) (by decide +kernel), rfl⟩
theorem zse_again : Cond.selects RX7 yX7_again yX7_again ∈ ax_TW := List.mem_filter.mpr ⟨List.mem_of_getElem? (i := 837) (by decide +kernel), rfl⟩
theorem zco_again : Cond.code yX7_again cX7_again 4 (some .int) ∈ ax_TW := List.mem_filter.mpr ⟨List.mem_of_getElem? (i := 838) (by decide +kernel), rfl⟩
theorem zin_7 : Cond.initialized RX7 ∈ ax_TW := List.mem_filter.mpr ⟨List.mem_of_getElem? (i := 66) (by decide +kernel), rfl⟩
theorem zin_L : Cond.initialized RL ∈ ax_TW := List.mem_filter.mpr ⟨List.mem_of_getElem? (i := 65) (by decide +kernel), rfl⟩
/-- the class of E is that of nm's children, or not -/
def zNl : List (String × String) := [(xIS, xIA), (xUO, xIA), (xUO, xIS), (xIA, xIB)]
def zCl : List String := [xIA, xIS, xUO, xIB]
theorem zCl_c : zCl.all (fun E => (Cond.castable E E).onTables && (Cond.castable E E).keepsCast) = true := by decide +kernel
theorem zCl_t : zCl.all (fun E => decide (Cond.castable E E ∈ lw_tbl)) = true := by decide +kernel
def zNw (U : State) : Prop := (∀ r ∈ zNl, va_Nc r.1 r.2 U) ∧ ∀ E ∈ zCl, (Cond.castable E E).before #[] U = true
theorem zNw_warm {s U : State} (h : zNw s) (hW : s.WarmedH U.vm) : zNw U := ⟨fun r hr => (h.1 r hr).moved hW.alike, fun E hE => zw_warm (List.all_eq_true.mp zCl_c E hE) hW (h.2 E hE)⟩
theorem zcast {s : State} {args : Array Value} {E : String} (h : zNw s) (hE : E ∈ zCl) : (Cond.castable E E).before args s = true := by
  have h2 := List.all_eq_true.mp zCl_c E hE
  exact zw_warm h2 (State.WarmedH.refl s) (h.2 E hE)
def R8 : Room := { frames := 8, cells := 1, slots := 6, locals := 224 }
def z8 (p : Program) (l : Launch) (e : Env) (s : State) (m : MethodId) (args : Array Value) (below : List Frame) (meth : Method) (c : Code) (D : va_G) (ad : Nat → Nat) (ca : Nat → ClassId) (q : ax_M) (Q : ax_Po) : zG :=
  ((p, l, e, R8, s, m, args, below, meth, c), MQ below (ax_Qc D ad ca Q s.heap.size) args s 1 6 (ax_A ad s.heap.size), D, ad, ca, s.heap, q)
/-- what a call of a throwing method asks of the words -/
def zLx (cls : String) (idx : Nat) (q : ax_M) (n : Nat) : Prop := (∀ w ∈ wsV cls idx (ax_y q).cls (ax_y q) (ax_ws q), w ∈ ax_TW) ∧ (ax_y q).cls = RX7 ∧ plainName (ax_y q).cls = true ∧ (ax_y q).cls ≠ "java/lang/invoke/MethodHandle" ∧ (ax_y q).cls ≠ "java/lang/invoke/VarHandle" ∧ (parseMethodDescriptor (ax_y q).desc).map (fun d => d.parameters.length) = some n ∧ n + 1 ≤ ax_n q ∧ ax_n q ≤ 9
section ZY
variable {p : Program} {l : Launch} {e : Env} {R : Room} {s : State} {m : MethodId} {args : Array Value} {below : List Frame} {meth : Method} {c : Code} {H : Heap} {locs : List Loc} {cells slots : Nat} {Qt : State → Prop} {D : va_G} {ad : Nat → Nat} {ca : Nat → ClassId} {d : ax_D} {H0 : Heap} {pc : Nat} {ls : Array Slot} {st0 rest : List Value}
theorem zx_backX {P : ax_Po} {QX : String → ax_D → Prop} {sz : Nat} {a : Array Value} (hr : vx_Run p l e R s m args below meth c H locs cells slots 1 6 (F0 m pc ls st0) (rest.map (ax_cv ad)) (ax_Qc D ad ca P H.size a) (zXC D ad ca QX H.size) (ax_A ad H.size)) (hS : va_S (ax_A ad sz) H0 H locs) (hz : sz ≤ H.size)
    (kk : ∀ (r : Option Value) (d1 : ax_D) (H1 : Heap) (locs1 : List Loc), P r d1 → va_P D vwCl (ax_w ad ca d1) H1 → va_S (ax_A ad sz) H0 H1 locs1 → W p l e R s m args below meth c H1 locs1 (cells + 1) (slots + 6) Qt (F0 m (pc + 3) ls ((r.toList ++ rest).map (ax_cv ad))))
    (kx : ∀ (E : String) (d1 : ax_D) (H1 : Heap) (locs1 : List Loc) (q : Addr) (ce : Cell), QX E d1 → va_P D vwCl (ax_w ad ca d1) H1 → va_S (ax_A ad sz) H0 H1 locs1 → H1[q]? = some ce → ce.vm = .none → s.vm.findClass E = some ce.cls → vx_W p l e R s m args below meth c H1 locs1 (cells + 1) (slots + 6) Qt (F0 m pc ls (rest.map (ax_cv ad))) q) : W p l e R s m args below meth c H locs cells slots Qt (F0 m pc ls st0) := by
  intro T hT X
  have hA := ax_A_le (ad := ad) hz
  have keep : ∀ (t T' : State) (L : List Loc), T'.heap = t.heap → H.size ≤ t.heap.size → (∀ q : Nat, q < H.size → ¬ ax_A ad H.size q → t.heap[q]? = H[q]?) → (∀ q ∈ L, ax_A ad H.size q.base) → va_S (ax_A ad sz) H0 T'.heap (locs ++ L) := fun t T' L e1 hz1 hk hL =>
    ⟨Nat.le_trans hS.1 (by rw [e1]; exact hz1), fun q h1 h2 => by rw [e1, hk q (Nat.lt_of_lt_of_le h1 hS.1) (fun z => h2 (hA q z))]; exact hS.2.1 q h1 h2, fun q hq => by
      rcases List.mem_append.mp hq with h | h
      · exact hS.2.2 q h
      · exact hA _ (hL q h)⟩
  rcases hr T hT X with ⟨v, st₀, t, T', L, h0, X', hL, e1, e2, ⟨⟨r, d1, hv, hp, hP⟩, hz1, hk⟩, st⟩ | ⟨q, st₀, t, T', L, E, ce, h0, X', hL, e1, e2, ⟨⟨d1, hp, hP⟩, hz1, hk⟩, hce, hcv, hcl, st⟩
  · cases hv
    rw [h0] at hz1 hk
    obtain ⟨t2, a1, b1⟩ := kk r d1 T'.heap (locs ++ L) hp (by rw [e1]; exact hP) (keep t T' L e1 hz1 hk hL) T' rfl X'
    have e3 : (r.toList ++ rest).map (ax_cv ad) = (r.map (ax_cv ad)).toList ++ rest.map (ax_cv ad) := by cases r <;> rfl
    rw [e3] at a1
    exact ⟨t2, st t2 a1, b1⟩
  · rw [h0] at hz1 hk
    obtain ⟨t2, a1, b1⟩ := kx E d1 T'.heap (locs ++ L) q ce hp (by rw [e1]; exact hP) (keep t T' L e1 hz1 hk hL) (by rw [e1]; exact hce) hcv hcl T' rfl X'
    exact ⟨t2, st.trans a1, b1⟩
end ZY
section ZW
variable {g : zG} {cells slots pc idx id n a : Nat} {f : Nat → ax_X} {L : ax_L1} {d : ax_D}
/-- a call of a method of the class that may throw -/
theorem zx_vx {tl rest : List Value} {Q : ax_Po} {QX : String → ax_D → Prop} {q : ax_M} (hC : zC g) (hR : 8 ≤ (zR g).frames ∧ 224 ≤ (zR g).locals ∧ cells + 1 ≤ (zR g).cells ∧ slots + 6 ≤ (zR g).slots) (hH : g.2.2.2.2.2.1 = g.1.2.2.2.2.1.heap) (hT : zTh (ax_A g.2.2.2.1 g.1.2.2.2.2.1.heap.size) g.1.2.2.2.2.1) (h : decode (ax_c (zq g)) pc = .ok (.invokevirtual idx, 3)) (hl : zLx (ax_y (zq g)).cls idx q tl.length) (hcat : ∀ v ∈ (Value.ref id :: tl), v.category = 1) (hsum : (rest.map fun v => v.category).sum ≤ 8) (hsh : ax_sh id = some (7 + 4, n, f)) (hE : zE g.1.2.1 q (.ref id :: tl) d Q QX)
    (kk : ∀ (r : Option Value) (d1 : ax_D), Q r d1 → zx g (cells + 1) (slots + 6) (pc + 3) L (r.toList ++ rest) d1)
    (kx : ∀ (E : String) (d1 : ax_D), QX E d1 → ∀ (H1 : Heap) (locs1 : List Loc) (ls : Array Slot) (q : Addr) (ce : Cell), va_P g.2.2.1 vwCl (ax_w g.2.2.2.1 g.2.2.2.2.1 d1) H1 → va_D (ax_A g.2.2.2.1 g.2.2.2.2.2.1.size) (ax_w g.2.2.2.1 g.2.2.2.2.1 d1) → va_S (ax_A g.2.2.2.1 g.2.2.2.2.2.1.size) g.2.2.2.2.2.1 H1 locs1 → L.length = ax_n (zq g) → lv_has ls (ax_n (zq g)) (ax_lv g.2.2.2.1 L) → H1[q]? = some ce → ce.vm = .none → g.1.2.2.2.2.1.vm.findClass E = some ce.cls →
      vx_W g.1.1 g.1.2.1 g.1.2.2.1 g.1.2.2.2.1 g.1.2.2.2.2.1 g.1.2.2.2.2.2.1 g.1.2.2.2.2.2.2.1 g.1.2.2.2.2.2.2.2.1 g.1.2.2.2.2.2.2.2.2.1 g.1.2.2.2.2.2.2.2.2.2 H1 locs1 (cells + 1) (slots + 6) g.2.1 (F0 g.1.2.2.2.2.2.1 pc ls (rest.map (ax_cv g.2.2.2.1))) q) : zx g cells slots pc L ((Value.ref id :: tl).reverse ++ rest) d := by
  obtain ⟨⟨p, l, e, R, s, m, args, below, meth, c⟩, Qt, D, ad, ca, H0, q0⟩ := g
  obtain ⟨hF, hLo, hcl, hsl⟩ := hR
  obtain ⟨hw, hcls, hpl, hn1, hn2, hpar, hn, hn9⟩ := hl
  have hHH : H0 = s.heap := hH
  subst hHH
  intro H locs ls hP hD hS hL hlv
  obtain ⟨hx, hb, hr, hml, hown, hts, hlocks, hKK, hN⟩ := hC
  have hM := z7_met (l := l) (D := D) (ad := ad) (ca := ca) (as := Value.ref id :: tl) hpl hn hcat hE H.size
  have e1 : ((Value.ref id :: tl).reverse ++ rest).map (ax_cv ad) = (tl.map (ax_cv ad)).reverse ++ .ref (ad id) :: rest.map (ax_cv ad) := by simp [ax_cv]
  show W p l e R s m args below meth c H locs cells slots Qt (F0 m pc ls (((Value.ref id :: tl).reverse ++ rest).map (ax_cv ad)))
  rw [e1]
  obtain ⟨k0, hk0, hwk2⟩ := ax_w_get ad ca d hsh
  rw [ax_cl_obj hsh] at hwk2
  have hrec := va_recv hKK hP (ax_rd_at (show 7 < 9 by decide)) hwk2
  rw [show (ax_rd 7).1 = (ax_y q).cls from hcls.symm] at hrec
  have hF2 : 8 ≤ R.frames := hF
  have hLo2 : 224 ≤ R.locals := hLo
  have hrm : R7.frames + 1 ≤ R.frames ∧ 8 + (ax_n q + 11) + R7.locals ≤ R.locals := by
    show 7 + 1 ≤ R.frames ∧ 8 + (ax_n q + 11) + 196 ≤ R.locals
    omega
  exact zx_backX (P := Q) (QX := QX) (vx_runV (As := tl.map (ax_cv ad)) (rest := rest.map (ax_cv ad)) (b := ad id) (C := (ax_y q).cls) ⟨hx, hb, hml, hown, hts⟩ hM (cwV tl.length hts (ax_TW_good hw) rfl rfl rfl ⟨rfl, hn1, hn2, hpar⟩ hrm) ⟨z_blind, hrec, fun U hU hW => ⟨rfl, by rw [hU], by rw [hU]; exact hP, va_K.moved hW.alike hKK, hD.weaken (fun _ _ _ _ => trivial), ax_NW_warm hW hN, zTh_warm (H := H) hT hW hU (fun a h1 h2 => hS.2.1 a h1 h2) (ax_A_le hS.1)⟩⟩ rfl (by rw [List.length_map]) hlv.1 rfl (lv_room (by rw [ax_sum]; exact hsum)) h ⟨hcl, hsl⟩) hS hS.1 (fun r d1 H1 locs1 hp hP1 hS1 => kk r d1 hp H1 locs1 ls hP1 (ax_w_D hD) hS1 hL hlv) (fun E d1 H1 locs1 qa ce hp hP1 hS1 h1 h2 h3 => kx E d1 hp H1 locs1 ls qa ce hP1 (ax_w_D hD) hS1 hL hlv h1 h2 h3)
end ZW
