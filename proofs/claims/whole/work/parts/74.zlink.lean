/-! WORDS AND INSTRUCTIONS of the class's calls that may throw; a part of an event. -/
theorem dX7_open_0 : decode cX7_open 0 = .ok (.iload_n 1, 1) := by decide +kernel
theorem dX7_open_1 : decode cX7_open 1 = .ok (.iload_n 2, 1) := by decide +kernel
theorem dX7_open_2 : decode cX7_open 2 = .ok (.invokestatic 26, 3) := by decide +kernel
theorem dX7_open_5 : decode cX7_open 5 = .ok (.ifCond .ne 13, 3) := by decide +kernel
theorem dX7_open_8 : decode cX7_open 8 = .ok (.new 30, 3) := by decide +kernel
theorem dX7_open_11 : decode cX7_open 11 = .ok (.dup, 1) := by decide +kernel
theorem dX7_open_12 : decode cX7_open 12 = .ok (.ldc 32, 2) := by decide +kernel
theorem dX7_open_14 : decode cX7_open 14 = .ok (.invokespecial 34, 3) := by decide +kernel
theorem dX7_open_17 : decode cX7_open 17 = .ok (.athrow, 1) := by decide +kernel
theorem dX7_open_18 : decode cX7_open 18 = .ok (.aload_n 0, 1) := by decide +kernel
theorem dX7_open_19 : decode cX7_open 19 = .ok (.getfield 10, 3) := by decide +kernel
theorem dX7_open_22 : decode cX7_open 22 = .ok (.invokevirtual 37, 3) := by decide +kernel
theorem dX7_open_25 : decode cX7_open 25 = .ok (.ifCond .eq 13, 3) := by decide +kernel
theorem dX7_open_28 : decode cX7_open 28 = .ok (.new 41, 3) := by decide +kernel
theorem dX7_open_31 : decode cX7_open 31 = .ok (.dup, 1) := by decide +kernel
theorem dX7_open_32 : decode cX7_open 32 = .ok (.ldc 43, 2) := by decide +kernel
theorem dX7_open_34 : decode cX7_open 34 = .ok (.invokespecial 45, 3) := by decide +kernel
theorem dX7_open_37 : decode cX7_open 37 = .ok (.athrow, 1) := by decide +kernel
theorem dX7_open_38 : decode cX7_open 38 = .ok (.aload_n 0, 1) := by decide +kernel
theorem dX7_open_39 : decode cX7_open 39 = .ok (.getfield 10, 3) := by decide +kernel
theorem dX7_open_42 : decode cX7_open 42 = .ok (.iconst 1, 1) := by decide +kernel
theorem dX7_open_43 : decode cX7_open 43 = .ok (.iload_n 1, 1) := by decide +kernel
theorem dX7_open_44 : decode cX7_open 44 = .ok (.iload_n 2, 1) := by decide +kernel
theorem dX7_open_45 : decode cX7_open 45 = .ok (.iconst 0, 1) := by decide +kernel
theorem dX7_open_46 : decode cX7_open 46 = .ok (.invokevirtual 46, 3) := by decide +kernel
theorem dX7_open_49 : decode cX7_open 49 = .ok (.ifCond .ne 13, 3) := by decide +kernel
theorem dX7_open_52 : decode cX7_open 52 = .ok (.new 50, 3) := by decide +kernel
theorem dX7_open_55 : decode cX7_open 55 = .ok (.dup, 1) := by decide +kernel
theorem dX7_open_56 : decode cX7_open 56 = .ok (.ldc 52, 2) := by decide +kernel
theorem dX7_open_58 : decode cX7_open 58 = .ok (.invokespecial 54, 3) := by decide +kernel
theorem dX7_open_61 : decode cX7_open 61 = .ok (.athrow, 1) := by decide +kernel
theorem dX7_open_62 : decode cX7_open 62 = .ok (.return_, 1) := by decide +kernel
theorem dX7_attribute_0 : decode cX7_attribute 0 = .ok (.iload_n 1, 1) := by decide +kernel
theorem dX7_attribute_1 : decode cX7_attribute 1 = .ok (.iload_n 2, 1) := by decide +kernel
theorem dX7_attribute_2 : decode cX7_attribute 2 = .ok (.invokestatic 26, 3) := by decide +kernel
theorem dX7_attribute_5 : decode cX7_attribute 5 = .ok (.ifCond .eq 10, 3) := by decide +kernel
theorem dX7_attribute_8 : decode cX7_attribute 8 = .ok (.iload_n 3, 1) := by decide +kernel
theorem dX7_attribute_9 : decode cX7_attribute 9 = .ok (.invokestatic 55, 3) := by decide +kernel
theorem dX7_attribute_12 : decode cX7_attribute 12 = .ok (.ifCond .ne 13, 3) := by decide +kernel
theorem dX7_attribute_15 : decode cX7_attribute 15 = .ok (.new 30, 3) := by decide +kernel
theorem dX7_attribute_18 : decode cX7_attribute 18 = .ok (.dup, 1) := by decide +kernel
theorem dX7_attribute_19 : decode cX7_attribute 19 = .ok (.ldc 59, 2) := by decide +kernel
theorem dX7_attribute_21 : decode cX7_attribute 21 = .ok (.invokespecial 34, 3) := by decide +kernel
theorem dX7_attribute_24 : decode cX7_attribute 24 = .ok (.athrow, 1) := by decide +kernel
theorem dX7_attribute_25 : decode cX7_attribute 25 = .ok (.aload_n 0, 1) := by decide +kernel
theorem dX7_attribute_26 : decode cX7_attribute 26 = .ok (.getfield 10, 3) := by decide +kernel
theorem dX7_attribute_29 : decode cX7_attribute 29 = .ok (.invokevirtual 61, 3) := by decide +kernel
theorem dX7_attribute_32 : decode cX7_attribute 32 = .ok (.ifCond .ne 13, 3) := by decide +kernel
theorem dX7_attribute_35 : decode cX7_attribute 35 = .ok (.new 41, 3) := by decide +kernel
theorem dX7_attribute_38 : decode cX7_attribute 38 = .ok (.dup, 1) := by decide +kernel
theorem dX7_attribute_39 : decode cX7_attribute 39 = .ok (.ldc 64, 2) := by decide +kernel
theorem dX7_attribute_41 : decode cX7_attribute 41 = .ok (.invokespecial 45, 3) := by decide +kernel
theorem dX7_attribute_44 : decode cX7_attribute 44 = .ok (.athrow, 1) := by decide +kernel
theorem dX7_attribute_45 : decode cX7_attribute 45 = .ok (.aload_n 0, 1) := by decide +kernel
theorem dX7_attribute_46 : decode cX7_attribute 46 = .ok (.getfield 10, 3) := by decide +kernel
theorem dX7_attribute_49 : decode cX7_attribute 49 = .ok (.iconst 2, 1) := by decide +kernel
theorem dX7_attribute_50 : decode cX7_attribute 50 = .ok (.iload_n 1, 1) := by decide +kernel
theorem dX7_attribute_51 : decode cX7_attribute 51 = .ok (.iload_n 2, 1) := by decide +kernel
theorem dX7_attribute_52 : decode cX7_attribute 52 = .ok (.iload_n 3, 1) := by decide +kernel
theorem dX7_attribute_53 : decode cX7_attribute 53 = .ok (.invokevirtual 46, 3) := by decide +kernel
theorem dX7_attribute_56 : decode cX7_attribute 56 = .ok (.ifCond .ne 13, 3) := by decide +kernel
theorem dX7_attribute_59 : decode cX7_attribute 59 = .ok (.new 50, 3) := by decide +kernel
theorem dX7_attribute_62 : decode cX7_attribute 62 = .ok (.dup, 1) := by decide +kernel
theorem dX7_attribute_63 : decode cX7_attribute 63 = .ok (.ldc 66, 2) := by decide +kernel
theorem dX7_attribute_65 : decode cX7_attribute 65 = .ok (.invokespecial 54, 3) := by decide +kernel
theorem dX7_attribute_68 : decode cX7_attribute 68 = .ok (.athrow, 1) := by decide +kernel
theorem dX7_attribute_69 : decode cX7_attribute 69 = .ok (.return_, 1) := by decide +kernel
theorem dX7_text_0 : decode cX7_text 0 = .ok (.iload_n 1, 1) := by decide +kernel
theorem dX7_text_1 : decode cX7_text 1 = .ok (.invokestatic 55, 3) := by decide +kernel
theorem dX7_text_4 : decode cX7_text 4 = .ok (.ifCond .ne 13, 3) := by decide +kernel
theorem dX7_text_7 : decode cX7_text 7 = .ok (.new 30, 3) := by decide +kernel
theorem dX7_text_10 : decode cX7_text 10 = .ok (.dup, 1) := by decide +kernel
theorem dX7_text_11 : decode cX7_text 11 = .ok (.ldc 68, 2) := by decide +kernel
theorem dX7_text_13 : decode cX7_text 13 = .ok (.invokespecial 34, 3) := by decide +kernel
theorem dX7_text_16 : decode cX7_text 16 = .ok (.athrow, 1) := by decide +kernel
theorem dX7_text_17 : decode cX7_text 17 = .ok (.aload_n 0, 1) := by decide +kernel
theorem dX7_text_18 : decode cX7_text 18 = .ok (.getfield 10, 3) := by decide +kernel
theorem dX7_text_21 : decode cX7_text 21 = .ok (.invokevirtual 70, 3) := by decide +kernel
theorem dX7_text_24 : decode cX7_text 24 = .ok (.ifCond .ne 13, 3) := by decide +kernel
theorem dX7_text_27 : decode cX7_text 27 = .ok (.new 41, 3) := by decide +kernel
theorem dX7_text_30 : decode cX7_text 30 = .ok (.dup, 1) := by decide +kernel
theorem dX7_text_31 : decode cX7_text 31 = .ok (.ldc 74, 2) := by decide +kernel
theorem dX7_text_33 : decode cX7_text 33 = .ok (.invokespecial 45, 3) := by decide +kernel
theorem dX7_text_36 : decode cX7_text 36 = .ok (.athrow, 1) := by decide +kernel
theorem dX7_text_37 : decode cX7_text 37 = .ok (.aload_n 0, 1) := by decide +kernel
theorem dX7_text_38 : decode cX7_text 38 = .ok (.getfield 10, 3) := by decide +kernel
theorem dX7_text_41 : decode cX7_text 41 = .ok (.iconst 3, 1) := by decide +kernel
theorem dX7_text_42 : decode cX7_text 42 = .ok (.iconst 0, 1) := by decide +kernel
theorem dX7_text_43 : decode cX7_text 43 = .ok (.iconst 0, 1) := by decide +kernel
theorem dX7_text_44 : decode cX7_text 44 = .ok (.iload_n 1, 1) := by decide +kernel
theorem dX7_text_45 : decode cX7_text 45 = .ok (.invokevirtual 46, 3) := by decide +kernel
theorem dX7_text_48 : decode cX7_text 48 = .ok (.ifCond .ne 13, 3) := by decide +kernel
theorem dX7_text_51 : decode cX7_text 51 = .ok (.new 50, 3) := by decide +kernel
theorem dX7_text_54 : decode cX7_text 54 = .ok (.dup, 1) := by decide +kernel
theorem dX7_text_55 : decode cX7_text 55 = .ok (.ldc 76, 2) := by decide +kernel
theorem dX7_text_57 : decode cX7_text 57 = .ok (.invokespecial 54, 3) := by decide +kernel
theorem dX7_text_60 : decode cX7_text 60 = .ok (.athrow, 1) := by decide +kernel
theorem dX7_text_61 : decode cX7_text 61 = .ok (.return_, 1) := by decide +kernel
theorem dX7_close_0 : decode cX7_close 0 = .ok (.aload_n 0, 1) := by decide +kernel
theorem dX7_close_1 : decode cX7_close 1 = .ok (.getfield 10, 3) := by decide +kernel
theorem dX7_close_4 : decode cX7_close 4 = .ok (.invokevirtual 70, 3) := by decide +kernel
theorem dX7_close_7 : decode cX7_close 7 = .ok (.ifCond .ne 13, 3) := by decide +kernel
theorem dX7_close_10 : decode cX7_close 10 = .ok (.new 41, 3) := by decide +kernel
theorem dX7_close_13 : decode cX7_close 13 = .ok (.dup, 1) := by decide +kernel
theorem dX7_close_14 : decode cX7_close 14 = .ok (.ldc 74, 2) := by decide +kernel
theorem dX7_close_16 : decode cX7_close 16 = .ok (.invokespecial 45, 3) := by decide +kernel
theorem dX7_close_19 : decode cX7_close 19 = .ok (.athrow, 1) := by decide +kernel
theorem dX7_close_20 : decode cX7_close 20 = .ok (.aload_n 0, 1) := by decide +kernel
theorem dX7_close_21 : decode cX7_close 21 = .ok (.getfield 10, 3) := by decide +kernel
theorem dX7_close_24 : decode cX7_close 24 = .ok (.iconst 4, 1) := by decide +kernel
theorem dX7_close_25 : decode cX7_close 25 = .ok (.iconst 0, 1) := by decide +kernel
theorem dX7_close_26 : decode cX7_close 26 = .ok (.iconst 0, 1) := by decide +kernel
theorem dX7_close_27 : decode cX7_close 27 = .ok (.iconst 0, 1) := by decide +kernel
theorem dX7_close_28 : decode cX7_close 28 = .ok (.invokevirtual 46, 3) := by decide +kernel
theorem dX7_close_31 : decode cX7_close 31 = .ok (.ifCond .ne 13, 3) := by decide +kernel
theorem dX7_close_34 : decode cX7_close 34 = .ok (.new 50, 3) := by decide +kernel
theorem dX7_close_37 : decode cX7_close 37 = .ok (.dup, 1) := by decide +kernel
theorem dX7_close_38 : decode cX7_close 38 = .ok (.ldc 76, 2) := by decide +kernel
theorem dX7_close_40 : decode cX7_close 40 = .ok (.invokespecial 54, 3) := by decide +kernel
theorem dX7_close_43 : decode cX7_close 43 = .ok (.athrow, 1) := by decide +kernel
theorem dX7_close_44 : decode cX7_close 44 = .ok (.aload_n 0, 1) := by decide +kernel
theorem dX7_close_45 : decode cX7_close 45 = .ok (.getfield 10, 3) := by decide +kernel
theorem dX7_close_48 : decode cX7_close 48 = .ok (.invokevirtual 70, 3) := by decide +kernel
theorem dX7_close_51 : decode cX7_close 51 = .ok (.ireturn, 1) := by decide +kernel
theorem dX7_push_0 : decode cX7_push 0 = .ok (.aload_n 0, 1) := by decide +kernel
theorem dX7_push_1 : decode cX7_push 1 = .ok (.getfield 19, 3) := by decide +kernel
theorem dX7_push_4 : decode cX7_push 4 = .ok (.getfield 88, 3) := by decide +kernel
theorem dX7_push_7 : decode cX7_push 7 = .ok (.invokevirtual 95, 3) := by decide +kernel
theorem dX7_push_10 : decode cX7_push 10 = .ok (.ifCond .eq 13, 3) := by decide +kernel
theorem dX7_push_13 : decode cX7_push 13 = .ok (.new 41, 3) := by decide +kernel
theorem dX7_push_16 : decode cX7_push 16 = .ok (.dup, 1) := by decide +kernel
theorem dX7_push_17 : decode cX7_push 17 = .ok (.ldc 98, 2) := by decide +kernel
theorem dX7_push_19 : decode cX7_push 19 = .ok (.invokespecial 45, 3) := by decide +kernel
theorem dX7_push_22 : decode cX7_push 22 = .ok (.athrow, 1) := by decide +kernel
theorem dX7_push_23 : decode cX7_push 23 = .ok (.aload_n 0, 1) := by decide +kernel
theorem dX7_push_24 : decode cX7_push 24 = .ok (.getfield 19, 3) := by decide +kernel
theorem dX7_push_27 : decode cX7_push 27 = .ok (.getfield 88, 3) := by decide +kernel
theorem dX7_push_30 : decode cX7_push 30 = .ok (.iload_n 1, 1) := by decide +kernel
theorem dX7_push_31 : decode cX7_push 31 = .ok (.ifCond .eq 7, 3) := by decide +kernel
theorem dX7_push_34 : decode cX7_push 34 = .ok (.iconst 1, 1) := by decide +kernel
theorem dX7_push_35 : decode cX7_push 35 = .ok (.goto 4, 3) := by decide +kernel
theorem dX7_push_38 : decode cX7_push 38 = .ok (.iconst 0, 1) := by decide +kernel
theorem dX7_push_39 : decode cX7_push 39 = .ok (.iconst 1, 1) := by decide +kernel
theorem dX7_push_40 : decode cX7_push 40 = .ok (.invokevirtual 100, 3) := by decide +kernel
theorem dX7_push_43 : decode cX7_push 43 = .ok (.aload_n 0, 1) := by decide +kernel
theorem dX7_push_44 : decode cX7_push 44 = .ok (.getfield 19, 3) := by decide +kernel
theorem dX7_push_47 : decode cX7_push 47 = .ok (.getfield 88, 3) := by decide +kernel
theorem dX7_push_50 : decode cX7_push 50 = .ok (.getfield 82, 3) := by decide +kernel
theorem dX7_push_53 : decode cX7_push 53 = .ok (.ireturn, 1) := by decide +kernel
theorem dX7_bit_0 : decode cX7_bit 0 = .ok (.aload_n 0, 1) := by decide +kernel
theorem dX7_bit_1 : decode cX7_bit 1 = .ok (.getfield 19, 3) := by decide +kernel
theorem dX7_bit_4 : decode cX7_bit 4 = .ok (.getfield 88, 3) := by decide +kernel
theorem dX7_bit_7 : decode cX7_bit 7 = .ok (.iload_n 1, 1) := by decide +kernel
theorem dX7_bit_8 : decode cX7_bit 8 = .ok (.invokevirtual 104, 3) := by decide +kernel
theorem dX7_bit_11 : decode cX7_bit 11 = .ok (.ifCond .ne 13, 3) := by decide +kernel
theorem dX7_bit_14 : decode cX7_bit 14 = .ok (.new 107, 3) := by decide +kernel
theorem dX7_bit_17 : decode cX7_bit 17 = .ok (.dup, 1) := by decide +kernel
theorem dX7_bit_18 : decode cX7_bit 18 = .ok (.ldc 109, 2) := by decide +kernel
theorem dX7_bit_20 : decode cX7_bit 20 = .ok (.invokespecial 111, 3) := by decide +kernel
theorem dX7_bit_23 : decode cX7_bit 23 = .ok (.athrow, 1) := by decide +kernel
theorem dX7_bit_24 : decode cX7_bit 24 = .ok (.aload_n 0, 1) := by decide +kernel
theorem dX7_bit_25 : decode cX7_bit 25 = .ok (.getfield 19, 3) := by decide +kernel
theorem dX7_bit_28 : decode cX7_bit 28 = .ok (.getfield 88, 3) := by decide +kernel
theorem dX7_bit_31 : decode cX7_bit 31 = .ok (.getfield 112, 3) := by decide +kernel
theorem dX7_bit_34 : decode cX7_bit 34 = .ok (.iload_n 1, 1) := by decide +kernel
theorem dX7_bit_35 : decode cX7_bit 35 = .ok (.iaload, 1) := by decide +kernel
theorem dX7_bit_36 : decode cX7_bit 36 = .ok (.ireturn, 1) := by decide +kernel
theorem dX7_flip_0 : decode cX7_flip 0 = .ok (.aload_n 0, 1) := by decide +kernel
theorem dX7_flip_1 : decode cX7_flip 1 = .ok (.getfield 19, 3) := by decide +kernel
theorem dX7_flip_4 : decode cX7_flip 4 = .ok (.getfield 88, 3) := by decide +kernel
theorem dX7_flip_7 : decode cX7_flip 7 = .ok (.iload_n 1, 1) := by decide +kernel
theorem dX7_flip_8 : decode cX7_flip 8 = .ok (.invokevirtual 104, 3) := by decide +kernel
theorem dX7_flip_11 : decode cX7_flip 11 = .ok (.ifCond .ne 13, 3) := by decide +kernel
theorem dX7_flip_14 : decode cX7_flip 14 = .ok (.new 107, 3) := by decide +kernel
theorem dX7_flip_17 : decode cX7_flip 17 = .ok (.dup, 1) := by decide +kernel
theorem dX7_flip_18 : decode cX7_flip 18 = .ok (.ldc 109, 2) := by decide +kernel
theorem dX7_flip_20 : decode cX7_flip 20 = .ok (.invokespecial 111, 3) := by decide +kernel
theorem dX7_flip_23 : decode cX7_flip 23 = .ok (.athrow, 1) := by decide +kernel
theorem dX7_flip_24 : decode cX7_flip 24 = .ok (.aload_n 0, 1) := by decide +kernel
theorem dX7_flip_25 : decode cX7_flip 25 = .ok (.getfield 19, 3) := by decide +kernel
theorem dX7_flip_28 : decode cX7_flip 28 = .ok (.getfield 88, 3) := by decide +kernel
theorem dX7_flip_31 : decode cX7_flip 31 = .ok (.getfield 112, 3) := by decide +kernel
theorem dX7_flip_34 : decode cX7_flip 34 = .ok (.iload_n 1, 1) := by decide +kernel
theorem dX7_flip_35 : decode cX7_flip 35 = .ok (.iconst 1, 1) := by decide +kernel
theorem dX7_flip_36 : decode cX7_flip 36 = .ok (.aload_n 0, 1) := by decide +kernel
theorem dX7_flip_37 : decode cX7_flip 37 = .ok (.getfield 19, 3) := by decide +kernel
theorem dX7_flip_40 : decode cX7_flip 40 = .ok (.getfield 88, 3) := by decide +kernel
theorem dX7_flip_43 : decode cX7_flip 43 = .ok (.getfield 112, 3) := by decide +kernel
theorem dX7_flip_46 : decode cX7_flip 46 = .ok (.iload_n 1, 1) := by decide +kernel
theorem dX7_flip_47 : decode cX7_flip 47 = .ok (.iaload, 1) := by decide +kernel
theorem dX7_flip_48 : decode cX7_flip 48 = .ok (.isub, 1) := by decide +kernel
theorem dX7_flip_49 : decode cX7_flip 49 = .ok (.iastore, 1) := by decide +kernel
theorem dX7_flip_50 : decode cX7_flip 50 = .ok (.return_, 1) := by decide +kernel
theorem dX7_cut_0 : decode cX7_cut 0 = .ok (.iload_n 1, 1) := by decide +kernel
theorem dX7_cut_1 : decode cX7_cut 1 = .ok (.ifCond .lt 17, 3) := by decide +kernel
theorem dX7_cut_4 : decode cX7_cut 4 = .ok (.iload_n 1, 1) := by decide +kernel
theorem dX7_cut_5 : decode cX7_cut 5 = .ok (.aload_n 0, 1) := by decide +kernel
theorem dX7_cut_6 : decode cX7_cut 6 = .ok (.getfield 19, 3) := by decide +kernel
theorem dX7_cut_9 : decode cX7_cut 9 = .ok (.getfield 88, 3) := by decide +kernel
theorem dX7_cut_12 : decode cX7_cut 12 = .ok (.getfield 82, 3) := by decide +kernel
theorem dX7_cut_15 : decode cX7_cut 15 = .ok (.if_icmp .le 13, 3) := by decide +kernel
theorem dX7_cut_18 : decode cX7_cut 18 = .ok (.new 30, 3) := by decide +kernel
theorem dX7_cut_21 : decode cX7_cut 21 = .ok (.dup, 1) := by decide +kernel
theorem dX7_cut_22 : decode cX7_cut 22 = .ok (.ldc 116, 2) := by decide +kernel
theorem dX7_cut_24 : decode cX7_cut 24 = .ok (.invokespecial 34, 3) := by decide +kernel
theorem dX7_cut_27 : decode cX7_cut 27 = .ok (.athrow, 1) := by decide +kernel
theorem dX7_cut_28 : decode cX7_cut 28 = .ok (.aload_n 0, 1) := by decide +kernel
theorem dX7_cut_29 : decode cX7_cut 29 = .ok (.getfield 19, 3) := by decide +kernel
theorem dX7_cut_32 : decode cX7_cut 32 = .ok (.getfield 88, 3) := by decide +kernel
theorem dX7_cut_35 : decode cX7_cut 35 = .ok (.iload_n 1, 1) := by decide +kernel
theorem dX7_cut_36 : decode cX7_cut 36 = .ok (.putfield 82, 3) := by decide +kernel
theorem dX7_cut_39 : decode cX7_cut 39 = .ok (.return_, 1) := by decide +kernel
theorem dX7_read_0 : decode cX7_read 0 = .ok (.aload_n 0, 1) := by decide +kernel
theorem dX7_read_1 : decode cX7_read 1 = .ok (.getfield 19, 3) := by decide +kernel
theorem dX7_read_4 : decode cX7_read 4 = .ok (.invokevirtual 118, 3) := by decide +kernel
theorem dX7_read_7 : decode cX7_read 7 = .ok (.iconst 1, 1) := by decide +kernel
theorem dX7_read_8 : decode cX7_read 8 = .ok (.istore_n 1, 1) := by decide +kernel
theorem dX7_read_9 : decode cX7_read 9 = .ok (.iload_n 1, 1) := by decide +kernel
theorem dX7_read_10 : decode cX7_read 10 = .ok (.sipush 201, 3) := by decide +kernel
theorem dX7_read_13 : decode cX7_read 13 = .ok (.if_icmp .gt 58, 3) := by decide +kernel
theorem dX7_read_16 : decode cX7_read 16 = .ok (.aload_n 0, 1) := by decide +kernel
theorem dX7_read_17 : decode cX7_read 17 = .ok (.getfield 19, 3) := by decide +kernel
theorem dX7_read_20 : decode cX7_read 20 = .ok (.invokevirtual 119, 3) := by decide +kernel
theorem dX7_read_23 : decode cX7_read 23 = .ok (.ifCond .ne 23, 3) := by decide +kernel
theorem dX7_read_26 : decode cX7_read 26 = .ok (.aload_n 0, 1) := by decide +kernel
theorem dX7_read_27 : decode cX7_read 27 = .ok (.getfield 19, 3) := by decide +kernel
theorem dX7_read_30 : decode cX7_read 30 = .ok (.getfield 122, 3) := by decide +kernel
theorem dX7_read_33 : decode cX7_read 33 = .ok (.invokevirtual 126, 3) := by decide +kernel
theorem dX7_read_36 : decode cX7_read 36 = .ok (.new 30, 3) := by decide +kernel
theorem dX7_read_39 : decode cX7_read 39 = .ok (.dup, 1) := by decide +kernel
theorem dX7_read_40 : decode cX7_read 40 = .ok (.ldc 131, 2) := by decide +kernel
theorem dX7_read_42 : decode cX7_read 42 = .ok (.invokespecial 34, 3) := by decide +kernel
theorem dX7_read_45 : decode cX7_read 45 = .ok (.athrow, 1) := by decide +kernel
theorem dX7_read_46 : decode cX7_read 46 = .ok (.aload_n 0, 1) := by decide +kernel
theorem dX7_read_47 : decode cX7_read 47 = .ok (.getfield 19, 3) := by decide +kernel
theorem dX7_read_50 : decode cX7_read 50 = .ok (.invokevirtual 133, 3) := by decide +kernel
theorem dX7_read_53 : decode cX7_read 53 = .ok (.ifCond .eq 12, 3) := by decide +kernel
theorem dX7_read_56 : decode cX7_read 56 = .ok (.iload_n 1, 1) := by decide +kernel
theorem dX7_read_57 : decode cX7_read 57 = .ok (.sipush 200, 3) := by decide +kernel
theorem dX7_read_60 : decode cX7_read 60 = .ok (.if_icmp .gt 5, 3) := by decide +kernel
theorem dX7_read_63 : decode cX7_read 63 = .ok (.iload_n 1, 1) := by decide +kernel
theorem dX7_read_64 : decode cX7_read 64 = .ok (.ireturn, 1) := by decide +kernel
theorem dX7_read_65 : decode cX7_read 65 = .ok (.iinc 1 1, 3) := by decide +kernel
theorem dX7_read_68 : decode cX7_read 68 = .ok (.goto (-59), 3) := by decide +kernel
theorem dX7_read_71 : decode cX7_read 71 = .ok (.aload_n 0, 1) := by decide +kernel
theorem dX7_read_72 : decode cX7_read 72 = .ok (.getfield 19, 3) := by decide +kernel
theorem dX7_read_75 : decode cX7_read 75 = .ok (.getfield 122, 3) := by decide +kernel
theorem dX7_read_78 : decode cX7_read 78 = .ok (.invokevirtual 126, 3) := by decide +kernel
theorem dX7_read_81 : decode cX7_read 81 = .ok (.new 50, 3) := by decide +kernel
theorem dX7_read_84 : decode cX7_read 84 = .ok (.dup, 1) := by decide +kernel
theorem dX7_read_85 : decode cX7_read 85 = .ok (.ldc 134, 2) := by decide +kernel
theorem dX7_read_87 : decode cX7_read 87 = .ok (.invokespecial 54, 3) := by decide +kernel
theorem dX7_read_90 : decode cX7_read 90 = .ok (.athrow, 1) := by decide +kernel
theorem dX7_event_0 : decode cX7_event 0 = .ok (.iload_n 1, 1) := by decide +kernel
theorem dX7_event_1 : decode cX7_event 1 = .ok (.ifCond .lt 17, 3) := by decide +kernel
theorem dX7_event_4 : decode cX7_event 4 = .ok (.iload_n 1, 1) := by decide +kernel
theorem dX7_event_5 : decode cX7_event 5 = .ok (.aload_n 0, 1) := by decide +kernel
theorem dX7_event_6 : decode cX7_event 6 = .ok (.getfield 19, 3) := by decide +kernel
theorem dX7_event_9 : decode cX7_event 9 = .ok (.getfield 122, 3) := by decide +kernel
theorem dX7_event_12 : decode cX7_event 12 = .ok (.getfield 139, 3) := by decide +kernel
theorem dX7_event_15 : decode cX7_event 15 = .ok (.if_icmp .lt 13, 3) := by decide +kernel
theorem dX7_event_18 : decode cX7_event 18 = .ok (.new 107, 3) := by decide +kernel
theorem dX7_event_21 : decode cX7_event 21 = .ok (.dup, 1) := by decide +kernel
theorem dX7_event_22 : decode cX7_event 22 = .ok (.ldc 140, 2) := by decide +kernel
theorem dX7_event_24 : decode cX7_event 24 = .ok (.invokespecial 111, 3) := by decide +kernel
theorem dX7_event_27 : decode cX7_event 27 = .ok (.athrow, 1) := by decide +kernel
theorem dX7_event_28 : decode cX7_event 28 = .ok (.iload_n 2, 1) := by decide +kernel
theorem dX7_event_29 : decode cX7_event 29 = .ok (.ifCond .lt 8, 3) := by decide +kernel
theorem dX7_event_32 : decode cX7_event 32 = .ok (.iload_n 2, 1) := by decide +kernel
theorem dX7_event_33 : decode cX7_event 33 = .ok (.iconst 4, 1) := by decide +kernel
theorem dX7_event_34 : decode cX7_event 34 = .ok (.if_icmp .lt 13, 3) := by decide +kernel
theorem dX7_event_37 : decode cX7_event 37 = .ok (.new 30, 3) := by decide +kernel
theorem dX7_event_40 : decode cX7_event 40 = .ok (.dup, 1) := by decide +kernel
theorem dX7_event_41 : decode cX7_event 41 = .ok (.ldc 142, 2) := by decide +kernel
theorem dX7_event_43 : decode cX7_event 43 = .ok (.invokespecial 34, 3) := by decide +kernel
theorem dX7_event_46 : decode cX7_event 46 = .ok (.athrow, 1) := by decide +kernel
theorem dX7_event_47 : decode cX7_event 47 = .ok (.aload_n 0, 1) := by decide +kernel
theorem dX7_event_48 : decode cX7_event 48 = .ok (.getfield 19, 3) := by decide +kernel
theorem dX7_event_51 : decode cX7_event 51 = .ok (.getfield 122, 3) := by decide +kernel
theorem dX7_event_54 : decode cX7_event 54 = .ok (.iload_n 1, 1) := by decide +kernel
theorem dX7_event_55 : decode cX7_event 55 = .ok (.iload_n 2, 1) := by decide +kernel
theorem dX7_event_56 : decode cX7_event 56 = .ok (.invokevirtual 144, 3) := by decide +kernel
theorem dX7_event_59 : decode cX7_event 59 = .ok (.ireturn, 1) := by decide +kernel
theorem dX7_again_0 : decode cX7_again 0 = .ok (.aload_n 0, 1) := by decide +kernel
theorem dX7_again_1 : decode cX7_again 1 = .ok (.getfield 19, 3) := by decide +kernel
theorem dX7_again_4 : decode cX7_again 4 = .ok (.getfield 122, 3) := by decide +kernel
theorem dX7_again_7 : decode cX7_again 7 = .ok (.getfield 139, 3) := by decide +kernel
theorem dX7_again_10 : decode cX7_again 10 = .ok (.ifCond .ne 13, 3) := by decide +kernel
theorem dX7_again_13 : decode cX7_again 13 = .ok (.new 41, 3) := by decide +kernel
theorem dX7_again_16 : decode cX7_again 16 = .ok (.dup, 1) := by decide +kernel
theorem dX7_again_17 : decode cX7_again 17 = .ok (.ldc 148, 2) := by decide +kernel
theorem dX7_again_19 : decode cX7_again 19 = .ok (.invokespecial 45, 3) := by decide +kernel
theorem dX7_again_22 : decode cX7_again 22 = .ok (.athrow, 1) := by decide +kernel
theorem dX7_again_23 : decode cX7_again 23 = .ok (.aload_n 0, 1) := by decide +kernel
theorem dX7_again_24 : decode cX7_again 24 = .ok (.getfield 19, 3) := by decide +kernel
theorem dX7_again_27 : decode cX7_again 27 = .ok (.getfield 122, 3) := by decide +kernel
theorem dX7_again_30 : decode cX7_again 30 = .ok (.astore_n 1, 1) := by decide +kernel
theorem dX7_again_31 : decode cX7_again 31 = .ok (.aload_n 0, 1) := by decide +kernel
theorem dX7_again_32 : decode cX7_again 32 = .ok (.getfield 10, 3) := by decide +kernel
theorem dX7_again_35 : decode cX7_again 35 = .ok (.invokevirtual 23, 3) := by decide +kernel
theorem dX7_again_38 : decode cX7_again 38 = .ok (.iconst 0, 1) := by decide +kernel
theorem dX7_again_39 : decode cX7_again 39 = .ok (.istore_n 2, 1) := by decide +kernel
theorem dX7_again_40 : decode cX7_again 40 = .ok (.iload_n 2, 1) := by decide +kernel
theorem dX7_again_41 : decode cX7_again 41 = .ok (.aload_n 1, 1) := by decide +kernel
theorem dX7_again_42 : decode cX7_again 42 = .ok (.getfield 139, 3) := by decide +kernel
theorem dX7_again_45 : decode cX7_again 45 = .ok (.if_icmp .ge 62, 3) := by decide +kernel
theorem dX7_again_48 : decode cX7_again 48 = .ok (.aload_n 0, 1) := by decide +kernel
theorem dX7_again_49 : decode cX7_again 49 = .ok (.getfield 10, 3) := by decide +kernel
theorem dX7_again_52 : decode cX7_again 52 = .ok (.aload_n 1, 1) := by decide +kernel
theorem dX7_again_53 : decode cX7_again 53 = .ok (.iload_n 2, 1) := by decide +kernel
theorem dX7_again_54 : decode cX7_again 54 = .ok (.iconst 0, 1) := by decide +kernel
theorem dX7_again_55 : decode cX7_again 55 = .ok (.invokevirtual 144, 3) := by decide +kernel
theorem dX7_again_58 : decode cX7_again 58 = .ok (.aload_n 1, 1) := by decide +kernel
theorem dX7_again_59 : decode cX7_again 59 = .ok (.iload_n 2, 1) := by decide +kernel
theorem dX7_again_60 : decode cX7_again 60 = .ok (.iconst 1, 1) := by decide +kernel
theorem dX7_again_61 : decode cX7_again 61 = .ok (.invokevirtual 144, 3) := by decide +kernel
theorem dX7_again_64 : decode cX7_again 64 = .ok (.aload_n 1, 1) := by decide +kernel
theorem dX7_again_65 : decode cX7_again 65 = .ok (.iload_n 2, 1) := by decide +kernel
theorem dX7_again_66 : decode cX7_again 66 = .ok (.iconst 2, 1) := by decide +kernel
theorem dX7_again_67 : decode cX7_again 67 = .ok (.invokevirtual 144, 3) := by decide +kernel
theorem dX7_again_70 : decode cX7_again 70 = .ok (.aload_n 1, 1) := by decide +kernel
theorem dX7_again_71 : decode cX7_again 71 = .ok (.iload_n 2, 1) := by decide +kernel
theorem dX7_again_72 : decode cX7_again 72 = .ok (.iconst 3, 1) := by decide +kernel
theorem dX7_again_73 : decode cX7_again 73 = .ok (.invokevirtual 144, 3) := by decide +kernel
theorem dX7_again_76 : decode cX7_again 76 = .ok (.invokevirtual 46, 3) := by decide +kernel
theorem dX7_again_79 : decode cX7_again 79 = .ok (.istore_n 3, 1) := by decide +kernel
theorem dX7_again_80 : decode cX7_again 80 = .ok (.iload_n 3, 1) := by decide +kernel
theorem dX7_again_81 : decode cX7_again 81 = .ok (.ifCond .ne 20, 3) := by decide +kernel
theorem dX7_again_84 : decode cX7_again 84 = .ok (.aload_n 0, 1) := by decide +kernel
theorem dX7_again_85 : decode cX7_again 85 = .ok (.getfield 10, 3) := by decide +kernel
theorem dX7_again_88 : decode cX7_again 88 = .ok (.invokevirtual 23, 3) := by decide +kernel
theorem dX7_again_91 : decode cX7_again 91 = .ok (.new 50, 3) := by decide +kernel
theorem dX7_again_94 : decode cX7_again 94 = .ok (.dup, 1) := by decide +kernel
theorem dX7_again_95 : decode cX7_again 95 = .ok (.ldc 150, 2) := by decide +kernel
theorem dX7_again_97 : decode cX7_again 97 = .ok (.invokespecial 54, 3) := by decide +kernel
theorem dX7_again_100 : decode cX7_again 100 = .ok (.athrow, 1) := by decide +kernel
theorem dX7_again_101 : decode cX7_again 101 = .ok (.iinc 2 1, 3) := by decide +kernel
theorem dX7_again_104 : decode cX7_again 104 = .ok (.goto (-64), 3) := by decide +kernel
theorem dX7_again_107 : decode cX7_again 107 = .ok (.aload_n 0, 1) := by decide +kernel
theorem dX7_again_108 : decode cX7_again 108 = .ok (.getfield 10, 3) := by decide +kernel
theorem dX7_again_111 : decode cX7_again 111 = .ok (.getfield 78, 3) := by decide +kernel
theorem dX7_again_114 : decode cX7_again 114 = .ok (.getfield 82, 3) := by decide +kernel
theorem dX7_again_117 : decode cX7_again 117 = .ok (.ireturn, 1) := by decide +kernel
theorem zmF7_10 : Cond.fieldLink "LearnedCodes" 10 "LearnedCodes" "writer" "LLearnedCodes$Writer;" ∈ ax_TW := List.mem_filter.mpr ⟨List.mem_of_getElem? (i := 272) (by decide +kernel), rfl⟩
theorem zF7_10 {g : zG} (h : (ax_y (zq g)).cls = RX7) : zF g 10 7 0 := ⟨by decide, by decide +kernel, by rw [h]; exact zmF7_10⟩
theorem zmF7_19 : Cond.fieldLink "LearnedCodes" 19 "LearnedCodes" "reader" "LLearnedCodes$Reader;" ∈ ax_TW := List.mem_filter.mpr ⟨List.mem_of_getElem? (i := 273) (by decide +kernel), rfl⟩
theorem zF7_19 {g : zG} (h : (ax_y (zq g)).cls = RX7) : zF g 19 7 1 := ⟨by decide, by decide +kernel, by rw [h]; exact zmF7_19⟩
theorem zmF7_78 : Cond.fieldLink "LearnedCodes" 78 "LearnedCodes$Writer" "output" "LLearnedCodes$Bits;" ∈ ax_TW := List.mem_filter.mpr ⟨List.mem_of_getElem? (i := 195) (by decide +kernel), rfl⟩
theorem zF7_78 {g : zG} (h : (ax_y (zq g)).cls = RX7) : zF g 78 6 0 := ⟨by decide, by decide +kernel, by rw [h]; exact zmF7_78⟩
theorem zmF7_82 : Cond.fieldLink "LearnedCodes" 82 "LearnedCodes$Bits" "size" "I" ∈ ax_TW := List.mem_filter.mpr ⟨List.mem_of_getElem? (i := 107) (by decide +kernel), rfl⟩
theorem zF7_82 {g : zG} (h : (ax_y (zq g)).cls = RX7) : zF g 82 0 1 := ⟨by decide, by decide +kernel, by rw [h]; exact zmF7_82⟩
theorem zmF7_88 : Cond.fieldLink "LearnedCodes" 88 "LearnedCodes$Reader" "stream" "LLearnedCodes$Bits;" ∈ ax_TW := List.mem_filter.mpr ⟨List.mem_of_getElem? (i := 233) (by decide +kernel), rfl⟩
theorem zF7_88 {g : zG} (h : (ax_y (zq g)).cls = RX7) : zF g 88 3 0 := ⟨by decide, by decide +kernel, by rw [h]; exact zmF7_88⟩
theorem zmF7_112 : Cond.fieldLink "LearnedCodes" 112 "LearnedCodes$Bits" "items" "[I" ∈ ax_TW := List.mem_filter.mpr ⟨List.mem_of_getElem? (i := 103) (by decide +kernel), rfl⟩
theorem zF7_112 {g : zG} (h : (ax_y (zq g)).cls = RX7) : zF g 112 0 0 := ⟨by decide, by decide +kernel, by rw [h]; exact zmF7_112⟩
theorem zmF7_122 : Cond.fieldLink "LearnedCodes" 122 "LearnedCodes$Reader" "events" "LLearnedCodes$Events;" ∈ ax_TW := List.mem_filter.mpr ⟨List.mem_of_getElem? (i := 235) (by decide +kernel), rfl⟩
theorem zF7_122 {g : zG} (h : (ax_y (zq g)).cls = RX7) : zF g 122 3 1 := ⟨by decide, by decide +kernel, by rw [h]; exact zmF7_122⟩
theorem zmF7_139 : Cond.fieldLink "LearnedCodes" 139 "LearnedCodes$Events" "size" "I" ∈ ax_TW := List.mem_filter.mpr ⟨List.mem_of_getElem? (i := 222) (by decide +kernel), rfl⟩
theorem zF7_139 {g : zG} (h : (ax_y (zq g)).cls = RX7) : zF g 139 1 1 := ⟨by decide, by decide +kernel, by rw [h]; exact zmF7_139⟩
theorem zmL7_23 : Cond.methodLink "LearnedCodes" 23 yX6_begin ∈ ax_TW := List.mem_filter.mpr ⟨List.mem_of_getElem? (i := 251) (by decide +kernel), rfl⟩
theorem zL7_23 {g : zG} (h : (ax_y (zq g)).cls = RX7) : zLk g 23 56 := ⟨by decide +kernel, by decide +kernel, by rw [h]; exact zmL7_23⟩
theorem zmL7_26 : Cond.methodLink "LearnedCodes" 26 yX7_isName ∈ ax_TW := List.mem_filter.mpr ⟨List.mem_of_getElem? (i := 309) (by decide +kernel), rfl⟩
theorem zL7_26 {g : zG} (h : (ax_y (zq g)).cls = RX7) : zLs g 26 78 := ⟨by decide +kernel, by decide +kernel, by rw [h]; rfl, by rw [h]; exact zmL7_26⟩
theorem zmL7_37 : Cond.methodLink "LearnedCodes" 37 yX6_isWhole ∈ ax_TW := List.mem_filter.mpr ⟨List.mem_of_getElem? (i := 384) (by decide +kernel), rfl⟩
theorem zL7_37 {g : zG} (h : (ax_y (zq g)).cls = RX7) : zLk g 37 57 := ⟨by decide +kernel, by decide +kernel, by rw [h]; exact zmL7_37⟩
theorem zmL7_46 : Cond.methodLink "LearnedCodes" 46 yX6_writeEvent ∈ ax_TW := List.mem_filter.mpr ⟨List.mem_of_getElem? (i := 408) (by decide +kernel), rfl⟩
theorem zL7_46 {g : zG} (h : (ax_y (zq g)).cls = RX7) : zLk g 46 60 := ⟨by decide +kernel, by decide +kernel, by rw [h]; exact zmL7_46⟩
theorem zmL7_55 : Cond.methodLink "LearnedCodes" 55 yX7_isText ∈ ax_TW := List.mem_filter.mpr ⟨List.mem_of_getElem? (i := 312) (by decide +kernel), rfl⟩
theorem zL7_55 {g : zG} (h : (ax_y (zq g)).cls = RX7) : zLs g 55 77 := ⟨by decide +kernel, by decide +kernel, by rw [h]; rfl, by rw [h]; exact zmL7_55⟩
theorem zmL7_61 : Cond.methodLink "LearnedCodes" 61 yX6_takesAttributes ∈ ax_TW := List.mem_filter.mpr ⟨List.mem_of_getElem? (i := 596) (by decide +kernel), rfl⟩
theorem zL7_61 {g : zG} (h : (ax_y (zq g)).cls = RX7) : zLk g 61 58 := ⟨by decide +kernel, by decide +kernel, by rw [h]; exact zmL7_61⟩
theorem zmL7_70 : Cond.methodLink "LearnedCodes" 70 yX6_openElements ∈ ax_TW := List.mem_filter.mpr ⟨List.mem_of_getElem? (i := 610) (by decide +kernel), rfl⟩
theorem zL7_70 {g : zG} (h : (ax_y (zq g)).cls = RX7) : zLk g 70 59 := ⟨by decide +kernel, by decide +kernel, by rw [h]; exact zmL7_70⟩
theorem zmL7_95 : Cond.methodLink "LearnedCodes" 95 yX0_isFull ∈ ax_TW := List.mem_filter.mpr ⟨List.mem_of_getElem? (i := 634) (by decide +kernel), rfl⟩
theorem zL7_95 {g : zG} (h : (ax_y (zq g)).cls = RX7) : zLk g 95 0 := ⟨by decide +kernel, by decide +kernel, by rw [h]; exact zmL7_95⟩
theorem zmL7_100 : Cond.methodLink "LearnedCodes" 100 yX0_append ∈ ax_TW := List.mem_filter.mpr ⟨List.mem_of_getElem? (i := 639) (by decide +kernel), rfl⟩
theorem zL7_100 {g : zG} (h : (ax_y (zq g)).cls = RX7) : zLk g 100 2 := ⟨by decide +kernel, by decide +kernel, by rw [h]; exact zmL7_100⟩
theorem zmL7_104 : Cond.methodLink "LearnedCodes" 104 yX0_has ∈ ax_TW := List.mem_filter.mpr ⟨List.mem_of_getElem? (i := 648) (by decide +kernel), rfl⟩
theorem zL7_104 {g : zG} (h : (ax_y (zq g)).cls = RX7) : zLk g 104 1 := ⟨by decide +kernel, by decide +kernel, by rw [h]; exact zmL7_104⟩
theorem zmL7_118 : Cond.methodLink "LearnedCodes" 118 yX3_begin ∈ ax_TW := List.mem_filter.mpr ⟨List.mem_of_getElem? (i := 690) (by decide +kernel), rfl⟩
theorem zL7_118 {g : zG} (h : (ax_y (zq g)).cls = RX7) : zLk g 118 22 := ⟨by decide +kernel, by decide +kernel, by rw [h]; exact zmL7_118⟩
theorem zmL7_119 : Cond.methodLink "LearnedCodes" 119 yX3_readEvent ∈ ax_TW := List.mem_filter.mpr ⟨List.mem_of_getElem? (i := 700) (by decide +kernel), rfl⟩
theorem zL7_119 {g : zG} (h : (ax_y (zq g)).cls = RX7) : zLk g 119 24 := ⟨by decide +kernel, by decide +kernel, by rw [h]; exact zmL7_119⟩
theorem zmL7_126 : Cond.methodLink "LearnedCodes" 126 yX1_forget ∈ ax_TW := List.mem_filter.mpr ⟨List.mem_of_getElem? (i := 811) (by decide +kernel), rfl⟩
theorem zL7_126 {g : zG} (h : (ax_y (zq g)).cls = RX7) : zLk g 126 4 := ⟨by decide +kernel, by decide +kernel, by rw [h]; exact zmL7_126⟩
theorem zmL7_133 : Cond.methodLink "LearnedCodes" 133 yX3_isWhole ∈ ax_TW := List.mem_filter.mpr ⟨List.mem_of_getElem? (i := 813) (by decide +kernel), rfl⟩
theorem zL7_133 {g : zG} (h : (ax_y (zq g)).cls = RX7) : zLk g 133 23 := ⟨by decide +kernel, by decide +kernel, by rw [h]; exact zmL7_133⟩
theorem zmL7_144 : Cond.methodLink "LearnedCodes" 144 yX1_part ∈ ax_TW := List.mem_filter.mpr ⟨List.mem_of_getElem? (i := 828) (by decide +kernel), rfl⟩
theorem zL7_144 {g : zG} (h : (ax_y (zq g)).cls = RX7) : zLk g 144 6 := ⟨by decide +kernel, by decide +kernel, by rw [h]; exact zmL7_144⟩
theorem zk_30 : Cond.classLink "LearnedCodes" 30 "java/lang/IllegalArgumentException" ∈ ax_TW := List.mem_filter.mpr ⟨List.mem_of_getElem? (i := 315) (by decide +kernel), rfl⟩
theorem zk_41 : Cond.classLink "LearnedCodes" 41 "java/lang/IllegalStateException" ∈ ax_TW := List.mem_filter.mpr ⟨List.mem_of_getElem? (i := 392) (by decide +kernel), rfl⟩
theorem zk_50 : Cond.classLink "LearnedCodes" 50 "java/lang/UnsupportedOperationException" ∈ ax_TW := List.mem_filter.mpr ⟨List.mem_of_getElem? (i := 572) (by decide +kernel), rfl⟩
theorem zk_107 : Cond.classLink "LearnedCodes" 107 "java/lang/IndexOutOfBoundsException" ∈ ax_TW := List.mem_filter.mpr ⟨List.mem_of_getElem? (i := 652) (by decide +kernel), rfl⟩
theorem zi_34 : Cond.initialized "java/lang/IllegalArgumentException" ∈ ax_TW := List.mem_filter.mpr ⟨List.mem_of_getElem? (i := 78) (by decide +kernel), rfl⟩
theorem zq_34 : ((34, "java/lang/IllegalArgumentException") : Nat × String) ∈ zX := by decide +kernel
theorem zi_45 : Cond.initialized "java/lang/IllegalStateException" ∈ ax_TW := List.mem_filter.mpr ⟨List.mem_of_getElem? (i := 79) (by decide +kernel), rfl⟩
theorem zq_45 : ((45, "java/lang/IllegalStateException") : Nat × String) ∈ zX := by decide +kernel
theorem zi_54 : Cond.initialized "java/lang/UnsupportedOperationException" ∈ ax_TW := List.mem_filter.mpr ⟨List.mem_of_getElem? (i := 80) (by decide +kernel), rfl⟩
theorem zq_54 : ((54, "java/lang/UnsupportedOperationException") : Nat × String) ∈ zX := by decide +kernel
theorem zi_111 : Cond.initialized "java/lang/IndexOutOfBoundsException" ∈ ax_TW := List.mem_filter.mpr ⟨List.mem_of_getElem? (i := 81) (by decide +kernel), rfl⟩
theorem zq_111 : ((111, "java/lang/IndexOutOfBoundsException") : Nat × String) ∈ zX := by decide +kernel
theorem zs_32 : ((32, "that is no name") : Nat × String) ∈ zSt := by decide +kernel
theorem zs_43 : ((43, "the document is whole") : Nat × String) ∈ zSt := by decide +kernel
theorem zs_52 : ((52, "too many elements, names or bits") : Nat × String) ∈ zSt := by decide +kernel
theorem zs_59 : ((59, "that is no name or no value") : Nat × String) ∈ zSt := by decide +kernel
theorem zs_64 : ((64, "no element is open that takes attributes") : Nat × String) ∈ zSt := by decide +kernel
theorem zs_66 : ((66, "too many names or bits") : Nat × String) ∈ zSt := by decide +kernel
theorem zs_68 : ((68, "that is no value") : Nat × String) ∈ zSt := by decide +kernel
theorem zs_74 : ((74, "no element is open") : Nat × String) ∈ zSt := by decide +kernel
theorem zs_76 : ((76, "too many bits") : Nat × String) ∈ zSt := by decide +kernel
theorem zs_98 : ((98, "the stream is full") : Nat × String) ∈ zSt := by decide +kernel
theorem zs_109 : ((109, "the stream has no such bit") : Nat × String) ∈ zSt := by decide +kernel
theorem zs_116 : ((116, "the stream has not so many bits") : Nat × String) ∈ zSt := by decide +kernel
theorem zs_131 : ((131, "the stream is wrong") : Nat × String) ∈ zSt := by decide +kernel
theorem zs_134 : ((134, "the document has too many events") : Nat × String) ∈ zSt := by decide +kernel
theorem zs_140 : ((140, "there is no such event") : Nat × String) ∈ zSt := by decide +kernel
theorem zs_142 : ((142, "an event has no such part") : Nat × String) ∈ zSt := by decide +kernel
theorem zs_148 : ((148, "no events were read") : Nat × String) ∈ zSt := by decide +kernel
theorem zs_150 : ((150, "an event can't be written") : Nat × String) ∈ zSt := by decide +kernel
section EP
variable {d : ax_D} {es : List Ev} {i k : Nat}
theorem sp_part (h : ev_is d es) (hi : i < es.length) (hk : k < 4) : ax_E 6 [.ref 527, .int (nI i), .int (nI k)] d (ax_Pi fun z d1 => z = nI (evp (es.getD i (0, 0, 0, 0)) k) ∧ d1 = d) := by
  show ax_W 6 0 [some (.ref 527), some (.int (nI i)), some (.int (nI k)), none] [] d _
  have l200 := h.1
  have e4 := h.2.2 i hi
  match k, hk with
  | 0, _ =>
    refine wx_ildn j6_0 rfl ?_
    refine wx_if 25 j6_1 (by decide) (fun c1 => ?_) (fun c1 => ?_)
    · simp only [ax_cn, Classical.not_not] at c1
      exact absurd c1 (nI_pos (by omega))
    · simp only [ax_cn, Classical.not_not] at c1
      refine wx_ildn j6_4 rfl ?_
      refine wx_aldn j6_5 rfl ?_
      refine wx_get (v := .int _) j6_6 rfl (Nat.le_of_ble_eq_true rfl) rfl ?_
      rw [h.2.1]
      refine wx_cmp 25 j6_9 (by decide) (fun c9 => ?_) (fun c9 => ?_)
      · simp only [ax_cn, Classical.not_not] at c9
        exact absurd ((nI_leI (by omega) (by omega)).mp c9) (by omega)
      · simp only [ax_cn, Classical.not_not] at c9
        refine wx_ildn j6_12 rfl ?_
        refine wx_if 25 j6_13 (by decide) (fun c13 => ?_) (fun c13 => ?_)
        · simp only [ax_cn, Classical.not_not] at c13
          exact absurd c13 (nI_pos (by omega))
        · simp only [ax_cn, Classical.not_not] at c13
          refine wx_ildn j6_16 rfl ?_
          refine wx_icst (v := nI 4) j6_17 (by decide) ?_
          refine wx_cmp 25 j6_18 (by decide) (fun c18 => ?_) (fun c18 => ?_)
          · simp only [ax_cn, Classical.not_not] at c18
            exact absurd ((nI_leI (by omega) (by omega)).mp c18) (by omega)
          · simp only [ax_cn, Classical.not_not] at c18
            refine wx_icst (v := nI 1) j6_21 (by decide) ?_
            refine wx_goto 26 j6_22 (by decide) ?_
            refine wx_istn (L' := [_, _, _, some (.int _)]) j6_26 (Nat.le_of_ble_eq_true rfl) rfl ?_
            refine wx_ildn j6_27 rfl ?_
            refine wx_if 42 j6_28 (by decide) (fun c28 => ?_) (fun c28 => ?_)
            · simp only [ax_cn, Classical.not_not] at c28
              exact absurd c28 (by decide)
            · simp only [ax_cn, Classical.not_not] at c28
              refine wx_aldn j6_31 rfl ?_
              refine wx_get (v := .ref _) j6_32 rfl (Nat.le_of_ble_eq_true rfl) rfl ?_
              refine wx_ildn j6_35 rfl ?_
              refine wx_aalx (0) j6_36 rfl rfl (by decide) (by decide) rfl ?_
              refine wx_ildn j6_37 rfl ?_
              refine wx_ialx (i) j6_38 rfl rfl (by omega) (by decide) ?_
              refine wx_goto 43 j6_39 (by decide) ?_
              refine wx_ri j6_43 rfl rfl ?_
              exact ⟨by first | exact e4.1 | exact e4.2.1 | exact e4.2.2.1 | exact e4.2.2.2, rfl⟩
  | 1, _ =>
    refine wx_ildn j6_0 rfl ?_
    refine wx_if 25 j6_1 (by decide) (fun c1 => ?_) (fun c1 => ?_)
    · simp only [ax_cn, Classical.not_not] at c1
      exact absurd c1 (nI_pos (by omega))
    · simp only [ax_cn, Classical.not_not] at c1
      refine wx_ildn j6_4 rfl ?_
      refine wx_aldn j6_5 rfl ?_
      refine wx_get (v := .int _) j6_6 rfl (Nat.le_of_ble_eq_true rfl) rfl ?_
      rw [h.2.1]
      refine wx_cmp 25 j6_9 (by decide) (fun c9 => ?_) (fun c9 => ?_)
      · simp only [ax_cn, Classical.not_not] at c9
        exact absurd ((nI_leI (by omega) (by omega)).mp c9) (by omega)
      · simp only [ax_cn, Classical.not_not] at c9
        refine wx_ildn j6_12 rfl ?_
        refine wx_if 25 j6_13 (by decide) (fun c13 => ?_) (fun c13 => ?_)
        · simp only [ax_cn, Classical.not_not] at c13
          exact absurd c13 (nI_pos (by omega))
        · simp only [ax_cn, Classical.not_not] at c13
          refine wx_ildn j6_16 rfl ?_
          refine wx_icst (v := nI 4) j6_17 (by decide) ?_
          refine wx_cmp 25 j6_18 (by decide) (fun c18 => ?_) (fun c18 => ?_)
          · simp only [ax_cn, Classical.not_not] at c18
            exact absurd ((nI_leI (by omega) (by omega)).mp c18) (by omega)
          · simp only [ax_cn, Classical.not_not] at c18
            refine wx_icst (v := nI 1) j6_21 (by decide) ?_
            refine wx_goto 26 j6_22 (by decide) ?_
            refine wx_istn (L' := [_, _, _, some (.int _)]) j6_26 (Nat.le_of_ble_eq_true rfl) rfl ?_
            refine wx_ildn j6_27 rfl ?_
            refine wx_if 42 j6_28 (by decide) (fun c28 => ?_) (fun c28 => ?_)
            · simp only [ax_cn, Classical.not_not] at c28
              exact absurd c28 (by decide)
            · simp only [ax_cn, Classical.not_not] at c28
              refine wx_aldn j6_31 rfl ?_
              refine wx_get (v := .ref _) j6_32 rfl (Nat.le_of_ble_eq_true rfl) rfl ?_
              refine wx_ildn j6_35 rfl ?_
              refine wx_aalx (1) j6_36 rfl rfl (by decide) (by decide) rfl ?_
              refine wx_ildn j6_37 rfl ?_
              refine wx_ialx (i) j6_38 rfl rfl (by omega) (by decide) ?_
              refine wx_goto 43 j6_39 (by decide) ?_
              refine wx_ri j6_43 rfl rfl ?_
              exact ⟨by first | exact e4.1 | exact e4.2.1 | exact e4.2.2.1 | exact e4.2.2.2, rfl⟩
  | 2, _ =>
    refine wx_ildn j6_0 rfl ?_
    refine wx_if 25 j6_1 (by decide) (fun c1 => ?_) (fun c1 => ?_)
    · simp only [ax_cn, Classical.not_not] at c1
      exact absurd c1 (nI_pos (by omega))
    · simp only [ax_cn, Classical.not_not] at c1
      refine wx_ildn j6_4 rfl ?_
      refine wx_aldn j6_5 rfl ?_
      refine wx_get (v := .int _) j6_6 rfl (Nat.le_of_ble_eq_true rfl) rfl ?_
      rw [h.2.1]
      refine wx_cmp 25 j6_9 (by decide) (fun c9 => ?_) (fun c9 => ?_)
      · simp only [ax_cn, Classical.not_not] at c9
        exact absurd ((nI_leI (by omega) (by omega)).mp c9) (by omega)
      · simp only [ax_cn, Classical.not_not] at c9
        refine wx_ildn j6_12 rfl ?_
        refine wx_if 25 j6_13 (by decide) (fun c13 => ?_) (fun c13 => ?_)
        · simp only [ax_cn, Classical.not_not] at c13
          exact absurd c13 (nI_pos (by omega))
        · simp only [ax_cn, Classical.not_not] at c13
          refine wx_ildn j6_16 rfl ?_
          refine wx_icst (v := nI 4) j6_17 (by decide) ?_
          refine wx_cmp 25 j6_18 (by decide) (fun c18 => ?_) (fun c18 => ?_)
          · simp only [ax_cn, Classical.not_not] at c18
            exact absurd ((nI_leI (by omega) (by omega)).mp c18) (by omega)
          · simp only [ax_cn, Classical.not_not] at c18
            refine wx_icst (v := nI 1) j6_21 (by decide) ?_
            refine wx_goto 26 j6_22 (by decide) ?_
            refine wx_istn (L' := [_, _, _, some (.int _)]) j6_26 (Nat.le_of_ble_eq_true rfl) rfl ?_
            refine wx_ildn j6_27 rfl ?_
            refine wx_if 42 j6_28 (by decide) (fun c28 => ?_) (fun c28 => ?_)
            · simp only [ax_cn, Classical.not_not] at c28
              exact absurd c28 (by decide)
            · simp only [ax_cn, Classical.not_not] at c28
              refine wx_aldn j6_31 rfl ?_
              refine wx_get (v := .ref _) j6_32 rfl (Nat.le_of_ble_eq_true rfl) rfl ?_
              refine wx_ildn j6_35 rfl ?_
              refine wx_aalx (2) j6_36 rfl rfl (by decide) (by decide) rfl ?_
              refine wx_ildn j6_37 rfl ?_
              refine wx_ialx (i) j6_38 rfl rfl (by omega) (by decide) ?_
              refine wx_goto 43 j6_39 (by decide) ?_
              refine wx_ri j6_43 rfl rfl ?_
              exact ⟨by first | exact e4.1 | exact e4.2.1 | exact e4.2.2.1 | exact e4.2.2.2, rfl⟩
  | 3, _ =>
    refine wx_ildn j6_0 rfl ?_
    refine wx_if 25 j6_1 (by decide) (fun c1 => ?_) (fun c1 => ?_)
    · simp only [ax_cn, Classical.not_not] at c1
      exact absurd c1 (nI_pos (by omega))
    · simp only [ax_cn, Classical.not_not] at c1
      refine wx_ildn j6_4 rfl ?_
      refine wx_aldn j6_5 rfl ?_
      refine wx_get (v := .int _) j6_6 rfl (Nat.le_of_ble_eq_true rfl) rfl ?_
      rw [h.2.1]
      refine wx_cmp 25 j6_9 (by decide) (fun c9 => ?_) (fun c9 => ?_)
      · simp only [ax_cn, Classical.not_not] at c9
        exact absurd ((nI_leI (by omega) (by omega)).mp c9) (by omega)
      · simp only [ax_cn, Classical.not_not] at c9
        refine wx_ildn j6_12 rfl ?_
        refine wx_if 25 j6_13 (by decide) (fun c13 => ?_) (fun c13 => ?_)
        · simp only [ax_cn, Classical.not_not] at c13
          exact absurd c13 (nI_pos (by omega))
        · simp only [ax_cn, Classical.not_not] at c13
          refine wx_ildn j6_16 rfl ?_
          refine wx_icst (v := nI 4) j6_17 (by decide) ?_
          refine wx_cmp 25 j6_18 (by decide) (fun c18 => ?_) (fun c18 => ?_)
          · simp only [ax_cn, Classical.not_not] at c18
            exact absurd ((nI_leI (by omega) (by omega)).mp c18) (by omega)
          · simp only [ax_cn, Classical.not_not] at c18
            refine wx_icst (v := nI 1) j6_21 (by decide) ?_
            refine wx_goto 26 j6_22 (by decide) ?_
            refine wx_istn (L' := [_, _, _, some (.int _)]) j6_26 (Nat.le_of_ble_eq_true rfl) rfl ?_
            refine wx_ildn j6_27 rfl ?_
            refine wx_if 42 j6_28 (by decide) (fun c28 => ?_) (fun c28 => ?_)
            · simp only [ax_cn, Classical.not_not] at c28
              exact absurd c28 (by decide)
            · simp only [ax_cn, Classical.not_not] at c28
              refine wx_aldn j6_31 rfl ?_
              refine wx_get (v := .ref _) j6_32 rfl (Nat.le_of_ble_eq_true rfl) rfl ?_
              refine wx_ildn j6_35 rfl ?_
              refine wx_aalx (3) j6_36 rfl rfl (by decide) (by decide) rfl ?_
              refine wx_ildn j6_37 rfl ?_
              refine wx_ialx (i) j6_38 rfl rfl (by omega) (by decide) ?_
              refine wx_goto 43 j6_39 (by decide) ?_
              refine wx_ri j6_43 rfl rfl ?_
              exact ⟨by first | exact e4.1 | exact e4.2.1 | exact e4.2.2.1 | exact e4.2.2.2, rfl⟩
end EP
