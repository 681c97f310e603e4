theorem j0_0 : ax_in 0 0 = some (.aload_n 0, 1, 0, 0) := by decide +kernel
theorem j0_1 : ax_in 0 1 = some (.getfield 15, 3, 0, 1) := by decide +kernel
theorem j0_4 : ax_in 0 4 = some (.aload_n 0, 1, 0, 0) := by decide +kernel
theorem j0_5 : ax_in 0 5 = some (.getfield 9, 3, 0, 0) := by decide +kernel
theorem j0_8 : ax_in 0 8 = some (.arraylength, 1, 0, 0) := by decide +kernel
theorem j0_9 : ax_in 0 9 = some (.if_icmp .lt 7, 3, 0, 0) := by decide +kernel
theorem j0_12 : ax_in 0 12 = some (.iconst 1, 1, 0, 0) := by decide +kernel
theorem j0_13 : ax_in 0 13 = some (.goto 4, 3, 0, 0) := by decide +kernel
theorem j0_16 : ax_in 0 16 = some (.iconst 0, 1, 0, 0) := by decide +kernel
theorem j0_17 : ax_in 0 17 = some (.ireturn, 1, 0, 0) := by decide +kernel
theorem j1_0 : ax_in 1 0 = some (.iload_n 1, 1, 0, 0) := by decide +kernel
theorem j1_1 : ax_in 1 1 = some (.ifCond .lt 24, 3, 0, 0) := by decide +kernel
theorem j1_4 : ax_in 1 4 = some (.iload_n 1, 1, 0, 0) := by decide +kernel
theorem j1_5 : ax_in 1 5 = some (.aload_n 0, 1, 0, 0) := by decide +kernel
theorem j1_6 : ax_in 1 6 = some (.getfield 15, 3, 0, 1) := by decide +kernel
theorem j1_9 : ax_in 1 9 = some (.if_icmp .ge 16, 3, 0, 0) := by decide +kernel
theorem j1_12 : ax_in 1 12 = some (.iload_n 1, 1, 0, 0) := by decide +kernel
theorem j1_13 : ax_in 1 13 = some (.aload_n 0, 1, 0, 0) := by decide +kernel
theorem j1_14 : ax_in 1 14 = some (.getfield 9, 3, 0, 0) := by decide +kernel
theorem j1_17 : ax_in 1 17 = some (.arraylength, 1, 0, 0) := by decide +kernel
theorem j1_18 : ax_in 1 18 = some (.if_icmp .ge 7, 3, 0, 0) := by decide +kernel
theorem j1_21 : ax_in 1 21 = some (.iconst 1, 1, 0, 0) := by decide +kernel
theorem j1_22 : ax_in 1 22 = some (.goto 4, 3, 0, 0) := by decide +kernel
theorem j1_25 : ax_in 1 25 = some (.iconst 0, 1, 0, 0) := by decide +kernel
theorem j1_26 : ax_in 1 26 = some (.ireturn, 1, 0, 0) := by decide +kernel
theorem j2_0 : ax_in 2 0 = some (.iload_n 2, 1, 0, 0) := by decide +kernel
theorem j2_1 : ax_in 2 1 = some (.iconst 1, 1, 0, 0) := by decide +kernel
theorem j2_2 : ax_in 2 2 = some (.isub, 1, 0, 0) := by decide +kernel
theorem j2_3 : ax_in 2 3 = some (.istore_n 3, 1, 0, 0) := by decide +kernel
theorem j2_4 : ax_in 2 4 = some (.iload_n 3, 1, 0, 0) := by decide +kernel
theorem j2_5 : ax_in 2 5 = some (.ifCond .lt 45, 3, 0, 0) := by decide +kernel
theorem j2_8 : ax_in 2 8 = some (.aload_n 0, 1, 0, 0) := by decide +kernel
theorem j2_9 : ax_in 2 9 = some (.getfield 15, 3, 0, 1) := by decide +kernel
theorem j2_12 : ax_in 2 12 = some (.aload_n 0, 1, 0, 0) := by decide +kernel
theorem j2_13 : ax_in 2 13 = some (.getfield 9, 3, 0, 0) := by decide +kernel
theorem j2_16 : ax_in 2 16 = some (.arraylength, 1, 0, 0) := by decide +kernel
theorem j2_17 : ax_in 2 17 = some (.if_icmp .ge 33, 3, 0, 0) := by decide +kernel
theorem j2_20 : ax_in 2 20 = some (.aload_n 0, 1, 0, 0) := by decide +kernel
theorem j2_21 : ax_in 2 21 = some (.getfield 9, 3, 0, 0) := by decide +kernel
theorem j2_24 : ax_in 2 24 = some (.aload_n 0, 1, 0, 0) := by decide +kernel
theorem j2_25 : ax_in 2 25 = some (.getfield 15, 3, 0, 1) := by decide +kernel
theorem j2_28 : ax_in 2 28 = some (.iload_n 1, 1, 0, 0) := by decide +kernel
theorem j2_29 : ax_in 2 29 = some (.iload_n 3, 1, 0, 0) := by decide +kernel
theorem j2_30 : ax_in 2 30 = some (.ishr, 1, 0, 0) := by decide +kernel
theorem j2_31 : ax_in 2 31 = some (.iconst 1, 1, 0, 0) := by decide +kernel
theorem j2_32 : ax_in 2 32 = some (.iand, 1, 0, 0) := by decide +kernel
theorem j2_33 : ax_in 2 33 = some (.iastore, 1, 0, 0) := by decide +kernel
theorem j2_34 : ax_in 2 34 = some (.aload_n 0, 1, 0, 0) := by decide +kernel
theorem j2_35 : ax_in 2 35 = some (.dup, 1, 0, 0) := by decide +kernel
theorem j2_36 : ax_in 2 36 = some (.getfield 15, 3, 0, 1) := by decide +kernel
theorem j2_39 : ax_in 2 39 = some (.iconst 1, 1, 0, 0) := by decide +kernel
theorem j2_40 : ax_in 2 40 = some (.iadd, 1, 0, 0) := by decide +kernel
theorem j2_41 : ax_in 2 41 = some (.putfield 15, 3, 0, 1) := by decide +kernel
theorem j2_44 : ax_in 2 44 = some (.iinc 3 (-1), 3, 0, 0) := by decide +kernel
theorem j2_47 : ax_in 2 47 = some (.goto (-43), 3, 0, 0) := by decide +kernel
theorem j2_50 : ax_in 2 50 = some (.return_, 1, 0, 0) := by decide +kernel
theorem j3_0 : ax_in 3 0 = some (.aload_n 0, 1, 0, 0) := by decide +kernel
theorem j3_1 : ax_in 3 1 = some (.iconst 0, 1, 0, 0) := by decide +kernel
theorem j3_2 : ax_in 3 2 = some (.putfield 15, 3, 0, 1) := by decide +kernel
theorem j3_5 : ax_in 3 5 = some (.iconst 0, 1, 0, 0) := by decide +kernel
theorem j3_6 : ax_in 3 6 = some (.istore_n 2, 1, 0, 0) := by decide +kernel
theorem j3_7 : ax_in 3 7 = some (.iload_n 2, 1, 0, 0) := by decide +kernel
theorem j3_8 : ax_in 3 8 = some (.aload_n 1, 1, 0, 0) := by decide +kernel
theorem j3_9 : ax_in 3 9 = some (.getfield 15, 3, 0, 1) := by decide +kernel
theorem j3_12 : ax_in 3 12 = some (.if_icmp .ge 40, 3, 0, 0) := by decide +kernel
theorem j3_15 : ax_in 3 15 = some (.iload_n 2, 1, 0, 0) := by decide +kernel
theorem j3_16 : ax_in 3 16 = some (.aload_n 0, 1, 0, 0) := by decide +kernel
theorem j3_17 : ax_in 3 17 = some (.getfield 9, 3, 0, 0) := by decide +kernel
theorem j3_20 : ax_in 3 20 = some (.arraylength, 1, 0, 0) := by decide +kernel
theorem j3_21 : ax_in 3 21 = some (.if_icmp .ge 31, 3, 0, 0) := by decide +kernel
theorem j3_24 : ax_in 3 24 = some (.aload_n 0, 1, 0, 0) := by decide +kernel
theorem j3_25 : ax_in 3 25 = some (.getfield 9, 3, 0, 0) := by decide +kernel
theorem j3_28 : ax_in 3 28 = some (.iload_n 2, 1, 0, 0) := by decide +kernel
theorem j3_29 : ax_in 3 29 = some (.aload_n 1, 1, 0, 0) := by decide +kernel
theorem j3_30 : ax_in 3 30 = some (.getfield 9, 3, 0, 0) := by decide +kernel
theorem j3_33 : ax_in 3 33 = some (.iload_n 2, 1, 0, 0) := by decide +kernel
theorem j3_34 : ax_in 3 34 = some (.iaload, 1, 0, 0) := by decide +kernel
theorem j3_35 : ax_in 3 35 = some (.iastore, 1, 0, 0) := by decide +kernel
theorem j3_36 : ax_in 3 36 = some (.aload_n 0, 1, 0, 0) := by decide +kernel
theorem j3_37 : ax_in 3 37 = some (.dup, 1, 0, 0) := by decide +kernel
theorem j3_38 : ax_in 3 38 = some (.getfield 15, 3, 0, 1) := by decide +kernel
theorem j3_41 : ax_in 3 41 = some (.iconst 1, 1, 0, 0) := by decide +kernel
theorem j3_42 : ax_in 3 42 = some (.iadd, 1, 0, 0) := by decide +kernel
theorem j3_43 : ax_in 3 43 = some (.putfield 15, 3, 0, 1) := by decide +kernel
theorem j3_46 : ax_in 3 46 = some (.iinc 2 1, 3, 0, 0) := by decide +kernel
theorem j3_49 : ax_in 3 49 = some (.goto (-42), 3, 0, 0) := by decide +kernel
theorem j3_52 : ax_in 3 52 = some (.return_, 1, 0, 0) := by decide +kernel
theorem j4_0 : ax_in 4 0 = some (.aload_n 0, 1, 0, 0) := by decide +kernel
theorem j4_1 : ax_in 4 1 = some (.iconst 0, 1, 0, 0) := by decide +kernel
theorem j4_2 : ax_in 4 2 = some (.putfield 16, 3, 1, 1) := by decide +kernel
theorem j4_5 : ax_in 4 5 = some (.return_, 1, 0, 0) := by decide +kernel
theorem j5_0 : ax_in 5 0 = some (.aload_n 0, 1, 0, 0) := by decide +kernel
theorem j5_1 : ax_in 5 1 = some (.getfield 16, 3, 1, 1) := by decide +kernel
theorem j5_4 : ax_in 5 4 = some (.sipush 200, 3, 0, 0) := by decide +kernel
theorem j5_7 : ax_in 5 7 = some (.if_icmp .ge 62, 3, 0, 0) := by decide +kernel
theorem j5_10 : ax_in 5 10 = some (.aload_n 0, 1, 0, 0) := by decide +kernel
theorem j5_11 : ax_in 5 11 = some (.getfield 11, 3, 1, 0) := by decide +kernel
theorem j5_14 : ax_in 5 14 = some (.iconst 0, 1, 0, 0) := by decide +kernel
theorem j5_15 : ax_in 5 15 = some (.aaload, 1, 0, 0) := by decide +kernel
theorem j5_16 : ax_in 5 16 = some (.aload_n 0, 1, 0, 0) := by decide +kernel
theorem j5_17 : ax_in 5 17 = some (.getfield 16, 3, 1, 1) := by decide +kernel
theorem j5_20 : ax_in 5 20 = some (.iload_n 1, 1, 0, 0) := by decide +kernel
theorem j5_21 : ax_in 5 21 = some (.iastore, 1, 0, 0) := by decide +kernel
theorem j5_22 : ax_in 5 22 = some (.aload_n 0, 1, 0, 0) := by decide +kernel
theorem j5_23 : ax_in 5 23 = some (.getfield 11, 3, 1, 0) := by decide +kernel
theorem j5_26 : ax_in 5 26 = some (.iconst 1, 1, 0, 0) := by decide +kernel
theorem j5_27 : ax_in 5 27 = some (.aaload, 1, 0, 0) := by decide +kernel
theorem j5_28 : ax_in 5 28 = some (.aload_n 0, 1, 0, 0) := by decide +kernel
theorem j5_29 : ax_in 5 29 = some (.getfield 16, 3, 1, 1) := by decide +kernel
theorem j5_32 : ax_in 5 32 = some (.iload_n 2, 1, 0, 0) := by decide +kernel
theorem j5_33 : ax_in 5 33 = some (.iastore, 1, 0, 0) := by decide +kernel
theorem j5_34 : ax_in 5 34 = some (.aload_n 0, 1, 0, 0) := by decide +kernel
theorem j5_35 : ax_in 5 35 = some (.getfield 11, 3, 1, 0) := by decide +kernel
theorem j5_38 : ax_in 5 38 = some (.iconst 2, 1, 0, 0) := by decide +kernel
theorem j5_39 : ax_in 5 39 = some (.aaload, 1, 0, 0) := by decide +kernel
theorem j5_40 : ax_in 5 40 = some (.aload_n 0, 1, 0, 0) := by decide +kernel
theorem j5_41 : ax_in 5 41 = some (.getfield 16, 3, 1, 1) := by decide +kernel
theorem j5_44 : ax_in 5 44 = some (.iload_n 3, 1, 0, 0) := by decide +kernel
theorem j5_45 : ax_in 5 45 = some (.iastore, 1, 0, 0) := by decide +kernel
theorem j5_46 : ax_in 5 46 = some (.aload_n 0, 1, 0, 0) := by decide +kernel
theorem j5_47 : ax_in 5 47 = some (.getfield 11, 3, 1, 0) := by decide +kernel
theorem j5_50 : ax_in 5 50 = some (.iconst 3, 1, 0, 0) := by decide +kernel
theorem j5_51 : ax_in 5 51 = some (.aaload, 1, 0, 0) := by decide +kernel
theorem j5_52 : ax_in 5 52 = some (.aload_n 0, 1, 0, 0) := by decide +kernel
theorem j5_53 : ax_in 5 53 = some (.getfield 16, 3, 1, 1) := by decide +kernel
theorem j5_56 : ax_in 5 56 = some (.iload 4, 2, 0, 0) := by decide +kernel
theorem j5_58 : ax_in 5 58 = some (.iastore, 1, 0, 0) := by decide +kernel
theorem j5_59 : ax_in 5 59 = some (.aload_n 0, 1, 0, 0) := by decide +kernel
theorem j5_60 : ax_in 5 60 = some (.dup, 1, 0, 0) := by decide +kernel
theorem j5_61 : ax_in 5 61 = some (.getfield 16, 3, 1, 1) := by decide +kernel
theorem j5_64 : ax_in 5 64 = some (.iconst 1, 1, 0, 0) := by decide +kernel
theorem j5_65 : ax_in 5 65 = some (.iadd, 1, 0, 0) := by decide +kernel
theorem j5_66 : ax_in 5 66 = some (.putfield 16, 3, 1, 1) := by decide +kernel
theorem j5_69 : ax_in 5 69 = some (.return_, 1, 0, 0) := by decide +kernel
theorem j6_0 : ax_in 6 0 = some (.iload_n 1, 1, 0, 0) := by decide +kernel
theorem j6_1 : ax_in 6 1 = some (.ifCond .lt 24, 3, 0, 0) := by decide +kernel
theorem j6_4 : ax_in 6 4 = some (.iload_n 1, 1, 0, 0) := by decide +kernel
theorem j6_5 : ax_in 6 5 = some (.aload_n 0, 1, 0, 0) := by decide +kernel
theorem j6_6 : ax_in 6 6 = some (.getfield 16, 3, 1, 1) := by decide +kernel
theorem j6_9 : ax_in 6 9 = some (.if_icmp .ge 16, 3, 0, 0) := by decide +kernel
theorem j6_12 : ax_in 6 12 = some (.iload_n 2, 1, 0, 0) := by decide +kernel
theorem j6_13 : ax_in 6 13 = some (.ifCond .lt 12, 3, 0, 0) := by decide +kernel
theorem j6_16 : ax_in 6 16 = some (.iload_n 2, 1, 0, 0) := by decide +kernel
theorem j6_17 : ax_in 6 17 = some (.iconst 4, 1, 0, 0) := by decide +kernel
theorem j6_18 : ax_in 6 18 = some (.if_icmp .ge 7, 3, 0, 0) := by decide +kernel
theorem j6_21 : ax_in 6 21 = some (.iconst 1, 1, 0, 0) := by decide +kernel
theorem j6_22 : ax_in 6 22 = some (.goto 4, 3, 0, 0) := by decide +kernel
theorem j6_25 : ax_in 6 25 = some (.iconst 0, 1, 0, 0) := by decide +kernel
theorem j6_26 : ax_in 6 26 = some (.istore_n 3, 1, 0, 0) := by decide +kernel
theorem j6_27 : ax_in 6 27 = some (.iload_n 3, 1, 0, 0) := by decide +kernel
theorem j6_28 : ax_in 6 28 = some (.ifCond .eq 14, 3, 0, 0) := by decide +kernel
theorem j6_31 : ax_in 6 31 = some (.aload_n 0, 1, 0, 0) := by decide +kernel
theorem j6_32 : ax_in 6 32 = some (.getfield 11, 3, 1, 0) := by decide +kernel
theorem j6_35 : ax_in 6 35 = some (.iload_n 2, 1, 0, 0) := by decide +kernel
theorem j6_36 : ax_in 6 36 = some (.aaload, 1, 0, 0) := by decide +kernel
theorem j6_37 : ax_in 6 37 = some (.iload_n 1, 1, 0, 0) := by decide +kernel
theorem j6_38 : ax_in 6 38 = some (.iaload, 1, 0, 0) := by decide +kernel
theorem j6_39 : ax_in 6 39 = some (.goto 4, 3, 0, 0) := by decide +kernel
theorem j6_42 : ax_in 6 42 = some (.iconst (-1), 1, 0, 0) := by decide +kernel
theorem j6_43 : ax_in 6 43 = some (.ireturn, 1, 0, 0) := by decide +kernel
theorem j7_0 : ax_in 7 0 = some (.aload_n 0, 1, 0, 0) := by decide +kernel
theorem j7_1 : ax_in 7 1 = some (.getfield 14, 3, 2, 0) := by decide +kernel
theorem j7_4 : ax_in 7 4 = some (.invokevirtual 31, 3, 41, 0) := by decide +kernel
theorem j7_7 : ax_in 7 7 = some (.aload_n 0, 1, 0, 0) := by decide +kernel
theorem j7_8 : ax_in 7 8 = some (.getfield 20, 3, 2, 1) := by decide +kernel
theorem j7_11 : ax_in 7 11 = some (.invokevirtual 31, 3, 41, 0) := by decide +kernel
theorem j7_14 : ax_in 7 14 = some (.aload_n 0, 1, 0, 0) := by decide +kernel
theorem j7_15 : ax_in 7 15 = some (.iconst 0, 1, 0, 0) := by decide +kernel
theorem j7_16 : ax_in 7 16 = some (.putfield 34, 3, 2, 4) := by decide +kernel
theorem j7_19 : ax_in 7 19 = some (.aload_n 0, 1, 0, 0) := by decide +kernel
theorem j7_20 : ax_in 7 20 = some (.iconst 0, 1, 0, 0) := by decide +kernel
theorem j7_21 : ax_in 7 21 = some (.putfield 38, 3, 2, 5) := by decide +kernel
theorem j7_24 : ax_in 7 24 = some (.return_, 1, 0, 0) := by decide +kernel
theorem j8_0 : ax_in 8 0 = some (.aload_n 0, 1, 0, 0) := by decide +kernel
theorem j8_1 : ax_in 8 1 = some (.getfield 34, 3, 2, 4) := by decide +kernel
theorem j8_4 : ax_in 8 4 = some (.ireturn, 1, 0, 0) := by decide +kernel
theorem j9_0 : ax_in 9 0 = some (.aload_n 0, 1, 0, 0) := by decide +kernel
theorem j9_1 : ax_in 9 1 = some (.getfield 38, 3, 2, 5) := by decide +kernel
theorem j9_4 : ax_in 9 4 = some (.ireturn, 1, 0, 0) := by decide +kernel
theorem j10_0 : ax_in 10 0 = some (.aload_n 0, 1, 0, 0) := by decide +kernel
theorem j10_1 : ax_in 10 1 = some (.getfield 38, 3, 2, 5) := by decide +kernel
theorem j10_4 : ax_in 10 4 = some (.ifCond .eq 14, 3, 0, 0) := by decide +kernel
theorem j10_7 : ax_in 10 7 = some (.aload_n 0, 1, 0, 0) := by decide +kernel
theorem j10_8 : ax_in 10 8 = some (.getfield 34, 3, 2, 4) := by decide +kernel
theorem j10_11 : ax_in 10 11 = some (.ifCond .ne 7, 3, 0, 0) := by decide +kernel
theorem j10_14 : ax_in 10 14 = some (.iconst 1, 1, 0, 0) := by decide +kernel
theorem j10_15 : ax_in 10 15 = some (.goto 4, 3, 0, 0) := by decide +kernel
theorem j10_18 : ax_in 10 18 = some (.iconst 0, 1, 0, 0) := by decide +kernel
theorem j10_19 : ax_in 10 19 = some (.ireturn, 1, 0, 0) := by decide +kernel
theorem j11_0 : ax_in 11 0 = some (.aload_n 0, 1, 0, 0) := by decide +kernel
theorem j11_1 : ax_in 11 1 = some (.getfield 34, 3, 2, 4) := by decide +kernel
theorem j11_4 : ax_in 11 4 = some (.bipush 8, 2, 0, 0) := by decide +kernel
theorem j11_6 : ax_in 11 6 = some (.if_icmp .lt 7, 3, 0, 0) := by decide +kernel
theorem j11_9 : ax_in 11 9 = some (.iconst 1, 1, 0, 0) := by decide +kernel
theorem j11_10 : ax_in 11 10 = some (.goto 4, 3, 0, 0) := by decide +kernel
theorem j11_13 : ax_in 11 13 = some (.iconst 0, 1, 0, 0) := by decide +kernel
theorem j11_14 : ax_in 11 14 = some (.ireturn, 1, 0, 0) := by decide +kernel
theorem j12_0 : ax_in 12 0 = some (.aload_n 0, 1, 0, 0) := by decide +kernel
theorem j12_1 : ax_in 12 1 = some (.getfield 34, 3, 2, 4) := by decide +kernel
theorem j12_4 : ax_in 12 4 = some (.ifCond .le 29, 3, 0, 0) := by decide +kernel
theorem j12_7 : ax_in 12 7 = some (.aload_n 0, 1, 0, 0) := by decide +kernel
theorem j12_8 : ax_in 12 8 = some (.getfield 34, 3, 2, 4) := by decide +kernel
theorem j12_11 : ax_in 12 11 = some (.aload_n 0, 1, 0, 0) := by decide +kernel
theorem j12_12 : ax_in 12 12 = some (.getfield 23, 3, 2, 2) := by decide +kernel
theorem j12_15 : ax_in 12 15 = some (.arraylength, 1, 0, 0) := by decide +kernel
theorem j12_16 : ax_in 12 16 = some (.if_icmp .gt 17, 3, 0, 0) := by decide +kernel
theorem j12_19 : ax_in 12 19 = some (.aload_n 0, 1, 0, 0) := by decide +kernel
theorem j12_20 : ax_in 12 20 = some (.getfield 23, 3, 2, 2) := by decide +kernel
theorem j12_23 : ax_in 12 23 = some (.aload_n 0, 1, 0, 0) := by decide +kernel
theorem j12_24 : ax_in 12 24 = some (.getfield 34, 3, 2, 4) := by decide +kernel
theorem j12_27 : ax_in 12 27 = some (.iconst 1, 1, 0, 0) := by decide +kernel
theorem j12_28 : ax_in 12 28 = some (.isub, 1, 0, 0) := by decide +kernel
theorem j12_29 : ax_in 12 29 = some (.iaload, 1, 0, 0) := by decide +kernel
theorem j12_30 : ax_in 12 30 = some (.goto 4, 3, 0, 0) := by decide +kernel
theorem j12_33 : ax_in 12 33 = some (.iconst (-1), 1, 0, 0) := by decide +kernel
theorem j12_34 : ax_in 12 34 = some (.ireturn, 1, 0, 0) := by decide +kernel
theorem j13_0 : ax_in 13 0 = some (.aload_n 0, 1, 0, 0) := by decide +kernel
theorem j13_1 : ax_in 13 1 = some (.getfield 34, 3, 2, 4) := by decide +kernel
theorem j13_4 : ax_in 13 4 = some (.ifCond .le 33, 3, 0, 0) := by decide +kernel
theorem j13_7 : ax_in 13 7 = some (.aload_n 0, 1, 0, 0) := by decide +kernel
theorem j13_8 : ax_in 13 8 = some (.getfield 34, 3, 2, 4) := by decide +kernel
theorem j13_11 : ax_in 13 11 = some (.aload_n 0, 1, 0, 0) := by decide +kernel
theorem j13_12 : ax_in 13 12 = some (.getfield 27, 3, 2, 3) := by decide +kernel
theorem j13_15 : ax_in 13 15 = some (.arraylength, 1, 0, 0) := by decide +kernel
theorem j13_16 : ax_in 13 16 = some (.if_icmp .gt 21, 3, 0, 0) := by decide +kernel
theorem j13_19 : ax_in 13 19 = some (.aload_n 0, 1, 0, 0) := by decide +kernel
theorem j13_20 : ax_in 13 20 = some (.getfield 27, 3, 2, 3) := by decide +kernel
theorem j13_23 : ax_in 13 23 = some (.aload_n 0, 1, 0, 0) := by decide +kernel
theorem j13_24 : ax_in 13 24 = some (.getfield 34, 3, 2, 4) := by decide +kernel
theorem j13_27 : ax_in 13 27 = some (.iconst 1, 1, 0, 0) := by decide +kernel
theorem j13_28 : ax_in 13 28 = some (.isub, 1, 0, 0) := by decide +kernel
theorem j13_29 : ax_in 13 29 = some (.baload, 1, 0, 0) := by decide +kernel
theorem j13_30 : ax_in 13 30 = some (.ifCond .ne 7, 3, 0, 0) := by decide +kernel
theorem j13_33 : ax_in 13 33 = some (.iconst 1, 1, 0, 0) := by decide +kernel
theorem j13_34 : ax_in 13 34 = some (.goto 4, 3, 0, 0) := by decide +kernel
theorem j13_37 : ax_in 13 37 = some (.iconst 0, 1, 0, 0) := by decide +kernel
theorem j13_38 : ax_in 13 38 = some (.ireturn, 1, 0, 0) := by decide +kernel
theorem j14_0 : ax_in 14 0 = some (.aload_n 0, 1, 0, 0) := by decide +kernel
theorem j14_1 : ax_in 14 1 = some (.getfield 34, 3, 2, 4) := by decide +kernel
theorem j14_4 : ax_in 14 4 = some (.ifCond .le 27, 3, 0, 0) := by decide +kernel
theorem j14_7 : ax_in 14 7 = some (.aload_n 0, 1, 0, 0) := by decide +kernel
theorem j14_8 : ax_in 14 8 = some (.getfield 34, 3, 2, 4) := by decide +kernel
theorem j14_11 : ax_in 14 11 = some (.aload_n 0, 1, 0, 0) := by decide +kernel
theorem j14_12 : ax_in 14 12 = some (.getfield 27, 3, 2, 3) := by decide +kernel
theorem j14_15 : ax_in 14 15 = some (.arraylength, 1, 0, 0) := by decide +kernel
theorem j14_16 : ax_in 14 16 = some (.if_icmp .gt 15, 3, 0, 0) := by decide +kernel
theorem j14_19 : ax_in 14 19 = some (.aload_n 0, 1, 0, 0) := by decide +kernel
theorem j14_20 : ax_in 14 20 = some (.getfield 27, 3, 2, 3) := by decide +kernel
theorem j14_23 : ax_in 14 23 = some (.aload_n 0, 1, 0, 0) := by decide +kernel
theorem j14_24 : ax_in 14 24 = some (.getfield 34, 3, 2, 4) := by decide +kernel
theorem j14_27 : ax_in 14 27 = some (.iconst 1, 1, 0, 0) := by decide +kernel
theorem j14_28 : ax_in 14 28 = some (.isub, 1, 0, 0) := by decide +kernel
theorem j14_29 : ax_in 14 29 = some (.iconst 1, 1, 0, 0) := by decide +kernel
theorem j14_30 : ax_in 14 30 = some (.bastore, 1, 0, 0) := by decide +kernel
theorem j14_31 : ax_in 14 31 = some (.return_, 1, 0, 0) := by decide +kernel
theorem j15_0 : ax_in 15 0 = some (.aload_n 0, 1, 0, 0) := by decide +kernel
theorem j15_1 : ax_in 15 1 = some (.invokevirtual 42, 3, 14, 0) := by decide +kernel
theorem j15_4 : ax_in 15 4 = some (.aload_n 0, 1, 0, 0) := by decide +kernel
theorem j15_5 : ax_in 15 5 = some (.iconst 1, 1, 0, 0) := by decide +kernel
theorem j15_6 : ax_in 15 6 = some (.putfield 38, 3, 2, 5) := by decide +kernel
theorem j15_9 : ax_in 15 9 = some (.aload_n 0, 1, 0, 0) := by decide +kernel
theorem j15_10 : ax_in 15 10 = some (.getfield 34, 3, 2, 4) := by decide +kernel
theorem j15_13 : ax_in 15 13 = some (.aload_n 0, 1, 0, 0) := by decide +kernel
theorem j15_14 : ax_in 15 14 = some (.getfield 23, 3, 2, 2) := by decide +kernel
theorem j15_17 : ax_in 15 17 = some (.arraylength, 1, 0, 0) := by decide +kernel
theorem j15_18 : ax_in 15 18 = some (.if_icmp .ge 45, 3, 0, 0) := by decide +kernel
theorem j15_21 : ax_in 15 21 = some (.aload_n 0, 1, 0, 0) := by decide +kernel
theorem j15_22 : ax_in 15 22 = some (.getfield 34, 3, 2, 4) := by decide +kernel
theorem j15_25 : ax_in 15 25 = some (.aload_n 0, 1, 0, 0) := by decide +kernel
theorem j15_26 : ax_in 15 26 = some (.getfield 27, 3, 2, 3) := by decide +kernel
theorem j15_29 : ax_in 15 29 = some (.arraylength, 1, 0, 0) := by decide +kernel
theorem j15_30 : ax_in 15 30 = some (.if_icmp .ge 33, 3, 0, 0) := by decide +kernel
theorem j15_33 : ax_in 15 33 = some (.aload_n 0, 1, 0, 0) := by decide +kernel
theorem j15_34 : ax_in 15 34 = some (.getfield 23, 3, 2, 2) := by decide +kernel
theorem j15_37 : ax_in 15 37 = some (.aload_n 0, 1, 0, 0) := by decide +kernel
theorem j15_38 : ax_in 15 38 = some (.getfield 34, 3, 2, 4) := by decide +kernel
theorem j15_41 : ax_in 15 41 = some (.iload_n 1, 1, 0, 0) := by decide +kernel
theorem j15_42 : ax_in 15 42 = some (.iastore, 1, 0, 0) := by decide +kernel
theorem j15_43 : ax_in 15 43 = some (.aload_n 0, 1, 0, 0) := by decide +kernel
theorem j15_44 : ax_in 15 44 = some (.getfield 27, 3, 2, 3) := by decide +kernel
theorem j15_47 : ax_in 15 47 = some (.aload_n 0, 1, 0, 0) := by decide +kernel
theorem j15_48 : ax_in 15 48 = some (.getfield 34, 3, 2, 4) := by decide +kernel
theorem j15_51 : ax_in 15 51 = some (.iconst 0, 1, 0, 0) := by decide +kernel
theorem j15_52 : ax_in 15 52 = some (.bastore, 1, 0, 0) := by decide +kernel
theorem j15_53 : ax_in 15 53 = some (.aload_n 0, 1, 0, 0) := by decide +kernel
theorem j15_54 : ax_in 15 54 = some (.dup, 1, 0, 0) := by decide +kernel
theorem j15_55 : ax_in 15 55 = some (.getfield 34, 3, 2, 4) := by decide +kernel
theorem j15_58 : ax_in 15 58 = some (.iconst 1, 1, 0, 0) := by decide +kernel
theorem j15_59 : ax_in 15 59 = some (.iadd, 1, 0, 0) := by decide +kernel
theorem j15_60 : ax_in 15 60 = some (.putfield 34, 3, 2, 4) := by decide +kernel
theorem j15_63 : ax_in 15 63 = some (.return_, 1, 0, 0) := by decide +kernel
theorem j16_0 : ax_in 16 0 = some (.aload_n 0, 1, 0, 0) := by decide +kernel
theorem j16_1 : ax_in 16 1 = some (.getfield 34, 3, 2, 4) := by decide +kernel
theorem j16_4 : ax_in 16 4 = some (.ifCond .le 13, 3, 0, 0) := by decide +kernel
theorem j16_7 : ax_in 16 7 = some (.aload_n 0, 1, 0, 0) := by decide +kernel
theorem j16_8 : ax_in 16 8 = some (.dup, 1, 0, 0) := by decide +kernel
theorem j16_9 : ax_in 16 9 = some (.getfield 34, 3, 2, 4) := by decide +kernel
theorem j16_12 : ax_in 16 12 = some (.iconst 1, 1, 0, 0) := by decide +kernel
theorem j16_13 : ax_in 16 13 = some (.isub, 1, 0, 0) := by decide +kernel
theorem j16_14 : ax_in 16 14 = some (.putfield 34, 3, 2, 4) := by decide +kernel
theorem j16_17 : ax_in 16 17 = some (.return_, 1, 0, 0) := by decide +kernel
theorem j17_0 : ax_in 17 0 = some (.aload_n 0, 1, 0, 0) := by decide +kernel
theorem j17_1 : ax_in 17 1 = some (.invokevirtual 45, 3, 13, 0) := by decide +kernel
theorem j17_4 : ax_in 17 4 = some (.ifCond .eq 17, 3, 0, 0) := by decide +kernel
theorem j17_7 : ax_in 17 7 = some (.aload_n 0, 1, 0, 0) := by decide +kernel
theorem j17_8 : ax_in 17 8 = some (.getfield 14, 3, 2, 0) := by decide +kernel
theorem j17_11 : ax_in 17 11 = some (.aload_n 0, 1, 0, 0) := by decide +kernel
theorem j17_12 : ax_in 17 12 = some (.invokevirtual 49, 3, 12, 0) := by decide +kernel
theorem j17_15 : ax_in 17 15 = some (.invokevirtual 53, 3, 42, 0) := by decide +kernel
theorem j17_18 : ax_in 17 18 = some (.goto 14, 3, 0, 0) := by decide +kernel
theorem j17_21 : ax_in 17 21 = some (.aload_n 0, 1, 0, 0) := by decide +kernel
theorem j17_22 : ax_in 17 22 = some (.getfield 20, 3, 2, 1) := by decide +kernel
theorem j17_25 : ax_in 17 25 = some (.aload_n 0, 1, 0, 0) := by decide +kernel
theorem j17_26 : ax_in 17 26 = some (.invokevirtual 49, 3, 12, 0) := by decide +kernel
theorem j17_29 : ax_in 17 29 = some (.invokevirtual 53, 3, 42, 0) := by decide +kernel
theorem j17_32 : ax_in 17 32 = some (.ireturn, 1, 0, 0) := by decide +kernel
theorem j18_0 : ax_in 18 0 = some (.aload_n 0, 1, 0, 0) := by decide +kernel
theorem j18_1 : ax_in 18 1 = some (.invokevirtual 45, 3, 13, 0) := by decide +kernel
theorem j18_4 : ax_in 18 4 = some (.ifCond .eq 12, 3, 0, 0) := by decide +kernel
theorem j18_7 : ax_in 18 7 = some (.aload_n 0, 1, 0, 0) := by decide +kernel
theorem j18_8 : ax_in 18 8 = some (.invokevirtual 57, 3, 17, 0) := by decide +kernel
theorem j18_11 : ax_in 18 11 = some (.iconst 1, 1, 0, 0) := by decide +kernel
theorem j18_12 : ax_in 18 12 = some (.iadd, 1, 0, 0) := by decide +kernel
theorem j18_13 : ax_in 18 13 = some (.goto 9, 3, 0, 0) := by decide +kernel
theorem j18_16 : ax_in 18 16 = some (.aload_n 0, 1, 0, 0) := by decide +kernel
theorem j18_17 : ax_in 18 17 = some (.invokevirtual 57, 3, 17, 0) := by decide +kernel
theorem j18_20 : ax_in 18 20 = some (.iconst 2, 1, 0, 0) := by decide +kernel
theorem j18_21 : ax_in 18 21 = some (.iadd, 1, 0, 0) := by decide +kernel
theorem j18_22 : ax_in 18 22 = some (.ireturn, 1, 0, 0) := by decide +kernel
theorem j19_0 : ax_in 19 0 = some (.aload_n 0, 1, 0, 0) := by decide +kernel
theorem j19_1 : ax_in 19 1 = some (.invokevirtual 45, 3, 13, 0) := by decide +kernel
theorem j19_4 : ax_in 19 4 = some (.ifCond .eq 18, 3, 0, 0) := by decide +kernel
theorem j19_7 : ax_in 19 7 = some (.aload_n 0, 1, 0, 0) := by decide +kernel
theorem j19_8 : ax_in 19 8 = some (.getfield 14, 3, 2, 0) := by decide +kernel
theorem j19_11 : ax_in 19 11 = some (.aload_n 0, 1, 0, 0) := by decide +kernel
theorem j19_12 : ax_in 19 12 = some (.invokevirtual 49, 3, 12, 0) := by decide +kernel
theorem j19_15 : ax_in 19 15 = some (.iload_n 1, 1, 0, 0) := by decide +kernel
theorem j19_16 : ax_in 19 16 = some (.invokevirtual 60, 3, 44, 0) := by decide +kernel
theorem j19_19 : ax_in 19 19 = some (.goto 15, 3, 0, 0) := by decide +kernel
theorem j19_22 : ax_in 19 22 = some (.aload_n 0, 1, 0, 0) := by decide +kernel
theorem j19_23 : ax_in 19 23 = some (.getfield 20, 3, 2, 1) := by decide +kernel
theorem j19_26 : ax_in 19 26 = some (.aload_n 0, 1, 0, 0) := by decide +kernel
theorem j19_27 : ax_in 19 27 = some (.invokevirtual 49, 3, 12, 0) := by decide +kernel
theorem j19_30 : ax_in 19 30 = some (.iload_n 1, 1, 0, 0) := by decide +kernel
theorem j19_31 : ax_in 19 31 = some (.invokevirtual 60, 3, 44, 0) := by decide +kernel
theorem j19_34 : ax_in 19 34 = some (.ireturn, 1, 0, 0) := by decide +kernel
theorem j20_0 : ax_in 20 0 = some (.aload_n 0, 1, 0, 0) := by decide +kernel
theorem j20_1 : ax_in 20 1 = some (.invokevirtual 45, 3, 13, 0) := by decide +kernel
theorem j20_4 : ax_in 20 4 = some (.ifCond .eq 18, 3, 0, 0) := by decide +kernel
theorem j20_7 : ax_in 20 7 = some (.aload_n 0, 1, 0, 0) := by decide +kernel
theorem j20_8 : ax_in 20 8 = some (.getfield 14, 3, 2, 0) := by decide +kernel
theorem j20_11 : ax_in 20 11 = some (.aload_n 0, 1, 0, 0) := by decide +kernel
theorem j20_12 : ax_in 20 12 = some (.invokevirtual 49, 3, 12, 0) := by decide +kernel
theorem j20_15 : ax_in 20 15 = some (.iload_n 1, 1, 0, 0) := by decide +kernel
theorem j20_16 : ax_in 20 16 = some (.invokevirtual 64, 3, 45, 0) := by decide +kernel
theorem j20_19 : ax_in 20 19 = some (.goto 15, 3, 0, 0) := by decide +kernel
theorem j20_22 : ax_in 20 22 = some (.aload_n 0, 1, 0, 0) := by decide +kernel
theorem j20_23 : ax_in 20 23 = some (.getfield 20, 3, 2, 1) := by decide +kernel
theorem j20_26 : ax_in 20 26 = some (.aload_n 0, 1, 0, 0) := by decide +kernel
theorem j20_27 : ax_in 20 27 = some (.invokevirtual 49, 3, 12, 0) := by decide +kernel
theorem j20_30 : ax_in 20 30 = some (.iload_n 1, 1, 0, 0) := by decide +kernel
theorem j20_31 : ax_in 20 31 = some (.invokevirtual 64, 3, 45, 0) := by decide +kernel
theorem j20_34 : ax_in 20 34 = some (.ireturn, 1, 0, 0) := by decide +kernel
theorem j21_0 : ax_in 21 0 = some (.aload_n 0, 1, 0, 0) := by decide +kernel
theorem j21_1 : ax_in 21 1 = some (.iload_n 1, 1, 0, 0) := by decide +kernel
theorem j21_2 : ax_in 21 2 = some (.invokevirtual 67, 3, 20, 0) := by decide +kernel
theorem j21_5 : ax_in 21 5 = some (.iconst (-1), 1, 0, 0) := by decide +kernel
theorem j21_6 : ax_in 21 6 = some (.if_icmp .eq 4, 3, 0, 0) := by decide +kernel
theorem j21_9 : ax_in 21 9 = some (.return_, 1, 0, 0) := by decide +kernel
theorem j21_10 : ax_in 21 10 = some (.aload_n 0, 1, 0, 0) := by decide +kernel
theorem j21_11 : ax_in 21 11 = some (.invokevirtual 45, 3, 13, 0) := by decide +kernel
theorem j21_14 : ax_in 21 14 = some (.ifCond .eq 18, 3, 0, 0) := by decide +kernel
theorem j21_17 : ax_in 21 17 = some (.aload_n 0, 1, 0, 0) := by decide +kernel
theorem j21_18 : ax_in 21 18 = some (.getfield 14, 3, 2, 0) := by decide +kernel
theorem j21_21 : ax_in 21 21 = some (.aload_n 0, 1, 0, 0) := by decide +kernel
theorem j21_22 : ax_in 21 22 = some (.invokevirtual 49, 3, 12, 0) := by decide +kernel
theorem j21_25 : ax_in 21 25 = some (.iload_n 1, 1, 0, 0) := by decide +kernel
theorem j21_26 : ax_in 21 26 = some (.invokevirtual 70, 3, 47, 0) := by decide +kernel
theorem j21_29 : ax_in 21 29 = some (.goto 15, 3, 0, 0) := by decide +kernel
theorem j21_32 : ax_in 21 32 = some (.aload_n 0, 1, 0, 0) := by decide +kernel
theorem j21_33 : ax_in 21 33 = some (.getfield 20, 3, 2, 1) := by decide +kernel
theorem j21_36 : ax_in 21 36 = some (.aload_n 0, 1, 0, 0) := by decide +kernel
theorem j21_37 : ax_in 21 37 = some (.invokevirtual 49, 3, 12, 0) := by decide +kernel
theorem j21_40 : ax_in 21 40 = some (.iload_n 1, 1, 0, 0) := by decide +kernel
theorem j21_41 : ax_in 21 41 = some (.invokevirtual 70, 3, 47, 0) := by decide +kernel
theorem j21_44 : ax_in 21 44 = some (.return_, 1, 0, 0) := by decide +kernel
theorem j22_0 : ax_in 22 0 = some (.aload_n 0, 1, 0, 0) := by decide +kernel
theorem j22_1 : ax_in 22 1 = some (.iconst 0, 1, 0, 0) := by decide +kernel
theorem j22_2 : ax_in 22 2 = some (.putfield 39, 3, 3, 4) := by decide +kernel
theorem j22_5 : ax_in 22 5 = some (.aload_n 0, 1, 0, 0) := by decide +kernel
theorem j22_6 : ax_in 22 6 = some (.getfield 21, 3, 3, 1) := by decide +kernel
theorem j22_9 : ax_in 22 9 = some (.invokevirtual 43, 3, 4, 0) := by decide +kernel
theorem j22_12 : ax_in 22 12 = some (.aload_n 0, 1, 0, 0) := by decide +kernel
theorem j22_13 : ax_in 22 13 = some (.getfield 28, 3, 3, 2) := by decide +kernel
theorem j22_16 : ax_in 22 16 = some (.invokevirtual 46, 3, 48, 0) := by decide +kernel
theorem j22_19 : ax_in 22 19 = some (.aload_n 0, 1, 0, 0) := by decide +kernel
theorem j22_20 : ax_in 22 20 = some (.getfield 35, 3, 3, 3) := by decide +kernel
theorem j22_23 : ax_in 22 23 = some (.invokevirtual 49, 3, 7, 0) := by decide +kernel
theorem j22_26 : ax_in 22 26 = some (.return_, 1, 0, 0) := by decide +kernel
theorem j23_0 : ax_in 23 0 = some (.aload_n 0, 1, 0, 0) := by decide +kernel
theorem j23_1 : ax_in 23 1 = some (.getfield 35, 3, 3, 3) := by decide +kernel
theorem j23_4 : ax_in 23 4 = some (.invokevirtual 50, 3, 10, 0) := by decide +kernel
theorem j23_7 : ax_in 23 7 = some (.ireturn, 1, 0, 0) := by decide +kernel
theorem j24_0 : ax_in 24 0 = some (.aload_n 0, 1, 0, 0) := by decide +kernel
theorem j24_1 : ax_in 24 1 = some (.getfield 35, 3, 3, 3) := by decide +kernel
theorem j24_4 : ax_in 24 4 = some (.invokevirtual 54, 3, 9, 0) := by decide +kernel
theorem j24_7 : ax_in 24 7 = some (.ifCond .eq 10, 3, 0, 0) := by decide +kernel
theorem j24_10 : ax_in 24 10 = some (.aload_n 0, 1, 0, 0) := by decide +kernel
theorem j24_11 : ax_in 24 11 = some (.invokevirtual 57, 3, 29, 0) := by decide +kernel
theorem j24_14 : ax_in 24 14 = some (.goto 7, 3, 0, 0) := by decide +kernel
theorem j24_17 : ax_in 24 17 = some (.aload_n 0, 1, 0, 0) := by decide +kernel
theorem j24_18 : ax_in 24 18 = some (.invokevirtual 61, 3, 28, 0) := by decide +kernel
theorem j24_21 : ax_in 24 21 = some (.istore_n 1, 1, 0, 0) := by decide +kernel
theorem j24_22 : ax_in 24 22 = some (.iload_n 1, 1, 0, 0) := by decide +kernel
theorem j24_23 : ax_in 24 23 = some (.iconst (-1), 1, 0, 0) := by decide +kernel
theorem j24_24 : ax_in 24 24 = some (.if_icmp .ne 5, 3, 0, 0) := by decide +kernel
theorem j24_27 : ax_in 24 27 = some (.iconst 0, 1, 0, 0) := by decide +kernel
theorem j24_28 : ax_in 24 28 = some (.ireturn, 1, 0, 0) := by decide +kernel
theorem j24_29 : ax_in 24 29 = some (.iload_n 1, 1, 0, 0) := by decide +kernel
theorem j24_30 : ax_in 24 30 = some (.invokestatic 64, 3, 83, 2) := by decide +kernel
theorem j24_33 : ax_in 24 33 = some (.tableswitch 50 1 3 #[27, 36, 45], 27, 0, 0) := by decide +kernel
theorem j24_60 : ax_in 24 60 = some (.aload_n 0, 1, 0, 0) := by decide +kernel
theorem j24_61 : ax_in 24 61 = some (.iload_n 1, 1, 0, 0) := by decide +kernel
theorem j24_62 : ax_in 24 62 = some (.invokestatic 68, 3, 84, 2) := by decide +kernel
theorem j24_65 : ax_in 24 65 = some (.invokevirtual 71, 3, 25, 0) := by decide +kernel
theorem j24_68 : ax_in 24 68 = some (.ireturn, 1, 0, 0) := by decide +kernel
theorem j24_69 : ax_in 24 69 = some (.aload_n 0, 1, 0, 0) := by decide +kernel
theorem j24_70 : ax_in 24 70 = some (.iload_n 1, 1, 0, 0) := by decide +kernel
theorem j24_71 : ax_in 24 71 = some (.invokestatic 68, 3, 84, 2) := by decide +kernel
theorem j24_74 : ax_in 24 74 = some (.invokevirtual 75, 3, 26, 0) := by decide +kernel
theorem j24_77 : ax_in 24 77 = some (.ireturn, 1, 0, 0) := by decide +kernel
theorem j24_78 : ax_in 24 78 = some (.aload_n 0, 1, 0, 0) := by decide +kernel
theorem j24_79 : ax_in 24 79 = some (.invokevirtual 78, 3, 27, 0) := by decide +kernel
theorem j24_82 : ax_in 24 82 = some (.ireturn, 1, 0, 0) := by decide +kernel
theorem j24_83 : ax_in 24 83 = some (.aload_n 0, 1, 0, 0) := by decide +kernel
theorem j24_84 : ax_in 24 84 = some (.getfield 35, 3, 3, 3) := by decide +kernel
theorem j24_87 : ax_in 24 87 = some (.invokevirtual 81, 3, 16, 0) := by decide +kernel
theorem j24_90 : ax_in 24 90 = some (.aload_n 0, 1, 0, 0) := by decide +kernel
theorem j24_91 : ax_in 24 91 = some (.getfield 21, 3, 3, 1) := by decide +kernel
theorem j24_94 : ax_in 24 94 = some (.iconst 4, 1, 0, 0) := by decide +kernel
theorem j24_95 : ax_in 24 95 = some (.iconst 0, 1, 0, 0) := by decide +kernel
theorem j24_96 : ax_in 24 96 = some (.iconst 0, 1, 0, 0) := by decide +kernel
theorem j24_97 : ax_in 24 97 = some (.iconst 0, 1, 0, 0) := by decide +kernel
theorem j24_98 : ax_in 24 98 = some (.invokevirtual 84, 3, 5, 0) := by decide +kernel
theorem j24_101 : ax_in 24 101 = some (.iconst 1, 1, 0, 0) := by decide +kernel
theorem j24_102 : ax_in 24 102 = some (.ireturn, 1, 0, 0) := by decide +kernel
theorem j25_0 : ax_in 25 0 = some (.aload_n 0, 1, 0, 0) := by decide +kernel
theorem j25_1 : ax_in 25 1 = some (.getfield 35, 3, 3, 3) := by decide +kernel
theorem j25_4 : ax_in 25 4 = some (.invokevirtual 88, 3, 11, 0) := by decide +kernel
theorem j25_7 : ax_in 25 7 = some (.ifCond .eq 5, 3, 0, 0) := by decide +kernel
theorem j25_10 : ax_in 25 10 = some (.iconst 0, 1, 0, 0) := by decide +kernel
theorem j25_11 : ax_in 25 11 = some (.ireturn, 1, 0, 0) := by decide +kernel
theorem j25_12 : ax_in 25 12 = some (.aload_n 0, 1, 0, 0) := by decide +kernel
theorem j25_13 : ax_in 25 13 = some (.getfield 35, 3, 3, 3) := by decide +kernel
theorem j25_16 : ax_in 25 16 = some (.iload_n 1, 1, 0, 0) := by decide +kernel
theorem j25_17 : ax_in 25 17 = some (.invokevirtual 91, 3, 15, 0) := by decide +kernel
theorem j25_20 : ax_in 25 20 = some (.aload_n 0, 1, 0, 0) := by decide +kernel
theorem j25_21 : ax_in 25 21 = some (.getfield 21, 3, 3, 1) := by decide +kernel
theorem j25_24 : ax_in 25 24 = some (.iconst 1, 1, 0, 0) := by decide +kernel
theorem j25_25 : ax_in 25 25 = some (.aload_n 0, 1, 0, 0) := by decide +kernel
theorem j25_26 : ax_in 25 26 = some (.getfield 28, 3, 3, 2) := by decide +kernel
theorem j25_29 : ax_in 25 29 = some (.iload_n 1, 1, 0, 0) := by decide +kernel
theorem j25_30 : ax_in 25 30 = some (.invokevirtual 95, 3, 49, 0) := by decide +kernel
theorem j25_33 : ax_in 25 33 = some (.aload_n 0, 1, 0, 0) := by decide +kernel
theorem j25_34 : ax_in 25 34 = some (.getfield 28, 3, 3, 2) := by decide +kernel
theorem j25_37 : ax_in 25 37 = some (.iload_n 1, 1, 0, 0) := by decide +kernel
theorem j25_38 : ax_in 25 38 = some (.invokevirtual 98, 3, 50, 0) := by decide +kernel
theorem j25_41 : ax_in 25 41 = some (.iconst 0, 1, 0, 0) := by decide +kernel
theorem j25_42 : ax_in 25 42 = some (.invokevirtual 84, 3, 5, 0) := by decide +kernel
theorem j25_45 : ax_in 25 45 = some (.iconst 1, 1, 0, 0) := by decide +kernel
theorem j25_46 : ax_in 25 46 = some (.ireturn, 1, 0, 0) := by decide +kernel
theorem j26_0 : ax_in 26 0 = some (.aload_n 0, 1, 0, 0) := by decide +kernel
theorem j26_1 : ax_in 26 1 = some (.iload_n 1, 1, 0, 0) := by decide +kernel
theorem j26_2 : ax_in 26 2 = some (.invokevirtual 101, 3, 35, 0) := by decide +kernel
theorem j26_5 : ax_in 26 5 = some (.istore_n 2, 1, 0, 0) := by decide +kernel
theorem j26_6 : ax_in 26 6 = some (.iload_n 2, 1, 0, 0) := by decide +kernel
theorem j26_7 : ax_in 26 7 = some (.iconst (-1), 1, 0, 0) := by decide +kernel
theorem j26_8 : ax_in 26 8 = some (.if_icmp .ne 5, 3, 0, 0) := by decide +kernel
theorem j26_11 : ax_in 26 11 = some (.iconst 0, 1, 0, 0) := by decide +kernel
theorem j26_12 : ax_in 26 12 = some (.ireturn, 1, 0, 0) := by decide +kernel
theorem j26_13 : ax_in 26 13 = some (.aload_n 0, 1, 0, 0) := by decide +kernel
theorem j26_14 : ax_in 26 14 = some (.getfield 21, 3, 3, 1) := by decide +kernel
theorem j26_17 : ax_in 26 17 = some (.iconst 2, 1, 0, 0) := by decide +kernel
theorem j26_18 : ax_in 26 18 = some (.aload_n 0, 1, 0, 0) := by decide +kernel
theorem j26_19 : ax_in 26 19 = some (.getfield 28, 3, 3, 2) := by decide +kernel
theorem j26_22 : ax_in 26 22 = some (.iload_n 1, 1, 0, 0) := by decide +kernel
theorem j26_23 : ax_in 26 23 = some (.invokevirtual 95, 3, 49, 0) := by decide +kernel
theorem j26_26 : ax_in 26 26 = some (.aload_n 0, 1, 0, 0) := by decide +kernel
theorem j26_27 : ax_in 26 27 = some (.getfield 28, 3, 3, 2) := by decide +kernel
theorem j26_30 : ax_in 26 30 = some (.iload_n 1, 1, 0, 0) := by decide +kernel
theorem j26_31 : ax_in 26 31 = some (.invokevirtual 98, 3, 50, 0) := by decide +kernel
theorem j26_34 : ax_in 26 34 = some (.iload_n 2, 1, 0, 0) := by decide +kernel
theorem j26_35 : ax_in 26 35 = some (.invokevirtual 84, 3, 5, 0) := by decide +kernel
theorem j26_38 : ax_in 26 38 = some (.iconst 1, 1, 0, 0) := by decide +kernel
theorem j26_39 : ax_in 26 39 = some (.ireturn, 1, 0, 0) := by decide +kernel
theorem j27_0 : ax_in 27 0 = some (.aload_n 0, 1, 0, 0) := by decide +kernel
theorem j27_1 : ax_in 27 1 = some (.getfield 35, 3, 3, 3) := by decide +kernel
theorem j27_4 : ax_in 27 4 = some (.invokevirtual 104, 3, 14, 0) := by decide +kernel
theorem j27_7 : ax_in 27 7 = some (.aload_n 0, 1, 0, 0) := by decide +kernel
theorem j27_8 : ax_in 27 8 = some (.aload_n 0, 1, 0, 0) := by decide +kernel
theorem j27_9 : ax_in 27 9 = some (.getfield 35, 3, 3, 3) := by decide +kernel
theorem j27_12 : ax_in 27 12 = some (.invokevirtual 107, 3, 12, 0) := by decide +kernel
theorem j27_15 : ax_in 27 15 = some (.invokevirtual 101, 3, 35, 0) := by decide +kernel
theorem j27_18 : ax_in 27 18 = some (.istore_n 1, 1, 0, 0) := by decide +kernel
theorem j27_19 : ax_in 27 19 = some (.iload_n 1, 1, 0, 0) := by decide +kernel
theorem j27_20 : ax_in 27 20 = some (.iconst (-1), 1, 0, 0) := by decide +kernel
theorem j27_21 : ax_in 27 21 = some (.if_icmp .ne 5, 3, 0, 0) := by decide +kernel
theorem j27_24 : ax_in 27 24 = some (.iconst 0, 1, 0, 0) := by decide +kernel
theorem j27_25 : ax_in 27 25 = some (.ireturn, 1, 0, 0) := by decide +kernel
theorem j27_26 : ax_in 27 26 = some (.aload_n 0, 1, 0, 0) := by decide +kernel
theorem j27_27 : ax_in 27 27 = some (.getfield 21, 3, 3, 1) := by decide +kernel
theorem j27_30 : ax_in 27 30 = some (.iconst 3, 1, 0, 0) := by decide +kernel
theorem j27_31 : ax_in 27 31 = some (.iconst 0, 1, 0, 0) := by decide +kernel
theorem j27_32 : ax_in 27 32 = some (.iconst 0, 1, 0, 0) := by decide +kernel
theorem j27_33 : ax_in 27 33 = some (.iload_n 1, 1, 0, 0) := by decide +kernel
theorem j27_34 : ax_in 27 34 = some (.invokevirtual 84, 3, 5, 0) := by decide +kernel
theorem j27_37 : ax_in 27 37 = some (.iconst 1, 1, 0, 0) := by decide +kernel
theorem j27_38 : ax_in 27 38 = some (.ireturn, 1, 0, 0) := by decide +kernel
theorem j28_0 : ax_in 28 0 = some (.aload_n 0, 1, 0, 0) := by decide +kernel
theorem j28_1 : ax_in 28 1 = some (.invokevirtual 110, 3, 32, 0) := by decide +kernel
theorem j28_4 : ax_in 28 4 = some (.istore_n 1, 1, 0, 0) := by decide +kernel
theorem j28_5 : ax_in 28 5 = some (.iload_n 1, 1, 0, 0) := by decide +kernel
theorem j28_6 : ax_in 28 6 = some (.iconst (-1), 1, 0, 0) := by decide +kernel
theorem j28_7 : ax_in 28 7 = some (.if_icmp .ne 7, 3, 0, 0) := by decide +kernel
theorem j28_10 : ax_in 28 10 = some (.iconst (-1), 1, 0, 0) := by decide +kernel
theorem j28_11 : ax_in 28 11 = some (.goto 8, 3, 0, 0) := by decide +kernel
theorem j28_14 : ax_in 28 14 = some (.iconst 1, 1, 0, 0) := by decide +kernel
theorem j28_15 : ax_in 28 15 = some (.iload_n 1, 1, 0, 0) := by decide +kernel
theorem j28_16 : ax_in 28 16 = some (.invokestatic 113, 3, 82, 2) := by decide +kernel
theorem j28_19 : ax_in 28 19 = some (.ireturn, 1, 0, 0) := by decide +kernel
theorem j29_0 : ax_in 29 0 = some (.aload_n 0, 1, 0, 0) := by decide +kernel
theorem j29_1 : ax_in 29 1 = some (.aload_n 0, 1, 0, 0) := by decide +kernel
theorem j29_2 : ax_in 29 2 = some (.getfield 35, 3, 3, 3) := by decide +kernel
theorem j29_5 : ax_in 29 5 = some (.invokevirtual 117, 3, 18, 0) := by decide +kernel
theorem j29_8 : ax_in 29 8 = some (.invokevirtual 120, 3, 39, 0) := by decide +kernel
theorem j29_11 : ax_in 29 11 = some (.istore_n 1, 1, 0, 0) := by decide +kernel
theorem j29_12 : ax_in 29 12 = some (.iload_n 1, 1, 0, 0) := by decide +kernel
theorem j29_13 : ax_in 29 13 = some (.iconst (-1), 1, 0, 0) := by decide +kernel
theorem j29_14 : ax_in 29 14 = some (.if_icmp .eq 14, 3, 0, 0) := by decide +kernel
theorem j29_17 : ax_in 29 17 = some (.iload_n 1, 1, 0, 0) := by decide +kernel
theorem j29_18 : ax_in 29 18 = some (.aload_n 0, 1, 0, 0) := by decide +kernel
theorem j29_19 : ax_in 29 19 = some (.getfield 35, 3, 3, 3) := by decide +kernel
theorem j29_22 : ax_in 29 22 = some (.invokevirtual 123, 3, 17, 0) := by decide +kernel
theorem j29_25 : ax_in 29 25 = some (.if_icmp .ge 12, 3, 0, 0) := by decide +kernel
theorem j29_28 : ax_in 29 28 = some (.aload_n 0, 1, 0, 0) := by decide +kernel
theorem j29_29 : ax_in 29 29 = some (.getfield 35, 3, 3, 3) := by decide +kernel
theorem j29_32 : ax_in 29 32 = some (.iload_n 1, 1, 0, 0) := by decide +kernel
theorem j29_33 : ax_in 29 33 = some (.invokevirtual 126, 3, 19, 0) := by decide +kernel
theorem j29_36 : ax_in 29 36 = some (.ireturn, 1, 0, 0) := by decide +kernel
theorem j29_37 : ax_in 29 37 = some (.aload_n 0, 1, 0, 0) := by decide +kernel
theorem j29_38 : ax_in 29 38 = some (.getfield 35, 3, 3, 3) := by decide +kernel
theorem j29_41 : ax_in 29 41 = some (.invokevirtual 129, 3, 13, 0) := by decide +kernel
theorem j29_44 : ax_in 29 44 = some (.ifCond .ne 20, 3, 0, 0) := by decide +kernel
theorem j29_47 : ax_in 29 47 = some (.iload_n 1, 1, 0, 0) := by decide +kernel
theorem j29_48 : ax_in 29 48 = some (.aload_n 0, 1, 0, 0) := by decide +kernel
theorem j29_49 : ax_in 29 49 = some (.getfield 35, 3, 3, 3) := by decide +kernel
theorem j29_52 : ax_in 29 52 = some (.invokevirtual 123, 3, 17, 0) := by decide +kernel
theorem j29_55 : ax_in 29 55 = some (.if_icmp .ne 9, 3, 0, 0) := by decide +kernel
theorem j29_58 : ax_in 29 58 = some (.iconst 4, 1, 0, 0) := by decide +kernel
theorem j29_59 : ax_in 29 59 = some (.iconst 0, 1, 0, 0) := by decide +kernel
theorem j29_60 : ax_in 29 60 = some (.invokestatic 113, 3, 82, 2) := by decide +kernel
theorem j29_63 : ax_in 29 63 = some (.ireturn, 1, 0, 0) := by decide +kernel
theorem j29_64 : ax_in 29 64 = some (.aload_n 0, 1, 0, 0) := by decide +kernel
theorem j29_65 : ax_in 29 65 = some (.getfield 35, 3, 3, 3) := by decide +kernel
theorem j29_68 : ax_in 29 68 = some (.invokevirtual 129, 3, 13, 0) := by decide +kernel
theorem j29_71 : ax_in 29 71 = some (.ifCond .eq 10, 3, 0, 0) := by decide +kernel
theorem j29_74 : ax_in 29 74 = some (.aload_n 0, 1, 0, 0) := by decide +kernel
theorem j29_75 : ax_in 29 75 = some (.invokevirtual 132, 3, 30, 0) := by decide +kernel
theorem j29_78 : ax_in 29 78 = some (.goto 7, 3, 0, 0) := by decide +kernel
theorem j29_81 : ax_in 29 81 = some (.aload_n 0, 1, 0, 0) := by decide +kernel
theorem j29_82 : ax_in 29 82 = some (.invokevirtual 135, 3, 31, 0) := by decide +kernel
theorem j29_85 : ax_in 29 85 = some (.istore_n 2, 1, 0, 0) := by decide +kernel
theorem j29_86 : ax_in 29 86 = some (.iload_n 2, 1, 0, 0) := by decide +kernel
theorem j29_87 : ax_in 29 87 = some (.invokestatic 138, 3, 81, 2) := by decide +kernel
theorem j29_90 : ax_in 29 90 = some (.ifCond .eq 10, 3, 0, 0) := by decide +kernel
theorem j29_93 : ax_in 29 93 = some (.aload_n 0, 1, 0, 0) := by decide +kernel
theorem j29_94 : ax_in 29 94 = some (.invokevirtual 110, 3, 32, 0) := by decide +kernel
theorem j29_97 : ax_in 29 97 = some (.goto 4, 3, 0, 0) := by decide +kernel
theorem j29_100 : ax_in 29 100 = some (.iconst 0, 1, 0, 0) := by decide +kernel
theorem j29_101 : ax_in 29 101 = some (.istore_n 3, 1, 0, 0) := by decide +kernel
theorem j29_102 : ax_in 29 102 = some (.iload_n 2, 1, 0, 0) := by decide +kernel
theorem j29_103 : ax_in 29 103 = some (.iconst (-1), 1, 0, 0) := by decide +kernel
theorem j29_104 : ax_in 29 104 = some (.if_icmp .eq 8, 3, 0, 0) := by decide +kernel
theorem j29_107 : ax_in 29 107 = some (.iload_n 3, 1, 0, 0) := by decide +kernel
theorem j29_108 : ax_in 29 108 = some (.iconst (-1), 1, 0, 0) := by decide +kernel
theorem j29_109 : ax_in 29 109 = some (.if_icmp .ne 5, 3, 0, 0) := by decide +kernel
theorem j29_112 : ax_in 29 112 = some (.iconst (-1), 1, 0, 0) := by decide +kernel
theorem j29_113 : ax_in 29 113 = some (.ireturn, 1, 0, 0) := by decide +kernel
theorem j29_114 : ax_in 29 114 = some (.aload_n 0, 1, 0, 0) := by decide +kernel
theorem j29_115 : ax_in 29 115 = some (.getfield 35, 3, 3, 3) := by decide +kernel
theorem j29_118 : ax_in 29 118 = some (.iload_n 2, 1, 0, 0) := by decide +kernel
theorem j29_119 : ax_in 29 119 = some (.iload_n 3, 1, 0, 0) := by decide +kernel
theorem j29_120 : ax_in 29 120 = some (.invokestatic 113, 3, 82, 2) := by decide +kernel
theorem j29_123 : ax_in 29 123 = some (.invokevirtual 141, 3, 21, 0) := by decide +kernel
theorem j29_126 : ax_in 29 126 = some (.iload_n 2, 1, 0, 0) := by decide +kernel
theorem j29_127 : ax_in 29 127 = some (.iload_n 3, 1, 0, 0) := by decide +kernel
theorem j29_128 : ax_in 29 128 = some (.invokestatic 113, 3, 82, 2) := by decide +kernel
theorem j29_131 : ax_in 29 131 = some (.ireturn, 1, 0, 0) := by decide +kernel
theorem j30_0 : ax_in 30 0 = some (.aload_n 0, 1, 0, 0) := by decide +kernel
theorem j30_1 : ax_in 30 1 = some (.iconst 4, 1, 0, 0) := by decide +kernel
theorem j30_2 : ax_in 30 2 = some (.invokevirtual 120, 3, 39, 0) := by decide +kernel
theorem j30_5 : ax_in 30 5 = some (.tableswitch 39 0 3 #[31, 33, 35, 37], 31, 0, 0) := by decide +kernel
theorem j30_36 : ax_in 30 36 = some (.iconst 4, 1, 0, 0) := by decide +kernel
theorem j30_37 : ax_in 30 37 = some (.ireturn, 1, 0, 0) := by decide +kernel
theorem j30_38 : ax_in 30 38 = some (.iconst 2, 1, 0, 0) := by decide +kernel
theorem j30_39 : ax_in 30 39 = some (.ireturn, 1, 0, 0) := by decide +kernel
theorem j30_40 : ax_in 30 40 = some (.iconst 1, 1, 0, 0) := by decide +kernel
theorem j30_41 : ax_in 30 41 = some (.ireturn, 1, 0, 0) := by decide +kernel
theorem j30_42 : ax_in 30 42 = some (.iconst 3, 1, 0, 0) := by decide +kernel
theorem j30_43 : ax_in 30 43 = some (.ireturn, 1, 0, 0) := by decide +kernel
theorem j30_44 : ax_in 30 44 = some (.iconst (-1), 1, 0, 0) := by decide +kernel
theorem j30_45 : ax_in 30 45 = some (.ireturn, 1, 0, 0) := by decide +kernel
theorem j31_0 : ax_in 31 0 = some (.aload_n 0, 1, 0, 0) := by decide +kernel
theorem j31_1 : ax_in 31 1 = some (.iconst 2, 1, 0, 0) := by decide +kernel
theorem j31_2 : ax_in 31 2 = some (.invokevirtual 120, 3, 39, 0) := by decide +kernel
theorem j31_5 : ax_in 31 5 = some (.lookupswitch 31 #[(0, 27), (1, 29)], 27, 0, 0) := by decide +kernel
theorem j31_32 : ax_in 31 32 = some (.iconst 1, 1, 0, 0) := by decide +kernel
theorem j31_33 : ax_in 31 33 = some (.ireturn, 1, 0, 0) := by decide +kernel
theorem j31_34 : ax_in 31 34 = some (.iconst 3, 1, 0, 0) := by decide +kernel
theorem j31_35 : ax_in 31 35 = some (.ireturn, 1, 0, 0) := by decide +kernel
theorem j31_36 : ax_in 31 36 = some (.iconst (-1), 1, 0, 0) := by decide +kernel
theorem j31_37 : ax_in 31 37 = some (.ireturn, 1, 0, 0) := by decide +kernel
theorem j32_0 : ax_in 32 0 = some (.aload_n 0, 1, 0, 0) := by decide +kernel
theorem j32_1 : ax_in 32 1 = some (.invokevirtual 144, 3, 33, 0) := by decide +kernel
theorem j32_4 : ax_in 32 4 = some (.istore_n 1, 1, 0, 0) := by decide +kernel
theorem j32_5 : ax_in 32 5 = some (.iload_n 1, 1, 0, 0) := by decide +kernel
theorem j32_6 : ax_in 32 6 = some (.iconst (-1), 1, 0, 0) := by decide +kernel
theorem j32_7 : ax_in 32 7 = some (.if_icmp .ne 5, 3, 0, 0) := by decide +kernel
theorem j32_10 : ax_in 32 10 = some (.iconst (-1), 1, 0, 0) := by decide +kernel
theorem j32_11 : ax_in 32 11 = some (.ireturn, 1, 0, 0) := by decide +kernel
theorem j32_12 : ax_in 32 12 = some (.aload_n 0, 1, 0, 0) := by decide +kernel
theorem j32_13 : ax_in 32 13 = some (.iload_n 1, 1, 0, 0) := by decide +kernel
theorem j32_14 : ax_in 32 14 = some (.invokevirtual 147, 3, 34, 0) := by decide +kernel
theorem j32_17 : ax_in 32 17 = some (.istore_n 2, 1, 0, 0) := by decide +kernel
theorem j32_18 : ax_in 32 18 = some (.iload_n 2, 1, 0, 0) := by decide +kernel
theorem j32_19 : ax_in 32 19 = some (.iconst (-1), 1, 0, 0) := by decide +kernel
theorem j32_20 : ax_in 32 20 = some (.if_icmp .ne 5, 3, 0, 0) := by decide +kernel
theorem j32_23 : ax_in 32 23 = some (.iconst (-1), 1, 0, 0) := by decide +kernel
theorem j32_24 : ax_in 32 24 = some (.ireturn, 1, 0, 0) := by decide +kernel
theorem j32_25 : ax_in 32 25 = some (.aload_n 0, 1, 0, 0) := by decide +kernel
theorem j32_26 : ax_in 32 26 = some (.getfield 28, 3, 3, 2) := by decide +kernel
theorem j32_29 : ax_in 32 29 = some (.aload_n 0, 1, 0, 0) := by decide +kernel
theorem j32_30 : ax_in 32 30 = some (.getfield 28, 3, 3, 2) := by decide +kernel
theorem j32_33 : ax_in 32 33 = some (.getfield 150, 3, 5, 0) := by decide +kernel
theorem j32_36 : ax_in 32 36 = some (.iconst 0, 1, 0, 0) := by decide +kernel
theorem j32_37 : ax_in 32 37 = some (.iload_n 1, 1, 0, 0) := by decide +kernel
theorem j32_38 : ax_in 32 38 = some (.invokevirtual 154, 3, 44, 0) := by decide +kernel
theorem j32_41 : ax_in 32 41 = some (.iload_n 2, 1, 0, 0) := by decide +kernel
theorem j32_42 : ax_in 32 42 = some (.invokevirtual 159, 3, 53, 0) := by decide +kernel
theorem j32_45 : ax_in 32 45 = some (.ireturn, 1, 0, 0) := by decide +kernel
theorem j33_0 : ax_in 33 0 = some (.aload_n 0, 1, 0, 0) := by decide +kernel
theorem j33_1 : ax_in 33 1 = some (.aload_n 0, 1, 0, 0) := by decide +kernel
theorem j33_2 : ax_in 33 2 = some (.getfield 28, 3, 3, 2) := by decide +kernel
theorem j33_5 : ax_in 33 5 = some (.getfield 150, 3, 5, 0) := by decide +kernel
theorem j33_8 : ax_in 33 8 = some (.iconst 0, 1, 0, 0) := by decide +kernel
theorem j33_9 : ax_in 33 9 = some (.invokevirtual 162, 3, 42, 0) := by decide +kernel
theorem j33_12 : ax_in 33 12 = some (.iconst 1, 1, 0, 0) := by decide +kernel
theorem j33_13 : ax_in 33 13 = some (.iadd, 1, 0, 0) := by decide +kernel
theorem j33_14 : ax_in 33 14 = some (.invokevirtual 120, 3, 39, 0) := by decide +kernel
theorem j33_17 : ax_in 33 17 = some (.istore_n 1, 1, 0, 0) := by decide +kernel
theorem j33_18 : ax_in 33 18 = some (.iload_n 1, 1, 0, 0) := by decide +kernel
theorem j33_19 : ax_in 33 19 = some (.ifCond .eq 16, 3, 0, 0) := by decide +kernel
theorem j33_22 : ax_in 33 22 = some (.iload_n 1, 1, 0, 0) := by decide +kernel
theorem j33_23 : ax_in 33 23 = some (.iconst (-1), 1, 0, 0) := by decide +kernel
theorem j33_24 : ax_in 33 24 = some (.if_icmp .ne 7, 3, 0, 0) := by decide +kernel
theorem j33_27 : ax_in 33 27 = some (.iconst (-1), 1, 0, 0) := by decide +kernel
theorem j33_28 : ax_in 33 28 = some (.goto 6, 3, 0, 0) := by decide +kernel
theorem j33_31 : ax_in 33 31 = some (.iload_n 1, 1, 0, 0) := by decide +kernel
theorem j33_32 : ax_in 33 32 = some (.iconst 1, 1, 0, 0) := by decide +kernel
theorem j33_33 : ax_in 33 33 = some (.isub, 1, 0, 0) := by decide +kernel
theorem j33_34 : ax_in 33 34 = some (.ireturn, 1, 0, 0) := by decide +kernel
theorem j33_35 : ax_in 33 35 = some (.aload_n 0, 1, 0, 0) := by decide +kernel
theorem j33_36 : ax_in 33 36 = some (.aload_n 0, 1, 0, 0) := by decide +kernel
theorem j33_37 : ax_in 33 37 = some (.invokevirtual 165, 3, 38, 0) := by decide +kernel
theorem j33_40 : ax_in 33 40 = some (.invokevirtual 168, 3, 37, 0) := by decide +kernel
theorem j33_43 : ax_in 33 43 = some (.istore_n 2, 1, 0, 0) := by decide +kernel
theorem j33_44 : ax_in 33 44 = some (.iload_n 2, 1, 0, 0) := by decide +kernel
theorem j33_45 : ax_in 33 45 = some (.iconst (-1), 1, 0, 0) := by decide +kernel
theorem j33_46 : ax_in 33 46 = some (.if_icmp .ne 7, 3, 0, 0) := by decide +kernel
theorem j33_49 : ax_in 33 49 = some (.iconst (-1), 1, 0, 0) := by decide +kernel
theorem j33_50 : ax_in 33 50 = some (.goto 11, 3, 0, 0) := by decide +kernel
theorem j33_53 : ax_in 33 53 = some (.aload_n 0, 1, 0, 0) := by decide +kernel
theorem j33_54 : ax_in 33 54 = some (.getfield 28, 3, 3, 2) := by decide +kernel
theorem j33_57 : ax_in 33 57 = some (.iload_n 2, 1, 0, 0) := by decide +kernel
theorem j33_58 : ax_in 33 58 = some (.invokevirtual 171, 3, 52, 0) := by decide +kernel
theorem j33_61 : ax_in 33 61 = some (.ireturn, 1, 0, 0) := by decide +kernel
theorem j34_0 : ax_in 34 0 = some (.aload_n 0, 1, 0, 0) := by decide +kernel
theorem j34_1 : ax_in 34 1 = some (.invokevirtual 165, 3, 38, 0) := by decide +kernel
theorem j34_4 : ax_in 34 4 = some (.istore_n 2, 1, 0, 0) := by decide +kernel
theorem j34_5 : ax_in 34 5 = some (.iload_n 2, 1, 0, 0) := by decide +kernel
theorem j34_6 : ax_in 34 6 = some (.ifCond .ne 16, 3, 0, 0) := by decide +kernel
theorem j34_9 : ax_in 34 9 = some (.aload_n 0, 1, 0, 0) := by decide +kernel
theorem j34_10 : ax_in 34 10 = some (.aload_n 0, 1, 0, 0) := by decide +kernel
theorem j34_11 : ax_in 34 11 = some (.getfield 28, 3, 3, 2) := by decide +kernel
theorem j34_14 : ax_in 34 14 = some (.getfield 174, 3, 5, 1) := by decide +kernel
theorem j34_17 : ax_in 34 17 = some (.iload_n 1, 1, 0, 0) := by decide +kernel
theorem j34_18 : ax_in 34 18 = some (.invokevirtual 177, 3, 36, 0) := by decide +kernel
theorem j34_21 : ax_in 34 21 = some (.ireturn, 1, 0, 0) := by decide +kernel
theorem j34_22 : ax_in 34 22 = some (.aload_n 0, 1, 0, 0) := by decide +kernel
theorem j34_23 : ax_in 34 23 = some (.iload_n 2, 1, 0, 0) := by decide +kernel
theorem j34_24 : ax_in 34 24 = some (.invokevirtual 168, 3, 37, 0) := by decide +kernel
theorem j34_27 : ax_in 34 27 = some (.istore_n 3, 1, 0, 0) := by decide +kernel
theorem j34_28 : ax_in 34 28 = some (.iload_n 3, 1, 0, 0) := by decide +kernel
theorem j34_29 : ax_in 34 29 = some (.iconst (-1), 1, 0, 0) := by decide +kernel
theorem j34_30 : ax_in 34 30 = some (.if_icmp .eq 17, 3, 0, 0) := by decide +kernel
theorem j34_33 : ax_in 34 33 = some (.aload_n 0, 1, 0, 0) := by decide +kernel
theorem j34_34 : ax_in 34 34 = some (.getfield 28, 3, 3, 2) := by decide +kernel
theorem j34_37 : ax_in 34 37 = some (.getfield 174, 3, 5, 1) := by decide +kernel
theorem j34_40 : ax_in 34 40 = some (.iload_n 1, 1, 0, 0) := by decide +kernel
theorem j34_41 : ax_in 34 41 = some (.invokevirtual 181, 3, 43, 0) := by decide +kernel
theorem j34_44 : ax_in 34 44 = some (.ifCond .eq 5, 3, 0, 0) := by decide +kernel
theorem j34_47 : ax_in 34 47 = some (.iconst (-1), 1, 0, 0) := by decide +kernel
theorem j34_48 : ax_in 34 48 = some (.ireturn, 1, 0, 0) := by decide +kernel
theorem j34_49 : ax_in 34 49 = some (.aload_n 0, 1, 0, 0) := by decide +kernel
theorem j34_50 : ax_in 34 50 = some (.getfield 28, 3, 3, 2) := by decide +kernel
theorem j34_53 : ax_in 34 53 = some (.getfield 174, 3, 5, 1) := by decide +kernel
theorem j34_56 : ax_in 34 56 = some (.iload_n 1, 1, 0, 0) := by decide +kernel
theorem j34_57 : ax_in 34 57 = some (.iload_n 3, 1, 0, 0) := by decide +kernel
theorem j34_58 : ax_in 34 58 = some (.invokevirtual 184, 3, 46, 0) := by decide +kernel
theorem j34_61 : ax_in 34 61 = some (.iload_n 3, 1, 0, 0) := by decide +kernel
theorem j34_62 : ax_in 34 62 = some (.ireturn, 1, 0, 0) := by decide +kernel
theorem j35_0 : ax_in 35 0 = some (.aload_n 0, 1, 0, 0) := by decide +kernel
theorem j35_1 : ax_in 35 1 = some (.invokevirtual 165, 3, 38, 0) := by decide +kernel
theorem j35_4 : ax_in 35 4 = some (.istore_n 2, 1, 0, 0) := by decide +kernel
theorem j35_5 : ax_in 35 5 = some (.iload_n 2, 1, 0, 0) := by decide +kernel
theorem j35_6 : ax_in 35 6 = some (.iconst (-1), 1, 0, 0) := by decide +kernel
theorem j35_7 : ax_in 35 7 = some (.if_icmp .ne 5, 3, 0, 0) := by decide +kernel
theorem j35_10 : ax_in 35 10 = some (.iconst (-1), 1, 0, 0) := by decide +kernel
theorem j35_11 : ax_in 35 11 = some (.ireturn, 1, 0, 0) := by decide +kernel
theorem j35_12 : ax_in 35 12 = some (.iload_n 2, 1, 0, 0) := by decide +kernel
theorem j35_13 : ax_in 35 13 = some (.ifCond .ne 16, 3, 0, 0) := by decide +kernel
theorem j35_16 : ax_in 35 16 = some (.aload_n 0, 1, 0, 0) := by decide +kernel
theorem j35_17 : ax_in 35 17 = some (.aload_n 0, 1, 0, 0) := by decide +kernel
theorem j35_18 : ax_in 35 18 = some (.getfield 28, 3, 3, 2) := by decide +kernel
theorem j35_21 : ax_in 35 21 = some (.getfield 188, 3, 5, 2) := by decide +kernel
theorem j35_24 : ax_in 35 24 = some (.iload_n 1, 1, 0, 0) := by decide +kernel
theorem j35_25 : ax_in 35 25 = some (.invokevirtual 177, 3, 36, 0) := by decide +kernel
theorem j35_28 : ax_in 35 28 = some (.ireturn, 1, 0, 0) := by decide +kernel
theorem j35_29 : ax_in 35 29 = some (.iload_n 2, 1, 0, 0) := by decide +kernel
theorem j35_30 : ax_in 35 30 = some (.iconst 1, 1, 0, 0) := by decide +kernel
theorem j35_31 : ax_in 35 31 = some (.if_icmp .ne 16, 3, 0, 0) := by decide +kernel
theorem j35_34 : ax_in 35 34 = some (.aload_n 0, 1, 0, 0) := by decide +kernel
theorem j35_35 : ax_in 35 35 = some (.aload_n 0, 1, 0, 0) := by decide +kernel
theorem j35_36 : ax_in 35 36 = some (.getfield 28, 3, 3, 2) := by decide +kernel
theorem j35_39 : ax_in 35 39 = some (.getfield 191, 3, 5, 3) := by decide +kernel
theorem j35_42 : ax_in 35 42 = some (.iconst 0, 1, 0, 0) := by decide +kernel
theorem j35_43 : ax_in 35 43 = some (.invokevirtual 177, 3, 36, 0) := by decide +kernel
theorem j35_46 : ax_in 35 46 = some (.ireturn, 1, 0, 0) := by decide +kernel
theorem j35_47 : ax_in 35 47 = some (.aload_n 0, 1, 0, 0) := by decide +kernel
theorem j35_48 : ax_in 35 48 = some (.iload_n 2, 1, 0, 0) := by decide +kernel
theorem j35_49 : ax_in 35 49 = some (.iconst 2, 1, 0, 0) := by decide +kernel
theorem j35_50 : ax_in 35 50 = some (.isub, 1, 0, 0) := by decide +kernel
theorem j35_51 : ax_in 35 51 = some (.invokevirtual 168, 3, 37, 0) := by decide +kernel
theorem j35_54 : ax_in 35 54 = some (.istore_n 3, 1, 0, 0) := by decide +kernel
theorem j35_55 : ax_in 35 55 = some (.iload_n 3, 1, 0, 0) := by decide +kernel
theorem j35_56 : ax_in 35 56 = some (.iconst (-1), 1, 0, 0) := by decide +kernel
theorem j35_57 : ax_in 35 57 = some (.if_icmp .eq 12, 3, 0, 0) := by decide +kernel
theorem j35_60 : ax_in 35 60 = some (.aload_n 0, 1, 0, 0) := by decide +kernel
theorem j35_61 : ax_in 35 61 = some (.getfield 28, 3, 3, 2) := by decide +kernel
theorem j35_64 : ax_in 35 64 = some (.iload_n 1, 1, 0, 0) := by decide +kernel
theorem j35_65 : ax_in 35 65 = some (.iload_n 3, 1, 0, 0) := by decide +kernel
theorem j35_66 : ax_in 35 66 = some (.invokevirtual 194, 3, 55, 0) := by decide +kernel
theorem j35_69 : ax_in 35 69 = some (.iload_n 3, 1, 0, 0) := by decide +kernel
theorem j35_70 : ax_in 35 70 = some (.ireturn, 1, 0, 0) := by decide +kernel
theorem j36_0 : ax_in 36 0 = some (.aload_n 1, 1, 0, 0) := by decide +kernel
theorem j36_1 : ax_in 36 1 = some (.iload_n 2, 1, 0, 0) := by decide +kernel
theorem j36_2 : ax_in 36 2 = some (.aload_n 0, 1, 0, 0) := by decide +kernel
theorem j36_3 : ax_in 36 3 = some (.aload_n 1, 1, 0, 0) := by decide +kernel
theorem j36_4 : ax_in 36 4 = some (.iload_n 2, 1, 0, 0) := by decide +kernel
theorem j36_5 : ax_in 36 5 = some (.invokevirtual 162, 3, 42, 0) := by decide +kernel
theorem j36_8 : ax_in 36 8 = some (.invokevirtual 120, 3, 39, 0) := by decide +kernel
theorem j36_11 : ax_in 36 11 = some (.invokevirtual 154, 3, 44, 0) := by decide +kernel
theorem j36_14 : ax_in 36 14 = some (.ireturn, 1, 0, 0) := by decide +kernel
theorem j37_0 : ax_in 37 0 = some (.iload_n 1, 1, 0, 0) := by decide +kernel
theorem j37_1 : ax_in 37 1 = some (.ifCond .lt 8, 3, 0, 0) := by decide +kernel
theorem j37_4 : ax_in 37 4 = some (.iload_n 1, 1, 0, 0) := by decide +kernel
theorem j37_5 : ax_in 37 5 = some (.iconst 5, 1, 0, 0) := by decide +kernel
theorem j37_6 : ax_in 37 6 = some (.if_icmp .le 5, 3, 0, 0) := by decide +kernel
theorem j37_9 : ax_in 37 9 = some (.iconst (-1), 1, 0, 0) := by decide +kernel
theorem j37_10 : ax_in 37 10 = some (.ireturn, 1, 0, 0) := by decide +kernel
theorem j37_11 : ax_in 37 11 = some (.iconst 0, 1, 0, 0) := by decide +kernel
theorem j37_12 : ax_in 37 12 = some (.istore_n 2, 1, 0, 0) := by decide +kernel
theorem j37_13 : ax_in 37 13 = some (.iconst 1, 1, 0, 0) := by decide +kernel
theorem j37_14 : ax_in 37 14 = some (.istore_n 3, 1, 0, 0) := by decide +kernel
theorem j37_15 : ax_in 37 15 = some (.iconst 0, 1, 0, 0) := by decide +kernel
theorem j37_16 : ax_in 37 16 = some (.istore 4, 2, 0, 0) := by decide +kernel
theorem j37_18 : ax_in 37 18 = some (.iload 4, 2, 0, 0) := by decide +kernel
theorem j37_20 : ax_in 37 20 = some (.iload_n 1, 1, 0, 0) := by decide +kernel
theorem j37_21 : ax_in 37 21 = some (.if_icmp .ge 42, 3, 0, 0) := by decide +kernel
theorem j37_24 : ax_in 37 24 = some (.aload_n 0, 1, 0, 0) := by decide +kernel
theorem j37_25 : ax_in 37 25 = some (.invokevirtual 165, 3, 38, 0) := by decide +kernel
theorem j37_28 : ax_in 37 28 = some (.istore 5, 2, 0, 0) := by decide +kernel
theorem j37_30 : ax_in 37 30 = some (.iload 5, 2, 0, 0) := by decide +kernel
theorem j37_32 : ax_in 37 32 = some (.iconst 1, 1, 0, 0) := by decide +kernel
theorem j37_33 : ax_in 37 33 = some (.if_icmp .lt 10, 3, 0, 0) := by decide +kernel
theorem j37_36 : ax_in 37 36 = some (.iload 5, 2, 0, 0) := by decide +kernel
theorem j37_38 : ax_in 37 38 = some (.bipush 27, 2, 0, 0) := by decide +kernel
theorem j37_40 : ax_in 37 40 = some (.if_icmp .lt 5, 3, 0, 0) := by decide +kernel
theorem j37_43 : ax_in 37 43 = some (.iconst (-1), 1, 0, 0) := by decide +kernel
theorem j37_44 : ax_in 37 44 = some (.ireturn, 1, 0, 0) := by decide +kernel
theorem j37_45 : ax_in 37 45 = some (.iload_n 2, 1, 0, 0) := by decide +kernel
theorem j37_46 : ax_in 37 46 = some (.iload 5, 2, 0, 0) := by decide +kernel
theorem j37_48 : ax_in 37 48 = some (.iload_n 3, 1, 0, 0) := by decide +kernel
theorem j37_49 : ax_in 37 49 = some (.imul, 1, 0, 0) := by decide +kernel
theorem j37_50 : ax_in 37 50 = some (.iadd, 1, 0, 0) := by decide +kernel
theorem j37_51 : ax_in 37 51 = some (.istore_n 2, 1, 0, 0) := by decide +kernel
theorem j37_52 : ax_in 37 52 = some (.iload_n 3, 1, 0, 0) := by decide +kernel
theorem j37_53 : ax_in 37 53 = some (.bipush 27, 2, 0, 0) := by decide +kernel
theorem j37_55 : ax_in 37 55 = some (.imul, 1, 0, 0) := by decide +kernel
theorem j37_56 : ax_in 37 56 = some (.istore_n 3, 1, 0, 0) := by decide +kernel
theorem j37_57 : ax_in 37 57 = some (.iinc 4 1, 3, 0, 0) := by decide +kernel
theorem j37_60 : ax_in 37 60 = some (.goto (-42), 3, 0, 0) := by decide +kernel
theorem j37_63 : ax_in 37 63 = some (.iload_n 2, 1, 0, 0) := by decide +kernel
theorem j37_64 : ax_in 37 64 = some (.ireturn, 1, 0, 0) := by decide +kernel
theorem j38_0 : ax_in 38 0 = some (.iconst 0, 1, 0, 0) := by decide +kernel
theorem j38_1 : ax_in 38 1 = some (.istore_n 1, 1, 0, 0) := by decide +kernel
theorem j38_2 : ax_in 38 2 = some (.iconst 1, 1, 0, 0) := by decide +kernel
theorem j38_3 : ax_in 38 3 = some (.istore_n 2, 1, 0, 0) := by decide +kernel
theorem j38_4 : ax_in 38 4 = some (.iconst 0, 1, 0, 0) := by decide +kernel
theorem j38_5 : ax_in 38 5 = some (.istore_n 3, 1, 0, 0) := by decide +kernel
theorem j38_6 : ax_in 38 6 = some (.iload_n 3, 1, 0, 0) := by decide +kernel
theorem j38_7 : ax_in 38 7 = some (.iconst 4, 1, 0, 0) := by decide +kernel
theorem j38_8 : ax_in 38 8 = some (.if_icmp .ge 48, 3, 0, 0) := by decide +kernel
theorem j38_11 : ax_in 38 11 = some (.aload_n 0, 1, 0, 0) := by decide +kernel
theorem j38_12 : ax_in 38 12 = some (.iconst 4, 1, 0, 0) := by decide +kernel
theorem j38_13 : ax_in 38 13 = some (.invokevirtual 197, 3, 40, 0) := by decide +kernel
theorem j38_16 : ax_in 38 16 = some (.istore 4, 2, 0, 0) := by decide +kernel
theorem j38_18 : ax_in 38 18 = some (.iload 4, 2, 0, 0) := by decide +kernel
theorem j38_20 : ax_in 38 20 = some (.iconst (-1), 1, 0, 0) := by decide +kernel
theorem j38_21 : ax_in 38 21 = some (.if_icmp .ne 5, 3, 0, 0) := by decide +kernel
theorem j38_24 : ax_in 38 24 = some (.iconst (-1), 1, 0, 0) := by decide +kernel
theorem j38_25 : ax_in 38 25 = some (.ireturn, 1, 0, 0) := by decide +kernel
theorem j38_26 : ax_in 38 26 = some (.iload_n 1, 1, 0, 0) := by decide +kernel
theorem j38_27 : ax_in 38 27 = some (.iload_n 2, 1, 0, 0) := by decide +kernel
theorem j38_28 : ax_in 38 28 = some (.iload 4, 2, 0, 0) := by decide +kernel
theorem j38_30 : ax_in 38 30 = some (.bipush 8, 2, 0, 0) := by decide +kernel
theorem j38_32 : ax_in 38 32 = some (.irem, 1, 0, 0) := by decide +kernel
theorem j38_33 : ax_in 38 33 = some (.imul, 1, 0, 0) := by decide +kernel
theorem j38_34 : ax_in 38 34 = some (.iadd, 1, 0, 0) := by decide +kernel
theorem j38_35 : ax_in 38 35 = some (.istore_n 1, 1, 0, 0) := by decide +kernel
theorem j38_36 : ax_in 38 36 = some (.iload_n 2, 1, 0, 0) := by decide +kernel
theorem j38_37 : ax_in 38 37 = some (.bipush 8, 2, 0, 0) := by decide +kernel
theorem j38_39 : ax_in 38 39 = some (.imul, 1, 0, 0) := by decide +kernel
theorem j38_40 : ax_in 38 40 = some (.istore_n 2, 1, 0, 0) := by decide +kernel
theorem j38_41 : ax_in 38 41 = some (.iload 4, 2, 0, 0) := by decide +kernel
theorem j38_43 : ax_in 38 43 = some (.bipush 8, 2, 0, 0) := by decide +kernel
theorem j38_45 : ax_in 38 45 = some (.if_icmp .ge 5, 3, 0, 0) := by decide +kernel
theorem j38_48 : ax_in 38 48 = some (.iload_n 1, 1, 0, 0) := by decide +kernel
theorem j38_49 : ax_in 38 49 = some (.ireturn, 1, 0, 0) := by decide +kernel
theorem j38_50 : ax_in 38 50 = some (.iinc 3 1, 3, 0, 0) := by decide +kernel
theorem j38_53 : ax_in 38 53 = some (.goto (-47), 3, 0, 0) := by decide +kernel
theorem j38_56 : ax_in 38 56 = some (.iconst (-1), 1, 0, 0) := by decide +kernel
theorem j38_57 : ax_in 38 57 = some (.ireturn, 1, 0, 0) := by decide +kernel
theorem j39_0 : ax_in 39 0 = some (.aload_n 0, 1, 0, 0) := by decide +kernel
theorem j39_1 : ax_in 39 1 = some (.iload_n 1, 1, 0, 0) := by decide +kernel
theorem j39_2 : ax_in 39 2 = some (.invokestatic 200, 3, 80, 2) := by decide +kernel
theorem j39_5 : ax_in 39 5 = some (.invokevirtual 197, 3, 40, 0) := by decide +kernel
theorem j39_8 : ax_in 39 8 = some (.istore_n 2, 1, 0, 0) := by decide +kernel
theorem j39_9 : ax_in 39 9 = some (.iload_n 2, 1, 0, 0) := by decide +kernel
theorem j39_10 : ax_in 39 10 = some (.iload_n 1, 1, 0, 0) := by decide +kernel
theorem j39_11 : ax_in 39 11 = some (.if_icmp .ge 7, 3, 0, 0) := by decide +kernel
theorem j39_14 : ax_in 39 14 = some (.iload_n 2, 1, 0, 0) := by decide +kernel
theorem j39_15 : ax_in 39 15 = some (.goto 4, 3, 0, 0) := by decide +kernel
theorem j39_18 : ax_in 39 18 = some (.iconst (-1), 1, 0, 0) := by decide +kernel
theorem j39_19 : ax_in 39 19 = some (.ireturn, 1, 0, 0) := by decide +kernel
theorem j40_0 : ax_in 40 0 = some (.iconst 0, 1, 0, 0) := by decide +kernel
theorem j40_1 : ax_in 40 1 = some (.istore_n 2, 1, 0, 0) := by decide +kernel
theorem j40_2 : ax_in 40 2 = some (.iconst 0, 1, 0, 0) := by decide +kernel
theorem j40_3 : ax_in 40 3 = some (.istore_n 3, 1, 0, 0) := by decide +kernel
theorem j40_4 : ax_in 40 4 = some (.iload_n 3, 1, 0, 0) := by decide +kernel
theorem j40_5 : ax_in 40 5 = some (.iload_n 1, 1, 0, 0) := by decide +kernel
theorem j40_6 : ax_in 40 6 = some (.if_icmp .ge 67, 3, 0, 0) := by decide +kernel
theorem j40_9 : ax_in 40 9 = some (.aload_n 0, 1, 0, 0) := by decide +kernel
theorem j40_10 : ax_in 40 10 = some (.getfield 39, 3, 3, 4) := by decide +kernel
theorem j40_13 : ax_in 40 13 = some (.aload_n 0, 1, 0, 0) := by decide +kernel
theorem j40_14 : ax_in 40 14 = some (.getfield 12, 3, 3, 0) := by decide +kernel
theorem j40_17 : ax_in 40 17 = some (.getfield 203, 3, 0, 1) := by decide +kernel
theorem j40_20 : ax_in 40 20 = some (.if_icmp .ge 18, 3, 0, 0) := by decide +kernel
theorem j40_23 : ax_in 40 23 = some (.aload_n 0, 1, 0, 0) := by decide +kernel
theorem j40_24 : ax_in 40 24 = some (.getfield 39, 3, 3, 4) := by decide +kernel
theorem j40_27 : ax_in 40 27 = some (.aload_n 0, 1, 0, 0) := by decide +kernel
theorem j40_28 : ax_in 40 28 = some (.getfield 12, 3, 3, 0) := by decide +kernel
theorem j40_31 : ax_in 40 31 = some (.getfield 206, 3, 0, 0) := by decide +kernel
theorem j40_34 : ax_in 40 34 = some (.arraylength, 1, 0, 0) := by decide +kernel
theorem j40_35 : ax_in 40 35 = some (.if_icmp .lt 5, 3, 0, 0) := by decide +kernel
theorem j40_38 : ax_in 40 38 = some (.iconst (-1), 1, 0, 0) := by decide +kernel
theorem j40_39 : ax_in 40 39 = some (.ireturn, 1, 0, 0) := by decide +kernel
theorem j40_40 : ax_in 40 40 = some (.iload_n 2, 1, 0, 0) := by decide +kernel
theorem j40_41 : ax_in 40 41 = some (.iconst 2, 1, 0, 0) := by decide +kernel
theorem j40_42 : ax_in 40 42 = some (.imul, 1, 0, 0) := by decide +kernel
theorem j40_43 : ax_in 40 43 = some (.aload_n 0, 1, 0, 0) := by decide +kernel
theorem j40_44 : ax_in 40 44 = some (.getfield 12, 3, 3, 0) := by decide +kernel
theorem j40_47 : ax_in 40 47 = some (.getfield 206, 3, 0, 0) := by decide +kernel
theorem j40_50 : ax_in 40 50 = some (.aload_n 0, 1, 0, 0) := by decide +kernel
theorem j40_51 : ax_in 40 51 = some (.getfield 39, 3, 3, 4) := by decide +kernel
theorem j40_54 : ax_in 40 54 = some (.iaload, 1, 0, 0) := by decide +kernel
theorem j40_55 : ax_in 40 55 = some (.iadd, 1, 0, 0) := by decide +kernel
theorem j40_56 : ax_in 40 56 = some (.istore_n 2, 1, 0, 0) := by decide +kernel
theorem j40_57 : ax_in 40 57 = some (.aload_n 0, 1, 0, 0) := by decide +kernel
theorem j40_58 : ax_in 40 58 = some (.dup, 1, 0, 0) := by decide +kernel
theorem j40_59 : ax_in 40 59 = some (.getfield 39, 3, 3, 4) := by decide +kernel
theorem j40_62 : ax_in 40 62 = some (.iconst 1, 1, 0, 0) := by decide +kernel
theorem j40_63 : ax_in 40 63 = some (.iadd, 1, 0, 0) := by decide +kernel
theorem j40_64 : ax_in 40 64 = some (.putfield 39, 3, 3, 4) := by decide +kernel
theorem j40_67 : ax_in 40 67 = some (.iinc 3 1, 3, 0, 0) := by decide +kernel
theorem j40_70 : ax_in 40 70 = some (.goto (-66), 3, 0, 0) := by decide +kernel
theorem j40_73 : ax_in 40 73 = some (.iload_n 2, 1, 0, 0) := by decide +kernel
theorem j40_74 : ax_in 40 74 = some (.ireturn, 1, 0, 0) := by decide +kernel
theorem j41_0 : ax_in 41 0 = some (.iconst 0, 1, 0, 0) := by decide +kernel
theorem j41_1 : ax_in 41 1 = some (.istore_n 1, 1, 0, 0) := by decide +kernel
theorem j41_2 : ax_in 41 2 = some (.iload_n 1, 1, 0, 0) := by decide +kernel
theorem j41_3 : ax_in 41 3 = some (.aload_n 0, 1, 0, 0) := by decide +kernel
theorem j41_4 : ax_in 41 4 = some (.getfield 16, 3, 4, 1) := by decide +kernel
theorem j41_7 : ax_in 41 7 = some (.arraylength, 1, 0, 0) := by decide +kernel
theorem j41_8 : ax_in 41 8 = some (.if_icmp .ge 16, 3, 0, 0) := by decide +kernel
theorem j41_11 : ax_in 41 11 = some (.aload_n 0, 1, 0, 0) := by decide +kernel
theorem j41_12 : ax_in 41 12 = some (.getfield 16, 3, 4, 1) := by decide +kernel
theorem j41_15 : ax_in 41 15 = some (.iload_n 1, 1, 0, 0) := by decide +kernel
theorem j41_16 : ax_in 41 16 = some (.iconst 0, 1, 0, 0) := by decide +kernel
theorem j41_17 : ax_in 41 17 = some (.iastore, 1, 0, 0) := by decide +kernel
theorem j41_18 : ax_in 41 18 = some (.iinc 1 1, 3, 0, 0) := by decide +kernel
theorem j41_21 : ax_in 41 21 = some (.goto (-19), 3, 0, 0) := by decide +kernel
theorem j41_24 : ax_in 41 24 = some (.return_, 1, 0, 0) := by decide +kernel
theorem j42_0 : ax_in 42 0 = some (.iload_n 1, 1, 0, 0) := by decide +kernel
theorem j42_1 : ax_in 42 1 = some (.ifCond .lt 21, 3, 0, 0) := by decide +kernel
theorem j42_4 : ax_in 42 4 = some (.iload_n 1, 1, 0, 0) := by decide +kernel
theorem j42_5 : ax_in 42 5 = some (.aload_n 0, 1, 0, 0) := by decide +kernel
theorem j42_6 : ax_in 42 6 = some (.getfield 16, 3, 4, 1) := by decide +kernel
theorem j42_9 : ax_in 42 9 = some (.arraylength, 1, 0, 0) := by decide +kernel
theorem j42_10 : ax_in 42 10 = some (.if_icmp .ge 12, 3, 0, 0) := by decide +kernel
theorem j42_13 : ax_in 42 13 = some (.aload_n 0, 1, 0, 0) := by decide +kernel
theorem j42_14 : ax_in 42 14 = some (.getfield 16, 3, 4, 1) := by decide +kernel
theorem j42_17 : ax_in 42 17 = some (.iload_n 1, 1, 0, 0) := by decide +kernel
theorem j42_18 : ax_in 42 18 = some (.iaload, 1, 0, 0) := by decide +kernel
theorem j42_19 : ax_in 42 19 = some (.goto 4, 3, 0, 0) := by decide +kernel
theorem j42_22 : ax_in 42 22 = some (.iconst 0, 1, 0, 0) := by decide +kernel
theorem j42_23 : ax_in 42 23 = some (.ireturn, 1, 0, 0) := by decide +kernel
theorem j43_0 : ax_in 43 0 = some (.aload_n 0, 1, 0, 0) := by decide +kernel
theorem j43_1 : ax_in 43 1 = some (.iload_n 1, 1, 0, 0) := by decide +kernel
theorem j43_2 : ax_in 43 2 = some (.invokevirtual 24, 3, 42, 0) := by decide +kernel
theorem j43_5 : ax_in 43 5 = some (.aload_n 0, 1, 0, 0) := by decide +kernel
theorem j43_6 : ax_in 43 6 = some (.getfield 20, 3, 4, 2) := by decide +kernel
theorem j43_9 : ax_in 43 9 = some (.if_icmp .lt 7, 3, 0, 0) := by decide +kernel
theorem j43_12 : ax_in 43 12 = some (.iconst 1, 1, 0, 0) := by decide +kernel
theorem j43_13 : ax_in 43 13 = some (.goto 4, 3, 0, 0) := by decide +kernel
theorem j43_16 : ax_in 43 16 = some (.iconst 0, 1, 0, 0) := by decide +kernel
theorem j43_17 : ax_in 43 17 = some (.ireturn, 1, 0, 0) := by decide +kernel
theorem j44_0 : ax_in 44 0 = some (.iload_n 2, 1, 0, 0) := by decide +kernel
theorem j44_1 : ax_in 44 1 = some (.ifCond .lt 23, 3, 0, 0) := by decide +kernel
theorem j44_4 : ax_in 44 4 = some (.iload_n 2, 1, 0, 0) := by decide +kernel
theorem j44_5 : ax_in 44 5 = some (.aload_n 0, 1, 0, 0) := by decide +kernel
theorem j44_6 : ax_in 44 6 = some (.iload_n 1, 1, 0, 0) := by decide +kernel
theorem j44_7 : ax_in 44 7 = some (.invokevirtual 24, 3, 42, 0) := by decide +kernel
theorem j44_10 : ax_in 44 10 = some (.if_icmp .ge 14, 3, 0, 0) := by decide +kernel
theorem j44_13 : ax_in 44 13 = some (.aload_n 0, 1, 0, 0) := by decide +kernel
theorem j44_14 : ax_in 44 14 = some (.getfield 11, 3, 4, 0) := by decide +kernel
theorem j44_17 : ax_in 44 17 = some (.iload_n 1, 1, 0, 0) := by decide +kernel
theorem j44_18 : ax_in 44 18 = some (.aaload, 1, 0, 0) := by decide +kernel
theorem j44_19 : ax_in 44 19 = some (.iload_n 2, 1, 0, 0) := by decide +kernel
theorem j44_20 : ax_in 44 20 = some (.iaload, 1, 0, 0) := by decide +kernel
theorem j44_21 : ax_in 44 21 = some (.goto 4, 3, 0, 0) := by decide +kernel
theorem j44_24 : ax_in 44 24 = some (.iconst (-1), 1, 0, 0) := by decide +kernel
theorem j44_25 : ax_in 44 25 = some (.ireturn, 1, 0, 0) := by decide +kernel
theorem j45_0 : ax_in 45 0 = some (.aload_n 0, 1, 0, 0) := by decide +kernel
theorem j45_1 : ax_in 45 1 = some (.iload_n 1, 1, 0, 0) := by decide +kernel
theorem j45_2 : ax_in 45 2 = some (.invokevirtual 24, 3, 42, 0) := by decide +kernel
theorem j45_5 : ax_in 45 5 = some (.istore_n 3, 1, 0, 0) := by decide +kernel
theorem j45_6 : ax_in 45 6 = some (.iconst 0, 1, 0, 0) := by decide +kernel
theorem j45_7 : ax_in 45 7 = some (.istore 4, 2, 0, 0) := by decide +kernel
theorem j45_9 : ax_in 45 9 = some (.iload 4, 2, 0, 0) := by decide +kernel
theorem j45_11 : ax_in 45 11 = some (.iload_n 3, 1, 0, 0) := by decide +kernel
theorem j45_12 : ax_in 45 12 = some (.if_icmp .ge 25, 3, 0, 0) := by decide +kernel
theorem j45_15 : ax_in 45 15 = some (.aload_n 0, 1, 0, 0) := by decide +kernel
theorem j45_16 : ax_in 45 16 = some (.getfield 11, 3, 4, 0) := by decide +kernel
theorem j45_19 : ax_in 45 19 = some (.iload_n 1, 1, 0, 0) := by decide +kernel
theorem j45_20 : ax_in 45 20 = some (.aaload, 1, 0, 0) := by decide +kernel
theorem j45_21 : ax_in 45 21 = some (.iload 4, 2, 0, 0) := by decide +kernel
theorem j45_23 : ax_in 45 23 = some (.iaload, 1, 0, 0) := by decide +kernel
theorem j45_24 : ax_in 45 24 = some (.iload_n 2, 1, 0, 0) := by decide +kernel
theorem j45_25 : ax_in 45 25 = some (.if_icmp .ne 6, 3, 0, 0) := by decide +kernel
theorem j45_28 : ax_in 45 28 = some (.iload 4, 2, 0, 0) := by decide +kernel
theorem j45_30 : ax_in 45 30 = some (.ireturn, 1, 0, 0) := by decide +kernel
theorem j45_31 : ax_in 45 31 = some (.iinc 4 1, 3, 0, 0) := by decide +kernel
theorem j45_34 : ax_in 45 34 = some (.goto (-25), 3, 0, 0) := by decide +kernel
theorem j45_37 : ax_in 45 37 = some (.iconst (-1), 1, 0, 0) := by decide +kernel
theorem j45_38 : ax_in 45 38 = some (.ireturn, 1, 0, 0) := by decide +kernel
theorem j46_0 : ax_in 46 0 = some (.iload_n 1, 1, 0, 0) := by decide +kernel
theorem j46_1 : ax_in 46 1 = some (.ifCond .lt 49, 3, 0, 0) := by decide +kernel
theorem j46_4 : ax_in 46 4 = some (.iload_n 1, 1, 0, 0) := by decide +kernel
theorem j46_5 : ax_in 46 5 = some (.aload_n 0, 1, 0, 0) := by decide +kernel
theorem j46_6 : ax_in 46 6 = some (.getfield 16, 3, 4, 1) := by decide +kernel
theorem j46_9 : ax_in 46 9 = some (.arraylength, 1, 0, 0) := by decide +kernel
theorem j46_10 : ax_in 46 10 = some (.if_icmp .ge 40, 3, 0, 0) := by decide +kernel
theorem j46_13 : ax_in 46 13 = some (.aload_n 0, 1, 0, 0) := by decide +kernel
theorem j46_14 : ax_in 46 14 = some (.getfield 16, 3, 4, 1) := by decide +kernel
theorem j46_17 : ax_in 46 17 = some (.iload_n 1, 1, 0, 0) := by decide +kernel
theorem j46_18 : ax_in 46 18 = some (.iaload, 1, 0, 0) := by decide +kernel
theorem j46_19 : ax_in 46 19 = some (.aload_n 0, 1, 0, 0) := by decide +kernel
theorem j46_20 : ax_in 46 20 = some (.getfield 20, 3, 4, 2) := by decide +kernel
theorem j46_23 : ax_in 46 23 = some (.if_icmp .ge 27, 3, 0, 0) := by decide +kernel
theorem j46_26 : ax_in 46 26 = some (.aload_n 0, 1, 0, 0) := by decide +kernel
theorem j46_27 : ax_in 46 27 = some (.getfield 11, 3, 4, 0) := by decide +kernel
theorem j46_30 : ax_in 46 30 = some (.iload_n 1, 1, 0, 0) := by decide +kernel
theorem j46_31 : ax_in 46 31 = some (.aaload, 1, 0, 0) := by decide +kernel
theorem j46_32 : ax_in 46 32 = some (.aload_n 0, 1, 0, 0) := by decide +kernel
theorem j46_33 : ax_in 46 33 = some (.getfield 16, 3, 4, 1) := by decide +kernel
theorem j46_36 : ax_in 46 36 = some (.iload_n 1, 1, 0, 0) := by decide +kernel
theorem j46_37 : ax_in 46 37 = some (.iaload, 1, 0, 0) := by decide +kernel
theorem j46_38 : ax_in 46 38 = some (.iload_n 2, 1, 0, 0) := by decide +kernel
theorem j46_39 : ax_in 46 39 = some (.iastore, 1, 0, 0) := by decide +kernel
theorem j46_40 : ax_in 46 40 = some (.aload_n 0, 1, 0, 0) := by decide +kernel
theorem j46_41 : ax_in 46 41 = some (.getfield 16, 3, 4, 1) := by decide +kernel
theorem j46_44 : ax_in 46 44 = some (.iload_n 1, 1, 0, 0) := by decide +kernel
theorem j46_45 : ax_in 46 45 = some (.dup2, 1, 0, 0) := by decide +kernel
theorem j46_46 : ax_in 46 46 = some (.iaload, 1, 0, 0) := by decide +kernel
theorem j46_47 : ax_in 46 47 = some (.iconst 1, 1, 0, 0) := by decide +kernel
theorem j46_48 : ax_in 46 48 = some (.iadd, 1, 0, 0) := by decide +kernel
theorem j46_49 : ax_in 46 49 = some (.iastore, 1, 0, 0) := by decide +kernel
theorem j46_50 : ax_in 46 50 = some (.return_, 1, 0, 0) := by decide +kernel
theorem j47_0 : ax_in 47 0 = some (.iload_n 1, 1, 0, 0) := by decide +kernel
theorem j47_1 : ax_in 47 1 = some (.ifCond .lt 79, 3, 0, 0) := by decide +kernel
theorem j47_4 : ax_in 47 4 = some (.iload_n 1, 1, 0, 0) := by decide +kernel
theorem j47_5 : ax_in 47 5 = some (.aload_n 0, 1, 0, 0) := by decide +kernel
theorem j47_6 : ax_in 47 6 = some (.getfield 16, 3, 4, 1) := by decide +kernel
theorem j47_9 : ax_in 47 9 = some (.arraylength, 1, 0, 0) := by decide +kernel
theorem j47_10 : ax_in 47 10 = some (.if_icmp .ge 70, 3, 0, 0) := by decide +kernel
theorem j47_13 : ax_in 47 13 = some (.aload_n 0, 1, 0, 0) := by decide +kernel
theorem j47_14 : ax_in 47 14 = some (.getfield 16, 3, 4, 1) := by decide +kernel
theorem j47_17 : ax_in 47 17 = some (.iload_n 1, 1, 0, 0) := by decide +kernel
theorem j47_18 : ax_in 47 18 = some (.iaload, 1, 0, 0) := by decide +kernel
theorem j47_19 : ax_in 47 19 = some (.aload_n 0, 1, 0, 0) := by decide +kernel
theorem j47_20 : ax_in 47 20 = some (.getfield 20, 3, 4, 2) := by decide +kernel
theorem j47_23 : ax_in 47 23 = some (.if_icmp .ge 57, 3, 0, 0) := by decide +kernel
theorem j47_26 : ax_in 47 26 = some (.aload_n 0, 1, 0, 0) := by decide +kernel
theorem j47_27 : ax_in 47 27 = some (.getfield 16, 3, 4, 1) := by decide +kernel
theorem j47_30 : ax_in 47 30 = some (.iload_n 1, 1, 0, 0) := by decide +kernel
theorem j47_31 : ax_in 47 31 = some (.iaload, 1, 0, 0) := by decide +kernel
theorem j47_32 : ax_in 47 32 = some (.istore_n 3, 1, 0, 0) := by decide +kernel
theorem j47_33 : ax_in 47 33 = some (.iload_n 3, 1, 0, 0) := by decide +kernel
theorem j47_34 : ax_in 47 34 = some (.ifCond .le 27, 3, 0, 0) := by decide +kernel
theorem j47_37 : ax_in 47 37 = some (.aload_n 0, 1, 0, 0) := by decide +kernel
theorem j47_38 : ax_in 47 38 = some (.getfield 11, 3, 4, 0) := by decide +kernel
theorem j47_41 : ax_in 47 41 = some (.iload_n 1, 1, 0, 0) := by decide +kernel
theorem j47_42 : ax_in 47 42 = some (.aaload, 1, 0, 0) := by decide +kernel
theorem j47_43 : ax_in 47 43 = some (.iload_n 3, 1, 0, 0) := by decide +kernel
theorem j47_44 : ax_in 47 44 = some (.aload_n 0, 1, 0, 0) := by decide +kernel
theorem j47_45 : ax_in 47 45 = some (.getfield 11, 3, 4, 0) := by decide +kernel
theorem j47_48 : ax_in 47 48 = some (.iload_n 1, 1, 0, 0) := by decide +kernel
theorem j47_49 : ax_in 47 49 = some (.aaload, 1, 0, 0) := by decide +kernel
theorem j47_50 : ax_in 47 50 = some (.iload_n 3, 1, 0, 0) := by decide +kernel
theorem j47_51 : ax_in 47 51 = some (.iconst 1, 1, 0, 0) := by decide +kernel
theorem j47_52 : ax_in 47 52 = some (.isub, 1, 0, 0) := by decide +kernel
theorem j47_53 : ax_in 47 53 = some (.iaload, 1, 0, 0) := by decide +kernel
theorem j47_54 : ax_in 47 54 = some (.iastore, 1, 0, 0) := by decide +kernel
theorem j47_55 : ax_in 47 55 = some (.iinc 3 (-1), 3, 0, 0) := by decide +kernel
theorem j47_58 : ax_in 47 58 = some (.goto (-25), 3, 0, 0) := by decide +kernel
theorem j47_61 : ax_in 47 61 = some (.aload_n 0, 1, 0, 0) := by decide +kernel
theorem j47_62 : ax_in 47 62 = some (.getfield 11, 3, 4, 0) := by decide +kernel
theorem j47_65 : ax_in 47 65 = some (.iload_n 1, 1, 0, 0) := by decide +kernel
theorem j47_66 : ax_in 47 66 = some (.aaload, 1, 0, 0) := by decide +kernel
theorem j47_67 : ax_in 47 67 = some (.iconst 0, 1, 0, 0) := by decide +kernel
theorem j47_68 : ax_in 47 68 = some (.iload_n 2, 1, 0, 0) := by decide +kernel
theorem j47_69 : ax_in 47 69 = some (.iastore, 1, 0, 0) := by decide +kernel
theorem j47_70 : ax_in 47 70 = some (.aload_n 0, 1, 0, 0) := by decide +kernel
theorem j47_71 : ax_in 47 71 = some (.getfield 16, 3, 4, 1) := by decide +kernel
theorem j47_74 : ax_in 47 74 = some (.iload_n 1, 1, 0, 0) := by decide +kernel
theorem j47_75 : ax_in 47 75 = some (.dup2, 1, 0, 0) := by decide +kernel
theorem j47_76 : ax_in 47 76 = some (.iaload, 1, 0, 0) := by decide +kernel
theorem j47_77 : ax_in 47 77 = some (.iconst 1, 1, 0, 0) := by decide +kernel
theorem j47_78 : ax_in 47 78 = some (.iadd, 1, 0, 0) := by decide +kernel
theorem j47_79 : ax_in 47 79 = some (.iastore, 1, 0, 0) := by decide +kernel
theorem j47_80 : ax_in 47 80 = some (.return_, 1, 0, 0) := by decide +kernel
theorem j48_0 : ax_in 48 0 = some (.aload_n 0, 1, 0, 0) := by decide +kernel
theorem j48_1 : ax_in 48 1 = some (.getfield 14, 3, 5, 0) := by decide +kernel
theorem j48_4 : ax_in 48 4 = some (.invokevirtual 35, 3, 41, 0) := by decide +kernel
theorem j48_7 : ax_in 48 7 = some (.aload_n 0, 1, 0, 0) := by decide +kernel
theorem j48_8 : ax_in 48 8 = some (.getfield 14, 3, 5, 0) := by decide +kernel
theorem j48_11 : ax_in 48 11 = some (.iconst 0, 1, 0, 0) := by decide +kernel
theorem j48_12 : ax_in 48 12 = some (.iconst 0, 1, 0, 0) := by decide +kernel
theorem j48_13 : ax_in 48 13 = some (.invokevirtual 38, 3, 46, 0) := by decide +kernel
theorem j48_16 : ax_in 48 16 = some (.aload_n 0, 1, 0, 0) := by decide +kernel
theorem j48_17 : ax_in 48 17 = some (.getfield 20, 3, 5, 1) := by decide +kernel
theorem j48_20 : ax_in 48 20 = some (.invokevirtual 35, 3, 41, 0) := by decide +kernel
theorem j48_23 : ax_in 48 23 = some (.aload_n 0, 1, 0, 0) := by decide +kernel
theorem j48_24 : ax_in 48 24 = some (.getfield 23, 3, 5, 2) := by decide +kernel
theorem j48_27 : ax_in 48 27 = some (.invokevirtual 35, 3, 41, 0) := by decide +kernel
theorem j48_30 : ax_in 48 30 = some (.aload_n 0, 1, 0, 0) := by decide +kernel
theorem j48_31 : ax_in 48 31 = some (.getfield 26, 3, 5, 3) := by decide +kernel
theorem j48_34 : ax_in 48 34 = some (.invokevirtual 35, 3, 41, 0) := by decide +kernel
theorem j48_37 : ax_in 48 37 = some (.aload_n 0, 1, 0, 0) := by decide +kernel
theorem j48_38 : ax_in 48 38 = some (.getfield 29, 3, 5, 4) := by decide +kernel
theorem j48_41 : ax_in 48 41 = some (.invokevirtual 35, 3, 41, 0) := by decide +kernel
theorem j48_44 : ax_in 48 44 = some (.aload_n 0, 1, 0, 0) := by decide +kernel
theorem j48_45 : ax_in 48 45 = some (.getfield 32, 3, 5, 5) := by decide +kernel
theorem j48_48 : ax_in 48 48 = some (.invokevirtual 35, 3, 41, 0) := by decide +kernel
theorem j48_51 : ax_in 48 51 = some (.return_, 1, 0, 0) := by decide +kernel
theorem j49_0 : ax_in 49 0 = some (.aload_n 0, 1, 0, 0) := by decide +kernel
theorem j49_1 : ax_in 49 1 = some (.getfield 29, 3, 5, 4) := by decide +kernel
theorem j49_4 : ax_in 49 4 = some (.iconst 0, 1, 0, 0) := by decide +kernel
theorem j49_5 : ax_in 49 5 = some (.iload_n 1, 1, 0, 0) := by decide +kernel
theorem j49_6 : ax_in 49 6 = some (.invokevirtual 41, 3, 44, 0) := by decide +kernel
theorem j49_9 : ax_in 49 9 = some (.ireturn, 1, 0, 0) := by decide +kernel
theorem j50_0 : ax_in 50 0 = some (.aload_n 0, 1, 0, 0) := by decide +kernel
theorem j50_1 : ax_in 50 1 = some (.getfield 32, 3, 5, 5) := by decide +kernel
theorem j50_4 : ax_in 50 4 = some (.iconst 0, 1, 0, 0) := by decide +kernel
theorem j50_5 : ax_in 50 5 = some (.iload_n 1, 1, 0, 0) := by decide +kernel
theorem j50_6 : ax_in 50 6 = some (.invokevirtual 41, 3, 44, 0) := by decide +kernel
theorem j50_9 : ax_in 50 9 = some (.ireturn, 1, 0, 0) := by decide +kernel
theorem j51_0 : ax_in 51 0 = some (.aload_n 0, 1, 0, 0) := by decide +kernel
theorem j51_1 : ax_in 51 1 = some (.getfield 29, 3, 5, 4) := by decide +kernel
theorem j51_4 : ax_in 51 4 = some (.iconst 0, 1, 0, 0) := by decide +kernel
theorem j51_5 : ax_in 51 5 = some (.invokevirtual 45, 3, 42, 0) := by decide +kernel
theorem j51_8 : ax_in 51 8 = some (.istore_n 3, 1, 0, 0) := by decide +kernel
theorem j51_9 : ax_in 51 9 = some (.iconst 0, 1, 0, 0) := by decide +kernel
theorem j51_10 : ax_in 51 10 = some (.istore 4, 2, 0, 0) := by decide +kernel
theorem j51_12 : ax_in 51 12 = some (.iload 4, 2, 0, 0) := by decide +kernel
theorem j51_14 : ax_in 51 14 = some (.iload_n 3, 1, 0, 0) := by decide +kernel
theorem j51_15 : ax_in 51 15 = some (.if_icmp .ge 40, 3, 0, 0) := by decide +kernel
theorem j51_18 : ax_in 51 18 = some (.aload_n 0, 1, 0, 0) := by decide +kernel
theorem j51_19 : ax_in 51 19 = some (.getfield 29, 3, 5, 4) := by decide +kernel
theorem j51_22 : ax_in 51 22 = some (.iconst 0, 1, 0, 0) := by decide +kernel
theorem j51_23 : ax_in 51 23 = some (.iload 4, 2, 0, 0) := by decide +kernel
theorem j51_25 : ax_in 51 25 = some (.invokevirtual 41, 3, 44, 0) := by decide +kernel
theorem j51_28 : ax_in 51 28 = some (.iload_n 1, 1, 0, 0) := by decide +kernel
theorem j51_29 : ax_in 51 29 = some (.if_icmp .ne 20, 3, 0, 0) := by decide +kernel
theorem j51_32 : ax_in 51 32 = some (.aload_n 0, 1, 0, 0) := by decide +kernel
theorem j51_33 : ax_in 51 33 = some (.getfield 32, 3, 5, 5) := by decide +kernel
theorem j51_36 : ax_in 51 36 = some (.iconst 0, 1, 0, 0) := by decide +kernel
theorem j51_37 : ax_in 51 37 = some (.iload 4, 2, 0, 0) := by decide +kernel
theorem j51_39 : ax_in 51 39 = some (.invokevirtual 41, 3, 44, 0) := by decide +kernel
theorem j51_42 : ax_in 51 42 = some (.iload_n 2, 1, 0, 0) := by decide +kernel
theorem j51_43 : ax_in 51 43 = some (.if_icmp .ne 6, 3, 0, 0) := by decide +kernel
theorem j51_46 : ax_in 51 46 = some (.iload 4, 2, 0, 0) := by decide +kernel
theorem j51_48 : ax_in 51 48 = some (.ireturn, 1, 0, 0) := by decide +kernel
theorem j51_49 : ax_in 51 49 = some (.iinc 4 1, 3, 0, 0) := by decide +kernel
theorem j51_52 : ax_in 51 52 = some (.goto (-40), 3, 0, 0) := by decide +kernel
theorem j51_55 : ax_in 51 55 = some (.iconst (-1), 1, 0, 0) := by decide +kernel
theorem j51_56 : ax_in 51 56 = some (.ireturn, 1, 0, 0) := by decide +kernel
theorem j52_0 : ax_in 52 0 = some (.aload_n 0, 1, 0, 0) := by decide +kernel
theorem j52_1 : ax_in 52 1 = some (.getfield 14, 3, 5, 0) := by decide +kernel
theorem j52_4 : ax_in 52 4 = some (.iconst 0, 1, 0, 0) := by decide +kernel
theorem j52_5 : ax_in 52 5 = some (.invokevirtual 49, 3, 43, 0) := by decide +kernel
theorem j52_8 : ax_in 52 8 = some (.ifCond .eq 5, 3, 0, 0) := by decide +kernel
theorem j52_11 : ax_in 52 11 = some (.iconst (-1), 1, 0, 0) := by decide +kernel
theorem j52_12 : ax_in 52 12 = some (.ireturn, 1, 0, 0) := by decide +kernel
theorem j52_13 : ax_in 52 13 = some (.aload_n 0, 1, 0, 0) := by decide +kernel
theorem j52_14 : ax_in 52 14 = some (.getfield 14, 3, 5, 0) := by decide +kernel
theorem j52_17 : ax_in 52 17 = some (.iconst 0, 1, 0, 0) := by decide +kernel
theorem j52_18 : ax_in 52 18 = some (.iload_n 1, 1, 0, 0) := by decide +kernel
theorem j52_19 : ax_in 52 19 = some (.invokevirtual 38, 3, 46, 0) := by decide +kernel
theorem j52_22 : ax_in 52 22 = some (.aload_n 0, 1, 0, 0) := by decide +kernel
theorem j52_23 : ax_in 52 23 = some (.getfield 14, 3, 5, 0) := by decide +kernel
theorem j52_26 : ax_in 52 26 = some (.iconst 0, 1, 0, 0) := by decide +kernel
theorem j52_27 : ax_in 52 27 = some (.invokevirtual 45, 3, 42, 0) := by decide +kernel
theorem j52_30 : ax_in 52 30 = some (.iconst 1, 1, 0, 0) := by decide +kernel
theorem j52_31 : ax_in 52 31 = some (.isub, 1, 0, 0) := by decide +kernel
theorem j52_32 : ax_in 52 32 = some (.ireturn, 1, 0, 0) := by decide +kernel
theorem j53_0 : ax_in 53 0 = some (.aload_n 0, 1, 0, 0) := by decide +kernel
theorem j53_1 : ax_in 53 1 = some (.iload_n 1, 1, 0, 0) := by decide +kernel
theorem j53_2 : ax_in 53 2 = some (.iload_n 2, 1, 0, 0) := by decide +kernel
theorem j53_3 : ax_in 53 3 = some (.invokevirtual 53, 3, 51, 0) := by decide +kernel
theorem j53_6 : ax_in 53 6 = some (.istore_n 3, 1, 0, 0) := by decide +kernel
theorem j53_7 : ax_in 53 7 = some (.iload_n 3, 1, 0, 0) := by decide +kernel
theorem j53_8 : ax_in 53 8 = some (.iconst (-1), 1, 0, 0) := by decide +kernel
theorem j53_9 : ax_in 53 9 = some (.if_icmp .ne 14, 3, 0, 0) := by decide +kernel
theorem j53_12 : ax_in 53 12 = some (.aload_n 0, 1, 0, 0) := by decide +kernel
theorem j53_13 : ax_in 53 13 = some (.getfield 29, 3, 5, 4) := by decide +kernel
theorem j53_16 : ax_in 53 16 = some (.iconst 0, 1, 0, 0) := by decide +kernel
theorem j53_17 : ax_in 53 17 = some (.invokevirtual 49, 3, 43, 0) := by decide +kernel
theorem j53_20 : ax_in 53 20 = some (.ifCond .eq 5, 3, 0, 0) := by decide +kernel
theorem j53_23 : ax_in 53 23 = some (.iload_n 3, 1, 0, 0) := by decide +kernel
theorem j53_24 : ax_in 53 24 = some (.ireturn, 1, 0, 0) := by decide +kernel
theorem j53_25 : ax_in 53 25 = some (.aload_n 0, 1, 0, 0) := by decide +kernel
theorem j53_26 : ax_in 53 26 = some (.getfield 29, 3, 5, 4) := by decide +kernel
theorem j53_29 : ax_in 53 29 = some (.iconst 0, 1, 0, 0) := by decide +kernel
theorem j53_30 : ax_in 53 30 = some (.iload_n 1, 1, 0, 0) := by decide +kernel
theorem j53_31 : ax_in 53 31 = some (.invokevirtual 38, 3, 46, 0) := by decide +kernel
theorem j53_34 : ax_in 53 34 = some (.aload_n 0, 1, 0, 0) := by decide +kernel
theorem j53_35 : ax_in 53 35 = some (.getfield 32, 3, 5, 5) := by decide +kernel
theorem j53_38 : ax_in 53 38 = some (.iconst 0, 1, 0, 0) := by decide +kernel
theorem j53_39 : ax_in 53 39 = some (.iload_n 2, 1, 0, 0) := by decide +kernel
theorem j53_40 : ax_in 53 40 = some (.invokevirtual 38, 3, 46, 0) := by decide +kernel
theorem j53_43 : ax_in 53 43 = some (.aload_n 0, 1, 0, 0) := by decide +kernel
theorem j53_44 : ax_in 53 44 = some (.getfield 29, 3, 5, 4) := by decide +kernel
theorem j53_47 : ax_in 53 47 = some (.iconst 0, 1, 0, 0) := by decide +kernel
theorem j53_48 : ax_in 53 48 = some (.invokevirtual 45, 3, 42, 0) := by decide +kernel
theorem j53_51 : ax_in 53 51 = some (.iconst 1, 1, 0, 0) := by decide +kernel
theorem j53_52 : ax_in 53 52 = some (.isub, 1, 0, 0) := by decide +kernel
theorem j53_53 : ax_in 53 53 = some (.ireturn, 1, 0, 0) := by decide +kernel
theorem j54_0 : ax_in 54 0 = some (.aload_n 0, 1, 0, 0) := by decide +kernel
theorem j54_1 : ax_in 54 1 = some (.iload_n 1, 1, 0, 0) := by decide +kernel
theorem j54_2 : ax_in 54 2 = some (.iload_n 2, 1, 0, 0) := by decide +kernel
theorem j54_3 : ax_in 54 3 = some (.invokevirtual 53, 3, 51, 0) := by decide +kernel
theorem j54_6 : ax_in 54 6 = some (.iconst (-1), 1, 0, 0) := by decide +kernel
theorem j54_7 : ax_in 54 7 = some (.if_icmp .eq 5, 3, 0, 0) := by decide +kernel
theorem j54_10 : ax_in 54 10 = some (.iconst 1, 1, 0, 0) := by decide +kernel
theorem j54_11 : ax_in 54 11 = some (.ireturn, 1, 0, 0) := by decide +kernel
theorem j54_12 : ax_in 54 12 = some (.aload_n 0, 1, 0, 0) := by decide +kernel
theorem j54_13 : ax_in 54 13 = some (.getfield 29, 3, 5, 4) := by decide +kernel
theorem j54_16 : ax_in 54 16 = some (.iconst 0, 1, 0, 0) := by decide +kernel
theorem j54_17 : ax_in 54 17 = some (.invokevirtual 49, 3, 43, 0) := by decide +kernel
theorem j54_20 : ax_in 54 20 = some (.ifCond .eq 5, 3, 0, 0) := by decide +kernel
theorem j54_23 : ax_in 54 23 = some (.iconst 0, 1, 0, 0) := by decide +kernel
theorem j54_24 : ax_in 54 24 = some (.ireturn, 1, 0, 0) := by decide +kernel
theorem j54_25 : ax_in 54 25 = some (.aload_n 0, 1, 0, 0) := by decide +kernel
theorem j54_26 : ax_in 54 26 = some (.getfield 14, 3, 5, 0) := by decide +kernel
theorem j54_29 : ax_in 54 29 = some (.iconst 0, 1, 0, 0) := by decide +kernel
theorem j54_30 : ax_in 54 30 = some (.iload_n 1, 1, 0, 0) := by decide +kernel
theorem j54_31 : ax_in 54 31 = some (.invokevirtual 56, 3, 45, 0) := by decide +kernel
theorem j54_34 : ax_in 54 34 = some (.istore_n 3, 1, 0, 0) := by decide +kernel
theorem j54_35 : ax_in 54 35 = some (.iload_n 3, 1, 0, 0) := by decide +kernel
theorem j54_36 : ax_in 54 36 = some (.iconst (-1), 1, 0, 0) := by decide +kernel
theorem j54_37 : ax_in 54 37 = some (.if_icmp .ne 22, 3, 0, 0) := by decide +kernel
theorem j54_40 : ax_in 54 40 = some (.aload_n 0, 1, 0, 0) := by decide +kernel
theorem j54_41 : ax_in 54 41 = some (.getfield 14, 3, 5, 0) := by decide +kernel
theorem j54_44 : ax_in 54 44 = some (.iconst 0, 1, 0, 0) := by decide +kernel
theorem j54_45 : ax_in 54 45 = some (.invokevirtual 49, 3, 43, 0) := by decide +kernel
theorem j54_48 : ax_in 54 48 = some (.ifCond .ne 7, 3, 0, 0) := by decide +kernel
theorem j54_51 : ax_in 54 51 = some (.iconst 1, 1, 0, 0) := by decide +kernel
theorem j54_52 : ax_in 54 52 = some (.goto 23, 3, 0, 0) := by decide +kernel
theorem j54_55 : ax_in 54 55 = some (.iconst 0, 1, 0, 0) := by decide +kernel
theorem j54_56 : ax_in 54 56 = some (.goto 19, 3, 0, 0) := by decide +kernel
theorem j54_59 : ax_in 54 59 = some (.aload_n 0, 1, 0, 0) := by decide +kernel
theorem j54_60 : ax_in 54 60 = some (.getfield 20, 3, 5, 1) := by decide +kernel
theorem j54_63 : ax_in 54 63 = some (.iload_n 3, 1, 0, 0) := by decide +kernel
theorem j54_64 : ax_in 54 64 = some (.invokevirtual 49, 3, 43, 0) := by decide +kernel
theorem j54_67 : ax_in 54 67 = some (.ifCond .ne 7, 3, 0, 0) := by decide +kernel
theorem j54_70 : ax_in 54 70 = some (.iconst 1, 1, 0, 0) := by decide +kernel
theorem j54_71 : ax_in 54 71 = some (.goto 4, 3, 0, 0) := by decide +kernel
theorem j54_74 : ax_in 54 74 = some (.iconst 0, 1, 0, 0) := by decide +kernel
theorem j54_75 : ax_in 54 75 = some (.ireturn, 1, 0, 0) := by decide +kernel
theorem j55_0 : ax_in 55 0 = some (.iload_n 2, 1, 0, 0) := by decide +kernel
theorem j55_1 : ax_in 55 1 = some (.ifCond .eq 21, 3, 0, 0) := by decide +kernel
theorem j55_4 : ax_in 55 4 = some (.aload_n 0, 1, 0, 0) := by decide +kernel
theorem j55_5 : ax_in 55 5 = some (.getfield 23, 3, 5, 2) := by decide +kernel
theorem j55_8 : ax_in 55 8 = some (.iload_n 1, 1, 0, 0) := by decide +kernel
theorem j55_9 : ax_in 55 9 = some (.iload_n 2, 1, 0, 0) := by decide +kernel
theorem j55_10 : ax_in 55 10 = some (.invokevirtual 38, 3, 46, 0) := by decide +kernel
theorem j55_13 : ax_in 55 13 = some (.aload_n 0, 1, 0, 0) := by decide +kernel
theorem j55_14 : ax_in 55 14 = some (.getfield 26, 3, 5, 3) := by decide +kernel
theorem j55_17 : ax_in 55 17 = some (.iconst 0, 1, 0, 0) := by decide +kernel
theorem j55_18 : ax_in 55 18 = some (.iload_n 2, 1, 0, 0) := by decide +kernel
theorem j55_19 : ax_in 55 19 = some (.invokevirtual 38, 3, 46, 0) := by decide +kernel
theorem j55_22 : ax_in 55 22 = some (.return_, 1, 0, 0) := by decide +kernel
theorem j56_0 : ax_in 56 0 = some (.aload_n 0, 1, 0, 0) := by decide +kernel
theorem j56_1 : ax_in 56 1 = some (.getfield 12, 3, 6, 0) := by decide +kernel
theorem j56_4 : ax_in 56 4 = some (.iconst 0, 1, 0, 0) := by decide +kernel
theorem j56_5 : ax_in 56 5 = some (.putfield 32, 3, 0, 1) := by decide +kernel
theorem j56_8 : ax_in 56 8 = some (.aload_n 0, 1, 0, 0) := by decide +kernel
theorem j56_9 : ax_in 56 9 = some (.getfield 21, 3, 6, 1) := by decide +kernel
theorem j56_12 : ax_in 56 12 = some (.invokevirtual 36, 3, 48, 0) := by decide +kernel
theorem j56_15 : ax_in 56 15 = some (.aload_n 0, 1, 0, 0) := by decide +kernel
theorem j56_16 : ax_in 56 16 = some (.getfield 28, 3, 6, 2) := by decide +kernel
theorem j56_19 : ax_in 56 19 = some (.invokevirtual 39, 3, 7, 0) := by decide +kernel
theorem j56_22 : ax_in 56 22 = some (.return_, 1, 0, 0) := by decide +kernel
theorem j57_0 : ax_in 57 0 = some (.aload_n 0, 1, 0, 0) := by decide +kernel
theorem j57_1 : ax_in 57 1 = some (.getfield 28, 3, 6, 2) := by decide +kernel
theorem j57_4 : ax_in 57 4 = some (.invokevirtual 40, 3, 10, 0) := by decide +kernel
theorem j57_7 : ax_in 57 7 = some (.ireturn, 1, 0, 0) := by decide +kernel
theorem j58_0 : ax_in 58 0 = some (.aload_n 0, 1, 0, 0) := by decide +kernel
theorem j58_1 : ax_in 58 1 = some (.getfield 28, 3, 6, 2) := by decide +kernel
theorem j58_4 : ax_in 58 4 = some (.invokevirtual 44, 3, 13, 0) := by decide +kernel
theorem j58_7 : ax_in 58 7 = some (.ireturn, 1, 0, 0) := by decide +kernel
theorem j59_0 : ax_in 59 0 = some (.aload_n 0, 1, 0, 0) := by decide +kernel
theorem j59_1 : ax_in 59 1 = some (.getfield 28, 3, 6, 2) := by decide +kernel
theorem j59_4 : ax_in 59 4 = some (.invokevirtual 47, 3, 8, 0) := by decide +kernel
theorem j59_7 : ax_in 59 7 = some (.ireturn, 1, 0, 0) := by decide +kernel
theorem j60_0 : ax_in 60 0 = some (.aload_n 0, 1, 0, 0) := by decide +kernel
theorem j60_1 : ax_in 60 1 = some (.iload_n 1, 1, 0, 0) := by decide +kernel
theorem j60_2 : ax_in 60 2 = some (.iload_n 2, 1, 0, 0) := by decide +kernel
theorem j60_3 : ax_in 60 3 = some (.iload_n 3, 1, 0, 0) := by decide +kernel
theorem j60_4 : ax_in 60 4 = some (.invokevirtual 51, 3, 61, 0) := by decide +kernel
theorem j60_7 : ax_in 60 7 = some (.ifCond .ne 5, 3, 0, 0) := by decide +kernel
theorem j60_10 : ax_in 60 10 = some (.iconst 0, 1, 0, 0) := by decide +kernel
theorem j60_11 : ax_in 60 11 = some (.ireturn, 1, 0, 0) := by decide +kernel
theorem j60_12 : ax_in 60 12 = some (.iload_n 1, 1, 0, 0) := by decide +kernel
theorem j60_13 : ax_in 60 13 = some (.tableswitch 107 1 3 #[27, 63, 79], 27, 0, 0) := by decide +kernel
theorem j60_40 : ax_in 60 40 = some (.aload_n 0, 1, 0, 0) := by decide +kernel
theorem j60_41 : ax_in 60 41 = some (.getfield 28, 3, 6, 2) := by decide +kernel
theorem j60_44 : ax_in 60 44 = some (.aload_n 0, 1, 0, 0) := by decide +kernel
theorem j60_45 : ax_in 60 45 = some (.getfield 28, 3, 6, 2) := by decide +kernel
theorem j60_48 : ax_in 60 48 = some (.invokevirtual 55, 3, 9, 0) := by decide +kernel
theorem j60_51 : ax_in 60 51 = some (.ifCond .eq 13, 3, 0, 0) := by decide +kernel
theorem j60_54 : ax_in 60 54 = some (.aload_n 0, 1, 0, 0) := by decide +kernel
theorem j60_55 : ax_in 60 55 = some (.iconst 1, 1, 0, 0) := by decide +kernel
theorem j60_56 : ax_in 60 56 = some (.iload_n 2, 1, 0, 0) := by decide +kernel
theorem j60_57 : ax_in 60 57 = some (.iload_n 3, 1, 0, 0) := by decide +kernel
theorem j60_58 : ax_in 60 58 = some (.invokevirtual 58, 3, 63, 0) := by decide +kernel
theorem j60_61 : ax_in 60 61 = some (.goto 9, 3, 0, 0) := by decide +kernel
theorem j60_64 : ax_in 60 64 = some (.aload_n 0, 1, 0, 0) := by decide +kernel
theorem j60_65 : ax_in 60 65 = some (.iload_n 2, 1, 0, 0) := by decide +kernel
theorem j60_66 : ax_in 60 66 = some (.iload_n 3, 1, 0, 0) := by decide +kernel
theorem j60_67 : ax_in 60 67 = some (.invokevirtual 62, 3, 66, 0) := by decide +kernel
theorem j60_70 : ax_in 60 70 = some (.invokevirtual 66, 3, 15, 0) := by decide +kernel
theorem j60_73 : ax_in 60 73 = some (.goto 58, 3, 0, 0) := by decide +kernel
theorem j60_76 : ax_in 60 76 = some (.aload_n 0, 1, 0, 0) := by decide +kernel
theorem j60_77 : ax_in 60 77 = some (.aload_n 0, 1, 0, 0) := by decide +kernel
theorem j60_78 : ax_in 60 78 = some (.iconst 2, 1, 0, 0) := by decide +kernel
theorem j60_79 : ax_in 60 79 = some (.iload_n 2, 1, 0, 0) := by decide +kernel
theorem j60_80 : ax_in 60 80 = some (.iload_n 3, 1, 0, 0) := by decide +kernel
theorem j60_81 : ax_in 60 81 = some (.invokevirtual 58, 3, 63, 0) := by decide +kernel
theorem j60_84 : ax_in 60 84 = some (.iload 4, 2, 0, 0) := by decide +kernel
theorem j60_86 : ax_in 60 86 = some (.invokevirtual 70, 3, 69, 0) := by decide +kernel
theorem j60_89 : ax_in 60 89 = some (.goto 42, 3, 0, 0) := by decide +kernel
theorem j60_92 : ax_in 60 92 = some (.aload_n 0, 1, 0, 0) := by decide +kernel
theorem j60_93 : ax_in 60 93 = some (.iconst 3, 1, 0, 0) := by decide +kernel
theorem j60_94 : ax_in 60 94 = some (.invokevirtual 74, 3, 64, 0) := by decide +kernel
theorem j60_97 : ax_in 60 97 = some (.aload_n 0, 1, 0, 0) := by decide +kernel
theorem j60_98 : ax_in 60 98 = some (.getfield 28, 3, 6, 2) := by decide +kernel
theorem j60_101 : ax_in 60 101 = some (.invokevirtual 77, 3, 14, 0) := by decide +kernel
theorem j60_104 : ax_in 60 104 = some (.aload_n 0, 1, 0, 0) := by decide +kernel
theorem j60_105 : ax_in 60 105 = some (.aload_n 0, 1, 0, 0) := by decide +kernel
theorem j60_106 : ax_in 60 106 = some (.getfield 28, 3, 6, 2) := by decide +kernel
theorem j60_109 : ax_in 60 109 = some (.invokevirtual 80, 3, 12, 0) := by decide +kernel
theorem j60_112 : ax_in 60 112 = some (.iload 4, 2, 0, 0) := by decide +kernel
theorem j60_114 : ax_in 60 114 = some (.invokevirtual 70, 3, 69, 0) := by decide +kernel
theorem j60_117 : ax_in 60 117 = some (.goto 14, 3, 0, 0) := by decide +kernel
theorem j60_120 : ax_in 60 120 = some (.aload_n 0, 1, 0, 0) := by decide +kernel
theorem j60_121 : ax_in 60 121 = some (.invokevirtual 83, 3, 62, 0) := by decide +kernel
theorem j60_124 : ax_in 60 124 = some (.aload_n 0, 1, 0, 0) := by decide +kernel
theorem j60_125 : ax_in 60 125 = some (.getfield 28, 3, 6, 2) := by decide +kernel
theorem j60_128 : ax_in 60 128 = some (.invokevirtual 86, 3, 16, 0) := by decide +kernel
theorem j60_131 : ax_in 60 131 = some (.iconst 1, 1, 0, 0) := by decide +kernel
theorem j60_132 : ax_in 60 132 = some (.ireturn, 1, 0, 0) := by decide +kernel
theorem j61_0 : ax_in 61 0 = some (.aload_n 0, 1, 0, 0) := by decide +kernel
theorem j61_1 : ax_in 61 1 = some (.getfield 12, 3, 6, 0) := by decide +kernel
theorem j61_4 : ax_in 61 4 = some (.getfield 32, 3, 0, 1) := by decide +kernel
theorem j61_7 : ax_in 61 7 = some (.sipush 3800, 3, 0, 0) := by decide +kernel
theorem j61_10 : ax_in 61 10 = some (.if_icmp .gt 18, 3, 0, 0) := by decide +kernel
theorem j61_13 : ax_in 61 13 = some (.iload_n 1, 1, 0, 0) := by decide +kernel
theorem j61_14 : ax_in 61 14 = some (.iconst 1, 1, 0, 0) := by decide +kernel
theorem j61_15 : ax_in 61 15 = some (.if_icmp .ne 15, 3, 0, 0) := by decide +kernel
theorem j61_18 : ax_in 61 18 = some (.aload_n 0, 1, 0, 0) := by decide +kernel
theorem j61_19 : ax_in 61 19 = some (.getfield 28, 3, 6, 2) := by decide +kernel
theorem j61_22 : ax_in 61 22 = some (.invokevirtual 89, 3, 11, 0) := by decide +kernel
theorem j61_25 : ax_in 61 25 = some (.ifCond .eq 5, 3, 0, 0) := by decide +kernel
theorem j61_28 : ax_in 61 28 = some (.iconst 0, 1, 0, 0) := by decide +kernel
theorem j61_29 : ax_in 61 29 = some (.ireturn, 1, 0, 0) := by decide +kernel
theorem j61_30 : ax_in 61 30 = some (.iload_n 1, 1, 0, 0) := by decide +kernel
theorem j61_31 : ax_in 61 31 = some (.invokestatic 92, 3, 81, 2) := by decide +kernel
theorem j61_34 : ax_in 61 34 = some (.ifCond .eq 15, 3, 0, 0) := by decide +kernel
theorem j61_37 : ax_in 61 37 = some (.aload_n 0, 1, 0, 0) := by decide +kernel
theorem j61_38 : ax_in 61 38 = some (.getfield 21, 3, 6, 1) := by decide +kernel
theorem j61_41 : ax_in 61 41 = some (.iload_n 2, 1, 0, 0) := by decide +kernel
theorem j61_42 : ax_in 61 42 = some (.iload_n 3, 1, 0, 0) := by decide +kernel
theorem j61_43 : ax_in 61 43 = some (.invokevirtual 96, 3, 54, 0) := by decide +kernel
theorem j61_46 : ax_in 61 46 = some (.ifCond .eq 7, 3, 0, 0) := by decide +kernel
theorem j61_49 : ax_in 61 49 = some (.iconst 1, 1, 0, 0) := by decide +kernel
theorem j61_50 : ax_in 61 50 = some (.goto 4, 3, 0, 0) := by decide +kernel
theorem j61_53 : ax_in 61 53 = some (.iconst 0, 1, 0, 0) := by decide +kernel
theorem j61_54 : ax_in 61 54 = some (.ireturn, 1, 0, 0) := by decide +kernel
theorem j62_0 : ax_in 62 0 = some (.aload_n 0, 1, 0, 0) := by decide +kernel
theorem j62_1 : ax_in 62 1 = some (.getfield 28, 3, 6, 2) := by decide +kernel
theorem j62_4 : ax_in 62 4 = some (.invokevirtual 44, 3, 13, 0) := by decide +kernel
theorem j62_7 : ax_in 62 7 = some (.ifCond .eq 11, 3, 0, 0) := by decide +kernel
theorem j62_10 : ax_in 62 10 = some (.aload_n 0, 1, 0, 0) := by decide +kernel
theorem j62_11 : ax_in 62 11 = some (.iconst 4, 1, 0, 0) := by decide +kernel
theorem j62_12 : ax_in 62 12 = some (.invokevirtual 74, 3, 64, 0) := by decide +kernel
theorem j62_15 : ax_in 62 15 = some (.goto 21, 3, 0, 0) := by decide +kernel
theorem j62_18 : ax_in 62 18 = some (.aload_n 0, 1, 0, 0) := by decide +kernel
theorem j62_19 : ax_in 62 19 = some (.aload_n 0, 1, 0, 0) := by decide +kernel
theorem j62_20 : ax_in 62 20 = some (.getfield 28, 3, 6, 2) := by decide +kernel
theorem j62_23 : ax_in 62 23 = some (.invokevirtual 100, 3, 17, 0) := by decide +kernel
theorem j62_26 : ax_in 62 26 = some (.aload_n 0, 1, 0, 0) := by decide +kernel
theorem j62_27 : ax_in 62 27 = some (.getfield 28, 3, 6, 2) := by decide +kernel
theorem j62_30 : ax_in 62 30 = some (.invokevirtual 103, 3, 18, 0) := by decide +kernel
theorem j62_33 : ax_in 62 33 = some (.invokevirtual 106, 3, 72, 0) := by decide +kernel
theorem j62_36 : ax_in 62 36 = some (.return_, 1, 0, 0) := by decide +kernel
theorem j63_0 : ax_in 63 0 = some (.aload_n 0, 1, 0, 0) := by decide +kernel
theorem j63_1 : ax_in 63 1 = some (.getfield 21, 3, 6, 1) := by decide +kernel
theorem j63_4 : ax_in 63 4 = some (.iload_n 2, 1, 0, 0) := by decide +kernel
theorem j63_5 : ax_in 63 5 = some (.iload_n 3, 1, 0, 0) := by decide +kernel
theorem j63_6 : ax_in 63 6 = some (.invokevirtual 109, 3, 51, 0) := by decide +kernel
theorem j63_9 : ax_in 63 9 = some (.istore 4, 2, 0, 0) := by decide +kernel
theorem j63_11 : ax_in 63 11 = some (.iload 4, 2, 0, 0) := by decide +kernel
theorem j63_13 : ax_in 63 13 = some (.iconst (-1), 1, 0, 0) := by decide +kernel
theorem j63_14 : ax_in 63 14 = some (.if_icmp .ne 7, 3, 0, 0) := by decide +kernel
theorem j63_17 : ax_in 63 17 = some (.iconst (-1), 1, 0, 0) := by decide +kernel
theorem j63_18 : ax_in 63 18 = some (.goto 16, 3, 0, 0) := by decide +kernel
theorem j63_21 : ax_in 63 21 = some (.aload_n 0, 1, 0, 0) := by decide +kernel
theorem j63_22 : ax_in 63 22 = some (.getfield 28, 3, 6, 2) := by decide +kernel
theorem j63_25 : ax_in 63 25 = some (.iload_n 1, 1, 0, 0) := by decide +kernel
theorem j63_26 : ax_in 63 26 = some (.iload 4, 2, 0, 0) := by decide +kernel
theorem j63_28 : ax_in 63 28 = some (.invokestatic 112, 3, 82, 2) := by decide +kernel
theorem j63_31 : ax_in 63 31 = some (.invokevirtual 115, 3, 20, 0) := by decide +kernel
theorem j63_34 : ax_in 63 34 = some (.istore 5, 2, 0, 0) := by decide +kernel
theorem j63_36 : ax_in 63 36 = some (.iload 5, 2, 0, 0) := by decide +kernel
theorem j63_38 : ax_in 63 38 = some (.iconst (-1), 1, 0, 0) := by decide +kernel
theorem j63_39 : ax_in 63 39 = some (.if_icmp .eq 19, 3, 0, 0) := by decide +kernel
theorem j63_42 : ax_in 63 42 = some (.aload_n 0, 1, 0, 0) := by decide +kernel
theorem j63_43 : ax_in 63 43 = some (.iload 5, 2, 0, 0) := by decide +kernel
theorem j63_45 : ax_in 63 45 = some (.aload_n 0, 1, 0, 0) := by decide +kernel
theorem j63_46 : ax_in 63 46 = some (.getfield 28, 3, 6, 2) := by decide +kernel
theorem j63_49 : ax_in 63 49 = some (.invokevirtual 103, 3, 18, 0) := by decide +kernel
theorem j63_52 : ax_in 63 52 = some (.invokevirtual 106, 3, 72, 0) := by decide +kernel
theorem j63_55 : ax_in 63 55 = some (.iload 4, 2, 0, 0) := by decide +kernel
theorem j63_57 : ax_in 63 57 = some (.ireturn, 1, 0, 0) := by decide +kernel
theorem j63_58 : ax_in 63 58 = some (.aload_n 0, 1, 0, 0) := by decide +kernel
theorem j63_59 : ax_in 63 59 = some (.iload_n 1, 1, 0, 0) := by decide +kernel
theorem j63_60 : ax_in 63 60 = some (.invokevirtual 119, 3, 65, 0) := by decide +kernel
theorem j63_63 : ax_in 63 63 = some (.aload_n 0, 1, 0, 0) := by decide +kernel
theorem j63_64 : ax_in 63 64 = some (.iload_n 2, 1, 0, 0) := by decide +kernel
theorem j63_65 : ax_in 63 65 = some (.iload_n 3, 1, 0, 0) := by decide +kernel
theorem j63_66 : ax_in 63 66 = some (.invokevirtual 62, 3, 66, 0) := by decide +kernel
theorem j63_69 : ax_in 63 69 = some (.istore 6, 2, 0, 0) := by decide +kernel
theorem j63_71 : ax_in 63 71 = some (.aload_n 0, 1, 0, 0) := by decide +kernel
theorem j63_72 : ax_in 63 72 = some (.getfield 28, 3, 6, 2) := by decide +kernel
theorem j63_75 : ax_in 63 75 = some (.iload_n 1, 1, 0, 0) := by decide +kernel
theorem j63_76 : ax_in 63 76 = some (.iload 6, 2, 0, 0) := by decide +kernel
theorem j63_78 : ax_in 63 78 = some (.invokestatic 112, 3, 82, 2) := by decide +kernel
theorem j63_81 : ax_in 63 81 = some (.invokevirtual 122, 3, 21, 0) := by decide +kernel
theorem j63_84 : ax_in 63 84 = some (.iload 6, 2, 0, 0) := by decide +kernel
theorem j63_86 : ax_in 63 86 = some (.ireturn, 1, 0, 0) := by decide +kernel
theorem j64_0 : ax_in 64 0 = some (.iload_n 1, 1, 0, 0) := by decide +kernel
theorem j64_1 : ax_in 64 1 = some (.iconst 0, 1, 0, 0) := by decide +kernel
theorem j64_2 : ax_in 64 2 = some (.invokestatic 112, 3, 82, 2) := by decide +kernel
theorem j64_5 : ax_in 64 5 = some (.istore_n 2, 1, 0, 0) := by decide +kernel
theorem j64_6 : ax_in 64 6 = some (.aload_n 0, 1, 0, 0) := by decide +kernel
theorem j64_7 : ax_in 64 7 = some (.getfield 28, 3, 6, 2) := by decide +kernel
theorem j64_10 : ax_in 64 10 = some (.iload_n 2, 1, 0, 0) := by decide +kernel
theorem j64_11 : ax_in 64 11 = some (.invokevirtual 115, 3, 20, 0) := by decide +kernel
theorem j64_14 : ax_in 64 14 = some (.istore_n 3, 1, 0, 0) := by decide +kernel
theorem j64_15 : ax_in 64 15 = some (.iload_n 3, 1, 0, 0) := by decide +kernel
theorem j64_16 : ax_in 64 16 = some (.iconst (-1), 1, 0, 0) := by decide +kernel
theorem j64_17 : ax_in 64 17 = some (.if_icmp .eq 16, 3, 0, 0) := by decide +kernel
theorem j64_20 : ax_in 64 20 = some (.aload_n 0, 1, 0, 0) := by decide +kernel
theorem j64_21 : ax_in 64 21 = some (.iload_n 3, 1, 0, 0) := by decide +kernel
theorem j64_22 : ax_in 64 22 = some (.aload_n 0, 1, 0, 0) := by decide +kernel
theorem j64_23 : ax_in 64 23 = some (.getfield 28, 3, 6, 2) := by decide +kernel
theorem j64_26 : ax_in 64 26 = some (.invokevirtual 103, 3, 18, 0) := by decide +kernel
theorem j64_29 : ax_in 64 29 = some (.invokevirtual 106, 3, 72, 0) := by decide +kernel
theorem j64_32 : ax_in 64 32 = some (.return_, 1, 0, 0) := by decide +kernel
theorem j64_33 : ax_in 64 33 = some (.aload_n 0, 1, 0, 0) := by decide +kernel
theorem j64_34 : ax_in 64 34 = some (.iload_n 1, 1, 0, 0) := by decide +kernel
theorem j64_35 : ax_in 64 35 = some (.invokevirtual 119, 3, 65, 0) := by decide +kernel
theorem j64_38 : ax_in 64 38 = some (.aload_n 0, 1, 0, 0) := by decide +kernel
theorem j64_39 : ax_in 64 39 = some (.getfield 28, 3, 6, 2) := by decide +kernel
theorem j64_42 : ax_in 64 42 = some (.iload_n 2, 1, 0, 0) := by decide +kernel
theorem j64_43 : ax_in 64 43 = some (.invokevirtual 122, 3, 21, 0) := by decide +kernel
theorem j64_46 : ax_in 64 46 = some (.return_, 1, 0, 0) := by decide +kernel
theorem j65_0 : ax_in 65 0 = some (.aload_n 0, 1, 0, 0) := by decide +kernel
theorem j65_1 : ax_in 65 1 = some (.aload_n 0, 1, 0, 0) := by decide +kernel
theorem j65_2 : ax_in 65 2 = some (.getfield 28, 3, 6, 2) := by decide +kernel
theorem j65_5 : ax_in 65 5 = some (.invokevirtual 103, 3, 18, 0) := by decide +kernel
theorem j65_8 : ax_in 65 8 = some (.iconst 1, 1, 0, 0) := by decide +kernel
theorem j65_9 : ax_in 65 9 = some (.isub, 1, 0, 0) := by decide +kernel
theorem j65_10 : ax_in 65 10 = some (.aload_n 0, 1, 0, 0) := by decide +kernel
theorem j65_11 : ax_in 65 11 = some (.getfield 28, 3, 6, 2) := by decide +kernel
theorem j65_14 : ax_in 65 14 = some (.invokevirtual 103, 3, 18, 0) := by decide +kernel
theorem j65_17 : ax_in 65 17 = some (.invokevirtual 106, 3, 72, 0) := by decide +kernel
theorem j65_20 : ax_in 65 20 = some (.aload_n 0, 1, 0, 0) := by decide +kernel
theorem j65_21 : ax_in 65 21 = some (.getfield 28, 3, 6, 2) := by decide +kernel
theorem j65_24 : ax_in 65 24 = some (.invokevirtual 44, 3, 13, 0) := by decide +kernel
theorem j65_27 : ax_in 65 27 = some (.ifCond .ne 19, 3, 0, 0) := by decide +kernel
theorem j65_30 : ax_in 65 30 = some (.aload_n 0, 1, 0, 0) := by decide +kernel
theorem j65_31 : ax_in 65 31 = some (.iload_n 1, 1, 0, 0) := by decide +kernel
theorem j65_32 : ax_in 65 32 = some (.iconst 1, 1, 0, 0) := by decide +kernel
theorem j65_33 : ax_in 65 33 = some (.if_icmp .ne 7, 3, 0, 0) := by decide +kernel
theorem j65_36 : ax_in 65 36 = some (.iconst 0, 1, 0, 0) := by decide +kernel
theorem j65_37 : ax_in 65 37 = some (.goto 4, 3, 0, 0) := by decide +kernel
theorem j65_40 : ax_in 65 40 = some (.iconst 1, 1, 0, 0) := by decide +kernel
theorem j65_41 : ax_in 65 41 = some (.iconst 2, 1, 0, 0) := by decide +kernel
theorem j65_42 : ax_in 65 42 = some (.invokevirtual 106, 3, 72, 0) := by decide +kernel
theorem j65_45 : ax_in 65 45 = some (.return_, 1, 0, 0) := by decide +kernel
theorem j65_46 : ax_in 65 46 = some (.iload_n 1, 1, 0, 0) := by decide +kernel
theorem j65_47 : ax_in 65 47 = some (.tableswitch 52 1 3 #[34, 25, 43], 25, 0, 0) := by decide +kernel
theorem j65_72 : ax_in 65 72 = some (.aload_n 0, 1, 0, 0) := by decide +kernel
theorem j65_73 : ax_in 65 73 = some (.iconst 1, 1, 0, 0) := by decide +kernel
theorem j65_74 : ax_in 65 74 = some (.iconst 4, 1, 0, 0) := by decide +kernel
theorem j65_75 : ax_in 65 75 = some (.invokevirtual 106, 3, 72, 0) := by decide +kernel
theorem j65_78 : ax_in 65 78 = some (.goto 27, 3, 0, 0) := by decide +kernel
theorem j65_81 : ax_in 65 81 = some (.aload_n 0, 1, 0, 0) := by decide +kernel
theorem j65_82 : ax_in 65 82 = some (.iconst 2, 1, 0, 0) := by decide +kernel
theorem j65_83 : ax_in 65 83 = some (.iconst 4, 1, 0, 0) := by decide +kernel
theorem j65_84 : ax_in 65 84 = some (.invokevirtual 106, 3, 72, 0) := by decide +kernel
theorem j65_87 : ax_in 65 87 = some (.goto 18, 3, 0, 0) := by decide +kernel
theorem j65_90 : ax_in 65 90 = some (.aload_n 0, 1, 0, 0) := by decide +kernel
theorem j65_91 : ax_in 65 91 = some (.iconst 3, 1, 0, 0) := by decide +kernel
theorem j65_92 : ax_in 65 92 = some (.iconst 4, 1, 0, 0) := by decide +kernel
theorem j65_93 : ax_in 65 93 = some (.invokevirtual 106, 3, 72, 0) := by decide +kernel
theorem j65_96 : ax_in 65 96 = some (.goto 9, 3, 0, 0) := by decide +kernel
theorem j65_99 : ax_in 65 99 = some (.aload_n 0, 1, 0, 0) := by decide +kernel
theorem j65_100 : ax_in 65 100 = some (.iconst 0, 1, 0, 0) := by decide +kernel
theorem j65_101 : ax_in 65 101 = some (.iconst 4, 1, 0, 0) := by decide +kernel
theorem j65_102 : ax_in 65 102 = some (.invokevirtual 106, 3, 72, 0) := by decide +kernel
theorem j65_105 : ax_in 65 105 = some (.return_, 1, 0, 0) := by decide +kernel
theorem j66_0 : ax_in 66 0 = some (.aload_n 0, 1, 0, 0) := by decide +kernel
theorem j66_1 : ax_in 66 1 = some (.aload_n 0, 1, 0, 0) := by decide +kernel
theorem j66_2 : ax_in 66 2 = some (.iload_n 1, 1, 0, 0) := by decide +kernel
theorem j66_3 : ax_in 66 3 = some (.invokevirtual 125, 3, 67, 0) := by decide +kernel
theorem j66_6 : ax_in 66 6 = some (.iload_n 2, 1, 0, 0) := by decide +kernel
theorem j66_7 : ax_in 66 7 = some (.invokevirtual 128, 3, 68, 0) := by decide +kernel
theorem j66_10 : ax_in 66 10 = some (.aload_n 0, 1, 0, 0) := by decide +kernel
theorem j66_11 : ax_in 66 11 = some (.getfield 21, 3, 6, 1) := by decide +kernel
theorem j66_14 : ax_in 66 14 = some (.iload_n 1, 1, 0, 0) := by decide +kernel
theorem j66_15 : ax_in 66 15 = some (.iload_n 2, 1, 0, 0) := by decide +kernel
theorem j66_16 : ax_in 66 16 = some (.invokevirtual 131, 3, 53, 0) := by decide +kernel
theorem j66_19 : ax_in 66 19 = some (.ireturn, 1, 0, 0) := by decide +kernel
theorem j67_0 : ax_in 67 0 = some (.aload_n 0, 1, 0, 0) := by decide +kernel
theorem j67_1 : ax_in 67 1 = some (.getfield 21, 3, 6, 1) := by decide +kernel
theorem j67_4 : ax_in 67 4 = some (.getfield 134, 3, 5, 0) := by decide +kernel
theorem j67_7 : ax_in 67 7 = some (.iconst 0, 1, 0, 0) := by decide +kernel
theorem j67_8 : ax_in 67 8 = some (.invokevirtual 138, 3, 42, 0) := by decide +kernel
theorem j67_11 : ax_in 67 11 = some (.istore_n 2, 1, 0, 0) := by decide +kernel
theorem j67_12 : ax_in 67 12 = some (.aload_n 0, 1, 0, 0) := by decide +kernel
theorem j67_13 : ax_in 67 13 = some (.getfield 21, 3, 6, 1) := by decide +kernel
theorem j67_16 : ax_in 67 16 = some (.getfield 134, 3, 5, 0) := by decide +kernel
theorem j67_19 : ax_in 67 19 = some (.iconst 0, 1, 0, 0) := by decide +kernel
theorem j67_20 : ax_in 67 20 = some (.iload_n 1, 1, 0, 0) := by decide +kernel
theorem j67_21 : ax_in 67 21 = some (.invokevirtual 143, 3, 45, 0) := by decide +kernel
theorem j67_24 : ax_in 67 24 = some (.istore_n 3, 1, 0, 0) := by decide +kernel
theorem j67_25 : ax_in 67 25 = some (.iload_n 3, 1, 0, 0) := by decide +kernel
theorem j67_26 : ax_in 67 26 = some (.iconst (-1), 1, 0, 0) := by decide +kernel
theorem j67_27 : ax_in 67 27 = some (.if_icmp .eq 15, 3, 0, 0) := by decide +kernel
theorem j67_30 : ax_in 67 30 = some (.aload_n 0, 1, 0, 0) := by decide +kernel
theorem j67_31 : ax_in 67 31 = some (.iload_n 3, 1, 0, 0) := by decide +kernel
theorem j67_32 : ax_in 67 32 = some (.iconst 1, 1, 0, 0) := by decide +kernel
theorem j67_33 : ax_in 67 33 = some (.iadd, 1, 0, 0) := by decide +kernel
theorem j67_34 : ax_in 67 34 = some (.iload_n 2, 1, 0, 0) := by decide +kernel
theorem j67_35 : ax_in 67 35 = some (.iconst 1, 1, 0, 0) := by decide +kernel
theorem j67_36 : ax_in 67 36 = some (.iadd, 1, 0, 0) := by decide +kernel
theorem j67_37 : ax_in 67 37 = some (.invokevirtual 106, 3, 72, 0) := by decide +kernel
theorem j67_40 : ax_in 67 40 = some (.iload_n 3, 1, 0, 0) := by decide +kernel
theorem j67_41 : ax_in 67 41 = some (.ireturn, 1, 0, 0) := by decide +kernel
theorem j67_42 : ax_in 67 42 = some (.aload_n 0, 1, 0, 0) := by decide +kernel
theorem j67_43 : ax_in 67 43 = some (.iconst 0, 1, 0, 0) := by decide +kernel
theorem j67_44 : ax_in 67 44 = some (.iload_n 2, 1, 0, 0) := by decide +kernel
theorem j67_45 : ax_in 67 45 = some (.iconst 1, 1, 0, 0) := by decide +kernel
theorem j67_46 : ax_in 67 46 = some (.iadd, 1, 0, 0) := by decide +kernel
theorem j67_47 : ax_in 67 47 = some (.invokevirtual 106, 3, 72, 0) := by decide +kernel
theorem j67_50 : ax_in 67 50 = some (.aload_n 0, 1, 0, 0) := by decide +kernel
theorem j67_51 : ax_in 67 51 = some (.iload_n 1, 1, 0, 0) := by decide +kernel
theorem j67_52 : ax_in 67 52 = some (.invokestatic 146, 3, 79, 2) := by decide +kernel
theorem j67_55 : ax_in 67 55 = some (.invokevirtual 149, 3, 71, 0) := by decide +kernel
theorem j67_58 : ax_in 67 58 = some (.aload_n 0, 1, 0, 0) := by decide +kernel
theorem j67_59 : ax_in 67 59 = some (.iload_n 1, 1, 0, 0) := by decide +kernel
theorem j67_60 : ax_in 67 60 = some (.invokevirtual 152, 3, 70, 0) := by decide +kernel
theorem j67_63 : ax_in 67 63 = some (.aload_n 0, 1, 0, 0) := by decide +kernel
theorem j67_64 : ax_in 67 64 = some (.getfield 21, 3, 6, 1) := by decide +kernel
theorem j67_67 : ax_in 67 67 = some (.iload_n 1, 1, 0, 0) := by decide +kernel
theorem j67_68 : ax_in 67 68 = some (.invokevirtual 155, 3, 52, 0) := by decide +kernel
theorem j67_71 : ax_in 67 71 = some (.ireturn, 1, 0, 0) := by decide +kernel
theorem j68_0 : ax_in 68 0 = some (.aload_n 0, 1, 0, 0) := by decide +kernel
theorem j68_1 : ax_in 68 1 = some (.getfield 21, 3, 6, 1) := by decide +kernel
theorem j68_4 : ax_in 68 4 = some (.getfield 158, 3, 5, 1) := by decide +kernel
theorem j68_7 : ax_in 68 7 = some (.iload_n 1, 1, 0, 0) := by decide +kernel
theorem j68_8 : ax_in 68 8 = some (.iload_n 2, 1, 0, 0) := by decide +kernel
theorem j68_9 : ax_in 68 9 = some (.invokevirtual 143, 3, 45, 0) := by decide +kernel
theorem j68_12 : ax_in 68 12 = some (.istore_n 3, 1, 0, 0) := by decide +kernel
theorem j68_13 : ax_in 68 13 = some (.iload_n 3, 1, 0, 0) := by decide +kernel
theorem j68_14 : ax_in 68 14 = some (.iconst (-1), 1, 0, 0) := by decide +kernel
theorem j68_15 : ax_in 68 15 = some (.if_icmp .eq 25, 3, 0, 0) := by decide +kernel
theorem j68_18 : ax_in 68 18 = some (.aload_n 0, 1, 0, 0) := by decide +kernel
theorem j68_19 : ax_in 68 19 = some (.iconst 0, 1, 0, 0) := by decide +kernel
theorem j68_20 : ax_in 68 20 = some (.invokevirtual 149, 3, 71, 0) := by decide +kernel
theorem j68_23 : ax_in 68 23 = some (.aload_n 0, 1, 0, 0) := by decide +kernel
theorem j68_24 : ax_in 68 24 = some (.iload_n 3, 1, 0, 0) := by decide +kernel
theorem j68_25 : ax_in 68 25 = some (.aload_n 0, 1, 0, 0) := by decide +kernel
theorem j68_26 : ax_in 68 26 = some (.getfield 21, 3, 6, 1) := by decide +kernel
theorem j68_29 : ax_in 68 29 = some (.getfield 158, 3, 5, 1) := by decide +kernel
theorem j68_32 : ax_in 68 32 = some (.iload_n 1, 1, 0, 0) := by decide +kernel
theorem j68_33 : ax_in 68 33 = some (.invokevirtual 138, 3, 42, 0) := by decide +kernel
theorem j68_36 : ax_in 68 36 = some (.invokevirtual 106, 3, 72, 0) := by decide +kernel
theorem j68_39 : ax_in 68 39 = some (.return_, 1, 0, 0) := by decide +kernel
theorem j68_40 : ax_in 68 40 = some (.aload_n 0, 1, 0, 0) := by decide +kernel
theorem j68_41 : ax_in 68 41 = some (.iload_n 2, 1, 0, 0) := by decide +kernel
theorem j68_42 : ax_in 68 42 = some (.invokestatic 146, 3, 79, 2) := by decide +kernel
theorem j68_45 : ax_in 68 45 = some (.invokevirtual 149, 3, 71, 0) := by decide +kernel
theorem j68_48 : ax_in 68 48 = some (.aload_n 0, 1, 0, 0) := by decide +kernel
theorem j68_49 : ax_in 68 49 = some (.iload_n 2, 1, 0, 0) := by decide +kernel
theorem j68_50 : ax_in 68 50 = some (.invokevirtual 152, 3, 70, 0) := by decide +kernel
theorem j68_53 : ax_in 68 53 = some (.aload_n 0, 1, 0, 0) := by decide +kernel
theorem j68_54 : ax_in 68 54 = some (.getfield 21, 3, 6, 1) := by decide +kernel
theorem j68_57 : ax_in 68 57 = some (.getfield 158, 3, 5, 1) := by decide +kernel
theorem j68_60 : ax_in 68 60 = some (.iload_n 1, 1, 0, 0) := by decide +kernel
theorem j68_61 : ax_in 68 61 = some (.iload_n 2, 1, 0, 0) := by decide +kernel
theorem j68_62 : ax_in 68 62 = some (.invokevirtual 161, 3, 46, 0) := by decide +kernel
theorem j68_65 : ax_in 68 65 = some (.return_, 1, 0, 0) := by decide +kernel
theorem j69_0 : ax_in 69 0 = some (.aload_n 0, 1, 0, 0) := by decide +kernel
theorem j69_1 : ax_in 69 1 = some (.getfield 21, 3, 6, 1) := by decide +kernel
theorem j69_4 : ax_in 69 4 = some (.getfield 164, 3, 5, 2) := by decide +kernel
theorem j69_7 : ax_in 69 7 = some (.iload_n 1, 1, 0, 0) := by decide +kernel
theorem j69_8 : ax_in 69 8 = some (.iload_n 2, 1, 0, 0) := by decide +kernel
theorem j69_9 : ax_in 69 9 = some (.invokevirtual 143, 3, 45, 0) := by decide +kernel
theorem j69_12 : ax_in 69 12 = some (.istore_n 3, 1, 0, 0) := by decide +kernel
theorem j69_13 : ax_in 69 13 = some (.iload_n 3, 1, 0, 0) := by decide +kernel
theorem j69_14 : ax_in 69 14 = some (.iconst (-1), 1, 0, 0) := by decide +kernel
theorem j69_15 : ax_in 69 15 = some (.if_icmp .eq 25, 3, 0, 0) := by decide +kernel
theorem j69_18 : ax_in 69 18 = some (.aload_n 0, 1, 0, 0) := by decide +kernel
theorem j69_19 : ax_in 69 19 = some (.iconst 0, 1, 0, 0) := by decide +kernel
theorem j69_20 : ax_in 69 20 = some (.invokevirtual 149, 3, 71, 0) := by decide +kernel
theorem j69_23 : ax_in 69 23 = some (.aload_n 0, 1, 0, 0) := by decide +kernel
theorem j69_24 : ax_in 69 24 = some (.iload_n 3, 1, 0, 0) := by decide +kernel
theorem j69_25 : ax_in 69 25 = some (.aload_n 0, 1, 0, 0) := by decide +kernel
theorem j69_26 : ax_in 69 26 = some (.getfield 21, 3, 6, 1) := by decide +kernel
theorem j69_29 : ax_in 69 29 = some (.getfield 164, 3, 5, 2) := by decide +kernel
theorem j69_32 : ax_in 69 32 = some (.iload_n 1, 1, 0, 0) := by decide +kernel
theorem j69_33 : ax_in 69 33 = some (.invokevirtual 138, 3, 42, 0) := by decide +kernel
theorem j69_36 : ax_in 69 36 = some (.invokevirtual 106, 3, 72, 0) := by decide +kernel
theorem j69_39 : ax_in 69 39 = some (.return_, 1, 0, 0) := by decide +kernel
theorem j69_40 : ax_in 69 40 = some (.aload_n 0, 1, 0, 0) := by decide +kernel
theorem j69_41 : ax_in 69 41 = some (.getfield 21, 3, 6, 1) := by decide +kernel
theorem j69_44 : ax_in 69 44 = some (.getfield 167, 3, 5, 3) := by decide +kernel
theorem j69_47 : ax_in 69 47 = some (.iconst 0, 1, 0, 0) := by decide +kernel
theorem j69_48 : ax_in 69 48 = some (.iload_n 2, 1, 0, 0) := by decide +kernel
theorem j69_49 : ax_in 69 49 = some (.invokevirtual 143, 3, 45, 0) := by decide +kernel
theorem j69_52 : ax_in 69 52 = some (.istore_n 3, 1, 0, 0) := by decide +kernel
theorem j69_53 : ax_in 69 53 = some (.iload_n 3, 1, 0, 0) := by decide +kernel
theorem j69_54 : ax_in 69 54 = some (.iconst (-1), 1, 0, 0) := by decide +kernel
theorem j69_55 : ax_in 69 55 = some (.if_icmp .eq 25, 3, 0, 0) := by decide +kernel
theorem j69_58 : ax_in 69 58 = some (.aload_n 0, 1, 0, 0) := by decide +kernel
theorem j69_59 : ax_in 69 59 = some (.iconst 1, 1, 0, 0) := by decide +kernel
theorem j69_60 : ax_in 69 60 = some (.invokevirtual 149, 3, 71, 0) := by decide +kernel
theorem j69_63 : ax_in 69 63 = some (.aload_n 0, 1, 0, 0) := by decide +kernel
theorem j69_64 : ax_in 69 64 = some (.iload_n 3, 1, 0, 0) := by decide +kernel
theorem j69_65 : ax_in 69 65 = some (.aload_n 0, 1, 0, 0) := by decide +kernel
theorem j69_66 : ax_in 69 66 = some (.getfield 21, 3, 6, 1) := by decide +kernel
theorem j69_69 : ax_in 69 69 = some (.getfield 167, 3, 5, 3) := by decide +kernel
theorem j69_72 : ax_in 69 72 = some (.iconst 0, 1, 0, 0) := by decide +kernel
theorem j69_73 : ax_in 69 73 = some (.invokevirtual 138, 3, 42, 0) := by decide +kernel
theorem j69_76 : ax_in 69 76 = some (.invokevirtual 106, 3, 72, 0) := by decide +kernel
theorem j69_79 : ax_in 69 79 = some (.return_, 1, 0, 0) := by decide +kernel
theorem j69_80 : ax_in 69 80 = some (.aload_n 0, 1, 0, 0) := by decide +kernel
theorem j69_81 : ax_in 69 81 = some (.iload_n 2, 1, 0, 0) := by decide +kernel
theorem j69_82 : ax_in 69 82 = some (.invokestatic 146, 3, 79, 2) := by decide +kernel
theorem j69_85 : ax_in 69 85 = some (.iconst 2, 1, 0, 0) := by decide +kernel
theorem j69_86 : ax_in 69 86 = some (.iadd, 1, 0, 0) := by decide +kernel
theorem j69_87 : ax_in 69 87 = some (.invokevirtual 149, 3, 71, 0) := by decide +kernel
theorem j69_90 : ax_in 69 90 = some (.aload_n 0, 1, 0, 0) := by decide +kernel
theorem j69_91 : ax_in 69 91 = some (.iload_n 2, 1, 0, 0) := by decide +kernel
theorem j69_92 : ax_in 69 92 = some (.invokevirtual 152, 3, 70, 0) := by decide +kernel
theorem j69_95 : ax_in 69 95 = some (.aload_n 0, 1, 0, 0) := by decide +kernel
theorem j69_96 : ax_in 69 96 = some (.getfield 21, 3, 6, 1) := by decide +kernel
theorem j69_99 : ax_in 69 99 = some (.iload_n 1, 1, 0, 0) := by decide +kernel
theorem j69_100 : ax_in 69 100 = some (.iload_n 2, 1, 0, 0) := by decide +kernel
theorem j69_101 : ax_in 69 101 = some (.invokevirtual 170, 3, 55, 0) := by decide +kernel
theorem j69_104 : ax_in 69 104 = some (.return_, 1, 0, 0) := by decide +kernel
theorem j70_0 : ax_in 70 0 = some (.iload_n 1, 1, 0, 0) := by decide +kernel
theorem j70_1 : ax_in 70 1 = some (.istore_n 2, 1, 0, 0) := by decide +kernel
theorem j70_2 : ax_in 70 2 = some (.iconst 0, 1, 0, 0) := by decide +kernel
theorem j70_3 : ax_in 70 3 = some (.istore_n 3, 1, 0, 0) := by decide +kernel
theorem j70_4 : ax_in 70 4 = some (.iload_n 3, 1, 0, 0) := by decide +kernel
theorem j70_5 : ax_in 70 5 = some (.iconst 5, 1, 0, 0) := by decide +kernel
theorem j70_6 : ax_in 70 6 = some (.if_icmp .ge 26, 3, 0, 0) := by decide +kernel
theorem j70_9 : ax_in 70 9 = some (.iload_n 2, 1, 0, 0) := by decide +kernel
theorem j70_10 : ax_in 70 10 = some (.ifCond .le 22, 3, 0, 0) := by decide +kernel
theorem j70_13 : ax_in 70 13 = some (.aload_n 0, 1, 0, 0) := by decide +kernel
theorem j70_14 : ax_in 70 14 = some (.iload_n 2, 1, 0, 0) := by decide +kernel
theorem j70_15 : ax_in 70 15 = some (.bipush 27, 2, 0, 0) := by decide +kernel
theorem j70_17 : ax_in 70 17 = some (.irem, 1, 0, 0) := by decide +kernel
theorem j70_18 : ax_in 70 18 = some (.invokevirtual 149, 3, 71, 0) := by decide +kernel
theorem j70_21 : ax_in 70 21 = some (.iload_n 2, 1, 0, 0) := by decide +kernel
theorem j70_22 : ax_in 70 22 = some (.bipush 27, 2, 0, 0) := by decide +kernel
theorem j70_24 : ax_in 70 24 = some (.idiv, 1, 0, 0) := by decide +kernel
theorem j70_25 : ax_in 70 25 = some (.istore_n 2, 1, 0, 0) := by decide +kernel
theorem j70_26 : ax_in 70 26 = some (.iinc 3 1, 3, 0, 0) := by decide +kernel
theorem j70_29 : ax_in 70 29 = some (.goto (-25), 3, 0, 0) := by decide +kernel
theorem j70_32 : ax_in 70 32 = some (.return_, 1, 0, 0) := by decide +kernel
theorem j71_0 : ax_in 71 0 = some (.iload_n 1, 1, 0, 0) := by decide +kernel
theorem j71_1 : ax_in 71 1 = some (.istore_n 2, 1, 0, 0) := by decide +kernel
theorem j71_2 : ax_in 71 2 = some (.iconst 1, 1, 0, 0) := by decide +kernel
theorem j71_3 : ax_in 71 3 = some (.istore_n 3, 1, 0, 0) := by decide +kernel
theorem j71_4 : ax_in 71 4 = some (.iload_n 3, 1, 0, 0) := by decide +kernel
theorem j71_5 : ax_in 71 5 = some (.iconst 4, 1, 0, 0) := by decide +kernel
theorem j71_6 : ax_in 71 6 = some (.if_icmp .ge 35, 3, 0, 0) := by decide +kernel
theorem j71_9 : ax_in 71 9 = some (.iload_n 2, 1, 0, 0) := by decide +kernel
theorem j71_10 : ax_in 71 10 = some (.bipush 8, 2, 0, 0) := by decide +kernel
theorem j71_12 : ax_in 71 12 = some (.if_icmp .lt 29, 3, 0, 0) := by decide +kernel
theorem j71_15 : ax_in 71 15 = some (.aload_n 0, 1, 0, 0) := by decide +kernel
theorem j71_16 : ax_in 71 16 = some (.getfield 12, 3, 6, 0) := by decide +kernel
theorem j71_19 : ax_in 71 19 = some (.bipush 8, 2, 0, 0) := by decide +kernel
theorem j71_21 : ax_in 71 21 = some (.iload_n 2, 1, 0, 0) := by decide +kernel
theorem j71_22 : ax_in 71 22 = some (.bipush 8, 2, 0, 0) := by decide +kernel
theorem j71_24 : ax_in 71 24 = some (.irem, 1, 0, 0) := by decide +kernel
theorem j71_25 : ax_in 71 25 = some (.iadd, 1, 0, 0) := by decide +kernel
theorem j71_26 : ax_in 71 26 = some (.iconst 4, 1, 0, 0) := by decide +kernel
theorem j71_27 : ax_in 71 27 = some (.invokevirtual 173, 3, 2, 0) := by decide +kernel
theorem j71_30 : ax_in 71 30 = some (.iload_n 2, 1, 0, 0) := by decide +kernel
theorem j71_31 : ax_in 71 31 = some (.bipush 8, 2, 0, 0) := by decide +kernel
theorem j71_33 : ax_in 71 33 = some (.idiv, 1, 0, 0) := by decide +kernel
theorem j71_34 : ax_in 71 34 = some (.istore_n 2, 1, 0, 0) := by decide +kernel
theorem j71_35 : ax_in 71 35 = some (.iinc 3 1, 3, 0, 0) := by decide +kernel
theorem j71_38 : ax_in 71 38 = some (.goto (-34), 3, 0, 0) := by decide +kernel
theorem j71_41 : ax_in 71 41 = some (.aload_n 0, 1, 0, 0) := by decide +kernel
theorem j71_42 : ax_in 71 42 = some (.getfield 12, 3, 6, 0) := by decide +kernel
theorem j71_45 : ax_in 71 45 = some (.iload_n 2, 1, 0, 0) := by decide +kernel
theorem j71_46 : ax_in 71 46 = some (.iconst 4, 1, 0, 0) := by decide +kernel
theorem j71_47 : ax_in 71 47 = some (.invokevirtual 173, 3, 2, 0) := by decide +kernel
theorem j71_50 : ax_in 71 50 = some (.return_, 1, 0, 0) := by decide +kernel
theorem j72_0 : ax_in 72 0 = some (.aload_n 0, 1, 0, 0) := by decide +kernel
theorem j72_1 : ax_in 72 1 = some (.getfield 12, 3, 6, 0) := by decide +kernel
theorem j72_4 : ax_in 72 4 = some (.iload_n 1, 1, 0, 0) := by decide +kernel
theorem j72_5 : ax_in 72 5 = some (.iload_n 2, 1, 0, 0) := by decide +kernel
theorem j72_6 : ax_in 72 6 = some (.invokestatic 176, 3, 80, 2) := by decide +kernel
theorem j72_9 : ax_in 72 9 = some (.invokevirtual 173, 3, 2, 0) := by decide +kernel
theorem j72_12 : ax_in 72 12 = some (.return_, 1, 0, 0) := by decide +kernel
theorem j73_0 : ax_in 73 0 = some (.aload_n 0, 1, 0, 0) := by decide +kernel
theorem j73_1 : ax_in 73 1 = some (.getfield 10, 3, 7, 0) := by decide +kernel
theorem j73_4 : ax_in 73 4 = some (.invokevirtual 23, 3, 56, 0) := by decide +kernel
theorem j73_7 : ax_in 73 7 = some (.return_, 1, 0, 0) := by decide +kernel
theorem j74_0 : ax_in 74 0 = some (.aload_n 0, 1, 0, 0) := by decide +kernel
theorem j74_1 : ax_in 74 1 = some (.getfield 10, 3, 7, 0) := by decide +kernel
theorem j74_4 : ax_in 74 4 = some (.getfield 78, 3, 6, 0) := by decide +kernel
theorem j74_7 : ax_in 74 7 = some (.getfield 82, 3, 0, 1) := by decide +kernel
theorem j74_10 : ax_in 74 10 = some (.ireturn, 1, 0, 0) := by decide +kernel
theorem j75_0 : ax_in 75 0 = some (.aload_n 0, 1, 0, 0) := by decide +kernel
theorem j75_1 : ax_in 75 1 = some (.getfield 19, 3, 7, 1) := by decide +kernel
theorem j75_4 : ax_in 75 4 = some (.getfield 88, 3, 3, 0) := by decide +kernel
theorem j75_7 : ax_in 75 7 = some (.aload_n 0, 1, 0, 0) := by decide +kernel
theorem j75_8 : ax_in 75 8 = some (.getfield 10, 3, 7, 0) := by decide +kernel
theorem j75_11 : ax_in 75 11 = some (.getfield 78, 3, 6, 0) := by decide +kernel
theorem j75_14 : ax_in 75 14 = some (.invokevirtual 91, 3, 3, 0) := by decide +kernel
theorem j75_17 : ax_in 75 17 = some (.aload_n 0, 1, 0, 0) := by decide +kernel
theorem j75_18 : ax_in 75 18 = some (.getfield 19, 3, 7, 1) := by decide +kernel
theorem j75_21 : ax_in 75 21 = some (.getfield 88, 3, 3, 0) := by decide +kernel
theorem j75_24 : ax_in 75 24 = some (.getfield 82, 3, 0, 1) := by decide +kernel
theorem j75_27 : ax_in 75 27 = some (.ireturn, 1, 0, 0) := by decide +kernel
theorem j76_0 : ax_in 76 0 = some (.aload_n 0, 1, 0, 0) := by decide +kernel
theorem j76_1 : ax_in 76 1 = some (.getfield 19, 3, 7, 1) := by decide +kernel
theorem j76_4 : ax_in 76 4 = some (.getfield 136, 3, 3, 4) := by decide +kernel
theorem j76_7 : ax_in 76 7 = some (.ireturn, 1, 0, 0) := by decide +kernel
theorem j77_0 : ax_in 77 0 = some (.iload_n 0, 1, 0, 0) := by decide +kernel
theorem j77_1 : ax_in 77 1 = some (.istore_n 1, 1, 0, 0) := by decide +kernel
theorem j77_2 : ax_in 77 2 = some (.iconst 0, 1, 0, 0) := by decide +kernel
theorem j77_3 : ax_in 77 3 = some (.istore_n 2, 1, 0, 0) := by decide +kernel
theorem j77_4 : ax_in 77 4 = some (.iload_n 2, 1, 0, 0) := by decide +kernel
theorem j77_5 : ax_in 77 5 = some (.iconst 5, 1, 0, 0) := by decide +kernel
theorem j77_6 : ax_in 77 6 = some (.if_icmp .ge 27, 3, 0, 0) := by decide +kernel
theorem j77_9 : ax_in 77 9 = some (.iload_n 1, 1, 0, 0) := by decide +kernel
theorem j77_10 : ax_in 77 10 = some (.ifCond .le 23, 3, 0, 0) := by decide +kernel
theorem j77_13 : ax_in 77 13 = some (.iload_n 1, 1, 0, 0) := by decide +kernel
theorem j77_14 : ax_in 77 14 = some (.bipush 27, 2, 0, 0) := by decide +kernel
theorem j77_16 : ax_in 77 16 = some (.irem, 1, 0, 0) := by decide +kernel
theorem j77_17 : ax_in 77 17 = some (.ifCond .ne 5, 3, 0, 0) := by decide +kernel
theorem j77_20 : ax_in 77 20 = some (.iconst 0, 1, 0, 0) := by decide +kernel
theorem j77_21 : ax_in 77 21 = some (.ireturn, 1, 0, 0) := by decide +kernel
theorem j77_22 : ax_in 77 22 = some (.iload_n 1, 1, 0, 0) := by decide +kernel
theorem j77_23 : ax_in 77 23 = some (.bipush 27, 2, 0, 0) := by decide +kernel
theorem j77_25 : ax_in 77 25 = some (.idiv, 1, 0, 0) := by decide +kernel
theorem j77_26 : ax_in 77 26 = some (.istore_n 1, 1, 0, 0) := by decide +kernel
theorem j77_27 : ax_in 77 27 = some (.iinc 2 1, 3, 0, 0) := by decide +kernel
theorem j77_30 : ax_in 77 30 = some (.goto (-26), 3, 0, 0) := by decide +kernel
theorem j77_33 : ax_in 77 33 = some (.iload_n 1, 1, 0, 0) := by decide +kernel
theorem j77_34 : ax_in 77 34 = some (.ifCond .ne 7, 3, 0, 0) := by decide +kernel
theorem j77_37 : ax_in 77 37 = some (.iconst 1, 1, 0, 0) := by decide +kernel
theorem j77_38 : ax_in 77 38 = some (.goto 4, 3, 0, 0) := by decide +kernel
theorem j77_41 : ax_in 77 41 = some (.iconst 0, 1, 0, 0) := by decide +kernel
theorem j77_42 : ax_in 77 42 = some (.ireturn, 1, 0, 0) := by decide +kernel
theorem j78_0 : ax_in 78 0 = some (.iload_n 0, 1, 0, 0) := by decide +kernel
theorem j78_1 : ax_in 78 1 = some (.invokestatic 55, 3, 77, 1) := by decide +kernel
theorem j78_4 : ax_in 78 4 = some (.ifCond .eq 18, 3, 0, 0) := by decide +kernel
theorem j78_7 : ax_in 78 7 = some (.iload_n 1, 1, 0, 0) := by decide +kernel
theorem j78_8 : ax_in 78 8 = some (.invokestatic 55, 3, 77, 1) := by decide +kernel
theorem j78_11 : ax_in 78 11 = some (.ifCond .eq 11, 3, 0, 0) := by decide +kernel
theorem j78_14 : ax_in 78 14 = some (.iload_n 1, 1, 0, 0) := by decide +kernel
theorem j78_15 : ax_in 78 15 = some (.ifCond .eq 7, 3, 0, 0) := by decide +kernel
theorem j78_18 : ax_in 78 18 = some (.iconst 1, 1, 0, 0) := by decide +kernel
theorem j78_19 : ax_in 78 19 = some (.goto 4, 3, 0, 0) := by decide +kernel
theorem j78_22 : ax_in 78 22 = some (.iconst 0, 1, 0, 0) := by decide +kernel
theorem j78_23 : ax_in 78 23 = some (.ireturn, 1, 0, 0) := by decide +kernel
theorem j79_0 : ax_in 79 0 = some (.iconst 0, 1, 0, 0) := by decide +kernel
theorem j79_1 : ax_in 79 1 = some (.istore_n 1, 1, 0, 0) := by decide +kernel
theorem j79_2 : ax_in 79 2 = some (.iload_n 0, 1, 0, 0) := by decide +kernel
theorem j79_3 : ax_in 79 3 = some (.istore_n 2, 1, 0, 0) := by decide +kernel
theorem j79_4 : ax_in 79 4 = some (.iload_n 1, 1, 0, 0) := by decide +kernel
theorem j79_5 : ax_in 79 5 = some (.iconst 5, 1, 0, 0) := by decide +kernel
theorem j79_6 : ax_in 79 6 = some (.if_icmp .ge 18, 3, 0, 0) := by decide +kernel
theorem j79_9 : ax_in 79 9 = some (.iload_n 2, 1, 0, 0) := by decide +kernel
theorem j79_10 : ax_in 79 10 = some (.ifCond .le 14, 3, 0, 0) := by decide +kernel
theorem j79_13 : ax_in 79 13 = some (.iload_n 2, 1, 0, 0) := by decide +kernel
theorem j79_14 : ax_in 79 14 = some (.bipush 27, 2, 0, 0) := by decide +kernel
theorem j79_16 : ax_in 79 16 = some (.idiv, 1, 0, 0) := by decide +kernel
theorem j79_17 : ax_in 79 17 = some (.istore_n 2, 1, 0, 0) := by decide +kernel
theorem j79_18 : ax_in 79 18 = some (.iinc 1 1, 3, 0, 0) := by decide +kernel
theorem j79_21 : ax_in 79 21 = some (.goto (-17), 3, 0, 0) := by decide +kernel
theorem j79_24 : ax_in 79 24 = some (.iload_n 1, 1, 0, 0) := by decide +kernel
theorem j79_25 : ax_in 79 25 = some (.ireturn, 1, 0, 0) := by decide +kernel
theorem j80_0 : ax_in 80 0 = some (.iconst 0, 1, 0, 0) := by decide +kernel
theorem j80_1 : ax_in 80 1 = some (.istore_n 1, 1, 0, 0) := by decide +kernel
theorem j80_2 : ax_in 80 2 = some (.iload_n 1, 1, 0, 0) := by decide +kernel
theorem j80_3 : ax_in 80 3 = some (.bipush 30, 2, 0, 0) := by decide +kernel
theorem j80_5 : ax_in 80 5 = some (.if_icmp .ge 16, 3, 0, 0) := by decide +kernel
theorem j80_8 : ax_in 80 8 = some (.iconst 1, 1, 0, 0) := by decide +kernel
theorem j80_9 : ax_in 80 9 = some (.iload_n 1, 1, 0, 0) := by decide +kernel
theorem j80_10 : ax_in 80 10 = some (.ishl, 1, 0, 0) := by decide +kernel
theorem j80_11 : ax_in 80 11 = some (.iload_n 0, 1, 0, 0) := by decide +kernel
theorem j80_12 : ax_in 80 12 = some (.if_icmp .ge 9, 3, 0, 0) := by decide +kernel
theorem j80_15 : ax_in 80 15 = some (.iinc 1 1, 3, 0, 0) := by decide +kernel
theorem j80_18 : ax_in 80 18 = some (.goto (-16), 3, 0, 0) := by decide +kernel
theorem j80_21 : ax_in 80 21 = some (.iload_n 1, 1, 0, 0) := by decide +kernel
theorem j80_22 : ax_in 80 22 = some (.ireturn, 1, 0, 0) := by decide +kernel
theorem j81_0 : ax_in 81 0 = some (.iload_n 0, 1, 0, 0) := by decide +kernel
theorem j81_1 : ax_in 81 1 = some (.iconst 1, 1, 0, 0) := by decide +kernel
theorem j81_2 : ax_in 81 2 = some (.if_icmp .eq 8, 3, 0, 0) := by decide +kernel
theorem j81_5 : ax_in 81 5 = some (.iload_n 0, 1, 0, 0) := by decide +kernel
theorem j81_6 : ax_in 81 6 = some (.iconst 2, 1, 0, 0) := by decide +kernel
theorem j81_7 : ax_in 81 7 = some (.if_icmp .ne 7, 3, 0, 0) := by decide +kernel
theorem j81_10 : ax_in 81 10 = some (.iconst 1, 1, 0, 0) := by decide +kernel
theorem j81_11 : ax_in 81 11 = some (.goto 4, 3, 0, 0) := by decide +kernel
theorem j81_14 : ax_in 81 14 = some (.iconst 0, 1, 0, 0) := by decide +kernel
theorem j81_15 : ax_in 81 15 = some (.ireturn, 1, 0, 0) := by decide +kernel
theorem j82_0 : ax_in 82 0 = some (.iload_n 1, 1, 0, 0) := by decide +kernel
theorem j82_1 : ax_in 82 1 = some (.bipush 8, 2, 0, 0) := by decide +kernel
theorem j82_3 : ax_in 82 3 = some (.imul, 1, 0, 0) := by decide +kernel
theorem j82_4 : ax_in 82 4 = some (.iload_n 0, 1, 0, 0) := by decide +kernel
theorem j82_5 : ax_in 82 5 = some (.iadd, 1, 0, 0) := by decide +kernel
theorem j82_6 : ax_in 82 6 = some (.ireturn, 1, 0, 0) := by decide +kernel
theorem j83_0 : ax_in 83 0 = some (.iload_n 0, 1, 0, 0) := by decide +kernel
theorem j83_1 : ax_in 83 1 = some (.bipush 8, 2, 0, 0) := by decide +kernel
theorem j83_3 : ax_in 83 3 = some (.irem, 1, 0, 0) := by decide +kernel
theorem j83_4 : ax_in 83 4 = some (.ireturn, 1, 0, 0) := by decide +kernel
theorem j84_0 : ax_in 84 0 = some (.iload_n 0, 1, 0, 0) := by decide +kernel
theorem j84_1 : ax_in 84 1 = some (.bipush 8, 2, 0, 0) := by decide +kernel
theorem j84_3 : ax_in 84 3 = some (.idiv, 1, 0, 0) := by decide +kernel
theorem j84_4 : ax_in 84 4 = some (.ireturn, 1, 0, 0) := by decide +kernel
