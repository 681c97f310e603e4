theorem j85_0 : ax_in 85 0 = some (.aload_n 0, 1, 0, 0) := by decide +kernel
theorem j85_1 : ax_in 85 1 = some (.getfield 80, 3, 8, 0) := by decide +kernel
theorem j85_4 : ax_in 85 4 = some (.ireturn, 1, 0, 0) := by decide +kernel
theorem j86_0 : ax_in 86 0 = some (.aload_n 0, 1, 0, 0) := by decide +kernel
theorem j86_1 : ax_in 86 1 = some (.getfield 7, 3, 8, 1) := by decide +kernel
theorem j86_4 : ax_in 86 4 = some (.iload_n 1, 1, 0, 0) := by decide +kernel
theorem j86_5 : ax_in 86 5 = some (.iconst 1, 1, 0, 0) := by decide +kernel
theorem j86_6 : ax_in 86 6 = some (.iastore, 1, 0, 0) := by decide +kernel
theorem j86_7 : ax_in 86 7 = some (.aload_n 0, 1, 0, 0) := by decide +kernel
theorem j86_8 : ax_in 86 8 = some (.getfield 13, 3, 8, 2) := by decide +kernel
theorem j86_11 : ax_in 86 11 = some (.bipush 6, 2, 0, 0) := by decide +kernel
theorem j86_13 : ax_in 86 13 = some (.iload_n 1, 1, 0, 0) := by decide +kernel
theorem j86_14 : ax_in 86 14 = some (.imul, 1, 0, 0) := by decide +kernel
theorem j86_15 : ax_in 86 15 = some (.iconst 0, 1, 0, 0) := by decide +kernel
theorem j86_16 : ax_in 86 16 = some (.iastore, 1, 0, 0) := by decide +kernel
theorem j86_17 : ax_in 86 17 = some (.iconst 0, 1, 0, 0) := by decide +kernel
theorem j86_18 : ax_in 86 18 = some (.istore_n 2, 1, 0, 0) := by decide +kernel
theorem j86_19 : ax_in 86 19 = some (.iload_n 2, 1, 0, 0) := by decide +kernel
theorem j86_20 : ax_in 86 20 = some (.bipush 6, 2, 0, 0) := by decide +kernel
theorem j86_22 : ax_in 86 22 = some (.if_icmp .ge 21, 3, 0, 0) := by decide +kernel
theorem j86_25 : ax_in 86 25 = some (.aload_n 0, 1, 0, 0) := by decide +kernel
theorem j86_26 : ax_in 86 26 = some (.getfield 16, 3, 8, 3) := by decide +kernel
theorem j86_29 : ax_in 86 29 = some (.bipush 6, 2, 0, 0) := by decide +kernel
theorem j86_31 : ax_in 86 31 = some (.iload_n 1, 1, 0, 0) := by decide +kernel
theorem j86_32 : ax_in 86 32 = some (.imul, 1, 0, 0) := by decide +kernel
theorem j86_33 : ax_in 86 33 = some (.iload_n 2, 1, 0, 0) := by decide +kernel
theorem j86_34 : ax_in 86 34 = some (.iadd, 1, 0, 0) := by decide +kernel
theorem j86_35 : ax_in 86 35 = some (.iconst 0, 1, 0, 0) := by decide +kernel
theorem j86_36 : ax_in 86 36 = some (.iastore, 1, 0, 0) := by decide +kernel
theorem j86_37 : ax_in 86 37 = some (.iinc 2 1, 3, 0, 0) := by decide +kernel
theorem j86_40 : ax_in 86 40 = some (.goto (-21), 3, 0, 0) := by decide +kernel
theorem j86_43 : ax_in 86 43 = some (.aload_n 0, 1, 0, 0) := by decide +kernel
theorem j86_44 : ax_in 86 44 = some (.getfield 22, 3, 8, 5) := by decide +kernel
theorem j86_47 : ax_in 86 47 = some (.iload_n 1, 1, 0, 0) := by decide +kernel
theorem j86_48 : ax_in 86 48 = some (.iconst 0, 1, 0, 0) := by decide +kernel
theorem j86_49 : ax_in 86 49 = some (.iastore, 1, 0, 0) := by decide +kernel
theorem j86_50 : ax_in 86 50 = some (.aload_n 0, 1, 0, 0) := by decide +kernel
theorem j86_51 : ax_in 86 51 = some (.getfield 37, 3, 8, 10) := by decide +kernel
theorem j86_54 : ax_in 86 54 = some (.iload_n 1, 1, 0, 0) := by decide +kernel
theorem j86_55 : ax_in 86 55 = some (.iconst 0, 1, 0, 0) := by decide +kernel
theorem j86_56 : ax_in 86 56 = some (.iastore, 1, 0, 0) := by decide +kernel
theorem j86_57 : ax_in 86 57 = some (.aload_n 0, 1, 0, 0) := by decide +kernel
theorem j86_58 : ax_in 86 58 = some (.getfield 49, 3, 8, 14) := by decide +kernel
theorem j86_61 : ax_in 86 61 = some (.iload_n 1, 1, 0, 0) := by decide +kernel
theorem j86_62 : ax_in 86 62 = some (.iconst 0, 1, 0, 0) := by decide +kernel
theorem j86_63 : ax_in 86 63 = some (.iastore, 1, 0, 0) := by decide +kernel
theorem j86_64 : ax_in 86 64 = some (.aload_n 0, 1, 0, 0) := by decide +kernel
theorem j86_65 : ax_in 86 65 = some (.getfield 59, 3, 8, 17) := by decide +kernel
theorem j86_68 : ax_in 86 68 = some (.iload_n 1, 1, 0, 0) := by decide +kernel
theorem j86_69 : ax_in 86 69 = some (.iconst 0, 1, 0, 0) := by decide +kernel
theorem j86_70 : ax_in 86 70 = some (.bastore, 1, 0, 0) := by decide +kernel
theorem j86_71 : ax_in 86 71 = some (.return_, 1, 0, 0) := by decide +kernel
theorem j87_0 : ax_in 87 0 = some (.iconst 0, 1, 0, 0) := by decide +kernel
theorem j87_1 : ax_in 87 1 = some (.istore_n 1, 1, 0, 0) := by decide +kernel
theorem j87_2 : ax_in 87 2 = some (.iload_n 0, 1, 0, 0) := by decide +kernel
theorem j87_3 : ax_in 87 3 = some (.istore_n 2, 1, 0, 0) := by decide +kernel
theorem j87_4 : ax_in 87 4 = some (.iload_n 2, 1, 0, 0) := by decide +kernel
theorem j87_5 : ax_in 87 5 = some (.ifCond .le 14, 3, 0, 0) := by decide +kernel
theorem j87_8 : ax_in 87 8 = some (.iinc 1 1, 3, 0, 0) := by decide +kernel
theorem j87_11 : ax_in 87 11 = some (.iload_n 2, 1, 0, 0) := by decide +kernel
theorem j87_12 : ax_in 87 12 = some (.bipush 27, 2, 0, 0) := by decide +kernel
theorem j87_14 : ax_in 87 14 = some (.idiv, 1, 0, 0) := by decide +kernel
theorem j87_15 : ax_in 87 15 = some (.istore_n 2, 1, 0, 0) := by decide +kernel
theorem j87_16 : ax_in 87 16 = some (.goto (-12), 3, 0, 0) := by decide +kernel
theorem j87_19 : ax_in 87 19 = some (.iload_n 1, 1, 0, 0) := by decide +kernel
theorem j87_20 : ax_in 87 20 = some (.ireturn, 1, 0, 0) := by decide +kernel
theorem j88_0 : ax_in 88 0 = some (.iload_n 0, 1, 0, 0) := by decide +kernel
theorem j88_1 : ax_in 88 1 = some (.ifCond .lt 11, 3, 0, 0) := by decide +kernel
theorem j88_4 : ax_in 88 4 = some (.iload_n 0, 1, 0, 0) := by decide +kernel
theorem j88_5 : ax_in 88 5 = some (.invokestatic 84, 3, 87, 1) := by decide +kernel
theorem j88_8 : ax_in 88 8 = some (.iconst 5, 1, 0, 0) := by decide +kernel
theorem j88_9 : ax_in 88 9 = some (.if_icmp .le 5, 3, 0, 0) := by decide +kernel
theorem j88_12 : ax_in 88 12 = some (.iconst 0, 1, 0, 0) := by decide +kernel
theorem j88_13 : ax_in 88 13 = some (.ireturn, 1, 0, 0) := by decide +kernel
theorem j88_14 : ax_in 88 14 = some (.iload_n 0, 1, 0, 0) := by decide +kernel
theorem j88_15 : ax_in 88 15 = some (.istore_n 1, 1, 0, 0) := by decide +kernel
theorem j88_16 : ax_in 88 16 = some (.iload_n 1, 1, 0, 0) := by decide +kernel
theorem j88_17 : ax_in 88 17 = some (.ifCond .le 20, 3, 0, 0) := by decide +kernel
theorem j88_20 : ax_in 88 20 = some (.iload_n 1, 1, 0, 0) := by decide +kernel
theorem j88_21 : ax_in 88 21 = some (.bipush 27, 2, 0, 0) := by decide +kernel
theorem j88_23 : ax_in 88 23 = some (.irem, 1, 0, 0) := by decide +kernel
theorem j88_24 : ax_in 88 24 = some (.ifCond .ne 5, 3, 0, 0) := by decide +kernel
theorem j88_27 : ax_in 88 27 = some (.iconst 0, 1, 0, 0) := by decide +kernel
theorem j88_28 : ax_in 88 28 = some (.ireturn, 1, 0, 0) := by decide +kernel
theorem j88_29 : ax_in 88 29 = some (.iload_n 1, 1, 0, 0) := by decide +kernel
theorem j88_30 : ax_in 88 30 = some (.bipush 27, 2, 0, 0) := by decide +kernel
theorem j88_32 : ax_in 88 32 = some (.idiv, 1, 0, 0) := by decide +kernel
theorem j88_33 : ax_in 88 33 = some (.istore_n 1, 1, 0, 0) := by decide +kernel
theorem j88_34 : ax_in 88 34 = some (.goto (-18), 3, 0, 0) := by decide +kernel
theorem j88_37 : ax_in 88 37 = some (.iconst 1, 1, 0, 0) := by decide +kernel
theorem j88_38 : ax_in 88 38 = some (.ireturn, 1, 0, 0) := by decide +kernel
theorem j89_0 : ax_in 89 0 = some (.iconst 0, 1, 0, 0) := by decide +kernel
theorem j89_1 : ax_in 89 1 = some (.istore_n 3, 1, 0, 0) := by decide +kernel
theorem j89_2 : ax_in 89 2 = some (.iload_n 3, 1, 0, 0) := by decide +kernel
theorem j89_3 : ax_in 89 3 = some (.aload_n 0, 1, 0, 0) := by decide +kernel
theorem j89_4 : ax_in 89 4 = some (.getfield 7, 3, 8, 1) := by decide +kernel
theorem j89_7 : ax_in 89 7 = some (.iload_n 1, 1, 0, 0) := by decide +kernel
theorem j89_8 : ax_in 89 8 = some (.iaload, 1, 0, 0) := by decide +kernel
theorem j89_9 : ax_in 89 9 = some (.if_icmp .ge 24, 3, 0, 0) := by decide +kernel
theorem j89_12 : ax_in 89 12 = some (.aload_n 0, 1, 0, 0) := by decide +kernel
theorem j89_13 : ax_in 89 13 = some (.getfield 13, 3, 8, 2) := by decide +kernel
theorem j89_16 : ax_in 89 16 = some (.bipush 6, 2, 0, 0) := by decide +kernel
theorem j89_18 : ax_in 89 18 = some (.iload_n 1, 1, 0, 0) := by decide +kernel
theorem j89_19 : ax_in 89 19 = some (.imul, 1, 0, 0) := by decide +kernel
theorem j89_20 : ax_in 89 20 = some (.iload_n 3, 1, 0, 0) := by decide +kernel
theorem j89_21 : ax_in 89 21 = some (.iadd, 1, 0, 0) := by decide +kernel
theorem j89_22 : ax_in 89 22 = some (.iaload, 1, 0, 0) := by decide +kernel
theorem j89_23 : ax_in 89 23 = some (.iload_n 2, 1, 0, 0) := by decide +kernel
theorem j89_24 : ax_in 89 24 = some (.if_icmp .eq 9, 3, 0, 0) := by decide +kernel
theorem j89_27 : ax_in 89 27 = some (.iinc 3 1, 3, 0, 0) := by decide +kernel
theorem j89_30 : ax_in 89 30 = some (.goto (-28), 3, 0, 0) := by decide +kernel
theorem j89_33 : ax_in 89 33 = some (.iload_n 3, 1, 0, 0) := by decide +kernel
theorem j89_34 : ax_in 89 34 = some (.aload_n 0, 1, 0, 0) := by decide +kernel
theorem j89_35 : ax_in 89 35 = some (.getfield 7, 3, 8, 1) := by decide +kernel
theorem j89_38 : ax_in 89 38 = some (.iload_n 1, 1, 0, 0) := by decide +kernel
theorem j89_39 : ax_in 89 39 = some (.iaload, 1, 0, 0) := by decide +kernel
theorem j89_40 : ax_in 89 40 = some (.if_icmp .ge 7, 3, 0, 0) := by decide +kernel
theorem j89_43 : ax_in 89 43 = some (.iload_n 3, 1, 0, 0) := by decide +kernel
theorem j89_44 : ax_in 89 44 = some (.goto 4, 3, 0, 0) := by decide +kernel
theorem j89_47 : ax_in 89 47 = some (.iconst (-1), 1, 0, 0) := by decide +kernel
theorem j89_48 : ax_in 89 48 = some (.ireturn, 1, 0, 0) := by decide +kernel
theorem j90_0 : ax_in 90 0 = some (.bipush 6, 2, 0, 0) := by decide +kernel
theorem j90_2 : ax_in 90 2 = some (.iload_n 1, 1, 0, 0) := by decide +kernel
theorem j90_3 : ax_in 90 3 = some (.imul, 1, 0, 0) := by decide +kernel
theorem j90_4 : ax_in 90 4 = some (.iload_n 2, 1, 0, 0) := by decide +kernel
theorem j90_5 : ax_in 90 5 = some (.iadd, 1, 0, 0) := by decide +kernel
theorem j90_6 : ax_in 90 6 = some (.istore 4, 2, 0, 0) := by decide +kernel
theorem j90_8 : ax_in 90 8 = some (.iconst 0, 1, 0, 0) := by decide +kernel
theorem j90_9 : ax_in 90 9 = some (.istore 5, 2, 0, 0) := by decide +kernel
theorem j90_11 : ax_in 90 11 = some (.iload 5, 2, 0, 0) := by decide +kernel
theorem j90_13 : ax_in 90 13 = some (.aload_n 0, 1, 0, 0) := by decide +kernel
theorem j90_14 : ax_in 90 14 = some (.getfield 16, 3, 8, 3) := by decide +kernel
theorem j90_17 : ax_in 90 17 = some (.iload 4, 2, 0, 0) := by decide +kernel
theorem j90_19 : ax_in 90 19 = some (.iaload, 1, 0, 0) := by decide +kernel
theorem j90_20 : ax_in 90 20 = some (.if_icmp .ge 26, 3, 0, 0) := by decide +kernel
theorem j90_23 : ax_in 90 23 = some (.aload_n 0, 1, 0, 0) := by decide +kernel
theorem j90_24 : ax_in 90 24 = some (.getfield 19, 3, 8, 4) := by decide +kernel
theorem j90_27 : ax_in 90 27 = some (.bipush 10, 2, 0, 0) := by decide +kernel
theorem j90_29 : ax_in 90 29 = some (.iload 4, 2, 0, 0) := by decide +kernel
theorem j90_31 : ax_in 90 31 = some (.imul, 1, 0, 0) := by decide +kernel
theorem j90_32 : ax_in 90 32 = some (.iload 5, 2, 0, 0) := by decide +kernel
theorem j90_34 : ax_in 90 34 = some (.iadd, 1, 0, 0) := by decide +kernel
theorem j90_35 : ax_in 90 35 = some (.iaload, 1, 0, 0) := by decide +kernel
theorem j90_36 : ax_in 90 36 = some (.iload_n 3, 1, 0, 0) := by decide +kernel
theorem j90_37 : ax_in 90 37 = some (.if_icmp .eq 9, 3, 0, 0) := by decide +kernel
theorem j90_40 : ax_in 90 40 = some (.iinc 5 1, 3, 0, 0) := by decide +kernel
theorem j90_43 : ax_in 90 43 = some (.goto (-32), 3, 0, 0) := by decide +kernel
theorem j90_46 : ax_in 90 46 = some (.iload 5, 2, 0, 0) := by decide +kernel
theorem j90_48 : ax_in 90 48 = some (.aload_n 0, 1, 0, 0) := by decide +kernel
theorem j90_49 : ax_in 90 49 = some (.getfield 16, 3, 8, 3) := by decide +kernel
theorem j90_52 : ax_in 90 52 = some (.iload 4, 2, 0, 0) := by decide +kernel
theorem j90_54 : ax_in 90 54 = some (.iaload, 1, 0, 0) := by decide +kernel
theorem j90_55 : ax_in 90 55 = some (.if_icmp .ge 8, 3, 0, 0) := by decide +kernel
theorem j90_58 : ax_in 90 58 = some (.iload 5, 2, 0, 0) := by decide +kernel
theorem j90_60 : ax_in 90 60 = some (.goto 4, 3, 0, 0) := by decide +kernel
theorem j90_63 : ax_in 90 63 = some (.iconst (-1), 1, 0, 0) := by decide +kernel
theorem j90_64 : ax_in 90 64 = some (.ireturn, 1, 0, 0) := by decide +kernel
theorem j91_0 : ax_in 91 0 = some (.iconst 0, 1, 0, 0) := by decide +kernel
theorem j91_1 : ax_in 91 1 = some (.istore 4, 2, 0, 0) := by decide +kernel
theorem j91_3 : ax_in 91 3 = some (.iload 4, 2, 0, 0) := by decide +kernel
theorem j91_5 : ax_in 91 5 = some (.aload_n 0, 1, 0, 0) := by decide +kernel
theorem j91_6 : ax_in 91 6 = some (.getfield 22, 3, 8, 5) := by decide +kernel
theorem j91_9 : ax_in 91 9 = some (.iload_n 1, 1, 0, 0) := by decide +kernel
theorem j91_10 : ax_in 91 10 = some (.iaload, 1, 0, 0) := by decide +kernel
theorem j91_11 : ax_in 91 11 = some (.if_icmp .ge 44, 3, 0, 0) := by decide +kernel
theorem j91_14 : ax_in 91 14 = some (.aload_n 0, 1, 0, 0) := by decide +kernel
theorem j91_15 : ax_in 91 15 = some (.getfield 25, 3, 8, 6) := by decide +kernel
theorem j91_18 : ax_in 91 18 = some (.bipush 20, 2, 0, 0) := by decide +kernel
theorem j91_20 : ax_in 91 20 = some (.iload_n 1, 1, 0, 0) := by decide +kernel
theorem j91_21 : ax_in 91 21 = some (.imul, 1, 0, 0) := by decide +kernel
theorem j91_22 : ax_in 91 22 = some (.iload 4, 2, 0, 0) := by decide +kernel
theorem j91_24 : ax_in 91 24 = some (.iadd, 1, 0, 0) := by decide +kernel
theorem j91_25 : ax_in 91 25 = some (.iaload, 1, 0, 0) := by decide +kernel
theorem j91_26 : ax_in 91 26 = some (.iload_n 2, 1, 0, 0) := by decide +kernel
theorem j91_27 : ax_in 91 27 = some (.if_icmp .ne 22, 3, 0, 0) := by decide +kernel
theorem j91_30 : ax_in 91 30 = some (.aload_n 0, 1, 0, 0) := by decide +kernel
theorem j91_31 : ax_in 91 31 = some (.getfield 28, 3, 8, 7) := by decide +kernel
theorem j91_34 : ax_in 91 34 = some (.bipush 20, 2, 0, 0) := by decide +kernel
theorem j91_36 : ax_in 91 36 = some (.iload_n 1, 1, 0, 0) := by decide +kernel
theorem j91_37 : ax_in 91 37 = some (.imul, 1, 0, 0) := by decide +kernel
theorem j91_38 : ax_in 91 38 = some (.iload 4, 2, 0, 0) := by decide +kernel
theorem j91_40 : ax_in 91 40 = some (.iadd, 1, 0, 0) := by decide +kernel
theorem j91_41 : ax_in 91 41 = some (.iaload, 1, 0, 0) := by decide +kernel
theorem j91_42 : ax_in 91 42 = some (.iload_n 3, 1, 0, 0) := by decide +kernel
theorem j91_43 : ax_in 91 43 = some (.if_icmp .ne 6, 3, 0, 0) := by decide +kernel
theorem j91_46 : ax_in 91 46 = some (.iload 4, 2, 0, 0) := by decide +kernel
theorem j91_48 : ax_in 91 48 = some (.ireturn, 1, 0, 0) := by decide +kernel
theorem j91_49 : ax_in 91 49 = some (.iinc 4 1, 3, 0, 0) := by decide +kernel
theorem j91_52 : ax_in 91 52 = some (.goto (-49), 3, 0, 0) := by decide +kernel
theorem j91_55 : ax_in 91 55 = some (.iconst (-1), 1, 0, 0) := by decide +kernel
theorem j91_56 : ax_in 91 56 = some (.ireturn, 1, 0, 0) := by decide +kernel
theorem j92_0 : ax_in 92 0 = some (.aload_n 0, 1, 0, 0) := by decide +kernel
theorem j92_1 : ax_in 92 1 = some (.getfield 22, 3, 8, 5) := by decide +kernel
theorem j92_4 : ax_in 92 4 = some (.iload_n 1, 1, 0, 0) := by decide +kernel
theorem j92_5 : ax_in 92 5 = some (.iaload, 1, 0, 0) := by decide +kernel
theorem j92_6 : ax_in 92 6 = some (.istore 4, 2, 0, 0) := by decide +kernel
theorem j92_8 : ax_in 92 8 = some (.aload_n 0, 1, 0, 0) := by decide +kernel
theorem j92_9 : ax_in 92 9 = some (.getfield 22, 3, 8, 5) := by decide +kernel
theorem j92_12 : ax_in 92 12 = some (.iload_n 1, 1, 0, 0) := by decide +kernel
theorem j92_13 : ax_in 92 13 = some (.dup2, 1, 0, 0) := by decide +kernel
theorem j92_14 : ax_in 92 14 = some (.iaload, 1, 0, 0) := by decide +kernel
theorem j92_15 : ax_in 92 15 = some (.iconst 1, 1, 0, 0) := by decide +kernel
theorem j92_16 : ax_in 92 16 = some (.iadd, 1, 0, 0) := by decide +kernel
theorem j92_17 : ax_in 92 17 = some (.iastore, 1, 0, 0) := by decide +kernel
theorem j92_18 : ax_in 92 18 = some (.aload_n 0, 1, 0, 0) := by decide +kernel
theorem j92_19 : ax_in 92 19 = some (.getfield 25, 3, 8, 6) := by decide +kernel
theorem j92_22 : ax_in 92 22 = some (.bipush 20, 2, 0, 0) := by decide +kernel
theorem j92_24 : ax_in 92 24 = some (.iload_n 1, 1, 0, 0) := by decide +kernel
theorem j92_25 : ax_in 92 25 = some (.imul, 1, 0, 0) := by decide +kernel
theorem j92_26 : ax_in 92 26 = some (.iload 4, 2, 0, 0) := by decide +kernel
theorem j92_28 : ax_in 92 28 = some (.iadd, 1, 0, 0) := by decide +kernel
theorem j92_29 : ax_in 92 29 = some (.iload_n 2, 1, 0, 0) := by decide +kernel
theorem j92_30 : ax_in 92 30 = some (.iastore, 1, 0, 0) := by decide +kernel
theorem j92_31 : ax_in 92 31 = some (.aload_n 0, 1, 0, 0) := by decide +kernel
theorem j92_32 : ax_in 92 32 = some (.getfield 28, 3, 8, 7) := by decide +kernel
theorem j92_35 : ax_in 92 35 = some (.bipush 20, 2, 0, 0) := by decide +kernel
theorem j92_37 : ax_in 92 37 = some (.iload_n 1, 1, 0, 0) := by decide +kernel
theorem j92_38 : ax_in 92 38 = some (.imul, 1, 0, 0) := by decide +kernel
theorem j92_39 : ax_in 92 39 = some (.iload 4, 2, 0, 0) := by decide +kernel
theorem j92_41 : ax_in 92 41 = some (.iadd, 1, 0, 0) := by decide +kernel
theorem j92_42 : ax_in 92 42 = some (.iload_n 3, 1, 0, 0) := by decide +kernel
theorem j92_43 : ax_in 92 43 = some (.iastore, 1, 0, 0) := by decide +kernel
theorem j92_44 : ax_in 92 44 = some (.aload_n 0, 1, 0, 0) := by decide +kernel
theorem j92_45 : ax_in 92 45 = some (.getfield 31, 3, 8, 8) := by decide +kernel
theorem j92_48 : ax_in 92 48 = some (.bipush 20, 2, 0, 0) := by decide +kernel
theorem j92_50 : ax_in 92 50 = some (.iload_n 1, 1, 0, 0) := by decide +kernel
theorem j92_51 : ax_in 92 51 = some (.imul, 1, 0, 0) := by decide +kernel
theorem j92_52 : ax_in 92 52 = some (.iload 4, 2, 0, 0) := by decide +kernel
theorem j92_54 : ax_in 92 54 = some (.iadd, 1, 0, 0) := by decide +kernel
theorem j92_55 : ax_in 92 55 = some (.iconst 0, 1, 0, 0) := by decide +kernel
theorem j92_56 : ax_in 92 56 = some (.iastore, 1, 0, 0) := by decide +kernel
theorem j92_57 : ax_in 92 57 = some (.aload_n 0, 1, 0, 0) := by decide +kernel
theorem j92_58 : ax_in 92 58 = some (.getfield 43, 3, 8, 12) := by decide +kernel
theorem j92_61 : ax_in 92 61 = some (.bipush 40, 2, 0, 0) := by decide +kernel
theorem j92_63 : ax_in 92 63 = some (.iload_n 1, 1, 0, 0) := by decide +kernel
theorem j92_64 : ax_in 92 64 = some (.imul, 1, 0, 0) := by decide +kernel
theorem j92_65 : ax_in 92 65 = some (.iconst 2, 1, 0, 0) := by decide +kernel
theorem j92_66 : ax_in 92 66 = some (.iload 4, 2, 0, 0) := by decide +kernel
theorem j92_68 : ax_in 92 68 = some (.imul, 1, 0, 0) := by decide +kernel
theorem j92_69 : ax_in 92 69 = some (.iadd, 1, 0, 0) := by decide +kernel
theorem j92_70 : ax_in 92 70 = some (.iconst 0, 1, 0, 0) := by decide +kernel
theorem j92_71 : ax_in 92 71 = some (.iastore, 1, 0, 0) := by decide +kernel
theorem j92_72 : ax_in 92 72 = some (.aload_n 0, 1, 0, 0) := by decide +kernel
theorem j92_73 : ax_in 92 73 = some (.getfield 43, 3, 8, 12) := by decide +kernel
theorem j92_76 : ax_in 92 76 = some (.bipush 40, 2, 0, 0) := by decide +kernel
theorem j92_78 : ax_in 92 78 = some (.iload_n 1, 1, 0, 0) := by decide +kernel
theorem j92_79 : ax_in 92 79 = some (.imul, 1, 0, 0) := by decide +kernel
theorem j92_80 : ax_in 92 80 = some (.iconst 2, 1, 0, 0) := by decide +kernel
theorem j92_81 : ax_in 92 81 = some (.iload 4, 2, 0, 0) := by decide +kernel
theorem j92_83 : ax_in 92 83 = some (.imul, 1, 0, 0) := by decide +kernel
theorem j92_84 : ax_in 92 84 = some (.iadd, 1, 0, 0) := by decide +kernel
theorem j92_85 : ax_in 92 85 = some (.iconst 1, 1, 0, 0) := by decide +kernel
theorem j92_86 : ax_in 92 86 = some (.iadd, 1, 0, 0) := by decide +kernel
theorem j92_87 : ax_in 92 87 = some (.iconst 0, 1, 0, 0) := by decide +kernel
theorem j92_88 : ax_in 92 88 = some (.iastore, 1, 0, 0) := by decide +kernel
theorem j92_89 : ax_in 92 89 = some (.iload 4, 2, 0, 0) := by decide +kernel
theorem j92_91 : ax_in 92 91 = some (.ireturn, 1, 0, 0) := by decide +kernel
theorem j93_0 : ax_in 93 0 = some (.aload_n 0, 1, 0, 0) := by decide +kernel
theorem j93_1 : ax_in 93 1 = some (.getfield 16, 3, 8, 3) := by decide +kernel
theorem j93_4 : ax_in 93 4 = some (.bipush 6, 2, 0, 0) := by decide +kernel
theorem j93_6 : ax_in 93 6 = some (.iload_n 1, 1, 0, 0) := by decide +kernel
theorem j93_7 : ax_in 93 7 = some (.imul, 1, 0, 0) := by decide +kernel
theorem j93_8 : ax_in 93 8 = some (.aload_n 0, 1, 0, 0) := by decide +kernel
theorem j93_9 : ax_in 93 9 = some (.getfield 7, 3, 8, 1) := by decide +kernel
theorem j93_12 : ax_in 93 12 = some (.iload_n 1, 1, 0, 0) := by decide +kernel
theorem j93_13 : ax_in 93 13 = some (.iaload, 1, 0, 0) := by decide +kernel
theorem j93_14 : ax_in 93 14 = some (.iadd, 1, 0, 0) := by decide +kernel
theorem j93_15 : ax_in 93 15 = some (.iconst 0, 1, 0, 0) := by decide +kernel
theorem j93_16 : ax_in 93 16 = some (.iastore, 1, 0, 0) := by decide +kernel
theorem j93_17 : ax_in 93 17 = some (.aload_n 0, 1, 0, 0) := by decide +kernel
theorem j93_18 : ax_in 93 18 = some (.getfield 13, 3, 8, 2) := by decide +kernel
theorem j93_21 : ax_in 93 21 = some (.bipush 6, 2, 0, 0) := by decide +kernel
theorem j93_23 : ax_in 93 23 = some (.iload_n 1, 1, 0, 0) := by decide +kernel
theorem j93_24 : ax_in 93 24 = some (.imul, 1, 0, 0) := by decide +kernel
theorem j93_25 : ax_in 93 25 = some (.aload_n 0, 1, 0, 0) := by decide +kernel
theorem j93_26 : ax_in 93 26 = some (.getfield 7, 3, 8, 1) := by decide +kernel
theorem j93_29 : ax_in 93 29 = some (.iload_n 1, 1, 0, 0) := by decide +kernel
theorem j93_30 : ax_in 93 30 = some (.iaload, 1, 0, 0) := by decide +kernel
theorem j93_31 : ax_in 93 31 = some (.iadd, 1, 0, 0) := by decide +kernel
theorem j93_32 : ax_in 93 32 = some (.iload_n 2, 1, 0, 0) := by decide +kernel
theorem j93_33 : ax_in 93 33 = some (.iastore, 1, 0, 0) := by decide +kernel
theorem j93_34 : ax_in 93 34 = some (.aload_n 0, 1, 0, 0) := by decide +kernel
theorem j93_35 : ax_in 93 35 = some (.getfield 7, 3, 8, 1) := by decide +kernel
theorem j93_38 : ax_in 93 38 = some (.iload_n 1, 1, 0, 0) := by decide +kernel
theorem j93_39 : ax_in 93 39 = some (.dup2, 1, 0, 0) := by decide +kernel
theorem j93_40 : ax_in 93 40 = some (.iaload, 1, 0, 0) := by decide +kernel
theorem j93_41 : ax_in 93 41 = some (.iconst 1, 1, 0, 0) := by decide +kernel
theorem j93_42 : ax_in 93 42 = some (.iadd, 1, 0, 0) := by decide +kernel
theorem j93_43 : ax_in 93 43 = some (.iastore, 1, 0, 0) := by decide +kernel
theorem j93_44 : ax_in 93 44 = some (.return_, 1, 0, 0) := by decide +kernel
theorem j94_0 : ax_in 94 0 = some (.bipush 6, 2, 0, 0) := by decide +kernel
theorem j94_2 : ax_in 94 2 = some (.iload_n 1, 1, 0, 0) := by decide +kernel
theorem j94_3 : ax_in 94 3 = some (.imul, 1, 0, 0) := by decide +kernel
theorem j94_4 : ax_in 94 4 = some (.iload_n 2, 1, 0, 0) := by decide +kernel
theorem j94_5 : ax_in 94 5 = some (.iadd, 1, 0, 0) := by decide +kernel
theorem j94_6 : ax_in 94 6 = some (.istore 4, 2, 0, 0) := by decide +kernel
theorem j94_8 : ax_in 94 8 = some (.aload_n 0, 1, 0, 0) := by decide +kernel
theorem j94_9 : ax_in 94 9 = some (.getfield 19, 3, 8, 4) := by decide +kernel
theorem j94_12 : ax_in 94 12 = some (.bipush 10, 2, 0, 0) := by decide +kernel
theorem j94_14 : ax_in 94 14 = some (.iload 4, 2, 0, 0) := by decide +kernel
theorem j94_16 : ax_in 94 16 = some (.imul, 1, 0, 0) := by decide +kernel
theorem j94_17 : ax_in 94 17 = some (.aload_n 0, 1, 0, 0) := by decide +kernel
theorem j94_18 : ax_in 94 18 = some (.getfield 16, 3, 8, 3) := by decide +kernel
theorem j94_21 : ax_in 94 21 = some (.iload 4, 2, 0, 0) := by decide +kernel
theorem j94_23 : ax_in 94 23 = some (.iaload, 1, 0, 0) := by decide +kernel
theorem j94_24 : ax_in 94 24 = some (.iadd, 1, 0, 0) := by decide +kernel
theorem j94_25 : ax_in 94 25 = some (.iload_n 3, 1, 0, 0) := by decide +kernel
theorem j94_26 : ax_in 94 26 = some (.iastore, 1, 0, 0) := by decide +kernel
theorem j94_27 : ax_in 94 27 = some (.aload_n 0, 1, 0, 0) := by decide +kernel
theorem j94_28 : ax_in 94 28 = some (.getfield 16, 3, 8, 3) := by decide +kernel
theorem j94_31 : ax_in 94 31 = some (.iload 4, 2, 0, 0) := by decide +kernel
theorem j94_33 : ax_in 94 33 = some (.dup2, 1, 0, 0) := by decide +kernel
theorem j94_34 : ax_in 94 34 = some (.iaload, 1, 0, 0) := by decide +kernel
theorem j94_35 : ax_in 94 35 = some (.iconst 1, 1, 0, 0) := by decide +kernel
theorem j94_36 : ax_in 94 36 = some (.iadd, 1, 0, 0) := by decide +kernel
theorem j94_37 : ax_in 94 37 = some (.iastore, 1, 0, 0) := by decide +kernel
theorem j94_38 : ax_in 94 38 = some (.return_, 1, 0, 0) := by decide +kernel
theorem j95_0 : ax_in 95 0 = some (.bipush 20, 2, 0, 0) := by decide +kernel
theorem j95_2 : ax_in 95 2 = some (.iload_n 1, 1, 0, 0) := by decide +kernel
theorem j95_3 : ax_in 95 3 = some (.imul, 1, 0, 0) := by decide +kernel
theorem j95_4 : ax_in 95 4 = some (.iload_n 2, 1, 0, 0) := by decide +kernel
theorem j95_5 : ax_in 95 5 = some (.iadd, 1, 0, 0) := by decide +kernel
theorem j95_6 : ax_in 95 6 = some (.istore 4, 2, 0, 0) := by decide +kernel
theorem j95_8 : ax_in 95 8 = some (.iload_n 3, 1, 0, 0) := by decide +kernel
theorem j95_9 : ax_in 95 9 = some (.ifCond .le 43, 3, 0, 0) := by decide +kernel
theorem j95_12 : ax_in 95 12 = some (.aload_n 0, 1, 0, 0) := by decide +kernel
theorem j95_13 : ax_in 95 13 = some (.getfield 31, 3, 8, 8) := by decide +kernel
theorem j95_16 : ax_in 95 16 = some (.iload 4, 2, 0, 0) := by decide +kernel
theorem j95_18 : ax_in 95 18 = some (.iaload, 1, 0, 0) := by decide +kernel
theorem j95_19 : ax_in 95 19 = some (.iconst 5, 1, 0, 0) := by decide +kernel
theorem j95_20 : ax_in 95 20 = some (.if_icmp .ge 32, 3, 0, 0) := by decide +kernel
theorem j95_23 : ax_in 95 23 = some (.aload_n 0, 1, 0, 0) := by decide +kernel
theorem j95_24 : ax_in 95 24 = some (.getfield 34, 3, 8, 9) := by decide +kernel
theorem j95_27 : ax_in 95 27 = some (.iconst 5, 1, 0, 0) := by decide +kernel
theorem j95_28 : ax_in 95 28 = some (.iload 4, 2, 0, 0) := by decide +kernel
theorem j95_30 : ax_in 95 30 = some (.imul, 1, 0, 0) := by decide +kernel
theorem j95_31 : ax_in 95 31 = some (.aload_n 0, 1, 0, 0) := by decide +kernel
theorem j95_32 : ax_in 95 32 = some (.getfield 31, 3, 8, 8) := by decide +kernel
theorem j95_35 : ax_in 95 35 = some (.iload 4, 2, 0, 0) := by decide +kernel
theorem j95_37 : ax_in 95 37 = some (.iaload, 1, 0, 0) := by decide +kernel
theorem j95_38 : ax_in 95 38 = some (.iadd, 1, 0, 0) := by decide +kernel
theorem j95_39 : ax_in 95 39 = some (.iload_n 3, 1, 0, 0) := by decide +kernel
theorem j95_40 : ax_in 95 40 = some (.iastore, 1, 0, 0) := by decide +kernel
theorem j95_41 : ax_in 95 41 = some (.aload_n 0, 1, 0, 0) := by decide +kernel
theorem j95_42 : ax_in 95 42 = some (.getfield 31, 3, 8, 8) := by decide +kernel
theorem j95_45 : ax_in 95 45 = some (.iload 4, 2, 0, 0) := by decide +kernel
theorem j95_47 : ax_in 95 47 = some (.dup2, 1, 0, 0) := by decide +kernel
theorem j95_48 : ax_in 95 48 = some (.iaload, 1, 0, 0) := by decide +kernel
theorem j95_49 : ax_in 95 49 = some (.iconst 1, 1, 0, 0) := by decide +kernel
theorem j95_50 : ax_in 95 50 = some (.iadd, 1, 0, 0) := by decide +kernel
theorem j95_51 : ax_in 95 51 = some (.iastore, 1, 0, 0) := by decide +kernel
theorem j95_52 : ax_in 95 52 = some (.iload_n 3, 1, 0, 0) := by decide +kernel
theorem j95_53 : ax_in 95 53 = some (.ifCond .le 41, 3, 0, 0) := by decide +kernel
theorem j95_56 : ax_in 95 56 = some (.aload_n 0, 1, 0, 0) := by decide +kernel
theorem j95_57 : ax_in 95 57 = some (.getfield 37, 3, 8, 10) := by decide +kernel
theorem j95_60 : ax_in 95 60 = some (.iload_n 1, 1, 0, 0) := by decide +kernel
theorem j95_61 : ax_in 95 61 = some (.iaload, 1, 0, 0) := by decide +kernel
theorem j95_62 : ax_in 95 62 = some (.bipush 20, 2, 0, 0) := by decide +kernel
theorem j95_64 : ax_in 95 64 = some (.if_icmp .ge 30, 3, 0, 0) := by decide +kernel
theorem j95_67 : ax_in 95 67 = some (.aload_n 0, 1, 0, 0) := by decide +kernel
theorem j95_68 : ax_in 95 68 = some (.getfield 40, 3, 8, 11) := by decide +kernel
theorem j95_71 : ax_in 95 71 = some (.bipush 20, 2, 0, 0) := by decide +kernel
theorem j95_73 : ax_in 95 73 = some (.iload_n 1, 1, 0, 0) := by decide +kernel
theorem j95_74 : ax_in 95 74 = some (.imul, 1, 0, 0) := by decide +kernel
theorem j95_75 : ax_in 95 75 = some (.aload_n 0, 1, 0, 0) := by decide +kernel
theorem j95_76 : ax_in 95 76 = some (.getfield 37, 3, 8, 10) := by decide +kernel
theorem j95_79 : ax_in 95 79 = some (.iload_n 1, 1, 0, 0) := by decide +kernel
theorem j95_80 : ax_in 95 80 = some (.iaload, 1, 0, 0) := by decide +kernel
theorem j95_81 : ax_in 95 81 = some (.iadd, 1, 0, 0) := by decide +kernel
theorem j95_82 : ax_in 95 82 = some (.iload_n 3, 1, 0, 0) := by decide +kernel
theorem j95_83 : ax_in 95 83 = some (.iastore, 1, 0, 0) := by decide +kernel
theorem j95_84 : ax_in 95 84 = some (.aload_n 0, 1, 0, 0) := by decide +kernel
theorem j95_85 : ax_in 95 85 = some (.getfield 37, 3, 8, 10) := by decide +kernel
theorem j95_88 : ax_in 95 88 = some (.iload_n 1, 1, 0, 0) := by decide +kernel
theorem j95_89 : ax_in 95 89 = some (.dup2, 1, 0, 0) := by decide +kernel
theorem j95_90 : ax_in 95 90 = some (.iaload, 1, 0, 0) := by decide +kernel
theorem j95_91 : ax_in 95 91 = some (.iconst 1, 1, 0, 0) := by decide +kernel
theorem j95_92 : ax_in 95 92 = some (.iadd, 1, 0, 0) := by decide +kernel
theorem j95_93 : ax_in 95 93 = some (.iastore, 1, 0, 0) := by decide +kernel
theorem j95_94 : ax_in 95 94 = some (.return_, 1, 0, 0) := by decide +kernel
theorem j96_0 : ax_in 96 0 = some (.bipush 8, 2, 0, 0) := by decide +kernel
theorem j96_2 : ax_in 96 2 = some (.iload_n 1, 1, 0, 0) := by decide +kernel
theorem j96_3 : ax_in 96 3 = some (.imul, 1, 0, 0) := by decide +kernel
theorem j96_4 : ax_in 96 4 = some (.aload_n 0, 1, 0, 0) := by decide +kernel
theorem j96_5 : ax_in 96 5 = some (.getfield 49, 3, 8, 14) := by decide +kernel
theorem j96_8 : ax_in 96 8 = some (.iload_n 1, 1, 0, 0) := by decide +kernel
theorem j96_9 : ax_in 96 9 = some (.iaload, 1, 0, 0) := by decide +kernel
theorem j96_10 : ax_in 96 10 = some (.iadd, 1, 0, 0) := by decide +kernel
theorem j96_11 : ax_in 96 11 = some (.iconst 1, 1, 0, 0) := by decide +kernel
theorem j96_12 : ax_in 96 12 = some (.isub, 1, 0, 0) := by decide +kernel
theorem j96_13 : ax_in 96 13 = some (.istore_n 2, 1, 0, 0) := by decide +kernel
theorem j96_14 : ax_in 96 14 = some (.bipush 40, 2, 0, 0) := by decide +kernel
theorem j96_16 : ax_in 96 16 = some (.iload_n 1, 1, 0, 0) := by decide +kernel
theorem j96_17 : ax_in 96 17 = some (.imul, 1, 0, 0) := by decide +kernel
theorem j96_18 : ax_in 96 18 = some (.iconst 2, 1, 0, 0) := by decide +kernel
theorem j96_19 : ax_in 96 19 = some (.aload_n 0, 1, 0, 0) := by decide +kernel
theorem j96_20 : ax_in 96 20 = some (.getfield 52, 3, 8, 15) := by decide +kernel
theorem j96_23 : ax_in 96 23 = some (.iload_n 2, 1, 0, 0) := by decide +kernel
theorem j96_24 : ax_in 96 24 = some (.iaload, 1, 0, 0) := by decide +kernel
theorem j96_25 : ax_in 96 25 = some (.imul, 1, 0, 0) := by decide +kernel
theorem j96_26 : ax_in 96 26 = some (.iadd, 1, 0, 0) := by decide +kernel
theorem j96_27 : ax_in 96 27 = some (.aload_n 0, 1, 0, 0) := by decide +kernel
theorem j96_28 : ax_in 96 28 = some (.getfield 55, 3, 8, 16) := by decide +kernel
theorem j96_31 : ax_in 96 31 = some (.iload_n 2, 1, 0, 0) := by decide +kernel
theorem j96_32 : ax_in 96 32 = some (.baload, 1, 0, 0) := by decide +kernel
theorem j96_33 : ax_in 96 33 = some (.ifCond .eq 7, 3, 0, 0) := by decide +kernel
theorem j96_36 : ax_in 96 36 = some (.iconst 1, 1, 0, 0) := by decide +kernel
theorem j96_37 : ax_in 96 37 = some (.goto 4, 3, 0, 0) := by decide +kernel
theorem j96_40 : ax_in 96 40 = some (.iconst 0, 1, 0, 0) := by decide +kernel
theorem j96_41 : ax_in 96 41 = some (.iadd, 1, 0, 0) := by decide +kernel
theorem j96_42 : ax_in 96 42 = some (.ireturn, 1, 0, 0) := by decide +kernel
theorem j97_0 : ax_in 97 0 = some (.iconst 2, 1, 0, 0) := by decide +kernel
theorem j97_1 : ax_in 97 1 = some (.iconst 2, 1, 0, 0) := by decide +kernel
theorem j97_2 : ax_in 97 2 = some (.iload_n 0, 1, 0, 0) := by decide +kernel
theorem j97_3 : ax_in 97 3 = some (.imul, 1, 0, 0) := by decide +kernel
theorem j97_4 : ax_in 97 4 = some (.iadd, 1, 0, 0) := by decide +kernel
theorem j97_5 : ax_in 97 5 = some (.ireturn, 1, 0, 0) := by decide +kernel
theorem j98_0 : ax_in 98 0 = some (.iconst 3, 1, 0, 0) := by decide +kernel
theorem j98_1 : ax_in 98 1 = some (.iconst 2, 1, 0, 0) := by decide +kernel
theorem j98_2 : ax_in 98 2 = some (.iload_n 0, 1, 0, 0) := by decide +kernel
theorem j98_3 : ax_in 98 3 = some (.imul, 1, 0, 0) := by decide +kernel
theorem j98_4 : ax_in 98 4 = some (.iadd, 1, 0, 0) := by decide +kernel
theorem j98_5 : ax_in 98 5 = some (.ireturn, 1, 0, 0) := by decide +kernel
theorem j99_0 : ax_in 99 0 = some (.iconst 0, 1, 0, 0) := by decide +kernel
theorem j99_1 : ax_in 99 1 = some (.istore_n 3, 1, 0, 0) := by decide +kernel
theorem j99_2 : ax_in 99 2 = some (.iload_n 3, 1, 0, 0) := by decide +kernel
theorem j99_3 : ax_in 99 3 = some (.aload_n 0, 1, 0, 0) := by decide +kernel
theorem j99_4 : ax_in 99 4 = some (.getfield 43, 3, 8, 12) := by decide +kernel
theorem j99_7 : ax_in 99 7 = some (.iload_n 1, 1, 0, 0) := by decide +kernel
theorem j99_8 : ax_in 99 8 = some (.iaload, 1, 0, 0) := by decide +kernel
theorem j99_9 : ax_in 99 9 = some (.if_icmp .ge 24, 3, 0, 0) := by decide +kernel
theorem j99_12 : ax_in 99 12 = some (.aload_n 0, 1, 0, 0) := by decide +kernel
theorem j99_13 : ax_in 99 13 = some (.getfield 46, 3, 8, 13) := by decide +kernel
theorem j99_16 : ax_in 99 16 = some (.bipush 12, 2, 0, 0) := by decide +kernel
theorem j99_18 : ax_in 99 18 = some (.iload_n 1, 1, 0, 0) := by decide +kernel
theorem j99_19 : ax_in 99 19 = some (.imul, 1, 0, 0) := by decide +kernel
theorem j99_20 : ax_in 99 20 = some (.iload_n 3, 1, 0, 0) := by decide +kernel
theorem j99_21 : ax_in 99 21 = some (.iadd, 1, 0, 0) := by decide +kernel
theorem j99_22 : ax_in 99 22 = some (.iaload, 1, 0, 0) := by decide +kernel
theorem j99_23 : ax_in 99 23 = some (.iload_n 2, 1, 0, 0) := by decide +kernel
theorem j99_24 : ax_in 99 24 = some (.if_icmp .eq 9, 3, 0, 0) := by decide +kernel
theorem j99_27 : ax_in 99 27 = some (.iinc 3 1, 3, 0, 0) := by decide +kernel
theorem j99_30 : ax_in 99 30 = some (.goto (-28), 3, 0, 0) := by decide +kernel
theorem j99_33 : ax_in 99 33 = some (.iload_n 3, 1, 0, 0) := by decide +kernel
theorem j99_34 : ax_in 99 34 = some (.aload_n 0, 1, 0, 0) := by decide +kernel
theorem j99_35 : ax_in 99 35 = some (.getfield 43, 3, 8, 12) := by decide +kernel
theorem j99_38 : ax_in 99 38 = some (.iload_n 1, 1, 0, 0) := by decide +kernel
theorem j99_39 : ax_in 99 39 = some (.iaload, 1, 0, 0) := by decide +kernel
theorem j99_40 : ax_in 99 40 = some (.if_icmp .ge 7, 3, 0, 0) := by decide +kernel
theorem j99_43 : ax_in 99 43 = some (.iload_n 3, 1, 0, 0) := by decide +kernel
theorem j99_44 : ax_in 99 44 = some (.goto 4, 3, 0, 0) := by decide +kernel
theorem j99_47 : ax_in 99 47 = some (.iconst (-1), 1, 0, 0) := by decide +kernel
theorem j99_48 : ax_in 99 48 = some (.ireturn, 1, 0, 0) := by decide +kernel
theorem j100_0 : ax_in 100 0 = some (.aload_n 0, 1, 0, 0) := by decide +kernel
theorem j100_1 : ax_in 100 1 = some (.iload_n 1, 1, 0, 0) := by decide +kernel
theorem j100_2 : ax_in 100 2 = some (.iload_n 2, 1, 0, 0) := by decide +kernel
theorem j100_3 : ax_in 100 3 = some (.invokevirtual 88, 3, 99, 0) := by decide +kernel
theorem j100_6 : ax_in 100 6 = some (.ifCond .ge 14, 3, 0, 0) := by decide +kernel
theorem j100_9 : ax_in 100 9 = some (.aload_n 0, 1, 0, 0) := by decide +kernel
theorem j100_10 : ax_in 100 10 = some (.getfield 43, 3, 8, 12) := by decide +kernel
theorem j100_13 : ax_in 100 13 = some (.iload_n 1, 1, 0, 0) := by decide +kernel
theorem j100_14 : ax_in 100 14 = some (.iaload, 1, 0, 0) := by decide +kernel
theorem j100_15 : ax_in 100 15 = some (.bipush 12, 2, 0, 0) := by decide +kernel
theorem j100_17 : ax_in 100 17 = some (.if_icmp .ne 4, 3, 0, 0) := by decide +kernel
theorem j100_20 : ax_in 100 20 = some (.return_, 1, 0, 0) := by decide +kernel
theorem j100_21 : ax_in 100 21 = some (.aload_n 0, 1, 0, 0) := by decide +kernel
theorem j100_22 : ax_in 100 22 = some (.getfield 43, 3, 8, 12) := by decide +kernel
theorem j100_25 : ax_in 100 25 = some (.iload_n 1, 1, 0, 0) := by decide +kernel
theorem j100_26 : ax_in 100 26 = some (.iaload, 1, 0, 0) := by decide +kernel
theorem j100_27 : ax_in 100 27 = some (.istore_n 3, 1, 0, 0) := by decide +kernel
theorem j100_28 : ax_in 100 28 = some (.iload_n 3, 1, 0, 0) := by decide +kernel
theorem j100_29 : ax_in 100 29 = some (.ifCond .le 33, 3, 0, 0) := by decide +kernel
theorem j100_32 : ax_in 100 32 = some (.aload_n 0, 1, 0, 0) := by decide +kernel
theorem j100_33 : ax_in 100 33 = some (.getfield 46, 3, 8, 13) := by decide +kernel
theorem j100_36 : ax_in 100 36 = some (.bipush 12, 2, 0, 0) := by decide +kernel
theorem j100_38 : ax_in 100 38 = some (.iload_n 1, 1, 0, 0) := by decide +kernel
theorem j100_39 : ax_in 100 39 = some (.imul, 1, 0, 0) := by decide +kernel
theorem j100_40 : ax_in 100 40 = some (.iload_n 3, 1, 0, 0) := by decide +kernel
theorem j100_41 : ax_in 100 41 = some (.iadd, 1, 0, 0) := by decide +kernel
theorem j100_42 : ax_in 100 42 = some (.aload_n 0, 1, 0, 0) := by decide +kernel
theorem j100_43 : ax_in 100 43 = some (.getfield 46, 3, 8, 13) := by decide +kernel
theorem j100_46 : ax_in 100 46 = some (.bipush 12, 2, 0, 0) := by decide +kernel
theorem j100_48 : ax_in 100 48 = some (.iload_n 1, 1, 0, 0) := by decide +kernel
theorem j100_49 : ax_in 100 49 = some (.imul, 1, 0, 0) := by decide +kernel
theorem j100_50 : ax_in 100 50 = some (.iload_n 3, 1, 0, 0) := by decide +kernel
theorem j100_51 : ax_in 100 51 = some (.iadd, 1, 0, 0) := by decide +kernel
theorem j100_52 : ax_in 100 52 = some (.iconst 1, 1, 0, 0) := by decide +kernel
theorem j100_53 : ax_in 100 53 = some (.isub, 1, 0, 0) := by decide +kernel
theorem j100_54 : ax_in 100 54 = some (.iaload, 1, 0, 0) := by decide +kernel
theorem j100_55 : ax_in 100 55 = some (.iastore, 1, 0, 0) := by decide +kernel
theorem j100_56 : ax_in 100 56 = some (.iinc 3 (-1), 3, 0, 0) := by decide +kernel
theorem j100_59 : ax_in 100 59 = some (.goto (-31), 3, 0, 0) := by decide +kernel
theorem j100_62 : ax_in 100 62 = some (.aload_n 0, 1, 0, 0) := by decide +kernel
theorem j100_63 : ax_in 100 63 = some (.getfield 46, 3, 8, 13) := by decide +kernel
theorem j100_66 : ax_in 100 66 = some (.bipush 12, 2, 0, 0) := by decide +kernel
theorem j100_68 : ax_in 100 68 = some (.iload_n 1, 1, 0, 0) := by decide +kernel
theorem j100_69 : ax_in 100 69 = some (.imul, 1, 0, 0) := by decide +kernel
theorem j100_70 : ax_in 100 70 = some (.iload_n 2, 1, 0, 0) := by decide +kernel
theorem j100_71 : ax_in 100 71 = some (.iastore, 1, 0, 0) := by decide +kernel
theorem j100_72 : ax_in 100 72 = some (.aload_n 0, 1, 0, 0) := by decide +kernel
theorem j100_73 : ax_in 100 73 = some (.getfield 43, 3, 8, 12) := by decide +kernel
theorem j100_76 : ax_in 100 76 = some (.iload_n 1, 1, 0, 0) := by decide +kernel
theorem j100_77 : ax_in 100 77 = some (.dup2, 1, 0, 0) := by decide +kernel
theorem j100_78 : ax_in 100 78 = some (.iaload, 1, 0, 0) := by decide +kernel
theorem j100_79 : ax_in 100 79 = some (.iconst 1, 1, 0, 0) := by decide +kernel
theorem j100_80 : ax_in 100 80 = some (.iadd, 1, 0, 0) := by decide +kernel
theorem j100_81 : ax_in 100 81 = some (.iastore, 1, 0, 0) := by decide +kernel
theorem j100_82 : ax_in 100 82 = some (.return_, 1, 0, 0) := by decide +kernel
theorem j101_0 : ax_in 101 0 = some (.aload_n 0, 1, 0, 0) := by decide +kernel
theorem j101_1 : ax_in 101 1 = some (.getfield 49, 3, 8, 14) := by decide +kernel
theorem j101_4 : ax_in 101 4 = some (.iload_n 1, 1, 0, 0) := by decide +kernel
theorem j101_5 : ax_in 101 5 = some (.iaload, 1, 0, 0) := by decide +kernel
theorem j101_6 : ax_in 101 6 = some (.ifCond .le 22, 3, 0, 0) := by decide +kernel
theorem j101_9 : ax_in 101 9 = some (.aload_n 0, 1, 0, 0) := by decide +kernel
theorem j101_10 : ax_in 101 10 = some (.getfield 55, 3, 8, 16) := by decide +kernel
theorem j101_13 : ax_in 101 13 = some (.bipush 8, 2, 0, 0) := by decide +kernel
theorem j101_15 : ax_in 101 15 = some (.iload_n 1, 1, 0, 0) := by decide +kernel
theorem j101_16 : ax_in 101 16 = some (.imul, 1, 0, 0) := by decide +kernel
theorem j101_17 : ax_in 101 17 = some (.aload_n 0, 1, 0, 0) := by decide +kernel
theorem j101_18 : ax_in 101 18 = some (.getfield 49, 3, 8, 14) := by decide +kernel
theorem j101_21 : ax_in 101 21 = some (.iload_n 1, 1, 0, 0) := by decide +kernel
theorem j101_22 : ax_in 101 22 = some (.iaload, 1, 0, 0) := by decide +kernel
theorem j101_23 : ax_in 101 23 = some (.iadd, 1, 0, 0) := by decide +kernel
theorem j101_24 : ax_in 101 24 = some (.iconst 1, 1, 0, 0) := by decide +kernel
theorem j101_25 : ax_in 101 25 = some (.isub, 1, 0, 0) := by decide +kernel
theorem j101_26 : ax_in 101 26 = some (.iconst 1, 1, 0, 0) := by decide +kernel
theorem j101_27 : ax_in 101 27 = some (.bastore, 1, 0, 0) := by decide +kernel
theorem j101_28 : ax_in 101 28 = some (.aload_n 0, 1, 0, 0) := by decide +kernel
theorem j101_29 : ax_in 101 29 = some (.getfield 52, 3, 8, 15) := by decide +kernel
theorem j101_32 : ax_in 101 32 = some (.bipush 8, 2, 0, 0) := by decide +kernel
theorem j101_34 : ax_in 101 34 = some (.iload_n 1, 1, 0, 0) := by decide +kernel
theorem j101_35 : ax_in 101 35 = some (.imul, 1, 0, 0) := by decide +kernel
theorem j101_36 : ax_in 101 36 = some (.aload_n 0, 1, 0, 0) := by decide +kernel
theorem j101_37 : ax_in 101 37 = some (.getfield 49, 3, 8, 14) := by decide +kernel
theorem j101_40 : ax_in 101 40 = some (.iload_n 1, 1, 0, 0) := by decide +kernel
theorem j101_41 : ax_in 101 41 = some (.iaload, 1, 0, 0) := by decide +kernel
theorem j101_42 : ax_in 101 42 = some (.iadd, 1, 0, 0) := by decide +kernel
theorem j101_43 : ax_in 101 43 = some (.iload_n 2, 1, 0, 0) := by decide +kernel
theorem j101_44 : ax_in 101 44 = some (.iastore, 1, 0, 0) := by decide +kernel
theorem j101_45 : ax_in 101 45 = some (.aload_n 0, 1, 0, 0) := by decide +kernel
theorem j101_46 : ax_in 101 46 = some (.getfield 55, 3, 8, 16) := by decide +kernel
theorem j101_49 : ax_in 101 49 = some (.bipush 8, 2, 0, 0) := by decide +kernel
theorem j101_51 : ax_in 101 51 = some (.iload_n 1, 1, 0, 0) := by decide +kernel
theorem j101_52 : ax_in 101 52 = some (.imul, 1, 0, 0) := by decide +kernel
theorem j101_53 : ax_in 101 53 = some (.aload_n 0, 1, 0, 0) := by decide +kernel
theorem j101_54 : ax_in 101 54 = some (.getfield 49, 3, 8, 14) := by decide +kernel
theorem j101_57 : ax_in 101 57 = some (.iload_n 1, 1, 0, 0) := by decide +kernel
theorem j101_58 : ax_in 101 58 = some (.iaload, 1, 0, 0) := by decide +kernel
theorem j101_59 : ax_in 101 59 = some (.iadd, 1, 0, 0) := by decide +kernel
theorem j101_60 : ax_in 101 60 = some (.iconst 0, 1, 0, 0) := by decide +kernel
theorem j101_61 : ax_in 101 61 = some (.bastore, 1, 0, 0) := by decide +kernel
theorem j101_62 : ax_in 101 62 = some (.aload_n 0, 1, 0, 0) := by decide +kernel
theorem j101_63 : ax_in 101 63 = some (.getfield 49, 3, 8, 14) := by decide +kernel
theorem j101_66 : ax_in 101 66 = some (.iload_n 1, 1, 0, 0) := by decide +kernel
theorem j101_67 : ax_in 101 67 = some (.dup2, 1, 0, 0) := by decide +kernel
theorem j101_68 : ax_in 101 68 = some (.iaload, 1, 0, 0) := by decide +kernel
theorem j101_69 : ax_in 101 69 = some (.iconst 1, 1, 0, 0) := by decide +kernel
theorem j101_70 : ax_in 101 70 = some (.iadd, 1, 0, 0) := by decide +kernel
theorem j101_71 : ax_in 101 71 = some (.iastore, 1, 0, 0) := by decide +kernel
theorem j101_72 : ax_in 101 72 = some (.return_, 1, 0, 0) := by decide +kernel
theorem j102_0 : ax_in 102 0 = some (.aload_n 0, 1, 0, 0) := by decide +kernel
theorem j102_1 : ax_in 102 1 = some (.getfield 49, 3, 8, 14) := by decide +kernel
theorem j102_4 : ax_in 102 4 = some (.iload_n 1, 1, 0, 0) := by decide +kernel
theorem j102_5 : ax_in 102 5 = some (.dup2, 1, 0, 0) := by decide +kernel
theorem j102_6 : ax_in 102 6 = some (.iaload, 1, 0, 0) := by decide +kernel
theorem j102_7 : ax_in 102 7 = some (.iconst 1, 1, 0, 0) := by decide +kernel
theorem j102_8 : ax_in 102 8 = some (.isub, 1, 0, 0) := by decide +kernel
theorem j102_9 : ax_in 102 9 = some (.iastore, 1, 0, 0) := by decide +kernel
theorem j102_10 : ax_in 102 10 = some (.aload_n 0, 1, 0, 0) := by decide +kernel
theorem j102_11 : ax_in 102 11 = some (.getfield 59, 3, 8, 17) := by decide +kernel
theorem j102_14 : ax_in 102 14 = some (.iload_n 1, 1, 0, 0) := by decide +kernel
theorem j102_15 : ax_in 102 15 = some (.aload_n 0, 1, 0, 0) := by decide +kernel
theorem j102_16 : ax_in 102 16 = some (.getfield 49, 3, 8, 14) := by decide +kernel
theorem j102_19 : ax_in 102 19 = some (.iload_n 1, 1, 0, 0) := by decide +kernel
theorem j102_20 : ax_in 102 20 = some (.iaload, 1, 0, 0) := by decide +kernel
theorem j102_21 : ax_in 102 21 = some (.ifCond .ne 7, 3, 0, 0) := by decide +kernel
theorem j102_24 : ax_in 102 24 = some (.iconst 1, 1, 0, 0) := by decide +kernel
theorem j102_25 : ax_in 102 25 = some (.goto 4, 3, 0, 0) := by decide +kernel
theorem j102_28 : ax_in 102 28 = some (.iconst 0, 1, 0, 0) := by decide +kernel
theorem j102_29 : ax_in 102 29 = some (.bastore, 1, 0, 0) := by decide +kernel
theorem j102_30 : ax_in 102 30 = some (.return_, 1, 0, 0) := by decide +kernel
theorem j103_0 : ax_in 103 0 = some (.iconst 0, 1, 0, 0) := by decide +kernel
theorem j103_1 : ax_in 103 1 = some (.istore_n 3, 1, 0, 0) := by decide +kernel
theorem j103_2 : ax_in 103 2 = some (.iconst 1, 1, 0, 0) := by decide +kernel
theorem j103_3 : ax_in 103 3 = some (.iload_n 3, 1, 0, 0) := by decide +kernel
theorem j103_4 : ax_in 103 4 = some (.ishl, 1, 0, 0) := by decide +kernel
theorem j103_5 : ax_in 103 5 = some (.iload_n 2, 1, 0, 0) := by decide +kernel
theorem j103_6 : ax_in 103 6 = some (.if_icmp .ge 9, 3, 0, 0) := by decide +kernel
theorem j103_9 : ax_in 103 9 = some (.iinc 3 1, 3, 0, 0) := by decide +kernel
theorem j103_12 : ax_in 103 12 = some (.goto (-10), 3, 0, 0) := by decide +kernel
theorem j103_15 : ax_in 103 15 = some (.iload_n 3, 1, 0, 0) := by decide +kernel
theorem j103_16 : ax_in 103 16 = some (.iconst 1, 1, 0, 0) := by decide +kernel
theorem j103_17 : ax_in 103 17 = some (.isub, 1, 0, 0) := by decide +kernel
theorem j103_18 : ax_in 103 18 = some (.istore 4, 2, 0, 0) := by decide +kernel
theorem j103_20 : ax_in 103 20 = some (.iload 4, 2, 0, 0) := by decide +kernel
theorem j103_22 : ax_in 103 22 = some (.ifCond .lt 43, 3, 0, 0) := by decide +kernel
theorem j103_25 : ax_in 103 25 = some (.aload_n 0, 1, 0, 0) := by decide +kernel
theorem j103_26 : ax_in 103 26 = some (.getfield 62, 3, 8, 18) := by decide +kernel
theorem j103_29 : ax_in 103 29 = some (.aload_n 0, 1, 0, 0) := by decide +kernel
theorem j103_30 : ax_in 103 30 = some (.getfield 92, 3, 8, 19) := by decide +kernel
theorem j103_33 : ax_in 103 33 = some (.iload_n 1, 1, 0, 0) := by decide +kernel
theorem j103_34 : ax_in 103 34 = some (.iload 4, 2, 0, 0) := by decide +kernel
theorem j103_36 : ax_in 103 36 = some (.ishr, 1, 0, 0) := by decide +kernel
theorem j103_37 : ax_in 103 37 = some (.iconst 1, 1, 0, 0) := by decide +kernel
theorem j103_38 : ax_in 103 38 = some (.iand, 1, 0, 0) := by decide +kernel
theorem j103_39 : ax_in 103 39 = some (.iconst 1, 1, 0, 0) := by decide +kernel
theorem j103_40 : ax_in 103 40 = some (.if_icmp .ne 7, 3, 0, 0) := by decide +kernel
theorem j103_43 : ax_in 103 43 = some (.iconst 1, 1, 0, 0) := by decide +kernel
theorem j103_44 : ax_in 103 44 = some (.goto 4, 3, 0, 0) := by decide +kernel
theorem j103_47 : ax_in 103 47 = some (.iconst 0, 1, 0, 0) := by decide +kernel
theorem j103_48 : ax_in 103 48 = some (.bastore, 1, 0, 0) := by decide +kernel
theorem j103_49 : ax_in 103 49 = some (.aload_n 0, 1, 0, 0) := by decide +kernel
theorem j103_50 : ax_in 103 50 = some (.dup, 1, 0, 0) := by decide +kernel
theorem j103_51 : ax_in 103 51 = some (.getfield 92, 3, 8, 19) := by decide +kernel
theorem j103_54 : ax_in 103 54 = some (.iconst 1, 1, 0, 0) := by decide +kernel
theorem j103_55 : ax_in 103 55 = some (.iadd, 1, 0, 0) := by decide +kernel
theorem j103_56 : ax_in 103 56 = some (.putfield 92, 3, 8, 19) := by decide +kernel
theorem j103_59 : ax_in 103 59 = some (.iinc 4 (-1), 3, 0, 0) := by decide +kernel
theorem j103_62 : ax_in 103 62 = some (.goto (-42), 3, 0, 0) := by decide +kernel
theorem j103_65 : ax_in 103 65 = some (.return_, 1, 0, 0) := by decide +kernel
theorem j104_0 : ax_in 104 0 = some (.iload_n 1, 1, 0, 0) := by decide +kernel
theorem j104_1 : ax_in 104 1 = some (.istore_n 2, 1, 0, 0) := by decide +kernel
theorem j104_2 : ax_in 104 2 = some (.iconst 1, 1, 0, 0) := by decide +kernel
theorem j104_3 : ax_in 104 3 = some (.istore_n 3, 1, 0, 0) := by decide +kernel
theorem j104_4 : ax_in 104 4 = some (.iload_n 3, 1, 0, 0) := by decide +kernel
theorem j104_5 : ax_in 104 5 = some (.ifCond .eq 45, 3, 0, 0) := by decide +kernel
theorem j104_8 : ax_in 104 8 = some (.iload_n 2, 1, 0, 0) := by decide +kernel
theorem j104_9 : ax_in 104 9 = some (.bipush 7, 2, 0, 0) := by decide +kernel
theorem j104_11 : ax_in 104 11 = some (.iand, 1, 0, 0) := by decide +kernel
theorem j104_12 : ax_in 104 12 = some (.istore 4, 2, 0, 0) := by decide +kernel
theorem j104_14 : ax_in 104 14 = some (.iload_n 2, 1, 0, 0) := by decide +kernel
theorem j104_15 : ax_in 104 15 = some (.iconst 3, 1, 0, 0) := by decide +kernel
theorem j104_16 : ax_in 104 16 = some (.ishr, 1, 0, 0) := by decide +kernel
theorem j104_17 : ax_in 104 17 = some (.istore_n 2, 1, 0, 0) := by decide +kernel
theorem j104_18 : ax_in 104 18 = some (.iload_n 2, 1, 0, 0) := by decide +kernel
theorem j104_19 : ax_in 104 19 = some (.ifCond .le 7, 3, 0, 0) := by decide +kernel
theorem j104_22 : ax_in 104 22 = some (.iconst 1, 1, 0, 0) := by decide +kernel
theorem j104_23 : ax_in 104 23 = some (.goto 4, 3, 0, 0) := by decide +kernel
theorem j104_26 : ax_in 104 26 = some (.iconst 0, 1, 0, 0) := by decide +kernel
theorem j104_27 : ax_in 104 27 = some (.istore_n 3, 1, 0, 0) := by decide +kernel
theorem j104_28 : ax_in 104 28 = some (.aload_n 0, 1, 0, 0) := by decide +kernel
theorem j104_29 : ax_in 104 29 = some (.iload_n 3, 1, 0, 0) := by decide +kernel
theorem j104_30 : ax_in 104 30 = some (.ifCond .eq 8, 3, 0, 0) := by decide +kernel
theorem j104_33 : ax_in 104 33 = some (.bipush 8, 2, 0, 0) := by decide +kernel
theorem j104_35 : ax_in 104 35 = some (.goto 4, 3, 0, 0) := by decide +kernel
theorem j104_38 : ax_in 104 38 = some (.iconst 0, 1, 0, 0) := by decide +kernel
theorem j104_39 : ax_in 104 39 = some (.iload 4, 2, 0, 0) := by decide +kernel
theorem j104_41 : ax_in 104 41 = some (.iadd, 1, 0, 0) := by decide +kernel
theorem j104_42 : ax_in 104 42 = some (.bipush 16, 2, 0, 0) := by decide +kernel
theorem j104_44 : ax_in 104 44 = some (.invokevirtual 95, 3, 103, 0) := by decide +kernel
theorem j104_47 : ax_in 104 47 = some (.goto (-43), 3, 0, 0) := by decide +kernel
theorem j104_50 : ax_in 104 50 = some (.return_, 1, 0, 0) := by decide +kernel
theorem j105_0 : ax_in 105 0 = some (.iload_n 1, 1, 0, 0) := by decide +kernel
theorem j105_1 : ax_in 105 1 = some (.istore_n 2, 1, 0, 0) := by decide +kernel
theorem j105_2 : ax_in 105 2 = some (.iload_n 2, 1, 0, 0) := by decide +kernel
theorem j105_3 : ax_in 105 3 = some (.ifCond .le 19, 3, 0, 0) := by decide +kernel
theorem j105_6 : ax_in 105 6 = some (.aload_n 0, 1, 0, 0) := by decide +kernel
theorem j105_7 : ax_in 105 7 = some (.iload_n 2, 1, 0, 0) := by decide +kernel
theorem j105_8 : ax_in 105 8 = some (.bipush 27, 2, 0, 0) := by decide +kernel
theorem j105_10 : ax_in 105 10 = some (.irem, 1, 0, 0) := by decide +kernel
theorem j105_11 : ax_in 105 11 = some (.invokevirtual 99, 3, 104, 0) := by decide +kernel
theorem j105_14 : ax_in 105 14 = some (.iload_n 2, 1, 0, 0) := by decide +kernel
theorem j105_15 : ax_in 105 15 = some (.bipush 27, 2, 0, 0) := by decide +kernel
theorem j105_17 : ax_in 105 17 = some (.idiv, 1, 0, 0) := by decide +kernel
theorem j105_18 : ax_in 105 18 = some (.istore_n 2, 1, 0, 0) := by decide +kernel
theorem j105_19 : ax_in 105 19 = some (.goto (-17), 3, 0, 0) := by decide +kernel
theorem j105_22 : ax_in 105 22 = some (.return_, 1, 0, 0) := by decide +kernel
theorem j106_0 : ax_in 106 0 = some (.aload_n 0, 1, 0, 0) := by decide +kernel
theorem j106_1 : ax_in 106 1 = some (.iconst 0, 1, 0, 0) := by decide +kernel
theorem j106_2 : ax_in 106 2 = some (.iload_n 1, 1, 0, 0) := by decide +kernel
theorem j106_3 : ax_in 106 3 = some (.invokevirtual 103, 3, 89, 0) := by decide +kernel
theorem j106_6 : ax_in 106 6 = some (.istore_n 3, 1, 0, 0) := by decide +kernel
theorem j106_7 : ax_in 106 7 = some (.aload_n 0, 1, 0, 0) := by decide +kernel
theorem j106_8 : ax_in 106 8 = some (.iload_n 3, 1, 0, 0) := by decide +kernel
theorem j106_9 : ax_in 106 9 = some (.iconst 1, 1, 0, 0) := by decide +kernel
theorem j106_10 : ax_in 106 10 = some (.iadd, 1, 0, 0) := by decide +kernel
theorem j106_11 : ax_in 106 11 = some (.aload_n 0, 1, 0, 0) := by decide +kernel
theorem j106_12 : ax_in 106 12 = some (.getfield 7, 3, 8, 1) := by decide +kernel
theorem j106_15 : ax_in 106 15 = some (.iconst 0, 1, 0, 0) := by decide +kernel
theorem j106_16 : ax_in 106 16 = some (.iaload, 1, 0, 0) := by decide +kernel
theorem j106_17 : ax_in 106 17 = some (.iconst 1, 1, 0, 0) := by decide +kernel
theorem j106_18 : ax_in 106 18 = some (.iadd, 1, 0, 0) := by decide +kernel
theorem j106_19 : ax_in 106 19 = some (.invokevirtual 95, 3, 103, 0) := by decide +kernel
theorem j106_22 : ax_in 106 22 = some (.iload_n 3, 1, 0, 0) := by decide +kernel
theorem j106_23 : ax_in 106 23 = some (.ifCond .ge 29, 3, 0, 0) := by decide +kernel
theorem j106_26 : ax_in 106 26 = some (.aload_n 0, 1, 0, 0) := by decide +kernel
theorem j106_27 : ax_in 106 27 = some (.iload_n 1, 1, 0, 0) := by decide +kernel
theorem j106_28 : ax_in 106 28 = some (.invokestatic 84, 3, 87, 1) := by decide +kernel
theorem j106_31 : ax_in 106 31 = some (.invokevirtual 99, 3, 104, 0) := by decide +kernel
theorem j106_34 : ax_in 106 34 = some (.aload_n 0, 1, 0, 0) := by decide +kernel
theorem j106_35 : ax_in 106 35 = some (.iload_n 1, 1, 0, 0) := by decide +kernel
theorem j106_36 : ax_in 106 36 = some (.invokevirtual 106, 3, 105, 0) := by decide +kernel
theorem j106_39 : ax_in 106 39 = some (.aload_n 0, 1, 0, 0) := by decide +kernel
theorem j106_40 : ax_in 106 40 = some (.getfield 7, 3, 8, 1) := by decide +kernel
theorem j106_43 : ax_in 106 43 = some (.iconst 0, 1, 0, 0) := by decide +kernel
theorem j106_44 : ax_in 106 44 = some (.iaload, 1, 0, 0) := by decide +kernel
theorem j106_45 : ax_in 106 45 = some (.istore_n 3, 1, 0, 0) := by decide +kernel
theorem j106_46 : ax_in 106 46 = some (.aload_n 0, 1, 0, 0) := by decide +kernel
theorem j106_47 : ax_in 106 47 = some (.iconst 0, 1, 0, 0) := by decide +kernel
theorem j106_48 : ax_in 106 48 = some (.iload_n 1, 1, 0, 0) := by decide +kernel
theorem j106_49 : ax_in 106 49 = some (.invokevirtual 109, 3, 93, 0) := by decide +kernel
theorem j106_52 : ax_in 106 52 = some (.aload_n 0, 1, 0, 0) := by decide +kernel
theorem j106_53 : ax_in 106 53 = some (.iconst 0, 1, 0, 0) := by decide +kernel
theorem j106_54 : ax_in 106 54 = some (.iload_n 3, 1, 0, 0) := by decide +kernel
theorem j106_55 : ax_in 106 55 = some (.iload_n 2, 1, 0, 0) := by decide +kernel
theorem j106_56 : ax_in 106 56 = some (.invokevirtual 112, 3, 90, 0) := by decide +kernel
theorem j106_59 : ax_in 106 59 = some (.istore 4, 2, 0, 0) := by decide +kernel
theorem j106_61 : ax_in 106 61 = some (.iload 4, 2, 0, 0) := by decide +kernel
theorem j106_63 : ax_in 106 63 = some (.ifCond .ge 26, 3, 0, 0) := by decide +kernel
theorem j106_66 : ax_in 106 66 = some (.aload_n 0, 1, 0, 0) := by decide +kernel
theorem j106_67 : ax_in 106 67 = some (.iload_n 2, 1, 0, 0) := by decide +kernel
theorem j106_68 : ax_in 106 68 = some (.invokestatic 84, 3, 87, 1) := by decide +kernel
theorem j106_71 : ax_in 106 71 = some (.invokevirtual 99, 3, 104, 0) := by decide +kernel
theorem j106_74 : ax_in 106 74 = some (.aload_n 0, 1, 0, 0) := by decide +kernel
theorem j106_75 : ax_in 106 75 = some (.iload_n 2, 1, 0, 0) := by decide +kernel
theorem j106_76 : ax_in 106 76 = some (.invokevirtual 106, 3, 105, 0) := by decide +kernel
theorem j106_79 : ax_in 106 79 = some (.aload_n 0, 1, 0, 0) := by decide +kernel
theorem j106_80 : ax_in 106 80 = some (.iconst 0, 1, 0, 0) := by decide +kernel
theorem j106_81 : ax_in 106 81 = some (.iload_n 3, 1, 0, 0) := by decide +kernel
theorem j106_82 : ax_in 106 82 = some (.iload_n 2, 1, 0, 0) := by decide +kernel
theorem j106_83 : ax_in 106 83 = some (.invokevirtual 116, 3, 94, 0) := by decide +kernel
theorem j106_86 : ax_in 106 86 = some (.goto 20, 3, 0, 0) := by decide +kernel
theorem j106_89 : ax_in 106 89 = some (.aload_n 0, 1, 0, 0) := by decide +kernel
theorem j106_90 : ax_in 106 90 = some (.iconst 0, 1, 0, 0) := by decide +kernel
theorem j106_91 : ax_in 106 91 = some (.invokevirtual 99, 3, 104, 0) := by decide +kernel
theorem j106_94 : ax_in 106 94 = some (.aload_n 0, 1, 0, 0) := by decide +kernel
theorem j106_95 : ax_in 106 95 = some (.iload 4, 2, 0, 0) := by decide +kernel
theorem j106_97 : ax_in 106 97 = some (.aload_n 0, 1, 0, 0) := by decide +kernel
theorem j106_98 : ax_in 106 98 = some (.getfield 16, 3, 8, 3) := by decide +kernel
theorem j106_101 : ax_in 106 101 = some (.iload_n 3, 1, 0, 0) := by decide +kernel
theorem j106_102 : ax_in 106 102 = some (.iaload, 1, 0, 0) := by decide +kernel
theorem j106_103 : ax_in 106 103 = some (.invokevirtual 95, 3, 103, 0) := by decide +kernel
theorem j106_106 : ax_in 106 106 = some (.aload_n 0, 1, 0, 0) := by decide +kernel
theorem j106_107 : ax_in 106 107 = some (.iconst 0, 1, 0, 0) := by decide +kernel
theorem j106_108 : ax_in 106 108 = some (.iload_n 1, 1, 0, 0) := by decide +kernel
theorem j106_109 : ax_in 106 109 = some (.iload_n 2, 1, 0, 0) := by decide +kernel
theorem j106_110 : ax_in 106 110 = some (.invokevirtual 120, 3, 91, 0) := by decide +kernel
theorem j106_113 : ax_in 106 113 = some (.istore 5, 2, 0, 0) := by decide +kernel
theorem j106_115 : ax_in 106 115 = some (.iload 5, 2, 0, 0) := by decide +kernel
theorem j106_117 : ax_in 106 117 = some (.ifCond .ge 13, 3, 0, 0) := by decide +kernel
theorem j106_120 : ax_in 106 120 = some (.aload_n 0, 1, 0, 0) := by decide +kernel
theorem j106_121 : ax_in 106 121 = some (.iconst 0, 1, 0, 0) := by decide +kernel
theorem j106_122 : ax_in 106 122 = some (.iload_n 1, 1, 0, 0) := by decide +kernel
theorem j106_123 : ax_in 106 123 = some (.iload_n 2, 1, 0, 0) := by decide +kernel
theorem j106_124 : ax_in 106 124 = some (.invokevirtual 123, 3, 92, 0) := by decide +kernel
theorem j106_127 : ax_in 106 127 = some (.goto 5, 3, 0, 0) := by decide +kernel
theorem j106_130 : ax_in 106 130 = some (.iload 5, 2, 0, 0) := by decide +kernel
theorem j106_132 : ax_in 106 132 = some (.ireturn, 1, 0, 0) := by decide +kernel
theorem j107_0 : ax_in 107 0 = some (.iconst 0, 1, 0, 0) := by decide +kernel
theorem j107_1 : ax_in 107 1 = some (.istore_n 3, 1, 0, 0) := by decide +kernel
theorem j107_2 : ax_in 107 2 = some (.iload_n 3, 1, 0, 0) := by decide +kernel
theorem j107_3 : ax_in 107 3 = some (.aload_n 0, 1, 0, 0) := by decide +kernel
theorem j107_4 : ax_in 107 4 = some (.getfield 31, 3, 8, 8) := by decide +kernel
theorem j107_7 : ax_in 107 7 = some (.iload_n 1, 1, 0, 0) := by decide +kernel
theorem j107_8 : ax_in 107 8 = some (.iaload, 1, 0, 0) := by decide +kernel
theorem j107_9 : ax_in 107 9 = some (.if_icmp .ge 40, 3, 0, 0) := by decide +kernel
theorem j107_12 : ax_in 107 12 = some (.aload_n 0, 1, 0, 0) := by decide +kernel
theorem j107_13 : ax_in 107 13 = some (.getfield 34, 3, 8, 9) := by decide +kernel
theorem j107_16 : ax_in 107 16 = some (.iconst 5, 1, 0, 0) := by decide +kernel
theorem j107_17 : ax_in 107 17 = some (.iload_n 1, 1, 0, 0) := by decide +kernel
theorem j107_18 : ax_in 107 18 = some (.imul, 1, 0, 0) := by decide +kernel
theorem j107_19 : ax_in 107 19 = some (.iload_n 3, 1, 0, 0) := by decide +kernel
theorem j107_20 : ax_in 107 20 = some (.iadd, 1, 0, 0) := by decide +kernel
theorem j107_21 : ax_in 107 21 = some (.iaload, 1, 0, 0) := by decide +kernel
theorem j107_22 : ax_in 107 22 = some (.iload_n 2, 1, 0, 0) := by decide +kernel
theorem j107_23 : ax_in 107 23 = some (.if_icmp .ne 20, 3, 0, 0) := by decide +kernel
theorem j107_26 : ax_in 107 26 = some (.aload_n 0, 1, 0, 0) := by decide +kernel
theorem j107_27 : ax_in 107 27 = some (.iconst 0, 1, 0, 0) := by decide +kernel
theorem j107_28 : ax_in 107 28 = some (.invokevirtual 99, 3, 104, 0) := by decide +kernel
theorem j107_31 : ax_in 107 31 = some (.aload_n 0, 1, 0, 0) := by decide +kernel
theorem j107_32 : ax_in 107 32 = some (.iload_n 3, 1, 0, 0) := by decide +kernel
theorem j107_33 : ax_in 107 33 = some (.aload_n 0, 1, 0, 0) := by decide +kernel
theorem j107_34 : ax_in 107 34 = some (.getfield 31, 3, 8, 8) := by decide +kernel
theorem j107_37 : ax_in 107 37 = some (.iload_n 1, 1, 0, 0) := by decide +kernel
theorem j107_38 : ax_in 107 38 = some (.iaload, 1, 0, 0) := by decide +kernel
theorem j107_39 : ax_in 107 39 = some (.invokevirtual 95, 3, 103, 0) := by decide +kernel
theorem j107_42 : ax_in 107 42 = some (.return_, 1, 0, 0) := by decide +kernel
theorem j107_43 : ax_in 107 43 = some (.iinc 3 1, 3, 0, 0) := by decide +kernel
theorem j107_46 : ax_in 107 46 = some (.goto (-44), 3, 0, 0) := by decide +kernel
theorem j107_49 : ax_in 107 49 = some (.iconst 0, 1, 0, 0) := by decide +kernel
theorem j107_50 : ax_in 107 50 = some (.istore_n 3, 1, 0, 0) := by decide +kernel
theorem j107_51 : ax_in 107 51 = some (.iload_n 3, 1, 0, 0) := by decide +kernel
theorem j107_52 : ax_in 107 52 = some (.aload_n 0, 1, 0, 0) := by decide +kernel
theorem j107_53 : ax_in 107 53 = some (.getfield 37, 3, 8, 10) := by decide +kernel
theorem j107_56 : ax_in 107 56 = some (.iconst 0, 1, 0, 0) := by decide +kernel
theorem j107_57 : ax_in 107 57 = some (.iaload, 1, 0, 0) := by decide +kernel
theorem j107_58 : ax_in 107 58 = some (.if_icmp .ge 36, 3, 0, 0) := by decide +kernel
theorem j107_61 : ax_in 107 61 = some (.aload_n 0, 1, 0, 0) := by decide +kernel
theorem j107_62 : ax_in 107 62 = some (.getfield 40, 3, 8, 11) := by decide +kernel
theorem j107_65 : ax_in 107 65 = some (.iload_n 3, 1, 0, 0) := by decide +kernel
theorem j107_66 : ax_in 107 66 = some (.iaload, 1, 0, 0) := by decide +kernel
theorem j107_67 : ax_in 107 67 = some (.iload_n 2, 1, 0, 0) := by decide +kernel
theorem j107_68 : ax_in 107 68 = some (.if_icmp .ne 20, 3, 0, 0) := by decide +kernel
theorem j107_71 : ax_in 107 71 = some (.aload_n 0, 1, 0, 0) := by decide +kernel
theorem j107_72 : ax_in 107 72 = some (.iconst 1, 1, 0, 0) := by decide +kernel
theorem j107_73 : ax_in 107 73 = some (.invokevirtual 99, 3, 104, 0) := by decide +kernel
theorem j107_76 : ax_in 107 76 = some (.aload_n 0, 1, 0, 0) := by decide +kernel
theorem j107_77 : ax_in 107 77 = some (.iload_n 3, 1, 0, 0) := by decide +kernel
theorem j107_78 : ax_in 107 78 = some (.aload_n 0, 1, 0, 0) := by decide +kernel
theorem j107_79 : ax_in 107 79 = some (.getfield 37, 3, 8, 10) := by decide +kernel
theorem j107_82 : ax_in 107 82 = some (.iconst 0, 1, 0, 0) := by decide +kernel
theorem j107_83 : ax_in 107 83 = some (.iaload, 1, 0, 0) := by decide +kernel
theorem j107_84 : ax_in 107 84 = some (.invokevirtual 95, 3, 103, 0) := by decide +kernel
theorem j107_87 : ax_in 107 87 = some (.return_, 1, 0, 0) := by decide +kernel
theorem j107_88 : ax_in 107 88 = some (.iinc 3 1, 3, 0, 0) := by decide +kernel
theorem j107_91 : ax_in 107 91 = some (.goto (-40), 3, 0, 0) := by decide +kernel
theorem j107_94 : ax_in 107 94 = some (.aload_n 0, 1, 0, 0) := by decide +kernel
theorem j107_95 : ax_in 107 95 = some (.iload_n 2, 1, 0, 0) := by decide +kernel
theorem j107_96 : ax_in 107 96 = some (.invokestatic 84, 3, 87, 1) := by decide +kernel
theorem j107_99 : ax_in 107 99 = some (.iconst 2, 1, 0, 0) := by decide +kernel
theorem j107_100 : ax_in 107 100 = some (.iadd, 1, 0, 0) := by decide +kernel
theorem j107_101 : ax_in 107 101 = some (.invokevirtual 99, 3, 104, 0) := by decide +kernel
theorem j107_104 : ax_in 107 104 = some (.aload_n 0, 1, 0, 0) := by decide +kernel
theorem j107_105 : ax_in 107 105 = some (.iload_n 2, 1, 0, 0) := by decide +kernel
theorem j107_106 : ax_in 107 106 = some (.invokevirtual 106, 3, 105, 0) := by decide +kernel
theorem j107_109 : ax_in 107 109 = some (.aload_n 0, 1, 0, 0) := by decide +kernel
theorem j107_110 : ax_in 107 110 = some (.iconst 0, 1, 0, 0) := by decide +kernel
theorem j107_111 : ax_in 107 111 = some (.iload_n 1, 1, 0, 0) := by decide +kernel
theorem j107_112 : ax_in 107 112 = some (.iload_n 2, 1, 0, 0) := by decide +kernel
theorem j107_113 : ax_in 107 113 = some (.invokevirtual 126, 3, 95, 0) := by decide +kernel
theorem j107_116 : ax_in 107 116 = some (.return_, 1, 0, 0) := by decide +kernel
theorem j108_0 : ax_in 108 0 = some (.aload_n 0, 1, 0, 0) := by decide +kernel
theorem j108_1 : ax_in 108 1 = some (.iconst 0, 1, 0, 0) := by decide +kernel
theorem j108_2 : ax_in 108 2 = some (.invokevirtual 129, 3, 96, 0) := by decide +kernel
theorem j108_5 : ax_in 108 5 = some (.istore_n 3, 1, 0, 0) := by decide +kernel
theorem j108_6 : ax_in 108 6 = some (.aload_n 0, 1, 0, 0) := by decide +kernel
theorem j108_7 : ax_in 108 7 = some (.getfield 43, 3, 8, 12) := by decide +kernel
theorem j108_10 : ax_in 108 10 = some (.iload_n 3, 1, 0, 0) := by decide +kernel
theorem j108_11 : ax_in 108 11 = some (.iaload, 1, 0, 0) := by decide +kernel
theorem j108_12 : ax_in 108 12 = some (.istore 4, 2, 0, 0) := by decide +kernel
theorem j108_14 : ax_in 108 14 = some (.iload_n 3, 1, 0, 0) := by decide +kernel
theorem j108_15 : ax_in 108 15 = some (.iconst 2, 1, 0, 0) := by decide +kernel
theorem j108_16 : ax_in 108 16 = some (.irem, 1, 0, 0) := by decide +kernel
theorem j108_17 : ax_in 108 17 = some (.iconst 1, 1, 0, 0) := by decide +kernel
theorem j108_18 : ax_in 108 18 = some (.if_icmp .ne 7, 3, 0, 0) := by decide +kernel
theorem j108_21 : ax_in 108 21 = some (.iconst 1, 1, 0, 0) := by decide +kernel
theorem j108_22 : ax_in 108 22 = some (.goto 4, 3, 0, 0) := by decide +kernel
theorem j108_25 : ax_in 108 25 = some (.iconst 0, 1, 0, 0) := by decide +kernel
theorem j108_26 : ax_in 108 26 = some (.istore 5, 2, 0, 0) := by decide +kernel
theorem j108_28 : ax_in 108 28 = some (.iload_n 1, 1, 0, 0) := by decide +kernel
theorem j108_29 : ax_in 108 29 = some (.ifCond .ge 7, 3, 0, 0) := by decide +kernel
theorem j108_32 : ax_in 108 32 = some (.iconst (-1), 1, 0, 0) := by decide +kernel
theorem j108_33 : ax_in 108 33 = some (.goto 9, 3, 0, 0) := by decide +kernel
theorem j108_36 : ax_in 108 36 = some (.aload_n 0, 1, 0, 0) := by decide +kernel
theorem j108_37 : ax_in 108 37 = some (.iload_n 3, 1, 0, 0) := by decide +kernel
theorem j108_38 : ax_in 108 38 = some (.iload_n 1, 1, 0, 0) := by decide +kernel
theorem j108_39 : ax_in 108 39 = some (.invokevirtual 88, 3, 99, 0) := by decide +kernel
theorem j108_42 : ax_in 108 42 = some (.istore 6, 2, 0, 0) := by decide +kernel
theorem j108_44 : ax_in 108 44 = some (.iload 6, 2, 0, 0) := by decide +kernel
theorem j108_46 : ax_in 108 46 = some (.ifCond .lt 24, 3, 0, 0) := by decide +kernel
theorem j108_49 : ax_in 108 49 = some (.aload_n 0, 1, 0, 0) := by decide +kernel
theorem j108_50 : ax_in 108 50 = some (.iload 6, 2, 0, 0) := by decide +kernel
theorem j108_52 : ax_in 108 52 = some (.iload 4, 2, 0, 0) := by decide +kernel
theorem j108_54 : ax_in 108 54 = some (.iload 5, 2, 0, 0) := by decide +kernel
theorem j108_56 : ax_in 108 56 = some (.ifCond .eq 7, 3, 0, 0) := by decide +kernel
theorem j108_59 : ax_in 108 59 = some (.iconst 2, 1, 0, 0) := by decide +kernel
theorem j108_60 : ax_in 108 60 = some (.goto 4, 3, 0, 0) := by decide +kernel
theorem j108_63 : ax_in 108 63 = some (.iconst 1, 1, 0, 0) := by decide +kernel
theorem j108_64 : ax_in 108 64 = some (.iadd, 1, 0, 0) := by decide +kernel
theorem j108_65 : ax_in 108 65 = some (.invokevirtual 95, 3, 103, 0) := by decide +kernel
theorem j108_68 : ax_in 108 68 = some (.iconst 1, 1, 0, 0) := by decide +kernel
theorem j108_69 : ax_in 108 69 = some (.ireturn, 1, 0, 0) := by decide +kernel
theorem j108_70 : ax_in 108 70 = some (.iload 5, 2, 0, 0) := by decide +kernel
theorem j108_72 : ax_in 108 72 = some (.ifCond .ne 22, 3, 0, 0) := by decide +kernel
theorem j108_75 : ax_in 108 75 = some (.aload_n 0, 1, 0, 0) := by decide +kernel
theorem j108_76 : ax_in 108 76 = some (.iload 4, 2, 0, 0) := by decide +kernel
theorem j108_78 : ax_in 108 78 = some (.iload 4, 2, 0, 0) := by decide +kernel
theorem j108_80 : ax_in 108 80 = some (.iconst 1, 1, 0, 0) := by decide +kernel
theorem j108_81 : ax_in 108 81 = some (.iadd, 1, 0, 0) := by decide +kernel
theorem j108_82 : ax_in 108 82 = some (.invokevirtual 95, 3, 103, 0) := by decide +kernel
theorem j108_85 : ax_in 108 85 = some (.aload_n 0, 1, 0, 0) := by decide +kernel
theorem j108_86 : ax_in 108 86 = some (.iload_n 2, 1, 0, 0) := by decide +kernel
theorem j108_87 : ax_in 108 87 = some (.iconst 4, 1, 0, 0) := by decide +kernel
theorem j108_88 : ax_in 108 88 = some (.invokevirtual 95, 3, 103, 0) := by decide +kernel
theorem j108_91 : ax_in 108 91 = some (.goto 40, 3, 0, 0) := by decide +kernel
theorem j108_94 : ax_in 108 94 = some (.iload_n 2, 1, 0, 0) := by decide +kernel
theorem j108_95 : ax_in 108 95 = some (.ifCond .ne 16, 3, 0, 0) := by decide +kernel
theorem j108_98 : ax_in 108 98 = some (.aload_n 0, 1, 0, 0) := by decide +kernel
theorem j108_99 : ax_in 108 99 = some (.iload 4, 2, 0, 0) := by decide +kernel
theorem j108_101 : ax_in 108 101 = some (.iload 4, 2, 0, 0) := by decide +kernel
theorem j108_103 : ax_in 108 103 = some (.iconst 2, 1, 0, 0) := by decide +kernel
theorem j108_104 : ax_in 108 104 = some (.iadd, 1, 0, 0) := by decide +kernel
theorem j108_105 : ax_in 108 105 = some (.invokevirtual 95, 3, 103, 0) := by decide +kernel
theorem j108_108 : ax_in 108 108 = some (.goto 23, 3, 0, 0) := by decide +kernel
theorem j108_111 : ax_in 108 111 = some (.aload_n 0, 1, 0, 0) := by decide +kernel
theorem j108_112 : ax_in 108 112 = some (.iload 4, 2, 0, 0) := by decide +kernel
theorem j108_114 : ax_in 108 114 = some (.iconst 1, 1, 0, 0) := by decide +kernel
theorem j108_115 : ax_in 108 115 = some (.iadd, 1, 0, 0) := by decide +kernel
theorem j108_116 : ax_in 108 116 = some (.iload 4, 2, 0, 0) := by decide +kernel
theorem j108_118 : ax_in 108 118 = some (.iconst 2, 1, 0, 0) := by decide +kernel
theorem j108_119 : ax_in 108 119 = some (.iadd, 1, 0, 0) := by decide +kernel
theorem j108_120 : ax_in 108 120 = some (.invokevirtual 95, 3, 103, 0) := by decide +kernel
theorem j108_123 : ax_in 108 123 = some (.aload_n 0, 1, 0, 0) := by decide +kernel
theorem j108_124 : ax_in 108 124 = some (.iload_n 2, 1, 0, 0) := by decide +kernel
theorem j108_125 : ax_in 108 125 = some (.iconst 2, 1, 0, 0) := by decide +kernel
theorem j108_126 : ax_in 108 126 = some (.isub, 1, 0, 0) := by decide +kernel
theorem j108_127 : ax_in 108 127 = some (.iconst 2, 1, 0, 0) := by decide +kernel
theorem j108_128 : ax_in 108 128 = some (.invokevirtual 95, 3, 103, 0) := by decide +kernel
theorem j108_131 : ax_in 108 131 = some (.iconst 0, 1, 0, 0) := by decide +kernel
theorem j108_132 : ax_in 108 132 = some (.ireturn, 1, 0, 0) := by decide +kernel
theorem j109_0 : ax_in 109 0 = some (.aload_n 0, 1, 0, 0) := by decide +kernel
theorem j109_1 : ax_in 109 1 = some (.iconst 0, 1, 0, 0) := by decide +kernel
theorem j109_2 : ax_in 109 2 = some (.iload_n 1, 1, 0, 0) := by decide +kernel
theorem j109_3 : ax_in 109 3 = some (.invokevirtual 103, 3, 89, 0) := by decide +kernel
theorem j109_6 : ax_in 109 6 = some (.istore_n 3, 1, 0, 0) := by decide +kernel
theorem j109_7 : ax_in 109 7 = some (.iload_n 3, 1, 0, 0) := by decide +kernel
theorem j109_8 : ax_in 109 8 = some (.ifCond .ge 31, 3, 0, 0) := by decide +kernel
theorem j109_11 : ax_in 109 11 = some (.aload_n 0, 1, 0, 0) := by decide +kernel
theorem j109_12 : ax_in 109 12 = some (.getfield 7, 3, 8, 1) := by decide +kernel
theorem j109_15 : ax_in 109 15 = some (.iconst 0, 1, 0, 0) := by decide +kernel
theorem j109_16 : ax_in 109 16 = some (.iaload, 1, 0, 0) := by decide +kernel
theorem j109_17 : ax_in 109 17 = some (.bipush 6, 2, 0, 0) := by decide +kernel
theorem j109_19 : ax_in 109 19 = some (.if_icmp .eq 14, 3, 0, 0) := by decide +kernel
theorem j109_22 : ax_in 109 22 = some (.aload_n 0, 1, 0, 0) := by decide +kernel
theorem j109_23 : ax_in 109 23 = some (.getfield 22, 3, 8, 5) := by decide +kernel
theorem j109_26 : ax_in 109 26 = some (.iconst 0, 1, 0, 0) := by decide +kernel
theorem j109_27 : ax_in 109 27 = some (.iaload, 1, 0, 0) := by decide +kernel
theorem j109_28 : ax_in 109 28 = some (.bipush 20, 2, 0, 0) := by decide +kernel
theorem j109_30 : ax_in 109 30 = some (.if_icmp .ne 7, 3, 0, 0) := by decide +kernel
theorem j109_33 : ax_in 109 33 = some (.iconst 1, 1, 0, 0) := by decide +kernel
theorem j109_34 : ax_in 109 34 = some (.goto 4, 3, 0, 0) := by decide +kernel
theorem j109_37 : ax_in 109 37 = some (.iconst 0, 1, 0, 0) := by decide +kernel
theorem j109_38 : ax_in 109 38 = some (.ireturn, 1, 0, 0) := by decide +kernel
theorem j109_39 : ax_in 109 39 = some (.aload_n 0, 1, 0, 0) := by decide +kernel
theorem j109_40 : ax_in 109 40 = some (.iconst 0, 1, 0, 0) := by decide +kernel
theorem j109_41 : ax_in 109 41 = some (.iload_n 3, 1, 0, 0) := by decide +kernel
theorem j109_42 : ax_in 109 42 = some (.iload_n 2, 1, 0, 0) := by decide +kernel
theorem j109_43 : ax_in 109 43 = some (.invokevirtual 112, 3, 90, 0) := by decide +kernel
theorem j109_46 : ax_in 109 46 = some (.ifCond .ge 18, 3, 0, 0) := by decide +kernel
theorem j109_49 : ax_in 109 49 = some (.aload_n 0, 1, 0, 0) := by decide +kernel
theorem j109_50 : ax_in 109 50 = some (.getfield 16, 3, 8, 3) := by decide +kernel
theorem j109_53 : ax_in 109 53 = some (.iload_n 3, 1, 0, 0) := by decide +kernel
theorem j109_54 : ax_in 109 54 = some (.iaload, 1, 0, 0) := by decide +kernel
theorem j109_55 : ax_in 109 55 = some (.bipush 10, 2, 0, 0) := by decide +kernel
theorem j109_57 : ax_in 109 57 = some (.if_icmp .ne 7, 3, 0, 0) := by decide +kernel
theorem j109_60 : ax_in 109 60 = some (.iconst 1, 1, 0, 0) := by decide +kernel
theorem j109_61 : ax_in 109 61 = some (.goto 4, 3, 0, 0) := by decide +kernel
theorem j109_64 : ax_in 109 64 = some (.iconst 0, 1, 0, 0) := by decide +kernel
theorem j109_65 : ax_in 109 65 = some (.istore 4, 2, 0, 0) := by decide +kernel
theorem j109_67 : ax_in 109 67 = some (.iload 4, 2, 0, 0) := by decide +kernel
theorem j109_69 : ax_in 109 69 = some (.ifCond .ne 24, 3, 0, 0) := by decide +kernel
theorem j109_72 : ax_in 109 72 = some (.aload_n 0, 1, 0, 0) := by decide +kernel
theorem j109_73 : ax_in 109 73 = some (.iconst 0, 1, 0, 0) := by decide +kernel
theorem j109_74 : ax_in 109 74 = some (.iload_n 1, 1, 0, 0) := by decide +kernel
theorem j109_75 : ax_in 109 75 = some (.iload_n 2, 1, 0, 0) := by decide +kernel
theorem j109_76 : ax_in 109 76 = some (.invokevirtual 120, 3, 91, 0) := by decide +kernel
theorem j109_79 : ax_in 109 79 = some (.ifCond .ge 18, 3, 0, 0) := by decide +kernel
theorem j109_82 : ax_in 109 82 = some (.aload_n 0, 1, 0, 0) := by decide +kernel
theorem j109_83 : ax_in 109 83 = some (.getfield 22, 3, 8, 5) := by decide +kernel
theorem j109_86 : ax_in 109 86 = some (.iconst 0, 1, 0, 0) := by decide +kernel
theorem j109_87 : ax_in 109 87 = some (.iaload, 1, 0, 0) := by decide +kernel
theorem j109_88 : ax_in 109 88 = some (.bipush 20, 2, 0, 0) := by decide +kernel
theorem j109_90 : ax_in 109 90 = some (.if_icmp .ne 7, 3, 0, 0) := by decide +kernel
theorem j109_93 : ax_in 109 93 = some (.iconst 1, 1, 0, 0) := by decide +kernel
theorem j109_94 : ax_in 109 94 = some (.goto 4, 3, 0, 0) := by decide +kernel
theorem j109_97 : ax_in 109 97 = some (.iconst 0, 1, 0, 0) := by decide +kernel
theorem j109_98 : ax_in 109 98 = some (.ireturn, 1, 0, 0) := by decide +kernel
theorem j110_0 : ax_in 110 0 = some (.aload_n 0, 1, 0, 0) := by decide +kernel
theorem j110_1 : ax_in 110 1 = some (.getfield 49, 3, 8, 14) := by decide +kernel
theorem j110_4 : ax_in 110 4 = some (.iconst 0, 1, 0, 0) := by decide +kernel
theorem j110_5 : ax_in 110 5 = some (.iaload, 1, 0, 0) := by decide +kernel
theorem j110_6 : ax_in 110 6 = some (.ifCond .le 20, 3, 0, 0) := by decide +kernel
theorem j110_9 : ax_in 110 9 = some (.aload_n 0, 1, 0, 0) := by decide +kernel
theorem j110_10 : ax_in 110 10 = some (.aload_n 0, 1, 0, 0) := by decide +kernel
theorem j110_11 : ax_in 110 11 = some (.iconst 0, 1, 0, 0) := by decide +kernel
theorem j110_12 : ax_in 110 12 = some (.invokevirtual 129, 3, 96, 0) := by decide +kernel
theorem j110_15 : ax_in 110 15 = some (.iload_n 1, 1, 0, 0) := by decide +kernel
theorem j110_16 : ax_in 110 16 = some (.invokevirtual 88, 3, 99, 0) := by decide +kernel
theorem j110_19 : ax_in 110 19 = some (.ifCond .lt 7, 3, 0, 0) := by decide +kernel
theorem j110_22 : ax_in 110 22 = some (.iconst 1, 1, 0, 0) := by decide +kernel
theorem j110_23 : ax_in 110 23 = some (.goto 4, 3, 0, 0) := by decide +kernel
theorem j110_26 : ax_in 110 26 = some (.iconst 0, 1, 0, 0) := by decide +kernel
theorem j110_27 : ax_in 110 27 = some (.ireturn, 1, 0, 0) := by decide +kernel
theorem j111_0 : ax_in 111 0 = some (.iload_n 0, 1, 0, 0) := by decide +kernel
theorem j111_1 : ax_in 111 1 = some (.invokestatic 132, 3, 88, 1) := by decide +kernel
theorem j111_4 : ax_in 111 4 = some (.ifCond .eq 18, 3, 0, 0) := by decide +kernel
theorem j111_7 : ax_in 111 7 = some (.iload_n 1, 1, 0, 0) := by decide +kernel
theorem j111_8 : ax_in 111 8 = some (.invokestatic 132, 3, 88, 1) := by decide +kernel
theorem j111_11 : ax_in 111 11 = some (.ifCond .eq 11, 3, 0, 0) := by decide +kernel
theorem j111_14 : ax_in 111 14 = some (.iload_n 1, 1, 0, 0) := by decide +kernel
theorem j111_15 : ax_in 111 15 = some (.ifCond .le 7, 3, 0, 0) := by decide +kernel
theorem j111_18 : ax_in 111 18 = some (.iconst 1, 1, 0, 0) := by decide +kernel
theorem j111_19 : ax_in 111 19 = some (.goto 4, 3, 0, 0) := by decide +kernel
theorem j111_22 : ax_in 111 22 = some (.iconst 0, 1, 0, 0) := by decide +kernel
theorem j111_23 : ax_in 111 23 = some (.ireturn, 1, 0, 0) := by decide +kernel
theorem j112_0 : ax_in 112 0 = some (.aload_n 0, 1, 0, 0) := by decide +kernel
theorem j112_1 : ax_in 112 1 = some (.getfield 59, 3, 8, 17) := by decide +kernel
theorem j112_4 : ax_in 112 4 = some (.iconst 0, 1, 0, 0) := by decide +kernel
theorem j112_5 : ax_in 112 5 = some (.baload, 1, 0, 0) := by decide +kernel
theorem j112_6 : ax_in 112 6 = some (.ifCond .eq 5, 3, 0, 0) := by decide +kernel
theorem j112_9 : ax_in 112 9 = some (.iconst 2, 1, 0, 0) := by decide +kernel
theorem j112_10 : ax_in 112 10 = some (.ireturn, 1, 0, 0) := by decide +kernel
theorem j112_11 : ax_in 112 11 = some (.aload_n 0, 1, 0, 0) := by decide +kernel
theorem j112_12 : ax_in 112 12 = some (.iconst 0, 1, 0, 0) := by decide +kernel
theorem j112_13 : ax_in 112 13 = some (.iload_n 1, 1, 0, 0) := by decide +kernel
theorem j112_14 : ax_in 112 14 = some (.iload_n 2, 1, 0, 0) := by decide +kernel
theorem j112_15 : ax_in 112 15 = some (.invokevirtual 120, 3, 91, 0) := by decide +kernel
theorem j112_18 : ax_in 112 18 = some (.istore_n 3, 1, 0, 0) := by decide +kernel
theorem j112_19 : ax_in 112 19 = some (.iload_n 3, 1, 0, 0) := by decide +kernel
theorem j112_20 : ax_in 112 20 = some (.ifCond .lt 18, 3, 0, 0) := by decide +kernel
theorem j112_23 : ax_in 112 23 = some (.aload_n 0, 1, 0, 0) := by decide +kernel
theorem j112_24 : ax_in 112 24 = some (.iload_n 3, 1, 0, 0) := by decide +kernel
theorem j112_25 : ax_in 112 25 = some (.invokestatic 136, 3, 97, 1) := by decide +kernel
theorem j112_28 : ax_in 112 28 = some (.invokevirtual 139, 3, 110, 0) := by decide +kernel
theorem j112_31 : ax_in 112 31 = some (.ifCond .eq 7, 3, 0, 0) := by decide +kernel
theorem j112_34 : ax_in 112 34 = some (.iconst 1, 1, 0, 0) := by decide +kernel
theorem j112_35 : ax_in 112 35 = some (.goto 4, 3, 0, 0) := by decide +kernel
theorem j112_38 : ax_in 112 38 = some (.iconst 0, 1, 0, 0) := by decide +kernel
theorem j112_39 : ax_in 112 39 = some (.istore 4, 2, 0, 0) := by decide +kernel
theorem j112_41 : ax_in 112 41 = some (.aload_n 0, 1, 0, 0) := by decide +kernel
theorem j112_42 : ax_in 112 42 = some (.getfield 49, 3, 8, 14) := by decide +kernel
theorem j112_45 : ax_in 112 45 = some (.iconst 0, 1, 0, 0) := by decide +kernel
theorem j112_46 : ax_in 112 46 = some (.iaload, 1, 0, 0) := by decide +kernel
theorem j112_47 : ax_in 112 47 = some (.bipush 8, 2, 0, 0) := by decide +kernel
theorem j112_49 : ax_in 112 49 = some (.if_icmp .eq 27, 3, 0, 0) := by decide +kernel
theorem j112_52 : ax_in 112 52 = some (.aload_n 0, 1, 0, 0) := by decide +kernel
theorem j112_53 : ax_in 112 53 = some (.getfield 92, 3, 8, 19) := by decide +kernel
theorem j112_56 : ax_in 112 56 = some (.sipush 3800, 3, 0, 0) := by decide +kernel
theorem j112_59 : ax_in 112 59 = some (.if_icmp .gt 17, 3, 0, 0) := by decide +kernel
theorem j112_62 : ax_in 112 62 = some (.iload 4, 2, 0, 0) := by decide +kernel
theorem j112_64 : ax_in 112 64 = some (.ifCond .ne 14, 3, 0, 0) := by decide +kernel
theorem j112_67 : ax_in 112 67 = some (.aload_n 0, 1, 0, 0) := by decide +kernel
theorem j112_68 : ax_in 112 68 = some (.iload_n 1, 1, 0, 0) := by decide +kernel
theorem j112_69 : ax_in 112 69 = some (.iload_n 2, 1, 0, 0) := by decide +kernel
theorem j112_70 : ax_in 112 70 = some (.invokevirtual 142, 3, 109, 0) := by decide +kernel
theorem j112_73 : ax_in 112 73 = some (.ifCond .eq 5, 3, 0, 0) := by decide +kernel
theorem j112_76 : ax_in 112 76 = some (.iconst 3, 1, 0, 0) := by decide +kernel
theorem j112_77 : ax_in 112 77 = some (.ireturn, 1, 0, 0) := by decide +kernel
theorem j112_78 : ax_in 112 78 = some (.aload_n 0, 1, 0, 0) := by decide +kernel
theorem j112_79 : ax_in 112 79 = some (.getfield 49, 3, 8, 14) := by decide +kernel
theorem j112_82 : ax_in 112 82 = some (.iconst 0, 1, 0, 0) := by decide +kernel
theorem j112_83 : ax_in 112 83 = some (.iaload, 1, 0, 0) := by decide +kernel
theorem j112_84 : ax_in 112 84 = some (.ifCond .le 50, 3, 0, 0) := by decide +kernel
theorem j112_87 : ax_in 112 87 = some (.aload_n 0, 1, 0, 0) := by decide +kernel
theorem j112_88 : ax_in 112 88 = some (.iconst 0, 1, 0, 0) := by decide +kernel
theorem j112_89 : ax_in 112 89 = some (.invokevirtual 129, 3, 96, 0) := by decide +kernel
theorem j112_92 : ax_in 112 92 = some (.istore 5, 2, 0, 0) := by decide +kernel
theorem j112_94 : ax_in 112 94 = some (.aload_n 0, 1, 0, 0) := by decide +kernel
theorem j112_95 : ax_in 112 95 = some (.iload_n 3, 1, 0, 0) := by decide +kernel
theorem j112_96 : ax_in 112 96 = some (.ifCond .ge 7, 3, 0, 0) := by decide +kernel
theorem j112_99 : ax_in 112 99 = some (.iconst (-1), 1, 0, 0) := by decide +kernel
theorem j112_100 : ax_in 112 100 = some (.goto 7, 3, 0, 0) := by decide +kernel
theorem j112_103 : ax_in 112 103 = some (.iload_n 3, 1, 0, 0) := by decide +kernel
theorem j112_104 : ax_in 112 104 = some (.invokestatic 136, 3, 97, 1) := by decide +kernel
theorem j112_107 : ax_in 112 107 = some (.iconst 2, 1, 0, 0) := by decide +kernel
theorem j112_108 : ax_in 112 108 = some (.invokevirtual 146, 3, 108, 0) := by decide +kernel
theorem j112_111 : ax_in 112 111 = some (.ifCond .ne 20, 3, 0, 0) := by decide +kernel
theorem j112_114 : ax_in 112 114 = some (.aload_n 0, 1, 0, 0) := by decide +kernel
theorem j112_115 : ax_in 112 115 = some (.iload_n 1, 1, 0, 0) := by decide +kernel
theorem j112_116 : ax_in 112 116 = some (.iload_n 2, 1, 0, 0) := by decide +kernel
theorem j112_117 : ax_in 112 117 = some (.invokevirtual 149, 3, 106, 0) := by decide +kernel
theorem j112_120 : ax_in 112 120 = some (.istore_n 3, 1, 0, 0) := by decide +kernel
theorem j112_121 : ax_in 112 121 = some (.aload_n 0, 1, 0, 0) := by decide +kernel
theorem j112_122 : ax_in 112 122 = some (.iload 5, 2, 0, 0) := by decide +kernel
theorem j112_124 : ax_in 112 124 = some (.iload_n 3, 1, 0, 0) := by decide +kernel
theorem j112_125 : ax_in 112 125 = some (.invokestatic 136, 3, 97, 1) := by decide +kernel
theorem j112_128 : ax_in 112 128 = some (.invokevirtual 152, 3, 100, 0) := by decide +kernel
theorem j112_131 : ax_in 112 131 = some (.goto 10, 3, 0, 0) := by decide +kernel
theorem j112_134 : ax_in 112 134 = some (.aload_n 0, 1, 0, 0) := by decide +kernel
theorem j112_135 : ax_in 112 135 = some (.iload_n 1, 1, 0, 0) := by decide +kernel
theorem j112_136 : ax_in 112 136 = some (.iload_n 2, 1, 0, 0) := by decide +kernel
theorem j112_137 : ax_in 112 137 = some (.invokevirtual 149, 3, 106, 0) := by decide +kernel
theorem j112_140 : ax_in 112 140 = some (.istore_n 3, 1, 0, 0) := by decide +kernel
theorem j112_141 : ax_in 112 141 = some (.aload_n 0, 1, 0, 0) := by decide +kernel
theorem j112_142 : ax_in 112 142 = some (.iconst 0, 1, 0, 0) := by decide +kernel
theorem j112_143 : ax_in 112 143 = some (.iload_n 3, 1, 0, 0) := by decide +kernel
theorem j112_144 : ax_in 112 144 = some (.invokevirtual 155, 3, 101, 0) := by decide +kernel
theorem j112_147 : ax_in 112 147 = some (.iconst 0, 1, 0, 0) := by decide +kernel
theorem j112_148 : ax_in 112 148 = some (.ireturn, 1, 0, 0) := by decide +kernel
theorem j113_0 : ax_in 113 0 = some (.aload_n 0, 1, 0, 0) := by decide +kernel
theorem j113_1 : ax_in 113 1 = some (.getfield 49, 3, 8, 14) := by decide +kernel
theorem j113_4 : ax_in 113 4 = some (.iconst 0, 1, 0, 0) := by decide +kernel
theorem j113_5 : ax_in 113 5 = some (.iaload, 1, 0, 0) := by decide +kernel
theorem j113_6 : ax_in 113 6 = some (.ifCond .eq 19, 3, 0, 0) := by decide +kernel
theorem j113_9 : ax_in 113 9 = some (.aload_n 0, 1, 0, 0) := by decide +kernel
theorem j113_10 : ax_in 113 10 = some (.getfield 55, 3, 8, 16) := by decide +kernel
theorem j113_13 : ax_in 113 13 = some (.aload_n 0, 1, 0, 0) := by decide +kernel
theorem j113_14 : ax_in 113 14 = some (.getfield 49, 3, 8, 14) := by decide +kernel
theorem j113_17 : ax_in 113 17 = some (.iconst 0, 1, 0, 0) := by decide +kernel
theorem j113_18 : ax_in 113 18 = some (.iaload, 1, 0, 0) := by decide +kernel
theorem j113_19 : ax_in 113 19 = some (.iconst 1, 1, 0, 0) := by decide +kernel
theorem j113_20 : ax_in 113 20 = some (.isub, 1, 0, 0) := by decide +kernel
theorem j113_21 : ax_in 113 21 = some (.baload, 1, 0, 0) := by decide +kernel
theorem j113_22 : ax_in 113 22 = some (.ifCond .eq 5, 3, 0, 0) := by decide +kernel
theorem j113_25 : ax_in 113 25 = some (.iconst 2, 1, 0, 0) := by decide +kernel
theorem j113_26 : ax_in 113 26 = some (.ireturn, 1, 0, 0) := by decide +kernel
theorem j113_27 : ax_in 113 27 = some (.aload_n 0, 1, 0, 0) := by decide +kernel
theorem j113_28 : ax_in 113 28 = some (.iconst 0, 1, 0, 0) := by decide +kernel
theorem j113_29 : ax_in 113 29 = some (.iload_n 1, 1, 0, 0) := by decide +kernel
theorem j113_30 : ax_in 113 30 = some (.iload_n 2, 1, 0, 0) := by decide +kernel
theorem j113_31 : ax_in 113 31 = some (.invokevirtual 120, 3, 91, 0) := by decide +kernel
theorem j113_34 : ax_in 113 34 = some (.istore 4, 2, 0, 0) := by decide +kernel
theorem j113_36 : ax_in 113 36 = some (.iload 4, 2, 0, 0) := by decide +kernel
theorem j113_38 : ax_in 113 38 = some (.ifCond .lt 19, 3, 0, 0) := by decide +kernel
theorem j113_41 : ax_in 113 41 = some (.aload_n 0, 1, 0, 0) := by decide +kernel
theorem j113_42 : ax_in 113 42 = some (.iload 4, 2, 0, 0) := by decide +kernel
theorem j113_44 : ax_in 113 44 = some (.invokestatic 158, 3, 98, 1) := by decide +kernel
theorem j113_47 : ax_in 113 47 = some (.invokevirtual 139, 3, 110, 0) := by decide +kernel
theorem j113_50 : ax_in 113 50 = some (.ifCond .eq 7, 3, 0, 0) := by decide +kernel
theorem j113_53 : ax_in 113 53 = some (.iconst 1, 1, 0, 0) := by decide +kernel
theorem j113_54 : ax_in 113 54 = some (.goto 4, 3, 0, 0) := by decide +kernel
theorem j113_57 : ax_in 113 57 = some (.iconst 0, 1, 0, 0) := by decide +kernel
theorem j113_58 : ax_in 113 58 = some (.istore 5, 2, 0, 0) := by decide +kernel
theorem j113_60 : ax_in 113 60 = some (.aload_n 0, 1, 0, 0) := by decide +kernel
theorem j113_61 : ax_in 113 61 = some (.getfield 92, 3, 8, 19) := by decide +kernel
theorem j113_64 : ax_in 113 64 = some (.sipush 3800, 3, 0, 0) := by decide +kernel
theorem j113_67 : ax_in 113 67 = some (.if_icmp .gt 17, 3, 0, 0) := by decide +kernel
theorem j113_70 : ax_in 113 70 = some (.iload 5, 2, 0, 0) := by decide +kernel
theorem j113_72 : ax_in 113 72 = some (.ifCond .ne 14, 3, 0, 0) := by decide +kernel
theorem j113_75 : ax_in 113 75 = some (.aload_n 0, 1, 0, 0) := by decide +kernel
theorem j113_76 : ax_in 113 76 = some (.iload_n 1, 1, 0, 0) := by decide +kernel
theorem j113_77 : ax_in 113 77 = some (.iload_n 2, 1, 0, 0) := by decide +kernel
theorem j113_78 : ax_in 113 78 = some (.invokevirtual 142, 3, 109, 0) := by decide +kernel
theorem j113_81 : ax_in 113 81 = some (.ifCond .eq 5, 3, 0, 0) := by decide +kernel
theorem j113_84 : ax_in 113 84 = some (.iconst 3, 1, 0, 0) := by decide +kernel
theorem j113_85 : ax_in 113 85 = some (.ireturn, 1, 0, 0) := by decide +kernel
theorem j113_86 : ax_in 113 86 = some (.aload_n 0, 1, 0, 0) := by decide +kernel
theorem j113_87 : ax_in 113 87 = some (.iconst 0, 1, 0, 0) := by decide +kernel
theorem j113_88 : ax_in 113 88 = some (.invokevirtual 129, 3, 96, 0) := by decide +kernel
theorem j113_91 : ax_in 113 91 = some (.istore 6, 2, 0, 0) := by decide +kernel
theorem j113_93 : ax_in 113 93 = some (.aload_n 0, 1, 0, 0) := by decide +kernel
theorem j113_94 : ax_in 113 94 = some (.iload 4, 2, 0, 0) := by decide +kernel
theorem j113_96 : ax_in 113 96 = some (.ifCond .ge 7, 3, 0, 0) := by decide +kernel
theorem j113_99 : ax_in 113 99 = some (.iconst (-1), 1, 0, 0) := by decide +kernel
theorem j113_100 : ax_in 113 100 = some (.goto 8, 3, 0, 0) := by decide +kernel
theorem j113_103 : ax_in 113 103 = some (.iload 4, 2, 0, 0) := by decide +kernel
theorem j113_105 : ax_in 113 105 = some (.invokestatic 158, 3, 98, 1) := by decide +kernel
theorem j113_108 : ax_in 113 108 = some (.iconst 1, 1, 0, 0) := by decide +kernel
theorem j113_109 : ax_in 113 109 = some (.invokevirtual 146, 3, 108, 0) := by decide +kernel
theorem j113_112 : ax_in 113 112 = some (.ifCond .ne 22, 3, 0, 0) := by decide +kernel
theorem j113_115 : ax_in 113 115 = some (.aload_n 0, 1, 0, 0) := by decide +kernel
theorem j113_116 : ax_in 113 116 = some (.iload_n 1, 1, 0, 0) := by decide +kernel
theorem j113_117 : ax_in 113 117 = some (.iload_n 2, 1, 0, 0) := by decide +kernel
theorem j113_118 : ax_in 113 118 = some (.invokevirtual 149, 3, 106, 0) := by decide +kernel
theorem j113_121 : ax_in 113 121 = some (.istore 4, 2, 0, 0) := by decide +kernel
theorem j113_123 : ax_in 113 123 = some (.aload_n 0, 1, 0, 0) := by decide +kernel
theorem j113_124 : ax_in 113 124 = some (.iload 6, 2, 0, 0) := by decide +kernel
theorem j113_126 : ax_in 113 126 = some (.iload 4, 2, 0, 0) := by decide +kernel
theorem j113_128 : ax_in 113 128 = some (.invokestatic 158, 3, 98, 1) := by decide +kernel
theorem j113_131 : ax_in 113 131 = some (.invokevirtual 152, 3, 100, 0) := by decide +kernel
theorem j113_134 : ax_in 113 134 = some (.aload_n 0, 1, 0, 0) := by decide +kernel
theorem j113_135 : ax_in 113 135 = some (.iload 4, 2, 0, 0) := by decide +kernel
theorem j113_137 : ax_in 113 137 = some (.iload_n 3, 1, 0, 0) := by decide +kernel
theorem j113_138 : ax_in 113 138 = some (.invokevirtual 161, 3, 107, 0) := by decide +kernel
theorem j113_141 : ax_in 113 141 = some (.iconst 0, 1, 0, 0) := by decide +kernel
theorem j113_142 : ax_in 113 142 = some (.ireturn, 1, 0, 0) := by decide +kernel
theorem j114_0 : ax_in 114 0 = some (.aload_n 0, 1, 0, 0) := by decide +kernel
theorem j114_1 : ax_in 114 1 = some (.getfield 49, 3, 8, 14) := by decide +kernel
theorem j114_4 : ax_in 114 4 = some (.iconst 0, 1, 0, 0) := by decide +kernel
theorem j114_5 : ax_in 114 5 = some (.iaload, 1, 0, 0) := by decide +kernel
theorem j114_6 : ax_in 114 6 = some (.ifCond .ne 5, 3, 0, 0) := by decide +kernel
theorem j114_9 : ax_in 114 9 = some (.iconst 2, 1, 0, 0) := by decide +kernel
theorem j114_10 : ax_in 114 10 = some (.ireturn, 1, 0, 0) := by decide +kernel
theorem j114_11 : ax_in 114 11 = some (.aload_n 0, 1, 0, 0) := by decide +kernel
theorem j114_12 : ax_in 114 12 = some (.getfield 92, 3, 8, 19) := by decide +kernel
theorem j114_15 : ax_in 114 15 = some (.sipush 3800, 3, 0, 0) := by decide +kernel
theorem j114_18 : ax_in 114 18 = some (.if_icmp .le 5, 3, 0, 0) := by decide +kernel
theorem j114_21 : ax_in 114 21 = some (.iconst 3, 1, 0, 0) := by decide +kernel
theorem j114_22 : ax_in 114 22 = some (.ireturn, 1, 0, 0) := by decide +kernel
theorem j114_23 : ax_in 114 23 = some (.aload_n 0, 1, 0, 0) := by decide +kernel
theorem j114_24 : ax_in 114 24 = some (.iconst 0, 1, 0, 0) := by decide +kernel
theorem j114_25 : ax_in 114 25 = some (.invokevirtual 129, 3, 96, 0) := by decide +kernel
theorem j114_28 : ax_in 114 28 = some (.istore_n 2, 1, 0, 0) := by decide +kernel
theorem j114_29 : ax_in 114 29 = some (.aload_n 0, 1, 0, 0) := by decide +kernel
theorem j114_30 : ax_in 114 30 = some (.iconst 1, 1, 0, 0) := by decide +kernel
theorem j114_31 : ax_in 114 31 = some (.iconst 3, 1, 0, 0) := by decide +kernel
theorem j114_32 : ax_in 114 32 = some (.invokevirtual 146, 3, 108, 0) := by decide +kernel
theorem j114_35 : ax_in 114 35 = some (.ifCond .ne 9, 3, 0, 0) := by decide +kernel
theorem j114_38 : ax_in 114 38 = some (.aload_n 0, 1, 0, 0) := by decide +kernel
theorem j114_39 : ax_in 114 39 = some (.iload_n 2, 1, 0, 0) := by decide +kernel
theorem j114_40 : ax_in 114 40 = some (.iconst 1, 1, 0, 0) := by decide +kernel
theorem j114_41 : ax_in 114 41 = some (.invokevirtual 152, 3, 100, 0) := by decide +kernel
theorem j114_44 : ax_in 114 44 = some (.aload_n 0, 1, 0, 0) := by decide +kernel
theorem j114_45 : ax_in 114 45 = some (.getfield 49, 3, 8, 14) := by decide +kernel
theorem j114_48 : ax_in 114 48 = some (.iconst 0, 1, 0, 0) := by decide +kernel
theorem j114_49 : ax_in 114 49 = some (.iaload, 1, 0, 0) := by decide +kernel
theorem j114_50 : ax_in 114 50 = some (.iconst 1, 1, 0, 0) := by decide +kernel
theorem j114_51 : ax_in 114 51 = some (.isub, 1, 0, 0) := by decide +kernel
theorem j114_52 : ax_in 114 52 = some (.istore_n 3, 1, 0, 0) := by decide +kernel
theorem j114_53 : ax_in 114 53 = some (.aload_n 0, 1, 0, 0) := by decide +kernel
theorem j114_54 : ax_in 114 54 = some (.aload_n 0, 1, 0, 0) := by decide +kernel
theorem j114_55 : ax_in 114 55 = some (.getfield 52, 3, 8, 15) := by decide +kernel
theorem j114_58 : ax_in 114 58 = some (.iload_n 3, 1, 0, 0) := by decide +kernel
theorem j114_59 : ax_in 114 59 = some (.iaload, 1, 0, 0) := by decide +kernel
theorem j114_60 : ax_in 114 60 = some (.iload_n 1, 1, 0, 0) := by decide +kernel
theorem j114_61 : ax_in 114 61 = some (.invokevirtual 161, 3, 107, 0) := by decide +kernel
theorem j114_64 : ax_in 114 64 = some (.aload_n 0, 1, 0, 0) := by decide +kernel
theorem j114_65 : ax_in 114 65 = some (.getfield 55, 3, 8, 16) := by decide +kernel
theorem j114_68 : ax_in 114 68 = some (.iload_n 3, 1, 0, 0) := by decide +kernel
theorem j114_69 : ax_in 114 69 = some (.iconst 1, 1, 0, 0) := by decide +kernel
theorem j114_70 : ax_in 114 70 = some (.bastore, 1, 0, 0) := by decide +kernel
theorem j114_71 : ax_in 114 71 = some (.iconst 0, 1, 0, 0) := by decide +kernel
theorem j114_72 : ax_in 114 72 = some (.ireturn, 1, 0, 0) := by decide +kernel
theorem j115_0 : ax_in 115 0 = some (.aload_n 0, 1, 0, 0) := by decide +kernel
theorem j115_1 : ax_in 115 1 = some (.getfield 49, 3, 8, 14) := by decide +kernel
theorem j115_4 : ax_in 115 4 = some (.iconst 0, 1, 0, 0) := by decide +kernel
theorem j115_5 : ax_in 115 5 = some (.iaload, 1, 0, 0) := by decide +kernel
theorem j115_6 : ax_in 115 6 = some (.ifCond .ne 5, 3, 0, 0) := by decide +kernel
theorem j115_9 : ax_in 115 9 = some (.iconst 2, 1, 0, 0) := by decide +kernel
theorem j115_10 : ax_in 115 10 = some (.ireturn, 1, 0, 0) := by decide +kernel
theorem j115_11 : ax_in 115 11 = some (.aload_n 0, 1, 0, 0) := by decide +kernel
theorem j115_12 : ax_in 115 12 = some (.getfield 92, 3, 8, 19) := by decide +kernel
theorem j115_15 : ax_in 115 15 = some (.sipush 3800, 3, 0, 0) := by decide +kernel
theorem j115_18 : ax_in 115 18 = some (.if_icmp .le 5, 3, 0, 0) := by decide +kernel
theorem j115_21 : ax_in 115 21 = some (.iconst 3, 1, 0, 0) := by decide +kernel
theorem j115_22 : ax_in 115 22 = some (.ireturn, 1, 0, 0) := by decide +kernel
theorem j115_23 : ax_in 115 23 = some (.aload_n 0, 1, 0, 0) := by decide +kernel
theorem j115_24 : ax_in 115 24 = some (.iconst 0, 1, 0, 0) := by decide +kernel
theorem j115_25 : ax_in 115 25 = some (.invokevirtual 129, 3, 96, 0) := by decide +kernel
theorem j115_28 : ax_in 115 28 = some (.istore_n 1, 1, 0, 0) := by decide +kernel
theorem j115_29 : ax_in 115 29 = some (.aload_n 0, 1, 0, 0) := by decide +kernel
theorem j115_30 : ax_in 115 30 = some (.iconst 0, 1, 0, 0) := by decide +kernel
theorem j115_31 : ax_in 115 31 = some (.iconst 0, 1, 0, 0) := by decide +kernel
theorem j115_32 : ax_in 115 32 = some (.invokevirtual 146, 3, 108, 0) := by decide +kernel
theorem j115_35 : ax_in 115 35 = some (.ifCond .ne 15, 3, 0, 0) := by decide +kernel
theorem j115_38 : ax_in 115 38 = some (.iload_n 1, 1, 0, 0) := by decide +kernel
theorem j115_39 : ax_in 115 39 = some (.iconst 2, 1, 0, 0) := by decide +kernel
theorem j115_40 : ax_in 115 40 = some (.irem, 1, 0, 0) := by decide +kernel
theorem j115_41 : ax_in 115 41 = some (.ifCond .ne 9, 3, 0, 0) := by decide +kernel
theorem j115_44 : ax_in 115 44 = some (.aload_n 0, 1, 0, 0) := by decide +kernel
theorem j115_45 : ax_in 115 45 = some (.iload_n 1, 1, 0, 0) := by decide +kernel
theorem j115_46 : ax_in 115 46 = some (.iconst 0, 1, 0, 0) := by decide +kernel
theorem j115_47 : ax_in 115 47 = some (.invokevirtual 152, 3, 100, 0) := by decide +kernel
theorem j115_50 : ax_in 115 50 = some (.aload_n 0, 1, 0, 0) := by decide +kernel
theorem j115_51 : ax_in 115 51 = some (.iconst 0, 1, 0, 0) := by decide +kernel
theorem j115_52 : ax_in 115 52 = some (.invokevirtual 164, 3, 102, 0) := by decide +kernel
theorem j115_55 : ax_in 115 55 = some (.iconst 0, 1, 0, 0) := by decide +kernel
theorem j115_56 : ax_in 115 56 = some (.ireturn, 1, 0, 0) := by decide +kernel
theorem j116_0 : ax_in 116 0 = some (.aload_n 0, 1, 0, 0) := by decide +kernel
theorem j116_1 : ax_in 116 1 = some (.iconst 0, 1, 0, 0) := by decide +kernel
theorem j116_2 : ax_in 116 2 = some (.putfield 80, 3, 8, 0) := by decide +kernel
theorem j116_5 : ax_in 116 5 = some (.aload_n 0, 1, 0, 0) := by decide +kernel
theorem j116_6 : ax_in 116 6 = some (.getfield 167, 3, 8, 29) := by decide +kernel
theorem j116_9 : ax_in 116 9 = some (.ifCond .ne 13, 3, 0, 0) := by decide +kernel
theorem j116_12 : ax_in 116 12 = some (.aload_n 0, 1, 0, 0) := by decide +kernel
theorem j116_13 : ax_in 116 13 = some (.iconst 0, 1, 0, 0) := by decide +kernel
theorem j116_14 : ax_in 116 14 = some (.invokevirtual 171, 3, 86, 0) := by decide +kernel
theorem j116_17 : ax_in 116 17 = some (.aload_n 0, 1, 0, 0) := by decide +kernel
theorem j116_18 : ax_in 116 18 = some (.iconst 1, 1, 0, 0) := by decide +kernel
theorem j116_19 : ax_in 116 19 = some (.putfield 167, 3, 8, 29) := by decide +kernel
theorem j116_22 : ax_in 116 22 = some (.return_, 1, 0, 0) := by decide +kernel
theorem j117_0 : ax_in 117 0 = some (.aload_n 0, 1, 0, 0) := by decide +kernel
theorem j117_1 : ax_in 117 1 = some (.invokevirtual 174, 3, 116, 0) := by decide +kernel
theorem j117_4 : ax_in 117 4 = some (.aload_n 0, 1, 0, 0) := by decide +kernel
theorem j117_5 : ax_in 117 5 = some (.iload_n 1, 1, 0, 0) := by decide +kernel
theorem j117_6 : ax_in 117 6 = some (.iload_n 2, 1, 0, 0) := by decide +kernel
theorem j117_7 : ax_in 117 7 = some (.invokestatic 177, 3, 111, 1) := by decide +kernel
theorem j117_10 : ax_in 117 10 = some (.ifCond .eq 12, 3, 0, 0) := by decide +kernel
theorem j117_13 : ax_in 117 13 = some (.aload_n 0, 1, 0, 0) := by decide +kernel
theorem j117_14 : ax_in 117 14 = some (.iload_n 1, 1, 0, 0) := by decide +kernel
theorem j117_15 : ax_in 117 15 = some (.iload_n 2, 1, 0, 0) := by decide +kernel
theorem j117_16 : ax_in 117 16 = some (.invokevirtual 180, 3, 112, 0) := by decide +kernel
theorem j117_19 : ax_in 117 19 = some (.goto 4, 3, 0, 0) := by decide +kernel
theorem j117_22 : ax_in 117 22 = some (.iconst 1, 1, 0, 0) := by decide +kernel
theorem j117_23 : ax_in 117 23 = some (.putfield 80, 3, 8, 0) := by decide +kernel
theorem j117_26 : ax_in 117 26 = some (.return_, 1, 0, 0) := by decide +kernel
theorem j118_0 : ax_in 118 0 = some (.aload_n 0, 1, 0, 0) := by decide +kernel
theorem j118_1 : ax_in 118 1 = some (.invokevirtual 174, 3, 116, 0) := by decide +kernel
theorem j118_4 : ax_in 118 4 = some (.aload_n 0, 1, 0, 0) := by decide +kernel
theorem j118_5 : ax_in 118 5 = some (.iload_n 1, 1, 0, 0) := by decide +kernel
theorem j118_6 : ax_in 118 6 = some (.iload_n 2, 1, 0, 0) := by decide +kernel
theorem j118_7 : ax_in 118 7 = some (.invokestatic 177, 3, 111, 1) := by decide +kernel
theorem j118_10 : ax_in 118 10 = some (.ifCond .eq 20, 3, 0, 0) := by decide +kernel
theorem j118_13 : ax_in 118 13 = some (.iload_n 3, 1, 0, 0) := by decide +kernel
theorem j118_14 : ax_in 118 14 = some (.invokestatic 132, 3, 88, 1) := by decide +kernel
theorem j118_17 : ax_in 118 17 = some (.ifCond .eq 13, 3, 0, 0) := by decide +kernel
theorem j118_20 : ax_in 118 20 = some (.aload_n 0, 1, 0, 0) := by decide +kernel
theorem j118_21 : ax_in 118 21 = some (.iload_n 1, 1, 0, 0) := by decide +kernel
theorem j118_22 : ax_in 118 22 = some (.iload_n 2, 1, 0, 0) := by decide +kernel
theorem j118_23 : ax_in 118 23 = some (.iload_n 3, 1, 0, 0) := by decide +kernel
theorem j118_24 : ax_in 118 24 = some (.invokevirtual 183, 3, 113, 0) := by decide +kernel
theorem j118_27 : ax_in 118 27 = some (.goto 4, 3, 0, 0) := by decide +kernel
theorem j118_30 : ax_in 118 30 = some (.iconst 1, 1, 0, 0) := by decide +kernel
theorem j118_31 : ax_in 118 31 = some (.putfield 80, 3, 8, 0) := by decide +kernel
theorem j118_34 : ax_in 118 34 = some (.return_, 1, 0, 0) := by decide +kernel
theorem j119_0 : ax_in 119 0 = some (.aload_n 0, 1, 0, 0) := by decide +kernel
theorem j119_1 : ax_in 119 1 = some (.invokevirtual 174, 3, 116, 0) := by decide +kernel
theorem j119_4 : ax_in 119 4 = some (.aload_n 0, 1, 0, 0) := by decide +kernel
theorem j119_5 : ax_in 119 5 = some (.iload_n 1, 1, 0, 0) := by decide +kernel
theorem j119_6 : ax_in 119 6 = some (.invokestatic 132, 3, 88, 1) := by decide +kernel
theorem j119_9 : ax_in 119 9 = some (.ifCond .eq 11, 3, 0, 0) := by decide +kernel
theorem j119_12 : ax_in 119 12 = some (.aload_n 0, 1, 0, 0) := by decide +kernel
theorem j119_13 : ax_in 119 13 = some (.iload_n 1, 1, 0, 0) := by decide +kernel
theorem j119_14 : ax_in 119 14 = some (.invokevirtual 186, 3, 114, 0) := by decide +kernel
theorem j119_17 : ax_in 119 17 = some (.goto 4, 3, 0, 0) := by decide +kernel
theorem j119_20 : ax_in 119 20 = some (.iconst 1, 1, 0, 0) := by decide +kernel
theorem j119_21 : ax_in 119 21 = some (.putfield 80, 3, 8, 0) := by decide +kernel
theorem j119_24 : ax_in 119 24 = some (.return_, 1, 0, 0) := by decide +kernel
theorem j120_0 : ax_in 120 0 = some (.aload_n 0, 1, 0, 0) := by decide +kernel
theorem j120_1 : ax_in 120 1 = some (.invokevirtual 174, 3, 116, 0) := by decide +kernel
theorem j120_4 : ax_in 120 4 = some (.aload_n 0, 1, 0, 0) := by decide +kernel
theorem j120_5 : ax_in 120 5 = some (.invokevirtual 189, 3, 115, 0) := by decide +kernel
theorem j120_8 : ax_in 120 8 = some (.istore_n 1, 1, 0, 0) := by decide +kernel
theorem j120_9 : ax_in 120 9 = some (.aload_n 0, 1, 0, 0) := by decide +kernel
theorem j120_10 : ax_in 120 10 = some (.iload_n 1, 1, 0, 0) := by decide +kernel
theorem j120_11 : ax_in 120 11 = some (.ifCond .ne 7, 3, 0, 0) := by decide +kernel
theorem j120_14 : ax_in 120 14 = some (.iconst 0, 1, 0, 0) := by decide +kernel
theorem j120_15 : ax_in 120 15 = some (.goto 6, 3, 0, 0) := by decide +kernel
theorem j120_18 : ax_in 120 18 = some (.iload_n 1, 1, 0, 0) := by decide +kernel
theorem j120_19 : ax_in 120 19 = some (.iconst 1, 1, 0, 0) := by decide +kernel
theorem j120_20 : ax_in 120 20 = some (.isub, 1, 0, 0) := by decide +kernel
theorem j120_21 : ax_in 120 21 = some (.putfield 80, 3, 8, 0) := by decide +kernel
theorem j120_24 : ax_in 120 24 = some (.aload_n 0, 1, 0, 0) := by decide +kernel
theorem j120_25 : ax_in 120 25 = some (.getfield 80, 3, 8, 0) := by decide +kernel
theorem j120_28 : ax_in 120 28 = some (.ifCond .le 7, 3, 0, 0) := by decide +kernel
theorem j120_31 : ax_in 120 31 = some (.iconst 0, 1, 0, 0) := by decide +kernel
theorem j120_32 : ax_in 120 32 = some (.goto 9, 3, 0, 0) := by decide +kernel
theorem j120_35 : ax_in 120 35 = some (.aload_n 0, 1, 0, 0) := by decide +kernel
theorem j120_36 : ax_in 120 36 = some (.getfield 49, 3, 8, 14) := by decide +kernel
theorem j120_39 : ax_in 120 39 = some (.iconst 0, 1, 0, 0) := by decide +kernel
theorem j120_40 : ax_in 120 40 = some (.iaload, 1, 0, 0) := by decide +kernel
theorem j120_41 : ax_in 120 41 = some (.ireturn, 1, 0, 0) := by decide +kernel
theorem j121_0 : ax_in 121 0 = some (.aload_n 0, 1, 0, 0) := by decide +kernel
theorem j121_1 : ax_in 121 1 = some (.invokevirtual 174, 3, 116, 0) := by decide +kernel
theorem j121_4 : ax_in 121 4 = some (.aload_n 0, 1, 0, 0) := by decide +kernel
theorem j121_5 : ax_in 121 5 = some (.iconst 0, 1, 0, 0) := by decide +kernel
theorem j121_6 : ax_in 121 6 = some (.invokevirtual 171, 3, 86, 0) := by decide +kernel
theorem j121_9 : ax_in 121 9 = some (.aload_n 0, 1, 0, 0) := by decide +kernel
theorem j121_10 : ax_in 121 10 = some (.iconst 0, 1, 0, 0) := by decide +kernel
theorem j121_11 : ax_in 121 11 = some (.putfield 92, 3, 8, 19) := by decide +kernel
theorem j121_14 : ax_in 121 14 = some (.return_, 1, 0, 0) := by decide +kernel
theorem j122_0 : ax_in 122 0 = some (.aload_n 0, 1, 0, 0) := by decide +kernel
theorem j122_1 : ax_in 122 1 = some (.iconst 0, 1, 0, 0) := by decide +kernel
theorem j122_2 : ax_in 122 2 = some (.putfield 80, 3, 8, 0) := by decide +kernel
theorem j122_5 : ax_in 122 5 = some (.aload_n 0, 1, 0, 0) := by decide +kernel
theorem j122_6 : ax_in 122 6 = some (.getfield 92, 3, 8, 19) := by decide +kernel
theorem j122_9 : ax_in 122 9 = some (.ireturn, 1, 0, 0) := by decide +kernel
theorem j123_0 : ax_in 123 0 = some (.aload_n 0, 1, 0, 0) := by decide +kernel
theorem j123_1 : ax_in 123 1 = some (.iconst 0, 1, 0, 0) := by decide +kernel
theorem j123_2 : ax_in 123 2 = some (.putfield 80, 3, 8, 0) := by decide +kernel
theorem j123_5 : ax_in 123 5 = some (.iconst 0, 1, 0, 0) := by decide +kernel
theorem j123_6 : ax_in 123 6 = some (.istore_n 1, 1, 0, 0) := by decide +kernel
theorem j123_7 : ax_in 123 7 = some (.iload_n 1, 1, 0, 0) := by decide +kernel
theorem j123_8 : ax_in 123 8 = some (.aload_n 0, 1, 0, 0) := by decide +kernel
theorem j123_9 : ax_in 123 9 = some (.getfield 92, 3, 8, 19) := by decide +kernel
theorem j123_12 : ax_in 123 12 = some (.if_icmp .ge 21, 3, 0, 0) := by decide +kernel
theorem j123_15 : ax_in 123 15 = some (.aload_n 0, 1, 0, 0) := by decide +kernel
theorem j123_16 : ax_in 123 16 = some (.getfield 65, 3, 8, 20) := by decide +kernel
theorem j123_19 : ax_in 123 19 = some (.iload_n 1, 1, 0, 0) := by decide +kernel
theorem j123_20 : ax_in 123 20 = some (.aload_n 0, 1, 0, 0) := by decide +kernel
theorem j123_21 : ax_in 123 21 = some (.getfield 62, 3, 8, 18) := by decide +kernel
theorem j123_24 : ax_in 123 24 = some (.iload_n 1, 1, 0, 0) := by decide +kernel
theorem j123_25 : ax_in 123 25 = some (.baload, 1, 0, 0) := by decide +kernel
theorem j123_26 : ax_in 123 26 = some (.bastore, 1, 0, 0) := by decide +kernel
theorem j123_27 : ax_in 123 27 = some (.iinc 1 1, 3, 0, 0) := by decide +kernel
theorem j123_30 : ax_in 123 30 = some (.goto (-23), 3, 0, 0) := by decide +kernel
theorem j123_33 : ax_in 123 33 = some (.aload_n 0, 1, 0, 0) := by decide +kernel
theorem j123_34 : ax_in 123 34 = some (.aload_n 0, 1, 0, 0) := by decide +kernel
theorem j123_35 : ax_in 123 35 = some (.getfield 92, 3, 8, 19) := by decide +kernel
theorem j123_38 : ax_in 123 38 = some (.putfield 193, 3, 8, 21) := by decide +kernel
theorem j123_41 : ax_in 123 41 = some (.aload_n 0, 1, 0, 0) := by decide +kernel
theorem j123_42 : ax_in 123 42 = some (.getfield 193, 3, 8, 21) := by decide +kernel
theorem j123_45 : ax_in 123 45 = some (.ireturn, 1, 0, 0) := by decide +kernel
theorem j124_0 : ax_in 124 0 = some (.aload_n 0, 1, 0, 0) := by decide +kernel
theorem j124_1 : ax_in 124 1 = some (.aload_n 0, 1, 0, 0) := by decide +kernel
theorem j124_2 : ax_in 124 2 = some (.getfield 193, 3, 8, 21) := by decide +kernel
theorem j124_5 : ax_in 124 5 = some (.sipush 4000, 3, 0, 0) := by decide +kernel
theorem j124_8 : ax_in 124 8 = some (.if_icmp .lt 7, 3, 0, 0) := by decide +kernel
theorem j124_11 : ax_in 124 11 = some (.iconst 1, 1, 0, 0) := by decide +kernel
theorem j124_12 : ax_in 124 12 = some (.goto 4, 3, 0, 0) := by decide +kernel
theorem j124_15 : ax_in 124 15 = some (.iconst 0, 1, 0, 0) := by decide +kernel
theorem j124_16 : ax_in 124 16 = some (.putfield 80, 3, 8, 0) := by decide +kernel
theorem j124_19 : ax_in 124 19 = some (.aload_n 0, 1, 0, 0) := by decide +kernel
theorem j124_20 : ax_in 124 20 = some (.getfield 80, 3, 8, 0) := by decide +kernel
theorem j124_23 : ax_in 124 23 = some (.ifCond .le 5, 3, 0, 0) := by decide +kernel
theorem j124_26 : ax_in 124 26 = some (.iconst 0, 1, 0, 0) := by decide +kernel
theorem j124_27 : ax_in 124 27 = some (.ireturn, 1, 0, 0) := by decide +kernel
theorem j124_28 : ax_in 124 28 = some (.aload_n 0, 1, 0, 0) := by decide +kernel
theorem j124_29 : ax_in 124 29 = some (.getfield 65, 3, 8, 20) := by decide +kernel
theorem j124_32 : ax_in 124 32 = some (.aload_n 0, 1, 0, 0) := by decide +kernel
theorem j124_33 : ax_in 124 33 = some (.getfield 193, 3, 8, 21) := by decide +kernel
theorem j124_36 : ax_in 124 36 = some (.iload_n 1, 1, 0, 0) := by decide +kernel
theorem j124_37 : ax_in 124 37 = some (.bastore, 1, 0, 0) := by decide +kernel
theorem j124_38 : ax_in 124 38 = some (.aload_n 0, 1, 0, 0) := by decide +kernel
theorem j124_39 : ax_in 124 39 = some (.dup, 1, 0, 0) := by decide +kernel
theorem j124_40 : ax_in 124 40 = some (.getfield 193, 3, 8, 21) := by decide +kernel
theorem j124_43 : ax_in 124 43 = some (.iconst 1, 1, 0, 0) := by decide +kernel
theorem j124_44 : ax_in 124 44 = some (.iadd, 1, 0, 0) := by decide +kernel
theorem j124_45 : ax_in 124 45 = some (.putfield 193, 3, 8, 21) := by decide +kernel
theorem j124_48 : ax_in 124 48 = some (.aload_n 0, 1, 0, 0) := by decide +kernel
theorem j124_49 : ax_in 124 49 = some (.getfield 193, 3, 8, 21) := by decide +kernel
theorem j124_52 : ax_in 124 52 = some (.ireturn, 1, 0, 0) := by decide +kernel
theorem j125_0 : ax_in 125 0 = some (.aload_n 0, 1, 0, 0) := by decide +kernel
theorem j125_1 : ax_in 125 1 = some (.iload_n 1, 1, 0, 0) := by decide +kernel
theorem j125_2 : ax_in 125 2 = some (.ifCond .lt 11, 3, 0, 0) := by decide +kernel
theorem j125_5 : ax_in 125 5 = some (.iload_n 1, 1, 0, 0) := by decide +kernel
theorem j125_6 : ax_in 125 6 = some (.aload_n 0, 1, 0, 0) := by decide +kernel
theorem j125_7 : ax_in 125 7 = some (.getfield 193, 3, 8, 21) := by decide +kernel
theorem j125_10 : ax_in 125 10 = some (.if_icmp .lt 7, 3, 0, 0) := by decide +kernel
theorem j125_13 : ax_in 125 13 = some (.iconst 1, 1, 0, 0) := by decide +kernel
theorem j125_14 : ax_in 125 14 = some (.goto 4, 3, 0, 0) := by decide +kernel
theorem j125_17 : ax_in 125 17 = some (.iconst 0, 1, 0, 0) := by decide +kernel
theorem j125_18 : ax_in 125 18 = some (.putfield 80, 3, 8, 0) := by decide +kernel
theorem j125_21 : ax_in 125 21 = some (.aload_n 0, 1, 0, 0) := by decide +kernel
theorem j125_22 : ax_in 125 22 = some (.getfield 80, 3, 8, 0) := by decide +kernel
theorem j125_25 : ax_in 125 25 = some (.ifCond .ne 16, 3, 0, 0) := by decide +kernel
theorem j125_28 : ax_in 125 28 = some (.aload_n 0, 1, 0, 0) := by decide +kernel
theorem j125_29 : ax_in 125 29 = some (.getfield 65, 3, 8, 20) := by decide +kernel
theorem j125_32 : ax_in 125 32 = some (.iload_n 1, 1, 0, 0) := by decide +kernel
theorem j125_33 : ax_in 125 33 = some (.baload, 1, 0, 0) := by decide +kernel
theorem j125_34 : ax_in 125 34 = some (.ifCond .eq 7, 3, 0, 0) := by decide +kernel
theorem j125_37 : ax_in 125 37 = some (.iconst 1, 1, 0, 0) := by decide +kernel
theorem j125_38 : ax_in 125 38 = some (.goto 4, 3, 0, 0) := by decide +kernel
theorem j125_41 : ax_in 125 41 = some (.iconst 0, 1, 0, 0) := by decide +kernel
theorem j125_42 : ax_in 125 42 = some (.ireturn, 1, 0, 0) := by decide +kernel
theorem j126_0 : ax_in 126 0 = some (.aload_n 0, 1, 0, 0) := by decide +kernel
theorem j126_1 : ax_in 126 1 = some (.iload_n 1, 1, 0, 0) := by decide +kernel
theorem j126_2 : ax_in 126 2 = some (.ifCond .lt 11, 3, 0, 0) := by decide +kernel
theorem j126_5 : ax_in 126 5 = some (.iload_n 1, 1, 0, 0) := by decide +kernel
theorem j126_6 : ax_in 126 6 = some (.aload_n 0, 1, 0, 0) := by decide +kernel
theorem j126_7 : ax_in 126 7 = some (.getfield 193, 3, 8, 21) := by decide +kernel
theorem j126_10 : ax_in 126 10 = some (.if_icmp .lt 7, 3, 0, 0) := by decide +kernel
theorem j126_13 : ax_in 126 13 = some (.iconst 1, 1, 0, 0) := by decide +kernel
theorem j126_14 : ax_in 126 14 = some (.goto 4, 3, 0, 0) := by decide +kernel
theorem j126_17 : ax_in 126 17 = some (.iconst 0, 1, 0, 0) := by decide +kernel
theorem j126_18 : ax_in 126 18 = some (.putfield 80, 3, 8, 0) := by decide +kernel
theorem j126_21 : ax_in 126 21 = some (.aload_n 0, 1, 0, 0) := by decide +kernel
theorem j126_22 : ax_in 126 22 = some (.getfield 80, 3, 8, 0) := by decide +kernel
theorem j126_25 : ax_in 126 25 = some (.ifCond .ne 23, 3, 0, 0) := by decide +kernel
theorem j126_28 : ax_in 126 28 = some (.aload_n 0, 1, 0, 0) := by decide +kernel
theorem j126_29 : ax_in 126 29 = some (.getfield 65, 3, 8, 20) := by decide +kernel
theorem j126_32 : ax_in 126 32 = some (.iload_n 1, 1, 0, 0) := by decide +kernel
theorem j126_33 : ax_in 126 33 = some (.aload_n 0, 1, 0, 0) := by decide +kernel
theorem j126_34 : ax_in 126 34 = some (.getfield 65, 3, 8, 20) := by decide +kernel
theorem j126_37 : ax_in 126 37 = some (.iload_n 1, 1, 0, 0) := by decide +kernel
theorem j126_38 : ax_in 126 38 = some (.baload, 1, 0, 0) := by decide +kernel
theorem j126_39 : ax_in 126 39 = some (.ifCond .ne 7, 3, 0, 0) := by decide +kernel
theorem j126_42 : ax_in 126 42 = some (.iconst 1, 1, 0, 0) := by decide +kernel
theorem j126_43 : ax_in 126 43 = some (.goto 4, 3, 0, 0) := by decide +kernel
theorem j126_46 : ax_in 126 46 = some (.iconst 0, 1, 0, 0) := by decide +kernel
theorem j126_47 : ax_in 126 47 = some (.bastore, 1, 0, 0) := by decide +kernel
theorem j126_48 : ax_in 126 48 = some (.return_, 1, 0, 0) := by decide +kernel
theorem j127_0 : ax_in 127 0 = some (.aload_n 0, 1, 0, 0) := by decide +kernel
theorem j127_1 : ax_in 127 1 = some (.iload_n 1, 1, 0, 0) := by decide +kernel
theorem j127_2 : ax_in 127 2 = some (.ifCond .lt 11, 3, 0, 0) := by decide +kernel
theorem j127_5 : ax_in 127 5 = some (.iload_n 1, 1, 0, 0) := by decide +kernel
theorem j127_6 : ax_in 127 6 = some (.aload_n 0, 1, 0, 0) := by decide +kernel
theorem j127_7 : ax_in 127 7 = some (.getfield 193, 3, 8, 21) := by decide +kernel
theorem j127_10 : ax_in 127 10 = some (.if_icmp .le 7, 3, 0, 0) := by decide +kernel
theorem j127_13 : ax_in 127 13 = some (.iconst 1, 1, 0, 0) := by decide +kernel
theorem j127_14 : ax_in 127 14 = some (.goto 4, 3, 0, 0) := by decide +kernel
theorem j127_17 : ax_in 127 17 = some (.iconst 0, 1, 0, 0) := by decide +kernel
theorem j127_18 : ax_in 127 18 = some (.putfield 80, 3, 8, 0) := by decide +kernel
theorem j127_21 : ax_in 127 21 = some (.aload_n 0, 1, 0, 0) := by decide +kernel
theorem j127_22 : ax_in 127 22 = some (.getfield 80, 3, 8, 0) := by decide +kernel
theorem j127_25 : ax_in 127 25 = some (.ifCond .ne 8, 3, 0, 0) := by decide +kernel
theorem j127_28 : ax_in 127 28 = some (.aload_n 0, 1, 0, 0) := by decide +kernel
theorem j127_29 : ax_in 127 29 = some (.iload_n 1, 1, 0, 0) := by decide +kernel
theorem j127_30 : ax_in 127 30 = some (.putfield 193, 3, 8, 21) := by decide +kernel
theorem j127_33 : ax_in 127 33 = some (.return_, 1, 0, 0) := by decide +kernel
theorem j128_0 : ax_in 128 0 = some (.aload_n 0, 1, 0, 0) := by decide +kernel
theorem j128_1 : ax_in 128 1 = some (.aload_n 0, 1, 0, 0) := by decide +kernel
theorem j128_2 : ax_in 128 2 = some (.getfield 196, 3, 8, 23) := by decide +kernel
theorem j128_5 : ax_in 128 5 = some (.ifCond .ne 14, 3, 0, 0) := by decide +kernel
theorem j128_8 : ax_in 128 8 = some (.aload_n 0, 1, 0, 0) := by decide +kernel
theorem j128_9 : ax_in 128 9 = some (.getfield 199, 3, 8, 22) := by decide +kernel
theorem j128_12 : ax_in 128 12 = some (.aload_n 0, 1, 0, 0) := by decide +kernel
theorem j128_13 : ax_in 128 13 = some (.getfield 193, 3, 8, 21) := by decide +kernel
theorem j128_16 : ax_in 128 16 = some (.if_icmp .ne 7, 3, 0, 0) := by decide +kernel
theorem j128_19 : ax_in 128 19 = some (.iconst 1, 1, 0, 0) := by decide +kernel
theorem j128_20 : ax_in 128 20 = some (.goto 4, 3, 0, 0) := by decide +kernel
theorem j128_23 : ax_in 128 23 = some (.iconst 0, 1, 0, 0) := by decide +kernel
theorem j128_24 : ax_in 128 24 = some (.putfield 196, 3, 8, 23) := by decide +kernel
theorem j128_27 : ax_in 128 27 = some (.aload_n 0, 1, 0, 0) := by decide +kernel
theorem j128_28 : ax_in 128 28 = some (.getfield 196, 3, 8, 23) := by decide +kernel
theorem j128_31 : ax_in 128 31 = some (.ifCond .eq 5, 3, 0, 0) := by decide +kernel
theorem j128_34 : ax_in 128 34 = some (.iconst 0, 1, 0, 0) := by decide +kernel
theorem j128_35 : ax_in 128 35 = some (.ireturn, 1, 0, 0) := by decide +kernel
theorem j128_36 : ax_in 128 36 = some (.aload_n 0, 1, 0, 0) := by decide +kernel
theorem j128_37 : ax_in 128 37 = some (.dup, 1, 0, 0) := by decide +kernel
theorem j128_38 : ax_in 128 38 = some (.getfield 199, 3, 8, 22) := by decide +kernel
theorem j128_41 : ax_in 128 41 = some (.iconst 1, 1, 0, 0) := by decide +kernel
theorem j128_42 : ax_in 128 42 = some (.iadd, 1, 0, 0) := by decide +kernel
theorem j128_43 : ax_in 128 43 = some (.putfield 199, 3, 8, 22) := by decide +kernel
theorem j128_46 : ax_in 128 46 = some (.aload_n 0, 1, 0, 0) := by decide +kernel
theorem j128_47 : ax_in 128 47 = some (.getfield 65, 3, 8, 20) := by decide +kernel
theorem j128_50 : ax_in 128 50 = some (.aload_n 0, 1, 0, 0) := by decide +kernel
theorem j128_51 : ax_in 128 51 = some (.getfield 199, 3, 8, 22) := by decide +kernel
theorem j128_54 : ax_in 128 54 = some (.iconst 1, 1, 0, 0) := by decide +kernel
theorem j128_55 : ax_in 128 55 = some (.isub, 1, 0, 0) := by decide +kernel
theorem j128_56 : ax_in 128 56 = some (.baload, 1, 0, 0) := by decide +kernel
theorem j128_57 : ax_in 128 57 = some (.ifCond .eq 7, 3, 0, 0) := by decide +kernel
theorem j128_60 : ax_in 128 60 = some (.iconst 1, 1, 0, 0) := by decide +kernel
theorem j128_61 : ax_in 128 61 = some (.goto 4, 3, 0, 0) := by decide +kernel
theorem j128_64 : ax_in 128 64 = some (.iconst 0, 1, 0, 0) := by decide +kernel
theorem j128_65 : ax_in 128 65 = some (.ireturn, 1, 0, 0) := by decide +kernel
theorem j129_0 : ax_in 129 0 = some (.iconst 0, 1, 0, 0) := by decide +kernel
theorem j129_1 : ax_in 129 1 = some (.istore_n 2, 1, 0, 0) := by decide +kernel
theorem j129_2 : ax_in 129 2 = some (.iconst 1, 1, 0, 0) := by decide +kernel
theorem j129_3 : ax_in 129 3 = some (.istore_n 3, 1, 0, 0) := by decide +kernel
theorem j129_4 : ax_in 129 4 = some (.iload_n 3, 1, 0, 0) := by decide +kernel
theorem j129_5 : ax_in 129 5 = some (.iload_n 1, 1, 0, 0) := by decide +kernel
theorem j129_6 : ax_in 129 6 = some (.if_icmp .ge 19, 3, 0, 0) := by decide +kernel
theorem j129_9 : ax_in 129 9 = some (.iconst 2, 1, 0, 0) := by decide +kernel
theorem j129_10 : ax_in 129 10 = some (.iload_n 2, 1, 0, 0) := by decide +kernel
theorem j129_11 : ax_in 129 11 = some (.imul, 1, 0, 0) := by decide +kernel
theorem j129_12 : ax_in 129 12 = some (.aload_n 0, 1, 0, 0) := by decide +kernel
theorem j129_13 : ax_in 129 13 = some (.invokevirtual 202, 3, 128, 0) := by decide +kernel
theorem j129_16 : ax_in 129 16 = some (.iadd, 1, 0, 0) := by decide +kernel
theorem j129_17 : ax_in 129 17 = some (.istore_n 2, 1, 0, 0) := by decide +kernel
theorem j129_18 : ax_in 129 18 = some (.iconst 2, 1, 0, 0) := by decide +kernel
theorem j129_19 : ax_in 129 19 = some (.iload_n 3, 1, 0, 0) := by decide +kernel
theorem j129_20 : ax_in 129 20 = some (.imul, 1, 0, 0) := by decide +kernel
theorem j129_21 : ax_in 129 21 = some (.istore_n 3, 1, 0, 0) := by decide +kernel
theorem j129_22 : ax_in 129 22 = some (.goto (-18), 3, 0, 0) := by decide +kernel
theorem j129_25 : ax_in 129 25 = some (.aload_n 0, 1, 0, 0) := by decide +kernel
theorem j129_26 : ax_in 129 26 = some (.aload_n 0, 1, 0, 0) := by decide +kernel
theorem j129_27 : ax_in 129 27 = some (.getfield 196, 3, 8, 23) := by decide +kernel
theorem j129_30 : ax_in 129 30 = some (.ifCond .ne 8, 3, 0, 0) := by decide +kernel
theorem j129_33 : ax_in 129 33 = some (.iload_n 2, 1, 0, 0) := by decide +kernel
theorem j129_34 : ax_in 129 34 = some (.iload_n 1, 1, 0, 0) := by decide +kernel
theorem j129_35 : ax_in 129 35 = some (.if_icmp .lt 7, 3, 0, 0) := by decide +kernel
theorem j129_38 : ax_in 129 38 = some (.iconst 1, 1, 0, 0) := by decide +kernel
theorem j129_39 : ax_in 129 39 = some (.goto 4, 3, 0, 0) := by decide +kernel
theorem j129_42 : ax_in 129 42 = some (.iconst 0, 1, 0, 0) := by decide +kernel
theorem j129_43 : ax_in 129 43 = some (.putfield 196, 3, 8, 23) := by decide +kernel
theorem j129_46 : ax_in 129 46 = some (.aload_n 0, 1, 0, 0) := by decide +kernel
theorem j129_47 : ax_in 129 47 = some (.getfield 196, 3, 8, 23) := by decide +kernel
theorem j129_50 : ax_in 129 50 = some (.ifCond .eq 7, 3, 0, 0) := by decide +kernel
theorem j129_53 : ax_in 129 53 = some (.iconst 0, 1, 0, 0) := by decide +kernel
theorem j129_54 : ax_in 129 54 = some (.goto 4, 3, 0, 0) := by decide +kernel
theorem j129_57 : ax_in 129 57 = some (.iload_n 2, 1, 0, 0) := by decide +kernel
theorem j129_58 : ax_in 129 58 = some (.ireturn, 1, 0, 0) := by decide +kernel
theorem j130_0 : ax_in 130 0 = some (.iconst 0, 1, 0, 0) := by decide +kernel
theorem j130_1 : ax_in 130 1 = some (.istore_n 1, 1, 0, 0) := by decide +kernel
theorem j130_2 : ax_in 130 2 = some (.iconst 0, 1, 0, 0) := by decide +kernel
theorem j130_3 : ax_in 130 3 = some (.istore_n 2, 1, 0, 0) := by decide +kernel
theorem j130_4 : ax_in 130 4 = some (.iconst 1, 1, 0, 0) := by decide +kernel
theorem j130_5 : ax_in 130 5 = some (.istore_n 3, 1, 0, 0) := by decide +kernel
theorem j130_6 : ax_in 130 6 = some (.iload_n 3, 1, 0, 0) := by decide +kernel
theorem j130_7 : ax_in 130 7 = some (.ifCond .eq 55, 3, 0, 0) := by decide +kernel
theorem j130_10 : ax_in 130 10 = some (.aload_n 0, 1, 0, 0) := by decide +kernel
theorem j130_11 : ax_in 130 11 = some (.getfield 196, 3, 8, 23) := by decide +kernel
theorem j130_14 : ax_in 130 14 = some (.ifCond .ne 48, 3, 0, 0) := by decide +kernel
theorem j130_17 : ax_in 130 17 = some (.iload_n 2, 1, 0, 0) := by decide +kernel
theorem j130_18 : ax_in 130 18 = some (.iconst 4, 1, 0, 0) := by decide +kernel
theorem j130_19 : ax_in 130 19 = some (.if_icmp .ne 10, 3, 0, 0) := by decide +kernel
theorem j130_22 : ax_in 130 22 = some (.aload_n 0, 1, 0, 0) := by decide +kernel
theorem j130_23 : ax_in 130 23 = some (.iconst 1, 1, 0, 0) := by decide +kernel
theorem j130_24 : ax_in 130 24 = some (.putfield 196, 3, 8, 23) := by decide +kernel
theorem j130_27 : ax_in 130 27 = some (.iconst 0, 1, 0, 0) := by decide +kernel
theorem j130_28 : ax_in 130 28 = some (.ireturn, 1, 0, 0) := by decide +kernel
theorem j130_29 : ax_in 130 29 = some (.aload_n 0, 1, 0, 0) := by decide +kernel
theorem j130_30 : ax_in 130 30 = some (.invokevirtual 202, 3, 128, 0) := by decide +kernel
theorem j130_33 : ax_in 130 33 = some (.iconst 1, 1, 0, 0) := by decide +kernel
theorem j130_34 : ax_in 130 34 = some (.if_icmp .ne 7, 3, 0, 0) := by decide +kernel
theorem j130_37 : ax_in 130 37 = some (.iconst 1, 1, 0, 0) := by decide +kernel
theorem j130_38 : ax_in 130 38 = some (.goto 4, 3, 0, 0) := by decide +kernel
theorem j130_41 : ax_in 130 41 = some (.iconst 0, 1, 0, 0) := by decide +kernel
theorem j130_42 : ax_in 130 42 = some (.istore_n 3, 1, 0, 0) := by decide +kernel
theorem j130_43 : ax_in 130 43 = some (.iload_n 1, 1, 0, 0) := by decide +kernel
theorem j130_44 : ax_in 130 44 = some (.aload_n 0, 1, 0, 0) := by decide +kernel
theorem j130_45 : ax_in 130 45 = some (.bipush 8, 2, 0, 0) := by decide +kernel
theorem j130_47 : ax_in 130 47 = some (.invokevirtual 205, 3, 129, 0) := by decide +kernel
theorem j130_50 : ax_in 130 50 = some (.iconst 3, 1, 0, 0) := by decide +kernel
theorem j130_51 : ax_in 130 51 = some (.iload_n 2, 1, 0, 0) := by decide +kernel
theorem j130_52 : ax_in 130 52 = some (.imul, 1, 0, 0) := by decide +kernel
theorem j130_53 : ax_in 130 53 = some (.ishl, 1, 0, 0) := by decide +kernel
theorem j130_54 : ax_in 130 54 = some (.iadd, 1, 0, 0) := by decide +kernel
theorem j130_55 : ax_in 130 55 = some (.istore_n 1, 1, 0, 0) := by decide +kernel
theorem j130_56 : ax_in 130 56 = some (.iinc 2 1, 3, 0, 0) := by decide +kernel
theorem j130_59 : ax_in 130 59 = some (.goto (-53), 3, 0, 0) := by decide +kernel
theorem j130_62 : ax_in 130 62 = some (.iload_n 1, 1, 0, 0) := by decide +kernel
theorem j130_63 : ax_in 130 63 = some (.ireturn, 1, 0, 0) := by decide +kernel
theorem j131_0 : ax_in 131 0 = some (.aload_n 0, 1, 0, 0) := by decide +kernel
theorem j131_1 : ax_in 131 1 = some (.aload_n 0, 1, 0, 0) := by decide +kernel
theorem j131_2 : ax_in 131 2 = some (.getfield 196, 3, 8, 23) := by decide +kernel
theorem j131_5 : ax_in 131 5 = some (.ifCond .ne 8, 3, 0, 0) := by decide +kernel
theorem j131_8 : ax_in 131 8 = some (.iload_n 1, 1, 0, 0) := by decide +kernel
theorem j131_9 : ax_in 131 9 = some (.iconst 5, 1, 0, 0) := by decide +kernel
theorem j131_10 : ax_in 131 10 = some (.if_icmp .le 7, 3, 0, 0) := by decide +kernel
theorem j131_13 : ax_in 131 13 = some (.iconst 1, 1, 0, 0) := by decide +kernel
theorem j131_14 : ax_in 131 14 = some (.goto 4, 3, 0, 0) := by decide +kernel
theorem j131_17 : ax_in 131 17 = some (.iconst 0, 1, 0, 0) := by decide +kernel
theorem j131_18 : ax_in 131 18 = some (.putfield 196, 3, 8, 23) := by decide +kernel
theorem j131_21 : ax_in 131 21 = some (.iconst 0, 1, 0, 0) := by decide +kernel
theorem j131_22 : ax_in 131 22 = some (.istore_n 2, 1, 0, 0) := by decide +kernel
theorem j131_23 : ax_in 131 23 = some (.iconst 1, 1, 0, 0) := by decide +kernel
theorem j131_24 : ax_in 131 24 = some (.istore_n 3, 1, 0, 0) := by decide +kernel
theorem j131_25 : ax_in 131 25 = some (.iconst 0, 1, 0, 0) := by decide +kernel
theorem j131_26 : ax_in 131 26 = some (.istore 4, 2, 0, 0) := by decide +kernel
theorem j131_28 : ax_in 131 28 = some (.iload 4, 2, 0, 0) := by decide +kernel
theorem j131_30 : ax_in 131 30 = some (.iload_n 1, 1, 0, 0) := by decide +kernel
theorem j131_31 : ax_in 131 31 = some (.if_icmp .ge 74, 3, 0, 0) := by decide +kernel
theorem j131_34 : ax_in 131 34 = some (.aload_n 0, 1, 0, 0) := by decide +kernel
theorem j131_35 : ax_in 131 35 = some (.getfield 196, 3, 8, 23) := by decide +kernel
theorem j131_38 : ax_in 131 38 = some (.ifCond .ne 67, 3, 0, 0) := by decide +kernel
theorem j131_41 : ax_in 131 41 = some (.aload_n 0, 1, 0, 0) := by decide +kernel
theorem j131_42 : ax_in 131 42 = some (.invokevirtual 208, 3, 130, 0) := by decide +kernel
theorem j131_45 : ax_in 131 45 = some (.istore 5, 2, 0, 0) := by decide +kernel
theorem j131_47 : ax_in 131 47 = some (.aload_n 0, 1, 0, 0) := by decide +kernel
theorem j131_48 : ax_in 131 48 = some (.aload_n 0, 1, 0, 0) := by decide +kernel
theorem j131_49 : ax_in 131 49 = some (.getfield 196, 3, 8, 23) := by decide +kernel
theorem j131_52 : ax_in 131 52 = some (.ifCond .ne 16, 3, 0, 0) := by decide +kernel
theorem j131_55 : ax_in 131 55 = some (.iload 5, 2, 0, 0) := by decide +kernel
theorem j131_57 : ax_in 131 57 = some (.iconst 1, 1, 0, 0) := by decide +kernel
theorem j131_58 : ax_in 131 58 = some (.if_icmp .lt 10, 3, 0, 0) := by decide +kernel
theorem j131_61 : ax_in 131 61 = some (.iload 5, 2, 0, 0) := by decide +kernel
theorem j131_63 : ax_in 131 63 = some (.bipush 26, 2, 0, 0) := by decide +kernel
theorem j131_65 : ax_in 131 65 = some (.if_icmp .le 7, 3, 0, 0) := by decide +kernel
theorem j131_68 : ax_in 131 68 = some (.iconst 1, 1, 0, 0) := by decide +kernel
theorem j131_69 : ax_in 131 69 = some (.goto 4, 3, 0, 0) := by decide +kernel
theorem j131_72 : ax_in 131 72 = some (.iconst 0, 1, 0, 0) := by decide +kernel
theorem j131_73 : ax_in 131 73 = some (.putfield 196, 3, 8, 23) := by decide +kernel
theorem j131_76 : ax_in 131 76 = some (.iload_n 2, 1, 0, 0) := by decide +kernel
theorem j131_77 : ax_in 131 77 = some (.aload_n 0, 1, 0, 0) := by decide +kernel
theorem j131_78 : ax_in 131 78 = some (.getfield 196, 3, 8, 23) := by decide +kernel
theorem j131_81 : ax_in 131 81 = some (.ifCond .eq 7, 3, 0, 0) := by decide +kernel
theorem j131_84 : ax_in 131 84 = some (.iconst 0, 1, 0, 0) := by decide +kernel
theorem j131_85 : ax_in 131 85 = some (.goto 7, 3, 0, 0) := by decide +kernel
theorem j131_88 : ax_in 131 88 = some (.iload_n 3, 1, 0, 0) := by decide +kernel
theorem j131_89 : ax_in 131 89 = some (.iload 5, 2, 0, 0) := by decide +kernel
theorem j131_91 : ax_in 131 91 = some (.imul, 1, 0, 0) := by decide +kernel
theorem j131_92 : ax_in 131 92 = some (.iadd, 1, 0, 0) := by decide +kernel
theorem j131_93 : ax_in 131 93 = some (.istore_n 2, 1, 0, 0) := by decide +kernel
theorem j131_94 : ax_in 131 94 = some (.bipush 27, 2, 0, 0) := by decide +kernel
theorem j131_96 : ax_in 131 96 = some (.iload_n 3, 1, 0, 0) := by decide +kernel
theorem j131_97 : ax_in 131 97 = some (.imul, 1, 0, 0) := by decide +kernel
theorem j131_98 : ax_in 131 98 = some (.istore_n 3, 1, 0, 0) := by decide +kernel
theorem j131_99 : ax_in 131 99 = some (.iinc 4 1, 3, 0, 0) := by decide +kernel
theorem j131_102 : ax_in 131 102 = some (.goto (-74), 3, 0, 0) := by decide +kernel
theorem j131_105 : ax_in 131 105 = some (.iload_n 2, 1, 0, 0) := by decide +kernel
theorem j131_106 : ax_in 131 106 = some (.ireturn, 1, 0, 0) := by decide +kernel
theorem j132_0 : ax_in 132 0 = some (.aload_n 0, 1, 0, 0) := by decide +kernel
theorem j132_1 : ax_in 132 1 = some (.aload_n 0, 1, 0, 0) := by decide +kernel
theorem j132_2 : ax_in 132 2 = some (.getfield 7, 3, 8, 1) := by decide +kernel
theorem j132_5 : ax_in 132 5 = some (.iconst 1, 1, 0, 0) := by decide +kernel
theorem j132_6 : ax_in 132 6 = some (.iaload, 1, 0, 0) := by decide +kernel
theorem j132_7 : ax_in 132 7 = some (.iconst 1, 1, 0, 0) := by decide +kernel
theorem j132_8 : ax_in 132 8 = some (.iadd, 1, 0, 0) := by decide +kernel
theorem j132_9 : ax_in 132 9 = some (.invokevirtual 205, 3, 129, 0) := by decide +kernel
theorem j132_12 : ax_in 132 12 = some (.iconst 1, 1, 0, 0) := by decide +kernel
theorem j132_13 : ax_in 132 13 = some (.isub, 1, 0, 0) := by decide +kernel
theorem j132_14 : ax_in 132 14 = some (.istore_n 1, 1, 0, 0) := by decide +kernel
theorem j132_15 : ax_in 132 15 = some (.iload_n 1, 1, 0, 0) := by decide +kernel
theorem j132_16 : ax_in 132 16 = some (.ifCond .ge 61, 3, 0, 0) := by decide +kernel
theorem j132_19 : ax_in 132 19 = some (.aload_n 0, 1, 0, 0) := by decide +kernel
theorem j132_20 : ax_in 132 20 = some (.aload_n 0, 1, 0, 0) := by decide +kernel
theorem j132_21 : ax_in 132 21 = some (.invokevirtual 208, 3, 130, 0) := by decide +kernel
theorem j132_24 : ax_in 132 24 = some (.invokevirtual 211, 3, 131, 0) := by decide +kernel
theorem j132_27 : ax_in 132 27 = some (.istore_n 2, 1, 0, 0) := by decide +kernel
theorem j132_28 : ax_in 132 28 = some (.aload_n 0, 1, 0, 0) := by decide +kernel
theorem j132_29 : ax_in 132 29 = some (.aload_n 0, 1, 0, 0) := by decide +kernel
theorem j132_30 : ax_in 132 30 = some (.getfield 196, 3, 8, 23) := by decide +kernel
theorem j132_33 : ax_in 132 33 = some (.ifCond .ne 14, 3, 0, 0) := by decide +kernel
theorem j132_36 : ax_in 132 36 = some (.aload_n 0, 1, 0, 0) := by decide +kernel
theorem j132_37 : ax_in 132 37 = some (.getfield 7, 3, 8, 1) := by decide +kernel
theorem j132_40 : ax_in 132 40 = some (.iconst 1, 1, 0, 0) := by decide +kernel
theorem j132_41 : ax_in 132 41 = some (.iaload, 1, 0, 0) := by decide +kernel
theorem j132_42 : ax_in 132 42 = some (.bipush 6, 2, 0, 0) := by decide +kernel
theorem j132_44 : ax_in 132 44 = some (.if_icmp .ne 7, 3, 0, 0) := by decide +kernel
theorem j132_47 : ax_in 132 47 = some (.iconst 1, 1, 0, 0) := by decide +kernel
theorem j132_48 : ax_in 132 48 = some (.goto 4, 3, 0, 0) := by decide +kernel
theorem j132_51 : ax_in 132 51 = some (.iconst 0, 1, 0, 0) := by decide +kernel
theorem j132_52 : ax_in 132 52 = some (.putfield 196, 3, 8, 23) := by decide +kernel
theorem j132_55 : ax_in 132 55 = some (.aload_n 0, 1, 0, 0) := by decide +kernel
theorem j132_56 : ax_in 132 56 = some (.getfield 196, 3, 8, 23) := by decide +kernel
theorem j132_59 : ax_in 132 59 = some (.ifCond .eq 5, 3, 0, 0) := by decide +kernel
theorem j132_62 : ax_in 132 62 = some (.iconst (-1), 1, 0, 0) := by decide +kernel
theorem j132_63 : ax_in 132 63 = some (.ireturn, 1, 0, 0) := by decide +kernel
theorem j132_64 : ax_in 132 64 = some (.aload_n 0, 1, 0, 0) := by decide +kernel
theorem j132_65 : ax_in 132 65 = some (.getfield 7, 3, 8, 1) := by decide +kernel
theorem j132_68 : ax_in 132 68 = some (.iconst 1, 1, 0, 0) := by decide +kernel
theorem j132_69 : ax_in 132 69 = some (.iaload, 1, 0, 0) := by decide +kernel
theorem j132_70 : ax_in 132 70 = some (.istore_n 1, 1, 0, 0) := by decide +kernel
theorem j132_71 : ax_in 132 71 = some (.aload_n 0, 1, 0, 0) := by decide +kernel
theorem j132_72 : ax_in 132 72 = some (.iconst 1, 1, 0, 0) := by decide +kernel
theorem j132_73 : ax_in 132 73 = some (.iload_n 2, 1, 0, 0) := by decide +kernel
theorem j132_74 : ax_in 132 74 = some (.invokevirtual 109, 3, 93, 0) := by decide +kernel
theorem j132_77 : ax_in 132 77 = some (.bipush 6, 2, 0, 0) := by decide +kernel
theorem j132_79 : ax_in 132 79 = some (.iload_n 1, 1, 0, 0) := by decide +kernel
theorem j132_80 : ax_in 132 80 = some (.iadd, 1, 0, 0) := by decide +kernel
theorem j132_81 : ax_in 132 81 = some (.istore_n 2, 1, 0, 0) := by decide +kernel
theorem j132_82 : ax_in 132 82 = some (.aload_n 0, 1, 0, 0) := by decide +kernel
theorem j132_83 : ax_in 132 83 = some (.invokevirtual 208, 3, 130, 0) := by decide +kernel
theorem j132_86 : ax_in 132 86 = some (.istore_n 3, 1, 0, 0) := by decide +kernel
theorem j132_87 : ax_in 132 87 = some (.aload_n 0, 1, 0, 0) := by decide +kernel
theorem j132_88 : ax_in 132 88 = some (.getfield 196, 3, 8, 23) := by decide +kernel
theorem j132_91 : ax_in 132 91 = some (.ifCond .eq 5, 3, 0, 0) := by decide +kernel
theorem j132_94 : ax_in 132 94 = some (.iconst (-1), 1, 0, 0) := by decide +kernel
theorem j132_95 : ax_in 132 95 = some (.ireturn, 1, 0, 0) := by decide +kernel
theorem j132_96 : ax_in 132 96 = some (.iload_n 3, 1, 0, 0) := by decide +kernel
theorem j132_97 : ax_in 132 97 = some (.ifCond .ne 28, 3, 0, 0) := by decide +kernel
theorem j132_100 : ax_in 132 100 = some (.aload_n 0, 1, 0, 0) := by decide +kernel
theorem j132_101 : ax_in 132 101 = some (.getfield 19, 3, 8, 4) := by decide +kernel
theorem j132_104 : ax_in 132 104 = some (.bipush 10, 2, 0, 0) := by decide +kernel
theorem j132_106 : ax_in 132 106 = some (.iload_n 2, 1, 0, 0) := by decide +kernel
theorem j132_107 : ax_in 132 107 = some (.imul, 1, 0, 0) := by decide +kernel
theorem j132_108 : ax_in 132 108 = some (.aload_n 0, 1, 0, 0) := by decide +kernel
theorem j132_109 : ax_in 132 109 = some (.aload_n 0, 1, 0, 0) := by decide +kernel
theorem j132_110 : ax_in 132 110 = some (.getfield 16, 3, 8, 3) := by decide +kernel
theorem j132_113 : ax_in 132 113 = some (.iload_n 2, 1, 0, 0) := by decide +kernel
theorem j132_114 : ax_in 132 114 = some (.iaload, 1, 0, 0) := by decide +kernel
theorem j132_115 : ax_in 132 115 = some (.invokevirtual 205, 3, 129, 0) := by decide +kernel
theorem j132_118 : ax_in 132 118 = some (.iadd, 1, 0, 0) := by decide +kernel
theorem j132_119 : ax_in 132 119 = some (.iaload, 1, 0, 0) := by decide +kernel
theorem j132_120 : ax_in 132 120 = some (.istore 4, 2, 0, 0) := by decide +kernel
theorem j132_122 : ax_in 132 122 = some (.goto 52, 3, 0, 0) := by decide +kernel
theorem j132_125 : ax_in 132 125 = some (.aload_n 0, 1, 0, 0) := by decide +kernel
theorem j132_126 : ax_in 132 126 = some (.iload_n 3, 1, 0, 0) := by decide +kernel
theorem j132_127 : ax_in 132 127 = some (.invokevirtual 211, 3, 131, 0) := by decide +kernel
theorem j132_130 : ax_in 132 130 = some (.istore 4, 2, 0, 0) := by decide +kernel
theorem j132_132 : ax_in 132 132 = some (.aload_n 0, 1, 0, 0) := by decide +kernel
theorem j132_133 : ax_in 132 133 = some (.aload_n 0, 1, 0, 0) := by decide +kernel
theorem j132_134 : ax_in 132 134 = some (.getfield 196, 3, 8, 23) := by decide +kernel
theorem j132_137 : ax_in 132 137 = some (.ifCond .ne 14, 3, 0, 0) := by decide +kernel
theorem j132_140 : ax_in 132 140 = some (.aload_n 0, 1, 0, 0) := by decide +kernel
theorem j132_141 : ax_in 132 141 = some (.getfield 16, 3, 8, 3) := by decide +kernel
theorem j132_144 : ax_in 132 144 = some (.iload_n 2, 1, 0, 0) := by decide +kernel
theorem j132_145 : ax_in 132 145 = some (.iaload, 1, 0, 0) := by decide +kernel
theorem j132_146 : ax_in 132 146 = some (.bipush 10, 2, 0, 0) := by decide +kernel
theorem j132_148 : ax_in 132 148 = some (.if_icmp .ne 7, 3, 0, 0) := by decide +kernel
theorem j132_151 : ax_in 132 151 = some (.iconst 1, 1, 0, 0) := by decide +kernel
theorem j132_152 : ax_in 132 152 = some (.goto 4, 3, 0, 0) := by decide +kernel
theorem j132_155 : ax_in 132 155 = some (.iconst 0, 1, 0, 0) := by decide +kernel
theorem j132_156 : ax_in 132 156 = some (.putfield 196, 3, 8, 23) := by decide +kernel
theorem j132_159 : ax_in 132 159 = some (.aload_n 0, 1, 0, 0) := by decide +kernel
theorem j132_160 : ax_in 132 160 = some (.getfield 196, 3, 8, 23) := by decide +kernel
theorem j132_163 : ax_in 132 163 = some (.ifCond .ne 11, 3, 0, 0) := by decide +kernel
theorem j132_166 : ax_in 132 166 = some (.aload_n 0, 1, 0, 0) := by decide +kernel
theorem j132_167 : ax_in 132 167 = some (.iconst 1, 1, 0, 0) := by decide +kernel
theorem j132_168 : ax_in 132 168 = some (.iload_n 1, 1, 0, 0) := by decide +kernel
theorem j132_169 : ax_in 132 169 = some (.iload 4, 2, 0, 0) := by decide +kernel
theorem j132_171 : ax_in 132 171 = some (.invokevirtual 116, 3, 94, 0) := by decide +kernel
theorem j132_174 : ax_in 132 174 = some (.aload_n 0, 1, 0, 0) := by decide +kernel
theorem j132_175 : ax_in 132 175 = some (.getfield 196, 3, 8, 23) := by decide +kernel
theorem j132_178 : ax_in 132 178 = some (.ifCond .eq 5, 3, 0, 0) := by decide +kernel
theorem j132_181 : ax_in 132 181 = some (.iconst (-1), 1, 0, 0) := by decide +kernel
theorem j132_182 : ax_in 132 182 = some (.ireturn, 1, 0, 0) := by decide +kernel
theorem j132_183 : ax_in 132 183 = some (.aload_n 0, 1, 0, 0) := by decide +kernel
theorem j132_184 : ax_in 132 184 = some (.getfield 13, 3, 8, 2) := by decide +kernel
theorem j132_187 : ax_in 132 187 = some (.iload_n 2, 1, 0, 0) := by decide +kernel
theorem j132_188 : ax_in 132 188 = some (.iaload, 1, 0, 0) := by decide +kernel
theorem j132_189 : ax_in 132 189 = some (.istore 5, 2, 0, 0) := by decide +kernel
theorem j132_191 : ax_in 132 191 = some (.aload_n 0, 1, 0, 0) := by decide +kernel
theorem j132_192 : ax_in 132 192 = some (.iconst 1, 1, 0, 0) := by decide +kernel
theorem j132_193 : ax_in 132 193 = some (.iload 5, 2, 0, 0) := by decide +kernel
theorem j132_195 : ax_in 132 195 = some (.iload 4, 2, 0, 0) := by decide +kernel
theorem j132_197 : ax_in 132 197 = some (.invokevirtual 120, 3, 91, 0) := by decide +kernel
theorem j132_200 : ax_in 132 200 = some (.istore 6, 2, 0, 0) := by decide +kernel
theorem j132_202 : ax_in 132 202 = some (.aload_n 0, 1, 0, 0) := by decide +kernel
theorem j132_203 : ax_in 132 203 = some (.iload 6, 2, 0, 0) := by decide +kernel
theorem j132_205 : ax_in 132 205 = some (.ifCond .ge 18, 3, 0, 0) := by decide +kernel
theorem j132_208 : ax_in 132 208 = some (.aload_n 0, 1, 0, 0) := by decide +kernel
theorem j132_209 : ax_in 132 209 = some (.getfield 22, 3, 8, 5) := by decide +kernel
theorem j132_212 : ax_in 132 212 = some (.iconst 1, 1, 0, 0) := by decide +kernel
theorem j132_213 : ax_in 132 213 = some (.iaload, 1, 0, 0) := by decide +kernel
theorem j132_214 : ax_in 132 214 = some (.bipush 20, 2, 0, 0) := by decide +kernel
theorem j132_216 : ax_in 132 216 = some (.if_icmp .ne 7, 3, 0, 0) := by decide +kernel
theorem j132_219 : ax_in 132 219 = some (.iconst 1, 1, 0, 0) := by decide +kernel
theorem j132_220 : ax_in 132 220 = some (.goto 4, 3, 0, 0) := by decide +kernel
theorem j132_223 : ax_in 132 223 = some (.iconst 0, 1, 0, 0) := by decide +kernel
theorem j132_224 : ax_in 132 224 = some (.putfield 196, 3, 8, 23) := by decide +kernel
theorem j132_227 : ax_in 132 227 = some (.aload_n 0, 1, 0, 0) := by decide +kernel
theorem j132_228 : ax_in 132 228 = some (.getfield 196, 3, 8, 23) := by decide +kernel
theorem j132_231 : ax_in 132 231 = some (.ifCond .eq 7, 3, 0, 0) := by decide +kernel
theorem j132_234 : ax_in 132 234 = some (.iconst (-1), 1, 0, 0) := by decide +kernel
theorem j132_235 : ax_in 132 235 = some (.goto 22, 3, 0, 0) := by decide +kernel
theorem j132_238 : ax_in 132 238 = some (.iload 6, 2, 0, 0) := by decide +kernel
theorem j132_240 : ax_in 132 240 = some (.ifCond .ge 15, 3, 0, 0) := by decide +kernel
theorem j132_243 : ax_in 132 243 = some (.aload_n 0, 1, 0, 0) := by decide +kernel
theorem j132_244 : ax_in 132 244 = some (.iconst 1, 1, 0, 0) := by decide +kernel
theorem j132_245 : ax_in 132 245 = some (.iload 5, 2, 0, 0) := by decide +kernel
theorem j132_247 : ax_in 132 247 = some (.iload 4, 2, 0, 0) := by decide +kernel
theorem j132_249 : ax_in 132 249 = some (.invokevirtual 123, 3, 92, 0) := by decide +kernel
theorem j132_252 : ax_in 132 252 = some (.goto 5, 3, 0, 0) := by decide +kernel
theorem j132_255 : ax_in 132 255 = some (.iload 6, 2, 0, 0) := by decide +kernel
theorem j132_257 : ax_in 132 257 = some (.ireturn, 1, 0, 0) := by decide +kernel
theorem j133_0 : ax_in 133 0 = some (.aload_n 0, 1, 0, 0) := by decide +kernel
theorem j133_1 : ax_in 133 1 = some (.invokevirtual 208, 3, 130, 0) := by decide +kernel
theorem j133_4 : ax_in 133 4 = some (.istore_n 2, 1, 0, 0) := by decide +kernel
theorem j133_5 : ax_in 133 5 = some (.aload_n 0, 1, 0, 0) := by decide +kernel
theorem j133_6 : ax_in 133 6 = some (.getfield 196, 3, 8, 23) := by decide +kernel
theorem j133_9 : ax_in 133 9 = some (.ifCond .eq 5, 3, 0, 0) := by decide +kernel
theorem j133_12 : ax_in 133 12 = some (.iconst 0, 1, 0, 0) := by decide +kernel
theorem j133_13 : ax_in 133 13 = some (.ireturn, 1, 0, 0) := by decide +kernel
theorem j133_14 : ax_in 133 14 = some (.iload_n 2, 1, 0, 0) := by decide +kernel
theorem j133_15 : ax_in 133 15 = some (.ifCond .ne 42, 3, 0, 0) := by decide +kernel
theorem j133_18 : ax_in 133 18 = some (.aload_n 0, 1, 0, 0) := by decide +kernel
theorem j133_19 : ax_in 133 19 = some (.aload_n 0, 1, 0, 0) := by decide +kernel
theorem j133_20 : ax_in 133 20 = some (.getfield 31, 3, 8, 8) := by decide +kernel
theorem j133_23 : ax_in 133 23 = some (.bipush 20, 2, 0, 0) := by decide +kernel
theorem j133_25 : ax_in 133 25 = some (.iload_n 1, 1, 0, 0) := by decide +kernel
theorem j133_26 : ax_in 133 26 = some (.iadd, 1, 0, 0) := by decide +kernel
theorem j133_27 : ax_in 133 27 = some (.iaload, 1, 0, 0) := by decide +kernel
theorem j133_28 : ax_in 133 28 = some (.invokevirtual 205, 3, 129, 0) := by decide +kernel
theorem j133_31 : ax_in 133 31 = some (.istore_n 3, 1, 0, 0) := by decide +kernel
theorem j133_32 : ax_in 133 32 = some (.aload_n 0, 1, 0, 0) := by decide +kernel
theorem j133_33 : ax_in 133 33 = some (.getfield 196, 3, 8, 23) := by decide +kernel
theorem j133_36 : ax_in 133 36 = some (.ifCond .eq 7, 3, 0, 0) := by decide +kernel
theorem j133_39 : ax_in 133 39 = some (.iconst 0, 1, 0, 0) := by decide +kernel
theorem j133_40 : ax_in 133 40 = some (.goto 16, 3, 0, 0) := by decide +kernel
theorem j133_43 : ax_in 133 43 = some (.aload_n 0, 1, 0, 0) := by decide +kernel
theorem j133_44 : ax_in 133 44 = some (.getfield 34, 3, 8, 9) := by decide +kernel
theorem j133_47 : ax_in 133 47 = some (.iconst 5, 1, 0, 0) := by decide +kernel
theorem j133_48 : ax_in 133 48 = some (.bipush 20, 2, 0, 0) := by decide +kernel
theorem j133_50 : ax_in 133 50 = some (.iload_n 1, 1, 0, 0) := by decide +kernel
theorem j133_51 : ax_in 133 51 = some (.iadd, 1, 0, 0) := by decide +kernel
theorem j133_52 : ax_in 133 52 = some (.imul, 1, 0, 0) := by decide +kernel
theorem j133_53 : ax_in 133 53 = some (.iload_n 3, 1, 0, 0) := by decide +kernel
theorem j133_54 : ax_in 133 54 = some (.iadd, 1, 0, 0) := by decide +kernel
theorem j133_55 : ax_in 133 55 = some (.iaload, 1, 0, 0) := by decide +kernel
theorem j133_56 : ax_in 133 56 = some (.ireturn, 1, 0, 0) := by decide +kernel
theorem j133_57 : ax_in 133 57 = some (.iload_n 2, 1, 0, 0) := by decide +kernel
theorem j133_58 : ax_in 133 58 = some (.iconst 1, 1, 0, 0) := by decide +kernel
theorem j133_59 : ax_in 133 59 = some (.if_icmp .ne 35, 3, 0, 0) := by decide +kernel
theorem j133_62 : ax_in 133 62 = some (.aload_n 0, 1, 0, 0) := by decide +kernel
theorem j133_63 : ax_in 133 63 = some (.aload_n 0, 1, 0, 0) := by decide +kernel
theorem j133_64 : ax_in 133 64 = some (.getfield 37, 3, 8, 10) := by decide +kernel
theorem j133_67 : ax_in 133 67 = some (.iconst 1, 1, 0, 0) := by decide +kernel
theorem j133_68 : ax_in 133 68 = some (.iaload, 1, 0, 0) := by decide +kernel
theorem j133_69 : ax_in 133 69 = some (.invokevirtual 205, 3, 129, 0) := by decide +kernel
theorem j133_72 : ax_in 133 72 = some (.istore_n 3, 1, 0, 0) := by decide +kernel
theorem j133_73 : ax_in 133 73 = some (.aload_n 0, 1, 0, 0) := by decide +kernel
theorem j133_74 : ax_in 133 74 = some (.getfield 196, 3, 8, 23) := by decide +kernel
theorem j133_77 : ax_in 133 77 = some (.ifCond .eq 7, 3, 0, 0) := by decide +kernel
theorem j133_80 : ax_in 133 80 = some (.iconst 0, 1, 0, 0) := by decide +kernel
theorem j133_81 : ax_in 133 81 = some (.goto 12, 3, 0, 0) := by decide +kernel
theorem j133_84 : ax_in 133 84 = some (.aload_n 0, 1, 0, 0) := by decide +kernel
theorem j133_85 : ax_in 133 85 = some (.getfield 40, 3, 8, 11) := by decide +kernel
theorem j133_88 : ax_in 133 88 = some (.bipush 20, 2, 0, 0) := by decide +kernel
theorem j133_90 : ax_in 133 90 = some (.iload_n 3, 1, 0, 0) := by decide +kernel
theorem j133_91 : ax_in 133 91 = some (.iadd, 1, 0, 0) := by decide +kernel
theorem j133_92 : ax_in 133 92 = some (.iaload, 1, 0, 0) := by decide +kernel
theorem j133_93 : ax_in 133 93 = some (.ireturn, 1, 0, 0) := by decide +kernel
theorem j133_94 : ax_in 133 94 = some (.aload_n 0, 1, 0, 0) := by decide +kernel
theorem j133_95 : ax_in 133 95 = some (.iload_n 2, 1, 0, 0) := by decide +kernel
theorem j133_96 : ax_in 133 96 = some (.iconst 2, 1, 0, 0) := by decide +kernel
theorem j133_97 : ax_in 133 97 = some (.isub, 1, 0, 0) := by decide +kernel
theorem j133_98 : ax_in 133 98 = some (.invokevirtual 211, 3, 131, 0) := by decide +kernel
theorem j133_101 : ax_in 133 101 = some (.istore_n 3, 1, 0, 0) := by decide +kernel
theorem j133_102 : ax_in 133 102 = some (.aload_n 0, 1, 0, 0) := by decide +kernel
theorem j133_103 : ax_in 133 103 = some (.getfield 196, 3, 8, 23) := by decide +kernel
theorem j133_106 : ax_in 133 106 = some (.ifCond .ne 10, 3, 0, 0) := by decide +kernel
theorem j133_109 : ax_in 133 109 = some (.aload_n 0, 1, 0, 0) := by decide +kernel
theorem j133_110 : ax_in 133 110 = some (.iconst 1, 1, 0, 0) := by decide +kernel
theorem j133_111 : ax_in 133 111 = some (.iload_n 1, 1, 0, 0) := by decide +kernel
theorem j133_112 : ax_in 133 112 = some (.iload_n 3, 1, 0, 0) := by decide +kernel
theorem j133_113 : ax_in 133 113 = some (.invokevirtual 126, 3, 95, 0) := by decide +kernel
theorem j133_116 : ax_in 133 116 = some (.iload_n 3, 1, 0, 0) := by decide +kernel
theorem j133_117 : ax_in 133 117 = some (.ireturn, 1, 0, 0) := by decide +kernel
theorem j134_0 : ax_in 134 0 = some (.aload_n 0, 1, 0, 0) := by decide +kernel
theorem j134_1 : ax_in 134 1 = some (.getfield 43, 3, 8, 12) := by decide +kernel
theorem j134_4 : ax_in 134 4 = some (.iload_n 1, 1, 0, 0) := by decide +kernel
theorem j134_5 : ax_in 134 5 = some (.iaload, 1, 0, 0) := by decide +kernel
theorem j134_6 : ax_in 134 6 = some (.istore_n 2, 1, 0, 0) := by decide +kernel
theorem j134_7 : ax_in 134 7 = some (.iload_n 1, 1, 0, 0) := by decide +kernel
theorem j134_8 : ax_in 134 8 = some (.iconst 2, 1, 0, 0) := by decide +kernel
theorem j134_9 : ax_in 134 9 = some (.irem, 1, 0, 0) := by decide +kernel
theorem j134_10 : ax_in 134 10 = some (.iconst 1, 1, 0, 0) := by decide +kernel
theorem j134_11 : ax_in 134 11 = some (.if_icmp .ne 7, 3, 0, 0) := by decide +kernel
theorem j134_14 : ax_in 134 14 = some (.iconst 1, 1, 0, 0) := by decide +kernel
theorem j134_15 : ax_in 134 15 = some (.goto 4, 3, 0, 0) := by decide +kernel
theorem j134_18 : ax_in 134 18 = some (.iconst 0, 1, 0, 0) := by decide +kernel
theorem j134_19 : ax_in 134 19 = some (.istore_n 3, 1, 0, 0) := by decide +kernel
theorem j134_20 : ax_in 134 20 = some (.aload_n 0, 1, 0, 0) := by decide +kernel
theorem j134_21 : ax_in 134 21 = some (.iload_n 2, 1, 0, 0) := by decide +kernel
theorem j134_22 : ax_in 134 22 = some (.iload_n 3, 1, 0, 0) := by decide +kernel
theorem j134_23 : ax_in 134 23 = some (.ifCond .eq 7, 3, 0, 0) := by decide +kernel
theorem j134_26 : ax_in 134 26 = some (.iconst 2, 1, 0, 0) := by decide +kernel
theorem j134_27 : ax_in 134 27 = some (.goto 4, 3, 0, 0) := by decide +kernel
theorem j134_30 : ax_in 134 30 = some (.iconst 1, 1, 0, 0) := by decide +kernel
theorem j134_31 : ax_in 134 31 = some (.iadd, 1, 0, 0) := by decide +kernel
theorem j134_32 : ax_in 134 32 = some (.invokevirtual 205, 3, 129, 0) := by decide +kernel
theorem j134_35 : ax_in 134 35 = some (.istore 4, 2, 0, 0) := by decide +kernel
theorem j134_37 : ax_in 134 37 = some (.aload_n 0, 1, 0, 0) := by decide +kernel
theorem j134_38 : ax_in 134 38 = some (.getfield 196, 3, 8, 23) := by decide +kernel
theorem j134_41 : ax_in 134 41 = some (.ifCond .eq 5, 3, 0, 0) := by decide +kernel
theorem j134_44 : ax_in 134 44 = some (.iconst 0, 1, 0, 0) := by decide +kernel
theorem j134_45 : ax_in 134 45 = some (.ireturn, 1, 0, 0) := by decide +kernel
theorem j134_46 : ax_in 134 46 = some (.iload 4, 2, 0, 0) := by decide +kernel
theorem j134_48 : ax_in 134 48 = some (.iload_n 2, 1, 0, 0) := by decide +kernel
theorem j134_49 : ax_in 134 49 = some (.if_icmp .ge 16, 3, 0, 0) := by decide +kernel
theorem j134_52 : ax_in 134 52 = some (.aload_n 0, 1, 0, 0) := by decide +kernel
theorem j134_53 : ax_in 134 53 = some (.getfield 46, 3, 8, 13) := by decide +kernel
theorem j134_56 : ax_in 134 56 = some (.bipush 12, 2, 0, 0) := by decide +kernel
theorem j134_58 : ax_in 134 58 = some (.iload_n 1, 1, 0, 0) := by decide +kernel
theorem j134_59 : ax_in 134 59 = some (.imul, 1, 0, 0) := by decide +kernel
theorem j134_60 : ax_in 134 60 = some (.iload 4, 2, 0, 0) := by decide +kernel
theorem j134_62 : ax_in 134 62 = some (.iadd, 1, 0, 0) := by decide +kernel
theorem j134_63 : ax_in 134 63 = some (.iaload, 1, 0, 0) := by decide +kernel
theorem j134_64 : ax_in 134 64 = some (.ireturn, 1, 0, 0) := by decide +kernel
theorem j134_65 : ax_in 134 65 = some (.iload_n 3, 1, 0, 0) := by decide +kernel
theorem j134_66 : ax_in 134 66 = some (.ifCond .ne 11, 3, 0, 0) := by decide +kernel
theorem j134_69 : ax_in 134 69 = some (.iconst (-1), 1, 0, 0) := by decide +kernel
theorem j134_70 : ax_in 134 70 = some (.aload_n 0, 1, 0, 0) := by decide +kernel
theorem j134_71 : ax_in 134 71 = some (.iconst 4, 1, 0, 0) := by decide +kernel
theorem j134_72 : ax_in 134 72 = some (.invokevirtual 205, 3, 129, 0) := by decide +kernel
theorem j134_75 : ax_in 134 75 = some (.isub, 1, 0, 0) := by decide +kernel
theorem j134_76 : ax_in 134 76 = some (.ireturn, 1, 0, 0) := by decide +kernel
theorem j134_77 : ax_in 134 77 = some (.iload 4, 2, 0, 0) := by decide +kernel
theorem j134_79 : ax_in 134 79 = some (.iload_n 2, 1, 0, 0) := by decide +kernel
theorem j134_80 : ax_in 134 80 = some (.if_icmp .ne 8, 3, 0, 0) := by decide +kernel
theorem j134_83 : ax_in 134 83 = some (.bipush (-9), 2, 0, 0) := by decide +kernel
theorem j134_85 : ax_in 134 85 = some (.goto 11, 3, 0, 0) := by decide +kernel
theorem j134_88 : ax_in 134 88 = some (.bipush (-3), 2, 0, 0) := by decide +kernel
theorem j134_90 : ax_in 134 90 = some (.aload_n 0, 1, 0, 0) := by decide +kernel
theorem j134_91 : ax_in 134 91 = some (.iconst 2, 1, 0, 0) := by decide +kernel
theorem j134_92 : ax_in 134 92 = some (.invokevirtual 205, 3, 129, 0) := by decide +kernel
theorem j134_95 : ax_in 134 95 = some (.isub, 1, 0, 0) := by decide +kernel
theorem j134_96 : ax_in 134 96 = some (.ireturn, 1, 0, 0) := by decide +kernel
theorem j135_0 : ax_in 135 0 = some (.aload_n 0, 1, 0, 0) := by decide +kernel
theorem j135_1 : ax_in 135 1 = some (.getfield 68, 3, 8, 25) := by decide +kernel
theorem j135_4 : ax_in 135 4 = some (.aload_n 0, 1, 0, 0) := by decide +kernel
theorem j135_5 : ax_in 135 5 = some (.getfield 214, 3, 8, 24) := by decide +kernel
theorem j135_8 : ax_in 135 8 = some (.iload_n 1, 1, 0, 0) := by decide +kernel
theorem j135_9 : ax_in 135 9 = some (.iastore, 1, 0, 0) := by decide +kernel
theorem j135_10 : ax_in 135 10 = some (.aload_n 0, 1, 0, 0) := by decide +kernel
theorem j135_11 : ax_in 135 11 = some (.getfield 71, 3, 8, 26) := by decide +kernel
theorem j135_14 : ax_in 135 14 = some (.aload_n 0, 1, 0, 0) := by decide +kernel
theorem j135_15 : ax_in 135 15 = some (.getfield 214, 3, 8, 24) := by decide +kernel
theorem j135_18 : ax_in 135 18 = some (.iload_n 2, 1, 0, 0) := by decide +kernel
theorem j135_19 : ax_in 135 19 = some (.ifCond .ge 7, 3, 0, 0) := by decide +kernel
theorem j135_22 : ax_in 135 22 = some (.iconst 0, 1, 0, 0) := by decide +kernel
theorem j135_23 : ax_in 135 23 = some (.goto 12, 3, 0, 0) := by decide +kernel
theorem j135_26 : ax_in 135 26 = some (.aload_n 0, 1, 0, 0) := by decide +kernel
theorem j135_27 : ax_in 135 27 = some (.getfield 25, 3, 8, 6) := by decide +kernel
theorem j135_30 : ax_in 135 30 = some (.bipush 20, 2, 0, 0) := by decide +kernel
theorem j135_32 : ax_in 135 32 = some (.iload_n 2, 1, 0, 0) := by decide +kernel
theorem j135_33 : ax_in 135 33 = some (.iadd, 1, 0, 0) := by decide +kernel
theorem j135_34 : ax_in 135 34 = some (.iaload, 1, 0, 0) := by decide +kernel
theorem j135_35 : ax_in 135 35 = some (.iastore, 1, 0, 0) := by decide +kernel
theorem j135_36 : ax_in 135 36 = some (.aload_n 0, 1, 0, 0) := by decide +kernel
theorem j135_37 : ax_in 135 37 = some (.getfield 74, 3, 8, 27) := by decide +kernel
theorem j135_40 : ax_in 135 40 = some (.aload_n 0, 1, 0, 0) := by decide +kernel
theorem j135_41 : ax_in 135 41 = some (.getfield 214, 3, 8, 24) := by decide +kernel
theorem j135_44 : ax_in 135 44 = some (.iload_n 2, 1, 0, 0) := by decide +kernel
theorem j135_45 : ax_in 135 45 = some (.ifCond .ge 7, 3, 0, 0) := by decide +kernel
theorem j135_48 : ax_in 135 48 = some (.iconst 0, 1, 0, 0) := by decide +kernel
theorem j135_49 : ax_in 135 49 = some (.goto 12, 3, 0, 0) := by decide +kernel
theorem j135_52 : ax_in 135 52 = some (.aload_n 0, 1, 0, 0) := by decide +kernel
theorem j135_53 : ax_in 135 53 = some (.getfield 28, 3, 8, 7) := by decide +kernel
theorem j135_56 : ax_in 135 56 = some (.bipush 20, 2, 0, 0) := by decide +kernel
theorem j135_58 : ax_in 135 58 = some (.iload_n 2, 1, 0, 0) := by decide +kernel
theorem j135_59 : ax_in 135 59 = some (.iadd, 1, 0, 0) := by decide +kernel
theorem j135_60 : ax_in 135 60 = some (.iaload, 1, 0, 0) := by decide +kernel
theorem j135_61 : ax_in 135 61 = some (.iastore, 1, 0, 0) := by decide +kernel
theorem j135_62 : ax_in 135 62 = some (.aload_n 0, 1, 0, 0) := by decide +kernel
theorem j135_63 : ax_in 135 63 = some (.getfield 77, 3, 8, 28) := by decide +kernel
theorem j135_66 : ax_in 135 66 = some (.aload_n 0, 1, 0, 0) := by decide +kernel
theorem j135_67 : ax_in 135 67 = some (.getfield 214, 3, 8, 24) := by decide +kernel
theorem j135_70 : ax_in 135 70 = some (.iload_n 3, 1, 0, 0) := by decide +kernel
theorem j135_71 : ax_in 135 71 = some (.iastore, 1, 0, 0) := by decide +kernel
theorem j135_72 : ax_in 135 72 = some (.aload_n 0, 1, 0, 0) := by decide +kernel
theorem j135_73 : ax_in 135 73 = some (.dup, 1, 0, 0) := by decide +kernel
theorem j135_74 : ax_in 135 74 = some (.getfield 214, 3, 8, 24) := by decide +kernel
theorem j135_77 : ax_in 135 77 = some (.iconst 1, 1, 0, 0) := by decide +kernel
theorem j135_78 : ax_in 135 78 = some (.iadd, 1, 0, 0) := by decide +kernel
theorem j135_79 : ax_in 135 79 = some (.putfield 214, 3, 8, 24) := by decide +kernel
theorem j135_82 : ax_in 135 82 = some (.return_, 1, 0, 0) := by decide +kernel
theorem j136_0 : ax_in 136 0 = some (.aload_n 0, 1, 0, 0) := by decide +kernel
theorem j136_1 : ax_in 136 1 = some (.aload_n 0, 1, 0, 0) := by decide +kernel
theorem j136_2 : ax_in 136 2 = some (.getfield 196, 3, 8, 23) := by decide +kernel
theorem j136_5 : ax_in 136 5 = some (.ifCond .ne 14, 3, 0, 0) := by decide +kernel
theorem j136_8 : ax_in 136 8 = some (.aload_n 0, 1, 0, 0) := by decide +kernel
theorem j136_9 : ax_in 136 9 = some (.getfield 49, 3, 8, 14) := by decide +kernel
theorem j136_12 : ax_in 136 12 = some (.iconst 1, 1, 0, 0) := by decide +kernel
theorem j136_13 : ax_in 136 13 = some (.iaload, 1, 0, 0) := by decide +kernel
theorem j136_14 : ax_in 136 14 = some (.bipush 8, 2, 0, 0) := by decide +kernel
theorem j136_16 : ax_in 136 16 = some (.if_icmp .ne 7, 3, 0, 0) := by decide +kernel
theorem j136_19 : ax_in 136 19 = some (.iconst 1, 1, 0, 0) := by decide +kernel
theorem j136_20 : ax_in 136 20 = some (.goto 4, 3, 0, 0) := by decide +kernel
theorem j136_23 : ax_in 136 23 = some (.iconst 0, 1, 0, 0) := by decide +kernel
theorem j136_24 : ax_in 136 24 = some (.putfield 196, 3, 8, 23) := by decide +kernel
theorem j136_27 : ax_in 136 27 = some (.aload_n 0, 1, 0, 0) := by decide +kernel
theorem j136_28 : ax_in 136 28 = some (.getfield 196, 3, 8, 23) := by decide +kernel
theorem j136_31 : ax_in 136 31 = some (.ifCond .ne 16, 3, 0, 0) := by decide +kernel
theorem j136_34 : ax_in 136 34 = some (.aload_n 0, 1, 0, 0) := by decide +kernel
theorem j136_35 : ax_in 136 35 = some (.iconst 1, 1, 0, 0) := by decide +kernel
theorem j136_36 : ax_in 136 36 = some (.iload_n 1, 1, 0, 0) := by decide +kernel
theorem j136_37 : ax_in 136 37 = some (.invokevirtual 155, 3, 101, 0) := by decide +kernel
theorem j136_40 : ax_in 136 40 = some (.aload_n 0, 1, 0, 0) := by decide +kernel
theorem j136_41 : ax_in 136 41 = some (.iconst 1, 1, 0, 0) := by decide +kernel
theorem j136_42 : ax_in 136 42 = some (.iload_n 1, 1, 0, 0) := by decide +kernel
theorem j136_43 : ax_in 136 43 = some (.iconst 0, 1, 0, 0) := by decide +kernel
theorem j136_44 : ax_in 136 44 = some (.invokevirtual 217, 3, 135, 0) := by decide +kernel
theorem j136_47 : ax_in 136 47 = some (.return_, 1, 0, 0) := by decide +kernel
theorem j137_0 : ax_in 137 0 = some (.aload_n 0, 1, 0, 0) := by decide +kernel
theorem j137_1 : ax_in 137 1 = some (.getfield 49, 3, 8, 14) := by decide +kernel
theorem j137_4 : ax_in 137 4 = some (.iconst 1, 1, 0, 0) := by decide +kernel
theorem j137_5 : ax_in 137 5 = some (.iaload, 1, 0, 0) := by decide +kernel
theorem j137_6 : ax_in 137 6 = some (.ifCond .ne 12, 3, 0, 0) := by decide +kernel
theorem j137_9 : ax_in 137 9 = some (.aload_n 0, 1, 0, 0) := by decide +kernel
theorem j137_10 : ax_in 137 10 = some (.aload_n 0, 1, 0, 0) := by decide +kernel
theorem j137_11 : ax_in 137 11 = some (.invokevirtual 220, 3, 132, 0) := by decide +kernel
theorem j137_14 : ax_in 137 14 = some (.invokevirtual 223, 3, 136, 0) := by decide +kernel
theorem j137_17 : ax_in 137 17 = some (.return_, 1, 0, 0) := by decide +kernel
theorem j137_18 : ax_in 137 18 = some (.aload_n 0, 1, 0, 0) := by decide +kernel
theorem j137_19 : ax_in 137 19 = some (.iconst 1, 1, 0, 0) := by decide +kernel
theorem j137_20 : ax_in 137 20 = some (.invokevirtual 129, 3, 96, 0) := by decide +kernel
theorem j137_23 : ax_in 137 23 = some (.istore_n 1, 1, 0, 0) := by decide +kernel
theorem j137_24 : ax_in 137 24 = some (.aload_n 0, 1, 0, 0) := by decide +kernel
theorem j137_25 : ax_in 137 25 = some (.iload_n 1, 1, 0, 0) := by decide +kernel
theorem j137_26 : ax_in 137 26 = some (.invokevirtual 226, 3, 134, 0) := by decide +kernel
theorem j137_29 : ax_in 137 29 = some (.istore_n 2, 1, 0, 0) := by decide +kernel
theorem j137_30 : ax_in 137 30 = some (.aload_n 0, 1, 0, 0) := by decide +kernel
theorem j137_31 : ax_in 137 31 = some (.getfield 196, 3, 8, 23) := by decide +kernel
theorem j137_34 : ax_in 137 34 = some (.ifCond .eq 4, 3, 0, 0) := by decide +kernel
theorem j137_37 : ax_in 137 37 = some (.return_, 1, 0, 0) := by decide +kernel
theorem j137_38 : ax_in 137 38 = some (.iload_n 2, 1, 0, 0) := by decide +kernel
theorem j137_39 : ax_in 137 39 = some (.ifCond .eq 9, 3, 0, 0) := by decide +kernel
theorem j137_42 : ax_in 137 42 = some (.iload_n 2, 1, 0, 0) := by decide +kernel
theorem j137_43 : ax_in 137 43 = some (.bipush (-9), 2, 0, 0) := by decide +kernel
theorem j137_45 : ax_in 137 45 = some (.if_icmp .ne 7, 3, 0, 0) := by decide +kernel
theorem j137_48 : ax_in 137 48 = some (.iconst 0, 1, 0, 0) := by decide +kernel
theorem j137_49 : ax_in 137 49 = some (.goto 27, 3, 0, 0) := by decide +kernel
theorem j137_52 : ax_in 137 52 = some (.iload_n 2, 1, 0, 0) := by decide +kernel
theorem j137_53 : ax_in 137 53 = some (.iconst 1, 1, 0, 0) := by decide +kernel
theorem j137_54 : ax_in 137 54 = some (.if_icmp .ne 7, 3, 0, 0) := by decide +kernel
theorem j137_57 : ax_in 137 57 = some (.iconst 3, 1, 0, 0) := by decide +kernel
theorem j137_58 : ax_in 137 58 = some (.goto 18, 3, 0, 0) := by decide +kernel
theorem j137_61 : ax_in 137 61 = some (.iload_n 2, 1, 0, 0) := by decide +kernel
theorem j137_62 : ax_in 137 62 = some (.ifCond .le 11, 3, 0, 0) := by decide +kernel
theorem j137_65 : ax_in 137 65 = some (.iconst 2, 1, 0, 0) := by decide +kernel
theorem j137_66 : ax_in 137 66 = some (.iload_n 2, 1, 0, 0) := by decide +kernel
theorem j137_67 : ax_in 137 67 = some (.iconst 2, 1, 0, 0) := by decide +kernel
theorem j137_68 : ax_in 137 68 = some (.irem, 1, 0, 0) := by decide +kernel
theorem j137_69 : ax_in 137 69 = some (.isub, 1, 0, 0) := by decide +kernel
theorem j137_70 : ax_in 137 70 = some (.goto 6, 3, 0, 0) := by decide +kernel
theorem j137_73 : ax_in 137 73 = some (.iconst (-1), 1, 0, 0) := by decide +kernel
theorem j137_74 : ax_in 137 74 = some (.iload_n 2, 1, 0, 0) := by decide +kernel
theorem j137_75 : ax_in 137 75 = some (.isub, 1, 0, 0) := by decide +kernel
theorem j137_76 : ax_in 137 76 = some (.istore_n 3, 1, 0, 0) := by decide +kernel
theorem j137_77 : ax_in 137 77 = some (.iload_n 2, 1, 0, 0) := by decide +kernel
theorem j137_78 : ax_in 137 78 = some (.iconst 1, 1, 0, 0) := by decide +kernel
theorem j137_79 : ax_in 137 79 = some (.if_icmp .le 11, 3, 0, 0) := by decide +kernel
theorem j137_82 : ax_in 137 82 = some (.iload_n 2, 1, 0, 0) := by decide +kernel
theorem j137_83 : ax_in 137 83 = some (.iconst 2, 1, 0, 0) := by decide +kernel
theorem j137_84 : ax_in 137 84 = some (.isub, 1, 0, 0) := by decide +kernel
theorem j137_85 : ax_in 137 85 = some (.iconst 2, 1, 0, 0) := by decide +kernel
theorem j137_86 : ax_in 137 86 = some (.idiv, 1, 0, 0) := by decide +kernel
theorem j137_87 : ax_in 137 87 = some (.goto 4, 3, 0, 0) := by decide +kernel
theorem j137_90 : ax_in 137 90 = some (.iconst (-1), 1, 0, 0) := by decide +kernel
theorem j137_91 : ax_in 137 91 = some (.istore 4, 2, 0, 0) := by decide +kernel
theorem j137_93 : ax_in 137 93 = some (.iload_n 2, 1, 0, 0) := by decide +kernel
theorem j137_94 : ax_in 137 94 = some (.ifCond .ge 27, 3, 0, 0) := by decide +kernel
theorem j137_97 : ax_in 137 97 = some (.iload_n 3, 1, 0, 0) := by decide +kernel
theorem j137_98 : ax_in 137 98 = some (.iconst 1, 1, 0, 0) := by decide +kernel
theorem j137_99 : ax_in 137 99 = some (.if_icmp .eq 8, 3, 0, 0) := by decide +kernel
theorem j137_102 : ax_in 137 102 = some (.iload_n 3, 1, 0, 0) := by decide +kernel
theorem j137_103 : ax_in 137 103 = some (.iconst 2, 1, 0, 0) := by decide +kernel
theorem j137_104 : ax_in 137 104 = some (.if_icmp .ne 17, 3, 0, 0) := by decide +kernel
theorem j137_107 : ax_in 137 107 = some (.aload_n 0, 1, 0, 0) := by decide +kernel
theorem j137_108 : ax_in 137 108 = some (.invokevirtual 220, 3, 132, 0) := by decide +kernel
theorem j137_111 : ax_in 137 111 = some (.istore 4, 2, 0, 0) := by decide +kernel
theorem j137_113 : ax_in 137 113 = some (.aload_n 0, 1, 0, 0) := by decide +kernel
theorem j137_114 : ax_in 137 114 = some (.getfield 196, 3, 8, 23) := by decide +kernel
theorem j137_117 : ax_in 137 117 = some (.ifCond .eq 4, 3, 0, 0) := by decide +kernel
theorem j137_120 : ax_in 137 120 = some (.return_, 1, 0, 0) := by decide +kernel
theorem j137_121 : ax_in 137 121 = some (.iload_n 2, 1, 0, 0) := by decide +kernel
theorem j137_122 : ax_in 137 122 = some (.ifCond .ge 49, 3, 0, 0) := by decide +kernel
theorem j137_125 : ax_in 137 125 = some (.iload_n 2, 1, 0, 0) := by decide +kernel
theorem j137_126 : ax_in 137 126 = some (.bipush (-9), 2, 0, 0) := by decide +kernel
theorem j137_128 : ax_in 137 128 = some (.if_icmp .eq 43, 3, 0, 0) := by decide +kernel
theorem j137_131 : ax_in 137 131 = some (.aload_n 0, 1, 0, 0) := by decide +kernel
theorem j137_132 : ax_in 137 132 = some (.iload_n 1, 1, 0, 0) := by decide +kernel
theorem j137_133 : ax_in 137 133 = some (.iload_n 3, 1, 0, 0) := by decide +kernel
theorem j137_134 : ax_in 137 134 = some (.ifCond .ne 7, 3, 0, 0) := by decide +kernel
theorem j137_137 : ax_in 137 137 = some (.iconst 0, 1, 0, 0) := by decide +kernel
theorem j137_138 : ax_in 137 138 = some (.goto 30, 3, 0, 0) := by decide +kernel
theorem j137_141 : ax_in 137 141 = some (.iload_n 3, 1, 0, 0) := by decide +kernel
theorem j137_142 : ax_in 137 142 = some (.iconst 3, 1, 0, 0) := by decide +kernel
theorem j137_143 : ax_in 137 143 = some (.if_icmp .ne 7, 3, 0, 0) := by decide +kernel
theorem j137_146 : ax_in 137 146 = some (.iconst 1, 1, 0, 0) := by decide +kernel
theorem j137_147 : ax_in 137 147 = some (.goto 21, 3, 0, 0) := by decide +kernel
theorem j137_150 : ax_in 137 150 = some (.iload_n 3, 1, 0, 0) := by decide +kernel
theorem j137_151 : ax_in 137 151 = some (.iconst 2, 1, 0, 0) := by decide +kernel
theorem j137_152 : ax_in 137 152 = some (.if_icmp .ne 11, 3, 0, 0) := by decide +kernel
theorem j137_155 : ax_in 137 155 = some (.iload 4, 2, 0, 0) := by decide +kernel
theorem j137_157 : ax_in 137 157 = some (.invokestatic 136, 3, 97, 1) := by decide +kernel
theorem j137_160 : ax_in 137 160 = some (.goto 8, 3, 0, 0) := by decide +kernel
theorem j137_163 : ax_in 137 163 = some (.iload 4, 2, 0, 0) := by decide +kernel
theorem j137_165 : ax_in 137 165 = some (.invokestatic 158, 3, 98, 1) := by decide +kernel
theorem j137_168 : ax_in 137 168 = some (.invokevirtual 152, 3, 100, 0) := by decide +kernel
theorem j137_171 : ax_in 137 171 = some (.iload_n 3, 1, 0, 0) := by decide +kernel
theorem j137_172 : ax_in 137 172 = some (.ifCond .ne 18, 3, 0, 0) := by decide +kernel
theorem j137_175 : ax_in 137 175 = some (.aload_n 0, 1, 0, 0) := by decide +kernel
theorem j137_176 : ax_in 137 176 = some (.iconst 1, 1, 0, 0) := by decide +kernel
theorem j137_177 : ax_in 137 177 = some (.invokevirtual 164, 3, 102, 0) := by decide +kernel
theorem j137_180 : ax_in 137 180 = some (.aload_n 0, 1, 0, 0) := by decide +kernel
theorem j137_181 : ax_in 137 181 = some (.iconst 4, 1, 0, 0) := by decide +kernel
theorem j137_182 : ax_in 137 182 = some (.iconst (-1), 1, 0, 0) := by decide +kernel
theorem j137_183 : ax_in 137 183 = some (.iconst 0, 1, 0, 0) := by decide +kernel
theorem j137_184 : ax_in 137 184 = some (.invokevirtual 217, 3, 135, 0) := by decide +kernel
theorem j137_187 : ax_in 137 187 = some (.goto 98, 3, 0, 0) := by decide +kernel
theorem j137_190 : ax_in 137 190 = some (.iload_n 3, 1, 0, 0) := by decide +kernel
theorem j137_191 : ax_in 137 191 = some (.iconst 2, 1, 0, 0) := by decide +kernel
theorem j137_192 : ax_in 137 192 = some (.if_icmp .ne 12, 3, 0, 0) := by decide +kernel
theorem j137_195 : ax_in 137 195 = some (.aload_n 0, 1, 0, 0) := by decide +kernel
theorem j137_196 : ax_in 137 196 = some (.iload 4, 2, 0, 0) := by decide +kernel
theorem j137_198 : ax_in 137 198 = some (.invokevirtual 223, 3, 136, 0) := by decide +kernel
theorem j137_201 : ax_in 137 201 = some (.goto 84, 3, 0, 0) := by decide +kernel
theorem j137_204 : ax_in 137 204 = some (.iload_n 3, 1, 0, 0) := by decide +kernel
theorem j137_205 : ax_in 137 205 = some (.iconst 1, 1, 0, 0) := by decide +kernel
theorem j137_206 : ax_in 137 206 = some (.if_icmp .ne 30, 3, 0, 0) := by decide +kernel
theorem j137_209 : ax_in 137 209 = some (.aload_n 0, 1, 0, 0) := by decide +kernel
theorem j137_210 : ax_in 137 210 = some (.iload 4, 2, 0, 0) := by decide +kernel
theorem j137_212 : ax_in 137 212 = some (.invokevirtual 229, 3, 133, 0) := by decide +kernel
theorem j137_215 : ax_in 137 215 = some (.istore 5, 2, 0, 0) := by decide +kernel
theorem j137_217 : ax_in 137 217 = some (.aload_n 0, 1, 0, 0) := by decide +kernel
theorem j137_218 : ax_in 137 218 = some (.getfield 196, 3, 8, 23) := by decide +kernel
theorem j137_221 : ax_in 137 221 = some (.ifCond .ne 12, 3, 0, 0) := by decide +kernel
theorem j137_224 : ax_in 137 224 = some (.aload_n 0, 1, 0, 0) := by decide +kernel
theorem j137_225 : ax_in 137 225 = some (.iconst 2, 1, 0, 0) := by decide +kernel
theorem j137_226 : ax_in 137 226 = some (.iload 4, 2, 0, 0) := by decide +kernel
theorem j137_228 : ax_in 137 228 = some (.iload 5, 2, 0, 0) := by decide +kernel
theorem j137_230 : ax_in 137 230 = some (.invokevirtual 217, 3, 135, 0) := by decide +kernel
theorem j137_233 : ax_in 137 233 = some (.goto 52, 3, 0, 0) := by decide +kernel
theorem j137_236 : ax_in 137 236 = some (.bipush 8, 2, 0, 0) := by decide +kernel
theorem j137_238 : ax_in 137 238 = some (.aload_n 0, 1, 0, 0) := by decide +kernel
theorem j137_239 : ax_in 137 239 = some (.getfield 49, 3, 8, 14) := by decide +kernel
theorem j137_242 : ax_in 137 242 = some (.iconst 1, 1, 0, 0) := by decide +kernel
theorem j137_243 : ax_in 137 243 = some (.iaload, 1, 0, 0) := by decide +kernel
theorem j137_244 : ax_in 137 244 = some (.iadd, 1, 0, 0) := by decide +kernel
theorem j137_245 : ax_in 137 245 = some (.iconst 1, 1, 0, 0) := by decide +kernel
theorem j137_246 : ax_in 137 246 = some (.isub, 1, 0, 0) := by decide +kernel
theorem j137_247 : ax_in 137 247 = some (.istore 5, 2, 0, 0) := by decide +kernel
theorem j137_249 : ax_in 137 249 = some (.aload_n 0, 1, 0, 0) := by decide +kernel
theorem j137_250 : ax_in 137 250 = some (.aload_n 0, 1, 0, 0) := by decide +kernel
theorem j137_251 : ax_in 137 251 = some (.getfield 52, 3, 8, 15) := by decide +kernel
theorem j137_254 : ax_in 137 254 = some (.iload 5, 2, 0, 0) := by decide +kernel
theorem j137_256 : ax_in 137 256 = some (.iaload, 1, 0, 0) := by decide +kernel
theorem j137_257 : ax_in 137 257 = some (.invokevirtual 229, 3, 133, 0) := by decide +kernel
theorem j137_260 : ax_in 137 260 = some (.istore 6, 2, 0, 0) := by decide +kernel
theorem j137_262 : ax_in 137 262 = some (.aload_n 0, 1, 0, 0) := by decide +kernel
theorem j137_263 : ax_in 137 263 = some (.getfield 55, 3, 8, 16) := by decide +kernel
theorem j137_266 : ax_in 137 266 = some (.iload 5, 2, 0, 0) := by decide +kernel
theorem j137_268 : ax_in 137 268 = some (.iconst 1, 1, 0, 0) := by decide +kernel
theorem j137_269 : ax_in 137 269 = some (.bastore, 1, 0, 0) := by decide +kernel
theorem j137_270 : ax_in 137 270 = some (.aload_n 0, 1, 0, 0) := by decide +kernel
theorem j137_271 : ax_in 137 271 = some (.getfield 196, 3, 8, 23) := by decide +kernel
theorem j137_274 : ax_in 137 274 = some (.ifCond .ne 11, 3, 0, 0) := by decide +kernel
theorem j137_277 : ax_in 137 277 = some (.aload_n 0, 1, 0, 0) := by decide +kernel
theorem j137_278 : ax_in 137 278 = some (.iconst 3, 1, 0, 0) := by decide +kernel
theorem j137_279 : ax_in 137 279 = some (.iconst (-1), 1, 0, 0) := by decide +kernel
theorem j137_280 : ax_in 137 280 = some (.iload 6, 2, 0, 0) := by decide +kernel
theorem j137_282 : ax_in 137 282 = some (.invokevirtual 217, 3, 135, 0) := by decide +kernel
theorem j137_285 : ax_in 137 285 = some (.return_, 1, 0, 0) := by decide +kernel
theorem j138_0 : ax_in 138 0 = some (.aload_n 0, 1, 0, 0) := by decide +kernel
theorem j138_1 : ax_in 138 1 = some (.iconst 1, 1, 0, 0) := by decide +kernel
theorem j138_2 : ax_in 138 2 = some (.invokevirtual 171, 3, 86, 0) := by decide +kernel
theorem j138_5 : ax_in 138 5 = some (.aload_n 0, 1, 0, 0) := by decide +kernel
theorem j138_6 : ax_in 138 6 = some (.iconst 0, 1, 0, 0) := by decide +kernel
theorem j138_7 : ax_in 138 7 = some (.putfield 199, 3, 8, 22) := by decide +kernel
theorem j138_10 : ax_in 138 10 = some (.aload_n 0, 1, 0, 0) := by decide +kernel
theorem j138_11 : ax_in 138 11 = some (.iconst 0, 1, 0, 0) := by decide +kernel
theorem j138_12 : ax_in 138 12 = some (.putfield 196, 3, 8, 23) := by decide +kernel
theorem j138_15 : ax_in 138 15 = some (.aload_n 0, 1, 0, 0) := by decide +kernel
theorem j138_16 : ax_in 138 16 = some (.iconst 0, 1, 0, 0) := by decide +kernel
theorem j138_17 : ax_in 138 17 = some (.putfield 214, 3, 8, 24) := by decide +kernel
theorem j138_20 : ax_in 138 20 = some (.aload_n 0, 1, 0, 0) := by decide +kernel
theorem j138_21 : ax_in 138 21 = some (.getfield 59, 3, 8, 17) := by decide +kernel
theorem j138_24 : ax_in 138 24 = some (.iconst 1, 1, 0, 0) := by decide +kernel
theorem j138_25 : ax_in 138 25 = some (.baload, 1, 0, 0) := by decide +kernel
theorem j138_26 : ax_in 138 26 = some (.ifCond .ne 27, 3, 0, 0) := by decide +kernel
theorem j138_29 : ax_in 138 29 = some (.aload_n 0, 1, 0, 0) := by decide +kernel
theorem j138_30 : ax_in 138 30 = some (.getfield 196, 3, 8, 23) := by decide +kernel
theorem j138_33 : ax_in 138 33 = some (.ifCond .ne 20, 3, 0, 0) := by decide +kernel
theorem j138_36 : ax_in 138 36 = some (.aload_n 0, 1, 0, 0) := by decide +kernel
theorem j138_37 : ax_in 138 37 = some (.getfield 214, 3, 8, 24) := by decide +kernel
theorem j138_40 : ax_in 138 40 = some (.sipush 201, 3, 0, 0) := by decide +kernel
theorem j138_43 : ax_in 138 43 = some (.if_icmp .ge 10, 3, 0, 0) := by decide +kernel
theorem j138_46 : ax_in 138 46 = some (.aload_n 0, 1, 0, 0) := by decide +kernel
theorem j138_47 : ax_in 138 47 = some (.invokevirtual 232, 3, 137, 0) := by decide +kernel
theorem j138_50 : ax_in 138 50 = some (.goto (-30), 3, 0, 0) := by decide +kernel
theorem j138_53 : ax_in 138 53 = some (.aload_n 0, 1, 0, 0) := by decide +kernel
theorem j138_54 : ax_in 138 54 = some (.aload_n 0, 1, 0, 0) := by decide +kernel
theorem j138_55 : ax_in 138 55 = some (.getfield 196, 3, 8, 23) := by decide +kernel
theorem j138_58 : ax_in 138 58 = some (.ifCond .eq 7, 3, 0, 0) := by decide +kernel
theorem j138_61 : ax_in 138 61 = some (.iconst 1, 1, 0, 0) := by decide +kernel
theorem j138_62 : ax_in 138 62 = some (.goto 18, 3, 0, 0) := by decide +kernel
theorem j138_65 : ax_in 138 65 = some (.aload_n 0, 1, 0, 0) := by decide +kernel
theorem j138_66 : ax_in 138 66 = some (.getfield 214, 3, 8, 24) := by decide +kernel
theorem j138_69 : ax_in 138 69 = some (.sipush 200, 3, 0, 0) := by decide +kernel
theorem j138_72 : ax_in 138 72 = some (.if_icmp .le 7, 3, 0, 0) := by decide +kernel
theorem j138_75 : ax_in 138 75 = some (.iconst 2, 1, 0, 0) := by decide +kernel
theorem j138_76 : ax_in 138 76 = some (.goto 4, 3, 0, 0) := by decide +kernel
theorem j138_79 : ax_in 138 79 = some (.iconst 0, 1, 0, 0) := by decide +kernel
theorem j138_80 : ax_in 138 80 = some (.putfield 80, 3, 8, 0) := by decide +kernel
theorem j138_83 : ax_in 138 83 = some (.aload_n 0, 1, 0, 0) := by decide +kernel
theorem j138_84 : ax_in 138 84 = some (.aload_n 0, 1, 0, 0) := by decide +kernel
theorem j138_85 : ax_in 138 85 = some (.getfield 80, 3, 8, 0) := by decide +kernel
theorem j138_88 : ax_in 138 88 = some (.ifCond .le 7, 3, 0, 0) := by decide +kernel
theorem j138_91 : ax_in 138 91 = some (.iconst 0, 1, 0, 0) := by decide +kernel
theorem j138_92 : ax_in 138 92 = some (.goto 7, 3, 0, 0) := by decide +kernel
theorem j138_95 : ax_in 138 95 = some (.aload_n 0, 1, 0, 0) := by decide +kernel
theorem j138_96 : ax_in 138 96 = some (.getfield 214, 3, 8, 24) := by decide +kernel
theorem j138_99 : ax_in 138 99 = some (.putfield 214, 3, 8, 24) := by decide +kernel
theorem j138_102 : ax_in 138 102 = some (.aload_n 0, 1, 0, 0) := by decide +kernel
theorem j138_103 : ax_in 138 103 = some (.getfield 214, 3, 8, 24) := by decide +kernel
theorem j138_106 : ax_in 138 106 = some (.ireturn, 1, 0, 0) := by decide +kernel
theorem j139_0 : ax_in 139 0 = some (.aload_n 0, 1, 0, 0) := by decide +kernel
theorem j139_1 : ax_in 139 1 = some (.iconst 0, 1, 0, 0) := by decide +kernel
theorem j139_2 : ax_in 139 2 = some (.putfield 80, 3, 8, 0) := by decide +kernel
theorem j139_5 : ax_in 139 5 = some (.aload_n 0, 1, 0, 0) := by decide +kernel
theorem j139_6 : ax_in 139 6 = some (.getfield 199, 3, 8, 22) := by decide +kernel
theorem j139_9 : ax_in 139 9 = some (.ireturn, 1, 0, 0) := by decide +kernel
theorem j140_0 : ax_in 140 0 = some (.aload_n 0, 1, 0, 0) := by decide +kernel
theorem j140_1 : ax_in 140 1 = some (.iload_n 1, 1, 0, 0) := by decide +kernel
theorem j140_2 : ax_in 140 2 = some (.ifCond .lt 11, 3, 0, 0) := by decide +kernel
theorem j140_5 : ax_in 140 5 = some (.iload_n 1, 1, 0, 0) := by decide +kernel
theorem j140_6 : ax_in 140 6 = some (.aload_n 0, 1, 0, 0) := by decide +kernel
theorem j140_7 : ax_in 140 7 = some (.getfield 214, 3, 8, 24) := by decide +kernel
theorem j140_10 : ax_in 140 10 = some (.if_icmp .lt 7, 3, 0, 0) := by decide +kernel
theorem j140_13 : ax_in 140 13 = some (.iconst 1, 1, 0, 0) := by decide +kernel
theorem j140_14 : ax_in 140 14 = some (.goto 17, 3, 0, 0) := by decide +kernel
theorem j140_17 : ax_in 140 17 = some (.iload_n 2, 1, 0, 0) := by decide +kernel
theorem j140_18 : ax_in 140 18 = some (.ifCond .lt 8, 3, 0, 0) := by decide +kernel
theorem j140_21 : ax_in 140 21 = some (.iload_n 2, 1, 0, 0) := by decide +kernel
theorem j140_22 : ax_in 140 22 = some (.iconst 3, 1, 0, 0) := by decide +kernel
theorem j140_23 : ax_in 140 23 = some (.if_icmp .le 7, 3, 0, 0) := by decide +kernel
theorem j140_26 : ax_in 140 26 = some (.iconst 2, 1, 0, 0) := by decide +kernel
theorem j140_27 : ax_in 140 27 = some (.goto 4, 3, 0, 0) := by decide +kernel
theorem j140_30 : ax_in 140 30 = some (.iconst 0, 1, 0, 0) := by decide +kernel
theorem j140_31 : ax_in 140 31 = some (.putfield 80, 3, 8, 0) := by decide +kernel
theorem j140_34 : ax_in 140 34 = some (.aload_n 0, 1, 0, 0) := by decide +kernel
theorem j140_35 : ax_in 140 35 = some (.getfield 80, 3, 8, 0) := by decide +kernel
theorem j140_38 : ax_in 140 38 = some (.ifCond .le 5, 3, 0, 0) := by decide +kernel
theorem j140_41 : ax_in 140 41 = some (.iconst 0, 1, 0, 0) := by decide +kernel
theorem j140_42 : ax_in 140 42 = some (.ireturn, 1, 0, 0) := by decide +kernel
theorem j140_43 : ax_in 140 43 = some (.iload_n 2, 1, 0, 0) := by decide +kernel
theorem j140_44 : ax_in 140 44 = some (.ifCond .ne 12, 3, 0, 0) := by decide +kernel
theorem j140_47 : ax_in 140 47 = some (.aload_n 0, 1, 0, 0) := by decide +kernel
theorem j140_48 : ax_in 140 48 = some (.getfield 68, 3, 8, 25) := by decide +kernel
theorem j140_51 : ax_in 140 51 = some (.iload_n 1, 1, 0, 0) := by decide +kernel
theorem j140_52 : ax_in 140 52 = some (.iaload, 1, 0, 0) := by decide +kernel
theorem j140_53 : ax_in 140 53 = some (.goto 37, 3, 0, 0) := by decide +kernel
theorem j140_56 : ax_in 140 56 = some (.iload_n 2, 1, 0, 0) := by decide +kernel
theorem j140_57 : ax_in 140 57 = some (.iconst 1, 1, 0, 0) := by decide +kernel
theorem j140_58 : ax_in 140 58 = some (.if_icmp .ne 12, 3, 0, 0) := by decide +kernel
theorem j140_61 : ax_in 140 61 = some (.aload_n 0, 1, 0, 0) := by decide +kernel
theorem j140_62 : ax_in 140 62 = some (.getfield 71, 3, 8, 26) := by decide +kernel
theorem j140_65 : ax_in 140 65 = some (.iload_n 1, 1, 0, 0) := by decide +kernel
theorem j140_66 : ax_in 140 66 = some (.iaload, 1, 0, 0) := by decide +kernel
theorem j140_67 : ax_in 140 67 = some (.goto 23, 3, 0, 0) := by decide +kernel
theorem j140_70 : ax_in 140 70 = some (.iload_n 2, 1, 0, 0) := by decide +kernel
theorem j140_71 : ax_in 140 71 = some (.iconst 2, 1, 0, 0) := by decide +kernel
theorem j140_72 : ax_in 140 72 = some (.if_icmp .ne 12, 3, 0, 0) := by decide +kernel
theorem j140_75 : ax_in 140 75 = some (.aload_n 0, 1, 0, 0) := by decide +kernel
theorem j140_76 : ax_in 140 76 = some (.getfield 74, 3, 8, 27) := by decide +kernel
theorem j140_79 : ax_in 140 79 = some (.iload_n 1, 1, 0, 0) := by decide +kernel
theorem j140_80 : ax_in 140 80 = some (.iaload, 1, 0, 0) := by decide +kernel
theorem j140_81 : ax_in 140 81 = some (.goto 9, 3, 0, 0) := by decide +kernel
theorem j140_84 : ax_in 140 84 = some (.aload_n 0, 1, 0, 0) := by decide +kernel
theorem j140_85 : ax_in 140 85 = some (.getfield 77, 3, 8, 28) := by decide +kernel
theorem j140_88 : ax_in 140 88 = some (.iload_n 1, 1, 0, 0) := by decide +kernel
theorem j140_89 : ax_in 140 89 = some (.iaload, 1, 0, 0) := by decide +kernel
theorem j140_90 : ax_in 140 90 = some (.ireturn, 1, 0, 0) := by decide +kernel
theorem j141_0 : ax_in 141 0 = some (.aload_n 0, 1, 0, 0) := by decide +kernel
theorem j141_1 : ax_in 141 1 = some (.invokevirtual 174, 3, 116, 0) := by decide +kernel
theorem j141_4 : ax_in 141 4 = some (.aload_n 0, 1, 0, 0) := by decide +kernel
theorem j141_5 : ax_in 141 5 = some (.aload_n 0, 1, 0, 0) := by decide +kernel
theorem j141_6 : ax_in 141 6 = some (.getfield 214, 3, 8, 24) := by decide +kernel
theorem j141_9 : ax_in 141 9 = some (.ifCond .ne 7, 3, 0, 0) := by decide +kernel
theorem j141_12 : ax_in 141 12 = some (.iconst 1, 1, 0, 0) := by decide +kernel
theorem j141_13 : ax_in 141 13 = some (.goto 4, 3, 0, 0) := by decide +kernel
theorem j141_16 : ax_in 141 16 = some (.iconst 0, 1, 0, 0) := by decide +kernel
theorem j141_17 : ax_in 141 17 = some (.putfield 80, 3, 8, 0) := by decide +kernel
theorem j141_20 : ax_in 141 20 = some (.aload_n 0, 1, 0, 0) := by decide +kernel
theorem j141_21 : ax_in 141 21 = some (.getfield 80, 3, 8, 0) := by decide +kernel
theorem j141_24 : ax_in 141 24 = some (.ifCond .le 5, 3, 0, 0) := by decide +kernel
theorem j141_27 : ax_in 141 27 = some (.iconst 0, 1, 0, 0) := by decide +kernel
theorem j141_28 : ax_in 141 28 = some (.ireturn, 1, 0, 0) := by decide +kernel
theorem j141_29 : ax_in 141 29 = some (.aload_n 0, 1, 0, 0) := by decide +kernel
theorem j141_30 : ax_in 141 30 = some (.iconst 0, 1, 0, 0) := by decide +kernel
theorem j141_31 : ax_in 141 31 = some (.invokevirtual 171, 3, 86, 0) := by decide +kernel
theorem j141_34 : ax_in 141 34 = some (.aload_n 0, 1, 0, 0) := by decide +kernel
theorem j141_35 : ax_in 141 35 = some (.iconst 0, 1, 0, 0) := by decide +kernel
theorem j141_36 : ax_in 141 36 = some (.putfield 92, 3, 8, 19) := by decide +kernel
theorem j141_39 : ax_in 141 39 = some (.iconst 0, 1, 0, 0) := by decide +kernel
theorem j141_40 : ax_in 141 40 = some (.istore_n 1, 1, 0, 0) := by decide +kernel
theorem j141_41 : ax_in 141 41 = some (.iconst 0, 1, 0, 0) := by decide +kernel
theorem j141_42 : ax_in 141 42 = some (.istore_n 2, 1, 0, 0) := by decide +kernel
theorem j141_43 : ax_in 141 43 = some (.iload_n 2, 1, 0, 0) := by decide +kernel
theorem j141_44 : ax_in 141 44 = some (.aload_n 0, 1, 0, 0) := by decide +kernel
theorem j141_45 : ax_in 141 45 = some (.getfield 214, 3, 8, 24) := by decide +kernel
theorem j141_48 : ax_in 141 48 = some (.if_icmp .ge 97, 3, 0, 0) := by decide +kernel
theorem j141_51 : ax_in 141 51 = some (.iload_n 1, 1, 0, 0) := by decide +kernel
theorem j141_52 : ax_in 141 52 = some (.ifCond .ne 93, 3, 0, 0) := by decide +kernel
theorem j141_55 : ax_in 141 55 = some (.aload_n 0, 1, 0, 0) := by decide +kernel
theorem j141_56 : ax_in 141 56 = some (.getfield 68, 3, 8, 25) := by decide +kernel
theorem j141_59 : ax_in 141 59 = some (.iload_n 2, 1, 0, 0) := by decide +kernel
theorem j141_60 : ax_in 141 60 = some (.iaload, 1, 0, 0) := by decide +kernel
theorem j141_61 : ax_in 141 61 = some (.istore_n 3, 1, 0, 0) := by decide +kernel
theorem j141_62 : ax_in 141 62 = some (.iload_n 3, 1, 0, 0) := by decide +kernel
theorem j141_63 : ax_in 141 63 = some (.iconst 1, 1, 0, 0) := by decide +kernel
theorem j141_64 : ax_in 141 64 = some (.if_icmp .ne 22, 3, 0, 0) := by decide +kernel
theorem j141_67 : ax_in 141 67 = some (.aload_n 0, 1, 0, 0) := by decide +kernel
theorem j141_68 : ax_in 141 68 = some (.aload_n 0, 1, 0, 0) := by decide +kernel
theorem j141_69 : ax_in 141 69 = some (.getfield 71, 3, 8, 26) := by decide +kernel
theorem j141_72 : ax_in 141 72 = some (.iload_n 2, 1, 0, 0) := by decide +kernel
theorem j141_73 : ax_in 141 73 = some (.iaload, 1, 0, 0) := by decide +kernel
theorem j141_74 : ax_in 141 74 = some (.aload_n 0, 1, 0, 0) := by decide +kernel
theorem j141_75 : ax_in 141 75 = some (.getfield 74, 3, 8, 27) := by decide +kernel
theorem j141_78 : ax_in 141 78 = some (.iload_n 2, 1, 0, 0) := by decide +kernel
theorem j141_79 : ax_in 141 79 = some (.iaload, 1, 0, 0) := by decide +kernel
theorem j141_80 : ax_in 141 80 = some (.invokevirtual 180, 3, 112, 0) := by decide +kernel
theorem j141_83 : ax_in 141 83 = some (.goto 55, 3, 0, 0) := by decide +kernel
theorem j141_86 : ax_in 141 86 = some (.iload_n 3, 1, 0, 0) := by decide +kernel
theorem j141_87 : ax_in 141 87 = some (.iconst 2, 1, 0, 0) := by decide +kernel
theorem j141_88 : ax_in 141 88 = some (.if_icmp .ne 28, 3, 0, 0) := by decide +kernel
theorem j141_91 : ax_in 141 91 = some (.aload_n 0, 1, 0, 0) := by decide +kernel
theorem j141_92 : ax_in 141 92 = some (.aload_n 0, 1, 0, 0) := by decide +kernel
theorem j141_93 : ax_in 141 93 = some (.getfield 71, 3, 8, 26) := by decide +kernel
theorem j141_96 : ax_in 141 96 = some (.iload_n 2, 1, 0, 0) := by decide +kernel
theorem j141_97 : ax_in 141 97 = some (.iaload, 1, 0, 0) := by decide +kernel
theorem j141_98 : ax_in 141 98 = some (.aload_n 0, 1, 0, 0) := by decide +kernel
theorem j141_99 : ax_in 141 99 = some (.getfield 74, 3, 8, 27) := by decide +kernel
theorem j141_102 : ax_in 141 102 = some (.iload_n 2, 1, 0, 0) := by decide +kernel
theorem j141_103 : ax_in 141 103 = some (.iaload, 1, 0, 0) := by decide +kernel
theorem j141_104 : ax_in 141 104 = some (.aload_n 0, 1, 0, 0) := by decide +kernel
theorem j141_105 : ax_in 141 105 = some (.getfield 77, 3, 8, 28) := by decide +kernel
theorem j141_108 : ax_in 141 108 = some (.iload_n 2, 1, 0, 0) := by decide +kernel
theorem j141_109 : ax_in 141 109 = some (.iaload, 1, 0, 0) := by decide +kernel
theorem j141_110 : ax_in 141 110 = some (.invokevirtual 183, 3, 113, 0) := by decide +kernel
theorem j141_113 : ax_in 141 113 = some (.goto 25, 3, 0, 0) := by decide +kernel
theorem j141_116 : ax_in 141 116 = some (.iload_n 3, 1, 0, 0) := by decide +kernel
theorem j141_117 : ax_in 141 117 = some (.iconst 3, 1, 0, 0) := by decide +kernel
theorem j141_118 : ax_in 141 118 = some (.if_icmp .ne 16, 3, 0, 0) := by decide +kernel
theorem j141_121 : ax_in 141 121 = some (.aload_n 0, 1, 0, 0) := by decide +kernel
theorem j141_122 : ax_in 141 122 = some (.aload_n 0, 1, 0, 0) := by decide +kernel
theorem j141_123 : ax_in 141 123 = some (.getfield 77, 3, 8, 28) := by decide +kernel
theorem j141_126 : ax_in 141 126 = some (.iload_n 2, 1, 0, 0) := by decide +kernel
theorem j141_127 : ax_in 141 127 = some (.iaload, 1, 0, 0) := by decide +kernel
theorem j141_128 : ax_in 141 128 = some (.invokevirtual 186, 3, 114, 0) := by decide +kernel
theorem j141_131 : ax_in 141 131 = some (.goto 7, 3, 0, 0) := by decide +kernel
theorem j141_134 : ax_in 141 134 = some (.aload_n 0, 1, 0, 0) := by decide +kernel
theorem j141_135 : ax_in 141 135 = some (.invokevirtual 189, 3, 115, 0) := by decide +kernel
theorem j141_138 : ax_in 141 138 = some (.istore_n 1, 1, 0, 0) := by decide +kernel
theorem j141_139 : ax_in 141 139 = some (.iinc 2 1, 3, 0, 0) := by decide +kernel
theorem j141_142 : ax_in 141 142 = some (.goto (-99), 3, 0, 0) := by decide +kernel
theorem j141_145 : ax_in 141 145 = some (.iload_n 1, 1, 0, 0) := by decide +kernel
theorem j141_146 : ax_in 141 146 = some (.ifCond .le 20, 3, 0, 0) := by decide +kernel
theorem j141_149 : ax_in 141 149 = some (.aload_n 0, 1, 0, 0) := by decide +kernel
theorem j141_150 : ax_in 141 150 = some (.iconst 0, 1, 0, 0) := by decide +kernel
theorem j141_151 : ax_in 141 151 = some (.invokevirtual 171, 3, 86, 0) := by decide +kernel
theorem j141_154 : ax_in 141 154 = some (.aload_n 0, 1, 0, 0) := by decide +kernel
theorem j141_155 : ax_in 141 155 = some (.iconst 0, 1, 0, 0) := by decide +kernel
theorem j141_156 : ax_in 141 156 = some (.putfield 92, 3, 8, 19) := by decide +kernel
theorem j141_159 : ax_in 141 159 = some (.aload_n 0, 1, 0, 0) := by decide +kernel
theorem j141_160 : ax_in 141 160 = some (.iconst 2, 1, 0, 0) := by decide +kernel
theorem j141_161 : ax_in 141 161 = some (.putfield 80, 3, 8, 0) := by decide +kernel
theorem j141_164 : ax_in 141 164 = some (.iconst 0, 1, 0, 0) := by decide +kernel
theorem j141_165 : ax_in 141 165 = some (.ireturn, 1, 0, 0) := by decide +kernel
theorem j141_166 : ax_in 141 166 = some (.aload_n 0, 1, 0, 0) := by decide +kernel
theorem j141_167 : ax_in 141 167 = some (.getfield 92, 3, 8, 19) := by decide +kernel
theorem j141_170 : ax_in 141 170 = some (.ireturn, 1, 0, 0) := by decide +kernel
