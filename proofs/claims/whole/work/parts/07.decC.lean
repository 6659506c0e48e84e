theorem dX8_init_0 : decode cX8_init 0 = .ok (.aload_n 0, 1) := by decide +kernel
theorem dX8_init_1 : decode cX8_init 1 = .ok (.invokespecial 1, 3) := by decide +kernel
theorem dX8_init_4 : decode cX8_init 4 = .ok (.aload_n 0, 1) := by decide +kernel
theorem dX8_init_5 : decode cX8_init 5 = .ok (.bipush 100, 2) := by decide +kernel
theorem dX8_init_7 : decode cX8_init 7 = .ok (.newarray .int, 2) := by decide +kernel
theorem dX8_init_9 : decode cX8_init 9 = .ok (.putfield 7, 3) := by decide +kernel
theorem dX8_init_12 : decode cX8_init 12 = .ok (.aload_n 0, 1) := by decide +kernel
theorem dX8_init_13 : decode cX8_init 13 = .ok (.bipush 42, 2) := by decide +kernel
theorem dX8_init_15 : decode cX8_init 15 = .ok (.newarray .int, 2) := by decide +kernel
theorem dX8_init_17 : decode cX8_init 17 = .ok (.putfield 13, 3) := by decide +kernel
theorem dX8_init_20 : decode cX8_init 20 = .ok (.aload_n 0, 1) := by decide +kernel
theorem dX8_init_21 : decode cX8_init 21 = .ok (.bipush 42, 2) := by decide +kernel
theorem dX8_init_23 : decode cX8_init 23 = .ok (.newarray .int, 2) := by decide +kernel
theorem dX8_init_25 : decode cX8_init 25 = .ok (.putfield 16, 3) := by decide +kernel
theorem dX8_init_28 : decode cX8_init 28 = .ok (.aload_n 0, 1) := by decide +kernel
theorem dX8_init_29 : decode cX8_init 29 = .ok (.bipush 30, 2) := by decide +kernel
theorem dX8_init_31 : decode cX8_init 31 = .ok (.newarray .int, 2) := by decide +kernel
theorem dX8_init_33 : decode cX8_init 33 = .ok (.putfield 19, 3) := by decide +kernel
theorem dX8_init_36 : decode cX8_init 36 = .ok (.aload_n 0, 1) := by decide +kernel
theorem dX8_init_37 : decode cX8_init 37 = .ok (.sipush 300, 3) := by decide +kernel
theorem dX8_init_40 : decode cX8_init 40 = .ok (.newarray .int, 2) := by decide +kernel
theorem dX8_init_42 : decode cX8_init 42 = .ok (.putfield 22, 3) := by decide +kernel
theorem dX8_init_45 : decode cX8_init 45 = .ok (.aload_n 0, 1) := by decide +kernel
theorem dX8_init_46 : decode cX8_init 46 = .ok (.bipush 60, 2) := by decide +kernel
theorem dX8_init_48 : decode cX8_init 48 = .ok (.newarray .int, 2) := by decide +kernel
theorem dX8_init_50 : decode cX8_init 50 = .ok (.putfield 25, 3) := by decide +kernel
theorem dX8_init_53 : decode cX8_init 53 = .ok (.aload_n 0, 1) := by decide +kernel
theorem dX8_init_54 : decode cX8_init 54 = .ok (.iconst 2, 1) := by decide +kernel
theorem dX8_init_55 : decode cX8_init 55 = .ok (.newarray .boolean, 2) := by decide +kernel
theorem dX8_init_57 : decode cX8_init 57 = .ok (.putfield 28, 3) := by decide +kernel
theorem dX8_init_60 : decode cX8_init 60 = .ok (.aload_n 0, 1) := by decide +kernel
theorem dX8_init_61 : decode cX8_init 61 = .ok (.bipush 6, 2) := by decide +kernel
theorem dX8_init_63 : decode cX8_init 63 = .ok (.newarray .int, 2) := by decide +kernel
theorem dX8_init_65 : decode cX8_init 65 = .ok (.putfield 32, 3) := by decide +kernel
theorem dX8_init_68 : decode cX8_init 68 = .ok (.aload_n 0, 1) := by decide +kernel
theorem dX8_init_69 : decode cX8_init 69 = .ok (.bipush 6, 2) := by decide +kernel
theorem dX8_init_71 : decode cX8_init 71 = .ok (.newarray .int, 2) := by decide +kernel
theorem dX8_init_73 : decode cX8_init 73 = .ok (.putfield 35, 3) := by decide +kernel
theorem dX8_init_76 : decode cX8_init 76 = .ok (.aload_n 0, 1) := by decide +kernel
theorem dX8_init_77 : decode cX8_init 77 = .ok (.bipush 6, 2) := by decide +kernel
theorem dX8_init_79 : decode cX8_init 79 = .ok (.newarray .int, 2) := by decide +kernel
theorem dX8_init_81 : decode cX8_init 81 = .ok (.putfield 38, 3) := by decide +kernel
theorem dX8_init_84 : decode cX8_init 84 = .ok (.aload_n 0, 1) := by decide +kernel
theorem dX8_init_85 : decode cX8_init 85 = .ok (.bipush 8, 2) := by decide +kernel
theorem dX8_init_87 : decode cX8_init 87 = .ok (.newarray .int, 2) := by decide +kernel
theorem dX8_init_89 : decode cX8_init 89 = .ok (.putfield 41, 3) := by decide +kernel
theorem dX8_init_92 : decode cX8_init 92 = .ok (.aload_n 0, 1) := by decide +kernel
theorem dX8_init_93 : decode cX8_init 93 = .ok (.bipush 8, 2) := by decide +kernel
theorem dX8_init_95 : decode cX8_init 95 = .ok (.newarray .int, 2) := by decide +kernel
theorem dX8_init_97 : decode cX8_init 97 = .ok (.putfield 44, 3) := by decide +kernel
theorem dX8_init_100 : decode cX8_init 100 = .ok (.aload_n 0, 1) := by decide +kernel
theorem dX8_init_101 : decode cX8_init 101 = .ok (.bipush 8, 2) := by decide +kernel
theorem dX8_init_103 : decode cX8_init 103 = .ok (.newarray .int, 2) := by decide +kernel
theorem dX8_init_105 : decode cX8_init 105 = .ok (.putfield 47, 3) := by decide +kernel
theorem dX8_init_108 : decode cX8_init 108 = .ok (.aload_n 0, 1) := by decide +kernel
theorem dX8_init_109 : decode cX8_init 109 = .ok (.iconst 3, 1) := by decide +kernel
theorem dX8_init_110 : decode cX8_init 110 = .ok (.newarray .int, 2) := by decide +kernel
theorem dX8_init_112 : decode cX8_init 112 = .ok (.putfield 50, 3) := by decide +kernel
theorem dX8_init_115 : decode cX8_init 115 = .ok (.aload_n 0, 1) := by decide +kernel
theorem dX8_init_116 : decode cX8_init 116 = .ok (.invokevirtual 53, 3) := by decide +kernel
theorem dX8_init_119 : decode cX8_init 119 = .ok (.aload_n 0, 1) := by decide +kernel
theorem dX8_init_120 : decode cX8_init 120 = .ok (.invokevirtual 56, 3) := by decide +kernel
theorem dX8_init_123 : decode cX8_init 123 = .ok (.return_, 1) := by decide +kernel
theorem dX8_in_0 : decode cX8_in 0 = .ok (.iload_n 0, 1) := by decide +kernel
theorem dX8_in_1 : decode cX8_in 1 = .ok (.iload_n 1, 1) := by decide +kernel
theorem dX8_in_2 : decode cX8_in 2 = .ok (.if_icmp .lt 12, 3) := by decide +kernel
theorem dX8_in_5 : decode cX8_in 5 = .ok (.iload_n 0, 1) := by decide +kernel
theorem dX8_in_6 : decode cX8_in 6 = .ok (.iload_n 2, 1) := by decide +kernel
theorem dX8_in_7 : decode cX8_in 7 = .ok (.if_icmp .gt 7, 3) := by decide +kernel
theorem dX8_in_10 : decode cX8_in 10 = .ok (.iconst 1, 1) := by decide +kernel
theorem dX8_in_11 : decode cX8_in 11 = .ok (.goto 4, 3) := by decide +kernel
theorem dX8_in_14 : decode cX8_in 14 = .ok (.iconst 0, 1) := by decide +kernel
theorem dX8_in_15 : decode cX8_in 15 = .ok (.ireturn, 1) := by decide +kernel
theorem dX8_has_0 : decode cX8_has 0 = .ok (.iload_n 0, 1) := by decide +kernel
theorem dX8_has_1 : decode cX8_has 1 = .ok (.iload_n 1, 1) := by decide +kernel
theorem dX8_has_2 : decode cX8_has 2 = .ok (.ishr, 1) := by decide +kernel
theorem dX8_has_3 : decode cX8_has 3 = .ok (.iconst 1, 1) := by decide +kernel
theorem dX8_has_4 : decode cX8_has 4 = .ok (.iand, 1) := by decide +kernel
theorem dX8_has_5 : decode cX8_has 5 = .ok (.iconst 1, 1) := by decide +kernel
theorem dX8_has_6 : decode cX8_has 6 = .ok (.if_icmp .ne 7, 3) := by decide +kernel
theorem dX8_has_9 : decode cX8_has 9 = .ok (.iconst 1, 1) := by decide +kernel
theorem dX8_has_10 : decode cX8_has 10 = .ok (.goto 4, 3) := by decide +kernel
theorem dX8_has_13 : decode cX8_has 13 = .ok (.iconst 0, 1) := by decide +kernel
theorem dX8_has_14 : decode cX8_has 14 = .ok (.ireturn, 1) := by decide +kernel
theorem dX8_ones_0 : decode cX8_ones 0 = .ok (.iconst 0, 1) := by decide +kernel
theorem dX8_ones_1 : decode cX8_ones 1 = .ok (.istore_n 1, 1) := by decide +kernel
theorem dX8_ones_2 : decode cX8_ones 2 = .ok (.iload_n 0, 1) := by decide +kernel
theorem dX8_ones_3 : decode cX8_ones 3 = .ok (.istore_n 2, 1) := by decide +kernel
theorem dX8_ones_4 : decode cX8_ones 4 = .ok (.iload_n 2, 1) := by decide +kernel
theorem dX8_ones_5 : decode cX8_ones 5 = .ok (.ifCond .eq 15, 3) := by decide +kernel
theorem dX8_ones_8 : decode cX8_ones 8 = .ok (.iinc 1 1, 3) := by decide +kernel
theorem dX8_ones_11 : decode cX8_ones 11 = .ok (.iload_n 2, 1) := by decide +kernel
theorem dX8_ones_12 : decode cX8_ones 12 = .ok (.iload_n 2, 1) := by decide +kernel
theorem dX8_ones_13 : decode cX8_ones 13 = .ok (.iconst 1, 1) := by decide +kernel
theorem dX8_ones_14 : decode cX8_ones 14 = .ok (.isub, 1) := by decide +kernel
theorem dX8_ones_15 : decode cX8_ones 15 = .ok (.iand, 1) := by decide +kernel
theorem dX8_ones_16 : decode cX8_ones 16 = .ok (.istore_n 2, 1) := by decide +kernel
theorem dX8_ones_17 : decode cX8_ones 17 = .ok (.goto (-13), 3) := by decide +kernel
theorem dX8_ones_20 : decode cX8_ones 20 = .ok (.iload_n 1, 1) := by decide +kernel
theorem dX8_ones_21 : decode cX8_ones 21 = .ok (.ireturn, 1) := by decide +kernel
theorem dX8_type_0 : decode cX8_type 0 = .ok (.aload_n 0, 1) := by decide +kernel
theorem dX8_type_1 : decode cX8_type 1 = .ok (.iconst 0, 1) := by decide +kernel
theorem dX8_type_2 : decode cX8_type 2 = .ok (.putfield 59, 3) := by decide +kernel
theorem dX8_type_5 : decode cX8_type 5 = .ok (.iload_n 1, 1) := by decide +kernel
theorem dX8_type_6 : decode cX8_type 6 = .ok (.iconst 0, 1) := by decide +kernel
theorem dX8_type_7 : decode cX8_type 7 = .ok (.sipush 255, 3) := by decide +kernel
theorem dX8_type_10 : decode cX8_type 10 = .ok (.invokestatic 63, 3) := by decide +kernel
theorem dX8_type_13 : decode cX8_type 13 = .ok (.ifCond .ne 5, 3) := by decide +kernel
theorem dX8_type_16 : decode cX8_type 16 = .ok (.iconst (-1), 1) := by decide +kernel
theorem dX8_type_17 : decode cX8_type 17 = .ok (.ireturn, 1) := by decide +kernel
theorem dX8_type_18 : decode cX8_type 18 = .ok (.aload_n 0, 1) := by decide +kernel
theorem dX8_type_19 : decode cX8_type 19 = .ok (.getfield 67, 3) := by decide +kernel
theorem dX8_type_22 : decode cX8_type 22 = .ok (.bipush 100, 2) := by decide +kernel
theorem dX8_type_24 : decode cX8_type 24 = .ok (.if_icmp .ne 6, 3) := by decide +kernel
theorem dX8_type_27 : decode cX8_type 27 = .ok (.bipush (-3), 2) := by decide +kernel
theorem dX8_type_29 : decode cX8_type 29 = .ok (.ireturn, 1) := by decide +kernel
theorem dX8_type_30 : decode cX8_type 30 = .ok (.aload_n 0, 1) := by decide +kernel
theorem dX8_type_31 : decode cX8_type 31 = .ok (.getfield 7, 3) := by decide +kernel
theorem dX8_type_34 : decode cX8_type 34 = .ok (.aload_n 0, 1) := by decide +kernel
theorem dX8_type_35 : decode cX8_type 35 = .ok (.getfield 67, 3) := by decide +kernel
theorem dX8_type_38 : decode cX8_type 38 = .ok (.iload_n 1, 1) := by decide +kernel
theorem dX8_type_39 : decode cX8_type 39 = .ok (.iastore, 1) := by decide +kernel
theorem dX8_type_40 : decode cX8_type 40 = .ok (.aload_n 0, 1) := by decide +kernel
theorem dX8_type_41 : decode cX8_type 41 = .ok (.dup, 1) := by decide +kernel
theorem dX8_type_42 : decode cX8_type 42 = .ok (.getfield 67, 3) := by decide +kernel
theorem dX8_type_45 : decode cX8_type 45 = .ok (.iconst 1, 1) := by decide +kernel
theorem dX8_type_46 : decode cX8_type 46 = .ok (.iadd, 1) := by decide +kernel
theorem dX8_type_47 : decode cX8_type 47 = .ok (.putfield 67, 3) := by decide +kernel
theorem dX8_type_50 : decode cX8_type 50 = .ok (.aload_n 0, 1) := by decide +kernel
theorem dX8_type_51 : decode cX8_type 51 = .ok (.getfield 67, 3) := by decide +kernel
theorem dX8_type_54 : decode cX8_type 54 = .ok (.ireturn, 1) := by decide +kernel
theorem dX8_clear_0 : decode cX8_clear 0 = .ok (.aload_n 0, 1) := by decide +kernel
theorem dX8_clear_1 : decode cX8_clear 1 = .ok (.iconst 0, 1) := by decide +kernel
theorem dX8_clear_2 : decode cX8_clear 2 = .ok (.putfield 59, 3) := by decide +kernel
theorem dX8_clear_5 : decode cX8_clear 5 = .ok (.aload_n 0, 1) := by decide +kernel
theorem dX8_clear_6 : decode cX8_clear 6 = .ok (.getfield 67, 3) := by decide +kernel
theorem dX8_clear_9 : decode cX8_clear 9 = .ok (.istore_n 1, 1) := by decide +kernel
theorem dX8_clear_10 : decode cX8_clear 10 = .ok (.aload_n 0, 1) := by decide +kernel
theorem dX8_clear_11 : decode cX8_clear 11 = .ok (.iconst 0, 1) := by decide +kernel
theorem dX8_clear_12 : decode cX8_clear 12 = .ok (.putfield 67, 3) := by decide +kernel
theorem dX8_clear_15 : decode cX8_clear 15 = .ok (.iload_n 1, 1) := by decide +kernel
theorem dX8_clear_16 : decode cX8_clear 16 = .ok (.ireturn, 1) := by decide +kernel
theorem dX8_letterAt_0 : decode cX8_letterAt 0 = .ok (.iload_n 1, 1) := by decide +kernel
theorem dX8_letterAt_1 : decode cX8_letterAt 1 = .ok (.aload_n 0, 1) := by decide +kernel
theorem dX8_letterAt_2 : decode cX8_letterAt 2 = .ok (.getfield 67, 3) := by decide +kernel
theorem dX8_letterAt_5 : decode cX8_letterAt 5 = .ok (.if_icmp .ge 12, 3) := by decide +kernel
theorem dX8_letterAt_8 : decode cX8_letterAt 8 = .ok (.aload_n 0, 1) := by decide +kernel
theorem dX8_letterAt_9 : decode cX8_letterAt 9 = .ok (.getfield 7, 3) := by decide +kernel
theorem dX8_letterAt_12 : decode cX8_letterAt 12 = .ok (.iload_n 1, 1) := by decide +kernel
theorem dX8_letterAt_13 : decode cX8_letterAt 13 = .ok (.iaload, 1) := by decide +kernel
theorem dX8_letterAt_14 : decode cX8_letterAt 14 = .ok (.goto 4, 3) := by decide +kernel
theorem dX8_letterAt_17 : decode cX8_letterAt 17 = .ok (.iconst (-1), 1) := by decide +kernel
theorem dX8_letterAt_18 : decode cX8_letterAt 18 = .ok (.ireturn, 1) := by decide +kernel
theorem dX8_isLetter_0 : decode cX8_isLetter 0 = .ok (.iload_n 0, 1) := by decide +kernel
theorem dX8_isLetter_1 : decode cX8_isLetter 1 = .ok (.bipush 110, 2) := by decide +kernel
theorem dX8_isLetter_3 : decode cX8_isLetter 3 = .ok (.if_icmp .eq 33, 3) := by decide +kernel
theorem dX8_isLetter_6 : decode cX8_isLetter 6 = .ok (.iload_n 0, 1) := by decide +kernel
theorem dX8_isLetter_7 : decode cX8_isLetter 7 = .ok (.bipush 111, 2) := by decide +kernel
theorem dX8_isLetter_9 : decode cX8_isLetter 9 = .ok (.if_icmp .eq 27, 3) := by decide +kernel
theorem dX8_isLetter_12 : decode cX8_isLetter 12 = .ok (.iload_n 0, 1) := by decide +kernel
theorem dX8_isLetter_13 : decode cX8_isLetter 13 = .ok (.bipush 99, 2) := by decide +kernel
theorem dX8_isLetter_15 : decode cX8_isLetter 15 = .ok (.if_icmp .eq 21, 3) := by decide +kernel
theorem dX8_isLetter_18 : decode cX8_isLetter 18 = .ok (.iload_n 0, 1) := by decide +kernel
theorem dX8_isLetter_19 : decode cX8_isLetter 19 = .ok (.bipush 119, 2) := by decide +kernel
theorem dX8_isLetter_21 : decode cX8_isLetter 21 = .ok (.if_icmp .eq 15, 3) := by decide +kernel
theorem dX8_isLetter_24 : decode cX8_isLetter 24 = .ok (.iload_n 0, 1) := by decide +kernel
theorem dX8_isLetter_25 : decode cX8_isLetter 25 = .ok (.bipush 100, 2) := by decide +kernel
theorem dX8_isLetter_27 : decode cX8_isLetter 27 = .ok (.if_icmp .eq 9, 3) := by decide +kernel
theorem dX8_isLetter_30 : decode cX8_isLetter 30 = .ok (.iload_n 0, 1) := by decide +kernel
theorem dX8_isLetter_31 : decode cX8_isLetter 31 = .ok (.bipush 108, 2) := by decide +kernel
theorem dX8_isLetter_33 : decode cX8_isLetter 33 = .ok (.if_icmp .ne 7, 3) := by decide +kernel
theorem dX8_isLetter_36 : decode cX8_isLetter 36 = .ok (.iconst 1, 1) := by decide +kernel
theorem dX8_isLetter_37 : decode cX8_isLetter 37 = .ok (.goto 4, 3) := by decide +kernel
theorem dX8_isLetter_40 : decode cX8_isLetter 40 = .ok (.iconst 0, 1) := by decide +kernel
theorem dX8_isLetter_41 : decode cX8_isLetter 41 = .ok (.ireturn, 1) := by decide +kernel
theorem dX8_advances_0 : decode cX8_advances 0 = .ok (.aload_n 0, 1) := by decide +kernel
theorem dX8_advances_1 : decode cX8_advances 1 = .ok (.aload_n 0, 1) := by decide +kernel
theorem dX8_advances_2 : decode cX8_advances 2 = .ok (.getfield 70, 3) := by decide +kernel
theorem dX8_advances_5 : decode cX8_advances 5 = .ok (.invokevirtual 73, 3) := by decide +kernel
theorem dX8_advances_8 : decode cX8_advances 8 = .ok (.bipush 32, 2) := by decide +kernel
theorem dX8_advances_10 : decode cX8_advances 10 = .ok (.if_icmp .ne 16, 3) := by decide +kernel
theorem dX8_advances_13 : decode cX8_advances 13 = .ok (.aload_n 0, 1) := by decide +kernel
theorem dX8_advances_14 : decode cX8_advances 14 = .ok (.dup, 1) := by decide +kernel
theorem dX8_advances_15 : decode cX8_advances 15 = .ok (.getfield 70, 3) := by decide +kernel
theorem dX8_advances_18 : decode cX8_advances 18 = .ok (.iconst 1, 1) := by decide +kernel
theorem dX8_advances_19 : decode cX8_advances 19 = .ok (.iadd, 1) := by decide +kernel
theorem dX8_advances_20 : decode cX8_advances 20 = .ok (.putfield 70, 3) := by decide +kernel
theorem dX8_advances_23 : decode cX8_advances 23 = .ok (.goto (-23), 3) := by decide +kernel
theorem dX8_advances_26 : decode cX8_advances 26 = .ok (.aload_n 0, 1) := by decide +kernel
theorem dX8_advances_27 : decode cX8_advances 27 = .ok (.aload_n 0, 1) := by decide +kernel
theorem dX8_advances_28 : decode cX8_advances 28 = .ok (.getfield 70, 3) := by decide +kernel
theorem dX8_advances_31 : decode cX8_advances 31 = .ok (.putfield 77, 3) := by decide +kernel
theorem dX8_advances_34 : decode cX8_advances 34 = .ok (.aload_n 0, 1) := by decide +kernel
theorem dX8_advances_35 : decode cX8_advances 35 = .ok (.aload_n 0, 1) := by decide +kernel
theorem dX8_advances_36 : decode cX8_advances 36 = .ok (.getfield 70, 3) := by decide +kernel
theorem dX8_advances_39 : decode cX8_advances 39 = .ok (.invokevirtual 73, 3) := by decide +kernel
theorem dX8_advances_42 : decode cX8_advances 42 = .ok (.istore_n 1, 1) := by decide +kernel
theorem dX8_advances_43 : decode cX8_advances 43 = .ok (.iload_n 1, 1) := by decide +kernel
theorem dX8_advances_44 : decode cX8_advances 44 = .ok (.ifCond .ge 11, 3) := by decide +kernel
theorem dX8_advances_47 : decode cX8_advances 47 = .ok (.aload_n 0, 1) := by decide +kernel
theorem dX8_advances_48 : decode cX8_advances 48 = .ok (.iconst 0, 1) := by decide +kernel
theorem dX8_advances_49 : decode cX8_advances 49 = .ok (.putfield 80, 3) := by decide +kernel
theorem dX8_advances_52 : decode cX8_advances 52 = .ok (.goto 155, 3) := by decide +kernel
theorem dX8_advances_55 : decode cX8_advances 55 = .ok (.iload_n 1, 1) := by decide +kernel
theorem dX8_advances_56 : decode cX8_advances 56 = .ok (.bipush 48, 2) := by decide +kernel
theorem dX8_advances_58 : decode cX8_advances 58 = .ok (.bipush 57, 2) := by decide +kernel
theorem dX8_advances_60 : decode cX8_advances 60 = .ok (.invokestatic 63, 3) := by decide +kernel
theorem dX8_advances_63 : decode cX8_advances 63 = .ok (.ifCond .eq 103, 3) := by decide +kernel
theorem dX8_advances_66 : decode cX8_advances 66 = .ok (.aload_n 0, 1) := by decide +kernel
theorem dX8_advances_67 : decode cX8_advances 67 = .ok (.iconst 0, 1) := by decide +kernel
theorem dX8_advances_68 : decode cX8_advances 68 = .ok (.putfield 83, 3) := by decide +kernel
theorem dX8_advances_71 : decode cX8_advances 71 = .ok (.aload_n 0, 1) := by decide +kernel
theorem dX8_advances_72 : decode cX8_advances 72 = .ok (.aload_n 0, 1) := by decide +kernel
theorem dX8_advances_73 : decode cX8_advances 73 = .ok (.getfield 70, 3) := by decide +kernel
theorem dX8_advances_76 : decode cX8_advances 76 = .ok (.invokevirtual 73, 3) := by decide +kernel
theorem dX8_advances_79 : decode cX8_advances 79 = .ok (.bipush 48, 2) := by decide +kernel
theorem dX8_advances_81 : decode cX8_advances 81 = .ok (.bipush 57, 2) := by decide +kernel
theorem dX8_advances_83 : decode cX8_advances 83 = .ok (.invokestatic 63, 3) := by decide +kernel
theorem dX8_advances_86 : decode cX8_advances 86 = .ok (.ifCond .eq 55, 3) := by decide +kernel
theorem dX8_advances_89 : decode cX8_advances 89 = .ok (.aload_n 0, 1) := by decide +kernel
theorem dX8_advances_90 : decode cX8_advances 90 = .ok (.aload_n 0, 1) := by decide +kernel
theorem dX8_advances_91 : decode cX8_advances 91 = .ok (.getfield 83, 3) := by decide +kernel
theorem dX8_advances_94 : decode cX8_advances 94 = .ok (.bipush 9, 2) := by decide +kernel
theorem dX8_advances_96 : decode cX8_advances 96 = .ok (.if_icmp .le 10, 3) := by decide +kernel
theorem dX8_advances_99 : decode cX8_advances 99 = .ok (.aload_n 0, 1) := by decide +kernel
theorem dX8_advances_100 : decode cX8_advances 100 = .ok (.getfield 83, 3) := by decide +kernel
theorem dX8_advances_103 : decode cX8_advances 103 = .ok (.goto 22, 3) := by decide +kernel
theorem dX8_advances_106 : decode cX8_advances 106 = .ok (.bipush 10, 2) := by decide +kernel
theorem dX8_advances_108 : decode cX8_advances 108 = .ok (.aload_n 0, 1) := by decide +kernel
theorem dX8_advances_109 : decode cX8_advances 109 = .ok (.getfield 83, 3) := by decide +kernel
theorem dX8_advances_112 : decode cX8_advances 112 = .ok (.imul, 1) := by decide +kernel
theorem dX8_advances_113 : decode cX8_advances 113 = .ok (.aload_n 0, 1) := by decide +kernel
theorem dX8_advances_114 : decode cX8_advances 114 = .ok (.aload_n 0, 1) := by decide +kernel
theorem dX8_advances_115 : decode cX8_advances 115 = .ok (.getfield 70, 3) := by decide +kernel
theorem dX8_advances_118 : decode cX8_advances 118 = .ok (.invokevirtual 73, 3) := by decide +kernel
theorem dX8_advances_121 : decode cX8_advances 121 = .ok (.iadd, 1) := by decide +kernel
theorem dX8_advances_122 : decode cX8_advances 122 = .ok (.bipush 48, 2) := by decide +kernel
theorem dX8_advances_124 : decode cX8_advances 124 = .ok (.isub, 1) := by decide +kernel
theorem dX8_advances_125 : decode cX8_advances 125 = .ok (.putfield 83, 3) := by decide +kernel
theorem dX8_advances_128 : decode cX8_advances 128 = .ok (.aload_n 0, 1) := by decide +kernel
theorem dX8_advances_129 : decode cX8_advances 129 = .ok (.dup, 1) := by decide +kernel
theorem dX8_advances_130 : decode cX8_advances 130 = .ok (.getfield 70, 3) := by decide +kernel
theorem dX8_advances_133 : decode cX8_advances 133 = .ok (.iconst 1, 1) := by decide +kernel
theorem dX8_advances_134 : decode cX8_advances 134 = .ok (.iadd, 1) := by decide +kernel
theorem dX8_advances_135 : decode cX8_advances 135 = .ok (.putfield 70, 3) := by decide +kernel
theorem dX8_advances_138 : decode cX8_advances 138 = .ok (.goto (-67), 3) := by decide +kernel
theorem dX8_advances_141 : decode cX8_advances 141 = .ok (.aload_n 0, 1) := by decide +kernel
theorem dX8_advances_142 : decode cX8_advances 142 = .ok (.aload_n 0, 1) := by decide +kernel
theorem dX8_advances_143 : decode cX8_advances 143 = .ok (.getfield 70, 3) := by decide +kernel
theorem dX8_advances_146 : decode cX8_advances 146 = .ok (.aload_n 0, 1) := by decide +kernel
theorem dX8_advances_147 : decode cX8_advances 147 = .ok (.getfield 77, 3) := by decide +kernel
theorem dX8_advances_150 : decode cX8_advances 150 = .ok (.isub, 1) := by decide +kernel
theorem dX8_advances_151 : decode cX8_advances 151 = .ok (.iconst 1, 1) := by decide +kernel
theorem dX8_advances_152 : decode cX8_advances 152 = .ok (.if_icmp .le 7, 3) := by decide +kernel
theorem dX8_advances_155 : decode cX8_advances 155 = .ok (.iconst 4, 1) := by decide +kernel
theorem dX8_advances_156 : decode cX8_advances 156 = .ok (.goto 4, 3) := by decide +kernel
theorem dX8_advances_159 : decode cX8_advances 159 = .ok (.iconst 2, 1) := by decide +kernel
theorem dX8_advances_160 : decode cX8_advances 160 = .ok (.putfield 80, 3) := by decide +kernel
theorem dX8_advances_163 : decode cX8_advances 163 = .ok (.goto 44, 3) := by decide +kernel
theorem dX8_advances_166 : decode cX8_advances 166 = .ok (.aload_n 0, 1) := by decide +kernel
theorem dX8_advances_167 : decode cX8_advances 167 = .ok (.dup, 1) := by decide +kernel
theorem dX8_advances_168 : decode cX8_advances 168 = .ok (.getfield 70, 3) := by decide +kernel
theorem dX8_advances_171 : decode cX8_advances 171 = .ok (.iconst 1, 1) := by decide +kernel
theorem dX8_advances_172 : decode cX8_advances 172 = .ok (.iadd, 1) := by decide +kernel
theorem dX8_advances_173 : decode cX8_advances 173 = .ok (.putfield 70, 3) := by decide +kernel
theorem dX8_advances_176 : decode cX8_advances 176 = .ok (.aload_n 0, 1) := by decide +kernel
theorem dX8_advances_177 : decode cX8_advances 177 = .ok (.iload_n 1, 1) := by decide +kernel
theorem dX8_advances_178 : decode cX8_advances 178 = .ok (.putfield 83, 3) := by decide +kernel
theorem dX8_advances_181 : decode cX8_advances 181 = .ok (.aload_n 0, 1) := by decide +kernel
theorem dX8_advances_182 : decode cX8_advances 182 = .ok (.iload_n 1, 1) := by decide +kernel
theorem dX8_advances_183 : decode cX8_advances 183 = .ok (.bipush 59, 2) := by decide +kernel
theorem dX8_advances_185 : decode cX8_advances 185 = .ok (.if_icmp .ne 7, 3) := by decide +kernel
theorem dX8_advances_188 : decode cX8_advances 188 = .ok (.iconst 3, 1) := by decide +kernel
theorem dX8_advances_189 : decode cX8_advances 189 = .ok (.goto 15, 3) := by decide +kernel
theorem dX8_advances_192 : decode cX8_advances 192 = .ok (.iload_n 1, 1) := by decide +kernel
theorem dX8_advances_193 : decode cX8_advances 193 = .ok (.invokestatic 86, 3) := by decide +kernel
theorem dX8_advances_196 : decode cX8_advances 196 = .ok (.ifCond .eq 7, 3) := by decide +kernel
theorem dX8_advances_199 : decode cX8_advances 199 = .ok (.iconst 1, 1) := by decide +kernel
theorem dX8_advances_200 : decode cX8_advances 200 = .ok (.goto 4, 3) := by decide +kernel
theorem dX8_advances_203 : decode cX8_advances 203 = .ok (.iconst 4, 1) := by decide +kernel
theorem dX8_advances_204 : decode cX8_advances 204 = .ok (.putfield 80, 3) := by decide +kernel
theorem dX8_advances_207 : decode cX8_advances 207 = .ok (.return_, 1) := by decide +kernel
theorem dX8_isWell_0 : decode cX8_isWell 0 = .ok (.aload_n 0, 1) := by decide +kernel
theorem dX8_isWell_1 : decode cX8_isWell 1 = .ok (.getfield 90, 3) := by decide +kernel
theorem dX8_isWell_4 : decode cX8_isWell 4 = .ok (.ifCond .ge 7, 3) := by decide +kernel
theorem dX8_isWell_7 : decode cX8_isWell 7 = .ok (.iconst 1, 1) := by decide +kernel
theorem dX8_isWell_8 : decode cX8_isWell 8 = .ok (.goto 4, 3) := by decide +kernel
theorem dX8_isWell_11 : decode cX8_isWell 11 = .ok (.iconst 0, 1) := by decide +kernel
theorem dX8_isWell_12 : decode cX8_isWell 12 = .ok (.ireturn, 1) := by decide +kernel
theorem dX8_takes_0 : decode cX8_takes 0 = .ok (.aload_n 0, 1) := by decide +kernel
theorem dX8_takes_1 : decode cX8_takes 1 = .ok (.invokevirtual 93, 3) := by decide +kernel
theorem dX8_takes_4 : decode cX8_takes 4 = .ok (.ifCond .ne 5, 3) := by decide +kernel
theorem dX8_takes_7 : decode cX8_takes 7 = .ok (.iconst 0, 1) := by decide +kernel
theorem dX8_takes_8 : decode cX8_takes 8 = .ok (.ireturn, 1) := by decide +kernel
theorem dX8_takes_9 : decode cX8_takes 9 = .ok (.iload_n 1, 1) := by decide +kernel
theorem dX8_takes_10 : decode cX8_takes 10 = .ok (.ifCond .ne 13, 3) := by decide +kernel
theorem dX8_takes_13 : decode cX8_takes 13 = .ok (.aload_n 0, 1) := by decide +kernel
theorem dX8_takes_14 : decode cX8_takes 14 = .ok (.aload_n 0, 1) := by decide +kernel
theorem dX8_takes_15 : decode cX8_takes 15 = .ok (.getfield 77, 3) := by decide +kernel
theorem dX8_takes_18 : decode cX8_takes 18 = .ok (.putfield 90, 3) := by decide +kernel
theorem dX8_takes_21 : decode cX8_takes 21 = .ok (.iconst 0, 1) := by decide +kernel
theorem dX8_takes_22 : decode cX8_takes 22 = .ok (.ireturn, 1) := by decide +kernel
theorem dX8_takes_23 : decode cX8_takes 23 = .ok (.aload_n 0, 1) := by decide +kernel
theorem dX8_takes_24 : decode cX8_takes 24 = .ok (.getfield 83, 3) := by decide +kernel
theorem dX8_takes_27 : decode cX8_takes 27 = .ok (.istore_n 2, 1) := by decide +kernel
theorem dX8_takes_28 : decode cX8_takes 28 = .ok (.aload_n 0, 1) := by decide +kernel
theorem dX8_takes_29 : decode cX8_takes 29 = .ok (.invokevirtual 97, 3) := by decide +kernel
theorem dX8_takes_32 : decode cX8_takes 32 = .ok (.iload_n 2, 1) := by decide +kernel
theorem dX8_takes_33 : decode cX8_takes 33 = .ok (.ireturn, 1) := by decide +kernel
theorem dX8_isNumber_0 : decode cX8_isNumber 0 = .ok (.aload_n 0, 1) := by decide +kernel
theorem dX8_isNumber_1 : decode cX8_isNumber 1 = .ok (.getfield 80, 3) := by decide +kernel
theorem dX8_isNumber_4 : decode cX8_isNumber 4 = .ok (.iconst 2, 1) := by decide +kernel
theorem dX8_isNumber_5 : decode cX8_isNumber 5 = .ok (.if_icmp .ne 19, 3) := by decide +kernel
theorem dX8_isNumber_8 : decode cX8_isNumber 8 = .ok (.aload_n 0, 1) := by decide +kernel
theorem dX8_isNumber_9 : decode cX8_isNumber 9 = .ok (.getfield 83, 3) := by decide +kernel
theorem dX8_isNumber_12 : decode cX8_isNumber 12 = .ok (.iload_n 1, 1) := by decide +kernel
theorem dX8_isNumber_13 : decode cX8_isNumber 13 = .ok (.iload_n 2, 1) := by decide +kernel
theorem dX8_isNumber_14 : decode cX8_isNumber 14 = .ok (.invokestatic 63, 3) := by decide +kernel
theorem dX8_isNumber_17 : decode cX8_isNumber 17 = .ok (.ifCond .eq 7, 3) := by decide +kernel
theorem dX8_isNumber_20 : decode cX8_isNumber 20 = .ok (.iconst 1, 1) := by decide +kernel
theorem dX8_isNumber_21 : decode cX8_isNumber 21 = .ok (.goto 4, 3) := by decide +kernel
theorem dX8_isNumber_24 : decode cX8_isNumber 24 = .ok (.iconst 0, 1) := by decide +kernel
theorem dX8_isNumber_25 : decode cX8_isNumber 25 = .ok (.ireturn, 1) := by decide +kernel
theorem dX8_begins_0 : decode cX8_begins 0 = .ok (.iconst 0, 1) := by decide +kernel
theorem dX8_begins_1 : decode cX8_begins 1 = .ok (.istore_n 1, 1) := by decide +kernel
theorem dX8_begins_2 : decode cX8_begins 2 = .ok (.iload_n 1, 1) := by decide +kernel
theorem dX8_begins_3 : decode cX8_begins 3 = .ok (.bipush 42, 2) := by decide +kernel
theorem dX8_begins_5 : decode cX8_begins 5 = .ok (.if_icmp .ge 16, 3) := by decide +kernel
theorem dX8_begins_8 : decode cX8_begins 8 = .ok (.aload_n 0, 1) := by decide +kernel
theorem dX8_begins_9 : decode cX8_begins 9 = .ok (.getfield 16, 3) := by decide +kernel
theorem dX8_begins_12 : decode cX8_begins 12 = .ok (.iload_n 1, 1) := by decide +kernel
theorem dX8_begins_13 : decode cX8_begins 13 = .ok (.iconst 0, 1) := by decide +kernel
theorem dX8_begins_14 : decode cX8_begins 14 = .ok (.iastore, 1) := by decide +kernel
theorem dX8_begins_15 : decode cX8_begins 15 = .ok (.iinc 1 1, 3) := by decide +kernel
theorem dX8_begins_18 : decode cX8_begins 18 = .ok (.goto (-16), 3) := by decide +kernel
theorem dX8_begins_21 : decode cX8_begins 21 = .ok (.aload_n 0, 1) := by decide +kernel
theorem dX8_begins_22 : decode cX8_begins 22 = .ok (.getfield 16, 3) := by decide +kernel
theorem dX8_begins_25 : decode cX8_begins 25 = .ok (.iconst 0, 1) := by decide +kernel
theorem dX8_begins_26 : decode cX8_begins 26 = .ok (.iconst 3, 1) := by decide +kernel
theorem dX8_begins_27 : decode cX8_begins 27 = .ok (.iastore, 1) := by decide +kernel
theorem dX8_begins_28 : decode cX8_begins 28 = .ok (.return_, 1) := by decide +kernel
theorem dX8_isFreeNode_0 : decode cX8_isFreeNode 0 = .ok (.iload_n 1, 1) := by decide +kernel
theorem dX8_isFreeNode_1 : decode cX8_isFreeNode 1 = .ok (.ifCond .eq 7, 3) := by decide +kernel
theorem dX8_isFreeNode_4 : decode cX8_isFreeNode 4 = .ok (.iconst 1, 1) := by decide +kernel
theorem dX8_isFreeNode_5 : decode cX8_isFreeNode 5 = .ok (.goto 4, 3) := by decide +kernel
theorem dX8_isFreeNode_8 : decode cX8_isFreeNode 8 = .ok (.iconst 0, 1) := by decide +kernel
theorem dX8_isFreeNode_9 : decode cX8_isFreeNode 9 = .ok (.istore_n 2, 1) := by decide +kernel
theorem dX8_isFreeNode_10 : decode cX8_isFreeNode 10 = .ok (.iconst 0, 1) := by decide +kernel
theorem dX8_isFreeNode_11 : decode cX8_isFreeNode 11 = .ok (.istore_n 3, 1) := by decide +kernel
theorem dX8_isFreeNode_12 : decode cX8_isFreeNode 12 = .ok (.iload_n 3, 1) := by decide +kernel
theorem dX8_isFreeNode_13 : decode cX8_isFreeNode 13 = .ok (.aload_n 0, 1) := by decide +kernel
theorem dX8_isFreeNode_14 : decode cX8_isFreeNode 14 = .ok (.getfield 16, 3) := by decide +kernel
theorem dX8_isFreeNode_17 : decode cX8_isFreeNode 17 = .ok (.iconst 2, 1) := by decide +kernel
theorem dX8_isFreeNode_18 : decode cX8_isFreeNode 18 = .ok (.iaload, 1) := by decide +kernel
theorem dX8_isFreeNode_19 : decode cX8_isFreeNode 19 = .ok (.if_icmp .ge 32, 3) := by decide +kernel
theorem dX8_isFreeNode_22 : decode cX8_isFreeNode 22 = .ok (.iload_n 2, 1) := by decide +kernel
theorem dX8_isFreeNode_23 : decode cX8_isFreeNode 23 = .ok (.ifCond .eq 20, 3) := by decide +kernel
theorem dX8_isFreeNode_26 : decode cX8_isFreeNode 26 = .ok (.aload_n 0, 1) := by decide +kernel
theorem dX8_isFreeNode_27 : decode cX8_isFreeNode 27 = .ok (.getfield 16, 3) := by decide +kernel
theorem dX8_isFreeNode_30 : decode cX8_isFreeNode 30 = .ok (.bipush 39, 2) := by decide +kernel
theorem dX8_isFreeNode_32 : decode cX8_isFreeNode 32 = .ok (.iload_n 3, 1) := by decide +kernel
theorem dX8_isFreeNode_33 : decode cX8_isFreeNode 33 = .ok (.iadd, 1) := by decide +kernel
theorem dX8_isFreeNode_34 : decode cX8_isFreeNode 34 = .ok (.iaload, 1) := by decide +kernel
theorem dX8_isFreeNode_35 : decode cX8_isFreeNode 35 = .ok (.iload_n 1, 1) := by decide +kernel
theorem dX8_isFreeNode_36 : decode cX8_isFreeNode 36 = .ok (.if_icmp .eq 7, 3) := by decide +kernel
theorem dX8_isFreeNode_39 : decode cX8_isFreeNode 39 = .ok (.iconst 1, 1) := by decide +kernel
theorem dX8_isFreeNode_40 : decode cX8_isFreeNode 40 = .ok (.goto 4, 3) := by decide +kernel
theorem dX8_isFreeNode_43 : decode cX8_isFreeNode 43 = .ok (.iconst 0, 1) := by decide +kernel
theorem dX8_isFreeNode_44 : decode cX8_isFreeNode 44 = .ok (.istore_n 2, 1) := by decide +kernel
theorem dX8_isFreeNode_45 : decode cX8_isFreeNode 45 = .ok (.iinc 3 1, 3) := by decide +kernel
theorem dX8_isFreeNode_48 : decode cX8_isFreeNode 48 = .ok (.goto (-36), 3) := by decide +kernel
theorem dX8_isFreeNode_51 : decode cX8_isFreeNode 51 = .ok (.iload_n 2, 1) := by decide +kernel
theorem dX8_isFreeNode_52 : decode cX8_isFreeNode 52 = .ok (.ireturn, 1) := by decide +kernel
theorem dX8_readsContact_0 : decode cX8_readsContact 0 = .ok (.aload_n 0, 1) := by decide +kernel
theorem dX8_readsContact_1 : decode cX8_readsContact 1 = .ok (.getfield 16, 3) := by decide +kernel
theorem dX8_readsContact_4 : decode cX8_readsContact 4 = .ok (.iconst 1, 1) := by decide +kernel
theorem dX8_readsContact_5 : decode cX8_readsContact 5 = .ok (.iaload, 1) := by decide +kernel
theorem dX8_readsContact_6 : decode cX8_readsContact 6 = .ok (.istore_n 2, 1) := by decide +kernel
theorem dX8_readsContact_7 : decode cX8_readsContact 7 = .ok (.aload_n 0, 1) := by decide +kernel
theorem dX8_readsContact_8 : decode cX8_readsContact 8 = .ok (.getfield 16, 3) := by decide +kernel
theorem dX8_readsContact_11 : decode cX8_readsContact 11 = .ok (.iconst 0, 1) := by decide +kernel
theorem dX8_readsContact_12 : decode cX8_readsContact 12 = .ok (.iaload, 1) := by decide +kernel
theorem dX8_readsContact_13 : decode cX8_readsContact 13 = .ok (.iconst 1, 1) := by decide +kernel
theorem dX8_readsContact_14 : decode cX8_readsContact 14 = .ok (.isub, 1) := by decide +kernel
theorem dX8_readsContact_15 : decode cX8_readsContact 15 = .ok (.istore_n 3, 1) := by decide +kernel
theorem dX8_readsContact_16 : decode cX8_readsContact 16 = .ok (.aload_n 0, 1) := by decide +kernel
theorem dX8_readsContact_17 : decode cX8_readsContact 17 = .ok (.getfield 16, 3) := by decide +kernel
theorem dX8_readsContact_20 : decode cX8_readsContact 20 = .ok (.iconst 3, 1) := by decide +kernel
theorem dX8_readsContact_21 : decode cX8_readsContact 21 = .ok (.iload_n 2, 1) := by decide +kernel
theorem dX8_readsContact_22 : decode cX8_readsContact 22 = .ok (.iadd, 1) := by decide +kernel
theorem dX8_readsContact_23 : decode cX8_readsContact 23 = .ok (.iload_n 1, 1) := by decide +kernel
theorem dX8_readsContact_24 : decode cX8_readsContact 24 = .ok (.iastore, 1) := by decide +kernel
theorem dX8_readsContact_25 : decode cX8_readsContact 25 = .ok (.aload_n 0, 1) := by decide +kernel
theorem dX8_readsContact_26 : decode cX8_readsContact 26 = .ok (.getfield 16, 3) := by decide +kernel
theorem dX8_readsContact_29 : decode cX8_readsContact 29 = .ok (.bipush 12, 2) := by decide +kernel
theorem dX8_readsContact_31 : decode cX8_readsContact 31 = .ok (.iload_n 2, 1) := by decide +kernel
theorem dX8_readsContact_32 : decode cX8_readsContact 32 = .ok (.iadd, 1) := by decide +kernel
theorem dX8_readsContact_33 : decode cX8_readsContact 33 = .ok (.aload_n 0, 1) := by decide +kernel
theorem dX8_readsContact_34 : decode cX8_readsContact 34 = .ok (.aload_n 0, 1) := by decide +kernel
theorem dX8_readsContact_35 : decode cX8_readsContact 35 = .ok (.iconst 0, 1) := by decide +kernel
theorem dX8_readsContact_36 : decode cX8_readsContact 36 = .ok (.iload_n 3, 1) := by decide +kernel
theorem dX8_readsContact_37 : decode cX8_readsContact 37 = .ok (.invokevirtual 100, 3) := by decide +kernel
theorem dX8_readsContact_40 : decode cX8_readsContact 40 = .ok (.invokevirtual 104, 3) := by decide +kernel
theorem dX8_readsContact_43 : decode cX8_readsContact 43 = .ok (.iastore, 1) := by decide +kernel
theorem dX8_readsContact_44 : decode cX8_readsContact 44 = .ok (.aload_n 0, 1) := by decide +kernel
theorem dX8_readsContact_45 : decode cX8_readsContact 45 = .ok (.getfield 16, 3) := by decide +kernel
theorem dX8_readsContact_48 : decode cX8_readsContact 48 = .ok (.bipush 21, 2) := by decide +kernel
theorem dX8_readsContact_50 : decode cX8_readsContact 50 = .ok (.iload_n 2, 1) := by decide +kernel
theorem dX8_readsContact_51 : decode cX8_readsContact 51 = .ok (.iadd, 1) := by decide +kernel
theorem dX8_readsContact_52 : decode cX8_readsContact 52 = .ok (.aload_n 0, 1) := by decide +kernel
theorem dX8_readsContact_53 : decode cX8_readsContact 53 = .ok (.aload_n 0, 1) := by decide +kernel
theorem dX8_readsContact_54 : decode cX8_readsContact 54 = .ok (.iconst 0, 1) := by decide +kernel
theorem dX8_readsContact_55 : decode cX8_readsContact 55 = .ok (.iload_n 3, 1) := by decide +kernel
theorem dX8_readsContact_56 : decode cX8_readsContact 56 = .ok (.invokevirtual 100, 3) := by decide +kernel
theorem dX8_readsContact_59 : decode cX8_readsContact 59 = .ok (.ifCond .eq 23, 3) := by decide +kernel
theorem dX8_readsContact_62 : decode cX8_readsContact 62 = .ok (.aload_n 0, 1) := by decide +kernel
theorem dX8_readsContact_63 : decode cX8_readsContact 63 = .ok (.getfield 83, 3) := by decide +kernel
theorem dX8_readsContact_66 : decode cX8_readsContact 66 = .ok (.aload_n 0, 1) := by decide +kernel
theorem dX8_readsContact_67 : decode cX8_readsContact 67 = .ok (.getfield 16, 3) := by decide +kernel
theorem dX8_readsContact_70 : decode cX8_readsContact 70 = .ok (.bipush 12, 2) := by decide +kernel
theorem dX8_readsContact_72 : decode cX8_readsContact 72 = .ok (.iload_n 2, 1) := by decide +kernel
theorem dX8_readsContact_73 : decode cX8_readsContact 73 = .ok (.iadd, 1) := by decide +kernel
theorem dX8_readsContact_74 : decode cX8_readsContact 74 = .ok (.iaload, 1) := by decide +kernel
theorem dX8_readsContact_75 : decode cX8_readsContact 75 = .ok (.if_icmp .eq 7, 3) := by decide +kernel
theorem dX8_readsContact_78 : decode cX8_readsContact 78 = .ok (.iconst 1, 1) := by decide +kernel
theorem dX8_readsContact_79 : decode cX8_readsContact 79 = .ok (.goto 4, 3) := by decide +kernel
theorem dX8_readsContact_82 : decode cX8_readsContact 82 = .ok (.iconst 0, 1) := by decide +kernel
theorem dX8_readsContact_83 : decode cX8_readsContact 83 = .ok (.invokevirtual 104, 3) := by decide +kernel
theorem dX8_readsContact_86 : decode cX8_readsContact 86 = .ok (.iastore, 1) := by decide +kernel
theorem dX8_readsContact_87 : decode cX8_readsContact 87 = .ok (.aload_n 0, 1) := by decide +kernel
theorem dX8_readsContact_88 : decode cX8_readsContact 88 = .ok (.getfield 16, 3) := by decide +kernel
theorem dX8_readsContact_91 : decode cX8_readsContact 91 = .ok (.bipush 30, 2) := by decide +kernel
theorem dX8_readsContact_93 : decode cX8_readsContact 93 = .ok (.iload_n 2, 1) := by decide +kernel
theorem dX8_readsContact_94 : decode cX8_readsContact 94 = .ok (.iadd, 1) := by decide +kernel
theorem dX8_readsContact_95 : decode cX8_readsContact 95 = .ok (.iload_n 1, 1) := by decide +kernel
theorem dX8_readsContact_96 : decode cX8_readsContact 96 = .ok (.iconst 2, 1) := by decide +kernel
theorem dX8_readsContact_97 : decode cX8_readsContact 97 = .ok (.if_icmp .ge 16, 3) := by decide +kernel
theorem dX8_readsContact_100 : decode cX8_readsContact 100 = .ok (.aload_n 0, 1) := by decide +kernel
theorem dX8_readsContact_101 : decode cX8_readsContact 101 = .ok (.aload_n 0, 1) := by decide +kernel
theorem dX8_readsContact_102 : decode cX8_readsContact 102 = .ok (.iconst 0, 1) := by decide +kernel
theorem dX8_readsContact_103 : decode cX8_readsContact 103 = .ok (.iconst 3, 1) := by decide +kernel
theorem dX8_readsContact_104 : decode cX8_readsContact 104 = .ok (.invokevirtual 100, 3) := by decide +kernel
theorem dX8_readsContact_107 : decode cX8_readsContact 107 = .ok (.invokevirtual 104, 3) := by decide +kernel
theorem dX8_readsContact_110 : decode cX8_readsContact 110 = .ok (.goto 5, 3) := by decide +kernel
theorem dX8_readsContact_113 : decode cX8_readsContact 113 = .ok (.bipush (-9), 2) := by decide +kernel
theorem dX8_readsContact_115 : decode cX8_readsContact 115 = .ok (.iastore, 1) := by decide +kernel
theorem dX8_readsContact_116 : decode cX8_readsContact 116 = .ok (.aload_n 0, 1) := by decide +kernel
theorem dX8_readsContact_117 : decode cX8_readsContact 117 = .ok (.getfield 16, 3) := by decide +kernel
theorem dX8_readsContact_120 : decode cX8_readsContact 120 = .ok (.iconst 1, 1) := by decide +kernel
theorem dX8_readsContact_121 : decode cX8_readsContact 121 = .ok (.dup2, 1) := by decide +kernel
theorem dX8_readsContact_122 : decode cX8_readsContact 122 = .ok (.iaload, 1) := by decide +kernel
theorem dX8_readsContact_123 : decode cX8_readsContact 123 = .ok (.iconst 1, 1) := by decide +kernel
theorem dX8_readsContact_124 : decode cX8_readsContact 124 = .ok (.iadd, 1) := by decide +kernel
theorem dX8_readsContact_125 : decode cX8_readsContact 125 = .ok (.iastore, 1) := by decide +kernel
theorem dX8_readsContact_126 : decode cX8_readsContact 126 = .ok (.return_, 1) := by decide +kernel
theorem dX8_readsItem_0 : decode cX8_readsItem 0 = .ok (.iload_n 1, 1) := by decide +kernel
theorem dX8_readsItem_1 : decode cX8_readsItem 1 = .ok (.bipush 110, 2) := by decide +kernel
theorem dX8_readsItem_3 : decode cX8_readsItem 3 = .ok (.if_icmp .ne 23, 3) := by decide +kernel
theorem dX8_readsItem_6 : decode cX8_readsItem 6 = .ok (.aload_n 0, 1) := by decide +kernel
theorem dX8_readsItem_7 : decode cX8_readsItem 7 = .ok (.getfield 16, 3) := by decide +kernel
theorem dX8_readsItem_10 : decode cX8_readsItem 10 = .ok (.iconst 0, 1) := by decide +kernel
theorem dX8_readsItem_11 : decode cX8_readsItem 11 = .ok (.aload_n 0, 1) := by decide +kernel
theorem dX8_readsItem_12 : decode cX8_readsItem 12 = .ok (.aload_n 0, 1) := by decide +kernel
theorem dX8_readsItem_13 : decode cX8_readsItem 13 = .ok (.iconst 2, 1) := by decide +kernel
theorem dX8_readsItem_14 : decode cX8_readsItem 14 = .ok (.bipush 7, 2) := by decide +kernel
theorem dX8_readsItem_16 : decode cX8_readsItem 16 = .ok (.invokevirtual 100, 3) := by decide +kernel
theorem dX8_readsItem_19 : decode cX8_readsItem 19 = .ok (.invokevirtual 104, 3) := by decide +kernel
theorem dX8_readsItem_22 : decode cX8_readsItem 22 = .ok (.iastore, 1) := by decide +kernel
theorem dX8_readsItem_23 : decode cX8_readsItem 23 = .ok (.goto 107, 3) := by decide +kernel
theorem dX8_readsItem_26 : decode cX8_readsItem 26 = .ok (.iload_n 1, 1) := by decide +kernel
theorem dX8_readsItem_27 : decode cX8_readsItem 27 = .ok (.bipush 108, 2) := by decide +kernel
theorem dX8_readsItem_29 : decode cX8_readsItem 29 = .ok (.if_icmp .ne 66, 3) := by decide +kernel
theorem dX8_readsItem_32 : decode cX8_readsItem 32 = .ok (.aload_n 0, 1) := by decide +kernel
theorem dX8_readsItem_33 : decode cX8_readsItem 33 = .ok (.getfield 16, 3) := by decide +kernel
theorem dX8_readsItem_36 : decode cX8_readsItem 36 = .ok (.bipush 39, 2) := by decide +kernel
theorem dX8_readsItem_38 : decode cX8_readsItem 38 = .ok (.aload_n 0, 1) := by decide +kernel
theorem dX8_readsItem_39 : decode cX8_readsItem 39 = .ok (.getfield 16, 3) := by decide +kernel
theorem dX8_readsItem_42 : decode cX8_readsItem 42 = .ok (.iconst 2, 1) := by decide +kernel
theorem dX8_readsItem_43 : decode cX8_readsItem 43 = .ok (.iaload, 1) := by decide +kernel
theorem dX8_readsItem_44 : decode cX8_readsItem 44 = .ok (.iadd, 1) := by decide +kernel
theorem dX8_readsItem_45 : decode cX8_readsItem 45 = .ok (.aload_n 0, 1) := by decide +kernel
theorem dX8_readsItem_46 : decode cX8_readsItem 46 = .ok (.aload_n 0, 1) := by decide +kernel
theorem dX8_readsItem_47 : decode cX8_readsItem 47 = .ok (.iconst 0, 1) := by decide +kernel
theorem dX8_readsItem_48 : decode cX8_readsItem 48 = .ok (.aload_n 0, 1) := by decide +kernel
theorem dX8_readsItem_49 : decode cX8_readsItem 49 = .ok (.getfield 16, 3) := by decide +kernel
theorem dX8_readsItem_52 : decode cX8_readsItem 52 = .ok (.iconst 0, 1) := by decide +kernel
theorem dX8_readsItem_53 : decode cX8_readsItem 53 = .ok (.iaload, 1) := by decide +kernel
theorem dX8_readsItem_54 : decode cX8_readsItem 54 = .ok (.iconst 1, 1) := by decide +kernel
theorem dX8_readsItem_55 : decode cX8_readsItem 55 = .ok (.isub, 1) := by decide +kernel
theorem dX8_readsItem_56 : decode cX8_readsItem 56 = .ok (.invokevirtual 100, 3) := by decide +kernel
theorem dX8_readsItem_59 : decode cX8_readsItem 59 = .ok (.ifCond .eq 18, 3) := by decide +kernel
theorem dX8_readsItem_62 : decode cX8_readsItem 62 = .ok (.aload_n 0, 1) := by decide +kernel
theorem dX8_readsItem_63 : decode cX8_readsItem 63 = .ok (.aload_n 0, 1) := by decide +kernel
theorem dX8_readsItem_64 : decode cX8_readsItem 64 = .ok (.getfield 83, 3) := by decide +kernel
theorem dX8_readsItem_67 : decode cX8_readsItem 67 = .ok (.invokevirtual 108, 3) := by decide +kernel
theorem dX8_readsItem_70 : decode cX8_readsItem 70 = .ok (.ifCond .eq 7, 3) := by decide +kernel
theorem dX8_readsItem_73 : decode cX8_readsItem 73 = .ok (.iconst 1, 1) := by decide +kernel
theorem dX8_readsItem_74 : decode cX8_readsItem 74 = .ok (.goto 4, 3) := by decide +kernel
theorem dX8_readsItem_77 : decode cX8_readsItem 77 = .ok (.iconst 0, 1) := by decide +kernel
theorem dX8_readsItem_78 : decode cX8_readsItem 78 = .ok (.invokevirtual 104, 3) := by decide +kernel
theorem dX8_readsItem_81 : decode cX8_readsItem 81 = .ok (.iastore, 1) := by decide +kernel
theorem dX8_readsItem_82 : decode cX8_readsItem 82 = .ok (.aload_n 0, 1) := by decide +kernel
theorem dX8_readsItem_83 : decode cX8_readsItem 83 = .ok (.getfield 16, 3) := by decide +kernel
theorem dX8_readsItem_86 : decode cX8_readsItem 86 = .ok (.iconst 2, 1) := by decide +kernel
theorem dX8_readsItem_87 : decode cX8_readsItem 87 = .ok (.dup2, 1) := by decide +kernel
theorem dX8_readsItem_88 : decode cX8_readsItem 88 = .ok (.iaload, 1) := by decide +kernel
theorem dX8_readsItem_89 : decode cX8_readsItem 89 = .ok (.iconst 1, 1) := by decide +kernel
theorem dX8_readsItem_90 : decode cX8_readsItem 90 = .ok (.iadd, 1) := by decide +kernel
theorem dX8_readsItem_91 : decode cX8_readsItem 91 = .ok (.iastore, 1) := by decide +kernel
theorem dX8_readsItem_92 : decode cX8_readsItem 92 = .ok (.goto 38, 3) := by decide +kernel
theorem dX8_readsItem_95 : decode cX8_readsItem 95 = .ok (.aload_n 0, 1) := by decide +kernel
theorem dX8_readsItem_96 : decode cX8_readsItem 96 = .ok (.iload_n 1, 1) := by decide +kernel
theorem dX8_readsItem_97 : decode cX8_readsItem 97 = .ok (.bipush 111, 2) := by decide +kernel
theorem dX8_readsItem_99 : decode cX8_readsItem 99 = .ok (.if_icmp .ne 7, 3) := by decide +kernel
theorem dX8_readsItem_102 : decode cX8_readsItem 102 = .ok (.iconst 0, 1) := by decide +kernel
theorem dX8_readsItem_103 : decode cX8_readsItem 103 = .ok (.goto 24, 3) := by decide +kernel
theorem dX8_readsItem_106 : decode cX8_readsItem 106 = .ok (.iload_n 1, 1) := by decide +kernel
theorem dX8_readsItem_107 : decode cX8_readsItem 107 = .ok (.bipush 99, 2) := by decide +kernel
theorem dX8_readsItem_109 : decode cX8_readsItem 109 = .ok (.if_icmp .ne 7, 3) := by decide +kernel
theorem dX8_readsItem_112 : decode cX8_readsItem 112 = .ok (.iconst 1, 1) := by decide +kernel
theorem dX8_readsItem_113 : decode cX8_readsItem 113 = .ok (.goto 14, 3) := by decide +kernel
theorem dX8_readsItem_116 : decode cX8_readsItem 116 = .ok (.iload_n 1, 1) := by decide +kernel
theorem dX8_readsItem_117 : decode cX8_readsItem 117 = .ok (.bipush 119, 2) := by decide +kernel
theorem dX8_readsItem_119 : decode cX8_readsItem 119 = .ok (.if_icmp .ne 7, 3) := by decide +kernel
theorem dX8_readsItem_122 : decode cX8_readsItem 122 = .ok (.iconst 2, 1) := by decide +kernel
theorem dX8_readsItem_123 : decode cX8_readsItem 123 = .ok (.goto 4, 3) := by decide +kernel
theorem dX8_readsItem_126 : decode cX8_readsItem 126 = .ok (.iconst 3, 1) := by decide +kernel
theorem dX8_readsItem_127 : decode cX8_readsItem 127 = .ok (.invokevirtual 111, 3) := by decide +kernel
theorem dX8_readsItem_130 : decode cX8_readsItem 130 = .ok (.return_, 1) := by decide +kernel
theorem dX8_mayBegin_0 : decode cX8_mayBegin 0 = .ok (.aload_n 0, 1) := by decide +kernel
theorem dX8_mayBegin_1 : decode cX8_mayBegin 1 = .ok (.getfield 83, 3) := by decide +kernel
theorem dX8_mayBegin_4 : decode cX8_mayBegin 4 = .ok (.bipush 110, 2) := by decide +kernel
theorem dX8_mayBegin_6 : decode cX8_mayBegin 6 = .ok (.if_icmp .ne 15, 3) := by decide +kernel
theorem dX8_mayBegin_9 : decode cX8_mayBegin 9 = .ok (.iload_n 1, 1) := by decide +kernel
theorem dX8_mayBegin_10 : decode cX8_mayBegin 10 = .ok (.ifCond .ne 7, 3) := by decide +kernel
theorem dX8_mayBegin_13 : decode cX8_mayBegin 13 = .ok (.iconst 1, 1) := by decide +kernel
theorem dX8_mayBegin_14 : decode cX8_mayBegin 14 = .ok (.goto 50, 3) := by decide +kernel
theorem dX8_mayBegin_17 : decode cX8_mayBegin 17 = .ok (.iconst 0, 1) := by decide +kernel
theorem dX8_mayBegin_18 : decode cX8_mayBegin 18 = .ok (.goto 46, 3) := by decide +kernel
theorem dX8_mayBegin_21 : decode cX8_mayBegin 21 = .ok (.aload_n 0, 1) := by decide +kernel
theorem dX8_mayBegin_22 : decode cX8_mayBegin 22 = .ok (.getfield 83, 3) := by decide +kernel
theorem dX8_mayBegin_25 : decode cX8_mayBegin 25 = .ok (.bipush 108, 2) := by decide +kernel
theorem dX8_mayBegin_27 : decode cX8_mayBegin 27 = .ok (.if_icmp .ne 21, 3) := by decide +kernel
theorem dX8_mayBegin_30 : decode cX8_mayBegin 30 = .ok (.aload_n 0, 1) := by decide +kernel
theorem dX8_mayBegin_31 : decode cX8_mayBegin 31 = .ok (.getfield 16, 3) := by decide +kernel
theorem dX8_mayBegin_34 : decode cX8_mayBegin 34 = .ok (.iconst 2, 1) := by decide +kernel
theorem dX8_mayBegin_35 : decode cX8_mayBegin 35 = .ok (.iaload, 1) := by decide +kernel
theorem dX8_mayBegin_36 : decode cX8_mayBegin 36 = .ok (.iconst 3, 1) := by decide +kernel
theorem dX8_mayBegin_37 : decode cX8_mayBegin 37 = .ok (.if_icmp .ge 7, 3) := by decide +kernel
theorem dX8_mayBegin_40 : decode cX8_mayBegin 40 = .ok (.iconst 1, 1) := by decide +kernel
theorem dX8_mayBegin_41 : decode cX8_mayBegin 41 = .ok (.goto 23, 3) := by decide +kernel
theorem dX8_mayBegin_44 : decode cX8_mayBegin 44 = .ok (.iconst 0, 1) := by decide +kernel
theorem dX8_mayBegin_45 : decode cX8_mayBegin 45 = .ok (.goto 19, 3) := by decide +kernel
theorem dX8_mayBegin_48 : decode cX8_mayBegin 48 = .ok (.aload_n 0, 1) := by decide +kernel
theorem dX8_mayBegin_49 : decode cX8_mayBegin 49 = .ok (.getfield 16, 3) := by decide +kernel
theorem dX8_mayBegin_52 : decode cX8_mayBegin 52 = .ok (.iconst 1, 1) := by decide +kernel
theorem dX8_mayBegin_53 : decode cX8_mayBegin 53 = .ok (.iaload, 1) := by decide +kernel
theorem dX8_mayBegin_54 : decode cX8_mayBegin 54 = .ok (.bipush 9, 2) := by decide +kernel
theorem dX8_mayBegin_56 : decode cX8_mayBegin 56 = .ok (.if_icmp .ge 7, 3) := by decide +kernel
theorem dX8_mayBegin_59 : decode cX8_mayBegin 59 = .ok (.iconst 1, 1) := by decide +kernel
theorem dX8_mayBegin_60 : decode cX8_mayBegin 60 = .ok (.goto 4, 3) := by decide +kernel
theorem dX8_mayBegin_63 : decode cX8_mayBegin 63 = .ok (.iconst 0, 1) := by decide +kernel
theorem dX8_mayBegin_64 : decode cX8_mayBegin 64 = .ok (.ireturn, 1) := by decide +kernel
theorem dX8_net_0 : decode cX8_net 0 = .ok (.aload_n 0, 1) := by decide +kernel
theorem dX8_net_1 : decode cX8_net 1 = .ok (.iconst 0, 1) := by decide +kernel
theorem dX8_net_2 : decode cX8_net 2 = .ok (.putfield 59, 3) := by decide +kernel
theorem dX8_net_5 : decode cX8_net 5 = .ok (.aload_n 0, 1) := by decide +kernel
theorem dX8_net_6 : decode cX8_net 6 = .ok (.iconst (-1), 1) := by decide +kernel
theorem dX8_net_7 : decode cX8_net 7 = .ok (.putfield 90, 3) := by decide +kernel
theorem dX8_net_10 : decode cX8_net 10 = .ok (.aload_n 0, 1) := by decide +kernel
theorem dX8_net_11 : decode cX8_net 11 = .ok (.iconst 0, 1) := by decide +kernel
theorem dX8_net_12 : decode cX8_net 12 = .ok (.putfield 70, 3) := by decide +kernel
theorem dX8_net_15 : decode cX8_net 15 = .ok (.aload_n 0, 1) := by decide +kernel
theorem dX8_net_16 : decode cX8_net 16 = .ok (.invokevirtual 53, 3) := by decide +kernel
theorem dX8_net_19 : decode cX8_net 19 = .ok (.iconst 0, 1) := by decide +kernel
theorem dX8_net_20 : decode cX8_net 20 = .ok (.istore_n 1, 1) := by decide +kernel
theorem dX8_net_21 : decode cX8_net 21 = .ok (.aload_n 0, 1) := by decide +kernel
theorem dX8_net_22 : decode cX8_net 22 = .ok (.invokevirtual 97, 3) := by decide +kernel
theorem dX8_net_25 : decode cX8_net 25 = .ok (.aload_n 0, 1) := by decide +kernel
theorem dX8_net_26 : decode cX8_net 26 = .ok (.invokevirtual 93, 3) := by decide +kernel
theorem dX8_net_29 : decode cX8_net 29 = .ok (.ifCond .eq 72, 3) := by decide +kernel
theorem dX8_net_32 : decode cX8_net 32 = .ok (.aload_n 0, 1) := by decide +kernel
theorem dX8_net_33 : decode cX8_net 33 = .ok (.getfield 80, 3) := by decide +kernel
theorem dX8_net_36 : decode cX8_net 36 = .ok (.ifCond .eq 65, 3) := by decide +kernel
theorem dX8_net_39 : decode cX8_net 39 = .ok (.aload_n 0, 1) := by decide +kernel
theorem dX8_net_40 : decode cX8_net 40 = .ok (.aload_n 0, 1) := by decide +kernel
theorem dX8_net_41 : decode cX8_net 41 = .ok (.getfield 80, 3) := by decide +kernel
theorem dX8_net_44 : decode cX8_net 44 = .ok (.iconst 1, 1) := by decide +kernel
theorem dX8_net_45 : decode cX8_net 45 = .ok (.if_icmp .ne 15, 3) := by decide +kernel
theorem dX8_net_48 : decode cX8_net 48 = .ok (.aload_n 0, 1) := by decide +kernel
theorem dX8_net_49 : decode cX8_net 49 = .ok (.iload_n 1, 1) := by decide +kernel
theorem dX8_net_50 : decode cX8_net 50 = .ok (.invokevirtual 115, 3) := by decide +kernel
theorem dX8_net_53 : decode cX8_net 53 = .ok (.ifCond .eq 7, 3) := by decide +kernel
theorem dX8_net_56 : decode cX8_net 56 = .ok (.iconst 1, 1) := by decide +kernel
theorem dX8_net_57 : decode cX8_net 57 = .ok (.goto 4, 3) := by decide +kernel
theorem dX8_net_60 : decode cX8_net 60 = .ok (.iconst 0, 1) := by decide +kernel
theorem dX8_net_61 : decode cX8_net 61 = .ok (.invokevirtual 104, 3) := by decide +kernel
theorem dX8_net_64 : decode cX8_net 64 = .ok (.istore_n 2, 1) := by decide +kernel
theorem dX8_net_65 : decode cX8_net 65 = .ok (.aload_n 0, 1) := by decide +kernel
theorem dX8_net_66 : decode cX8_net 66 = .ok (.invokevirtual 93, 3) := by decide +kernel
theorem dX8_net_69 : decode cX8_net 69 = .ok (.ifCond .eq 8, 3) := by decide +kernel
theorem dX8_net_72 : decode cX8_net 72 = .ok (.aload_n 0, 1) := by decide +kernel
theorem dX8_net_73 : decode cX8_net 73 = .ok (.iload_n 2, 1) := by decide +kernel
theorem dX8_net_74 : decode cX8_net 74 = .ok (.invokevirtual 118, 3) := by decide +kernel
theorem dX8_net_77 : decode cX8_net 77 = .ok (.aload_n 0, 1) := by decide +kernel
theorem dX8_net_78 : decode cX8_net 78 = .ok (.aload_n 0, 1) := by decide +kernel
theorem dX8_net_79 : decode cX8_net 79 = .ok (.getfield 80, 3) := by decide +kernel
theorem dX8_net_82 : decode cX8_net 82 = .ok (.iconst 3, 1) := by decide +kernel
theorem dX8_net_83 : decode cX8_net 83 = .ok (.if_icmp .ne 7, 3) := by decide +kernel
theorem dX8_net_86 : decode cX8_net 86 = .ok (.iconst 1, 1) := by decide +kernel
theorem dX8_net_87 : decode cX8_net 87 = .ok (.goto 4, 3) := by decide +kernel
theorem dX8_net_90 : decode cX8_net 90 = .ok (.iconst 0, 1) := by decide +kernel
theorem dX8_net_91 : decode cX8_net 91 = .ok (.invokevirtual 104, 3) := by decide +kernel
theorem dX8_net_94 : decode cX8_net 94 = .ok (.pop, 1) := by decide +kernel
theorem dX8_net_95 : decode cX8_net 95 = .ok (.iinc 1 1, 3) := by decide +kernel
theorem dX8_net_98 : decode cX8_net 98 = .ok (.goto (-73), 3) := by decide +kernel
theorem dX8_net_101 : decode cX8_net 101 = .ok (.aload_n 0, 1) := by decide +kernel
theorem dX8_net_102 : decode cX8_net 102 = .ok (.invokevirtual 93, 3) := by decide +kernel
theorem dX8_net_105 : decode cX8_net 105 = .ok (.ifCond .ne 11, 3) := by decide +kernel
theorem dX8_net_108 : decode cX8_net 108 = .ok (.bipush (-10), 2) := by decide +kernel
theorem dX8_net_110 : decode cX8_net 110 = .ok (.aload_n 0, 1) := by decide +kernel
theorem dX8_net_111 : decode cX8_net 111 = .ok (.getfield 90, 3) := by decide +kernel
theorem dX8_net_114 : decode cX8_net 114 = .ok (.isub, 1) := by decide +kernel
theorem dX8_net_115 : decode cX8_net 115 = .ok (.ireturn, 1) := by decide +kernel
theorem dX8_net_116 : decode cX8_net 116 = .ok (.aload_n 0, 1) := by decide +kernel
theorem dX8_net_117 : decode cX8_net 117 = .ok (.invokevirtual 56, 3) := by decide +kernel
theorem dX8_net_120 : decode cX8_net 120 = .ok (.iload_n 1, 1) := by decide +kernel
theorem dX8_net_121 : decode cX8_net 121 = .ok (.ireturn, 1) := by decide +kernel
theorem dX8_settles_0 : decode cX8_settles 0 = .ok (.iconst 0, 1) := by decide +kernel
theorem dX8_settles_1 : decode cX8_settles 1 = .ok (.istore_n 1, 1) := by decide +kernel
theorem dX8_settles_2 : decode cX8_settles 2 = .ok (.iload_n 1, 1) := by decide +kernel
theorem dX8_settles_3 : decode cX8_settles 3 = .ok (.bipush 42, 2) := by decide +kernel
theorem dX8_settles_5 : decode cX8_settles 5 = .ok (.if_icmp .ge 21, 3) := by decide +kernel
theorem dX8_settles_8 : decode cX8_settles 8 = .ok (.aload_n 0, 1) := by decide +kernel
theorem dX8_settles_9 : decode cX8_settles 9 = .ok (.getfield 13, 3) := by decide +kernel
theorem dX8_settles_12 : decode cX8_settles 12 = .ok (.iload_n 1, 1) := by decide +kernel
theorem dX8_settles_13 : decode cX8_settles 13 = .ok (.aload_n 0, 1) := by decide +kernel
theorem dX8_settles_14 : decode cX8_settles 14 = .ok (.getfield 16, 3) := by decide +kernel
theorem dX8_settles_17 : decode cX8_settles 17 = .ok (.iload_n 1, 1) := by decide +kernel
theorem dX8_settles_18 : decode cX8_settles 18 = .ok (.iaload, 1) := by decide +kernel
theorem dX8_settles_19 : decode cX8_settles 19 = .ok (.iastore, 1) := by decide +kernel
theorem dX8_settles_20 : decode cX8_settles 20 = .ok (.iinc 1 1, 3) := by decide +kernel
theorem dX8_settles_23 : decode cX8_settles 23 = .ok (.goto (-21), 3) := by decide +kernel
theorem dX8_settles_26 : decode cX8_settles 26 = .ok (.iconst 0, 1) := by decide +kernel
theorem dX8_settles_27 : decode cX8_settles 27 = .ok (.istore_n 1, 1) := by decide +kernel
theorem dX8_settles_28 : decode cX8_settles 28 = .ok (.iload_n 1, 1) := by decide +kernel
theorem dX8_settles_29 : decode cX8_settles 29 = .ok (.bipush 30, 2) := by decide +kernel
theorem dX8_settles_31 : decode cX8_settles 31 = .ok (.if_icmp .ge 31, 3) := by decide +kernel
theorem dX8_settles_34 : decode cX8_settles 34 = .ok (.aload_n 0, 1) := by decide +kernel
theorem dX8_settles_35 : decode cX8_settles 35 = .ok (.getfield 19, 3) := by decide +kernel
theorem dX8_settles_38 : decode cX8_settles 38 = .ok (.iload_n 1, 1) := by decide +kernel
theorem dX8_settles_39 : decode cX8_settles 39 = .ok (.iload_n 1, 1) := by decide +kernel
theorem dX8_settles_40 : decode cX8_settles 40 = .ok (.iconst 3, 1) := by decide +kernel
theorem dX8_settles_41 : decode cX8_settles 41 = .ok (.if_icmp .lt 13, 3) := by decide +kernel
theorem dX8_settles_44 : decode cX8_settles 44 = .ok (.iload_n 1, 1) := by decide +kernel
theorem dX8_settles_45 : decode cX8_settles 45 = .ok (.bipush 12, 2) := by decide +kernel
theorem dX8_settles_47 : decode cX8_settles 47 = .ok (.if_icmp .ge 7, 3) := by decide +kernel
theorem dX8_settles_50 : decode cX8_settles 50 = .ok (.iconst 4, 1) := by decide +kernel
theorem dX8_settles_51 : decode cX8_settles 51 = .ok (.goto 4, 3) := by decide +kernel
theorem dX8_settles_54 : decode cX8_settles 54 = .ok (.iconst 0, 1) := by decide +kernel
theorem dX8_settles_55 : decode cX8_settles 55 = .ok (.iastore, 1) := by decide +kernel
theorem dX8_settles_56 : decode cX8_settles 56 = .ok (.iinc 1 1, 3) := by decide +kernel
theorem dX8_settles_59 : decode cX8_settles 59 = .ok (.goto (-31), 3) := by decide +kernel
theorem dX8_settles_62 : decode cX8_settles 62 = .ok (.iconst 0, 1) := by decide +kernel
theorem dX8_settles_63 : decode cX8_settles 63 = .ok (.istore_n 1, 1) := by decide +kernel
theorem dX8_settles_64 : decode cX8_settles 64 = .ok (.iload_n 1, 1) := by decide +kernel
theorem dX8_settles_65 : decode cX8_settles 65 = .ok (.aload_n 0, 1) := by decide +kernel
theorem dX8_settles_66 : decode cX8_settles 66 = .ok (.getfield 13, 3) := by decide +kernel
theorem dX8_settles_69 : decode cX8_settles 69 = .ok (.iconst 2, 1) := by decide +kernel
theorem dX8_settles_70 : decode cX8_settles 70 = .ok (.iaload, 1) := by decide +kernel
theorem dX8_settles_71 : decode cX8_settles 71 = .ok (.if_icmp .ge 22, 3) := by decide +kernel
theorem dX8_settles_74 : decode cX8_settles 74 = .ok (.aload_n 0, 1) := by decide +kernel
theorem dX8_settles_75 : decode cX8_settles 75 = .ok (.getfield 19, 3) := by decide +kernel
theorem dX8_settles_78 : decode cX8_settles 78 = .ok (.iconst 0, 1) := by decide +kernel
theorem dX8_settles_79 : decode cX8_settles 79 = .ok (.iload_n 1, 1) := by decide +kernel
theorem dX8_settles_80 : decode cX8_settles 80 = .ok (.iadd, 1) := by decide +kernel
theorem dX8_settles_81 : decode cX8_settles 81 = .ok (.aload_n 0, 1) := by decide +kernel
theorem dX8_settles_82 : decode cX8_settles 82 = .ok (.iload_n 1, 1) := by decide +kernel
theorem dX8_settles_83 : decode cX8_settles 83 = .ok (.invokevirtual 121, 3) := by decide +kernel
theorem dX8_settles_86 : decode cX8_settles 86 = .ok (.iastore, 1) := by decide +kernel
theorem dX8_settles_87 : decode cX8_settles 87 = .ok (.iinc 1 1, 3) := by decide +kernel
theorem dX8_settles_90 : decode cX8_settles 90 = .ok (.goto (-26), 3) := by decide +kernel
theorem dX8_settles_93 : decode cX8_settles 93 = .ok (.aload_n 0, 1) := by decide +kernel
theorem dX8_settles_94 : decode cX8_settles 94 = .ok (.iconst 0, 1) := by decide +kernel
theorem dX8_settles_95 : decode cX8_settles 95 = .ok (.putfield 67, 3) := by decide +kernel
theorem dX8_settles_98 : decode cX8_settles 98 = .ok (.aload_n 0, 1) := by decide +kernel
theorem dX8_settles_99 : decode cX8_settles 99 = .ok (.iconst 0, 1) := by decide +kernel
theorem dX8_settles_100 : decode cX8_settles 100 = .ok (.putfield 124, 3) := by decide +kernel
theorem dX8_settles_103 : decode cX8_settles 103 = .ok (.aload_n 0, 1) := by decide +kernel
theorem dX8_settles_104 : decode cX8_settles 104 = .ok (.iconst 0, 1) := by decide +kernel
theorem dX8_settles_105 : decode cX8_settles 105 = .ok (.putfield 127, 3) := by decide +kernel
theorem dX8_settles_108 : decode cX8_settles 108 = .ok (.aload_n 0, 1) := by decide +kernel
theorem dX8_settles_109 : decode cX8_settles 109 = .ok (.getfield 28, 3) := by decide +kernel
theorem dX8_settles_112 : decode cX8_settles 112 = .ok (.iconst 0, 1) := by decide +kernel
theorem dX8_settles_113 : decode cX8_settles 113 = .ok (.iconst 0, 1) := by decide +kernel
theorem dX8_settles_114 : decode cX8_settles 114 = .ok (.bastore, 1) := by decide +kernel
theorem dX8_settles_115 : decode cX8_settles 115 = .ok (.aload_n 0, 1) := by decide +kernel
theorem dX8_settles_116 : decode cX8_settles 116 = .ok (.getfield 28, 3) := by decide +kernel
theorem dX8_settles_119 : decode cX8_settles 119 = .ok (.iconst 1, 1) := by decide +kernel
theorem dX8_settles_120 : decode cX8_settles 120 = .ok (.iconst 0, 1) := by decide +kernel
theorem dX8_settles_121 : decode cX8_settles 121 = .ok (.bastore, 1) := by decide +kernel
theorem dX8_settles_122 : decode cX8_settles 122 = .ok (.return_, 1) := by decide +kernel
theorem dX8_isContact_0 : decode cX8_isContact 0 = .ok (.iload_n 1, 1) := by decide +kernel
theorem dX8_isContact_1 : decode cX8_isContact 1 = .ok (.iconst 0, 1) := by decide +kernel
theorem dX8_isContact_2 : decode cX8_isContact 2 = .ok (.aload_n 0, 1) := by decide +kernel
theorem dX8_isContact_3 : decode cX8_isContact 3 = .ok (.getfield 13, 3) := by decide +kernel
theorem dX8_isContact_6 : decode cX8_isContact 6 = .ok (.iconst 1, 1) := by decide +kernel
theorem dX8_isContact_7 : decode cX8_isContact 7 = .ok (.iaload, 1) := by decide +kernel
theorem dX8_isContact_8 : decode cX8_isContact 8 = .ok (.iconst 1, 1) := by decide +kernel
theorem dX8_isContact_9 : decode cX8_isContact 9 = .ok (.isub, 1) := by decide +kernel
theorem dX8_isContact_10 : decode cX8_isContact 10 = .ok (.invokestatic 63, 3) := by decide +kernel
theorem dX8_isContact_13 : decode cX8_isContact 13 = .ok (.ireturn, 1) := by decide +kernel
theorem dX8_isLoad_0 : decode cX8_isLoad 0 = .ok (.iload_n 1, 1) := by decide +kernel
theorem dX8_isLoad_1 : decode cX8_isLoad 1 = .ok (.iconst 0, 1) := by decide +kernel
theorem dX8_isLoad_2 : decode cX8_isLoad 2 = .ok (.aload_n 0, 1) := by decide +kernel
theorem dX8_isLoad_3 : decode cX8_isLoad 3 = .ok (.getfield 13, 3) := by decide +kernel
theorem dX8_isLoad_6 : decode cX8_isLoad 6 = .ok (.iconst 2, 1) := by decide +kernel
theorem dX8_isLoad_7 : decode cX8_isLoad 7 = .ok (.iaload, 1) := by decide +kernel
theorem dX8_isLoad_8 : decode cX8_isLoad 8 = .ok (.iconst 1, 1) := by decide +kernel
theorem dX8_isLoad_9 : decode cX8_isLoad 9 = .ok (.isub, 1) := by decide +kernel
theorem dX8_isLoad_10 : decode cX8_isLoad 10 = .ok (.invokestatic 63, 3) := by decide +kernel
theorem dX8_isLoad_13 : decode cX8_isLoad 13 = .ok (.ireturn, 1) := by decide +kernel
theorem dX8_isState_0 : decode cX8_isState 0 = .ok (.iload_n 0, 1) := by decide +kernel
theorem dX8_isState_1 : decode cX8_isState 1 = .ok (.iconst 0, 1) := by decide +kernel
theorem dX8_isState_2 : decode cX8_isState 2 = .ok (.bipush 15, 2) := by decide +kernel
theorem dX8_isState_4 : decode cX8_isState 4 = .ok (.invokestatic 63, 3) := by decide +kernel
theorem dX8_isState_7 : decode cX8_isState 7 = .ok (.ireturn, 1) := by decide +kernel
theorem dX8_isShut_0 : decode cX8_isShut 0 = .ok (.aload_n 0, 1) := by decide +kernel
theorem dX8_isShut_1 : decode cX8_isShut 1 = .ok (.getfield 19, 3) := by decide +kernel
theorem dX8_isShut_4 : decode cX8_isShut 4 = .ok (.bipush 21, 2) := by decide +kernel
theorem dX8_isShut_6 : decode cX8_isShut 6 = .ok (.iload_n 1, 1) := by decide +kernel
theorem dX8_isShut_7 : decode cX8_isShut 7 = .ok (.iadd, 1) := by decide +kernel
theorem dX8_isShut_8 : decode cX8_isShut 8 = .ok (.iaload, 1) := by decide +kernel
theorem dX8_isShut_9 : decode cX8_isShut 9 = .ok (.ifCond .eq 22, 3) := by decide +kernel
theorem dX8_isShut_12 : decode cX8_isShut 12 = .ok (.aload_n 0, 1) := by decide +kernel
theorem dX8_isShut_13 : decode cX8_isShut 13 = .ok (.getfield 19, 3) := by decide +kernel
theorem dX8_isShut_16 : decode cX8_isShut 16 = .ok (.bipush 21, 2) := by decide +kernel
theorem dX8_isShut_18 : decode cX8_isShut 18 = .ok (.iload_n 1, 1) := by decide +kernel
theorem dX8_isShut_19 : decode cX8_isShut 19 = .ok (.iadd, 1) := by decide +kernel
theorem dX8_isShut_20 : decode cX8_isShut 20 = .ok (.iaload, 1) := by decide +kernel
theorem dX8_isShut_21 : decode cX8_isShut 21 = .ok (.iconst 2, 1) := by decide +kernel
theorem dX8_isShut_22 : decode cX8_isShut 22 = .ok (.if_icmp .ne 7, 3) := by decide +kernel
theorem dX8_isShut_25 : decode cX8_isShut 25 = .ok (.iconst 1, 1) := by decide +kernel
theorem dX8_isShut_26 : decode cX8_isShut 26 = .ok (.goto 4, 3) := by decide +kernel
theorem dX8_isShut_29 : decode cX8_isShut 29 = .ok (.iconst 0, 1) := by decide +kernel
theorem dX8_isShut_30 : decode cX8_isShut 30 = .ok (.ireturn, 1) := by decide +kernel
theorem dX8_isShut_31 : decode cX8_isShut 31 = .ok (.aload_n 0, 1) := by decide +kernel
theorem dX8_isShut_32 : decode cX8_isShut 32 = .ok (.getfield 13, 3) := by decide +kernel
theorem dX8_isShut_35 : decode cX8_isShut 35 = .ok (.iconst 3, 1) := by decide +kernel
theorem dX8_isShut_36 : decode cX8_isShut 36 = .ok (.iload_n 1, 1) := by decide +kernel
theorem dX8_isShut_37 : decode cX8_isShut 37 = .ok (.iadd, 1) := by decide +kernel
theorem dX8_isShut_38 : decode cX8_isShut 38 = .ok (.iaload, 1) := by decide +kernel
theorem dX8_isShut_39 : decode cX8_isShut 39 = .ok (.istore_n 3, 1) := by decide +kernel
theorem dX8_isShut_40 : decode cX8_isShut 40 = .ok (.iload_n 3, 1) := by decide +kernel
theorem dX8_isShut_41 : decode cX8_isShut 41 = .ok (.ifCond .ne 19, 3) := by decide +kernel
theorem dX8_isShut_44 : decode cX8_isShut 44 = .ok (.iload_n 2, 1) := by decide +kernel
theorem dX8_isShut_45 : decode cX8_isShut 45 = .ok (.aload_n 0, 1) := by decide +kernel
theorem dX8_isShut_46 : decode cX8_isShut 46 = .ok (.getfield 13, 3) := by decide +kernel
theorem dX8_isShut_49 : decode cX8_isShut 49 = .ok (.bipush 30, 2) := by decide +kernel
theorem dX8_isShut_51 : decode cX8_isShut 51 = .ok (.iload_n 1, 1) := by decide +kernel
theorem dX8_isShut_52 : decode cX8_isShut 52 = .ok (.iadd, 1) := by decide +kernel
theorem dX8_isShut_53 : decode cX8_isShut 53 = .ok (.iaload, 1) := by decide +kernel
theorem dX8_isShut_54 : decode cX8_isShut 54 = .ok (.invokestatic 130, 3) := by decide +kernel
theorem dX8_isShut_57 : decode cX8_isShut 57 = .ok (.goto 29, 3) := by decide +kernel
theorem dX8_isShut_60 : decode cX8_isShut 60 = .ok (.iload_n 3, 1) := by decide +kernel
theorem dX8_isShut_61 : decode cX8_isShut 61 = .ok (.iconst 1, 1) := by decide +kernel
theorem dX8_isShut_62 : decode cX8_isShut 62 = .ok (.if_icmp .ne 19, 3) := by decide +kernel
theorem dX8_isShut_65 : decode cX8_isShut 65 = .ok (.iload_n 2, 1) := by decide +kernel
theorem dX8_isShut_66 : decode cX8_isShut 66 = .ok (.aload_n 0, 1) := by decide +kernel
theorem dX8_isShut_67 : decode cX8_isShut 67 = .ok (.getfield 13, 3) := by decide +kernel
theorem dX8_isShut_70 : decode cX8_isShut 70 = .ok (.bipush 30, 2) := by decide +kernel
theorem dX8_isShut_72 : decode cX8_isShut 72 = .ok (.iload_n 1, 1) := by decide +kernel
theorem dX8_isShut_73 : decode cX8_isShut 73 = .ok (.iadd, 1) := by decide +kernel
theorem dX8_isShut_74 : decode cX8_isShut 74 = .ok (.iaload, 1) := by decide +kernel
theorem dX8_isShut_75 : decode cX8_isShut 75 = .ok (.invokestatic 130, 3) := by decide +kernel
theorem dX8_isShut_78 : decode cX8_isShut 78 = .ok (.ifCond .ne 7, 3) := by decide +kernel
theorem dX8_isShut_81 : decode cX8_isShut 81 = .ok (.iconst 1, 1) := by decide +kernel
theorem dX8_isShut_82 : decode cX8_isShut 82 = .ok (.goto 4, 3) := by decide +kernel
theorem dX8_isShut_85 : decode cX8_isShut 85 = .ok (.iconst 0, 1) := by decide +kernel
theorem dX8_isShut_86 : decode cX8_isShut 86 = .ok (.istore 4, 2) := by decide +kernel
theorem dX8_isShut_88 : decode cX8_isShut 88 = .ok (.aload_n 0, 1) := by decide +kernel
theorem dX8_isShut_89 : decode cX8_isShut 89 = .ok (.getfield 19, 3) := by decide +kernel
theorem dX8_isShut_92 : decode cX8_isShut 92 = .ok (.iconst 3, 1) := by decide +kernel
theorem dX8_isShut_93 : decode cX8_isShut 93 = .ok (.iload_n 1, 1) := by decide +kernel
theorem dX8_isShut_94 : decode cX8_isShut 94 = .ok (.iadd, 1) := by decide +kernel
theorem dX8_isShut_95 : decode cX8_isShut 95 = .ok (.iaload, 1) := by decide +kernel
theorem dX8_isShut_96 : decode cX8_isShut 96 = .ok (.istore 5, 2) := by decide +kernel
theorem dX8_isShut_98 : decode cX8_isShut 98 = .ok (.iload 4, 2) := by decide +kernel
theorem dX8_isShut_100 : decode cX8_isShut 100 = .ok (.ifCond .eq 39, 3) := by decide +kernel
theorem dX8_isShut_103 : decode cX8_isShut 103 = .ok (.iload 5, 2) := by decide +kernel
theorem dX8_isShut_105 : decode cX8_isShut 105 = .ok (.iconst 1, 1) := by decide +kernel
theorem dX8_isShut_106 : decode cX8_isShut 106 = .ok (.if_icmp .gt 29, 3) := by decide +kernel
theorem dX8_isShut_109 : decode cX8_isShut 109 = .ok (.iload_n 2, 1) := by decide +kernel
theorem dX8_isShut_110 : decode cX8_isShut 110 = .ok (.aload_n 0, 1) := by decide +kernel
theorem dX8_isShut_111 : decode cX8_isShut 111 = .ok (.getfield 19, 3) := by decide +kernel
theorem dX8_isShut_114 : decode cX8_isShut 114 = .ok (.bipush 12, 2) := by decide +kernel
theorem dX8_isShut_116 : decode cX8_isShut 116 = .ok (.iload_n 1, 1) := by decide +kernel
theorem dX8_isShut_117 : decode cX8_isShut 117 = .ok (.iadd, 1) := by decide +kernel
theorem dX8_isShut_118 : decode cX8_isShut 118 = .ok (.iaload, 1) := by decide +kernel
theorem dX8_isShut_119 : decode cX8_isShut 119 = .ok (.invokestatic 130, 3) := by decide +kernel
theorem dX8_isShut_122 : decode cX8_isShut 122 = .ok (.iload 5, 2) := by decide +kernel
theorem dX8_isShut_124 : decode cX8_isShut 124 = .ok (.ifCond .ne 7, 3) := by decide +kernel
theorem dX8_isShut_127 : decode cX8_isShut 127 = .ok (.iconst 1, 1) := by decide +kernel
theorem dX8_isShut_128 : decode cX8_isShut 128 = .ok (.goto 4, 3) := by decide +kernel
theorem dX8_isShut_131 : decode cX8_isShut 131 = .ok (.iconst 0, 1) := by decide +kernel
theorem dX8_isShut_132 : decode cX8_isShut 132 = .ok (.if_icmp .ne 7, 3) := by decide +kernel
theorem dX8_isShut_135 : decode cX8_isShut 135 = .ok (.iconst 1, 1) := by decide +kernel
theorem dX8_isShut_136 : decode cX8_isShut 136 = .ok (.goto 4, 3) := by decide +kernel
theorem dX8_isShut_139 : decode cX8_isShut 139 = .ok (.iconst 0, 1) := by decide +kernel
theorem dX8_isShut_140 : decode cX8_isShut 140 = .ok (.ireturn, 1) := by decide +kernel
theorem dX8_isWay_0 : decode cX8_isWay 0 = .ok (.aload_n 0, 1) := by decide +kernel
theorem dX8_isWay_1 : decode cX8_isWay 1 = .ok (.getfield 19, 3) := by decide +kernel
theorem dX8_isWay_4 : decode cX8_isWay 4 = .ok (.bipush 21, 2) := by decide +kernel
theorem dX8_isWay_6 : decode cX8_isWay 6 = .ok (.iload_n 1, 1) := by decide +kernel
theorem dX8_isWay_7 : decode cX8_isWay 7 = .ok (.iadd, 1) := by decide +kernel
theorem dX8_isWay_8 : decode cX8_isWay 8 = .ok (.iaload, 1) := by decide +kernel
theorem dX8_isWay_9 : decode cX8_isWay 9 = .ok (.ifCond .eq 22, 3) := by decide +kernel
theorem dX8_isWay_12 : decode cX8_isWay 12 = .ok (.aload_n 0, 1) := by decide +kernel
theorem dX8_isWay_13 : decode cX8_isWay 13 = .ok (.getfield 19, 3) := by decide +kernel
theorem dX8_isWay_16 : decode cX8_isWay 16 = .ok (.bipush 21, 2) := by decide +kernel
theorem dX8_isWay_18 : decode cX8_isWay 18 = .ok (.iload_n 1, 1) := by decide +kernel
theorem dX8_isWay_19 : decode cX8_isWay 19 = .ok (.iadd, 1) := by decide +kernel
theorem dX8_isWay_20 : decode cX8_isWay 20 = .ok (.iaload, 1) := by decide +kernel
theorem dX8_isWay_21 : decode cX8_isWay 21 = .ok (.iconst 2, 1) := by decide +kernel
theorem dX8_isWay_22 : decode cX8_isWay 22 = .ok (.if_icmp .ne 7, 3) := by decide +kernel
theorem dX8_isWay_25 : decode cX8_isWay 25 = .ok (.iconst 1, 1) := by decide +kernel
theorem dX8_isWay_26 : decode cX8_isWay 26 = .ok (.goto 4, 3) := by decide +kernel
theorem dX8_isWay_29 : decode cX8_isWay 29 = .ok (.iconst 0, 1) := by decide +kernel
theorem dX8_isWay_30 : decode cX8_isWay 30 = .ok (.ireturn, 1) := by decide +kernel
theorem dX8_isWay_31 : decode cX8_isWay 31 = .ok (.iload_n 2, 1) := by decide +kernel
theorem dX8_isWay_32 : decode cX8_isWay 32 = .ok (.ifCond .eq 35, 3) := by decide +kernel
theorem dX8_isWay_35 : decode cX8_isWay 35 = .ok (.aload_n 0, 1) := by decide +kernel
theorem dX8_isWay_36 : decode cX8_isWay 36 = .ok (.getfield 13, 3) := by decide +kernel
theorem dX8_isWay_39 : decode cX8_isWay 39 = .ok (.iconst 3, 1) := by decide +kernel
theorem dX8_isWay_40 : decode cX8_isWay 40 = .ok (.iload_n 1, 1) := by decide +kernel
theorem dX8_isWay_41 : decode cX8_isWay 41 = .ok (.iadd, 1) := by decide +kernel
theorem dX8_isWay_42 : decode cX8_isWay 42 = .ok (.iaload, 1) := by decide +kernel
theorem dX8_isWay_43 : decode cX8_isWay 43 = .ok (.iconst 3, 1) := by decide +kernel
theorem dX8_isWay_44 : decode cX8_isWay 44 = .ok (.if_icmp .eq 19, 3) := by decide +kernel
theorem dX8_isWay_47 : decode cX8_isWay 47 = .ok (.aload_n 0, 1) := by decide +kernel
theorem dX8_isWay_48 : decode cX8_isWay 48 = .ok (.getfield 19, 3) := by decide +kernel
theorem dX8_isWay_51 : decode cX8_isWay 51 = .ok (.iconst 3, 1) := by decide +kernel
theorem dX8_isWay_52 : decode cX8_isWay 52 = .ok (.iload_n 1, 1) := by decide +kernel
theorem dX8_isWay_53 : decode cX8_isWay 53 = .ok (.iadd, 1) := by decide +kernel
theorem dX8_isWay_54 : decode cX8_isWay 54 = .ok (.iaload, 1) := by decide +kernel
theorem dX8_isWay_55 : decode cX8_isWay 55 = .ok (.iconst 2, 1) := by decide +kernel
theorem dX8_isWay_56 : decode cX8_isWay 56 = .ok (.if_icmp .eq 7, 3) := by decide +kernel
theorem dX8_isWay_59 : decode cX8_isWay 59 = .ok (.iconst 1, 1) := by decide +kernel
theorem dX8_isWay_60 : decode cX8_isWay 60 = .ok (.goto 24, 3) := by decide +kernel
theorem dX8_isWay_63 : decode cX8_isWay 63 = .ok (.iconst 0, 1) := by decide +kernel
theorem dX8_isWay_64 : decode cX8_isWay 64 = .ok (.goto 20, 3) := by decide +kernel
theorem dX8_isWay_67 : decode cX8_isWay 67 = .ok (.aload_n 0, 1) := by decide +kernel
theorem dX8_isWay_68 : decode cX8_isWay 68 = .ok (.getfield 19, 3) := by decide +kernel
theorem dX8_isWay_71 : decode cX8_isWay 71 = .ok (.iconst 3, 1) := by decide +kernel
theorem dX8_isWay_72 : decode cX8_isWay 72 = .ok (.iload_n 1, 1) := by decide +kernel
theorem dX8_isWay_73 : decode cX8_isWay 73 = .ok (.iadd, 1) := by decide +kernel
theorem dX8_isWay_74 : decode cX8_isWay 74 = .ok (.iaload, 1) := by decide +kernel
theorem dX8_isWay_75 : decode cX8_isWay 75 = .ok (.iconst 3, 1) := by decide +kernel
theorem dX8_isWay_76 : decode cX8_isWay 76 = .ok (.if_icmp .eq 7, 3) := by decide +kernel
theorem dX8_isWay_79 : decode cX8_isWay 79 = .ok (.iconst 1, 1) := by decide +kernel
theorem dX8_isWay_80 : decode cX8_isWay 80 = .ok (.goto 4, 3) := by decide +kernel
theorem dX8_isWay_83 : decode cX8_isWay 83 = .ok (.iconst 0, 1) := by decide +kernel
theorem dX8_isWay_84 : decode cX8_isWay 84 = .ok (.ireturn, 1) := by decide +kernel
theorem dX8_live_0 : decode cX8_live 0 = .ok (.iconst 1, 1) := by decide +kernel
theorem dX8_live_1 : decode cX8_live 1 = .ok (.istore_n 3, 1) := by decide +kernel
theorem dX8_live_2 : decode cX8_live 2 = .ok (.iconst 0, 1) := by decide +kernel
theorem dX8_live_3 : decode cX8_live 3 = .ok (.istore 4, 2) := by decide +kernel
theorem dX8_live_5 : decode cX8_live 5 = .ok (.iload 4, 2) := by decide +kernel
theorem dX8_live_7 : decode cX8_live 7 = .ok (.aload_n 0, 1) := by decide +kernel
theorem dX8_live_8 : decode cX8_live 8 = .ok (.getfield 13, 3) := by decide +kernel
theorem dX8_live_11 : decode cX8_live 11 = .ok (.iconst 0, 1) := by decide +kernel
theorem dX8_live_12 : decode cX8_live 12 = .ok (.iaload, 1) := by decide +kernel
theorem dX8_live_13 : decode cX8_live 13 = .ok (.if_icmp .ge 132, 3) := by decide +kernel
theorem dX8_live_16 : decode cX8_live 16 = .ok (.iconst 0, 1) := by decide +kernel
theorem dX8_live_17 : decode cX8_live 17 = .ok (.istore 5, 2) := by decide +kernel
theorem dX8_live_19 : decode cX8_live 19 = .ok (.iload 5, 2) := by decide +kernel
theorem dX8_live_21 : decode cX8_live 21 = .ok (.aload_n 0, 1) := by decide +kernel
theorem dX8_live_22 : decode cX8_live 22 = .ok (.getfield 13, 3) := by decide +kernel
theorem dX8_live_25 : decode cX8_live 25 = .ok (.iconst 1, 1) := by decide +kernel
theorem dX8_live_26 : decode cX8_live 26 = .ok (.iaload, 1) := by decide +kernel
theorem dX8_live_27 : decode cX8_live 27 = .ok (.if_icmp .ge 112, 3) := by decide +kernel
theorem dX8_live_30 : decode cX8_live 30 = .ok (.iload_n 2, 1) := by decide +kernel
theorem dX8_live_31 : decode cX8_live 31 = .ok (.iload 5, 2) := by decide +kernel
theorem dX8_live_33 : decode cX8_live 33 = .ok (.invokestatic 130, 3) := by decide +kernel
theorem dX8_live_36 : decode cX8_live 36 = .ok (.ifCond .ne 97, 3) := by decide +kernel
theorem dX8_live_39 : decode cX8_live 39 = .ok (.aload_n 0, 1) := by decide +kernel
theorem dX8_live_40 : decode cX8_live 40 = .ok (.iload 5, 2) := by decide +kernel
theorem dX8_live_42 : decode cX8_live 42 = .ok (.iload_n 1, 1) := by decide +kernel
theorem dX8_live_43 : decode cX8_live 43 = .ok (.invokevirtual 133, 3) := by decide +kernel
theorem dX8_live_46 : decode cX8_live 46 = .ok (.ifCond .eq 87, 3) := by decide +kernel
theorem dX8_live_49 : decode cX8_live 49 = .ok (.aload_n 0, 1) := by decide +kernel
theorem dX8_live_50 : decode cX8_live 50 = .ok (.getfield 13, 3) := by decide +kernel
theorem dX8_live_53 : decode cX8_live 53 = .ok (.bipush 12, 2) := by decide +kernel
theorem dX8_live_55 : decode cX8_live 55 = .ok (.iload 5, 2) := by decide +kernel
theorem dX8_live_57 : decode cX8_live 57 = .ok (.iadd, 1) := by decide +kernel
theorem dX8_live_58 : decode cX8_live 58 = .ok (.iaload, 1) := by decide +kernel
theorem dX8_live_59 : decode cX8_live 59 = .ok (.istore 6, 2) := by decide +kernel
theorem dX8_live_61 : decode cX8_live 61 = .ok (.aload_n 0, 1) := by decide +kernel
theorem dX8_live_62 : decode cX8_live 62 = .ok (.getfield 13, 3) := by decide +kernel
theorem dX8_live_65 : decode cX8_live 65 = .ok (.bipush 21, 2) := by decide +kernel
theorem dX8_live_67 : decode cX8_live 67 = .ok (.iload 5, 2) := by decide +kernel
theorem dX8_live_69 : decode cX8_live 69 = .ok (.iadd, 1) := by decide +kernel
theorem dX8_live_70 : decode cX8_live 70 = .ok (.iaload, 1) := by decide +kernel
theorem dX8_live_71 : decode cX8_live 71 = .ok (.istore 7, 2) := by decide +kernel
theorem dX8_live_73 : decode cX8_live 73 = .ok (.iload_n 3, 1) := by decide +kernel
theorem dX8_live_74 : decode cX8_live 74 = .ok (.iload_n 3, 1) := by decide +kernel
theorem dX8_live_75 : decode cX8_live 75 = .ok (.iload 6, 2) := by decide +kernel
theorem dX8_live_77 : decode cX8_live 77 = .ok (.invokestatic 130, 3) := by decide +kernel
theorem dX8_live_80 : decode cX8_live 80 = .ok (.ifCond .eq 20, 3) := by decide +kernel
theorem dX8_live_83 : decode cX8_live 83 = .ok (.aload_n 0, 1) := by decide +kernel
theorem dX8_live_84 : decode cX8_live 84 = .ok (.iload 5, 2) := by decide +kernel
theorem dX8_live_86 : decode cX8_live 86 = .ok (.iconst 0, 1) := by decide +kernel
theorem dX8_live_87 : decode cX8_live 87 = .ok (.invokevirtual 136, 3) := by decide +kernel
theorem dX8_live_90 : decode cX8_live 90 = .ok (.ifCond .eq 10, 3) := by decide +kernel
theorem dX8_live_93 : decode cX8_live 93 = .ok (.iconst 1, 1) := by decide +kernel
theorem dX8_live_94 : decode cX8_live 94 = .ok (.iload 7, 2) := by decide +kernel
theorem dX8_live_96 : decode cX8_live 96 = .ok (.ishl, 1) := by decide +kernel
theorem dX8_live_97 : decode cX8_live 97 = .ok (.goto 4, 3) := by decide +kernel
theorem dX8_live_100 : decode cX8_live 100 = .ok (.iconst 0, 1) := by decide +kernel
theorem dX8_live_101 : decode cX8_live 101 = .ok (.ior, 1) := by decide +kernel
theorem dX8_live_102 : decode cX8_live 102 = .ok (.istore_n 3, 1) := by decide +kernel
theorem dX8_live_103 : decode cX8_live 103 = .ok (.iload_n 3, 1) := by decide +kernel
theorem dX8_live_104 : decode cX8_live 104 = .ok (.iload_n 3, 1) := by decide +kernel
theorem dX8_live_105 : decode cX8_live 105 = .ok (.iload 7, 2) := by decide +kernel
theorem dX8_live_107 : decode cX8_live 107 = .ok (.invokestatic 130, 3) := by decide +kernel
theorem dX8_live_110 : decode cX8_live 110 = .ok (.ifCond .eq 20, 3) := by decide +kernel
theorem dX8_live_113 : decode cX8_live 113 = .ok (.aload_n 0, 1) := by decide +kernel
theorem dX8_live_114 : decode cX8_live 114 = .ok (.iload 5, 2) := by decide +kernel
theorem dX8_live_116 : decode cX8_live 116 = .ok (.iconst 1, 1) := by decide +kernel
theorem dX8_live_117 : decode cX8_live 117 = .ok (.invokevirtual 136, 3) := by decide +kernel
theorem dX8_live_120 : decode cX8_live 120 = .ok (.ifCond .eq 10, 3) := by decide +kernel
theorem dX8_live_123 : decode cX8_live 123 = .ok (.iconst 1, 1) := by decide +kernel
theorem dX8_live_124 : decode cX8_live 124 = .ok (.iload 6, 2) := by decide +kernel
theorem dX8_live_126 : decode cX8_live 126 = .ok (.ishl, 1) := by decide +kernel
theorem dX8_live_127 : decode cX8_live 127 = .ok (.goto 4, 3) := by decide +kernel
theorem dX8_live_130 : decode cX8_live 130 = .ok (.iconst 0, 1) := by decide +kernel
theorem dX8_live_131 : decode cX8_live 131 = .ok (.ior, 1) := by decide +kernel
theorem dX8_live_132 : decode cX8_live 132 = .ok (.istore_n 3, 1) := by decide +kernel
theorem dX8_live_133 : decode cX8_live 133 = .ok (.iinc 5 1, 3) := by decide +kernel
theorem dX8_live_136 : decode cX8_live 136 = .ok (.goto (-117), 3) := by decide +kernel
theorem dX8_live_139 : decode cX8_live 139 = .ok (.iinc 4 1, 3) := by decide +kernel
theorem dX8_live_142 : decode cX8_live 142 = .ok (.goto (-137), 3) := by decide +kernel
theorem dX8_live_145 : decode cX8_live 145 = .ok (.iload_n 3, 1) := by decide +kernel
theorem dX8_live_146 : decode cX8_live 146 = .ok (.ireturn, 1) := by decide +kernel
theorem dX8_isFed_0 : decode cX8_isFed 0 = .ok (.aload_n 0, 1) := by decide +kernel
theorem dX8_isFed_1 : decode cX8_isFed 1 = .ok (.iload_n 2, 1) := by decide +kernel
theorem dX8_isFed_2 : decode cX8_isFed 2 = .ok (.iload_n 3, 1) := by decide +kernel
theorem dX8_isFed_3 : decode cX8_isFed 3 = .ok (.invokevirtual 140, 3) := by decide +kernel
theorem dX8_isFed_6 : decode cX8_isFed 6 = .ok (.aload_n 0, 1) := by decide +kernel
theorem dX8_isFed_7 : decode cX8_isFed 7 = .ok (.getfield 13, 3) := by decide +kernel
theorem dX8_isFed_10 : decode cX8_isFed 10 = .ok (.bipush 39, 2) := by decide +kernel
theorem dX8_isFed_12 : decode cX8_isFed 12 = .ok (.iload_n 1, 1) := by decide +kernel
theorem dX8_isFed_13 : decode cX8_isFed 13 = .ok (.iadd, 1) := by decide +kernel
theorem dX8_isFed_14 : decode cX8_isFed 14 = .ok (.iaload, 1) := by decide +kernel
theorem dX8_isFed_15 : decode cX8_isFed 15 = .ok (.invokestatic 130, 3) := by decide +kernel
theorem dX8_isFed_18 : decode cX8_isFed 18 = .ok (.ireturn, 1) := by decide +kernel
theorem dX8_fedIn_0 : decode cX8_fedIn 0 = .ok (.iconst 0, 1) := by decide +kernel
theorem dX8_fedIn_1 : decode cX8_fedIn 1 = .ok (.istore_n 2, 1) := by decide +kernel
theorem dX8_fedIn_2 : decode cX8_fedIn 2 = .ok (.iconst 0, 1) := by decide +kernel
theorem dX8_fedIn_3 : decode cX8_fedIn 3 = .ok (.istore_n 3, 1) := by decide +kernel
theorem dX8_fedIn_4 : decode cX8_fedIn 4 = .ok (.iload_n 3, 1) := by decide +kernel
theorem dX8_fedIn_5 : decode cX8_fedIn 5 = .ok (.bipush 16, 2) := by decide +kernel
theorem dX8_fedIn_7 : decode cX8_fedIn 7 = .ok (.if_icmp .ge 29, 3) := by decide +kernel
theorem dX8_fedIn_10 : decode cX8_fedIn 10 = .ok (.iload_n 2, 1) := by decide +kernel
theorem dX8_fedIn_11 : decode cX8_fedIn 11 = .ok (.aload_n 0, 1) := by decide +kernel
theorem dX8_fedIn_12 : decode cX8_fedIn 12 = .ok (.iload_n 1, 1) := by decide +kernel
theorem dX8_fedIn_13 : decode cX8_fedIn 13 = .ok (.iload_n 3, 1) := by decide +kernel
theorem dX8_fedIn_14 : decode cX8_fedIn 14 = .ok (.iconst 0, 1) := by decide +kernel
theorem dX8_fedIn_15 : decode cX8_fedIn 15 = .ok (.invokevirtual 144, 3) := by decide +kernel
theorem dX8_fedIn_18 : decode cX8_fedIn 18 = .ok (.ifCond .eq 9, 3) := by decide +kernel
theorem dX8_fedIn_21 : decode cX8_fedIn 21 = .ok (.iconst 1, 1) := by decide +kernel
theorem dX8_fedIn_22 : decode cX8_fedIn 22 = .ok (.iload_n 3, 1) := by decide +kernel
theorem dX8_fedIn_23 : decode cX8_fedIn 23 = .ok (.ishl, 1) := by decide +kernel
theorem dX8_fedIn_24 : decode cX8_fedIn 24 = .ok (.goto 4, 3) := by decide +kernel
theorem dX8_fedIn_27 : decode cX8_fedIn 27 = .ok (.iconst 0, 1) := by decide +kernel
theorem dX8_fedIn_28 : decode cX8_fedIn 28 = .ok (.ior, 1) := by decide +kernel
theorem dX8_fedIn_29 : decode cX8_fedIn 29 = .ok (.istore_n 2, 1) := by decide +kernel
theorem dX8_fedIn_30 : decode cX8_fedIn 30 = .ok (.iinc 3 1, 3) := by decide +kernel
theorem dX8_fedIn_33 : decode cX8_fedIn 33 = .ok (.goto (-29), 3) := by decide +kernel
theorem dX8_fedIn_36 : decode cX8_fedIn 36 = .ok (.iload_n 2, 1) := by decide +kernel
theorem dX8_fedIn_37 : decode cX8_fedIn 37 = .ok (.ireturn, 1) := by decide +kernel
theorem dX8_contact_0 : decode cX8_contact 0 = .ok (.aload_n 0, 1) := by decide +kernel
theorem dX8_contact_1 : decode cX8_contact 1 = .ok (.iconst 0, 1) := by decide +kernel
theorem dX8_contact_2 : decode cX8_contact 2 = .ok (.putfield 59, 3) := by decide +kernel
theorem dX8_contact_5 : decode cX8_contact 5 = .ok (.aload_n 0, 1) := by decide +kernel
theorem dX8_contact_6 : decode cX8_contact 6 = .ok (.iload_n 1, 1) := by decide +kernel
theorem dX8_contact_7 : decode cX8_contact 7 = .ok (.invokevirtual 147, 3) := by decide +kernel
theorem dX8_contact_10 : decode cX8_contact 10 = .ok (.ifCond .eq 13, 3) := by decide +kernel
theorem dX8_contact_13 : decode cX8_contact 13 = .ok (.iload_n 2, 1) := by decide +kernel
theorem dX8_contact_14 : decode cX8_contact 14 = .ok (.iconst 0, 1) := by decide +kernel
theorem dX8_contact_15 : decode cX8_contact 15 = .ok (.bipush 6, 2) := by decide +kernel
theorem dX8_contact_17 : decode cX8_contact 17 = .ok (.invokestatic 63, 3) := by decide +kernel
theorem dX8_contact_20 : decode cX8_contact 20 = .ok (.ifCond .ne 5, 3) := by decide +kernel
theorem dX8_contact_23 : decode cX8_contact 23 = .ok (.iconst (-1), 1) := by decide +kernel
theorem dX8_contact_24 : decode cX8_contact 24 = .ok (.ireturn, 1) := by decide +kernel
theorem dX8_contact_25 : decode cX8_contact 25 = .ok (.iload_n 2, 1) := by decide +kernel
theorem dX8_contact_26 : decode cX8_contact 26 = .ok (.iconst 4, 1) := by decide +kernel
theorem dX8_contact_27 : decode cX8_contact 27 = .ok (.if_icmp .ge 62, 3) := by decide +kernel
theorem dX8_contact_30 : decode cX8_contact 30 = .ok (.iload_n 2, 1) := by decide +kernel
theorem dX8_contact_31 : decode cX8_contact 31 = .ok (.ifCond .ne 14, 3) := by decide +kernel
theorem dX8_contact_34 : decode cX8_contact 34 = .ok (.aload_n 0, 1) := by decide +kernel
theorem dX8_contact_35 : decode cX8_contact 35 = .ok (.getfield 13, 3) := by decide +kernel
theorem dX8_contact_38 : decode cX8_contact 38 = .ok (.iconst 3, 1) := by decide +kernel
theorem dX8_contact_39 : decode cX8_contact 39 = .ok (.iload_n 1, 1) := by decide +kernel
theorem dX8_contact_40 : decode cX8_contact 40 = .ok (.iadd, 1) := by decide +kernel
theorem dX8_contact_41 : decode cX8_contact 41 = .ok (.iaload, 1) := by decide +kernel
theorem dX8_contact_42 : decode cX8_contact 42 = .ok (.goto 46, 3) := by decide +kernel
theorem dX8_contact_45 : decode cX8_contact 45 = .ok (.iload_n 2, 1) := by decide +kernel
theorem dX8_contact_46 : decode cX8_contact 46 = .ok (.iconst 1, 1) := by decide +kernel
theorem dX8_contact_47 : decode cX8_contact 47 = .ok (.if_icmp .ne 15, 3) := by decide +kernel
theorem dX8_contact_50 : decode cX8_contact 50 = .ok (.aload_n 0, 1) := by decide +kernel
theorem dX8_contact_51 : decode cX8_contact 51 = .ok (.getfield 13, 3) := by decide +kernel
theorem dX8_contact_54 : decode cX8_contact 54 = .ok (.bipush 12, 2) := by decide +kernel
theorem dX8_contact_56 : decode cX8_contact 56 = .ok (.iload_n 1, 1) := by decide +kernel
theorem dX8_contact_57 : decode cX8_contact 57 = .ok (.iadd, 1) := by decide +kernel
theorem dX8_contact_58 : decode cX8_contact 58 = .ok (.iaload, 1) := by decide +kernel
theorem dX8_contact_59 : decode cX8_contact 59 = .ok (.goto 29, 3) := by decide +kernel
theorem dX8_contact_62 : decode cX8_contact 62 = .ok (.iload_n 2, 1) := by decide +kernel
theorem dX8_contact_63 : decode cX8_contact 63 = .ok (.iconst 2, 1) := by decide +kernel
theorem dX8_contact_64 : decode cX8_contact 64 = .ok (.if_icmp .ne 15, 3) := by decide +kernel
theorem dX8_contact_67 : decode cX8_contact 67 = .ok (.aload_n 0, 1) := by decide +kernel
theorem dX8_contact_68 : decode cX8_contact 68 = .ok (.getfield 13, 3) := by decide +kernel
theorem dX8_contact_71 : decode cX8_contact 71 = .ok (.bipush 21, 2) := by decide +kernel
theorem dX8_contact_73 : decode cX8_contact 73 = .ok (.iload_n 1, 1) := by decide +kernel
theorem dX8_contact_74 : decode cX8_contact 74 = .ok (.iadd, 1) := by decide +kernel
theorem dX8_contact_75 : decode cX8_contact 75 = .ok (.iaload, 1) := by decide +kernel
theorem dX8_contact_76 : decode cX8_contact 76 = .ok (.goto 12, 3) := by decide +kernel
theorem dX8_contact_79 : decode cX8_contact 79 = .ok (.aload_n 0, 1) := by decide +kernel
theorem dX8_contact_80 : decode cX8_contact 80 = .ok (.getfield 13, 3) := by decide +kernel
theorem dX8_contact_83 : decode cX8_contact 83 = .ok (.bipush 30, 2) := by decide +kernel
theorem dX8_contact_85 : decode cX8_contact 85 = .ok (.iload_n 1, 1) := by decide +kernel
theorem dX8_contact_86 : decode cX8_contact 86 = .ok (.iadd, 1) := by decide +kernel
theorem dX8_contact_87 : decode cX8_contact 87 = .ok (.iaload, 1) := by decide +kernel
theorem dX8_contact_88 : decode cX8_contact 88 = .ok (.ireturn, 1) := by decide +kernel
theorem dX8_contact_89 : decode cX8_contact 89 = .ok (.iload_n 2, 1) := by decide +kernel
theorem dX8_contact_90 : decode cX8_contact 90 = .ok (.iconst 4, 1) := by decide +kernel
theorem dX8_contact_91 : decode cX8_contact 91 = .ok (.if_icmp .ne 14, 3) := by decide +kernel
theorem dX8_contact_94 : decode cX8_contact 94 = .ok (.aload_n 0, 1) := by decide +kernel
theorem dX8_contact_95 : decode cX8_contact 95 = .ok (.getfield 19, 3) := by decide +kernel
theorem dX8_contact_98 : decode cX8_contact 98 = .ok (.iconst 3, 1) := by decide +kernel
theorem dX8_contact_99 : decode cX8_contact 99 = .ok (.iload_n 1, 1) := by decide +kernel
theorem dX8_contact_100 : decode cX8_contact 100 = .ok (.iadd, 1) := by decide +kernel
theorem dX8_contact_101 : decode cX8_contact 101 = .ok (.iaload, 1) := by decide +kernel
theorem dX8_contact_102 : decode cX8_contact 102 = .ok (.goto 46, 3) := by decide +kernel
theorem dX8_contact_105 : decode cX8_contact 105 = .ok (.iload_n 2, 1) := by decide +kernel
theorem dX8_contact_106 : decode cX8_contact 106 = .ok (.iconst 5, 1) := by decide +kernel
theorem dX8_contact_107 : decode cX8_contact 107 = .ok (.if_icmp .ne 32, 3) := by decide +kernel
theorem dX8_contact_110 : decode cX8_contact 110 = .ok (.aload_n 0, 1) := by decide +kernel
theorem dX8_contact_111 : decode cX8_contact 111 = .ok (.getfield 19, 3) := by decide +kernel
theorem dX8_contact_114 : decode cX8_contact 114 = .ok (.iconst 3, 1) := by decide +kernel
theorem dX8_contact_115 : decode cX8_contact 115 = .ok (.iload_n 1, 1) := by decide +kernel
theorem dX8_contact_116 : decode cX8_contact 116 = .ok (.iadd, 1) := by decide +kernel
theorem dX8_contact_117 : decode cX8_contact 117 = .ok (.iaload, 1) := by decide +kernel
theorem dX8_contact_118 : decode cX8_contact 118 = .ok (.iconst 2, 1) := by decide +kernel
theorem dX8_contact_119 : decode cX8_contact 119 = .ok (.if_icmp .ge 15, 3) := by decide +kernel
theorem dX8_contact_122 : decode cX8_contact 122 = .ok (.aload_n 0, 1) := by decide +kernel
theorem dX8_contact_123 : decode cX8_contact 123 = .ok (.getfield 19, 3) := by decide +kernel
theorem dX8_contact_126 : decode cX8_contact 126 = .ok (.bipush 12, 2) := by decide +kernel
theorem dX8_contact_128 : decode cX8_contact 128 = .ok (.iload_n 1, 1) := by decide +kernel
theorem dX8_contact_129 : decode cX8_contact 129 = .ok (.iadd, 1) := by decide +kernel
theorem dX8_contact_130 : decode cX8_contact 130 = .ok (.iaload, 1) := by decide +kernel
theorem dX8_contact_131 : decode cX8_contact 131 = .ok (.goto 17, 3) := by decide +kernel
theorem dX8_contact_134 : decode cX8_contact 134 = .ok (.bipush (-9), 2) := by decide +kernel
theorem dX8_contact_136 : decode cX8_contact 136 = .ok (.goto 12, 3) := by decide +kernel
theorem dX8_contact_139 : decode cX8_contact 139 = .ok (.aload_n 0, 1) := by decide +kernel
theorem dX8_contact_140 : decode cX8_contact 140 = .ok (.getfield 19, 3) := by decide +kernel
theorem dX8_contact_143 : decode cX8_contact 143 = .ok (.bipush 21, 2) := by decide +kernel
theorem dX8_contact_145 : decode cX8_contact 145 = .ok (.iload_n 1, 1) := by decide +kernel
theorem dX8_contact_146 : decode cX8_contact 146 = .ok (.iadd, 1) := by decide +kernel
theorem dX8_contact_147 : decode cX8_contact 147 = .ok (.iaload, 1) := by decide +kernel
theorem dX8_contact_148 : decode cX8_contact 148 = .ok (.ireturn, 1) := by decide +kernel
theorem dX8_load_0 : decode cX8_load 0 = .ok (.aload_n 0, 1) := by decide +kernel
theorem dX8_load_1 : decode cX8_load 1 = .ok (.iconst 0, 1) := by decide +kernel
theorem dX8_load_2 : decode cX8_load 2 = .ok (.putfield 59, 3) := by decide +kernel
theorem dX8_load_5 : decode cX8_load 5 = .ok (.aload_n 0, 1) := by decide +kernel
theorem dX8_load_6 : decode cX8_load 6 = .ok (.iload_n 1, 1) := by decide +kernel
theorem dX8_load_7 : decode cX8_load 7 = .ok (.invokevirtual 150, 3) := by decide +kernel
theorem dX8_load_10 : decode cX8_load 10 = .ok (.ifCond .eq 12, 3) := by decide +kernel
theorem dX8_load_13 : decode cX8_load 13 = .ok (.iload_n 2, 1) := by decide +kernel
theorem dX8_load_14 : decode cX8_load 14 = .ok (.iconst 0, 1) := by decide +kernel
theorem dX8_load_15 : decode cX8_load 15 = .ok (.iconst 5, 1) := by decide +kernel
theorem dX8_load_16 : decode cX8_load 16 = .ok (.invokestatic 63, 3) := by decide +kernel
theorem dX8_load_19 : decode cX8_load 19 = .ok (.ifCond .ne 5, 3) := by decide +kernel
theorem dX8_load_22 : decode cX8_load 22 = .ok (.iconst (-1), 1) := by decide +kernel
theorem dX8_load_23 : decode cX8_load 23 = .ok (.ireturn, 1) := by decide +kernel
theorem dX8_load_24 : decode cX8_load 24 = .ok (.aload_n 0, 1) := by decide +kernel
theorem dX8_load_25 : decode cX8_load 25 = .ok (.iload_n 1, 1) := by decide +kernel
theorem dX8_load_26 : decode cX8_load 26 = .ok (.invokevirtual 121, 3) := by decide +kernel
theorem dX8_load_29 : decode cX8_load 29 = .ok (.istore_n 3, 1) := by decide +kernel
theorem dX8_load_30 : decode cX8_load 30 = .ok (.aload_n 0, 1) := by decide +kernel
theorem dX8_load_31 : decode cX8_load 31 = .ok (.getfield 19, 3) := by decide +kernel
theorem dX8_load_34 : decode cX8_load 34 = .ok (.iconst 0, 1) := by decide +kernel
theorem dX8_load_35 : decode cX8_load 35 = .ok (.iload_n 1, 1) := by decide +kernel
theorem dX8_load_36 : decode cX8_load 36 = .ok (.iadd, 1) := by decide +kernel
theorem dX8_load_37 : decode cX8_load 37 = .ok (.iaload, 1) := by decide +kernel
theorem dX8_load_38 : decode cX8_load 38 = .ok (.istore 4, 2) := by decide +kernel
theorem dX8_load_40 : decode cX8_load 40 = .ok (.iload_n 2, 1) := by decide +kernel
theorem dX8_load_41 : decode cX8_load 41 = .ok (.iconst 3, 1) := by decide +kernel
theorem dX8_load_42 : decode cX8_load 42 = .ok (.if_icmp .ge 31, 3) := by decide +kernel
theorem dX8_load_45 : decode cX8_load 45 = .ok (.iload_n 2, 1) := by decide +kernel
theorem dX8_load_46 : decode cX8_load 46 = .ok (.ifCond .ne 15, 3) := by decide +kernel
theorem dX8_load_49 : decode cX8_load 49 = .ok (.aload_n 0, 1) := by decide +kernel
theorem dX8_load_50 : decode cX8_load 50 = .ok (.getfield 13, 3) := by decide +kernel
theorem dX8_load_53 : decode cX8_load 53 = .ok (.bipush 39, 2) := by decide +kernel
theorem dX8_load_55 : decode cX8_load 55 = .ok (.iload_n 1, 1) := by decide +kernel
theorem dX8_load_56 : decode cX8_load 56 = .ok (.iadd, 1) := by decide +kernel
theorem dX8_load_57 : decode cX8_load 57 = .ok (.iaload, 1) := by decide +kernel
theorem dX8_load_58 : decode cX8_load 58 = .ok (.goto 14, 3) := by decide +kernel
theorem dX8_load_61 : decode cX8_load 61 = .ok (.iload_n 2, 1) := by decide +kernel
theorem dX8_load_62 : decode cX8_load 62 = .ok (.iconst 1, 1) := by decide +kernel
theorem dX8_load_63 : decode cX8_load 63 = .ok (.if_icmp .ne 7, 3) := by decide +kernel
theorem dX8_load_66 : decode cX8_load 66 = .ok (.iload_n 3, 1) := by decide +kernel
theorem dX8_load_67 : decode cX8_load 67 = .ok (.goto 5, 3) := by decide +kernel
theorem dX8_load_70 : decode cX8_load 70 = .ok (.iload 4, 2) := by decide +kernel
theorem dX8_load_72 : decode cX8_load 72 = .ok (.ireturn, 1) := by decide +kernel
theorem dX8_load_73 : decode cX8_load 73 = .ok (.iload_n 2, 1) := by decide +kernel
theorem dX8_load_74 : decode cX8_load 74 = .ok (.iconst 3, 1) := by decide +kernel
theorem dX8_load_75 : decode cX8_load 75 = .ok (.if_icmp .ne 12, 3) := by decide +kernel
theorem dX8_load_78 : decode cX8_load 78 = .ok (.iload_n 3, 1) := by decide +kernel
theorem dX8_load_79 : decode cX8_load 79 = .ok (.iload 4, 2) := by decide +kernel
theorem dX8_load_81 : decode cX8_load 81 = .ok (.iconst (-1), 1) := by decide +kernel
theorem dX8_load_82 : decode cX8_load 82 = .ok (.ixor, 1) := by decide +kernel
theorem dX8_load_83 : decode cX8_load 83 = .ok (.iand, 1) := by decide +kernel
theorem dX8_load_84 : decode cX8_load 84 = .ok (.goto 22, 3) := by decide +kernel
theorem dX8_load_87 : decode cX8_load 87 = .ok (.iload_n 2, 1) := by decide +kernel
theorem dX8_load_88 : decode cX8_load 88 = .ok (.iconst 4, 1) := by decide +kernel
theorem dX8_load_89 : decode cX8_load 89 = .ok (.if_icmp .ne 12, 3) := by decide +kernel
theorem dX8_load_92 : decode cX8_load 92 = .ok (.iload 4, 2) := by decide +kernel
theorem dX8_load_94 : decode cX8_load 94 = .ok (.iload_n 3, 1) := by decide +kernel
theorem dX8_load_95 : decode cX8_load 95 = .ok (.iconst (-1), 1) := by decide +kernel
theorem dX8_load_96 : decode cX8_load 96 = .ok (.ixor, 1) := by decide +kernel
theorem dX8_load_97 : decode cX8_load 97 = .ok (.iand, 1) := by decide +kernel
theorem dX8_load_98 : decode cX8_load 98 = .ok (.goto 8, 3) := by decide +kernel
theorem dX8_load_101 : decode cX8_load 101 = .ok (.aload_n 0, 1) := by decide +kernel
theorem dX8_load_102 : decode cX8_load 102 = .ok (.iload_n 1, 1) := by decide +kernel
theorem dX8_load_103 : decode cX8_load 103 = .ok (.invokevirtual 153, 3) := by decide +kernel
theorem dX8_load_106 : decode cX8_load 106 = .ok (.ireturn, 1) := by decide +kernel
theorem dX8_notes_0 : decode cX8_notes 0 = .ok (.aload_n 0, 1) := by decide +kernel
theorem dX8_notes_1 : decode cX8_notes 1 = .ok (.getfield 127, 3) := by decide +kernel
theorem dX8_notes_4 : decode cX8_notes 4 = .ok (.bipush 10, 2) := by decide +kernel
theorem dX8_notes_6 : decode cX8_notes 6 = .ok (.if_icmp .ne 39, 3) := by decide +kernel
theorem dX8_notes_9 : decode cX8_notes 9 = .ok (.iconst 0, 1) := by decide +kernel
theorem dX8_notes_10 : decode cX8_notes 10 = .ok (.istore_n 1, 1) := by decide +kernel
theorem dX8_notes_11 : decode cX8_notes 11 = .ok (.iload_n 1, 1) := by decide +kernel
theorem dX8_notes_12 : decode cX8_notes 12 = .ok (.sipush 270, 3) := by decide +kernel
theorem dX8_notes_15 : decode cX8_notes 15 = .ok (.if_icmp .ge 24, 3) := by decide +kernel
theorem dX8_notes_18 : decode cX8_notes 18 = .ok (.aload_n 0, 1) := by decide +kernel
theorem dX8_notes_19 : decode cX8_notes 19 = .ok (.getfield 22, 3) := by decide +kernel
theorem dX8_notes_22 : decode cX8_notes 22 = .ok (.iload_n 1, 1) := by decide +kernel
theorem dX8_notes_23 : decode cX8_notes 23 = .ok (.aload_n 0, 1) := by decide +kernel
theorem dX8_notes_24 : decode cX8_notes 24 = .ok (.getfield 22, 3) := by decide +kernel
theorem dX8_notes_27 : decode cX8_notes 27 = .ok (.iload_n 1, 1) := by decide +kernel
theorem dX8_notes_28 : decode cX8_notes 28 = .ok (.bipush 30, 2) := by decide +kernel
theorem dX8_notes_30 : decode cX8_notes 30 = .ok (.iadd, 1) := by decide +kernel
theorem dX8_notes_31 : decode cX8_notes 31 = .ok (.iaload, 1) := by decide +kernel
theorem dX8_notes_32 : decode cX8_notes 32 = .ok (.iastore, 1) := by decide +kernel
theorem dX8_notes_33 : decode cX8_notes 33 = .ok (.iinc 1 1, 3) := by decide +kernel
theorem dX8_notes_36 : decode cX8_notes 36 = .ok (.goto (-25), 3) := by decide +kernel
theorem dX8_notes_39 : decode cX8_notes 39 = .ok (.aload_n 0, 1) := by decide +kernel
theorem dX8_notes_40 : decode cX8_notes 40 = .ok (.bipush 9, 2) := by decide +kernel
theorem dX8_notes_42 : decode cX8_notes 42 = .ok (.putfield 127, 3) := by decide +kernel
theorem dX8_notes_45 : decode cX8_notes 45 = .ok (.iconst 0, 1) := by decide +kernel
theorem dX8_notes_46 : decode cX8_notes 46 = .ok (.istore_n 1, 1) := by decide +kernel
theorem dX8_notes_47 : decode cX8_notes 47 = .ok (.iload_n 1, 1) := by decide +kernel
theorem dX8_notes_48 : decode cX8_notes 48 = .ok (.bipush 30, 2) := by decide +kernel
theorem dX8_notes_50 : decode cX8_notes 50 = .ok (.if_icmp .ge 29, 3) := by decide +kernel
theorem dX8_notes_53 : decode cX8_notes 53 = .ok (.aload_n 0, 1) := by decide +kernel
theorem dX8_notes_54 : decode cX8_notes 54 = .ok (.getfield 22, 3) := by decide +kernel
theorem dX8_notes_57 : decode cX8_notes 57 = .ok (.bipush 30, 2) := by decide +kernel
theorem dX8_notes_59 : decode cX8_notes 59 = .ok (.aload_n 0, 1) := by decide +kernel
theorem dX8_notes_60 : decode cX8_notes 60 = .ok (.getfield 127, 3) := by decide +kernel
theorem dX8_notes_63 : decode cX8_notes 63 = .ok (.imul, 1) := by decide +kernel
theorem dX8_notes_64 : decode cX8_notes 64 = .ok (.iload_n 1, 1) := by decide +kernel
theorem dX8_notes_65 : decode cX8_notes 65 = .ok (.iadd, 1) := by decide +kernel
theorem dX8_notes_66 : decode cX8_notes 66 = .ok (.aload_n 0, 1) := by decide +kernel
theorem dX8_notes_67 : decode cX8_notes 67 = .ok (.getfield 19, 3) := by decide +kernel
theorem dX8_notes_70 : decode cX8_notes 70 = .ok (.iload_n 1, 1) := by decide +kernel
theorem dX8_notes_71 : decode cX8_notes 71 = .ok (.iaload, 1) := by decide +kernel
theorem dX8_notes_72 : decode cX8_notes 72 = .ok (.iastore, 1) := by decide +kernel
theorem dX8_notes_73 : decode cX8_notes 73 = .ok (.iinc 1 1, 3) := by decide +kernel
theorem dX8_notes_76 : decode cX8_notes 76 = .ok (.goto (-29), 3) := by decide +kernel
theorem dX8_notes_79 : decode cX8_notes 79 = .ok (.aload_n 0, 1) := by decide +kernel
theorem dX8_notes_80 : decode cX8_notes 80 = .ok (.dup, 1) := by decide +kernel
theorem dX8_notes_81 : decode cX8_notes 81 = .ok (.getfield 127, 3) := by decide +kernel
theorem dX8_notes_84 : decode cX8_notes 84 = .ok (.iconst 1, 1) := by decide +kernel
theorem dX8_notes_85 : decode cX8_notes 85 = .ok (.iadd, 1) := by decide +kernel
theorem dX8_notes_86 : decode cX8_notes 86 = .ok (.putfield 127, 3) := by decide +kernel
theorem dX8_notes_89 : decode cX8_notes 89 = .ok (.return_, 1) := by decide +kernel
theorem dX8_wishes_0 : decode cX8_wishes 0 = .ok (.aload_n 0, 1) := by decide +kernel
theorem dX8_wishes_1 : decode cX8_wishes 1 = .ok (.iconst 0, 1) := by decide +kernel
theorem dX8_wishes_2 : decode cX8_wishes 2 = .ok (.putfield 59, 3) := by decide +kernel
theorem dX8_wishes_5 : decode cX8_wishes 5 = .ok (.aload_n 0, 1) := by decide +kernel
theorem dX8_wishes_6 : decode cX8_wishes 6 = .ok (.iload_n 1, 1) := by decide +kernel
theorem dX8_wishes_7 : decode cX8_wishes 7 = .ok (.invokevirtual 150, 3) := by decide +kernel
theorem dX8_wishes_10 : decode cX8_wishes 10 = .ok (.ifCond .eq 13, 3) := by decide +kernel
theorem dX8_wishes_13 : decode cX8_wishes 13 = .ok (.iload_n 2, 1) := by decide +kernel
theorem dX8_wishes_14 : decode cX8_wishes 14 = .ok (.iconst 0, 1) := by decide +kernel
theorem dX8_wishes_15 : decode cX8_wishes 15 = .ok (.ldc 156, 2) := by decide +kernel
theorem dX8_wishes_17 : decode cX8_wishes 17 = .ok (.invokestatic 63, 3) := by decide +kernel
theorem dX8_wishes_20 : decode cX8_wishes 20 = .ok (.ifCond .ne 5, 3) := by decide +kernel
theorem dX8_wishes_23 : decode cX8_wishes 23 = .ok (.iconst (-1), 1) := by decide +kernel
theorem dX8_wishes_24 : decode cX8_wishes 24 = .ok (.ireturn, 1) := by decide +kernel
theorem dX8_wishes_25 : decode cX8_wishes 25 = .ok (.aload_n 0, 1) := by decide +kernel
theorem dX8_wishes_26 : decode cX8_wishes 26 = .ok (.invokevirtual 157, 3) := by decide +kernel
theorem dX8_wishes_29 : decode cX8_wishes 29 = .ok (.aload_n 0, 1) := by decide +kernel
theorem dX8_wishes_30 : decode cX8_wishes 30 = .ok (.getfield 19, 3) := by decide +kernel
theorem dX8_wishes_33 : decode cX8_wishes 33 = .ok (.iconst 0, 1) := by decide +kernel
theorem dX8_wishes_34 : decode cX8_wishes 34 = .ok (.iload_n 1, 1) := by decide +kernel
theorem dX8_wishes_35 : decode cX8_wishes 35 = .ok (.iadd, 1) := by decide +kernel
theorem dX8_wishes_36 : decode cX8_wishes 36 = .ok (.iaload, 1) := by decide +kernel
theorem dX8_wishes_37 : decode cX8_wishes 37 = .ok (.istore_n 3, 1) := by decide +kernel
theorem dX8_wishes_38 : decode cX8_wishes 38 = .ok (.aload_n 0, 1) := by decide +kernel
theorem dX8_wishes_39 : decode cX8_wishes 39 = .ok (.getfield 19, 3) := by decide +kernel
theorem dX8_wishes_42 : decode cX8_wishes 42 = .ok (.iconst 0, 1) := by decide +kernel
theorem dX8_wishes_43 : decode cX8_wishes 43 = .ok (.iload_n 1, 1) := by decide +kernel
theorem dX8_wishes_44 : decode cX8_wishes 44 = .ok (.iadd, 1) := by decide +kernel
theorem dX8_wishes_45 : decode cX8_wishes 45 = .ok (.iload_n 2, 1) := by decide +kernel
theorem dX8_wishes_46 : decode cX8_wishes 46 = .ok (.iastore, 1) := by decide +kernel
theorem dX8_wishes_47 : decode cX8_wishes 47 = .ok (.iload_n 3, 1) := by decide +kernel
theorem dX8_wishes_48 : decode cX8_wishes 48 = .ok (.ireturn, 1) := by decide +kernel
theorem dX8_cures_0 : decode cX8_cures 0 = .ok (.aload_n 0, 1) := by decide +kernel
theorem dX8_cures_1 : decode cX8_cures 1 = .ok (.iconst 0, 1) := by decide +kernel
theorem dX8_cures_2 : decode cX8_cures 2 = .ok (.putfield 59, 3) := by decide +kernel
theorem dX8_cures_5 : decode cX8_cures 5 = .ok (.aload_n 0, 1) := by decide +kernel
theorem dX8_cures_6 : decode cX8_cures 6 = .ok (.iload_n 1, 1) := by decide +kernel
theorem dX8_cures_7 : decode cX8_cures 7 = .ok (.invokevirtual 147, 3) := by decide +kernel
theorem dX8_cures_10 : decode cX8_cures 10 = .ok (.ifCond .eq 30, 3) := by decide +kernel
theorem dX8_cures_13 : decode cX8_cures 13 = .ok (.iload_n 2, 1) := by decide +kernel
theorem dX8_cures_14 : decode cX8_cures 14 = .ok (.iconst 0, 1) := by decide +kernel
theorem dX8_cures_15 : decode cX8_cures 15 = .ok (.iconst 4, 1) := by decide +kernel
theorem dX8_cures_16 : decode cX8_cures 16 = .ok (.invokestatic 63, 3) := by decide +kernel
theorem dX8_cures_19 : decode cX8_cures 19 = .ok (.ifCond .eq 21, 3) := by decide +kernel
theorem dX8_cures_22 : decode cX8_cures 22 = .ok (.iload_n 3, 1) := by decide +kernel
theorem dX8_cures_23 : decode cX8_cures 23 = .ok (.iconst 0, 1) := by decide +kernel
theorem dX8_cures_24 : decode cX8_cures 24 = .ok (.iload_n 2, 1) := by decide +kernel
theorem dX8_cures_25 : decode cX8_cures 25 = .ok (.iconst 2, 1) := by decide +kernel
theorem dX8_cures_26 : decode cX8_cures 26 = .ok (.if_icmp .ge 7, 3) := by decide +kernel
theorem dX8_cures_29 : decode cX8_cures 29 = .ok (.iconst 3, 1) := by decide +kernel
theorem dX8_cures_30 : decode cX8_cures 30 = .ok (.goto 4, 3) := by decide +kernel
theorem dX8_cures_33 : decode cX8_cures 33 = .ok (.iconst 0, 1) := by decide +kernel
theorem dX8_cures_34 : decode cX8_cures 34 = .ok (.invokestatic 63, 3) := by decide +kernel
theorem dX8_cures_37 : decode cX8_cures 37 = .ok (.ifCond .ne 5, 3) := by decide +kernel
theorem dX8_cures_40 : decode cX8_cures 40 = .ok (.iconst (-1), 1) := by decide +kernel
theorem dX8_cures_41 : decode cX8_cures 41 = .ok (.ireturn, 1) := by decide +kernel
theorem dX8_cures_42 : decode cX8_cures 42 = .ok (.aload_n 0, 1) := by decide +kernel
theorem dX8_cures_43 : decode cX8_cures 43 = .ok (.getfield 19, 3) := by decide +kernel
theorem dX8_cures_46 : decode cX8_cures 46 = .ok (.iconst 3, 1) := by decide +kernel
theorem dX8_cures_47 : decode cX8_cures 47 = .ok (.iload_n 1, 1) := by decide +kernel
theorem dX8_cures_48 : decode cX8_cures 48 = .ok (.iadd, 1) := by decide +kernel
theorem dX8_cures_49 : decode cX8_cures 49 = .ok (.iaload, 1) := by decide +kernel
theorem dX8_cures_50 : decode cX8_cures 50 = .ok (.istore 4, 2) := by decide +kernel
theorem dX8_cures_52 : decode cX8_cures 52 = .ok (.iload 4, 2) := by decide +kernel
theorem dX8_cures_54 : decode cX8_cures 54 = .ok (.iload_n 2, 1) := by decide +kernel
theorem dX8_cures_55 : decode cX8_cures 55 = .ok (.if_icmp .ne 19, 3) := by decide +kernel
theorem dX8_cures_58 : decode cX8_cures 58 = .ok (.aload_n 0, 1) := by decide +kernel
theorem dX8_cures_59 : decode cX8_cures 59 = .ok (.getfield 19, 3) := by decide +kernel
theorem dX8_cures_62 : decode cX8_cures 62 = .ok (.bipush 12, 2) := by decide +kernel
theorem dX8_cures_64 : decode cX8_cures 64 = .ok (.iload_n 1, 1) := by decide +kernel
theorem dX8_cures_65 : decode cX8_cures 65 = .ok (.iadd, 1) := by decide +kernel
theorem dX8_cures_66 : decode cX8_cures 66 = .ok (.iaload, 1) := by decide +kernel
theorem dX8_cures_67 : decode cX8_cures 67 = .ok (.iload_n 3, 1) := by decide +kernel
theorem dX8_cures_68 : decode cX8_cures 68 = .ok (.if_icmp .ne 6, 3) := by decide +kernel
theorem dX8_cures_71 : decode cX8_cures 71 = .ok (.bipush (-2), 2) := by decide +kernel
theorem dX8_cures_73 : decode cX8_cures 73 = .ok (.ireturn, 1) := by decide +kernel
theorem dX8_cures_74 : decode cX8_cures 74 = .ok (.aload_n 0, 1) := by decide +kernel
theorem dX8_cures_75 : decode cX8_cures 75 = .ok (.invokevirtual 157, 3) := by decide +kernel
theorem dX8_cures_78 : decode cX8_cures 78 = .ok (.aload_n 0, 1) := by decide +kernel
theorem dX8_cures_79 : decode cX8_cures 79 = .ok (.getfield 19, 3) := by decide +kernel
theorem dX8_cures_82 : decode cX8_cures 82 = .ok (.iconst 3, 1) := by decide +kernel
theorem dX8_cures_83 : decode cX8_cures 83 = .ok (.iload_n 1, 1) := by decide +kernel
theorem dX8_cures_84 : decode cX8_cures 84 = .ok (.iadd, 1) := by decide +kernel
theorem dX8_cures_85 : decode cX8_cures 85 = .ok (.iload_n 2, 1) := by decide +kernel
theorem dX8_cures_86 : decode cX8_cures 86 = .ok (.iastore, 1) := by decide +kernel
theorem dX8_cures_87 : decode cX8_cures 87 = .ok (.aload_n 0, 1) := by decide +kernel
theorem dX8_cures_88 : decode cX8_cures 88 = .ok (.getfield 19, 3) := by decide +kernel
theorem dX8_cures_91 : decode cX8_cures 91 = .ok (.bipush 12, 2) := by decide +kernel
theorem dX8_cures_93 : decode cX8_cures 93 = .ok (.iload_n 1, 1) := by decide +kernel
theorem dX8_cures_94 : decode cX8_cures 94 = .ok (.iadd, 1) := by decide +kernel
theorem dX8_cures_95 : decode cX8_cures 95 = .ok (.iload_n 3, 1) := by decide +kernel
theorem dX8_cures_96 : decode cX8_cures 96 = .ok (.iastore, 1) := by decide +kernel
theorem dX8_cures_97 : decode cX8_cures 97 = .ok (.iload 4, 2) := by decide +kernel
theorem dX8_cures_99 : decode cX8_cures 99 = .ok (.ireturn, 1) := by decide +kernel
theorem dX8_sticks_0 : decode cX8_sticks 0 = .ok (.aload_n 0, 1) := by decide +kernel
theorem dX8_sticks_1 : decode cX8_sticks 1 = .ok (.iconst 0, 1) := by decide +kernel
theorem dX8_sticks_2 : decode cX8_sticks 2 = .ok (.putfield 59, 3) := by decide +kernel
theorem dX8_sticks_5 : decode cX8_sticks 5 = .ok (.aload_n 0, 1) := by decide +kernel
theorem dX8_sticks_6 : decode cX8_sticks 6 = .ok (.iload_n 1, 1) := by decide +kernel
theorem dX8_sticks_7 : decode cX8_sticks 7 = .ok (.invokevirtual 147, 3) := by decide +kernel
theorem dX8_sticks_10 : decode cX8_sticks 10 = .ok (.ifCond .eq 12, 3) := by decide +kernel
theorem dX8_sticks_13 : decode cX8_sticks 13 = .ok (.iload_n 2, 1) := by decide +kernel
theorem dX8_sticks_14 : decode cX8_sticks 14 = .ok (.iconst 0, 1) := by decide +kernel
theorem dX8_sticks_15 : decode cX8_sticks 15 = .ok (.iconst 2, 1) := by decide +kernel
theorem dX8_sticks_16 : decode cX8_sticks 16 = .ok (.invokestatic 63, 3) := by decide +kernel
theorem dX8_sticks_19 : decode cX8_sticks 19 = .ok (.ifCond .ne 5, 3) := by decide +kernel
theorem dX8_sticks_22 : decode cX8_sticks 22 = .ok (.iconst (-1), 1) := by decide +kernel
theorem dX8_sticks_23 : decode cX8_sticks 23 = .ok (.ireturn, 1) := by decide +kernel
theorem dX8_sticks_24 : decode cX8_sticks 24 = .ok (.aload_n 0, 1) := by decide +kernel
theorem dX8_sticks_25 : decode cX8_sticks 25 = .ok (.getfield 19, 3) := by decide +kernel
theorem dX8_sticks_28 : decode cX8_sticks 28 = .ok (.bipush 21, 2) := by decide +kernel
theorem dX8_sticks_30 : decode cX8_sticks 30 = .ok (.iload_n 1, 1) := by decide +kernel
theorem dX8_sticks_31 : decode cX8_sticks 31 = .ok (.iadd, 1) := by decide +kernel
theorem dX8_sticks_32 : decode cX8_sticks 32 = .ok (.iaload, 1) := by decide +kernel
theorem dX8_sticks_33 : decode cX8_sticks 33 = .ok (.istore_n 3, 1) := by decide +kernel
theorem dX8_sticks_34 : decode cX8_sticks 34 = .ok (.iload_n 3, 1) := by decide +kernel
theorem dX8_sticks_35 : decode cX8_sticks 35 = .ok (.iload_n 2, 1) := by decide +kernel
theorem dX8_sticks_36 : decode cX8_sticks 36 = .ok (.if_icmp .ne 6, 3) := by decide +kernel
theorem dX8_sticks_39 : decode cX8_sticks 39 = .ok (.bipush (-2), 2) := by decide +kernel
theorem dX8_sticks_41 : decode cX8_sticks 41 = .ok (.ireturn, 1) := by decide +kernel
theorem dX8_sticks_42 : decode cX8_sticks 42 = .ok (.aload_n 0, 1) := by decide +kernel
theorem dX8_sticks_43 : decode cX8_sticks 43 = .ok (.invokevirtual 157, 3) := by decide +kernel
theorem dX8_sticks_46 : decode cX8_sticks 46 = .ok (.aload_n 0, 1) := by decide +kernel
theorem dX8_sticks_47 : decode cX8_sticks 47 = .ok (.getfield 19, 3) := by decide +kernel
theorem dX8_sticks_50 : decode cX8_sticks 50 = .ok (.bipush 21, 2) := by decide +kernel
theorem dX8_sticks_52 : decode cX8_sticks 52 = .ok (.iload_n 1, 1) := by decide +kernel
theorem dX8_sticks_53 : decode cX8_sticks 53 = .ok (.iadd, 1) := by decide +kernel
theorem dX8_sticks_54 : decode cX8_sticks 54 = .ok (.iload_n 2, 1) := by decide +kernel
theorem dX8_sticks_55 : decode cX8_sticks 55 = .ok (.iastore, 1) := by decide +kernel
theorem dX8_sticks_56 : decode cX8_sticks 56 = .ok (.iload_n 3, 1) := by decide +kernel
theorem dX8_sticks_57 : decode cX8_sticks 57 = .ok (.ireturn, 1) := by decide +kernel
theorem dX8_undo_0 : decode cX8_undo 0 = .ok (.aload_n 0, 1) := by decide +kernel
theorem dX8_undo_1 : decode cX8_undo 1 = .ok (.iconst 0, 1) := by decide +kernel
theorem dX8_undo_2 : decode cX8_undo 2 = .ok (.putfield 59, 3) := by decide +kernel
theorem dX8_undo_5 : decode cX8_undo 5 = .ok (.aload_n 0, 1) := by decide +kernel
theorem dX8_undo_6 : decode cX8_undo 6 = .ok (.getfield 127, 3) := by decide +kernel
theorem dX8_undo_9 : decode cX8_undo 9 = .ok (.ifCond .ne 6, 3) := by decide +kernel
theorem dX8_undo_12 : decode cX8_undo 12 = .ok (.bipush (-2), 2) := by decide +kernel
theorem dX8_undo_14 : decode cX8_undo 14 = .ok (.ireturn, 1) := by decide +kernel
theorem dX8_undo_15 : decode cX8_undo 15 = .ok (.aload_n 0, 1) := by decide +kernel
theorem dX8_undo_16 : decode cX8_undo 16 = .ok (.dup, 1) := by decide +kernel
theorem dX8_undo_17 : decode cX8_undo 17 = .ok (.getfield 127, 3) := by decide +kernel
theorem dX8_undo_20 : decode cX8_undo 20 = .ok (.iconst 1, 1) := by decide +kernel
theorem dX8_undo_21 : decode cX8_undo 21 = .ok (.isub, 1) := by decide +kernel
theorem dX8_undo_22 : decode cX8_undo 22 = .ok (.putfield 127, 3) := by decide +kernel
theorem dX8_undo_25 : decode cX8_undo 25 = .ok (.iconst 0, 1) := by decide +kernel
theorem dX8_undo_26 : decode cX8_undo 26 = .ok (.istore_n 1, 1) := by decide +kernel
theorem dX8_undo_27 : decode cX8_undo 27 = .ok (.iload_n 1, 1) := by decide +kernel
theorem dX8_undo_28 : decode cX8_undo 28 = .ok (.bipush 30, 2) := by decide +kernel
theorem dX8_undo_30 : decode cX8_undo 30 = .ok (.if_icmp .ge 29, 3) := by decide +kernel
theorem dX8_undo_33 : decode cX8_undo 33 = .ok (.aload_n 0, 1) := by decide +kernel
theorem dX8_undo_34 : decode cX8_undo 34 = .ok (.getfield 19, 3) := by decide +kernel
theorem dX8_undo_37 : decode cX8_undo 37 = .ok (.iload_n 1, 1) := by decide +kernel
theorem dX8_undo_38 : decode cX8_undo 38 = .ok (.aload_n 0, 1) := by decide +kernel
theorem dX8_undo_39 : decode cX8_undo 39 = .ok (.getfield 22, 3) := by decide +kernel
theorem dX8_undo_42 : decode cX8_undo 42 = .ok (.bipush 30, 2) := by decide +kernel
theorem dX8_undo_44 : decode cX8_undo 44 = .ok (.aload_n 0, 1) := by decide +kernel
theorem dX8_undo_45 : decode cX8_undo 45 = .ok (.getfield 127, 3) := by decide +kernel
theorem dX8_undo_48 : decode cX8_undo 48 = .ok (.imul, 1) := by decide +kernel
theorem dX8_undo_49 : decode cX8_undo 49 = .ok (.iload_n 1, 1) := by decide +kernel
theorem dX8_undo_50 : decode cX8_undo 50 = .ok (.iadd, 1) := by decide +kernel
theorem dX8_undo_51 : decode cX8_undo 51 = .ok (.iaload, 1) := by decide +kernel
theorem dX8_undo_52 : decode cX8_undo 52 = .ok (.iastore, 1) := by decide +kernel
theorem dX8_undo_53 : decode cX8_undo 53 = .ok (.iinc 1 1, 3) := by decide +kernel
theorem dX8_undo_56 : decode cX8_undo 56 = .ok (.goto (-29), 3) := by decide +kernel
theorem dX8_undo_59 : decode cX8_undo 59 = .ok (.aload_n 0, 1) := by decide +kernel
theorem dX8_undo_60 : decode cX8_undo 60 = .ok (.getfield 127, 3) := by decide +kernel
theorem dX8_undo_63 : decode cX8_undo 63 = .ok (.ireturn, 1) := by decide +kernel
theorem dX8_toBy_0 : decode cX8_toBy 0 = .ok (.aload_n 0, 1) := by decide +kernel
theorem dX8_toBy_1 : decode cX8_toBy 1 = .ok (.getfield 13, 3) := by decide +kernel
theorem dX8_toBy_4 : decode cX8_toBy 4 = .ok (.bipush 12, 2) := by decide +kernel
theorem dX8_toBy_6 : decode cX8_toBy 6 = .ok (.iload_n 1, 1) := by decide +kernel
theorem dX8_toBy_7 : decode cX8_toBy 7 = .ok (.iadd, 1) := by decide +kernel
theorem dX8_toBy_8 : decode cX8_toBy 8 = .ok (.iaload, 1) := by decide +kernel
theorem dX8_toBy_9 : decode cX8_toBy 9 = .ok (.iload_n 2, 1) := by decide +kernel
theorem dX8_toBy_10 : decode cX8_toBy 10 = .ok (.if_icmp .ne 22, 3) := by decide +kernel
theorem dX8_toBy_13 : decode cX8_toBy 13 = .ok (.aload_n 0, 1) := by decide +kernel
theorem dX8_toBy_14 : decode cX8_toBy 14 = .ok (.iload_n 1, 1) := by decide +kernel
theorem dX8_toBy_15 : decode cX8_toBy 15 = .ok (.iconst 0, 1) := by decide +kernel
theorem dX8_toBy_16 : decode cX8_toBy 16 = .ok (.invokevirtual 136, 3) := by decide +kernel
theorem dX8_toBy_19 : decode cX8_toBy 19 = .ok (.ifCond .eq 13, 3) := by decide +kernel
theorem dX8_toBy_22 : decode cX8_toBy 22 = .ok (.aload_n 0, 1) := by decide +kernel
theorem dX8_toBy_23 : decode cX8_toBy 23 = .ok (.getfield 13, 3) := by decide +kernel
theorem dX8_toBy_26 : decode cX8_toBy 26 = .ok (.bipush 21, 2) := by decide +kernel
theorem dX8_toBy_28 : decode cX8_toBy 28 = .ok (.iload_n 1, 1) := by decide +kernel
theorem dX8_toBy_29 : decode cX8_toBy 29 = .ok (.iadd, 1) := by decide +kernel
theorem dX8_toBy_30 : decode cX8_toBy 30 = .ok (.iaload, 1) := by decide +kernel
theorem dX8_toBy_31 : decode cX8_toBy 31 = .ok (.ireturn, 1) := by decide +kernel
theorem dX8_toBy_32 : decode cX8_toBy 32 = .ok (.aload_n 0, 1) := by decide +kernel
theorem dX8_toBy_33 : decode cX8_toBy 33 = .ok (.getfield 13, 3) := by decide +kernel
theorem dX8_toBy_36 : decode cX8_toBy 36 = .ok (.bipush 21, 2) := by decide +kernel
theorem dX8_toBy_38 : decode cX8_toBy 38 = .ok (.iload_n 1, 1) := by decide +kernel
theorem dX8_toBy_39 : decode cX8_toBy 39 = .ok (.iadd, 1) := by decide +kernel
theorem dX8_toBy_40 : decode cX8_toBy 40 = .ok (.iaload, 1) := by decide +kernel
theorem dX8_toBy_41 : decode cX8_toBy 41 = .ok (.iload_n 2, 1) := by decide +kernel
theorem dX8_toBy_42 : decode cX8_toBy 42 = .ok (.if_icmp .ne 24, 3) := by decide +kernel
theorem dX8_toBy_45 : decode cX8_toBy 45 = .ok (.aload_n 0, 1) := by decide +kernel
theorem dX8_toBy_46 : decode cX8_toBy 46 = .ok (.iload_n 1, 1) := by decide +kernel
theorem dX8_toBy_47 : decode cX8_toBy 47 = .ok (.iconst 1, 1) := by decide +kernel
theorem dX8_toBy_48 : decode cX8_toBy 48 = .ok (.invokevirtual 136, 3) := by decide +kernel
theorem dX8_toBy_51 : decode cX8_toBy 51 = .ok (.ifCond .eq 15, 3) := by decide +kernel
theorem dX8_toBy_54 : decode cX8_toBy 54 = .ok (.aload_n 0, 1) := by decide +kernel
theorem dX8_toBy_55 : decode cX8_toBy 55 = .ok (.getfield 13, 3) := by decide +kernel
theorem dX8_toBy_58 : decode cX8_toBy 58 = .ok (.bipush 12, 2) := by decide +kernel
theorem dX8_toBy_60 : decode cX8_toBy 60 = .ok (.iload_n 1, 1) := by decide +kernel
theorem dX8_toBy_61 : decode cX8_toBy 61 = .ok (.iadd, 1) := by decide +kernel
theorem dX8_toBy_62 : decode cX8_toBy 62 = .ok (.iaload, 1) := by decide +kernel
theorem dX8_toBy_63 : decode cX8_toBy 63 = .ok (.goto 5, 3) := by decide +kernel
theorem dX8_toBy_66 : decode cX8_toBy 66 = .ok (.bipush (-9), 2) := by decide +kernel
theorem dX8_toBy_68 : decode cX8_toBy 68 = .ok (.ireturn, 1) := by decide +kernel
theorem dX8_isOnPath_0 : decode cX8_isOnPath 0 = .ok (.iconst 0, 1) := by decide +kernel
theorem dX8_isOnPath_1 : decode cX8_isOnPath 1 = .ok (.istore_n 2, 1) := by decide +kernel
theorem dX8_isOnPath_2 : decode cX8_isOnPath 2 = .ok (.iconst 0, 1) := by decide +kernel
theorem dX8_isOnPath_3 : decode cX8_isOnPath 3 = .ok (.istore_n 3, 1) := by decide +kernel
theorem dX8_isOnPath_4 : decode cX8_isOnPath 4 = .ok (.iload_n 3, 1) := by decide +kernel
theorem dX8_isOnPath_5 : decode cX8_isOnPath 5 = .ok (.aload_n 0, 1) := by decide +kernel
theorem dX8_isOnPath_6 : decode cX8_isOnPath 6 = .ok (.getfield 160, 3) := by decide +kernel
theorem dX8_isOnPath_9 : decode cX8_isOnPath 9 = .ok (.if_icmp .gt 29, 3) := by decide +kernel
theorem dX8_isOnPath_12 : decode cX8_isOnPath 12 = .ok (.iload_n 2, 1) := by decide +kernel
theorem dX8_isOnPath_13 : decode cX8_isOnPath 13 = .ok (.ifCond .ne 13, 3) := by decide +kernel
theorem dX8_isOnPath_16 : decode cX8_isOnPath 16 = .ok (.aload_n 0, 1) := by decide +kernel
theorem dX8_isOnPath_17 : decode cX8_isOnPath 17 = .ok (.getfield 44, 3) := by decide +kernel
theorem dX8_isOnPath_20 : decode cX8_isOnPath 20 = .ok (.iload_n 3, 1) := by decide +kernel
theorem dX8_isOnPath_21 : decode cX8_isOnPath 21 = .ok (.iaload, 1) := by decide +kernel
theorem dX8_isOnPath_22 : decode cX8_isOnPath 22 = .ok (.iload_n 1, 1) := by decide +kernel
theorem dX8_isOnPath_23 : decode cX8_isOnPath 23 = .ok (.if_icmp .ne 7, 3) := by decide +kernel
theorem dX8_isOnPath_26 : decode cX8_isOnPath 26 = .ok (.iconst 1, 1) := by decide +kernel
theorem dX8_isOnPath_27 : decode cX8_isOnPath 27 = .ok (.goto 4, 3) := by decide +kernel
theorem dX8_isOnPath_30 : decode cX8_isOnPath 30 = .ok (.iconst 0, 1) := by decide +kernel
theorem dX8_isOnPath_31 : decode cX8_isOnPath 31 = .ok (.istore_n 2, 1) := by decide +kernel
theorem dX8_isOnPath_32 : decode cX8_isOnPath 32 = .ok (.iinc 3 1, 3) := by decide +kernel
theorem dX8_isOnPath_35 : decode cX8_isOnPath 35 = .ok (.goto (-31), 3) := by decide +kernel
theorem dX8_isOnPath_38 : decode cX8_isOnPath 38 = .ok (.iload_n 2, 1) := by decide +kernel
theorem dX8_isOnPath_39 : decode cX8_isOnPath 39 = .ok (.ireturn, 1) := by decide +kernel
theorem dX8_beginsPath_0 : decode cX8_beginsPath 0 = .ok (.aload_n 0, 1) := by decide +kernel
theorem dX8_beginsPath_1 : decode cX8_beginsPath 1 = .ok (.iconst 0, 1) := by decide +kernel
theorem dX8_beginsPath_2 : decode cX8_beginsPath 2 = .ok (.putfield 160, 3) := by decide +kernel
theorem dX8_beginsPath_5 : decode cX8_beginsPath 5 = .ok (.aload_n 0, 1) := by decide +kernel
theorem dX8_beginsPath_6 : decode cX8_beginsPath 6 = .ok (.getfield 44, 3) := by decide +kernel
theorem dX8_beginsPath_9 : decode cX8_beginsPath 9 = .ok (.iconst 0, 1) := by decide +kernel
theorem dX8_beginsPath_10 : decode cX8_beginsPath 10 = .ok (.iconst 0, 1) := by decide +kernel
theorem dX8_beginsPath_11 : decode cX8_beginsPath 11 = .ok (.iastore, 1) := by decide +kernel
theorem dX8_beginsPath_12 : decode cX8_beginsPath 12 = .ok (.aload_n 0, 1) := by decide +kernel
theorem dX8_beginsPath_13 : decode cX8_beginsPath 13 = .ok (.getfield 41, 3) := by decide +kernel
theorem dX8_beginsPath_16 : decode cX8_beginsPath 16 = .ok (.iconst 0, 1) := by decide +kernel
theorem dX8_beginsPath_17 : decode cX8_beginsPath 17 = .ok (.iconst (-1), 1) := by decide +kernel
theorem dX8_beginsPath_18 : decode cX8_beginsPath 18 = .ok (.iastore, 1) := by decide +kernel
theorem dX8_beginsPath_19 : decode cX8_beginsPath 19 = .ok (.return_, 1) := by decide +kernel
theorem dX8_nextPath_0 : decode cX8_nextPath 0 = .ok (.aload_n 0, 1) := by decide +kernel
theorem dX8_nextPath_1 : decode cX8_nextPath 1 = .ok (.getfield 44, 3) := by decide +kernel
theorem dX8_nextPath_4 : decode cX8_nextPath 4 = .ok (.aload_n 0, 1) := by decide +kernel
theorem dX8_nextPath_5 : decode cX8_nextPath 5 = .ok (.getfield 160, 3) := by decide +kernel
theorem dX8_nextPath_8 : decode cX8_nextPath 8 = .ok (.iaload, 1) := by decide +kernel
theorem dX8_nextPath_9 : decode cX8_nextPath 9 = .ok (.iload_n 1, 1) := by decide +kernel
theorem dX8_nextPath_10 : decode cX8_nextPath 10 = .ok (.if_icmp .ne 13, 3) := by decide +kernel
theorem dX8_nextPath_13 : decode cX8_nextPath 13 = .ok (.aload_n 0, 1) := by decide +kernel
theorem dX8_nextPath_14 : decode cX8_nextPath 14 = .ok (.dup, 1) := by decide +kernel
theorem dX8_nextPath_15 : decode cX8_nextPath 15 = .ok (.getfield 160, 3) := by decide +kernel
theorem dX8_nextPath_18 : decode cX8_nextPath 18 = .ok (.iconst 1, 1) := by decide +kernel
theorem dX8_nextPath_19 : decode cX8_nextPath 19 = .ok (.isub, 1) := by decide +kernel
theorem dX8_nextPath_20 : decode cX8_nextPath 20 = .ok (.putfield 160, 3) := by decide +kernel
theorem dX8_nextPath_23 : decode cX8_nextPath 23 = .ok (.aload_n 0, 1) := by decide +kernel
theorem dX8_nextPath_24 : decode cX8_nextPath 24 = .ok (.getfield 160, 3) := by decide +kernel
theorem dX8_nextPath_27 : decode cX8_nextPath 27 = .ok (.ifCond .lt 147, 3) := by decide +kernel
theorem dX8_nextPath_30 : decode cX8_nextPath 30 = .ok (.aload_n 0, 1) := by decide +kernel
theorem dX8_nextPath_31 : decode cX8_nextPath 31 = .ok (.getfield 41, 3) := by decide +kernel
theorem dX8_nextPath_34 : decode cX8_nextPath 34 = .ok (.aload_n 0, 1) := by decide +kernel
theorem dX8_nextPath_35 : decode cX8_nextPath 35 = .ok (.getfield 160, 3) := by decide +kernel
theorem dX8_nextPath_38 : decode cX8_nextPath 38 = .ok (.iaload, 1) := by decide +kernel
theorem dX8_nextPath_39 : decode cX8_nextPath 39 = .ok (.iconst 1, 1) := by decide +kernel
theorem dX8_nextPath_40 : decode cX8_nextPath 40 = .ok (.iadd, 1) := by decide +kernel
theorem dX8_nextPath_41 : decode cX8_nextPath 41 = .ok (.istore_n 2, 1) := by decide +kernel
theorem dX8_nextPath_42 : decode cX8_nextPath 42 = .ok (.bipush (-9), 2) := by decide +kernel
theorem dX8_nextPath_44 : decode cX8_nextPath 44 = .ok (.istore_n 3, 1) := by decide +kernel
theorem dX8_nextPath_45 : decode cX8_nextPath 45 = .ok (.iload_n 2, 1) := by decide +kernel
theorem dX8_nextPath_46 : decode cX8_nextPath 46 = .ok (.aload_n 0, 1) := by decide +kernel
theorem dX8_nextPath_47 : decode cX8_nextPath 47 = .ok (.getfield 13, 3) := by decide +kernel
theorem dX8_nextPath_50 : decode cX8_nextPath 50 = .ok (.iconst 1, 1) := by decide +kernel
theorem dX8_nextPath_51 : decode cX8_nextPath 51 = .ok (.iaload, 1) := by decide +kernel
theorem dX8_nextPath_52 : decode cX8_nextPath 52 = .ok (.if_icmp .ge 51, 3) := by decide +kernel
theorem dX8_nextPath_55 : decode cX8_nextPath 55 = .ok (.iload_n 3, 1) := by decide +kernel
theorem dX8_nextPath_56 : decode cX8_nextPath 56 = .ok (.bipush (-9), 2) := by decide +kernel
theorem dX8_nextPath_58 : decode cX8_nextPath 58 = .ok (.if_icmp .ne 45, 3) := by decide +kernel
theorem dX8_nextPath_61 : decode cX8_nextPath 61 = .ok (.aload_n 0, 1) := by decide +kernel
theorem dX8_nextPath_62 : decode cX8_nextPath 62 = .ok (.iload_n 2, 1) := by decide +kernel
theorem dX8_nextPath_63 : decode cX8_nextPath 63 = .ok (.aload_n 0, 1) := by decide +kernel
theorem dX8_nextPath_64 : decode cX8_nextPath 64 = .ok (.getfield 44, 3) := by decide +kernel
theorem dX8_nextPath_67 : decode cX8_nextPath 67 = .ok (.aload_n 0, 1) := by decide +kernel
theorem dX8_nextPath_68 : decode cX8_nextPath 68 = .ok (.getfield 160, 3) := by decide +kernel
theorem dX8_nextPath_71 : decode cX8_nextPath 71 = .ok (.iaload, 1) := by decide +kernel
theorem dX8_nextPath_72 : decode cX8_nextPath 72 = .ok (.invokevirtual 163, 3) := by decide +kernel
theorem dX8_nextPath_75 : decode cX8_nextPath 75 = .ok (.istore_n 3, 1) := by decide +kernel
theorem dX8_nextPath_76 : decode cX8_nextPath 76 = .ok (.iload_n 3, 1) := by decide +kernel
theorem dX8_nextPath_77 : decode cX8_nextPath 77 = .ok (.bipush (-9), 2) := by decide +kernel
theorem dX8_nextPath_79 : decode cX8_nextPath 79 = .ok (.if_icmp .eq 16, 3) := by decide +kernel
theorem dX8_nextPath_82 : decode cX8_nextPath 82 = .ok (.aload_n 0, 1) := by decide +kernel
theorem dX8_nextPath_83 : decode cX8_nextPath 83 = .ok (.iload_n 3, 1) := by decide +kernel
theorem dX8_nextPath_84 : decode cX8_nextPath 84 = .ok (.invokevirtual 166, 3) := by decide +kernel
theorem dX8_nextPath_87 : decode cX8_nextPath 87 = .ok (.ifCond .eq 8, 3) := by decide +kernel
theorem dX8_nextPath_90 : decode cX8_nextPath 90 = .ok (.bipush (-9), 2) := by decide +kernel
theorem dX8_nextPath_92 : decode cX8_nextPath 92 = .ok (.goto 4, 3) := by decide +kernel
theorem dX8_nextPath_95 : decode cX8_nextPath 95 = .ok (.iload_n 3, 1) := by decide +kernel
theorem dX8_nextPath_96 : decode cX8_nextPath 96 = .ok (.istore_n 3, 1) := by decide +kernel
theorem dX8_nextPath_97 : decode cX8_nextPath 97 = .ok (.iinc 2 1, 3) := by decide +kernel
theorem dX8_nextPath_100 : decode cX8_nextPath 100 = .ok (.goto (-55), 3) := by decide +kernel
theorem dX8_nextPath_103 : decode cX8_nextPath 103 = .ok (.aload_n 0, 1) := by decide +kernel
theorem dX8_nextPath_104 : decode cX8_nextPath 104 = .ok (.getfield 41, 3) := by decide +kernel
theorem dX8_nextPath_107 : decode cX8_nextPath 107 = .ok (.aload_n 0, 1) := by decide +kernel
theorem dX8_nextPath_108 : decode cX8_nextPath 108 = .ok (.getfield 160, 3) := by decide +kernel
theorem dX8_nextPath_111 : decode cX8_nextPath 111 = .ok (.iload_n 2, 1) := by decide +kernel
theorem dX8_nextPath_112 : decode cX8_nextPath 112 = .ok (.iconst 1, 1) := by decide +kernel
theorem dX8_nextPath_113 : decode cX8_nextPath 113 = .ok (.isub, 1) := by decide +kernel
theorem dX8_nextPath_114 : decode cX8_nextPath 114 = .ok (.iastore, 1) := by decide +kernel
theorem dX8_nextPath_115 : decode cX8_nextPath 115 = .ok (.iload_n 3, 1) := by decide +kernel
theorem dX8_nextPath_116 : decode cX8_nextPath 116 = .ok (.bipush (-9), 2) := by decide +kernel
theorem dX8_nextPath_118 : decode cX8_nextPath 118 = .ok (.if_icmp .ne 16, 3) := by decide +kernel
theorem dX8_nextPath_121 : decode cX8_nextPath 121 = .ok (.aload_n 0, 1) := by decide +kernel
theorem dX8_nextPath_122 : decode cX8_nextPath 122 = .ok (.dup, 1) := by decide +kernel
theorem dX8_nextPath_123 : decode cX8_nextPath 123 = .ok (.getfield 160, 3) := by decide +kernel
theorem dX8_nextPath_126 : decode cX8_nextPath 126 = .ok (.iconst 1, 1) := by decide +kernel
theorem dX8_nextPath_127 : decode cX8_nextPath 127 = .ok (.isub, 1) := by decide +kernel
theorem dX8_nextPath_128 : decode cX8_nextPath 128 = .ok (.putfield 160, 3) := by decide +kernel
theorem dX8_nextPath_131 : decode cX8_nextPath 131 = .ok (.goto 40, 3) := by decide +kernel
theorem dX8_nextPath_134 : decode cX8_nextPath 134 = .ok (.aload_n 0, 1) := by decide +kernel
theorem dX8_nextPath_135 : decode cX8_nextPath 135 = .ok (.dup, 1) := by decide +kernel
theorem dX8_nextPath_136 : decode cX8_nextPath 136 = .ok (.getfield 160, 3) := by decide +kernel
theorem dX8_nextPath_139 : decode cX8_nextPath 139 = .ok (.iconst 1, 1) := by decide +kernel
theorem dX8_nextPath_140 : decode cX8_nextPath 140 = .ok (.iadd, 1) := by decide +kernel
theorem dX8_nextPath_141 : decode cX8_nextPath 141 = .ok (.putfield 160, 3) := by decide +kernel
theorem dX8_nextPath_144 : decode cX8_nextPath 144 = .ok (.aload_n 0, 1) := by decide +kernel
theorem dX8_nextPath_145 : decode cX8_nextPath 145 = .ok (.getfield 44, 3) := by decide +kernel
theorem dX8_nextPath_148 : decode cX8_nextPath 148 = .ok (.aload_n 0, 1) := by decide +kernel
theorem dX8_nextPath_149 : decode cX8_nextPath 149 = .ok (.getfield 160, 3) := by decide +kernel
theorem dX8_nextPath_152 : decode cX8_nextPath 152 = .ok (.iload_n 3, 1) := by decide +kernel
theorem dX8_nextPath_153 : decode cX8_nextPath 153 = .ok (.iastore, 1) := by decide +kernel
theorem dX8_nextPath_154 : decode cX8_nextPath 154 = .ok (.aload_n 0, 1) := by decide +kernel
theorem dX8_nextPath_155 : decode cX8_nextPath 155 = .ok (.getfield 41, 3) := by decide +kernel
theorem dX8_nextPath_158 : decode cX8_nextPath 158 = .ok (.aload_n 0, 1) := by decide +kernel
theorem dX8_nextPath_159 : decode cX8_nextPath 159 = .ok (.getfield 160, 3) := by decide +kernel
theorem dX8_nextPath_162 : decode cX8_nextPath 162 = .ok (.iconst (-1), 1) := by decide +kernel
theorem dX8_nextPath_163 : decode cX8_nextPath 163 = .ok (.iastore, 1) := by decide +kernel
theorem dX8_nextPath_164 : decode cX8_nextPath 164 = .ok (.iload_n 3, 1) := by decide +kernel
theorem dX8_nextPath_165 : decode cX8_nextPath 165 = .ok (.iload_n 1, 1) := by decide +kernel
theorem dX8_nextPath_166 : decode cX8_nextPath 166 = .ok (.if_icmp .ne 5, 3) := by decide +kernel
theorem dX8_nextPath_169 : decode cX8_nextPath 169 = .ok (.iconst 1, 1) := by decide +kernel
theorem dX8_nextPath_170 : decode cX8_nextPath 170 = .ok (.ireturn, 1) := by decide +kernel
theorem dX8_nextPath_171 : decode cX8_nextPath 171 = .ok (.goto (-148), 3) := by decide +kernel
theorem dX8_nextPath_174 : decode cX8_nextPath 174 = .ok (.iconst 0, 1) := by decide +kernel
theorem dX8_nextPath_175 : decode cX8_nextPath 175 = .ok (.ireturn, 1) := by decide +kernel
theorem dX8_pathMany_0 : decode cX8_pathMany 0 = .ok (.iconst 0, 1) := by decide +kernel
theorem dX8_pathMany_1 : decode cX8_pathMany 1 = .ok (.istore_n 2, 1) := by decide +kernel
theorem dX8_pathMany_2 : decode cX8_pathMany 2 = .ok (.aload_n 0, 1) := by decide +kernel
theorem dX8_pathMany_3 : decode cX8_pathMany 3 = .ok (.invokevirtual 169, 3) := by decide +kernel
theorem dX8_pathMany_6 : decode cX8_pathMany 6 = .ok (.aload_n 0, 1) := by decide +kernel
theorem dX8_pathMany_7 : decode cX8_pathMany 7 = .ok (.aload_n 0, 1) := by decide +kernel
theorem dX8_pathMany_8 : decode cX8_pathMany 8 = .ok (.getfield 13, 3) := by decide +kernel
theorem dX8_pathMany_11 : decode cX8_pathMany 11 = .ok (.bipush 39, 2) := by decide +kernel
theorem dX8_pathMany_13 : decode cX8_pathMany 13 = .ok (.iload_n 1, 1) := by decide +kernel
theorem dX8_pathMany_14 : decode cX8_pathMany 14 = .ok (.iadd, 1) := by decide +kernel
theorem dX8_pathMany_15 : decode cX8_pathMany 15 = .ok (.iaload, 1) := by decide +kernel
theorem dX8_pathMany_16 : decode cX8_pathMany 16 = .ok (.invokevirtual 172, 3) := by decide +kernel
theorem dX8_pathMany_19 : decode cX8_pathMany 19 = .ok (.ifCond .eq 9, 3) := by decide +kernel
theorem dX8_pathMany_22 : decode cX8_pathMany 22 = .ok (.iinc 2 1, 3) := by decide +kernel
theorem dX8_pathMany_25 : decode cX8_pathMany 25 = .ok (.goto (-19), 3) := by decide +kernel
theorem dX8_pathMany_28 : decode cX8_pathMany 28 = .ok (.iload_n 2, 1) := by decide +kernel
theorem dX8_pathMany_29 : decode cX8_pathMany 29 = .ok (.ireturn, 1) := by decide +kernel
theorem dX8_shutIn_0 : decode cX8_shutIn 0 = .ok (.iconst 0, 1) := by decide +kernel
theorem dX8_shutIn_1 : decode cX8_shutIn 1 = .ok (.istore_n 1, 1) := by decide +kernel
theorem dX8_shutIn_2 : decode cX8_shutIn 2 = .ok (.iconst 0, 1) := by decide +kernel
theorem dX8_shutIn_3 : decode cX8_shutIn 3 = .ok (.istore_n 2, 1) := by decide +kernel
theorem dX8_shutIn_4 : decode cX8_shutIn 4 = .ok (.iload_n 2, 1) := by decide +kernel
theorem dX8_shutIn_5 : decode cX8_shutIn 5 = .ok (.bipush 16, 2) := by decide +kernel
theorem dX8_shutIn_7 : decode cX8_shutIn 7 = .ok (.if_icmp .ge 68, 3) := by decide +kernel
theorem dX8_shutIn_10 : decode cX8_shutIn 10 = .ok (.iconst 1, 1) := by decide +kernel
theorem dX8_shutIn_11 : decode cX8_shutIn 11 = .ok (.istore_n 3, 1) := by decide +kernel
theorem dX8_shutIn_12 : decode cX8_shutIn 12 = .ok (.iconst 0, 1) := by decide +kernel
theorem dX8_shutIn_13 : decode cX8_shutIn 13 = .ok (.istore 4, 2) := by decide +kernel
theorem dX8_shutIn_15 : decode cX8_shutIn 15 = .ok (.iload 4, 2) := by decide +kernel
theorem dX8_shutIn_17 : decode cX8_shutIn 17 = .ok (.aload_n 0, 1) := by decide +kernel
theorem dX8_shutIn_18 : decode cX8_shutIn 18 = .ok (.getfield 160, 3) := by decide +kernel
theorem dX8_shutIn_21 : decode cX8_shutIn 21 = .ok (.if_icmp .ge 34, 3) := by decide +kernel
theorem dX8_shutIn_24 : decode cX8_shutIn 24 = .ok (.iload_n 3, 1) := by decide +kernel
theorem dX8_shutIn_25 : decode cX8_shutIn 25 = .ok (.ifCond .eq 22, 3) := by decide +kernel
theorem dX8_shutIn_28 : decode cX8_shutIn 28 = .ok (.aload_n 0, 1) := by decide +kernel
theorem dX8_shutIn_29 : decode cX8_shutIn 29 = .ok (.aload_n 0, 1) := by decide +kernel
theorem dX8_shutIn_30 : decode cX8_shutIn 30 = .ok (.getfield 41, 3) := by decide +kernel
theorem dX8_shutIn_33 : decode cX8_shutIn 33 = .ok (.iload 4, 2) := by decide +kernel
theorem dX8_shutIn_35 : decode cX8_shutIn 35 = .ok (.iaload, 1) := by decide +kernel
theorem dX8_shutIn_36 : decode cX8_shutIn 36 = .ok (.iload_n 2, 1) := by decide +kernel
theorem dX8_shutIn_37 : decode cX8_shutIn 37 = .ok (.invokevirtual 133, 3) := by decide +kernel
theorem dX8_shutIn_40 : decode cX8_shutIn 40 = .ok (.ifCond .eq 7, 3) := by decide +kernel
theorem dX8_shutIn_43 : decode cX8_shutIn 43 = .ok (.iconst 1, 1) := by decide +kernel
theorem dX8_shutIn_44 : decode cX8_shutIn 44 = .ok (.goto 4, 3) := by decide +kernel
theorem dX8_shutIn_47 : decode cX8_shutIn 47 = .ok (.iconst 0, 1) := by decide +kernel
theorem dX8_shutIn_48 : decode cX8_shutIn 48 = .ok (.istore_n 3, 1) := by decide +kernel
theorem dX8_shutIn_49 : decode cX8_shutIn 49 = .ok (.iinc 4 1, 3) := by decide +kernel
theorem dX8_shutIn_52 : decode cX8_shutIn 52 = .ok (.goto (-37), 3) := by decide +kernel
theorem dX8_shutIn_55 : decode cX8_shutIn 55 = .ok (.iload_n 1, 1) := by decide +kernel
theorem dX8_shutIn_56 : decode cX8_shutIn 56 = .ok (.iload_n 3, 1) := by decide +kernel
theorem dX8_shutIn_57 : decode cX8_shutIn 57 = .ok (.ifCond .eq 9, 3) := by decide +kernel
theorem dX8_shutIn_60 : decode cX8_shutIn 60 = .ok (.iconst 1, 1) := by decide +kernel
theorem dX8_shutIn_61 : decode cX8_shutIn 61 = .ok (.iload_n 2, 1) := by decide +kernel
theorem dX8_shutIn_62 : decode cX8_shutIn 62 = .ok (.ishl, 1) := by decide +kernel
theorem dX8_shutIn_63 : decode cX8_shutIn 63 = .ok (.goto 4, 3) := by decide +kernel
theorem dX8_shutIn_66 : decode cX8_shutIn 66 = .ok (.iconst 0, 1) := by decide +kernel
theorem dX8_shutIn_67 : decode cX8_shutIn 67 = .ok (.ior, 1) := by decide +kernel
theorem dX8_shutIn_68 : decode cX8_shutIn 68 = .ok (.istore_n 1, 1) := by decide +kernel
theorem dX8_shutIn_69 : decode cX8_shutIn 69 = .ok (.iinc 2 1, 3) := by decide +kernel
theorem dX8_shutIn_72 : decode cX8_shutIn 72 = .ok (.goto (-68), 3) := by decide +kernel
theorem dX8_shutIn_75 : decode cX8_shutIn 75 = .ok (.iload_n 1, 1) := by decide +kernel
theorem dX8_shutIn_76 : decode cX8_shutIn 76 = .ok (.ireturn, 1) := by decide +kernel
theorem dX8_path_0 : decode cX8_path 0 = .ok (.aload_n 0, 1) := by decide +kernel
theorem dX8_path_1 : decode cX8_path 1 = .ok (.iconst 0, 1) := by decide +kernel
theorem dX8_path_2 : decode cX8_path 2 = .ok (.putfield 59, 3) := by decide +kernel
theorem dX8_path_5 : decode cX8_path 5 = .ok (.aload_n 0, 1) := by decide +kernel
theorem dX8_path_6 : decode cX8_path 6 = .ok (.iload_n 1, 1) := by decide +kernel
theorem dX8_path_7 : decode cX8_path 7 = .ok (.invokevirtual 150, 3) := by decide +kernel
theorem dX8_path_10 : decode cX8_path 10 = .ok (.ifCond .eq 16, 3) := by decide +kernel
theorem dX8_path_13 : decode cX8_path 13 = .ok (.iload_n 2, 1) := by decide +kernel
theorem dX8_path_14 : decode cX8_path 14 = .ok (.ifCond .lt 12, 3) := by decide +kernel
theorem dX8_path_17 : decode cX8_path 17 = .ok (.iload_n 3, 1) := by decide +kernel
theorem dX8_path_18 : decode cX8_path 18 = .ok (.iconst 0, 1) := by decide +kernel
theorem dX8_path_19 : decode cX8_path 19 = .ok (.iconst 2, 1) := by decide +kernel
theorem dX8_path_20 : decode cX8_path 20 = .ok (.invokestatic 63, 3) := by decide +kernel
theorem dX8_path_23 : decode cX8_path 23 = .ok (.ifCond .ne 5, 3) := by decide +kernel
theorem dX8_path_26 : decode cX8_path 26 = .ok (.iconst (-1), 1) := by decide +kernel
theorem dX8_path_27 : decode cX8_path 27 = .ok (.ireturn, 1) := by decide +kernel
theorem dX8_path_28 : decode cX8_path 28 = .ok (.aload_n 0, 1) := by decide +kernel
theorem dX8_path_29 : decode cX8_path 29 = .ok (.invokevirtual 169, 3) := by decide +kernel
theorem dX8_path_32 : decode cX8_path 32 = .ok (.aload_n 0, 1) := by decide +kernel
theorem dX8_path_33 : decode cX8_path 33 = .ok (.aload_n 0, 1) := by decide +kernel
theorem dX8_path_34 : decode cX8_path 34 = .ok (.getfield 13, 3) := by decide +kernel
theorem dX8_path_37 : decode cX8_path 37 = .ok (.bipush 39, 2) := by decide +kernel
theorem dX8_path_39 : decode cX8_path 39 = .ok (.iload_n 1, 1) := by decide +kernel
theorem dX8_path_40 : decode cX8_path 40 = .ok (.iadd, 1) := by decide +kernel
theorem dX8_path_41 : decode cX8_path 41 = .ok (.iaload, 1) := by decide +kernel
theorem dX8_path_42 : decode cX8_path 42 = .ok (.invokevirtual 172, 3) := by decide +kernel
theorem dX8_path_45 : decode cX8_path 45 = .ok (.istore 4, 2) := by decide +kernel
theorem dX8_path_47 : decode cX8_path 47 = .ok (.iconst 0, 1) := by decide +kernel
theorem dX8_path_48 : decode cX8_path 48 = .ok (.istore 5, 2) := by decide +kernel
theorem dX8_path_50 : decode cX8_path 50 = .ok (.iload 5, 2) := by decide +kernel
theorem dX8_path_52 : decode cX8_path 52 = .ok (.iload_n 2, 1) := by decide +kernel
theorem dX8_path_53 : decode cX8_path 53 = .ok (.if_icmp .ge 29, 3) := by decide +kernel
theorem dX8_path_56 : decode cX8_path 56 = .ok (.iload 4, 2) := by decide +kernel
theorem dX8_path_58 : decode cX8_path 58 = .ok (.ifCond .eq 24, 3) := by decide +kernel
theorem dX8_path_61 : decode cX8_path 61 = .ok (.aload_n 0, 1) := by decide +kernel
theorem dX8_path_62 : decode cX8_path 62 = .ok (.aload_n 0, 1) := by decide +kernel
theorem dX8_path_63 : decode cX8_path 63 = .ok (.getfield 13, 3) := by decide +kernel
theorem dX8_path_66 : decode cX8_path 66 = .ok (.bipush 39, 2) := by decide +kernel
theorem dX8_path_68 : decode cX8_path 68 = .ok (.iload_n 1, 1) := by decide +kernel
theorem dX8_path_69 : decode cX8_path 69 = .ok (.iadd, 1) := by decide +kernel
theorem dX8_path_70 : decode cX8_path 70 = .ok (.iaload, 1) := by decide +kernel
theorem dX8_path_71 : decode cX8_path 71 = .ok (.invokevirtual 172, 3) := by decide +kernel
theorem dX8_path_74 : decode cX8_path 74 = .ok (.istore 4, 2) := by decide +kernel
theorem dX8_path_76 : decode cX8_path 76 = .ok (.iinc 5 1, 3) := by decide +kernel
theorem dX8_path_79 : decode cX8_path 79 = .ok (.goto (-29), 3) := by decide +kernel
theorem dX8_path_82 : decode cX8_path 82 = .ok (.iload 4, 2) := by decide +kernel
theorem dX8_path_84 : decode cX8_path 84 = .ok (.ifCond .ne 6, 3) := by decide +kernel
theorem dX8_path_87 : decode cX8_path 87 = .ok (.bipush (-9), 2) := by decide +kernel
theorem dX8_path_89 : decode cX8_path 89 = .ok (.ireturn, 1) := by decide +kernel
theorem dX8_path_90 : decode cX8_path 90 = .ok (.iconst 0, 1) := by decide +kernel
theorem dX8_path_91 : decode cX8_path 91 = .ok (.istore 5, 2) := by decide +kernel
theorem dX8_path_93 : decode cX8_path 93 = .ok (.iconst 0, 1) := by decide +kernel
theorem dX8_path_94 : decode cX8_path 94 = .ok (.istore 6, 2) := by decide +kernel
theorem dX8_path_96 : decode cX8_path 96 = .ok (.iload 6, 2) := by decide +kernel
theorem dX8_path_98 : decode cX8_path 98 = .ok (.aload_n 0, 1) := by decide +kernel
theorem dX8_path_99 : decode cX8_path 99 = .ok (.getfield 160, 3) := by decide +kernel
theorem dX8_path_102 : decode cX8_path 102 = .ok (.if_icmp .ge 23, 3) := by decide +kernel
theorem dX8_path_105 : decode cX8_path 105 = .ok (.iload 5, 2) := by decide +kernel
theorem dX8_path_107 : decode cX8_path 107 = .ok (.iconst 1, 1) := by decide +kernel
theorem dX8_path_108 : decode cX8_path 108 = .ok (.aload_n 0, 1) := by decide +kernel
theorem dX8_path_109 : decode cX8_path 109 = .ok (.getfield 41, 3) := by decide +kernel
theorem dX8_path_112 : decode cX8_path 112 = .ok (.iload 6, 2) := by decide +kernel
theorem dX8_path_114 : decode cX8_path 114 = .ok (.iaload, 1) := by decide +kernel
theorem dX8_path_115 : decode cX8_path 115 = .ok (.ishl, 1) := by decide +kernel
theorem dX8_path_116 : decode cX8_path 116 = .ok (.ior, 1) := by decide +kernel
theorem dX8_path_117 : decode cX8_path 117 = .ok (.istore 5, 2) := by decide +kernel
theorem dX8_path_119 : decode cX8_path 119 = .ok (.iinc 6 1, 3) := by decide +kernel
theorem dX8_path_122 : decode cX8_path 122 = .ok (.goto (-26), 3) := by decide +kernel
theorem dX8_path_125 : decode cX8_path 125 = .ok (.iload_n 3, 1) := by decide +kernel
theorem dX8_path_126 : decode cX8_path 126 = .ok (.ifCond .ne 8, 3) := by decide +kernel
theorem dX8_path_129 : decode cX8_path 129 = .ok (.iload 5, 2) := by decide +kernel
theorem dX8_path_131 : decode cX8_path 131 = .ok (.goto 19, 3) := by decide +kernel
theorem dX8_path_134 : decode cX8_path 134 = .ok (.iload_n 3, 1) := by decide +kernel
theorem dX8_path_135 : decode cX8_path 135 = .ok (.iconst 1, 1) := by decide +kernel
theorem dX8_path_136 : decode cX8_path 136 = .ok (.if_icmp .ne 10, 3) := by decide +kernel
theorem dX8_path_139 : decode cX8_path 139 = .ok (.aload_n 0, 1) := by decide +kernel
theorem dX8_path_140 : decode cX8_path 140 = .ok (.getfield 160, 3) := by decide +kernel
theorem dX8_path_143 : decode cX8_path 143 = .ok (.goto 7, 3) := by decide +kernel
theorem dX8_path_146 : decode cX8_path 146 = .ok (.aload_n 0, 1) := by decide +kernel
theorem dX8_path_147 : decode cX8_path 147 = .ok (.invokevirtual 175, 3) := by decide +kernel
theorem dX8_path_150 : decode cX8_path 150 = .ok (.ireturn, 1) := by decide +kernel
theorem dX8_shortest_0 : decode cX8_shortest 0 = .ok (.aload_n 0, 1) := by decide +kernel
theorem dX8_shortest_1 : decode cX8_shortest 1 = .ok (.iconst 0, 1) := by decide +kernel
theorem dX8_shortest_2 : decode cX8_shortest 2 = .ok (.putfield 59, 3) := by decide +kernel
theorem dX8_shortest_5 : decode cX8_shortest 5 = .ok (.aload_n 0, 1) := by decide +kernel
theorem dX8_shortest_6 : decode cX8_shortest 6 = .ok (.iload_n 1, 1) := by decide +kernel
theorem dX8_shortest_7 : decode cX8_shortest 7 = .ok (.invokevirtual 150, 3) := by decide +kernel
theorem dX8_shortest_10 : decode cX8_shortest 10 = .ok (.ifCond .eq 15, 3) := by decide +kernel
theorem dX8_shortest_13 : decode cX8_shortest 13 = .ok (.iload_n 2, 1) := by decide +kernel
theorem dX8_shortest_14 : decode cX8_shortest 14 = .ok (.invokestatic 179, 3) := by decide +kernel
theorem dX8_shortest_17 : decode cX8_shortest 17 = .ok (.ifCond .eq 8, 3) := by decide +kernel
theorem dX8_shortest_20 : decode cX8_shortest 20 = .ok (.iload_n 3, 1) := by decide +kernel
theorem dX8_shortest_21 : decode cX8_shortest 21 = .ok (.iconst (-1), 1) := by decide +kernel
theorem dX8_shortest_22 : decode cX8_shortest 22 = .ok (.if_icmp .ge 5, 3) := by decide +kernel
theorem dX8_shortest_25 : decode cX8_shortest 25 = .ok (.iconst (-1), 1) := by decide +kernel
theorem dX8_shortest_26 : decode cX8_shortest 26 = .ok (.ireturn, 1) := by decide +kernel
theorem dX8_shortest_27 : decode cX8_shortest 27 = .ok (.bipush 99, 2) := by decide +kernel
theorem dX8_shortest_29 : decode cX8_shortest 29 = .ok (.istore 4, 2) := by decide +kernel
theorem dX8_shortest_31 : decode cX8_shortest 31 = .ok (.aload_n 0, 1) := by decide +kernel
theorem dX8_shortest_32 : decode cX8_shortest 32 = .ok (.invokevirtual 169, 3) := by decide +kernel
theorem dX8_shortest_35 : decode cX8_shortest 35 = .ok (.aload_n 0, 1) := by decide +kernel
theorem dX8_shortest_36 : decode cX8_shortest 36 = .ok (.aload_n 0, 1) := by decide +kernel
theorem dX8_shortest_37 : decode cX8_shortest 37 = .ok (.getfield 13, 3) := by decide +kernel
theorem dX8_shortest_40 : decode cX8_shortest 40 = .ok (.bipush 39, 2) := by decide +kernel
theorem dX8_shortest_42 : decode cX8_shortest 42 = .ok (.iload_n 1, 1) := by decide +kernel
theorem dX8_shortest_43 : decode cX8_shortest 43 = .ok (.iadd, 1) := by decide +kernel
theorem dX8_shortest_44 : decode cX8_shortest 44 = .ok (.iaload, 1) := by decide +kernel
theorem dX8_shortest_45 : decode cX8_shortest 45 = .ok (.invokevirtual 172, 3) := by decide +kernel
theorem dX8_shortest_48 : decode cX8_shortest 48 = .ok (.ifCond .eq 64, 3) := by decide +kernel
theorem dX8_shortest_51 : decode cX8_shortest 51 = .ok (.aload_n 0, 1) := by decide +kernel
theorem dX8_shortest_52 : decode cX8_shortest 52 = .ok (.getfield 160, 3) := by decide +kernel
theorem dX8_shortest_55 : decode cX8_shortest 55 = .ok (.iload 4, 2) := by decide +kernel
theorem dX8_shortest_57 : decode cX8_shortest 57 = .ok (.if_icmp .ge (-22), 3) := by decide +kernel
theorem dX8_shortest_60 : decode cX8_shortest 60 = .ok (.aload_n 0, 1) := by decide +kernel
theorem dX8_shortest_61 : decode cX8_shortest 61 = .ok (.invokevirtual 175, 3) := by decide +kernel
theorem dX8_shortest_64 : decode cX8_shortest 64 = .ok (.iload_n 2, 1) := by decide +kernel
theorem dX8_shortest_65 : decode cX8_shortest 65 = .ok (.invokestatic 130, 3) := by decide +kernel
theorem dX8_shortest_68 : decode cX8_shortest 68 = .ok (.ifCond .eq (-33), 3) := by decide +kernel
theorem dX8_shortest_71 : decode cX8_shortest 71 = .ok (.aload_n 0, 1) := by decide +kernel
theorem dX8_shortest_72 : decode cX8_shortest 72 = .ok (.getfield 160, 3) := by decide +kernel
theorem dX8_shortest_75 : decode cX8_shortest 75 = .ok (.istore 4, 2) := by decide +kernel
theorem dX8_shortest_77 : decode cX8_shortest 77 = .ok (.iconst 0, 1) := by decide +kernel
theorem dX8_shortest_78 : decode cX8_shortest 78 = .ok (.istore 5, 2) := by decide +kernel
theorem dX8_shortest_80 : decode cX8_shortest 80 = .ok (.iload 5, 2) := by decide +kernel
theorem dX8_shortest_82 : decode cX8_shortest 82 = .ok (.aload_n 0, 1) := by decide +kernel
theorem dX8_shortest_83 : decode cX8_shortest 83 = .ok (.getfield 160, 3) := by decide +kernel
theorem dX8_shortest_86 : decode cX8_shortest 86 = .ok (.if_icmp .ge 23, 3) := by decide +kernel
theorem dX8_shortest_89 : decode cX8_shortest 89 = .ok (.aload_n 0, 1) := by decide +kernel
theorem dX8_shortest_90 : decode cX8_shortest 90 = .ok (.getfield 47, 3) := by decide +kernel
theorem dX8_shortest_93 : decode cX8_shortest 93 = .ok (.iload 5, 2) := by decide +kernel
theorem dX8_shortest_95 : decode cX8_shortest 95 = .ok (.aload_n 0, 1) := by decide +kernel
theorem dX8_shortest_96 : decode cX8_shortest 96 = .ok (.getfield 41, 3) := by decide +kernel
theorem dX8_shortest_99 : decode cX8_shortest 99 = .ok (.iload 5, 2) := by decide +kernel
theorem dX8_shortest_101 : decode cX8_shortest 101 = .ok (.iaload, 1) := by decide +kernel
theorem dX8_shortest_102 : decode cX8_shortest 102 = .ok (.iastore, 1) := by decide +kernel
theorem dX8_shortest_103 : decode cX8_shortest 103 = .ok (.iinc 5 1, 3) := by decide +kernel
theorem dX8_shortest_106 : decode cX8_shortest 106 = .ok (.goto (-26), 3) := by decide +kernel
theorem dX8_shortest_109 : decode cX8_shortest 109 = .ok (.goto (-74), 3) := by decide +kernel
theorem dX8_shortest_112 : decode cX8_shortest 112 = .ok (.iload 4, 2) := by decide +kernel
theorem dX8_shortest_114 : decode cX8_shortest 114 = .ok (.bipush 99, 2) := by decide +kernel
theorem dX8_shortest_116 : decode cX8_shortest 116 = .ok (.if_icmp .ne 6, 3) := by decide +kernel
theorem dX8_shortest_119 : decode cX8_shortest 119 = .ok (.bipush (-9), 2) := by decide +kernel
theorem dX8_shortest_121 : decode cX8_shortest 121 = .ok (.ireturn, 1) := by decide +kernel
theorem dX8_shortest_122 : decode cX8_shortest 122 = .ok (.iload_n 3, 1) := by decide +kernel
theorem dX8_shortest_123 : decode cX8_shortest 123 = .ok (.ifCond .ge 8, 3) := by decide +kernel
theorem dX8_shortest_126 : decode cX8_shortest 126 = .ok (.iload 4, 2) := by decide +kernel
theorem dX8_shortest_128 : decode cX8_shortest 128 = .ok (.goto 20, 3) := by decide +kernel
theorem dX8_shortest_131 : decode cX8_shortest 131 = .ok (.iload_n 3, 1) := by decide +kernel
theorem dX8_shortest_132 : decode cX8_shortest 132 = .ok (.iload 4, 2) := by decide +kernel
theorem dX8_shortest_134 : decode cX8_shortest 134 = .ok (.if_icmp .ge 12, 3) := by decide +kernel
theorem dX8_shortest_137 : decode cX8_shortest 137 = .ok (.aload_n 0, 1) := by decide +kernel
theorem dX8_shortest_138 : decode cX8_shortest 138 = .ok (.getfield 47, 3) := by decide +kernel
theorem dX8_shortest_141 : decode cX8_shortest 141 = .ok (.iload_n 3, 1) := by decide +kernel
theorem dX8_shortest_142 : decode cX8_shortest 142 = .ok (.iaload, 1) := by decide +kernel
theorem dX8_shortest_143 : decode cX8_shortest 143 = .ok (.goto 5, 3) := by decide +kernel
theorem dX8_shortest_146 : decode cX8_shortest 146 = .ok (.bipush (-9), 2) := by decide +kernel
theorem dX8_shortest_148 : decode cX8_shortest 148 = .ok (.ireturn, 1) := by decide +kernel
theorem dX8_parting_0 : decode cX8_parting 0 = .ok (.aload_n 0, 1) := by decide +kernel
theorem dX8_parting_1 : decode cX8_parting 1 = .ok (.iconst 0, 1) := by decide +kernel
theorem dX8_parting_2 : decode cX8_parting 2 = .ok (.putfield 59, 3) := by decide +kernel
theorem dX8_parting_5 : decode cX8_parting 5 = .ok (.aload_n 0, 1) := by decide +kernel
theorem dX8_parting_6 : decode cX8_parting 6 = .ok (.iload_n 1, 1) := by decide +kernel
theorem dX8_parting_7 : decode cX8_parting 7 = .ok (.invokevirtual 150, 3) := by decide +kernel
theorem dX8_parting_10 : decode cX8_parting 10 = .ok (.ifCond .eq 10, 3) := by decide +kernel
theorem dX8_parting_13 : decode cX8_parting 13 = .ok (.iload_n 2, 1) := by decide +kernel
theorem dX8_parting_14 : decode cX8_parting 14 = .ok (.invokestatic 179, 3) := by decide +kernel
theorem dX8_parting_17 : decode cX8_parting 17 = .ok (.ifCond .ne 5, 3) := by decide +kernel
theorem dX8_parting_20 : decode cX8_parting 20 = .ok (.iconst (-1), 1) := by decide +kernel
theorem dX8_parting_21 : decode cX8_parting 21 = .ok (.ireturn, 1) := by decide +kernel
theorem dX8_parting_22 : decode cX8_parting 22 = .ok (.iconst 1, 1) := by decide +kernel
theorem dX8_parting_23 : decode cX8_parting 23 = .ok (.aload_n 0, 1) := by decide +kernel
theorem dX8_parting_24 : decode cX8_parting 24 = .ok (.getfield 13, 3) := by decide +kernel
theorem dX8_parting_27 : decode cX8_parting 27 = .ok (.iconst 1, 1) := by decide +kernel
theorem dX8_parting_28 : decode cX8_parting 28 = .ok (.iaload, 1) := by decide +kernel
theorem dX8_parting_29 : decode cX8_parting 29 = .ok (.ishl, 1) := by decide +kernel
theorem dX8_parting_30 : decode cX8_parting 30 = .ok (.iconst 1, 1) := by decide +kernel
theorem dX8_parting_31 : decode cX8_parting 31 = .ok (.isub, 1) := by decide +kernel
theorem dX8_parting_32 : decode cX8_parting 32 = .ok (.istore_n 3, 1) := by decide +kernel
theorem dX8_parting_33 : decode cX8_parting 33 = .ok (.iload_n 3, 1) := by decide +kernel
theorem dX8_parting_34 : decode cX8_parting 34 = .ok (.istore 4, 2) := by decide +kernel
theorem dX8_parting_36 : decode cX8_parting 36 = .ok (.iload 4, 2) := by decide +kernel
theorem dX8_parting_38 : decode cX8_parting 38 = .ok (.ifCond .lt 39, 3) := by decide +kernel
theorem dX8_parting_41 : decode cX8_parting 41 = .ok (.iload 4, 2) := by decide +kernel
theorem dX8_parting_43 : decode cX8_parting 43 = .ok (.invokestatic 182, 3) := by decide +kernel
theorem dX8_parting_46 : decode cX8_parting 46 = .ok (.iload_n 3, 1) := by decide +kernel
theorem dX8_parting_47 : decode cX8_parting 47 = .ok (.invokestatic 182, 3) := by decide +kernel
theorem dX8_parting_50 : decode cX8_parting 50 = .ok (.if_icmp .gt 19, 3) := by decide +kernel
theorem dX8_parting_53 : decode cX8_parting 53 = .ok (.aload_n 0, 1) := by decide +kernel
theorem dX8_parting_54 : decode cX8_parting 54 = .ok (.iload_n 1, 1) := by decide +kernel
theorem dX8_parting_55 : decode cX8_parting 55 = .ok (.iload_n 2, 1) := by decide +kernel
theorem dX8_parting_56 : decode cX8_parting 56 = .ok (.iload 4, 2) := by decide +kernel
theorem dX8_parting_58 : decode cX8_parting 58 = .ok (.invokevirtual 144, 3) := by decide +kernel
theorem dX8_parting_61 : decode cX8_parting 61 = .ok (.ifCond .ne 8, 3) := by decide +kernel
theorem dX8_parting_64 : decode cX8_parting 64 = .ok (.iload 4, 2) := by decide +kernel
theorem dX8_parting_66 : decode cX8_parting 66 = .ok (.goto 4, 3) := by decide +kernel
theorem dX8_parting_69 : decode cX8_parting 69 = .ok (.iload_n 3, 1) := by decide +kernel
theorem dX8_parting_70 : decode cX8_parting 70 = .ok (.istore_n 3, 1) := by decide +kernel
theorem dX8_parting_71 : decode cX8_parting 71 = .ok (.iinc 4 (-1), 3) := by decide +kernel
theorem dX8_parting_74 : decode cX8_parting 74 = .ok (.goto (-38), 3) := by decide +kernel
theorem dX8_parting_77 : decode cX8_parting 77 = .ok (.iload_n 3, 1) := by decide +kernel
theorem dX8_parting_78 : decode cX8_parting 78 = .ok (.ireturn, 1) := by decide +kernel
theorem dX8_isEnough_0 : decode cX8_isEnough 0 = .ok (.iconst 1, 1) := by decide +kernel
theorem dX8_isEnough_1 : decode cX8_isEnough 1 = .ok (.istore_n 2, 1) := by decide +kernel
theorem dX8_isEnough_2 : decode cX8_isEnough 2 = .ok (.iconst 0, 1) := by decide +kernel
theorem dX8_isEnough_3 : decode cX8_isEnough 3 = .ok (.istore_n 3, 1) := by decide +kernel
theorem dX8_isEnough_4 : decode cX8_isEnough 4 = .ok (.iload_n 3, 1) := by decide +kernel
theorem dX8_isEnough_5 : decode cX8_isEnough 5 = .ok (.aload_n 0, 1) := by decide +kernel
theorem dX8_isEnough_6 : decode cX8_isEnough 6 = .ok (.getfield 13, 3) := by decide +kernel
theorem dX8_isEnough_9 : decode cX8_isEnough 9 = .ok (.iconst 2, 1) := by decide +kernel
theorem dX8_isEnough_10 : decode cX8_isEnough 10 = .ok (.iaload, 1) := by decide +kernel
theorem dX8_isEnough_11 : decode cX8_isEnough 11 = .ok (.if_icmp .ge 62, 3) := by decide +kernel
theorem dX8_isEnough_14 : decode cX8_isEnough 14 = .ok (.iload_n 2, 1) := by decide +kernel
theorem dX8_isEnough_15 : decode cX8_isEnough 15 = .ok (.ifCond .eq 58, 3) := by decide +kernel
theorem dX8_isEnough_18 : decode cX8_isEnough 18 = .ok (.aload_n 0, 1) := by decide +kernel
theorem dX8_isEnough_19 : decode cX8_isEnough 19 = .ok (.iload_n 3, 1) := by decide +kernel
theorem dX8_isEnough_20 : decode cX8_isEnough 20 = .ok (.invokevirtual 121, 3) := by decide +kernel
theorem dX8_isEnough_23 : decode cX8_isEnough 23 = .ok (.istore 4, 2) := by decide +kernel
theorem dX8_isEnough_25 : decode cX8_isEnough 25 = .ok (.aload_n 0, 1) := by decide +kernel
theorem dX8_isEnough_26 : decode cX8_isEnough 26 = .ok (.getfield 19, 3) := by decide +kernel
theorem dX8_isEnough_29 : decode cX8_isEnough 29 = .ok (.iconst 0, 1) := by decide +kernel
theorem dX8_isEnough_30 : decode cX8_isEnough 30 = .ok (.iload_n 3, 1) := by decide +kernel
theorem dX8_isEnough_31 : decode cX8_isEnough 31 = .ok (.iadd, 1) := by decide +kernel
theorem dX8_isEnough_32 : decode cX8_isEnough 32 = .ok (.iaload, 1) := by decide +kernel
theorem dX8_isEnough_33 : decode cX8_isEnough 33 = .ok (.istore 5, 2) := by decide +kernel
theorem dX8_isEnough_35 : decode cX8_isEnough 35 = .ok (.iload 4, 2) := by decide +kernel
theorem dX8_isEnough_37 : decode cX8_isEnough 37 = .ok (.iload 5, 2) := by decide +kernel
theorem dX8_isEnough_39 : decode cX8_isEnough 39 = .ok (.iconst (-1), 1) := by decide +kernel
theorem dX8_isEnough_40 : decode cX8_isEnough 40 = .ok (.ixor, 1) := by decide +kernel
theorem dX8_isEnough_41 : decode cX8_isEnough 41 = .ok (.iand, 1) := by decide +kernel
theorem dX8_isEnough_42 : decode cX8_isEnough 42 = .ok (.ifCond .ne 23, 3) := by decide +kernel
theorem dX8_isEnough_45 : decode cX8_isEnough 45 = .ok (.iload 5, 2) := by decide +kernel
theorem dX8_isEnough_47 : decode cX8_isEnough 47 = .ok (.iload 4, 2) := by decide +kernel
theorem dX8_isEnough_49 : decode cX8_isEnough 49 = .ok (.iconst (-1), 1) := by decide +kernel
theorem dX8_isEnough_50 : decode cX8_isEnough 50 = .ok (.ixor, 1) := by decide +kernel
theorem dX8_isEnough_51 : decode cX8_isEnough 51 = .ok (.iand, 1) := by decide +kernel
theorem dX8_isEnough_52 : decode cX8_isEnough 52 = .ok (.aload_n 1, 1) := by decide +kernel
theorem dX8_isEnough_53 : decode cX8_isEnough 53 = .ok (.iload_n 3, 1) := by decide +kernel
theorem dX8_isEnough_54 : decode cX8_isEnough 54 = .ok (.iaload, 1) := by decide +kernel
theorem dX8_isEnough_55 : decode cX8_isEnough 55 = .ok (.iconst (-1), 1) := by decide +kernel
theorem dX8_isEnough_56 : decode cX8_isEnough 56 = .ok (.ixor, 1) := by decide +kernel
theorem dX8_isEnough_57 : decode cX8_isEnough 57 = .ok (.iand, 1) := by decide +kernel
theorem dX8_isEnough_58 : decode cX8_isEnough 58 = .ok (.ifCond .ne 7, 3) := by decide +kernel
theorem dX8_isEnough_61 : decode cX8_isEnough 61 = .ok (.iconst 1, 1) := by decide +kernel
theorem dX8_isEnough_62 : decode cX8_isEnough 62 = .ok (.goto 4, 3) := by decide +kernel
theorem dX8_isEnough_65 : decode cX8_isEnough 65 = .ok (.iconst 0, 1) := by decide +kernel
theorem dX8_isEnough_66 : decode cX8_isEnough 66 = .ok (.istore_n 2, 1) := by decide +kernel
theorem dX8_isEnough_67 : decode cX8_isEnough 67 = .ok (.iinc 3 1, 3) := by decide +kernel
theorem dX8_isEnough_70 : decode cX8_isEnough 70 = .ok (.goto (-66), 3) := by decide +kernel
theorem dX8_isEnough_73 : decode cX8_isEnough 73 = .ok (.iload_n 2, 1) := by decide +kernel
theorem dX8_isEnough_74 : decode cX8_isEnough 74 = .ok (.ireturn, 1) := by decide +kernel
theorem dX8_enough_0 : decode cX8_enough 0 = .ok (.aload_n 0, 1) := by decide +kernel
theorem dX8_enough_1 : decode cX8_enough 1 = .ok (.iconst 0, 1) := by decide +kernel
theorem dX8_enough_2 : decode cX8_enough 2 = .ok (.putfield 59, 3) := by decide +kernel
theorem dX8_enough_5 : decode cX8_enough 5 = .ok (.iload_n 1, 1) := by decide +kernel
theorem dX8_enough_6 : decode cX8_enough 6 = .ok (.iconst 0, 1) := by decide +kernel
theorem dX8_enough_7 : decode cX8_enough 7 = .ok (.iconst 1, 1) := by decide +kernel
theorem dX8_enough_8 : decode cX8_enough 8 = .ok (.invokestatic 63, 3) := by decide +kernel
theorem dX8_enough_11 : decode cX8_enough 11 = .ok (.ifCond .ne 5, 3) := by decide +kernel
theorem dX8_enough_14 : decode cX8_enough 14 = .ok (.iconst (-1), 1) := by decide +kernel
theorem dX8_enough_15 : decode cX8_enough 15 = .ok (.ireturn, 1) := by decide +kernel
theorem dX8_enough_16 : decode cX8_enough 16 = .ok (.iconst 0, 1) := by decide +kernel
theorem dX8_enough_17 : decode cX8_enough 17 = .ok (.istore_n 2, 1) := by decide +kernel
theorem dX8_enough_18 : decode cX8_enough 18 = .ok (.iload_n 2, 1) := by decide +kernel
theorem dX8_enough_19 : decode cX8_enough 19 = .ok (.aload_n 0, 1) := by decide +kernel
theorem dX8_enough_20 : decode cX8_enough 20 = .ok (.getfield 13, 3) := by decide +kernel
theorem dX8_enough_23 : decode cX8_enough 23 = .ok (.iconst 2, 1) := by decide +kernel
theorem dX8_enough_24 : decode cX8_enough 24 = .ok (.iaload, 1) := by decide +kernel
theorem dX8_enough_25 : decode cX8_enough 25 = .ok (.if_icmp .ge 31, 3) := by decide +kernel
theorem dX8_enough_28 : decode cX8_enough 28 = .ok (.aload_n 0, 1) := by decide +kernel
theorem dX8_enough_29 : decode cX8_enough 29 = .ok (.getfield 50, 3) := by decide +kernel
theorem dX8_enough_32 : decode cX8_enough 32 = .ok (.iload_n 2, 1) := by decide +kernel
theorem dX8_enough_33 : decode cX8_enough 33 = .ok (.aload_n 0, 1) := by decide +kernel
theorem dX8_enough_34 : decode cX8_enough 34 = .ok (.getfield 19, 3) := by decide +kernel
theorem dX8_enough_37 : decode cX8_enough 37 = .ok (.iconst 0, 1) := by decide +kernel
theorem dX8_enough_38 : decode cX8_enough 38 = .ok (.iload_n 2, 1) := by decide +kernel
theorem dX8_enough_39 : decode cX8_enough 39 = .ok (.iadd, 1) := by decide +kernel
theorem dX8_enough_40 : decode cX8_enough 40 = .ok (.iaload, 1) := by decide +kernel
theorem dX8_enough_41 : decode cX8_enough 41 = .ok (.aload_n 0, 1) := by decide +kernel
theorem dX8_enough_42 : decode cX8_enough 42 = .ok (.iload_n 2, 1) := by decide +kernel
theorem dX8_enough_43 : decode cX8_enough 43 = .ok (.invokevirtual 121, 3) := by decide +kernel
theorem dX8_enough_46 : decode cX8_enough 46 = .ok (.iconst (-1), 1) := by decide +kernel
theorem dX8_enough_47 : decode cX8_enough 47 = .ok (.ixor, 1) := by decide +kernel
theorem dX8_enough_48 : decode cX8_enough 48 = .ok (.iand, 1) := by decide +kernel
theorem dX8_enough_49 : decode cX8_enough 49 = .ok (.iastore, 1) := by decide +kernel
theorem dX8_enough_50 : decode cX8_enough 50 = .ok (.iinc 2 1, 3) := by decide +kernel
theorem dX8_enough_53 : decode cX8_enough 53 = .ok (.goto (-35), 3) := by decide +kernel
theorem dX8_enough_56 : decode cX8_enough 56 = .ok (.iconst 0, 1) := by decide +kernel
theorem dX8_enough_57 : decode cX8_enough 57 = .ok (.istore_n 2, 1) := by decide +kernel
theorem dX8_enough_58 : decode cX8_enough 58 = .ok (.bipush (-9), 2) := by decide +kernel
theorem dX8_enough_60 : decode cX8_enough 60 = .ok (.istore_n 3, 1) := by decide +kernel
theorem dX8_enough_61 : decode cX8_enough 61 = .ok (.iconst 0, 1) := by decide +kernel
theorem dX8_enough_62 : decode cX8_enough 62 = .ok (.istore 4, 2) := by decide +kernel
theorem dX8_enough_64 : decode cX8_enough 64 = .ok (.iload 4, 2) := by decide +kernel
theorem dX8_enough_66 : decode cX8_enough 66 = .ok (.bipush 10, 2) := by decide +kernel
theorem dX8_enough_68 : decode cX8_enough 68 = .ok (.aload_n 0, 1) := by decide +kernel
theorem dX8_enough_69 : decode cX8_enough 69 = .ok (.getfield 13, 3) := by decide +kernel
theorem dX8_enough_72 : decode cX8_enough 72 = .ok (.iconst 1, 1) := by decide +kernel
theorem dX8_enough_73 : decode cX8_enough 73 = .ok (.iaload, 1) := by decide +kernel
theorem dX8_enough_74 : decode cX8_enough 74 = .ok (.imul, 1) := by decide +kernel
theorem dX8_enough_75 : decode cX8_enough 75 = .ok (.if_icmp .ge 176, 3) := by decide +kernel
theorem dX8_enough_78 : decode cX8_enough 78 = .ok (.iload 4, 2) := by decide +kernel
theorem dX8_enough_80 : decode cX8_enough 80 = .ok (.bipush 10, 2) := by decide +kernel
theorem dX8_enough_82 : decode cX8_enough 82 = .ok (.idiv, 1) := by decide +kernel
theorem dX8_enough_83 : decode cX8_enough 83 = .ok (.istore 5, 2) := by decide +kernel
theorem dX8_enough_85 : decode cX8_enough 85 = .ok (.iload 4, 2) := by decide +kernel
theorem dX8_enough_87 : decode cX8_enough 87 = .ok (.bipush 10, 2) := by decide +kernel
theorem dX8_enough_89 : decode cX8_enough 89 = .ok (.irem, 1) := by decide +kernel
theorem dX8_enough_90 : decode cX8_enough 90 = .ok (.istore 6, 2) := by decide +kernel
theorem dX8_enough_92 : decode cX8_enough 92 = .ok (.aload_n 0, 1) := by decide +kernel
theorem dX8_enough_93 : decode cX8_enough 93 = .ok (.getfield 19, 3) := by decide +kernel
theorem dX8_enough_96 : decode cX8_enough 96 = .ok (.iconst 3, 1) := by decide +kernel
theorem dX8_enough_97 : decode cX8_enough 97 = .ok (.iload 5, 2) := by decide +kernel
theorem dX8_enough_99 : decode cX8_enough 99 = .ok (.iadd, 1) := by decide +kernel
theorem dX8_enough_100 : decode cX8_enough 100 = .ok (.iaload, 1) := by decide +kernel
theorem dX8_enough_101 : decode cX8_enough 101 = .ok (.iconst 4, 1) := by decide +kernel
theorem dX8_enough_102 : decode cX8_enough 102 = .ok (.if_icmp .ne 143, 3) := by decide +kernel
theorem dX8_enough_105 : decode cX8_enough 105 = .ok (.aload_n 0, 1) := by decide +kernel
theorem dX8_enough_106 : decode cX8_enough 106 = .ok (.getfield 19, 3) := by decide +kernel
theorem dX8_enough_109 : decode cX8_enough 109 = .ok (.iconst 3, 1) := by decide +kernel
theorem dX8_enough_110 : decode cX8_enough 110 = .ok (.iload 5, 2) := by decide +kernel
theorem dX8_enough_112 : decode cX8_enough 112 = .ok (.iadd, 1) := by decide +kernel
theorem dX8_enough_113 : decode cX8_enough 113 = .ok (.iload 6, 2) := by decide +kernel
theorem dX8_enough_115 : decode cX8_enough 115 = .ok (.bipush 8, 2) := by decide +kernel
theorem dX8_enough_117 : decode cX8_enough 117 = .ok (.if_icmp .ge 10, 3) := by decide +kernel
theorem dX8_enough_120 : decode cX8_enough 120 = .ok (.iload 6, 2) := by decide +kernel
theorem dX8_enough_122 : decode cX8_enough 122 = .ok (.iconst 4, 1) := by decide +kernel
theorem dX8_enough_123 : decode cX8_enough 123 = .ok (.idiv, 1) := by decide +kernel
theorem dX8_enough_124 : decode cX8_enough 124 = .ok (.goto 8, 3) := by decide +kernel
theorem dX8_enough_127 : decode cX8_enough 127 = .ok (.iload 6, 2) := by decide +kernel
theorem dX8_enough_129 : decode cX8_enough 129 = .ok (.bipush 6, 2) := by decide +kernel
theorem dX8_enough_131 : decode cX8_enough 131 = .ok (.isub, 1) := by decide +kernel
theorem dX8_enough_132 : decode cX8_enough 132 = .ok (.iastore, 1) := by decide +kernel
theorem dX8_enough_133 : decode cX8_enough 133 = .ok (.aload_n 0, 1) := by decide +kernel
theorem dX8_enough_134 : decode cX8_enough 134 = .ok (.getfield 19, 3) := by decide +kernel
theorem dX8_enough_137 : decode cX8_enough 137 = .ok (.bipush 12, 2) := by decide +kernel
theorem dX8_enough_139 : decode cX8_enough 139 = .ok (.iload 5, 2) := by decide +kernel
theorem dX8_enough_141 : decode cX8_enough 141 = .ok (.iadd, 1) := by decide +kernel
theorem dX8_enough_142 : decode cX8_enough 142 = .ok (.iload 6, 2) := by decide +kernel
theorem dX8_enough_144 : decode cX8_enough 144 = .ok (.bipush 8, 2) := by decide +kernel
theorem dX8_enough_146 : decode cX8_enough 146 = .ok (.if_icmp .ge 10, 3) := by decide +kernel
theorem dX8_enough_149 : decode cX8_enough 149 = .ok (.iload 6, 2) := by decide +kernel
theorem dX8_enough_151 : decode cX8_enough 151 = .ok (.iconst 4, 1) := by decide +kernel
theorem dX8_enough_152 : decode cX8_enough 152 = .ok (.irem, 1) := by decide +kernel
theorem dX8_enough_153 : decode cX8_enough 153 = .ok (.goto 4, 3) := by decide +kernel
theorem dX8_enough_156 : decode cX8_enough 156 = .ok (.iconst 0, 1) := by decide +kernel
theorem dX8_enough_157 : decode cX8_enough 157 = .ok (.iastore, 1) := by decide +kernel
theorem dX8_enough_158 : decode cX8_enough 158 = .ok (.aload_n 0, 1) := by decide +kernel
theorem dX8_enough_159 : decode cX8_enough 159 = .ok (.aload_n 0, 1) := by decide +kernel
theorem dX8_enough_160 : decode cX8_enough 160 = .ok (.getfield 50, 3) := by decide +kernel
theorem dX8_enough_163 : decode cX8_enough 163 = .ok (.invokevirtual 185, 3) := by decide +kernel
theorem dX8_enough_166 : decode cX8_enough 166 = .ok (.istore 7, 2) := by decide +kernel
theorem dX8_enough_168 : decode cX8_enough 168 = .ok (.iload 7, 2) := by decide +kernel
theorem dX8_enough_170 : decode cX8_enough 170 = .ok (.ifCond .eq 39, 3) := by decide +kernel
theorem dX8_enough_173 : decode cX8_enough 173 = .ok (.iload_n 2, 1) := by decide +kernel
theorem dX8_enough_174 : decode cX8_enough 174 = .ok (.ifCond .ne 35, 3) := by decide +kernel
theorem dX8_enough_177 : decode cX8_enough 177 = .ok (.bipush 100, 2) := by decide +kernel
theorem dX8_enough_179 : decode cX8_enough 179 = .ok (.iload 5, 2) := by decide +kernel
theorem dX8_enough_181 : decode cX8_enough 181 = .ok (.imul, 1) := by decide +kernel
theorem dX8_enough_182 : decode cX8_enough 182 = .ok (.bipush 10, 2) := by decide +kernel
theorem dX8_enough_184 : decode cX8_enough 184 = .ok (.aload_n 0, 1) := by decide +kernel
theorem dX8_enough_185 : decode cX8_enough 185 = .ok (.getfield 19, 3) := by decide +kernel
theorem dX8_enough_188 : decode cX8_enough 188 = .ok (.iconst 3, 1) := by decide +kernel
theorem dX8_enough_189 : decode cX8_enough 189 = .ok (.iload 5, 2) := by decide +kernel
theorem dX8_enough_191 : decode cX8_enough 191 = .ok (.iadd, 1) := by decide +kernel
theorem dX8_enough_192 : decode cX8_enough 192 = .ok (.iaload, 1) := by decide +kernel
theorem dX8_enough_193 : decode cX8_enough 193 = .ok (.imul, 1) := by decide +kernel
theorem dX8_enough_194 : decode cX8_enough 194 = .ok (.iadd, 1) := by decide +kernel
theorem dX8_enough_195 : decode cX8_enough 195 = .ok (.aload_n 0, 1) := by decide +kernel
theorem dX8_enough_196 : decode cX8_enough 196 = .ok (.getfield 19, 3) := by decide +kernel
theorem dX8_enough_199 : decode cX8_enough 199 = .ok (.bipush 12, 2) := by decide +kernel
theorem dX8_enough_201 : decode cX8_enough 201 = .ok (.iload 5, 2) := by decide +kernel
theorem dX8_enough_203 : decode cX8_enough 203 = .ok (.iadd, 1) := by decide +kernel
theorem dX8_enough_204 : decode cX8_enough 204 = .ok (.iaload, 1) := by decide +kernel
theorem dX8_enough_205 : decode cX8_enough 205 = .ok (.iadd, 1) := by decide +kernel
theorem dX8_enough_206 : decode cX8_enough 206 = .ok (.goto 4, 3) := by decide +kernel
theorem dX8_enough_209 : decode cX8_enough 209 = .ok (.iload_n 3, 1) := by decide +kernel
theorem dX8_enough_210 : decode cX8_enough 210 = .ok (.istore_n 3, 1) := by decide +kernel
theorem dX8_enough_211 : decode cX8_enough 211 = .ok (.iload_n 2, 1) := by decide +kernel
theorem dX8_enough_212 : decode cX8_enough 212 = .ok (.iload 7, 2) := by decide +kernel
theorem dX8_enough_214 : decode cX8_enough 214 = .ok (.ifCond .eq 7, 3) := by decide +kernel
theorem dX8_enough_217 : decode cX8_enough 217 = .ok (.iconst 1, 1) := by decide +kernel
theorem dX8_enough_218 : decode cX8_enough 218 = .ok (.goto 4, 3) := by decide +kernel
theorem dX8_enough_221 : decode cX8_enough 221 = .ok (.iconst 0, 1) := by decide +kernel
theorem dX8_enough_222 : decode cX8_enough 222 = .ok (.iadd, 1) := by decide +kernel
theorem dX8_enough_223 : decode cX8_enough 223 = .ok (.istore_n 2, 1) := by decide +kernel
theorem dX8_enough_224 : decode cX8_enough 224 = .ok (.aload_n 0, 1) := by decide +kernel
theorem dX8_enough_225 : decode cX8_enough 225 = .ok (.getfield 19, 3) := by decide +kernel
theorem dX8_enough_228 : decode cX8_enough 228 = .ok (.iconst 3, 1) := by decide +kernel
theorem dX8_enough_229 : decode cX8_enough 229 = .ok (.iload 5, 2) := by decide +kernel
theorem dX8_enough_231 : decode cX8_enough 231 = .ok (.iadd, 1) := by decide +kernel
theorem dX8_enough_232 : decode cX8_enough 232 = .ok (.iconst 4, 1) := by decide +kernel
theorem dX8_enough_233 : decode cX8_enough 233 = .ok (.iastore, 1) := by decide +kernel
theorem dX8_enough_234 : decode cX8_enough 234 = .ok (.aload_n 0, 1) := by decide +kernel
theorem dX8_enough_235 : decode cX8_enough 235 = .ok (.getfield 19, 3) := by decide +kernel
theorem dX8_enough_238 : decode cX8_enough 238 = .ok (.bipush 12, 2) := by decide +kernel
theorem dX8_enough_240 : decode cX8_enough 240 = .ok (.iload 5, 2) := by decide +kernel
theorem dX8_enough_242 : decode cX8_enough 242 = .ok (.iadd, 1) := by decide +kernel
theorem dX8_enough_243 : decode cX8_enough 243 = .ok (.iconst 0, 1) := by decide +kernel
theorem dX8_enough_244 : decode cX8_enough 244 = .ok (.iastore, 1) := by decide +kernel
theorem dX8_enough_245 : decode cX8_enough 245 = .ok (.iinc 4 1, 3) := by decide +kernel
theorem dX8_enough_248 : decode cX8_enough 248 = .ok (.goto (-184), 3) := by decide +kernel
theorem dX8_enough_251 : decode cX8_enough 251 = .ok (.iload_n 1, 1) := by decide +kernel
theorem dX8_enough_252 : decode cX8_enough 252 = .ok (.ifCond .ne 7, 3) := by decide +kernel
theorem dX8_enough_255 : decode cX8_enough 255 = .ok (.iload_n 2, 1) := by decide +kernel
theorem dX8_enough_256 : decode cX8_enough 256 = .ok (.goto 4, 3) := by decide +kernel
theorem dX8_enough_259 : decode cX8_enough 259 = .ok (.iload_n 3, 1) := by decide +kernel
theorem dX8_enough_260 : decode cX8_enough 260 = .ok (.ireturn, 1) := by decide +kernel
theorem dX8_flash_0 : decode cX8_flash 0 = .ok (.aload_n 0, 1) := by decide +kernel
theorem dX8_flash_1 : decode cX8_flash 1 = .ok (.iconst 0, 1) := by decide +kernel
theorem dX8_flash_2 : decode cX8_flash 2 = .ok (.putfield 59, 3) := by decide +kernel
theorem dX8_flash_5 : decode cX8_flash 5 = .ok (.aload_n 0, 1) := by decide +kernel
theorem dX8_flash_6 : decode cX8_flash 6 = .ok (.iload_n 1, 1) := by decide +kernel
theorem dX8_flash_7 : decode cX8_flash 7 = .ok (.invokevirtual 150, 3) := by decide +kernel
theorem dX8_flash_10 : decode cX8_flash 10 = .ok (.ifCond .eq 17, 3) := by decide +kernel
theorem dX8_flash_13 : decode cX8_flash 13 = .ok (.iload_n 2, 1) := by decide +kernel
theorem dX8_flash_14 : decode cX8_flash 14 = .ok (.invokestatic 179, 3) := by decide +kernel
theorem dX8_flash_17 : decode cX8_flash 17 = .ok (.ifCond .eq 10, 3) := by decide +kernel
theorem dX8_flash_20 : decode cX8_flash 20 = .ok (.iload_n 3, 1) := by decide +kernel
theorem dX8_flash_21 : decode cX8_flash 21 = .ok (.invokestatic 179, 3) := by decide +kernel
theorem dX8_flash_24 : decode cX8_flash 24 = .ok (.ifCond .ne 5, 3) := by decide +kernel
theorem dX8_flash_27 : decode cX8_flash 27 = .ok (.iconst (-1), 1) := by decide +kernel
theorem dX8_flash_28 : decode cX8_flash 28 = .ok (.ireturn, 1) := by decide +kernel
theorem dX8_flash_29 : decode cX8_flash 29 = .ok (.iload_n 2, 1) := by decide +kernel
theorem dX8_flash_30 : decode cX8_flash 30 = .ok (.iload_n 3, 1) := by decide +kernel
theorem dX8_flash_31 : decode cX8_flash 31 = .ok (.ixor, 1) := by decide +kernel
theorem dX8_flash_32 : decode cX8_flash 32 = .ok (.istore 4, 2) := by decide +kernel
theorem dX8_flash_34 : decode cX8_flash 34 = .ok (.aload_n 0, 1) := by decide +kernel
theorem dX8_flash_35 : decode cX8_flash 35 = .ok (.iload_n 1, 1) := by decide +kernel
theorem dX8_flash_36 : decode cX8_flash 36 = .ok (.invokevirtual 121, 3) := by decide +kernel
theorem dX8_flash_39 : decode cX8_flash 39 = .ok (.istore 5, 2) := by decide +kernel
theorem dX8_flash_41 : decode cX8_flash 41 = .ok (.iconst 0, 1) := by decide +kernel
theorem dX8_flash_42 : decode cX8_flash 42 = .ok (.istore 6, 2) := by decide +kernel
theorem dX8_flash_44 : decode cX8_flash 44 = .ok (.iconst 1, 1) := by decide +kernel
theorem dX8_flash_45 : decode cX8_flash 45 = .ok (.istore 7, 2) := by decide +kernel
theorem dX8_flash_47 : decode cX8_flash 47 = .ok (.iload 7, 2) := by decide +kernel
theorem dX8_flash_49 : decode cX8_flash 49 = .ok (.iload 4, 2) := by decide +kernel
theorem dX8_flash_51 : decode cX8_flash 51 = .ok (.if_icmp .ge 43, 3) := by decide +kernel
theorem dX8_flash_54 : decode cX8_flash 54 = .ok (.iload 6, 2) := by decide +kernel
theorem dX8_flash_56 : decode cX8_flash 56 = .ok (.ifCond .ne 25, 3) := by decide +kernel
theorem dX8_flash_59 : decode cX8_flash 59 = .ok (.iload 7, 2) := by decide +kernel
theorem dX8_flash_61 : decode cX8_flash 61 = .ok (.iload 4, 2) := by decide +kernel
theorem dX8_flash_63 : decode cX8_flash 63 = .ok (.iconst (-1), 1) := by decide +kernel
theorem dX8_flash_64 : decode cX8_flash 64 = .ok (.ixor, 1) := by decide +kernel
theorem dX8_flash_65 : decode cX8_flash 65 = .ok (.iand, 1) := by decide +kernel
theorem dX8_flash_66 : decode cX8_flash 66 = .ok (.ifCond .ne 19, 3) := by decide +kernel
theorem dX8_flash_69 : decode cX8_flash 69 = .ok (.iload 5, 2) := by decide +kernel
theorem dX8_flash_71 : decode cX8_flash 71 = .ok (.iload_n 2, 1) := by decide +kernel
theorem dX8_flash_72 : decode cX8_flash 72 = .ok (.iload 7, 2) := by decide +kernel
theorem dX8_flash_74 : decode cX8_flash 74 = .ok (.ixor, 1) := by decide +kernel
theorem dX8_flash_75 : decode cX8_flash 75 = .ok (.invokestatic 130, 3) := by decide +kernel
theorem dX8_flash_78 : decode cX8_flash 78 = .ok (.ifCond .eq 7, 3) := by decide +kernel
theorem dX8_flash_81 : decode cX8_flash 81 = .ok (.iconst 1, 1) := by decide +kernel
theorem dX8_flash_82 : decode cX8_flash 82 = .ok (.goto 4, 3) := by decide +kernel
theorem dX8_flash_85 : decode cX8_flash 85 = .ok (.iconst 0, 1) := by decide +kernel
theorem dX8_flash_86 : decode cX8_flash 86 = .ok (.istore 6, 2) := by decide +kernel
theorem dX8_flash_88 : decode cX8_flash 88 = .ok (.iinc 7 1, 3) := by decide +kernel
theorem dX8_flash_91 : decode cX8_flash 91 = .ok (.goto (-44), 3) := by decide +kernel
theorem dX8_flash_94 : decode cX8_flash 94 = .ok (.iload 6, 2) := by decide +kernel
theorem dX8_flash_96 : decode cX8_flash 96 = .ok (.ifCond .eq 25, 3) := by decide +kernel
theorem dX8_flash_99 : decode cX8_flash 99 = .ok (.iload 5, 2) := by decide +kernel
theorem dX8_flash_101 : decode cX8_flash 101 = .ok (.iload_n 2, 1) := by decide +kernel
theorem dX8_flash_102 : decode cX8_flash 102 = .ok (.invokestatic 130, 3) := by decide +kernel
theorem dX8_flash_105 : decode cX8_flash 105 = .ok (.ifCond .ne 16, 3) := by decide +kernel
theorem dX8_flash_108 : decode cX8_flash 108 = .ok (.iload 5, 2) := by decide +kernel
theorem dX8_flash_110 : decode cX8_flash 110 = .ok (.iload_n 3, 1) := by decide +kernel
theorem dX8_flash_111 : decode cX8_flash 111 = .ok (.invokestatic 130, 3) := by decide +kernel
theorem dX8_flash_114 : decode cX8_flash 114 = .ok (.ifCond .ne 7, 3) := by decide +kernel
theorem dX8_flash_117 : decode cX8_flash 117 = .ok (.iconst 1, 1) := by decide +kernel
theorem dX8_flash_118 : decode cX8_flash 118 = .ok (.goto 4, 3) := by decide +kernel
theorem dX8_flash_121 : decode cX8_flash 121 = .ok (.iconst 0, 1) := by decide +kernel
theorem dX8_flash_122 : decode cX8_flash 122 = .ok (.ireturn, 1) := by decide +kernel
theorem dX8_gcd_0 : decode cX8_gcd 0 = .ok (.lload_n 0, 1) := by decide +kernel
theorem dX8_gcd_1 : decode cX8_gcd 1 = .ok (.lstore 4, 2) := by decide +kernel
theorem dX8_gcd_3 : decode cX8_gcd 3 = .ok (.lload_n 2, 1) := by decide +kernel
theorem dX8_gcd_4 : decode cX8_gcd 4 = .ok (.lstore 6, 2) := by decide +kernel
theorem dX8_gcd_6 : decode cX8_gcd 6 = .ok (.lload 6, 2) := by decide +kernel
theorem dX8_gcd_8 : decode cX8_gcd 8 = .ok (.lconst 0, 1) := by decide +kernel
theorem dX8_gcd_9 : decode cX8_gcd 9 = .ok (.lcmp, 1) := by decide +kernel
theorem dX8_gcd_10 : decode cX8_gcd 10 = .ok (.ifCond .eq 21, 3) := by decide +kernel
theorem dX8_gcd_13 : decode cX8_gcd 13 = .ok (.lload 4, 2) := by decide +kernel
theorem dX8_gcd_15 : decode cX8_gcd 15 = .ok (.lload 6, 2) := by decide +kernel
theorem dX8_gcd_17 : decode cX8_gcd 17 = .ok (.lrem, 1) := by decide +kernel
theorem dX8_gcd_18 : decode cX8_gcd 18 = .ok (.lstore 8, 2) := by decide +kernel
theorem dX8_gcd_20 : decode cX8_gcd 20 = .ok (.lload 6, 2) := by decide +kernel
theorem dX8_gcd_22 : decode cX8_gcd 22 = .ok (.lstore 4, 2) := by decide +kernel
theorem dX8_gcd_24 : decode cX8_gcd 24 = .ok (.lload 8, 2) := by decide +kernel
theorem dX8_gcd_26 : decode cX8_gcd 26 = .ok (.lstore 6, 2) := by decide +kernel
theorem dX8_gcd_28 : decode cX8_gcd 28 = .ok (.goto (-22), 3) := by decide +kernel
theorem dX8_gcd_31 : decode cX8_gcd 31 = .ok (.lload 4, 2) := by decide +kernel
theorem dX8_gcd_33 : decode cX8_gcd 33 = .ok (.lreturn, 1) := by decide +kernel
theorem dX8_odds_0 : decode cX8_odds 0 = .ok (.aload_n 0, 1) := by decide +kernel
theorem dX8_odds_1 : decode cX8_odds 1 = .ok (.iconst 0, 1) := by decide +kernel
theorem dX8_odds_2 : decode cX8_odds 2 = .ok (.putfield 59, 3) := by decide +kernel
theorem dX8_odds_5 : decode cX8_odds 5 = .ok (.iload_n 1, 1) := by decide +kernel
theorem dX8_odds_6 : decode cX8_odds 6 = .ok (.iconst 0, 1) := by decide +kernel
theorem dX8_odds_7 : decode cX8_odds 7 = .ok (.bipush 10, 2) := by decide +kernel
theorem dX8_odds_9 : decode cX8_odds 9 = .ok (.invokestatic 63, 3) := by decide +kernel
theorem dX8_odds_12 : decode cX8_odds 12 = .ok (.ifCond .eq 28, 3) := by decide +kernel
theorem dX8_odds_15 : decode cX8_odds 15 = .ok (.aload_n 0, 1) := by decide +kernel
theorem dX8_odds_16 : decode cX8_odds 16 = .ok (.iload_n 2, 1) := by decide +kernel
theorem dX8_odds_17 : decode cX8_odds 17 = .ok (.invokevirtual 150, 3) := by decide +kernel
theorem dX8_odds_20 : decode cX8_odds 20 = .ok (.ifCond .eq 20, 3) := by decide +kernel
theorem dX8_odds_23 : decode cX8_odds 23 = .ok (.iload_n 3, 1) := by decide +kernel
theorem dX8_odds_24 : decode cX8_odds 24 = .ok (.invokestatic 179, 3) := by decide +kernel
theorem dX8_odds_27 : decode cX8_odds 27 = .ok (.ifCond .eq 13, 3) := by decide +kernel
theorem dX8_odds_30 : decode cX8_odds 30 = .ok (.iload 4, 2) := by decide +kernel
theorem dX8_odds_32 : decode cX8_odds 32 = .ok (.iconst 0, 1) := by decide +kernel
theorem dX8_odds_33 : decode cX8_odds 33 = .ok (.iconst 1, 1) := by decide +kernel
theorem dX8_odds_34 : decode cX8_odds 34 = .ok (.invokestatic 63, 3) := by decide +kernel
theorem dX8_odds_37 : decode cX8_odds 37 = .ok (.ifCond .ne 5, 3) := by decide +kernel
theorem dX8_odds_40 : decode cX8_odds 40 = .ok (.iconst (-1), 1) := by decide +kernel
theorem dX8_odds_41 : decode cX8_odds 41 = .ok (.ireturn, 1) := by decide +kernel
theorem dX8_odds_42 : decode cX8_odds 42 = .ok (.lconst 0, 1) := by decide +kernel
theorem dX8_odds_43 : decode cX8_odds 43 = .ok (.lstore 5, 2) := by decide +kernel
theorem dX8_odds_45 : decode cX8_odds 45 = .ok (.lconst 1, 1) := by decide +kernel
theorem dX8_odds_46 : decode cX8_odds 46 = .ok (.lstore 7, 2) := by decide +kernel
theorem dX8_odds_48 : decode cX8_odds 48 = .ok (.iconst 0, 1) := by decide +kernel
theorem dX8_odds_49 : decode cX8_odds 49 = .ok (.istore 9, 2) := by decide +kernel
theorem dX8_odds_51 : decode cX8_odds 51 = .ok (.iload 9, 2) := by decide +kernel
theorem dX8_odds_53 : decode cX8_odds 53 = .ok (.iconst 1, 1) := by decide +kernel
theorem dX8_odds_54 : decode cX8_odds 54 = .ok (.aload_n 0, 1) := by decide +kernel
theorem dX8_odds_55 : decode cX8_odds 55 = .ok (.getfield 13, 3) := by decide +kernel
theorem dX8_odds_58 : decode cX8_odds 58 = .ok (.iconst 1, 1) := by decide +kernel
theorem dX8_odds_59 : decode cX8_odds 59 = .ok (.iaload, 1) := by decide +kernel
theorem dX8_odds_60 : decode cX8_odds 60 = .ok (.ishl, 1) := by decide +kernel
theorem dX8_odds_61 : decode cX8_odds 61 = .ok (.if_icmp .ge 97, 3) := by decide +kernel
theorem dX8_odds_64 : decode cX8_odds 64 = .ok (.lconst 1, 1) := by decide +kernel
theorem dX8_odds_65 : decode cX8_odds 65 = .ok (.lstore 10, 2) := by decide +kernel
theorem dX8_odds_67 : decode cX8_odds 67 = .ok (.lconst 1, 1) := by decide +kernel
theorem dX8_odds_68 : decode cX8_odds 68 = .ok (.lstore 7, 2) := by decide +kernel
theorem dX8_odds_70 : decode cX8_odds 70 = .ok (.iconst 0, 1) := by decide +kernel
theorem dX8_odds_71 : decode cX8_odds 71 = .ok (.istore 12, 2) := by decide +kernel
theorem dX8_odds_73 : decode cX8_odds 73 = .ok (.iload 12, 2) := by decide +kernel
theorem dX8_odds_75 : decode cX8_odds 75 = .ok (.aload_n 0, 1) := by decide +kernel
theorem dX8_odds_76 : decode cX8_odds 76 = .ok (.getfield 13, 3) := by decide +kernel
theorem dX8_odds_79 : decode cX8_odds 79 = .ok (.iconst 1, 1) := by decide +kernel
theorem dX8_odds_80 : decode cX8_odds 80 = .ok (.iaload, 1) := by decide +kernel
theorem dX8_odds_81 : decode cX8_odds 81 = .ok (.if_icmp .ge 42, 3) := by decide +kernel
theorem dX8_odds_84 : decode cX8_odds 84 = .ok (.lload 10, 2) := by decide +kernel
theorem dX8_odds_86 : decode cX8_odds 86 = .ok (.iload 9, 2) := by decide +kernel
theorem dX8_odds_88 : decode cX8_odds 88 = .ok (.iload 12, 2) := by decide +kernel
theorem dX8_odds_90 : decode cX8_odds 90 = .ok (.invokestatic 130, 3) := by decide +kernel
theorem dX8_odds_93 : decode cX8_odds 93 = .ok (.ifCond .eq 8, 3) := by decide +kernel
theorem dX8_odds_96 : decode cX8_odds 96 = .ok (.iload_n 1, 1) := by decide +kernel
theorem dX8_odds_97 : decode cX8_odds 97 = .ok (.i2l, 1) := by decide +kernel
theorem dX8_odds_98 : decode cX8_odds 98 = .ok (.goto 8, 3) := by decide +kernel
theorem dX8_odds_101 : decode cX8_odds 101 = .ok (.bipush 10, 2) := by decide +kernel
theorem dX8_odds_103 : decode cX8_odds 103 = .ok (.iload_n 1, 1) := by decide +kernel
theorem dX8_odds_104 : decode cX8_odds 104 = .ok (.isub, 1) := by decide +kernel
theorem dX8_odds_105 : decode cX8_odds 105 = .ok (.i2l, 1) := by decide +kernel
theorem dX8_odds_106 : decode cX8_odds 106 = .ok (.lmul, 1) := by decide +kernel
theorem dX8_odds_107 : decode cX8_odds 107 = .ok (.lstore 10, 2) := by decide +kernel
theorem dX8_odds_109 : decode cX8_odds 109 = .ok (.lload 7, 2) := by decide +kernel
theorem dX8_odds_111 : decode cX8_odds 111 = .ok (.ldc2_w 189, 3) := by decide +kernel
theorem dX8_odds_114 : decode cX8_odds 114 = .ok (.lmul, 1) := by decide +kernel
theorem dX8_odds_115 : decode cX8_odds 115 = .ok (.lstore 7, 2) := by decide +kernel
theorem dX8_odds_117 : decode cX8_odds 117 = .ok (.iinc 12 1, 3) := by decide +kernel
theorem dX8_odds_120 : decode cX8_odds 120 = .ok (.goto (-47), 3) := by decide +kernel
theorem dX8_odds_123 : decode cX8_odds 123 = .ok (.lload 5, 2) := by decide +kernel
theorem dX8_odds_125 : decode cX8_odds 125 = .ok (.lload 10, 2) := by decide +kernel
theorem dX8_odds_127 : decode cX8_odds 127 = .ok (.lconst 0, 1) := by decide +kernel
theorem dX8_odds_128 : decode cX8_odds 128 = .ok (.lcmp, 1) := by decide +kernel
theorem dX8_odds_129 : decode cX8_odds 129 = .ok (.ifCond .le 19, 3) := by decide +kernel
theorem dX8_odds_132 : decode cX8_odds 132 = .ok (.aload_n 0, 1) := by decide +kernel
theorem dX8_odds_133 : decode cX8_odds 133 = .ok (.iload_n 2, 1) := by decide +kernel
theorem dX8_odds_134 : decode cX8_odds 134 = .ok (.iload_n 3, 1) := by decide +kernel
theorem dX8_odds_135 : decode cX8_odds 135 = .ok (.iload 9, 2) := by decide +kernel
theorem dX8_odds_137 : decode cX8_odds 137 = .ok (.invokevirtual 144, 3) := by decide +kernel
theorem dX8_odds_140 : decode cX8_odds 140 = .ok (.ifCond .eq 8, 3) := by decide +kernel
theorem dX8_odds_143 : decode cX8_odds 143 = .ok (.lload 10, 2) := by decide +kernel
theorem dX8_odds_145 : decode cX8_odds 145 = .ok (.goto 4, 3) := by decide +kernel
theorem dX8_odds_148 : decode cX8_odds 148 = .ok (.lconst 0, 1) := by decide +kernel
theorem dX8_odds_149 : decode cX8_odds 149 = .ok (.ladd, 1) := by decide +kernel
theorem dX8_odds_150 : decode cX8_odds 150 = .ok (.lstore 5, 2) := by decide +kernel
theorem dX8_odds_152 : decode cX8_odds 152 = .ok (.iinc 9 1, 3) := by decide +kernel
theorem dX8_odds_155 : decode cX8_odds 155 = .ok (.goto (-104), 3) := by decide +kernel
theorem dX8_odds_158 : decode cX8_odds 158 = .ok (.lload 5, 2) := by decide +kernel
theorem dX8_odds_160 : decode cX8_odds 160 = .ok (.lload 7, 2) := by decide +kernel
theorem dX8_odds_162 : decode cX8_odds 162 = .ok (.invokestatic 191, 3) := by decide +kernel
theorem dX8_odds_165 : decode cX8_odds 165 = .ok (.lstore 9, 2) := by decide +kernel
theorem dX8_odds_167 : decode cX8_odds 167 = .ok (.iload 4, 2) := by decide +kernel
theorem dX8_odds_169 : decode cX8_odds 169 = .ok (.ifCond .ne 11, 3) := by decide +kernel
theorem dX8_odds_172 : decode cX8_odds 172 = .ok (.lload 5, 2) := by decide +kernel
theorem dX8_odds_174 : decode cX8_odds 174 = .ok (.lload 9, 2) := by decide +kernel
theorem dX8_odds_176 : decode cX8_odds 176 = .ok (.ldiv, 1) := by decide +kernel
theorem dX8_odds_177 : decode cX8_odds 177 = .ok (.goto 8, 3) := by decide +kernel
theorem dX8_odds_180 : decode cX8_odds 180 = .ok (.lload 7, 2) := by decide +kernel
theorem dX8_odds_182 : decode cX8_odds 182 = .ok (.lload 9, 2) := by decide +kernel
theorem dX8_odds_184 : decode cX8_odds 184 = .ok (.ldiv, 1) := by decide +kernel
theorem dX8_odds_185 : decode cX8_odds 185 = .ok (.l2i, 1) := by decide +kernel
theorem dX8_odds_186 : decode cX8_odds 186 = .ok (.ireturn, 1) := by decide +kernel
theorem dX8_sees_0 : decode cX8_sees 0 = .ok (.aload_n 0, 1) := by decide +kernel
theorem dX8_sees_1 : decode cX8_sees 1 = .ok (.iconst 0, 1) := by decide +kernel
theorem dX8_sees_2 : decode cX8_sees 2 = .ok (.putfield 59, 3) := by decide +kernel
theorem dX8_sees_5 : decode cX8_sees 5 = .ok (.aload_n 0, 1) := by decide +kernel
theorem dX8_sees_6 : decode cX8_sees 6 = .ok (.iload_n 1, 1) := by decide +kernel
theorem dX8_sees_7 : decode cX8_sees 7 = .ok (.invokevirtual 150, 3) := by decide +kernel
theorem dX8_sees_10 : decode cX8_sees 10 = .ok (.ifCond .eq 19, 3) := by decide +kernel
theorem dX8_sees_13 : decode cX8_sees 13 = .ok (.iload_n 2, 1) := by decide +kernel
theorem dX8_sees_14 : decode cX8_sees 14 = .ok (.invokestatic 179, 3) := by decide +kernel
theorem dX8_sees_17 : decode cX8_sees 17 = .ok (.ifCond .eq 12, 3) := by decide +kernel
theorem dX8_sees_20 : decode cX8_sees 20 = .ok (.iload_n 3, 1) := by decide +kernel
theorem dX8_sees_21 : decode cX8_sees 21 = .ok (.iconst 0, 1) := by decide +kernel
theorem dX8_sees_22 : decode cX8_sees 22 = .ok (.iconst 1, 1) := by decide +kernel
theorem dX8_sees_23 : decode cX8_sees 23 = .ok (.invokestatic 63, 3) := by decide +kernel
theorem dX8_sees_26 : decode cX8_sees 26 = .ok (.ifCond .ne 5, 3) := by decide +kernel
theorem dX8_sees_29 : decode cX8_sees 29 = .ok (.iconst (-1), 1) := by decide +kernel
theorem dX8_sees_30 : decode cX8_sees 30 = .ok (.ireturn, 1) := by decide +kernel
theorem dX8_sees_31 : decode cX8_sees 31 = .ok (.aload_n 0, 1) := by decide +kernel
theorem dX8_sees_32 : decode cX8_sees 32 = .ok (.getfield 124, 3) := by decide +kernel
theorem dX8_sees_35 : decode cX8_sees 35 = .ok (.bipush 6, 2) := by decide +kernel
theorem dX8_sees_37 : decode cX8_sees 37 = .ok (.if_icmp .ne 6, 3) := by decide +kernel
theorem dX8_sees_40 : decode cX8_sees 40 = .ok (.bipush (-3), 2) := by decide +kernel
theorem dX8_sees_42 : decode cX8_sees 42 = .ok (.ireturn, 1) := by decide +kernel
theorem dX8_sees_43 : decode cX8_sees 43 = .ok (.aload_n 0, 1) := by decide +kernel
theorem dX8_sees_44 : decode cX8_sees 44 = .ok (.getfield 32, 3) := by decide +kernel
theorem dX8_sees_47 : decode cX8_sees 47 = .ok (.aload_n 0, 1) := by decide +kernel
theorem dX8_sees_48 : decode cX8_sees 48 = .ok (.getfield 124, 3) := by decide +kernel
theorem dX8_sees_51 : decode cX8_sees 51 = .ok (.iload_n 1, 1) := by decide +kernel
theorem dX8_sees_52 : decode cX8_sees 52 = .ok (.iastore, 1) := by decide +kernel
theorem dX8_sees_53 : decode cX8_sees 53 = .ok (.aload_n 0, 1) := by decide +kernel
theorem dX8_sees_54 : decode cX8_sees 54 = .ok (.getfield 35, 3) := by decide +kernel
theorem dX8_sees_57 : decode cX8_sees 57 = .ok (.aload_n 0, 1) := by decide +kernel
theorem dX8_sees_58 : decode cX8_sees 58 = .ok (.getfield 124, 3) := by decide +kernel
theorem dX8_sees_61 : decode cX8_sees 61 = .ok (.iload_n 2, 1) := by decide +kernel
theorem dX8_sees_62 : decode cX8_sees 62 = .ok (.iastore, 1) := by decide +kernel
theorem dX8_sees_63 : decode cX8_sees 63 = .ok (.aload_n 0, 1) := by decide +kernel
theorem dX8_sees_64 : decode cX8_sees 64 = .ok (.getfield 38, 3) := by decide +kernel
theorem dX8_sees_67 : decode cX8_sees 67 = .ok (.aload_n 0, 1) := by decide +kernel
theorem dX8_sees_68 : decode cX8_sees 68 = .ok (.getfield 124, 3) := by decide +kernel
theorem dX8_sees_71 : decode cX8_sees 71 = .ok (.iload_n 3, 1) := by decide +kernel
theorem dX8_sees_72 : decode cX8_sees 72 = .ok (.iastore, 1) := by decide +kernel
theorem dX8_sees_73 : decode cX8_sees 73 = .ok (.aload_n 0, 1) := by decide +kernel
theorem dX8_sees_74 : decode cX8_sees 74 = .ok (.dup, 1) := by decide +kernel
theorem dX8_sees_75 : decode cX8_sees 75 = .ok (.getfield 124, 3) := by decide +kernel
theorem dX8_sees_78 : decode cX8_sees 78 = .ok (.iconst 1, 1) := by decide +kernel
theorem dX8_sees_79 : decode cX8_sees 79 = .ok (.iadd, 1) := by decide +kernel
theorem dX8_sees_80 : decode cX8_sees 80 = .ok (.putfield 124, 3) := by decide +kernel
theorem dX8_sees_83 : decode cX8_sees 83 = .ok (.aload_n 0, 1) := by decide +kernel
theorem dX8_sees_84 : decode cX8_sees 84 = .ok (.getfield 124, 3) := by decide +kernel
theorem dX8_sees_87 : decode cX8_sees 87 = .ok (.ireturn, 1) := by decide +kernel
theorem dX8_forget_0 : decode cX8_forget 0 = .ok (.aload_n 0, 1) := by decide +kernel
theorem dX8_forget_1 : decode cX8_forget 1 = .ok (.iconst 0, 1) := by decide +kernel
theorem dX8_forget_2 : decode cX8_forget 2 = .ok (.putfield 59, 3) := by decide +kernel
theorem dX8_forget_5 : decode cX8_forget 5 = .ok (.aload_n 0, 1) := by decide +kernel
theorem dX8_forget_6 : decode cX8_forget 6 = .ok (.getfield 124, 3) := by decide +kernel
theorem dX8_forget_9 : decode cX8_forget 9 = .ok (.istore_n 1, 1) := by decide +kernel
theorem dX8_forget_10 : decode cX8_forget 10 = .ok (.aload_n 0, 1) := by decide +kernel
theorem dX8_forget_11 : decode cX8_forget 11 = .ok (.iconst 0, 1) := by decide +kernel
theorem dX8_forget_12 : decode cX8_forget 12 = .ok (.putfield 124, 3) := by decide +kernel
theorem dX8_forget_15 : decode cX8_forget 15 = .ok (.iload_n 1, 1) := by decide +kernel
theorem dX8_forget_16 : decode cX8_forget 16 = .ok (.ireturn, 1) := by decide +kernel
theorem dX8_unseen_0 : decode cX8_unseen 0 = .ok (.aload_n 0, 1) := by decide +kernel
theorem dX8_unseen_1 : decode cX8_unseen 1 = .ok (.iconst 0, 1) := by decide +kernel
theorem dX8_unseen_2 : decode cX8_unseen 2 = .ok (.putfield 59, 3) := by decide +kernel
theorem dX8_unseen_5 : decode cX8_unseen 5 = .ok (.iload_n 1, 1) := by decide +kernel
theorem dX8_unseen_6 : decode cX8_unseen 6 = .ok (.iconst 1, 1) := by decide +kernel
theorem dX8_unseen_7 : decode cX8_unseen 7 = .ok (.iconst 2, 1) := by decide +kernel
theorem dX8_unseen_8 : decode cX8_unseen 8 = .ok (.invokestatic 63, 3) := by decide +kernel
theorem dX8_unseen_11 : decode cX8_unseen 11 = .ok (.ifCond .ne 5, 3) := by decide +kernel
theorem dX8_unseen_14 : decode cX8_unseen 14 = .ok (.iconst (-1), 1) := by decide +kernel
theorem dX8_unseen_15 : decode cX8_unseen 15 = .ok (.ireturn, 1) := by decide +kernel
theorem dX8_unseen_16 : decode cX8_unseen 16 = .ok (.iconst 0, 1) := by decide +kernel
theorem dX8_unseen_17 : decode cX8_unseen 17 = .ok (.istore_n 2, 1) := by decide +kernel
theorem dX8_unseen_18 : decode cX8_unseen 18 = .ok (.iconst 0, 1) := by decide +kernel
theorem dX8_unseen_19 : decode cX8_unseen 19 = .ok (.istore_n 3, 1) := by decide +kernel
theorem dX8_unseen_20 : decode cX8_unseen 20 = .ok (.iload_n 3, 1) := by decide +kernel
theorem dX8_unseen_21 : decode cX8_unseen 21 = .ok (.aload_n 0, 1) := by decide +kernel
theorem dX8_unseen_22 : decode cX8_unseen 22 = .ok (.getfield 13, 3) := by decide +kernel
theorem dX8_unseen_25 : decode cX8_unseen 25 = .ok (.iconst 1, 1) := by decide +kernel
theorem dX8_unseen_26 : decode cX8_unseen 26 = .ok (.iaload, 1) := by decide +kernel
theorem dX8_unseen_27 : decode cX8_unseen 27 = .ok (.if_icmp .ge 127, 3) := by decide +kernel
theorem dX8_unseen_30 : decode cX8_unseen 30 = .ok (.aload_n 0, 1) := by decide +kernel
theorem dX8_unseen_31 : decode cX8_unseen 31 = .ok (.getfield 19, 3) := by decide +kernel
theorem dX8_unseen_34 : decode cX8_unseen 34 = .ok (.bipush 21, 2) := by decide +kernel
theorem dX8_unseen_36 : decode cX8_unseen 36 = .ok (.iload_n 3, 1) := by decide +kernel
theorem dX8_unseen_37 : decode cX8_unseen 37 = .ok (.iadd, 1) := by decide +kernel
theorem dX8_unseen_38 : decode cX8_unseen 38 = .ok (.iaload, 1) := by decide +kernel
theorem dX8_unseen_39 : decode cX8_unseen 39 = .ok (.istore 4, 2) := by decide +kernel
theorem dX8_unseen_41 : decode cX8_unseen 41 = .ok (.aload_n 0, 1) := by decide +kernel
theorem dX8_unseen_42 : decode cX8_unseen 42 = .ok (.getfield 19, 3) := by decide +kernel
theorem dX8_unseen_45 : decode cX8_unseen 45 = .ok (.bipush 21, 2) := by decide +kernel
theorem dX8_unseen_47 : decode cX8_unseen 47 = .ok (.iload_n 3, 1) := by decide +kernel
theorem dX8_unseen_48 : decode cX8_unseen 48 = .ok (.iadd, 1) := by decide +kernel
theorem dX8_unseen_49 : decode cX8_unseen 49 = .ok (.iload_n 1, 1) := by decide +kernel
theorem dX8_unseen_50 : decode cX8_unseen 50 = .ok (.iastore, 1) := by decide +kernel
theorem dX8_unseen_51 : decode cX8_unseen 51 = .ok (.iconst 1, 1) := by decide +kernel
theorem dX8_unseen_52 : decode cX8_unseen 52 = .ok (.istore 5, 2) := by decide +kernel
theorem dX8_unseen_54 : decode cX8_unseen 54 = .ok (.iconst 0, 1) := by decide +kernel
theorem dX8_unseen_55 : decode cX8_unseen 55 = .ok (.istore 6, 2) := by decide +kernel
theorem dX8_unseen_57 : decode cX8_unseen 57 = .ok (.iload 6, 2) := by decide +kernel
theorem dX8_unseen_59 : decode cX8_unseen 59 = .ok (.aload_n 0, 1) := by decide +kernel
theorem dX8_unseen_60 : decode cX8_unseen 60 = .ok (.getfield 124, 3) := by decide +kernel
theorem dX8_unseen_63 : decode cX8_unseen 63 = .ok (.if_icmp .ge 59, 3) := by decide +kernel
theorem dX8_unseen_66 : decode cX8_unseen 66 = .ok (.iload 5, 2) := by decide +kernel
theorem dX8_unseen_68 : decode cX8_unseen 68 = .ok (.ifCond .eq 45, 3) := by decide +kernel
theorem dX8_unseen_71 : decode cX8_unseen 71 = .ok (.aload_n 0, 1) := by decide +kernel
theorem dX8_unseen_72 : decode cX8_unseen 72 = .ok (.aload_n 0, 1) := by decide +kernel
theorem dX8_unseen_73 : decode cX8_unseen 73 = .ok (.getfield 32, 3) := by decide +kernel
theorem dX8_unseen_76 : decode cX8_unseen 76 = .ok (.iload 6, 2) := by decide +kernel
theorem dX8_unseen_78 : decode cX8_unseen 78 = .ok (.iaload, 1) := by decide +kernel
theorem dX8_unseen_79 : decode cX8_unseen 79 = .ok (.aload_n 0, 1) := by decide +kernel
theorem dX8_unseen_80 : decode cX8_unseen 80 = .ok (.getfield 35, 3) := by decide +kernel
theorem dX8_unseen_83 : decode cX8_unseen 83 = .ok (.iload 6, 2) := by decide +kernel
theorem dX8_unseen_85 : decode cX8_unseen 85 = .ok (.iaload, 1) := by decide +kernel
theorem dX8_unseen_86 : decode cX8_unseen 86 = .ok (.iconst 0, 1) := by decide +kernel
theorem dX8_unseen_87 : decode cX8_unseen 87 = .ok (.invokevirtual 144, 3) := by decide +kernel
theorem dX8_unseen_90 : decode cX8_unseen 90 = .ok (.aload_n 0, 1) := by decide +kernel
theorem dX8_unseen_91 : decode cX8_unseen 91 = .ok (.getfield 38, 3) := by decide +kernel
theorem dX8_unseen_94 : decode cX8_unseen 94 = .ok (.iload 6, 2) := by decide +kernel
theorem dX8_unseen_96 : decode cX8_unseen 96 = .ok (.iaload, 1) := by decide +kernel
theorem dX8_unseen_97 : decode cX8_unseen 97 = .ok (.iconst 1, 1) := by decide +kernel
theorem dX8_unseen_98 : decode cX8_unseen 98 = .ok (.if_icmp .ne 7, 3) := by decide +kernel
theorem dX8_unseen_101 : decode cX8_unseen 101 = .ok (.iconst 1, 1) := by decide +kernel
theorem dX8_unseen_102 : decode cX8_unseen 102 = .ok (.goto 4, 3) := by decide +kernel
theorem dX8_unseen_105 : decode cX8_unseen 105 = .ok (.iconst 0, 1) := by decide +kernel
theorem dX8_unseen_106 : decode cX8_unseen 106 = .ok (.if_icmp .ne 7, 3) := by decide +kernel
theorem dX8_unseen_109 : decode cX8_unseen 109 = .ok (.iconst 1, 1) := by decide +kernel
theorem dX8_unseen_110 : decode cX8_unseen 110 = .ok (.goto 4, 3) := by decide +kernel
theorem dX8_unseen_113 : decode cX8_unseen 113 = .ok (.iconst 0, 1) := by decide +kernel
theorem dX8_unseen_114 : decode cX8_unseen 114 = .ok (.istore 5, 2) := by decide +kernel
theorem dX8_unseen_116 : decode cX8_unseen 116 = .ok (.iinc 6 1, 3) := by decide +kernel
theorem dX8_unseen_119 : decode cX8_unseen 119 = .ok (.goto (-62), 3) := by decide +kernel
theorem dX8_unseen_122 : decode cX8_unseen 122 = .ok (.aload_n 0, 1) := by decide +kernel
theorem dX8_unseen_123 : decode cX8_unseen 123 = .ok (.getfield 19, 3) := by decide +kernel
theorem dX8_unseen_126 : decode cX8_unseen 126 = .ok (.bipush 21, 2) := by decide +kernel
theorem dX8_unseen_128 : decode cX8_unseen 128 = .ok (.iload_n 3, 1) := by decide +kernel
theorem dX8_unseen_129 : decode cX8_unseen 129 = .ok (.iadd, 1) := by decide +kernel
theorem dX8_unseen_130 : decode cX8_unseen 130 = .ok (.iload 4, 2) := by decide +kernel
theorem dX8_unseen_132 : decode cX8_unseen 132 = .ok (.iastore, 1) := by decide +kernel
theorem dX8_unseen_133 : decode cX8_unseen 133 = .ok (.iload_n 2, 1) := by decide +kernel
theorem dX8_unseen_134 : decode cX8_unseen 134 = .ok (.iload 5, 2) := by decide +kernel
theorem dX8_unseen_136 : decode cX8_unseen 136 = .ok (.ifCond .eq 9, 3) := by decide +kernel
theorem dX8_unseen_139 : decode cX8_unseen 139 = .ok (.iconst 1, 1) := by decide +kernel
theorem dX8_unseen_140 : decode cX8_unseen 140 = .ok (.iload_n 3, 1) := by decide +kernel
theorem dX8_unseen_141 : decode cX8_unseen 141 = .ok (.ishl, 1) := by decide +kernel
theorem dX8_unseen_142 : decode cX8_unseen 142 = .ok (.goto 4, 3) := by decide +kernel
theorem dX8_unseen_145 : decode cX8_unseen 145 = .ok (.iconst 0, 1) := by decide +kernel
theorem dX8_unseen_146 : decode cX8_unseen 146 = .ok (.ior, 1) := by decide +kernel
theorem dX8_unseen_147 : decode cX8_unseen 147 = .ok (.istore_n 2, 1) := by decide +kernel
theorem dX8_unseen_148 : decode cX8_unseen 148 = .ok (.iinc 3 1, 3) := by decide +kernel
theorem dX8_unseen_151 : decode cX8_unseen 151 = .ok (.goto (-131), 3) := by decide +kernel
theorem dX8_unseen_154 : decode cX8_unseen 154 = .ok (.iload_n 2, 1) := by decide +kernel
theorem dX8_unseen_155 : decode cX8_unseen 155 = .ok (.ireturn, 1) := by decide +kernel
theorem dX8_keep_0 : decode cX8_keep 0 = .ok (.aload_n 0, 1) := by decide +kernel
theorem dX8_keep_1 : decode cX8_keep 1 = .ok (.iconst 0, 1) := by decide +kernel
theorem dX8_keep_2 : decode cX8_keep 2 = .ok (.putfield 59, 3) := by decide +kernel
theorem dX8_keep_5 : decode cX8_keep 5 = .ok (.iload_n 1, 1) := by decide +kernel
theorem dX8_keep_6 : decode cX8_keep 6 = .ok (.iconst 0, 1) := by decide +kernel
theorem dX8_keep_7 : decode cX8_keep 7 = .ok (.iconst 1, 1) := by decide +kernel
theorem dX8_keep_8 : decode cX8_keep 8 = .ok (.invokestatic 63, 3) := by decide +kernel
theorem dX8_keep_11 : decode cX8_keep 11 = .ok (.ifCond .ne 5, 3) := by decide +kernel
theorem dX8_keep_14 : decode cX8_keep 14 = .ok (.iconst (-1), 1) := by decide +kernel
theorem dX8_keep_15 : decode cX8_keep 15 = .ok (.ireturn, 1) := by decide +kernel
theorem dX8_keep_16 : decode cX8_keep 16 = .ok (.iconst 0, 1) := by decide +kernel
theorem dX8_keep_17 : decode cX8_keep 17 = .ok (.istore_n 2, 1) := by decide +kernel
theorem dX8_keep_18 : decode cX8_keep 18 = .ok (.iload_n 2, 1) := by decide +kernel
theorem dX8_keep_19 : decode cX8_keep 19 = .ok (.bipush 30, 2) := by decide +kernel
theorem dX8_keep_21 : decode cX8_keep 21 = .ok (.if_icmp .ge 26, 3) := by decide +kernel
theorem dX8_keep_24 : decode cX8_keep 24 = .ok (.aload_n 0, 1) := by decide +kernel
theorem dX8_keep_25 : decode cX8_keep 25 = .ok (.getfield 25, 3) := by decide +kernel
theorem dX8_keep_28 : decode cX8_keep 28 = .ok (.bipush 30, 2) := by decide +kernel
theorem dX8_keep_30 : decode cX8_keep 30 = .ok (.iload_n 1, 1) := by decide +kernel
theorem dX8_keep_31 : decode cX8_keep 31 = .ok (.imul, 1) := by decide +kernel
theorem dX8_keep_32 : decode cX8_keep 32 = .ok (.iload_n 2, 1) := by decide +kernel
theorem dX8_keep_33 : decode cX8_keep 33 = .ok (.iadd, 1) := by decide +kernel
theorem dX8_keep_34 : decode cX8_keep 34 = .ok (.aload_n 0, 1) := by decide +kernel
theorem dX8_keep_35 : decode cX8_keep 35 = .ok (.getfield 19, 3) := by decide +kernel
theorem dX8_keep_38 : decode cX8_keep 38 = .ok (.iload_n 2, 1) := by decide +kernel
theorem dX8_keep_39 : decode cX8_keep 39 = .ok (.iaload, 1) := by decide +kernel
theorem dX8_keep_40 : decode cX8_keep 40 = .ok (.iastore, 1) := by decide +kernel
theorem dX8_keep_41 : decode cX8_keep 41 = .ok (.iinc 2 1, 3) := by decide +kernel
theorem dX8_keep_44 : decode cX8_keep 44 = .ok (.goto (-26), 3) := by decide +kernel
theorem dX8_keep_47 : decode cX8_keep 47 = .ok (.aload_n 0, 1) := by decide +kernel
theorem dX8_keep_48 : decode cX8_keep 48 = .ok (.getfield 28, 3) := by decide +kernel
theorem dX8_keep_51 : decode cX8_keep 51 = .ok (.iload_n 1, 1) := by decide +kernel
theorem dX8_keep_52 : decode cX8_keep 52 = .ok (.iconst 1, 1) := by decide +kernel
theorem dX8_keep_53 : decode cX8_keep 53 = .ok (.bastore, 1) := by decide +kernel
theorem dX8_keep_54 : decode cX8_keep 54 = .ok (.aload_n 0, 1) := by decide +kernel
theorem dX8_keep_55 : decode cX8_keep 55 = .ok (.getfield 13, 3) := by decide +kernel
theorem dX8_keep_58 : decode cX8_keep 58 = .ok (.iconst 1, 1) := by decide +kernel
theorem dX8_keep_59 : decode cX8_keep 59 = .ok (.iaload, 1) := by decide +kernel
theorem dX8_keep_60 : decode cX8_keep 60 = .ok (.ireturn, 1) := by decide +kernel
theorem dX8_back_0 : decode cX8_back 0 = .ok (.aload_n 0, 1) := by decide +kernel
theorem dX8_back_1 : decode cX8_back 1 = .ok (.iconst 0, 1) := by decide +kernel
theorem dX8_back_2 : decode cX8_back 2 = .ok (.putfield 59, 3) := by decide +kernel
theorem dX8_back_5 : decode cX8_back 5 = .ok (.iload_n 1, 1) := by decide +kernel
theorem dX8_back_6 : decode cX8_back 6 = .ok (.iconst 0, 1) := by decide +kernel
theorem dX8_back_7 : decode cX8_back 7 = .ok (.iconst 1, 1) := by decide +kernel
theorem dX8_back_8 : decode cX8_back 8 = .ok (.invokestatic 63, 3) := by decide +kernel
theorem dX8_back_11 : decode cX8_back 11 = .ok (.ifCond .ne 5, 3) := by decide +kernel
theorem dX8_back_14 : decode cX8_back 14 = .ok (.iconst (-1), 1) := by decide +kernel
theorem dX8_back_15 : decode cX8_back 15 = .ok (.ireturn, 1) := by decide +kernel
theorem dX8_back_16 : decode cX8_back 16 = .ok (.aload_n 0, 1) := by decide +kernel
theorem dX8_back_17 : decode cX8_back 17 = .ok (.getfield 28, 3) := by decide +kernel
theorem dX8_back_20 : decode cX8_back 20 = .ok (.iload_n 1, 1) := by decide +kernel
theorem dX8_back_21 : decode cX8_back 21 = .ok (.baload, 1) := by decide +kernel
theorem dX8_back_22 : decode cX8_back 22 = .ok (.ifCond .ne 6, 3) := by decide +kernel
theorem dX8_back_25 : decode cX8_back 25 = .ok (.bipush (-2), 2) := by decide +kernel
theorem dX8_back_27 : decode cX8_back 27 = .ok (.ireturn, 1) := by decide +kernel
theorem dX8_back_28 : decode cX8_back 28 = .ok (.iconst 0, 1) := by decide +kernel
theorem dX8_back_29 : decode cX8_back 29 = .ok (.istore_n 2, 1) := by decide +kernel
theorem dX8_back_30 : decode cX8_back 30 = .ok (.iload_n 2, 1) := by decide +kernel
theorem dX8_back_31 : decode cX8_back 31 = .ok (.bipush 30, 2) := by decide +kernel
theorem dX8_back_33 : decode cX8_back 33 = .ok (.if_icmp .ge 26, 3) := by decide +kernel
theorem dX8_back_36 : decode cX8_back 36 = .ok (.aload_n 0, 1) := by decide +kernel
theorem dX8_back_37 : decode cX8_back 37 = .ok (.getfield 19, 3) := by decide +kernel
theorem dX8_back_40 : decode cX8_back 40 = .ok (.iload_n 2, 1) := by decide +kernel
theorem dX8_back_41 : decode cX8_back 41 = .ok (.aload_n 0, 1) := by decide +kernel
theorem dX8_back_42 : decode cX8_back 42 = .ok (.getfield 25, 3) := by decide +kernel
theorem dX8_back_45 : decode cX8_back 45 = .ok (.bipush 30, 2) := by decide +kernel
theorem dX8_back_47 : decode cX8_back 47 = .ok (.iload_n 1, 1) := by decide +kernel
theorem dX8_back_48 : decode cX8_back 48 = .ok (.imul, 1) := by decide +kernel
theorem dX8_back_49 : decode cX8_back 49 = .ok (.iload_n 2, 1) := by decide +kernel
theorem dX8_back_50 : decode cX8_back 50 = .ok (.iadd, 1) := by decide +kernel
theorem dX8_back_51 : decode cX8_back 51 = .ok (.iaload, 1) := by decide +kernel
theorem dX8_back_52 : decode cX8_back 52 = .ok (.iastore, 1) := by decide +kernel
theorem dX8_back_53 : decode cX8_back 53 = .ok (.iinc 2 1, 3) := by decide +kernel
theorem dX8_back_56 : decode cX8_back 56 = .ok (.goto (-26), 3) := by decide +kernel
theorem dX8_back_59 : decode cX8_back 59 = .ok (.aload_n 0, 1) := by decide +kernel
theorem dX8_back_60 : decode cX8_back 60 = .ok (.iconst 0, 1) := by decide +kernel
theorem dX8_back_61 : decode cX8_back 61 = .ok (.putfield 127, 3) := by decide +kernel
theorem dX8_back_64 : decode cX8_back 64 = .ok (.aload_n 0, 1) := by decide +kernel
theorem dX8_back_65 : decode cX8_back 65 = .ok (.getfield 13, 3) := by decide +kernel
theorem dX8_back_68 : decode cX8_back 68 = .ok (.iconst 1, 1) := by decide +kernel
theorem dX8_back_69 : decode cX8_back 69 = .ok (.iaload, 1) := by decide +kernel
theorem dX8_back_70 : decode cX8_back 70 = .ok (.ireturn, 1) := by decide +kernel
theorem dX8_count_0 : decode cX8_count 0 = .ok (.aload_n 0, 1) := by decide +kernel
theorem dX8_count_1 : decode cX8_count 1 = .ok (.iconst 0, 1) := by decide +kernel
theorem dX8_count_2 : decode cX8_count 2 = .ok (.putfield 59, 3) := by decide +kernel
theorem dX8_count_5 : decode cX8_count 5 = .ok (.iload_n 1, 1) := by decide +kernel
theorem dX8_count_6 : decode cX8_count 6 = .ok (.iconst 0, 1) := by decide +kernel
theorem dX8_count_7 : decode cX8_count 7 = .ok (.bipush 7, 2) := by decide +kernel
theorem dX8_count_9 : decode cX8_count 9 = .ok (.invokestatic 63, 3) := by decide +kernel
theorem dX8_count_12 : decode cX8_count 12 = .ok (.ifCond .ne 5, 3) := by decide +kernel
theorem dX8_count_15 : decode cX8_count 15 = .ok (.iconst (-1), 1) := by decide +kernel
theorem dX8_count_16 : decode cX8_count 16 = .ok (.ireturn, 1) := by decide +kernel
theorem dX8_count_17 : decode cX8_count 17 = .ok (.iload_n 1, 1) := by decide +kernel
theorem dX8_count_18 : decode cX8_count 18 = .ok (.iconst 3, 1) := by decide +kernel
theorem dX8_count_19 : decode cX8_count 19 = .ok (.if_icmp .ge 10, 3) := by decide +kernel
theorem dX8_count_22 : decode cX8_count 22 = .ok (.aload_n 0, 1) := by decide +kernel
theorem dX8_count_23 : decode cX8_count 23 = .ok (.getfield 13, 3) := by decide +kernel
theorem dX8_count_26 : decode cX8_count 26 = .ok (.iload_n 1, 1) := by decide +kernel
theorem dX8_count_27 : decode cX8_count 27 = .ok (.iaload, 1) := by decide +kernel
theorem dX8_count_28 : decode cX8_count 28 = .ok (.ireturn, 1) := by decide +kernel
theorem dX8_count_29 : decode cX8_count 29 = .ok (.iload_n 1, 1) := by decide +kernel
theorem dX8_count_30 : decode cX8_count 30 = .ok (.iconst 4, 1) := by decide +kernel
theorem dX8_count_31 : decode cX8_count 31 = .ok (.if_icmp .le 33, 3) := by decide +kernel
theorem dX8_count_34 : decode cX8_count 34 = .ok (.iload_n 1, 1) := by decide +kernel
theorem dX8_count_35 : decode cX8_count 35 = .ok (.iconst 5, 1) := by decide +kernel
theorem dX8_count_36 : decode cX8_count 36 = .ok (.if_icmp .ne 10, 3) := by decide +kernel
theorem dX8_count_39 : decode cX8_count 39 = .ok (.aload_n 0, 1) := by decide +kernel
theorem dX8_count_40 : decode cX8_count 40 = .ok (.getfield 124, 3) := by decide +kernel
theorem dX8_count_43 : decode cX8_count 43 = .ok (.goto 20, 3) := by decide +kernel
theorem dX8_count_46 : decode cX8_count 46 = .ok (.iload_n 1, 1) := by decide +kernel
theorem dX8_count_47 : decode cX8_count 47 = .ok (.bipush 6, 2) := by decide +kernel
theorem dX8_count_49 : decode cX8_count 49 = .ok (.if_icmp .ne 10, 3) := by decide +kernel
theorem dX8_count_52 : decode cX8_count 52 = .ok (.aload_n 0, 1) := by decide +kernel
theorem dX8_count_53 : decode cX8_count 53 = .ok (.getfield 67, 3) := by decide +kernel
theorem dX8_count_56 : decode cX8_count 56 = .ok (.goto 7, 3) := by decide +kernel
theorem dX8_count_59 : decode cX8_count 59 = .ok (.aload_n 0, 1) := by decide +kernel
theorem dX8_count_60 : decode cX8_count 60 = .ok (.getfield 127, 3) := by decide +kernel
theorem dX8_count_63 : decode cX8_count 63 = .ok (.ireturn, 1) := by decide +kernel
theorem dX8_count_64 : decode cX8_count 64 = .ok (.iconst 0, 1) := by decide +kernel
theorem dX8_count_65 : decode cX8_count 65 = .ok (.istore_n 2, 1) := by decide +kernel
theorem dX8_count_66 : decode cX8_count 66 = .ok (.iconst 0, 1) := by decide +kernel
theorem dX8_count_67 : decode cX8_count 67 = .ok (.istore_n 3, 1) := by decide +kernel
theorem dX8_count_68 : decode cX8_count 68 = .ok (.iload_n 3, 1) := by decide +kernel
theorem dX8_count_69 : decode cX8_count 69 = .ok (.aload_n 0, 1) := by decide +kernel
theorem dX8_count_70 : decode cX8_count 70 = .ok (.getfield 13, 3) := by decide +kernel
theorem dX8_count_73 : decode cX8_count 73 = .ok (.iconst 2, 1) := by decide +kernel
theorem dX8_count_74 : decode cX8_count 74 = .ok (.iaload, 1) := by decide +kernel
theorem dX8_count_75 : decode cX8_count 75 = .ok (.if_icmp .ge 61, 3) := by decide +kernel
theorem dX8_count_78 : decode cX8_count 78 = .ok (.aload_n 0, 1) := by decide +kernel
theorem dX8_count_79 : decode cX8_count 79 = .ok (.iload_n 3, 1) := by decide +kernel
theorem dX8_count_80 : decode cX8_count 80 = .ok (.invokevirtual 121, 3) := by decide +kernel
theorem dX8_count_83 : decode cX8_count 83 = .ok (.istore 4, 2) := by decide +kernel
theorem dX8_count_85 : decode cX8_count 85 = .ok (.iload_n 2, 1) := by decide +kernel
theorem dX8_count_86 : decode cX8_count 86 = .ok (.iload_n 1, 1) := by decide +kernel
theorem dX8_count_87 : decode cX8_count 87 = .ok (.iconst 3, 1) := by decide +kernel
theorem dX8_count_88 : decode cX8_count 88 = .ok (.if_icmp .ne 19, 3) := by decide +kernel
theorem dX8_count_91 : decode cX8_count 91 = .ok (.iload 4, 2) := by decide +kernel
theorem dX8_count_93 : decode cX8_count 93 = .ok (.aload_n 0, 1) := by decide +kernel
theorem dX8_count_94 : decode cX8_count 94 = .ok (.getfield 19, 3) := by decide +kernel
theorem dX8_count_97 : decode cX8_count 97 = .ok (.iconst 0, 1) := by decide +kernel
theorem dX8_count_98 : decode cX8_count 98 = .ok (.iload_n 3, 1) := by decide +kernel
theorem dX8_count_99 : decode cX8_count 99 = .ok (.iadd, 1) := by decide +kernel
theorem dX8_count_100 : decode cX8_count 100 = .ok (.iaload, 1) := by decide +kernel
theorem dX8_count_101 : decode cX8_count 101 = .ok (.iconst (-1), 1) := by decide +kernel
theorem dX8_count_102 : decode cX8_count 102 = .ok (.ixor, 1) := by decide +kernel
theorem dX8_count_103 : decode cX8_count 103 = .ok (.iand, 1) := by decide +kernel
theorem dX8_count_104 : decode cX8_count 104 = .ok (.goto 16, 3) := by decide +kernel
theorem dX8_count_107 : decode cX8_count 107 = .ok (.aload_n 0, 1) := by decide +kernel
theorem dX8_count_108 : decode cX8_count 108 = .ok (.getfield 19, 3) := by decide +kernel
theorem dX8_count_111 : decode cX8_count 111 = .ok (.iconst 0, 1) := by decide +kernel
theorem dX8_count_112 : decode cX8_count 112 = .ok (.iload_n 3, 1) := by decide +kernel
theorem dX8_count_113 : decode cX8_count 113 = .ok (.iadd, 1) := by decide +kernel
theorem dX8_count_114 : decode cX8_count 114 = .ok (.iaload, 1) := by decide +kernel
theorem dX8_count_115 : decode cX8_count 115 = .ok (.iload 4, 2) := by decide +kernel
theorem dX8_count_117 : decode cX8_count 117 = .ok (.iconst (-1), 1) := by decide +kernel
theorem dX8_count_118 : decode cX8_count 118 = .ok (.ixor, 1) := by decide +kernel
theorem dX8_count_119 : decode cX8_count 119 = .ok (.iand, 1) := by decide +kernel
theorem dX8_count_120 : decode cX8_count 120 = .ok (.ifCond .eq 7, 3) := by decide +kernel
theorem dX8_count_123 : decode cX8_count 123 = .ok (.iconst 1, 1) := by decide +kernel
theorem dX8_count_124 : decode cX8_count 124 = .ok (.goto 4, 3) := by decide +kernel
theorem dX8_count_127 : decode cX8_count 127 = .ok (.iconst 0, 1) := by decide +kernel
theorem dX8_count_128 : decode cX8_count 128 = .ok (.iadd, 1) := by decide +kernel
theorem dX8_count_129 : decode cX8_count 129 = .ok (.istore_n 2, 1) := by decide +kernel
theorem dX8_count_130 : decode cX8_count 130 = .ok (.iinc 3 1, 3) := by decide +kernel
theorem dX8_count_133 : decode cX8_count 133 = .ok (.goto (-65), 3) := by decide +kernel
theorem dX8_count_136 : decode cX8_count 136 = .ok (.iload_n 2, 1) := by decide +kernel
theorem dX8_count_137 : decode cX8_count 137 = .ok (.ireturn, 1) := by decide +kernel
