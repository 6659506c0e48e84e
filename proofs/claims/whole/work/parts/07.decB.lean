theorem dX7_init_0 : decode cX7_init 0 = .ok (.aload_n 0, 1) := by decide +kernel
theorem dX7_init_1 : decode cX7_init 1 = .ok (.invokespecial 1, 3) := by decide +kernel
theorem dX7_init_4 : decode cX7_init 4 = .ok (.aload_n 0, 1) := by decide +kernel
theorem dX7_init_5 : decode cX7_init 5 = .ok (.new 7, 3) := by decide +kernel
theorem dX7_init_8 : decode cX7_init 8 = .ok (.dup, 1) := by decide +kernel
theorem dX7_init_9 : decode cX7_init 9 = .ok (.invokespecial 9, 3) := by decide +kernel
theorem dX7_init_12 : decode cX7_init 12 = .ok (.putfield 10, 3) := by decide +kernel
theorem dX7_init_15 : decode cX7_init 15 = .ok (.aload_n 0, 1) := by decide +kernel
theorem dX7_init_16 : decode cX7_init 16 = .ok (.new 16, 3) := by decide +kernel
theorem dX7_init_19 : decode cX7_init 19 = .ok (.dup, 1) := by decide +kernel
theorem dX7_init_20 : decode cX7_init 20 = .ok (.invokespecial 18, 3) := by decide +kernel
theorem dX7_init_23 : decode cX7_init 23 = .ok (.putfield 19, 3) := by decide +kernel
theorem dX7_init_26 : decode cX7_init 26 = .ok (.aload_n 0, 1) := by decide +kernel
theorem dX7_init_27 : decode cX7_init 27 = .ok (.new 23, 3) := by decide +kernel
theorem dX7_init_30 : decode cX7_init 30 = .ok (.dup, 1) := by decide +kernel
theorem dX7_init_31 : decode cX7_init 31 = .ok (.invokespecial 25, 3) := by decide +kernel
theorem dX7_init_34 : decode cX7_init 34 = .ok (.putfield 26, 3) := by decide +kernel
theorem dX7_init_37 : decode cX7_init 37 = .ok (.aload_n 0, 1) := by decide +kernel
theorem dX7_init_38 : decode cX7_init 38 = .ok (.new 30, 3) := by decide +kernel
theorem dX7_init_41 : decode cX7_init 41 = .ok (.dup, 1) := by decide +kernel
theorem dX7_init_42 : decode cX7_init 42 = .ok (.invokespecial 32, 3) := by decide +kernel
theorem dX7_init_45 : decode cX7_init 45 = .ok (.putfield 33, 3) := by decide +kernel
theorem dX7_init_48 : decode cX7_init 48 = .ok (.aload_n 0, 1) := by decide +kernel
theorem dX7_init_49 : decode cX7_init 49 = .ok (.new 37, 3) := by decide +kernel
theorem dX7_init_52 : decode cX7_init 52 = .ok (.dup, 1) := by decide +kernel
theorem dX7_init_53 : decode cX7_init 53 = .ok (.invokespecial 39, 3) := by decide +kernel
theorem dX7_init_56 : decode cX7_init 56 = .ok (.putfield 40, 3) := by decide +kernel
theorem dX7_init_59 : decode cX7_init 59 = .ok (.aload_n 0, 1) := by decide +kernel
theorem dX7_init_60 : decode cX7_init 60 = .ok (.new 44, 3) := by decide +kernel
theorem dX7_init_63 : decode cX7_init 63 = .ok (.dup, 1) := by decide +kernel
theorem dX7_init_64 : decode cX7_init 64 = .ok (.aload_n 0, 1) := by decide +kernel
theorem dX7_init_65 : decode cX7_init 65 = .ok (.getfield 19, 3) := by decide +kernel
theorem dX7_init_68 : decode cX7_init 68 = .ok (.aload_n 0, 1) := by decide +kernel
theorem dX7_init_69 : decode cX7_init 69 = .ok (.getfield 26, 3) := by decide +kernel
theorem dX7_init_72 : decode cX7_init 72 = .ok (.invokespecial 46, 3) := by decide +kernel
theorem dX7_init_75 : decode cX7_init 75 = .ok (.putfield 49, 3) := by decide +kernel
theorem dX7_init_78 : decode cX7_init 78 = .ok (.aload_n 0, 1) := by decide +kernel
theorem dX7_init_79 : decode cX7_init 79 = .ok (.new 53, 3) := by decide +kernel
theorem dX7_init_82 : decode cX7_init 82 = .ok (.dup, 1) := by decide +kernel
theorem dX7_init_83 : decode cX7_init 83 = .ok (.aload_n 0, 1) := by decide +kernel
theorem dX7_init_84 : decode cX7_init 84 = .ok (.getfield 19, 3) := by decide +kernel
theorem dX7_init_87 : decode cX7_init 87 = .ok (.aload_n 0, 1) := by decide +kernel
theorem dX7_init_88 : decode cX7_init 88 = .ok (.getfield 49, 3) := by decide +kernel
theorem dX7_init_91 : decode cX7_init 91 = .ok (.invokespecial 55, 3) := by decide +kernel
theorem dX7_init_94 : decode cX7_init 94 = .ok (.putfield 58, 3) := by decide +kernel
theorem dX7_init_97 : decode cX7_init 97 = .ok (.aload_n 0, 1) := by decide +kernel
theorem dX7_init_98 : decode cX7_init 98 = .ok (.iconst 2, 1) := by decide +kernel
theorem dX7_init_99 : decode cX7_init 99 = .ok (.anewarray 23, 3) := by decide +kernel
theorem dX7_init_102 : decode cX7_init 102 = .ok (.dup, 1) := by decide +kernel
theorem dX7_init_103 : decode cX7_init 103 = .ok (.iconst 0, 1) := by decide +kernel
theorem dX7_init_104 : decode cX7_init 104 = .ok (.new 23, 3) := by decide +kernel
theorem dX7_init_107 : decode cX7_init 107 = .ok (.dup, 1) := by decide +kernel
theorem dX7_init_108 : decode cX7_init 108 = .ok (.invokespecial 25, 3) := by decide +kernel
theorem dX7_init_111 : decode cX7_init 111 = .ok (.aastore, 1) := by decide +kernel
theorem dX7_init_112 : decode cX7_init 112 = .ok (.dup, 1) := by decide +kernel
theorem dX7_init_113 : decode cX7_init 113 = .ok (.iconst 1, 1) := by decide +kernel
theorem dX7_init_114 : decode cX7_init 114 = .ok (.new 23, 3) := by decide +kernel
theorem dX7_init_117 : decode cX7_init 117 = .ok (.dup, 1) := by decide +kernel
theorem dX7_init_118 : decode cX7_init 118 = .ok (.invokespecial 25, 3) := by decide +kernel
theorem dX7_init_121 : decode cX7_init 121 = .ok (.aastore, 1) := by decide +kernel
theorem dX7_init_122 : decode cX7_init 122 = .ok (.putfield 62, 3) := by decide +kernel
theorem dX7_init_125 : decode cX7_init 125 = .ok (.aload_n 0, 1) := by decide +kernel
theorem dX7_init_126 : decode cX7_init 126 = .ok (.iconst 2, 1) := by decide +kernel
theorem dX7_init_127 : decode cX7_init 127 = .ok (.newarray .boolean, 2) := by decide +kernel
theorem dX7_init_129 : decode cX7_init 129 = .ok (.putfield 66, 3) := by decide +kernel
theorem dX7_init_132 : decode cX7_init 132 = .ok (.aload_n 0, 1) := by decide +kernel
theorem dX7_init_133 : decode cX7_init 133 = .ok (.iconst 3, 1) := by decide +kernel
theorem dX7_init_134 : decode cX7_init 134 = .ok (.newarray .int, 2) := by decide +kernel
theorem dX7_init_136 : decode cX7_init 136 = .ok (.putfield 70, 3) := by decide +kernel
theorem dX7_init_139 : decode cX7_init 139 = .ok (.return_, 1) := by decide +kernel
theorem dX7_type_0 : decode cX7_type 0 = .ok (.iload_n 1, 1) := by decide +kernel
theorem dX7_type_1 : decode cX7_type 1 = .ok (.ifCond .lt 10, 3) := by decide +kernel
theorem dX7_type_4 : decode cX7_type 4 = .ok (.iload_n 1, 1) := by decide +kernel
theorem dX7_type_5 : decode cX7_type 5 = .ok (.sipush 255, 3) := by decide +kernel
theorem dX7_type_8 : decode cX7_type 8 = .ok (.if_icmp .le 5, 3) := by decide +kernel
theorem dX7_type_11 : decode cX7_type 11 = .ok (.iconst (-1), 1) := by decide +kernel
theorem dX7_type_12 : decode cX7_type 12 = .ok (.ireturn, 1) := by decide +kernel
theorem dX7_type_13 : decode cX7_type 13 = .ok (.aload_n 0, 1) := by decide +kernel
theorem dX7_type_14 : decode cX7_type 14 = .ok (.getfield 10, 3) := by decide +kernel
theorem dX7_type_17 : decode cX7_type 17 = .ok (.iload_n 1, 1) := by decide +kernel
theorem dX7_type_18 : decode cX7_type 18 = .ok (.invokevirtual 74, 3) := by decide +kernel
theorem dX7_type_21 : decode cX7_type 21 = .ok (.ifCond .eq 13, 3) := by decide +kernel
theorem dX7_type_24 : decode cX7_type 24 = .ok (.aload_n 0, 1) := by decide +kernel
theorem dX7_type_25 : decode cX7_type 25 = .ok (.getfield 10, 3) := by decide +kernel
theorem dX7_type_28 : decode cX7_type 28 = .ok (.getfield 78, 3) := by decide +kernel
theorem dX7_type_31 : decode cX7_type 31 = .ok (.goto 5, 3) := by decide +kernel
theorem dX7_type_34 : decode cX7_type 34 = .ok (.bipush (-3), 2) := by decide +kernel
theorem dX7_type_36 : decode cX7_type 36 = .ok (.ireturn, 1) := by decide +kernel
theorem dX7_clear_0 : decode cX7_clear 0 = .ok (.aload_n 0, 1) := by decide +kernel
theorem dX7_clear_1 : decode cX7_clear 1 = .ok (.getfield 10, 3) := by decide +kernel
theorem dX7_clear_4 : decode cX7_clear 4 = .ok (.getfield 78, 3) := by decide +kernel
theorem dX7_clear_7 : decode cX7_clear 7 = .ok (.istore_n 1, 1) := by decide +kernel
theorem dX7_clear_8 : decode cX7_clear 8 = .ok (.aload_n 0, 1) := by decide +kernel
theorem dX7_clear_9 : decode cX7_clear 9 = .ok (.getfield 10, 3) := by decide +kernel
theorem dX7_clear_12 : decode cX7_clear 12 = .ok (.iconst 0, 1) := by decide +kernel
theorem dX7_clear_13 : decode cX7_clear 13 = .ok (.putfield 78, 3) := by decide +kernel
theorem dX7_clear_16 : decode cX7_clear 16 = .ok (.iload_n 1, 1) := by decide +kernel
theorem dX7_clear_17 : decode cX7_clear 17 = .ok (.ireturn, 1) := by decide +kernel
theorem dX7_net_0 : decode cX7_net 0 = .ok (.aload_n 0, 1) := by decide +kernel
theorem dX7_net_1 : decode cX7_net 1 = .ok (.getfield 10, 3) := by decide +kernel
theorem dX7_net_4 : decode cX7_net 4 = .ok (.invokevirtual 82, 3) := by decide +kernel
theorem dX7_net_7 : decode cX7_net 7 = .ok (.istore_n 1, 1) := by decide +kernel
theorem dX7_net_8 : decode cX7_net 8 = .ok (.iload_n 1, 1) := by decide +kernel
theorem dX7_net_9 : decode cX7_net 9 = .ok (.ifCond .ge 5, 3) := by decide +kernel
theorem dX7_net_12 : decode cX7_net 12 = .ok (.iload_n 1, 1) := by decide +kernel
theorem dX7_net_13 : decode cX7_net 13 = .ok (.ireturn, 1) := by decide +kernel
theorem dX7_net_14 : decode cX7_net 14 = .ok (.aload_n 0, 1) := by decide +kernel
theorem dX7_net_15 : decode cX7_net 15 = .ok (.getfield 19, 3) := by decide +kernel
theorem dX7_net_18 : decode cX7_net 18 = .ok (.aload_n 0, 1) := by decide +kernel
theorem dX7_net_19 : decode cX7_net 19 = .ok (.getfield 10, 3) := by decide +kernel
theorem dX7_net_22 : decode cX7_net 22 = .ok (.getfield 86, 3) := by decide +kernel
theorem dX7_net_25 : decode cX7_net 25 = .ok (.invokevirtual 89, 3) := by decide +kernel
theorem dX7_net_28 : decode cX7_net 28 = .ok (.aload_n 0, 1) := by decide +kernel
theorem dX7_net_29 : decode cX7_net 29 = .ok (.getfield 10, 3) := by decide +kernel
theorem dX7_net_32 : decode cX7_net 32 = .ok (.iconst 0, 1) := by decide +kernel
theorem dX7_net_33 : decode cX7_net 33 = .ok (.putfield 78, 3) := by decide +kernel
theorem dX7_net_36 : decode cX7_net 36 = .ok (.aload_n 0, 1) := by decide +kernel
theorem dX7_net_37 : decode cX7_net 37 = .ok (.getfield 26, 3) := by decide +kernel
theorem dX7_net_40 : decode cX7_net 40 = .ok (.invokevirtual 93, 3) := by decide +kernel
theorem dX7_net_43 : decode cX7_net 43 = .ok (.aload_n 0, 1) := by decide +kernel
theorem dX7_net_44 : decode cX7_net 44 = .ok (.getfield 33, 3) := by decide +kernel
theorem dX7_net_47 : decode cX7_net 47 = .ok (.iconst 0, 1) := by decide +kernel
theorem dX7_net_48 : decode cX7_net 48 = .ok (.putfield 96, 3) := by decide +kernel
theorem dX7_net_51 : decode cX7_net 51 = .ok (.aload_n 0, 1) := by decide +kernel
theorem dX7_net_52 : decode cX7_net 52 = .ok (.getfield 40, 3) := by decide +kernel
theorem dX7_net_55 : decode cX7_net 55 = .ok (.iconst 0, 1) := by decide +kernel
theorem dX7_net_56 : decode cX7_net 56 = .ok (.putfield 99, 3) := by decide +kernel
theorem dX7_net_59 : decode cX7_net 59 = .ok (.iconst 0, 1) := by decide +kernel
theorem dX7_net_60 : decode cX7_net 60 = .ok (.istore_n 2, 1) := by decide +kernel
theorem dX7_net_61 : decode cX7_net 61 = .ok (.iload_n 2, 1) := by decide +kernel
theorem dX7_net_62 : decode cX7_net 62 = .ok (.iconst 2, 1) := by decide +kernel
theorem dX7_net_63 : decode cX7_net 63 = .ok (.if_icmp .ge 16, 3) := by decide +kernel
theorem dX7_net_66 : decode cX7_net 66 = .ok (.aload_n 0, 1) := by decide +kernel
theorem dX7_net_67 : decode cX7_net 67 = .ok (.getfield 66, 3) := by decide +kernel
theorem dX7_net_70 : decode cX7_net 70 = .ok (.iload_n 2, 1) := by decide +kernel
theorem dX7_net_71 : decode cX7_net 71 = .ok (.iconst 0, 1) := by decide +kernel
theorem dX7_net_72 : decode cX7_net 72 = .ok (.bastore, 1) := by decide +kernel
theorem dX7_net_73 : decode cX7_net 73 = .ok (.iinc 2 1, 3) := by decide +kernel
theorem dX7_net_76 : decode cX7_net 76 = .ok (.goto (-15), 3) := by decide +kernel
theorem dX7_net_79 : decode cX7_net 79 = .ok (.aload_n 0, 1) := by decide +kernel
theorem dX7_net_80 : decode cX7_net 80 = .ok (.invokevirtual 102, 3) := by decide +kernel
theorem dX7_net_83 : decode cX7_net 83 = .ok (.iload_n 1, 1) := by decide +kernel
theorem dX7_net_84 : decode cX7_net 84 = .ok (.ireturn, 1) := by decide +kernel
theorem dX7_contact_0 : decode cX7_contact 0 = .ok (.aload_n 0, 1) := by decide +kernel
theorem dX7_contact_1 : decode cX7_contact 1 = .ok (.iload_n 1, 1) := by decide +kernel
theorem dX7_contact_2 : decode cX7_contact 2 = .ok (.invokevirtual 105, 3) := by decide +kernel
theorem dX7_contact_5 : decode cX7_contact 5 = .ok (.ifCond .ne 5, 3) := by decide +kernel
theorem dX7_contact_8 : decode cX7_contact 8 = .ok (.iconst (-1), 1) := by decide +kernel
theorem dX7_contact_9 : decode cX7_contact 9 = .ok (.ireturn, 1) := by decide +kernel
theorem dX7_contact_10 : decode cX7_contact 10 = .ok (.iload_n 2, 1) := by decide +kernel
theorem dX7_contact_11 : decode cX7_contact 11 = .ok (.tableswitch 129 0 6 #[41, 51, 61, 71, 81, 91, 119], 41) := by decide +kernel
theorem dX7_contact_52 : decode cX7_contact 52 = .ok (.aload_n 0, 1) := by decide +kernel
theorem dX7_contact_53 : decode cX7_contact 53 = .ok (.getfield 19, 3) := by decide +kernel
theorem dX7_contact_56 : decode cX7_contact 56 = .ok (.getfield 108, 3) := by decide +kernel
theorem dX7_contact_59 : decode cX7_contact 59 = .ok (.iload_n 1, 1) := by decide +kernel
theorem dX7_contact_60 : decode cX7_contact 60 = .ok (.iaload, 1) := by decide +kernel
theorem dX7_contact_61 : decode cX7_contact 61 = .ok (.ireturn, 1) := by decide +kernel
theorem dX7_contact_62 : decode cX7_contact 62 = .ok (.aload_n 0, 1) := by decide +kernel
theorem dX7_contact_63 : decode cX7_contact 63 = .ok (.getfield 19, 3) := by decide +kernel
theorem dX7_contact_66 : decode cX7_contact 66 = .ok (.getfield 111, 3) := by decide +kernel
theorem dX7_contact_69 : decode cX7_contact 69 = .ok (.iload_n 1, 1) := by decide +kernel
theorem dX7_contact_70 : decode cX7_contact 70 = .ok (.iaload, 1) := by decide +kernel
theorem dX7_contact_71 : decode cX7_contact 71 = .ok (.ireturn, 1) := by decide +kernel
theorem dX7_contact_72 : decode cX7_contact 72 = .ok (.aload_n 0, 1) := by decide +kernel
theorem dX7_contact_73 : decode cX7_contact 73 = .ok (.getfield 19, 3) := by decide +kernel
theorem dX7_contact_76 : decode cX7_contact 76 = .ok (.getfield 114, 3) := by decide +kernel
theorem dX7_contact_79 : decode cX7_contact 79 = .ok (.iload_n 1, 1) := by decide +kernel
theorem dX7_contact_80 : decode cX7_contact 80 = .ok (.iaload, 1) := by decide +kernel
theorem dX7_contact_81 : decode cX7_contact 81 = .ok (.ireturn, 1) := by decide +kernel
theorem dX7_contact_82 : decode cX7_contact 82 = .ok (.aload_n 0, 1) := by decide +kernel
theorem dX7_contact_83 : decode cX7_contact 83 = .ok (.getfield 19, 3) := by decide +kernel
theorem dX7_contact_86 : decode cX7_contact 86 = .ok (.getfield 117, 3) := by decide +kernel
theorem dX7_contact_89 : decode cX7_contact 89 = .ok (.iload_n 1, 1) := by decide +kernel
theorem dX7_contact_90 : decode cX7_contact 90 = .ok (.iaload, 1) := by decide +kernel
theorem dX7_contact_91 : decode cX7_contact 91 = .ok (.ireturn, 1) := by decide +kernel
theorem dX7_contact_92 : decode cX7_contact 92 = .ok (.aload_n 0, 1) := by decide +kernel
theorem dX7_contact_93 : decode cX7_contact 93 = .ok (.getfield 26, 3) := by decide +kernel
theorem dX7_contact_96 : decode cX7_contact 96 = .ok (.getfield 120, 3) := by decide +kernel
theorem dX7_contact_99 : decode cX7_contact 99 = .ok (.iload_n 1, 1) := by decide +kernel
theorem dX7_contact_100 : decode cX7_contact 100 = .ok (.iaload, 1) := by decide +kernel
theorem dX7_contact_101 : decode cX7_contact 101 = .ok (.ireturn, 1) := by decide +kernel
theorem dX7_contact_102 : decode cX7_contact 102 = .ok (.aload_n 0, 1) := by decide +kernel
theorem dX7_contact_103 : decode cX7_contact 103 = .ok (.getfield 26, 3) := by decide +kernel
theorem dX7_contact_106 : decode cX7_contact 106 = .ok (.getfield 120, 3) := by decide +kernel
theorem dX7_contact_109 : decode cX7_contact 109 = .ok (.iload_n 1, 1) := by decide +kernel
theorem dX7_contact_110 : decode cX7_contact 110 = .ok (.iaload, 1) := by decide +kernel
theorem dX7_contact_111 : decode cX7_contact 111 = .ok (.iconst 1, 1) := by decide +kernel
theorem dX7_contact_112 : decode cX7_contact 112 = .ok (.if_icmp .gt 15, 3) := by decide +kernel
theorem dX7_contact_115 : decode cX7_contact 115 = .ok (.aload_n 0, 1) := by decide +kernel
theorem dX7_contact_116 : decode cX7_contact 116 = .ok (.getfield 26, 3) := by decide +kernel
theorem dX7_contact_119 : decode cX7_contact 119 = .ok (.getfield 123, 3) := by decide +kernel
theorem dX7_contact_122 : decode cX7_contact 122 = .ok (.iload_n 1, 1) := by decide +kernel
theorem dX7_contact_123 : decode cX7_contact 123 = .ok (.iaload, 1) := by decide +kernel
theorem dX7_contact_124 : decode cX7_contact 124 = .ok (.goto 5, 3) := by decide +kernel
theorem dX7_contact_127 : decode cX7_contact 127 = .ok (.bipush (-9), 2) := by decide +kernel
theorem dX7_contact_129 : decode cX7_contact 129 = .ok (.ireturn, 1) := by decide +kernel
theorem dX7_contact_130 : decode cX7_contact 130 = .ok (.aload_n 0, 1) := by decide +kernel
theorem dX7_contact_131 : decode cX7_contact 131 = .ok (.getfield 26, 3) := by decide +kernel
theorem dX7_contact_134 : decode cX7_contact 134 = .ok (.getfield 126, 3) := by decide +kernel
theorem dX7_contact_137 : decode cX7_contact 137 = .ok (.iload_n 1, 1) := by decide +kernel
theorem dX7_contact_138 : decode cX7_contact 138 = .ok (.iaload, 1) := by decide +kernel
theorem dX7_contact_139 : decode cX7_contact 139 = .ok (.ireturn, 1) := by decide +kernel
theorem dX7_contact_140 : decode cX7_contact 140 = .ok (.iconst (-1), 1) := by decide +kernel
theorem dX7_contact_141 : decode cX7_contact 141 = .ok (.ireturn, 1) := by decide +kernel
theorem dX7_load_0 : decode cX7_load 0 = .ok (.aload_n 0, 1) := by decide +kernel
theorem dX7_load_1 : decode cX7_load 1 = .ok (.iload_n 1, 1) := by decide +kernel
theorem dX7_load_2 : decode cX7_load 2 = .ok (.invokevirtual 129, 3) := by decide +kernel
theorem dX7_load_5 : decode cX7_load 5 = .ok (.ifCond .ne 5, 3) := by decide +kernel
theorem dX7_load_8 : decode cX7_load 8 = .ok (.iconst (-1), 1) := by decide +kernel
theorem dX7_load_9 : decode cX7_load 9 = .ok (.ireturn, 1) := by decide +kernel
theorem dX7_load_10 : decode cX7_load 10 = .ok (.iload_n 2, 1) := by decide +kernel
theorem dX7_load_11 : decode cX7_load 11 = .ok (.tableswitch 105 0 5 #[37, 47, 53, 63, 81, 99], 37) := by decide +kernel
theorem dX7_load_48 : decode cX7_load 48 = .ok (.aload_n 0, 1) := by decide +kernel
theorem dX7_load_49 : decode cX7_load 49 = .ok (.getfield 19, 3) := by decide +kernel
theorem dX7_load_52 : decode cX7_load 52 = .ok (.getfield 132, 3) := by decide +kernel
theorem dX7_load_55 : decode cX7_load 55 = .ok (.iload_n 1, 1) := by decide +kernel
theorem dX7_load_56 : decode cX7_load 56 = .ok (.iaload, 1) := by decide +kernel
theorem dX7_load_57 : decode cX7_load 57 = .ok (.ireturn, 1) := by decide +kernel
theorem dX7_load_58 : decode cX7_load 58 = .ok (.aload_n 0, 1) := by decide +kernel
theorem dX7_load_59 : decode cX7_load 59 = .ok (.iload_n 1, 1) := by decide +kernel
theorem dX7_load_60 : decode cX7_load 60 = .ok (.invokevirtual 135, 3) := by decide +kernel
theorem dX7_load_63 : decode cX7_load 63 = .ok (.ireturn, 1) := by decide +kernel
theorem dX7_load_64 : decode cX7_load 64 = .ok (.aload_n 0, 1) := by decide +kernel
theorem dX7_load_65 : decode cX7_load 65 = .ok (.getfield 26, 3) := by decide +kernel
theorem dX7_load_68 : decode cX7_load 68 = .ok (.getfield 139, 3) := by decide +kernel
theorem dX7_load_71 : decode cX7_load 71 = .ok (.iload_n 1, 1) := by decide +kernel
theorem dX7_load_72 : decode cX7_load 72 = .ok (.iaload, 1) := by decide +kernel
theorem dX7_load_73 : decode cX7_load 73 = .ok (.ireturn, 1) := by decide +kernel
theorem dX7_load_74 : decode cX7_load 74 = .ok (.aload_n 0, 1) := by decide +kernel
theorem dX7_load_75 : decode cX7_load 75 = .ok (.iload_n 1, 1) := by decide +kernel
theorem dX7_load_76 : decode cX7_load 76 = .ok (.invokevirtual 135, 3) := by decide +kernel
theorem dX7_load_79 : decode cX7_load 79 = .ok (.aload_n 0, 1) := by decide +kernel
theorem dX7_load_80 : decode cX7_load 80 = .ok (.getfield 26, 3) := by decide +kernel
theorem dX7_load_83 : decode cX7_load 83 = .ok (.getfield 139, 3) := by decide +kernel
theorem dX7_load_86 : decode cX7_load 86 = .ok (.iload_n 1, 1) := by decide +kernel
theorem dX7_load_87 : decode cX7_load 87 = .ok (.iaload, 1) := by decide +kernel
theorem dX7_load_88 : decode cX7_load 88 = .ok (.iconst (-1), 1) := by decide +kernel
theorem dX7_load_89 : decode cX7_load 89 = .ok (.ixor, 1) := by decide +kernel
theorem dX7_load_90 : decode cX7_load 90 = .ok (.iand, 1) := by decide +kernel
theorem dX7_load_91 : decode cX7_load 91 = .ok (.ireturn, 1) := by decide +kernel
theorem dX7_load_92 : decode cX7_load 92 = .ok (.aload_n 0, 1) := by decide +kernel
theorem dX7_load_93 : decode cX7_load 93 = .ok (.getfield 26, 3) := by decide +kernel
theorem dX7_load_96 : decode cX7_load 96 = .ok (.getfield 139, 3) := by decide +kernel
theorem dX7_load_99 : decode cX7_load 99 = .ok (.iload_n 1, 1) := by decide +kernel
theorem dX7_load_100 : decode cX7_load 100 = .ok (.iaload, 1) := by decide +kernel
theorem dX7_load_101 : decode cX7_load 101 = .ok (.aload_n 0, 1) := by decide +kernel
theorem dX7_load_102 : decode cX7_load 102 = .ok (.iload_n 1, 1) := by decide +kernel
theorem dX7_load_103 : decode cX7_load 103 = .ok (.invokevirtual 135, 3) := by decide +kernel
theorem dX7_load_106 : decode cX7_load 106 = .ok (.iconst (-1), 1) := by decide +kernel
theorem dX7_load_107 : decode cX7_load 107 = .ok (.ixor, 1) := by decide +kernel
theorem dX7_load_108 : decode cX7_load 108 = .ok (.iand, 1) := by decide +kernel
theorem dX7_load_109 : decode cX7_load 109 = .ok (.ireturn, 1) := by decide +kernel
theorem dX7_load_110 : decode cX7_load 110 = .ok (.aload_n 0, 1) := by decide +kernel
theorem dX7_load_111 : decode cX7_load 111 = .ok (.iload_n 1, 1) := by decide +kernel
theorem dX7_load_112 : decode cX7_load 112 = .ok (.invokevirtual 142, 3) := by decide +kernel
theorem dX7_load_115 : decode cX7_load 115 = .ok (.ireturn, 1) := by decide +kernel
theorem dX7_load_116 : decode cX7_load 116 = .ok (.iconst (-1), 1) := by decide +kernel
theorem dX7_load_117 : decode cX7_load 117 = .ok (.ireturn, 1) := by decide +kernel
theorem dX7_wishes_0 : decode cX7_wishes 0 = .ok (.aload_n 0, 1) := by decide +kernel
theorem dX7_wishes_1 : decode cX7_wishes 1 = .ok (.iload_n 1, 1) := by decide +kernel
theorem dX7_wishes_2 : decode cX7_wishes 2 = .ok (.invokevirtual 129, 3) := by decide +kernel
theorem dX7_wishes_5 : decode cX7_wishes 5 = .ok (.ifCond .eq 13, 3) := by decide +kernel
theorem dX7_wishes_8 : decode cX7_wishes 8 = .ok (.iload_n 2, 1) := by decide +kernel
theorem dX7_wishes_9 : decode cX7_wishes 9 = .ok (.ifCond .lt 9, 3) := by decide +kernel
theorem dX7_wishes_12 : decode cX7_wishes 12 = .ok (.iload_n 2, 1) := by decide +kernel
theorem dX7_wishes_13 : decode cX7_wishes 13 = .ok (.ldc 145, 2) := by decide +kernel
theorem dX7_wishes_15 : decode cX7_wishes 15 = .ok (.if_icmp .le 5, 3) := by decide +kernel
theorem dX7_wishes_18 : decode cX7_wishes 18 = .ok (.iconst (-1), 1) := by decide +kernel
theorem dX7_wishes_19 : decode cX7_wishes 19 = .ok (.ireturn, 1) := by decide +kernel
theorem dX7_wishes_20 : decode cX7_wishes 20 = .ok (.aload_n 0, 1) := by decide +kernel
theorem dX7_wishes_21 : decode cX7_wishes 21 = .ok (.getfield 26, 3) := by decide +kernel
theorem dX7_wishes_24 : decode cX7_wishes 24 = .ok (.getfield 139, 3) := by decide +kernel
theorem dX7_wishes_27 : decode cX7_wishes 27 = .ok (.iload_n 1, 1) := by decide +kernel
theorem dX7_wishes_28 : decode cX7_wishes 28 = .ok (.iaload, 1) := by decide +kernel
theorem dX7_wishes_29 : decode cX7_wishes 29 = .ok (.istore_n 3, 1) := by decide +kernel
theorem dX7_wishes_30 : decode cX7_wishes 30 = .ok (.aload_n 0, 1) := by decide +kernel
theorem dX7_wishes_31 : decode cX7_wishes 31 = .ok (.getfield 33, 3) := by decide +kernel
theorem dX7_wishes_34 : decode cX7_wishes 34 = .ok (.iconst 0, 1) := by decide +kernel
theorem dX7_wishes_35 : decode cX7_wishes 35 = .ok (.iload_n 1, 1) := by decide +kernel
theorem dX7_wishes_36 : decode cX7_wishes 36 = .ok (.iload_n 3, 1) := by decide +kernel
theorem dX7_wishes_37 : decode cX7_wishes 37 = .ok (.iconst 0, 1) := by decide +kernel
theorem dX7_wishes_38 : decode cX7_wishes 38 = .ok (.invokevirtual 146, 3) := by decide +kernel
theorem dX7_wishes_41 : decode cX7_wishes 41 = .ok (.aload_n 0, 1) := by decide +kernel
theorem dX7_wishes_42 : decode cX7_wishes 42 = .ok (.getfield 26, 3) := by decide +kernel
theorem dX7_wishes_45 : decode cX7_wishes 45 = .ok (.getfield 139, 3) := by decide +kernel
theorem dX7_wishes_48 : decode cX7_wishes 48 = .ok (.iload_n 1, 1) := by decide +kernel
theorem dX7_wishes_49 : decode cX7_wishes 49 = .ok (.iload_n 2, 1) := by decide +kernel
theorem dX7_wishes_50 : decode cX7_wishes 50 = .ok (.iastore, 1) := by decide +kernel
theorem dX7_wishes_51 : decode cX7_wishes 51 = .ok (.iload_n 3, 1) := by decide +kernel
theorem dX7_wishes_52 : decode cX7_wishes 52 = .ok (.ireturn, 1) := by decide +kernel
theorem dX7_cures_0 : decode cX7_cures 0 = .ok (.aload_n 0, 1) := by decide +kernel
theorem dX7_cures_1 : decode cX7_cures 1 = .ok (.iload_n 1, 1) := by decide +kernel
theorem dX7_cures_2 : decode cX7_cures 2 = .ok (.invokevirtual 105, 3) := by decide +kernel
theorem dX7_cures_5 : decode cX7_cures 5 = .ok (.ifCond .eq 12, 3) := by decide +kernel
theorem dX7_cures_8 : decode cX7_cures 8 = .ok (.iload_n 2, 1) := by decide +kernel
theorem dX7_cures_9 : decode cX7_cures 9 = .ok (.ifCond .lt 8, 3) := by decide +kernel
theorem dX7_cures_12 : decode cX7_cures 12 = .ok (.iload_n 2, 1) := by decide +kernel
theorem dX7_cures_13 : decode cX7_cures 13 = .ok (.iconst 4, 1) := by decide +kernel
theorem dX7_cures_14 : decode cX7_cures 14 = .ok (.if_icmp .le 5, 3) := by decide +kernel
theorem dX7_cures_17 : decode cX7_cures 17 = .ok (.iconst (-1), 1) := by decide +kernel
theorem dX7_cures_18 : decode cX7_cures 18 = .ok (.ireturn, 1) := by decide +kernel
theorem dX7_cures_19 : decode cX7_cures 19 = .ok (.iload_n 3, 1) := by decide +kernel
theorem dX7_cures_20 : decode cX7_cures 20 = .ok (.ifCond .lt 11, 3) := by decide +kernel
theorem dX7_cures_23 : decode cX7_cures 23 = .ok (.iload_n 3, 1) := by decide +kernel
theorem dX7_cures_24 : decode cX7_cures 24 = .ok (.iload_n 2, 1) := by decide +kernel
theorem dX7_cures_25 : decode cX7_cures 25 = .ok (.invokestatic 150, 3) := by decide +kernel
theorem dX7_cures_28 : decode cX7_cures 28 = .ok (.if_icmp .lt 5, 3) := by decide +kernel
theorem dX7_cures_31 : decode cX7_cures 31 = .ok (.iconst (-1), 1) := by decide +kernel
theorem dX7_cures_32 : decode cX7_cures 32 = .ok (.ireturn, 1) := by decide +kernel
theorem dX7_cures_33 : decode cX7_cures 33 = .ok (.aload_n 0, 1) := by decide +kernel
theorem dX7_cures_34 : decode cX7_cures 34 = .ok (.getfield 26, 3) := by decide +kernel
theorem dX7_cures_37 : decode cX7_cures 37 = .ok (.getfield 120, 3) := by decide +kernel
theorem dX7_cures_40 : decode cX7_cures 40 = .ok (.iload_n 1, 1) := by decide +kernel
theorem dX7_cures_41 : decode cX7_cures 41 = .ok (.iaload, 1) := by decide +kernel
theorem dX7_cures_42 : decode cX7_cures 42 = .ok (.istore 4, 2) := by decide +kernel
theorem dX7_cures_44 : decode cX7_cures 44 = .ok (.aload_n 0, 1) := by decide +kernel
theorem dX7_cures_45 : decode cX7_cures 45 = .ok (.getfield 26, 3) := by decide +kernel
theorem dX7_cures_48 : decode cX7_cures 48 = .ok (.getfield 123, 3) := by decide +kernel
theorem dX7_cures_51 : decode cX7_cures 51 = .ok (.iload_n 1, 1) := by decide +kernel
theorem dX7_cures_52 : decode cX7_cures 52 = .ok (.iaload, 1) := by decide +kernel
theorem dX7_cures_53 : decode cX7_cures 53 = .ok (.istore 5, 2) := by decide +kernel
theorem dX7_cures_55 : decode cX7_cures 55 = .ok (.iload 4, 2) := by decide +kernel
theorem dX7_cures_57 : decode cX7_cures 57 = .ok (.iload_n 2, 1) := by decide +kernel
theorem dX7_cures_58 : decode cX7_cures 58 = .ok (.if_icmp .ne 12, 3) := by decide +kernel
theorem dX7_cures_61 : decode cX7_cures 61 = .ok (.iload 5, 2) := by decide +kernel
theorem dX7_cures_63 : decode cX7_cures 63 = .ok (.iload_n 3, 1) := by decide +kernel
theorem dX7_cures_64 : decode cX7_cures 64 = .ok (.if_icmp .ne 6, 3) := by decide +kernel
theorem dX7_cures_67 : decode cX7_cures 67 = .ok (.bipush (-2), 2) := by decide +kernel
theorem dX7_cures_69 : decode cX7_cures 69 = .ok (.ireturn, 1) := by decide +kernel
theorem dX7_cures_70 : decode cX7_cures 70 = .ok (.aload_n 0, 1) := by decide +kernel
theorem dX7_cures_71 : decode cX7_cures 71 = .ok (.getfield 33, 3) := by decide +kernel
theorem dX7_cures_74 : decode cX7_cures 74 = .ok (.iconst 1, 1) := by decide +kernel
theorem dX7_cures_75 : decode cX7_cures 75 = .ok (.iload_n 1, 1) := by decide +kernel
theorem dX7_cures_76 : decode cX7_cures 76 = .ok (.iload 4, 2) := by decide +kernel
theorem dX7_cures_78 : decode cX7_cures 78 = .ok (.iload 5, 2) := by decide +kernel
theorem dX7_cures_80 : decode cX7_cures 80 = .ok (.invokevirtual 146, 3) := by decide +kernel
theorem dX7_cures_83 : decode cX7_cures 83 = .ok (.aload_n 0, 1) := by decide +kernel
theorem dX7_cures_84 : decode cX7_cures 84 = .ok (.getfield 26, 3) := by decide +kernel
theorem dX7_cures_87 : decode cX7_cures 87 = .ok (.getfield 120, 3) := by decide +kernel
theorem dX7_cures_90 : decode cX7_cures 90 = .ok (.iload_n 1, 1) := by decide +kernel
theorem dX7_cures_91 : decode cX7_cures 91 = .ok (.iload_n 2, 1) := by decide +kernel
theorem dX7_cures_92 : decode cX7_cures 92 = .ok (.iastore, 1) := by decide +kernel
theorem dX7_cures_93 : decode cX7_cures 93 = .ok (.aload_n 0, 1) := by decide +kernel
theorem dX7_cures_94 : decode cX7_cures 94 = .ok (.getfield 26, 3) := by decide +kernel
theorem dX7_cures_97 : decode cX7_cures 97 = .ok (.getfield 123, 3) := by decide +kernel
theorem dX7_cures_100 : decode cX7_cures 100 = .ok (.iload_n 1, 1) := by decide +kernel
theorem dX7_cures_101 : decode cX7_cures 101 = .ok (.iload_n 3, 1) := by decide +kernel
theorem dX7_cures_102 : decode cX7_cures 102 = .ok (.iastore, 1) := by decide +kernel
theorem dX7_cures_103 : decode cX7_cures 103 = .ok (.iload 4, 2) := by decide +kernel
theorem dX7_cures_105 : decode cX7_cures 105 = .ok (.ireturn, 1) := by decide +kernel
theorem dX7_sticks_0 : decode cX7_sticks 0 = .ok (.aload_n 0, 1) := by decide +kernel
theorem dX7_sticks_1 : decode cX7_sticks 1 = .ok (.iload_n 1, 1) := by decide +kernel
theorem dX7_sticks_2 : decode cX7_sticks 2 = .ok (.invokevirtual 105, 3) := by decide +kernel
theorem dX7_sticks_5 : decode cX7_sticks 5 = .ok (.ifCond .eq 12, 3) := by decide +kernel
theorem dX7_sticks_8 : decode cX7_sticks 8 = .ok (.iload_n 2, 1) := by decide +kernel
theorem dX7_sticks_9 : decode cX7_sticks 9 = .ok (.ifCond .lt 8, 3) := by decide +kernel
theorem dX7_sticks_12 : decode cX7_sticks 12 = .ok (.iload_n 2, 1) := by decide +kernel
theorem dX7_sticks_13 : decode cX7_sticks 13 = .ok (.iconst 2, 1) := by decide +kernel
theorem dX7_sticks_14 : decode cX7_sticks 14 = .ok (.if_icmp .le 5, 3) := by decide +kernel
theorem dX7_sticks_17 : decode cX7_sticks 17 = .ok (.iconst (-1), 1) := by decide +kernel
theorem dX7_sticks_18 : decode cX7_sticks 18 = .ok (.ireturn, 1) := by decide +kernel
theorem dX7_sticks_19 : decode cX7_sticks 19 = .ok (.aload_n 0, 1) := by decide +kernel
theorem dX7_sticks_20 : decode cX7_sticks 20 = .ok (.getfield 26, 3) := by decide +kernel
theorem dX7_sticks_23 : decode cX7_sticks 23 = .ok (.getfield 126, 3) := by decide +kernel
theorem dX7_sticks_26 : decode cX7_sticks 26 = .ok (.iload_n 1, 1) := by decide +kernel
theorem dX7_sticks_27 : decode cX7_sticks 27 = .ok (.iaload, 1) := by decide +kernel
theorem dX7_sticks_28 : decode cX7_sticks 28 = .ok (.istore_n 3, 1) := by decide +kernel
theorem dX7_sticks_29 : decode cX7_sticks 29 = .ok (.iload_n 3, 1) := by decide +kernel
theorem dX7_sticks_30 : decode cX7_sticks 30 = .ok (.iload_n 2, 1) := by decide +kernel
theorem dX7_sticks_31 : decode cX7_sticks 31 = .ok (.if_icmp .ne 6, 3) := by decide +kernel
theorem dX7_sticks_34 : decode cX7_sticks 34 = .ok (.bipush (-2), 2) := by decide +kernel
theorem dX7_sticks_36 : decode cX7_sticks 36 = .ok (.ireturn, 1) := by decide +kernel
theorem dX7_sticks_37 : decode cX7_sticks 37 = .ok (.aload_n 0, 1) := by decide +kernel
theorem dX7_sticks_38 : decode cX7_sticks 38 = .ok (.getfield 33, 3) := by decide +kernel
theorem dX7_sticks_41 : decode cX7_sticks 41 = .ok (.iconst 2, 1) := by decide +kernel
theorem dX7_sticks_42 : decode cX7_sticks 42 = .ok (.iload_n 1, 1) := by decide +kernel
theorem dX7_sticks_43 : decode cX7_sticks 43 = .ok (.iload_n 3, 1) := by decide +kernel
theorem dX7_sticks_44 : decode cX7_sticks 44 = .ok (.iconst 0, 1) := by decide +kernel
theorem dX7_sticks_45 : decode cX7_sticks 45 = .ok (.invokevirtual 146, 3) := by decide +kernel
theorem dX7_sticks_48 : decode cX7_sticks 48 = .ok (.aload_n 0, 1) := by decide +kernel
theorem dX7_sticks_49 : decode cX7_sticks 49 = .ok (.getfield 26, 3) := by decide +kernel
theorem dX7_sticks_52 : decode cX7_sticks 52 = .ok (.getfield 126, 3) := by decide +kernel
theorem dX7_sticks_55 : decode cX7_sticks 55 = .ok (.iload_n 1, 1) := by decide +kernel
theorem dX7_sticks_56 : decode cX7_sticks 56 = .ok (.iload_n 2, 1) := by decide +kernel
theorem dX7_sticks_57 : decode cX7_sticks 57 = .ok (.iastore, 1) := by decide +kernel
theorem dX7_sticks_58 : decode cX7_sticks 58 = .ok (.iload_n 3, 1) := by decide +kernel
theorem dX7_sticks_59 : decode cX7_sticks 59 = .ok (.ireturn, 1) := by decide +kernel
theorem dX7_undo_0 : decode cX7_undo 0 = .ok (.aload_n 0, 1) := by decide +kernel
theorem dX7_undo_1 : decode cX7_undo 1 = .ok (.getfield 33, 3) := by decide +kernel
theorem dX7_undo_4 : decode cX7_undo 4 = .ok (.getfield 96, 3) := by decide +kernel
theorem dX7_undo_7 : decode cX7_undo 7 = .ok (.ifCond .ne 6, 3) := by decide +kernel
theorem dX7_undo_10 : decode cX7_undo 10 = .ok (.bipush (-2), 2) := by decide +kernel
theorem dX7_undo_12 : decode cX7_undo 12 = .ok (.ireturn, 1) := by decide +kernel
theorem dX7_undo_13 : decode cX7_undo 13 = .ok (.aload_n 0, 1) := by decide +kernel
theorem dX7_undo_14 : decode cX7_undo 14 = .ok (.getfield 33, 3) := by decide +kernel
theorem dX7_undo_17 : decode cX7_undo 17 = .ok (.aload_n 0, 1) := by decide +kernel
theorem dX7_undo_18 : decode cX7_undo 18 = .ok (.getfield 26, 3) := by decide +kernel
theorem dX7_undo_21 : decode cX7_undo 21 = .ok (.invokevirtual 153, 3) := by decide +kernel
theorem dX7_undo_24 : decode cX7_undo 24 = .ok (.aload_n 0, 1) := by decide +kernel
theorem dX7_undo_25 : decode cX7_undo 25 = .ok (.getfield 33, 3) := by decide +kernel
theorem dX7_undo_28 : decode cX7_undo 28 = .ok (.getfield 96, 3) := by decide +kernel
theorem dX7_undo_31 : decode cX7_undo 31 = .ok (.ireturn, 1) := by decide +kernel
theorem dX7_path_0 : decode cX7_path 0 = .ok (.aload_n 0, 1) := by decide +kernel
theorem dX7_path_1 : decode cX7_path 1 = .ok (.iload_n 1, 1) := by decide +kernel
theorem dX7_path_2 : decode cX7_path 2 = .ok (.invokevirtual 129, 3) := by decide +kernel
theorem dX7_path_5 : decode cX7_path 5 = .ok (.ifCond .eq 16, 3) := by decide +kernel
theorem dX7_path_8 : decode cX7_path 8 = .ok (.iload_n 2, 1) := by decide +kernel
theorem dX7_path_9 : decode cX7_path 9 = .ok (.ifCond .lt 12, 3) := by decide +kernel
theorem dX7_path_12 : decode cX7_path 12 = .ok (.iload_n 3, 1) := by decide +kernel
theorem dX7_path_13 : decode cX7_path 13 = .ok (.ifCond .lt 8, 3) := by decide +kernel
theorem dX7_path_16 : decode cX7_path 16 = .ok (.iload_n 3, 1) := by decide +kernel
theorem dX7_path_17 : decode cX7_path 17 = .ok (.iconst 2, 1) := by decide +kernel
theorem dX7_path_18 : decode cX7_path 18 = .ok (.if_icmp .le 5, 3) := by decide +kernel
theorem dX7_path_21 : decode cX7_path 21 = .ok (.iconst (-1), 1) := by decide +kernel
theorem dX7_path_22 : decode cX7_path 22 = .ok (.ireturn, 1) := by decide +kernel
theorem dX7_path_23 : decode cX7_path 23 = .ok (.aload_n 0, 1) := by decide +kernel
theorem dX7_path_24 : decode cX7_path 24 = .ok (.getfield 49, 3) := by decide +kernel
theorem dX7_path_27 : decode cX7_path 27 = .ok (.invokevirtual 157, 3) := by decide +kernel
theorem dX7_path_30 : decode cX7_path 30 = .ok (.aload_n 0, 1) := by decide +kernel
theorem dX7_path_31 : decode cX7_path 31 = .ok (.getfield 58, 3) := by decide +kernel
theorem dX7_path_34 : decode cX7_path 34 = .ok (.iload_n 1, 1) := by decide +kernel
theorem dX7_path_35 : decode cX7_path 35 = .ok (.iload_n 2, 1) := by decide +kernel
theorem dX7_path_36 : decode cX7_path 36 = .ok (.bipush (-9), 2) := by decide +kernel
theorem dX7_path_38 : decode cX7_path 38 = .ok (.invokevirtual 160, 3) := by decide +kernel
theorem dX7_path_41 : decode cX7_path 41 = .ok (.iload_n 2, 1) := by decide +kernel
theorem dX7_path_42 : decode cX7_path 42 = .ok (.aload_n 0, 1) := by decide +kernel
theorem dX7_path_43 : decode cX7_path 43 = .ok (.getfield 58, 3) := by decide +kernel
theorem dX7_path_46 : decode cX7_path 46 = .ok (.getfield 164, 3) := by decide +kernel
theorem dX7_path_49 : decode cX7_path 49 = .ok (.if_icmp .lt 6, 3) := by decide +kernel
theorem dX7_path_52 : decode cX7_path 52 = .ok (.bipush (-9), 2) := by decide +kernel
theorem dX7_path_54 : decode cX7_path 54 = .ok (.ireturn, 1) := by decide +kernel
theorem dX7_path_55 : decode cX7_path 55 = .ok (.iload_n 3, 1) := by decide +kernel
theorem dX7_path_56 : decode cX7_path 56 = .ok (.ifCond .ne 11, 3) := by decide +kernel
theorem dX7_path_59 : decode cX7_path 59 = .ok (.aload_n 0, 1) := by decide +kernel
theorem dX7_path_60 : decode cX7_path 60 = .ok (.getfield 58, 3) := by decide +kernel
theorem dX7_path_63 : decode cX7_path 63 = .ok (.getfield 167, 3) := by decide +kernel
theorem dX7_path_66 : decode cX7_path 66 = .ok (.ireturn, 1) := by decide +kernel
theorem dX7_path_67 : decode cX7_path 67 = .ok (.iload_n 3, 1) := by decide +kernel
theorem dX7_path_68 : decode cX7_path 68 = .ok (.iconst 1, 1) := by decide +kernel
theorem dX7_path_69 : decode cX7_path 69 = .ok (.if_icmp .ne 13, 3) := by decide +kernel
theorem dX7_path_72 : decode cX7_path 72 = .ok (.aload_n 0, 1) := by decide +kernel
theorem dX7_path_73 : decode cX7_path 73 = .ok (.getfield 58, 3) := by decide +kernel
theorem dX7_path_76 : decode cX7_path 76 = .ok (.getfield 170, 3) := by decide +kernel
theorem dX7_path_79 : decode cX7_path 79 = .ok (.goto 10, 3) := by decide +kernel
theorem dX7_path_82 : decode cX7_path 82 = .ok (.aload_n 0, 1) := by decide +kernel
theorem dX7_path_83 : decode cX7_path 83 = .ok (.getfield 58, 3) := by decide +kernel
theorem dX7_path_86 : decode cX7_path 86 = .ok (.getfield 171, 3) := by decide +kernel
theorem dX7_path_89 : decode cX7_path 89 = .ok (.ireturn, 1) := by decide +kernel
theorem dX7_shortest_0 : decode cX7_shortest 0 = .ok (.aload_n 0, 1) := by decide +kernel
theorem dX7_shortest_1 : decode cX7_shortest 1 = .ok (.iload_n 1, 1) := by decide +kernel
theorem dX7_shortest_2 : decode cX7_shortest 2 = .ok (.invokevirtual 129, 3) := by decide +kernel
theorem dX7_shortest_5 : decode cX7_shortest 5 = .ok (.ifCond .eq 15, 3) := by decide +kernel
theorem dX7_shortest_8 : decode cX7_shortest 8 = .ok (.iload_n 2, 1) := by decide +kernel
theorem dX7_shortest_9 : decode cX7_shortest 9 = .ok (.invokestatic 174, 3) := by decide +kernel
theorem dX7_shortest_12 : decode cX7_shortest 12 = .ok (.ifCond .eq 8, 3) := by decide +kernel
theorem dX7_shortest_15 : decode cX7_shortest 15 = .ok (.iload_n 3, 1) := by decide +kernel
theorem dX7_shortest_16 : decode cX7_shortest 16 = .ok (.iconst (-1), 1) := by decide +kernel
theorem dX7_shortest_17 : decode cX7_shortest 17 = .ok (.if_icmp .ge 5, 3) := by decide +kernel
theorem dX7_shortest_20 : decode cX7_shortest 20 = .ok (.iconst (-1), 1) := by decide +kernel
theorem dX7_shortest_21 : decode cX7_shortest 21 = .ok (.ireturn, 1) := by decide +kernel
theorem dX7_shortest_22 : decode cX7_shortest 22 = .ok (.aload_n 0, 1) := by decide +kernel
theorem dX7_shortest_23 : decode cX7_shortest 23 = .ok (.getfield 49, 3) := by decide +kernel
theorem dX7_shortest_26 : decode cX7_shortest 26 = .ok (.invokevirtual 157, 3) := by decide +kernel
theorem dX7_shortest_29 : decode cX7_shortest 29 = .ok (.aload_n 0, 1) := by decide +kernel
theorem dX7_shortest_30 : decode cX7_shortest 30 = .ok (.getfield 58, 3) := by decide +kernel
theorem dX7_shortest_33 : decode cX7_shortest 33 = .ok (.iload_n 1, 1) := by decide +kernel
theorem dX7_shortest_34 : decode cX7_shortest 34 = .ok (.bipush (-9), 2) := by decide +kernel
theorem dX7_shortest_36 : decode cX7_shortest 36 = .ok (.iload_n 2, 1) := by decide +kernel
theorem dX7_shortest_37 : decode cX7_shortest 37 = .ok (.invokevirtual 160, 3) := by decide +kernel
theorem dX7_shortest_40 : decode cX7_shortest 40 = .ok (.aload_n 0, 1) := by decide +kernel
theorem dX7_shortest_41 : decode cX7_shortest 41 = .ok (.getfield 58, 3) := by decide +kernel
theorem dX7_shortest_44 : decode cX7_shortest 44 = .ok (.getfield 177, 3) := by decide +kernel
theorem dX7_shortest_47 : decode cX7_shortest 47 = .ok (.ifCond .eq 14, 3) := by decide +kernel
theorem dX7_shortest_50 : decode cX7_shortest 50 = .ok (.iload_n 3, 1) := by decide +kernel
theorem dX7_shortest_51 : decode cX7_shortest 51 = .ok (.aload_n 0, 1) := by decide +kernel
theorem dX7_shortest_52 : decode cX7_shortest 52 = .ok (.getfield 58, 3) := by decide +kernel
theorem dX7_shortest_55 : decode cX7_shortest 55 = .ok (.getfield 177, 3) := by decide +kernel
theorem dX7_shortest_58 : decode cX7_shortest 58 = .ok (.if_icmp .lt 6, 3) := by decide +kernel
theorem dX7_shortest_61 : decode cX7_shortest 61 = .ok (.bipush (-9), 2) := by decide +kernel
theorem dX7_shortest_63 : decode cX7_shortest 63 = .ok (.ireturn, 1) := by decide +kernel
theorem dX7_shortest_64 : decode cX7_shortest 64 = .ok (.iload_n 3, 1) := by decide +kernel
theorem dX7_shortest_65 : decode cX7_shortest 65 = .ok (.ifCond .ge 13, 3) := by decide +kernel
theorem dX7_shortest_68 : decode cX7_shortest 68 = .ok (.aload_n 0, 1) := by decide +kernel
theorem dX7_shortest_69 : decode cX7_shortest 69 = .ok (.getfield 58, 3) := by decide +kernel
theorem dX7_shortest_72 : decode cX7_shortest 72 = .ok (.getfield 177, 3) := by decide +kernel
theorem dX7_shortest_75 : decode cX7_shortest 75 = .ok (.goto 12, 3) := by decide +kernel
theorem dX7_shortest_78 : decode cX7_shortest 78 = .ok (.aload_n 0, 1) := by decide +kernel
theorem dX7_shortest_79 : decode cX7_shortest 79 = .ok (.getfield 58, 3) := by decide +kernel
theorem dX7_shortest_82 : decode cX7_shortest 82 = .ok (.getfield 180, 3) := by decide +kernel
theorem dX7_shortest_85 : decode cX7_shortest 85 = .ok (.iload_n 3, 1) := by decide +kernel
theorem dX7_shortest_86 : decode cX7_shortest 86 = .ok (.iaload, 1) := by decide +kernel
theorem dX7_shortest_87 : decode cX7_shortest 87 = .ok (.ireturn, 1) := by decide +kernel
theorem dX7_parting_0 : decode cX7_parting 0 = .ok (.aload_n 0, 1) := by decide +kernel
theorem dX7_parting_1 : decode cX7_parting 1 = .ok (.iload_n 1, 1) := by decide +kernel
theorem dX7_parting_2 : decode cX7_parting 2 = .ok (.invokevirtual 129, 3) := by decide +kernel
theorem dX7_parting_5 : decode cX7_parting 5 = .ok (.ifCond .eq 10, 3) := by decide +kernel
theorem dX7_parting_8 : decode cX7_parting 8 = .ok (.iload_n 2, 1) := by decide +kernel
theorem dX7_parting_9 : decode cX7_parting 9 = .ok (.invokestatic 174, 3) := by decide +kernel
theorem dX7_parting_12 : decode cX7_parting 12 = .ok (.ifCond .ne 5, 3) := by decide +kernel
theorem dX7_parting_15 : decode cX7_parting 15 = .ok (.iconst (-1), 1) := by decide +kernel
theorem dX7_parting_16 : decode cX7_parting 16 = .ok (.ireturn, 1) := by decide +kernel
theorem dX7_parting_17 : decode cX7_parting 17 = .ok (.aload_n 0, 1) := by decide +kernel
theorem dX7_parting_18 : decode cX7_parting 18 = .ok (.getfield 49, 3) := by decide +kernel
theorem dX7_parting_21 : decode cX7_parting 21 = .ok (.invokevirtual 157, 3) := by decide +kernel
theorem dX7_parting_24 : decode cX7_parting 24 = .ok (.iconst 1, 1) := by decide +kernel
theorem dX7_parting_25 : decode cX7_parting 25 = .ok (.aload_n 0, 1) := by decide +kernel
theorem dX7_parting_26 : decode cX7_parting 26 = .ok (.getfield 19, 3) := by decide +kernel
theorem dX7_parting_29 : decode cX7_parting 29 = .ok (.getfield 183, 3) := by decide +kernel
theorem dX7_parting_32 : decode cX7_parting 32 = .ok (.ishl, 1) := by decide +kernel
theorem dX7_parting_33 : decode cX7_parting 33 = .ok (.istore_n 3, 1) := by decide +kernel
theorem dX7_parting_34 : decode cX7_parting 34 = .ok (.iload_n 3, 1) := by decide +kernel
theorem dX7_parting_35 : decode cX7_parting 35 = .ok (.iconst 1, 1) := by decide +kernel
theorem dX7_parting_36 : decode cX7_parting 36 = .ok (.isub, 1) := by decide +kernel
theorem dX7_parting_37 : decode cX7_parting 37 = .ok (.istore 4, 2) := by decide +kernel
theorem dX7_parting_39 : decode cX7_parting 39 = .ok (.aload_n 0, 1) := by decide +kernel
theorem dX7_parting_40 : decode cX7_parting 40 = .ok (.getfield 19, 3) := by decide +kernel
theorem dX7_parting_43 : decode cX7_parting 43 = .ok (.getfield 183, 3) := by decide +kernel
theorem dX7_parting_46 : decode cX7_parting 46 = .ok (.iconst 1, 1) := by decide +kernel
theorem dX7_parting_47 : decode cX7_parting 47 = .ok (.iadd, 1) := by decide +kernel
theorem dX7_parting_48 : decode cX7_parting 48 = .ok (.istore 5, 2) := by decide +kernel
theorem dX7_parting_50 : decode cX7_parting 50 = .ok (.iconst 0, 1) := by decide +kernel
theorem dX7_parting_51 : decode cX7_parting 51 = .ok (.istore 6, 2) := by decide +kernel
theorem dX7_parting_53 : decode cX7_parting 53 = .ok (.iload 6, 2) := by decide +kernel
theorem dX7_parting_55 : decode cX7_parting 55 = .ok (.iload_n 3, 1) := by decide +kernel
theorem dX7_parting_56 : decode cX7_parting 56 = .ok (.if_icmp .ge 45, 3) := by decide +kernel
theorem dX7_parting_59 : decode cX7_parting 59 = .ok (.iload 6, 2) := by decide +kernel
theorem dX7_parting_61 : decode cX7_parting 61 = .ok (.invokestatic 186, 3) := by decide +kernel
theorem dX7_parting_64 : decode cX7_parting 64 = .ok (.istore 7, 2) := by decide +kernel
theorem dX7_parting_66 : decode cX7_parting 66 = .ok (.iload 7, 2) := by decide +kernel
theorem dX7_parting_68 : decode cX7_parting 68 = .ok (.iload 5, 2) := by decide +kernel
theorem dX7_parting_70 : decode cX7_parting 70 = .ok (.if_icmp .ge 25, 3) := by decide +kernel
theorem dX7_parting_73 : decode cX7_parting 73 = .ok (.aload_n 0, 1) := by decide +kernel
theorem dX7_parting_74 : decode cX7_parting 74 = .ok (.getfield 49, 3) := by decide +kernel
theorem dX7_parting_77 : decode cX7_parting 77 = .ok (.iload 6, 2) := by decide +kernel
theorem dX7_parting_79 : decode cX7_parting 79 = .ok (.iload_n 1, 1) := by decide +kernel
theorem dX7_parting_80 : decode cX7_parting 80 = .ok (.iload_n 2, 1) := by decide +kernel
theorem dX7_parting_81 : decode cX7_parting 81 = .ok (.invokevirtual 191, 3) := by decide +kernel
theorem dX7_parting_84 : decode cX7_parting 84 = .ok (.ifCond .ne 11, 3) := by decide +kernel
theorem dX7_parting_87 : decode cX7_parting 87 = .ok (.iload 6, 2) := by decide +kernel
theorem dX7_parting_89 : decode cX7_parting 89 = .ok (.istore 4, 2) := by decide +kernel
theorem dX7_parting_91 : decode cX7_parting 91 = .ok (.iload 7, 2) := by decide +kernel
theorem dX7_parting_93 : decode cX7_parting 93 = .ok (.istore 5, 2) := by decide +kernel
theorem dX7_parting_95 : decode cX7_parting 95 = .ok (.iinc 6 1, 3) := by decide +kernel
theorem dX7_parting_98 : decode cX7_parting 98 = .ok (.goto (-45), 3) := by decide +kernel
theorem dX7_parting_101 : decode cX7_parting 101 = .ok (.iload 4, 2) := by decide +kernel
theorem dX7_parting_103 : decode cX7_parting 103 = .ok (.ireturn, 1) := by decide +kernel
theorem dX7_enough_0 : decode cX7_enough 0 = .ok (.iload_n 1, 1) := by decide +kernel
theorem dX7_enough_1 : decode cX7_enough 1 = .ok (.ifCond .lt 8, 3) := by decide +kernel
theorem dX7_enough_4 : decode cX7_enough 4 = .ok (.iload_n 1, 1) := by decide +kernel
theorem dX7_enough_5 : decode cX7_enough 5 = .ok (.iconst 1, 1) := by decide +kernel
theorem dX7_enough_6 : decode cX7_enough 6 = .ok (.if_icmp .le 5, 3) := by decide +kernel
theorem dX7_enough_9 : decode cX7_enough 9 = .ok (.iconst (-1), 1) := by decide +kernel
theorem dX7_enough_10 : decode cX7_enough 10 = .ok (.ireturn, 1) := by decide +kernel
theorem dX7_enough_11 : decode cX7_enough 11 = .ok (.aload_n 0, 1) := by decide +kernel
theorem dX7_enough_12 : decode cX7_enough 12 = .ok (.invokevirtual 195, 3) := by decide +kernel
theorem dX7_enough_15 : decode cX7_enough 15 = .ok (.iconst 0, 1) := by decide +kernel
theorem dX7_enough_16 : decode cX7_enough 16 = .ok (.istore_n 2, 1) := by decide +kernel
theorem dX7_enough_17 : decode cX7_enough 17 = .ok (.bipush (-9), 2) := by decide +kernel
theorem dX7_enough_19 : decode cX7_enough 19 = .ok (.istore_n 3, 1) := by decide +kernel
theorem dX7_enough_20 : decode cX7_enough 20 = .ok (.iconst 0, 1) := by decide +kernel
theorem dX7_enough_21 : decode cX7_enough 21 = .ok (.istore 4, 2) := by decide +kernel
theorem dX7_enough_23 : decode cX7_enough 23 = .ok (.iload 4, 2) := by decide +kernel
theorem dX7_enough_25 : decode cX7_enough 25 = .ok (.aload_n 0, 1) := by decide +kernel
theorem dX7_enough_26 : decode cX7_enough 26 = .ok (.getfield 19, 3) := by decide +kernel
theorem dX7_enough_29 : decode cX7_enough 29 = .ok (.getfield 183, 3) := by decide +kernel
theorem dX7_enough_32 : decode cX7_enough 32 = .ok (.if_icmp .ge 98, 3) := by decide +kernel
theorem dX7_enough_35 : decode cX7_enough 35 = .ok (.aload_n 0, 1) := by decide +kernel
theorem dX7_enough_36 : decode cX7_enough 36 = .ok (.getfield 26, 3) := by decide +kernel
theorem dX7_enough_39 : decode cX7_enough 39 = .ok (.getfield 120, 3) := by decide +kernel
theorem dX7_enough_42 : decode cX7_enough 42 = .ok (.iload 4, 2) := by decide +kernel
theorem dX7_enough_44 : decode cX7_enough 44 = .ok (.iaload, 1) := by decide +kernel
theorem dX7_enough_45 : decode cX7_enough 45 = .ok (.iconst 4, 1) := by decide +kernel
theorem dX7_enough_46 : decode cX7_enough 46 = .ok (.if_icmp .eq 6, 3) := by decide +kernel
theorem dX7_enough_49 : decode cX7_enough 49 = .ok (.goto 75, 3) := by decide +kernel
theorem dX7_enough_52 : decode cX7_enough 52 = .ok (.iconst 0, 1) := by decide +kernel
theorem dX7_enough_53 : decode cX7_enough 53 = .ok (.istore 5, 2) := by decide +kernel
theorem dX7_enough_55 : decode cX7_enough 55 = .ok (.iload 5, 2) := by decide +kernel
theorem dX7_enough_57 : decode cX7_enough 57 = .ok (.iconst 4, 1) := by decide +kernel
theorem dX7_enough_58 : decode cX7_enough 58 = .ok (.if_icmp .ge 66, 3) := by decide +kernel
theorem dX7_enough_61 : decode cX7_enough 61 = .ok (.iconst 0, 1) := by decide +kernel
theorem dX7_enough_62 : decode cX7_enough 62 = .ok (.istore 6, 2) := by decide +kernel
theorem dX7_enough_64 : decode cX7_enough 64 = .ok (.iload 6, 2) := by decide +kernel
theorem dX7_enough_66 : decode cX7_enough 66 = .ok (.iload 5, 2) := by decide +kernel
theorem dX7_enough_68 : decode cX7_enough 68 = .ok (.invokestatic 150, 3) := by decide +kernel
theorem dX7_enough_71 : decode cX7_enough 71 = .ok (.if_icmp .ge 47, 3) := by decide +kernel
theorem dX7_enough_74 : decode cX7_enough 74 = .ok (.aload_n 0, 1) := by decide +kernel
theorem dX7_enough_75 : decode cX7_enough 75 = .ok (.iload 4, 2) := by decide +kernel
theorem dX7_enough_77 : decode cX7_enough 77 = .ok (.iload 5, 2) := by decide +kernel
theorem dX7_enough_79 : decode cX7_enough 79 = .ok (.iload 6, 2) := by decide +kernel
theorem dX7_enough_81 : decode cX7_enough 81 = .ok (.invokevirtual 198, 3) := by decide +kernel
theorem dX7_enough_84 : decode cX7_enough 84 = .ok (.ifCond .ne 6, 3) := by decide +kernel
theorem dX7_enough_87 : decode cX7_enough 87 = .ok (.goto 25, 3) := by decide +kernel
theorem dX7_enough_90 : decode cX7_enough 90 = .ok (.iload_n 2, 1) := by decide +kernel
theorem dX7_enough_91 : decode cX7_enough 91 = .ok (.ifCond .ne 18, 3) := by decide +kernel
theorem dX7_enough_94 : decode cX7_enough 94 = .ok (.bipush 100, 2) := by decide +kernel
theorem dX7_enough_96 : decode cX7_enough 96 = .ok (.iload 4, 2) := by decide +kernel
theorem dX7_enough_98 : decode cX7_enough 98 = .ok (.imul, 1) := by decide +kernel
theorem dX7_enough_99 : decode cX7_enough 99 = .ok (.bipush 10, 2) := by decide +kernel
theorem dX7_enough_101 : decode cX7_enough 101 = .ok (.iload 5, 2) := by decide +kernel
theorem dX7_enough_103 : decode cX7_enough 103 = .ok (.imul, 1) := by decide +kernel
theorem dX7_enough_104 : decode cX7_enough 104 = .ok (.iadd, 1) := by decide +kernel
theorem dX7_enough_105 : decode cX7_enough 105 = .ok (.iload 6, 2) := by decide +kernel
theorem dX7_enough_107 : decode cX7_enough 107 = .ok (.iadd, 1) := by decide +kernel
theorem dX7_enough_108 : decode cX7_enough 108 = .ok (.istore_n 3, 1) := by decide +kernel
theorem dX7_enough_109 : decode cX7_enough 109 = .ok (.iinc 2 1, 3) := by decide +kernel
theorem dX7_enough_112 : decode cX7_enough 112 = .ok (.iinc 6 1, 3) := by decide +kernel
theorem dX7_enough_115 : decode cX7_enough 115 = .ok (.goto (-51), 3) := by decide +kernel
theorem dX7_enough_118 : decode cX7_enough 118 = .ok (.iinc 5 1, 3) := by decide +kernel
theorem dX7_enough_121 : decode cX7_enough 121 = .ok (.goto (-66), 3) := by decide +kernel
theorem dX7_enough_124 : decode cX7_enough 124 = .ok (.iinc 4 1, 3) := by decide +kernel
theorem dX7_enough_127 : decode cX7_enough 127 = .ok (.goto (-104), 3) := by decide +kernel
theorem dX7_enough_130 : decode cX7_enough 130 = .ok (.iload_n 1, 1) := by decide +kernel
theorem dX7_enough_131 : decode cX7_enough 131 = .ok (.ifCond .ne 7, 3) := by decide +kernel
theorem dX7_enough_134 : decode cX7_enough 134 = .ok (.iload_n 2, 1) := by decide +kernel
theorem dX7_enough_135 : decode cX7_enough 135 = .ok (.goto 4, 3) := by decide +kernel
theorem dX7_enough_138 : decode cX7_enough 138 = .ok (.iload_n 3, 1) := by decide +kernel
theorem dX7_enough_139 : decode cX7_enough 139 = .ok (.ireturn, 1) := by decide +kernel
theorem dX7_flash_0 : decode cX7_flash 0 = .ok (.aload_n 0, 1) := by decide +kernel
theorem dX7_flash_1 : decode cX7_flash 1 = .ok (.iload_n 1, 1) := by decide +kernel
theorem dX7_flash_2 : decode cX7_flash 2 = .ok (.invokevirtual 129, 3) := by decide +kernel
theorem dX7_flash_5 : decode cX7_flash 5 = .ok (.ifCond .eq 17, 3) := by decide +kernel
theorem dX7_flash_8 : decode cX7_flash 8 = .ok (.iload_n 2, 1) := by decide +kernel
theorem dX7_flash_9 : decode cX7_flash 9 = .ok (.invokestatic 174, 3) := by decide +kernel
theorem dX7_flash_12 : decode cX7_flash 12 = .ok (.ifCond .eq 10, 3) := by decide +kernel
theorem dX7_flash_15 : decode cX7_flash 15 = .ok (.iload_n 3, 1) := by decide +kernel
theorem dX7_flash_16 : decode cX7_flash 16 = .ok (.invokestatic 174, 3) := by decide +kernel
theorem dX7_flash_19 : decode cX7_flash 19 = .ok (.ifCond .ne 5, 3) := by decide +kernel
theorem dX7_flash_22 : decode cX7_flash 22 = .ok (.iconst (-1), 1) := by decide +kernel
theorem dX7_flash_23 : decode cX7_flash 23 = .ok (.ireturn, 1) := by decide +kernel
theorem dX7_flash_24 : decode cX7_flash 24 = .ok (.aload_n 0, 1) := by decide +kernel
theorem dX7_flash_25 : decode cX7_flash 25 = .ok (.iload_n 1, 1) := by decide +kernel
theorem dX7_flash_26 : decode cX7_flash 26 = .ok (.invokevirtual 135, 3) := by decide +kernel
theorem dX7_flash_29 : decode cX7_flash 29 = .ok (.istore 4, 2) := by decide +kernel
theorem dX7_flash_31 : decode cX7_flash 31 = .ok (.iload 4, 2) := by decide +kernel
theorem dX7_flash_33 : decode cX7_flash 33 = .ok (.iload_n 2, 1) := by decide +kernel
theorem dX7_flash_34 : decode cX7_flash 34 = .ok (.invokestatic 201, 3) := by decide +kernel
theorem dX7_flash_37 : decode cX7_flash 37 = .ok (.ifCond .ne 12, 3) := by decide +kernel
theorem dX7_flash_40 : decode cX7_flash 40 = .ok (.iload 4, 2) := by decide +kernel
theorem dX7_flash_42 : decode cX7_flash 42 = .ok (.iload_n 3, 1) := by decide +kernel
theorem dX7_flash_43 : decode cX7_flash 43 = .ok (.invokestatic 201, 3) := by decide +kernel
theorem dX7_flash_46 : decode cX7_flash 46 = .ok (.ifCond .eq 5, 3) := by decide +kernel
theorem dX7_flash_49 : decode cX7_flash 49 = .ok (.iconst 0, 1) := by decide +kernel
theorem dX7_flash_50 : decode cX7_flash 50 = .ok (.ireturn, 1) := by decide +kernel
theorem dX7_flash_51 : decode cX7_flash 51 = .ok (.iload_n 2, 1) := by decide +kernel
theorem dX7_flash_52 : decode cX7_flash 52 = .ok (.iload_n 3, 1) := by decide +kernel
theorem dX7_flash_53 : decode cX7_flash 53 = .ok (.ixor, 1) := by decide +kernel
theorem dX7_flash_54 : decode cX7_flash 54 = .ok (.istore 5, 2) := by decide +kernel
theorem dX7_flash_56 : decode cX7_flash 56 = .ok (.iconst 0, 1) := by decide +kernel
theorem dX7_flash_57 : decode cX7_flash 57 = .ok (.istore 6, 2) := by decide +kernel
theorem dX7_flash_59 : decode cX7_flash 59 = .ok (.iload 6, 2) := by decide +kernel
theorem dX7_flash_61 : decode cX7_flash 61 = .ok (.bipush 16, 2) := by decide +kernel
theorem dX7_flash_63 : decode cX7_flash 63 = .ok (.if_icmp .ge 45, 3) := by decide +kernel
theorem dX7_flash_66 : decode cX7_flash 66 = .ok (.iload 6, 2) := by decide +kernel
theorem dX7_flash_68 : decode cX7_flash 68 = .ok (.iload_n 2, 1) := by decide +kernel
theorem dX7_flash_69 : decode cX7_flash 69 = .ok (.ixor, 1) := by decide +kernel
theorem dX7_flash_70 : decode cX7_flash 70 = .ok (.iload 5, 2) := by decide +kernel
theorem dX7_flash_72 : decode cX7_flash 72 = .ok (.iconst (-1), 1) := by decide +kernel
theorem dX7_flash_73 : decode cX7_flash 73 = .ok (.ixor, 1) := by decide +kernel
theorem dX7_flash_74 : decode cX7_flash 74 = .ok (.iand, 1) := by decide +kernel
theorem dX7_flash_75 : decode cX7_flash 75 = .ok (.ifCond .ne 7, 3) := by decide +kernel
theorem dX7_flash_78 : decode cX7_flash 78 = .ok (.iconst 1, 1) := by decide +kernel
theorem dX7_flash_79 : decode cX7_flash 79 = .ok (.goto 4, 3) := by decide +kernel
theorem dX7_flash_82 : decode cX7_flash 82 = .ok (.iconst 0, 1) := by decide +kernel
theorem dX7_flash_83 : decode cX7_flash 83 = .ok (.istore 7, 2) := by decide +kernel
theorem dX7_flash_85 : decode cX7_flash 85 = .ok (.iload 7, 2) := by decide +kernel
theorem dX7_flash_87 : decode cX7_flash 87 = .ok (.ifCond .eq 15, 3) := by decide +kernel
theorem dX7_flash_90 : decode cX7_flash 90 = .ok (.iload 4, 2) := by decide +kernel
theorem dX7_flash_92 : decode cX7_flash 92 = .ok (.iload 6, 2) := by decide +kernel
theorem dX7_flash_94 : decode cX7_flash 94 = .ok (.invokestatic 201, 3) := by decide +kernel
theorem dX7_flash_97 : decode cX7_flash 97 = .ok (.ifCond .eq 5, 3) := by decide +kernel
theorem dX7_flash_100 : decode cX7_flash 100 = .ok (.iconst 1, 1) := by decide +kernel
theorem dX7_flash_101 : decode cX7_flash 101 = .ok (.ireturn, 1) := by decide +kernel
theorem dX7_flash_102 : decode cX7_flash 102 = .ok (.iinc 6 1, 3) := by decide +kernel
theorem dX7_flash_105 : decode cX7_flash 105 = .ok (.goto (-46), 3) := by decide +kernel
theorem dX7_flash_108 : decode cX7_flash 108 = .ok (.iconst 0, 1) := by decide +kernel
theorem dX7_flash_109 : decode cX7_flash 109 = .ok (.ireturn, 1) := by decide +kernel
theorem dX7_odds_0 : decode cX7_odds 0 = .ok (.iload_n 1, 1) := by decide +kernel
theorem dX7_odds_1 : decode cX7_odds 1 = .ok (.ifCond .lt 35, 3) := by decide +kernel
theorem dX7_odds_4 : decode cX7_odds 4 = .ok (.iload_n 1, 1) := by decide +kernel
theorem dX7_odds_5 : decode cX7_odds 5 = .ok (.bipush 10, 2) := by decide +kernel
theorem dX7_odds_7 : decode cX7_odds 7 = .ok (.if_icmp .gt 29, 3) := by decide +kernel
theorem dX7_odds_10 : decode cX7_odds 10 = .ok (.aload_n 0, 1) := by decide +kernel
theorem dX7_odds_11 : decode cX7_odds 11 = .ok (.iload_n 2, 1) := by decide +kernel
theorem dX7_odds_12 : decode cX7_odds 12 = .ok (.invokevirtual 129, 3) := by decide +kernel
theorem dX7_odds_15 : decode cX7_odds 15 = .ok (.ifCond .eq 21, 3) := by decide +kernel
theorem dX7_odds_18 : decode cX7_odds 18 = .ok (.iload_n 3, 1) := by decide +kernel
theorem dX7_odds_19 : decode cX7_odds 19 = .ok (.invokestatic 174, 3) := by decide +kernel
theorem dX7_odds_22 : decode cX7_odds 22 = .ok (.ifCond .eq 14, 3) := by decide +kernel
theorem dX7_odds_25 : decode cX7_odds 25 = .ok (.iload 4, 2) := by decide +kernel
theorem dX7_odds_27 : decode cX7_odds 27 = .ok (.ifCond .lt 9, 3) := by decide +kernel
theorem dX7_odds_30 : decode cX7_odds 30 = .ok (.iload 4, 2) := by decide +kernel
theorem dX7_odds_32 : decode cX7_odds 32 = .ok (.iconst 1, 1) := by decide +kernel
theorem dX7_odds_33 : decode cX7_odds 33 = .ok (.if_icmp .le 5, 3) := by decide +kernel
theorem dX7_odds_36 : decode cX7_odds 36 = .ok (.iconst (-1), 1) := by decide +kernel
theorem dX7_odds_37 : decode cX7_odds 37 = .ok (.ireturn, 1) := by decide +kernel
theorem dX7_odds_38 : decode cX7_odds 38 = .ok (.aload_n 0, 1) := by decide +kernel
theorem dX7_odds_39 : decode cX7_odds 39 = .ok (.getfield 49, 3) := by decide +kernel
theorem dX7_odds_42 : decode cX7_odds 42 = .ok (.invokevirtual 157, 3) := by decide +kernel
theorem dX7_odds_45 : decode cX7_odds 45 = .ok (.bipush 10, 2) := by decide +kernel
theorem dX7_odds_47 : decode cX7_odds 47 = .ok (.aload_n 0, 1) := by decide +kernel
theorem dX7_odds_48 : decode cX7_odds 48 = .ok (.getfield 19, 3) := by decide +kernel
theorem dX7_odds_51 : decode cX7_odds 51 = .ok (.getfield 183, 3) := by decide +kernel
theorem dX7_odds_54 : decode cX7_odds 54 = .ok (.invokestatic 205, 3) := by decide +kernel
theorem dX7_odds_57 : decode cX7_odds 57 = .ok (.istore 5, 2) := by decide +kernel
theorem dX7_odds_59 : decode cX7_odds 59 = .ok (.iconst 0, 1) := by decide +kernel
theorem dX7_odds_60 : decode cX7_odds 60 = .ok (.istore 6, 2) := by decide +kernel
theorem dX7_odds_62 : decode cX7_odds 62 = .ok (.iconst 0, 1) := by decide +kernel
theorem dX7_odds_63 : decode cX7_odds 63 = .ok (.istore 7, 2) := by decide +kernel
theorem dX7_odds_65 : decode cX7_odds 65 = .ok (.iload 7, 2) := by decide +kernel
theorem dX7_odds_67 : decode cX7_odds 67 = .ok (.iconst 1, 1) := by decide +kernel
theorem dX7_odds_68 : decode cX7_odds 68 = .ok (.aload_n 0, 1) := by decide +kernel
theorem dX7_odds_69 : decode cX7_odds 69 = .ok (.getfield 19, 3) := by decide +kernel
theorem dX7_odds_72 : decode cX7_odds 72 = .ok (.getfield 183, 3) := by decide +kernel
theorem dX7_odds_75 : decode cX7_odds 75 = .ok (.ishl, 1) := by decide +kernel
theorem dX7_odds_76 : decode cX7_odds 76 = .ok (.if_icmp .ge 59, 3) := by decide +kernel
theorem dX7_odds_79 : decode cX7_odds 79 = .ok (.aload_n 0, 1) := by decide +kernel
theorem dX7_odds_80 : decode cX7_odds 80 = .ok (.getfield 49, 3) := by decide +kernel
theorem dX7_odds_83 : decode cX7_odds 83 = .ok (.iload 7, 2) := by decide +kernel
theorem dX7_odds_85 : decode cX7_odds 85 = .ok (.iload_n 2, 1) := by decide +kernel
theorem dX7_odds_86 : decode cX7_odds 86 = .ok (.iload_n 3, 1) := by decide +kernel
theorem dX7_odds_87 : decode cX7_odds 87 = .ok (.invokevirtual 191, 3) := by decide +kernel
theorem dX7_odds_90 : decode cX7_odds 90 = .ok (.ifCond .eq 39, 3) := by decide +kernel
theorem dX7_odds_93 : decode cX7_odds 93 = .ok (.iload 7, 2) := by decide +kernel
theorem dX7_odds_95 : decode cX7_odds 95 = .ok (.invokestatic 186, 3) := by decide +kernel
theorem dX7_odds_98 : decode cX7_odds 98 = .ok (.istore 8, 2) := by decide +kernel
theorem dX7_odds_100 : decode cX7_odds 100 = .ok (.iload 6, 2) := by decide +kernel
theorem dX7_odds_102 : decode cX7_odds 102 = .ok (.iload_n 1, 1) := by decide +kernel
theorem dX7_odds_103 : decode cX7_odds 103 = .ok (.iload 8, 2) := by decide +kernel
theorem dX7_odds_105 : decode cX7_odds 105 = .ok (.invokestatic 205, 3) := by decide +kernel
theorem dX7_odds_108 : decode cX7_odds 108 = .ok (.bipush 10, 2) := by decide +kernel
theorem dX7_odds_110 : decode cX7_odds 110 = .ok (.iload_n 1, 1) := by decide +kernel
theorem dX7_odds_111 : decode cX7_odds 111 = .ok (.isub, 1) := by decide +kernel
theorem dX7_odds_112 : decode cX7_odds 112 = .ok (.aload_n 0, 1) := by decide +kernel
theorem dX7_odds_113 : decode cX7_odds 113 = .ok (.getfield 19, 3) := by decide +kernel
theorem dX7_odds_116 : decode cX7_odds 116 = .ok (.getfield 183, 3) := by decide +kernel
theorem dX7_odds_119 : decode cX7_odds 119 = .ok (.iload 8, 2) := by decide +kernel
theorem dX7_odds_121 : decode cX7_odds 121 = .ok (.isub, 1) := by decide +kernel
theorem dX7_odds_122 : decode cX7_odds 122 = .ok (.invokestatic 205, 3) := by decide +kernel
theorem dX7_odds_125 : decode cX7_odds 125 = .ok (.imul, 1) := by decide +kernel
theorem dX7_odds_126 : decode cX7_odds 126 = .ok (.iadd, 1) := by decide +kernel
theorem dX7_odds_127 : decode cX7_odds 127 = .ok (.istore 6, 2) := by decide +kernel
theorem dX7_odds_129 : decode cX7_odds 129 = .ok (.iinc 7 1, 3) := by decide +kernel
theorem dX7_odds_132 : decode cX7_odds 132 = .ok (.goto (-67), 3) := by decide +kernel
theorem dX7_odds_135 : decode cX7_odds 135 = .ok (.iload 6, 2) := by decide +kernel
theorem dX7_odds_137 : decode cX7_odds 137 = .ok (.iload 5, 2) := by decide +kernel
theorem dX7_odds_139 : decode cX7_odds 139 = .ok (.invokestatic 209, 3) := by decide +kernel
theorem dX7_odds_142 : decode cX7_odds 142 = .ok (.istore 7, 2) := by decide +kernel
theorem dX7_odds_144 : decode cX7_odds 144 = .ok (.iload 4, 2) := by decide +kernel
theorem dX7_odds_146 : decode cX7_odds 146 = .ok (.ifCond .ne 8, 3) := by decide +kernel
theorem dX7_odds_149 : decode cX7_odds 149 = .ok (.iload 6, 2) := by decide +kernel
theorem dX7_odds_151 : decode cX7_odds 151 = .ok (.goto 5, 3) := by decide +kernel
theorem dX7_odds_154 : decode cX7_odds 154 = .ok (.iload 5, 2) := by decide +kernel
theorem dX7_odds_156 : decode cX7_odds 156 = .ok (.iload 7, 2) := by decide +kernel
theorem dX7_odds_158 : decode cX7_odds 158 = .ok (.idiv, 1) := by decide +kernel
theorem dX7_odds_159 : decode cX7_odds 159 = .ok (.ireturn, 1) := by decide +kernel
theorem dX7_sees_0 : decode cX7_sees 0 = .ok (.aload_n 0, 1) := by decide +kernel
theorem dX7_sees_1 : decode cX7_sees 1 = .ok (.iload_n 1, 1) := by decide +kernel
theorem dX7_sees_2 : decode cX7_sees 2 = .ok (.invokevirtual 129, 3) := by decide +kernel
theorem dX7_sees_5 : decode cX7_sees 5 = .ok (.ifCond .eq 19, 3) := by decide +kernel
theorem dX7_sees_8 : decode cX7_sees 8 = .ok (.iload_n 2, 1) := by decide +kernel
theorem dX7_sees_9 : decode cX7_sees 9 = .ok (.invokestatic 174, 3) := by decide +kernel
theorem dX7_sees_12 : decode cX7_sees 12 = .ok (.ifCond .eq 12, 3) := by decide +kernel
theorem dX7_sees_15 : decode cX7_sees 15 = .ok (.iload_n 3, 1) := by decide +kernel
theorem dX7_sees_16 : decode cX7_sees 16 = .ok (.ifCond .lt 8, 3) := by decide +kernel
theorem dX7_sees_19 : decode cX7_sees 19 = .ok (.iload_n 3, 1) := by decide +kernel
theorem dX7_sees_20 : decode cX7_sees 20 = .ok (.iconst 1, 1) := by decide +kernel
theorem dX7_sees_21 : decode cX7_sees 21 = .ok (.if_icmp .le 5, 3) := by decide +kernel
theorem dX7_sees_24 : decode cX7_sees 24 = .ok (.iconst (-1), 1) := by decide +kernel
theorem dX7_sees_25 : decode cX7_sees 25 = .ok (.ireturn, 1) := by decide +kernel
theorem dX7_sees_26 : decode cX7_sees 26 = .ok (.aload_n 0, 1) := by decide +kernel
theorem dX7_sees_27 : decode cX7_sees 27 = .ok (.getfield 40, 3) := by decide +kernel
theorem dX7_sees_30 : decode cX7_sees 30 = .ok (.iload_n 1, 1) := by decide +kernel
theorem dX7_sees_31 : decode cX7_sees 31 = .ok (.iload_n 2, 1) := by decide +kernel
theorem dX7_sees_32 : decode cX7_sees 32 = .ok (.iload_n 3, 1) := by decide +kernel
theorem dX7_sees_33 : decode cX7_sees 33 = .ok (.invokevirtual 212, 3) := by decide +kernel
theorem dX7_sees_36 : decode cX7_sees 36 = .ok (.ifCond .eq 13, 3) := by decide +kernel
theorem dX7_sees_39 : decode cX7_sees 39 = .ok (.aload_n 0, 1) := by decide +kernel
theorem dX7_sees_40 : decode cX7_sees 40 = .ok (.getfield 40, 3) := by decide +kernel
theorem dX7_sees_43 : decode cX7_sees 43 = .ok (.getfield 99, 3) := by decide +kernel
theorem dX7_sees_46 : decode cX7_sees 46 = .ok (.goto 5, 3) := by decide +kernel
theorem dX7_sees_49 : decode cX7_sees 49 = .ok (.bipush (-3), 2) := by decide +kernel
theorem dX7_sees_51 : decode cX7_sees 51 = .ok (.ireturn, 1) := by decide +kernel
theorem dX7_forget_0 : decode cX7_forget 0 = .ok (.aload_n 0, 1) := by decide +kernel
theorem dX7_forget_1 : decode cX7_forget 1 = .ok (.getfield 40, 3) := by decide +kernel
theorem dX7_forget_4 : decode cX7_forget 4 = .ok (.getfield 99, 3) := by decide +kernel
theorem dX7_forget_7 : decode cX7_forget 7 = .ok (.istore_n 1, 1) := by decide +kernel
theorem dX7_forget_8 : decode cX7_forget 8 = .ok (.aload_n 0, 1) := by decide +kernel
theorem dX7_forget_9 : decode cX7_forget 9 = .ok (.getfield 40, 3) := by decide +kernel
theorem dX7_forget_12 : decode cX7_forget 12 = .ok (.iconst 0, 1) := by decide +kernel
theorem dX7_forget_13 : decode cX7_forget 13 = .ok (.putfield 99, 3) := by decide +kernel
theorem dX7_forget_16 : decode cX7_forget 16 = .ok (.iload_n 1, 1) := by decide +kernel
theorem dX7_forget_17 : decode cX7_forget 17 = .ok (.ireturn, 1) := by decide +kernel
theorem dX7_unseen_0 : decode cX7_unseen 0 = .ok (.iload_n 1, 1) := by decide +kernel
theorem dX7_unseen_1 : decode cX7_unseen 1 = .ok (.iconst 1, 1) := by decide +kernel
theorem dX7_unseen_2 : decode cX7_unseen 2 = .ok (.if_icmp .eq 10, 3) := by decide +kernel
theorem dX7_unseen_5 : decode cX7_unseen 5 = .ok (.iload_n 1, 1) := by decide +kernel
theorem dX7_unseen_6 : decode cX7_unseen 6 = .ok (.iconst 2, 1) := by decide +kernel
theorem dX7_unseen_7 : decode cX7_unseen 7 = .ok (.if_icmp .eq 5, 3) := by decide +kernel
theorem dX7_unseen_10 : decode cX7_unseen 10 = .ok (.iconst (-1), 1) := by decide +kernel
theorem dX7_unseen_11 : decode cX7_unseen 11 = .ok (.ireturn, 1) := by decide +kernel
theorem dX7_unseen_12 : decode cX7_unseen 12 = .ok (.aload_n 0, 1) := by decide +kernel
theorem dX7_unseen_13 : decode cX7_unseen 13 = .ok (.getfield 49, 3) := by decide +kernel
theorem dX7_unseen_16 : decode cX7_unseen 16 = .ok (.invokevirtual 157, 3) := by decide +kernel
theorem dX7_unseen_19 : decode cX7_unseen 19 = .ok (.iconst 0, 1) := by decide +kernel
theorem dX7_unseen_20 : decode cX7_unseen 20 = .ok (.istore_n 2, 1) := by decide +kernel
theorem dX7_unseen_21 : decode cX7_unseen 21 = .ok (.iconst 0, 1) := by decide +kernel
theorem dX7_unseen_22 : decode cX7_unseen 22 = .ok (.istore_n 3, 1) := by decide +kernel
theorem dX7_unseen_23 : decode cX7_unseen 23 = .ok (.iload_n 3, 1) := by decide +kernel
theorem dX7_unseen_24 : decode cX7_unseen 24 = .ok (.aload_n 0, 1) := by decide +kernel
theorem dX7_unseen_25 : decode cX7_unseen 25 = .ok (.getfield 19, 3) := by decide +kernel
theorem dX7_unseen_28 : decode cX7_unseen 28 = .ok (.getfield 183, 3) := by decide +kernel
theorem dX7_unseen_31 : decode cX7_unseen 31 = .ok (.if_icmp .ge 99, 3) := by decide +kernel
theorem dX7_unseen_34 : decode cX7_unseen 34 = .ok (.aload_n 0, 1) := by decide +kernel
theorem dX7_unseen_35 : decode cX7_unseen 35 = .ok (.getfield 49, 3) := by decide +kernel
theorem dX7_unseen_38 : decode cX7_unseen 38 = .ok (.iload_n 3, 1) := by decide +kernel
theorem dX7_unseen_39 : decode cX7_unseen 39 = .ok (.aload_n 0, 1) := by decide +kernel
theorem dX7_unseen_40 : decode cX7_unseen 40 = .ok (.getfield 26, 3) := by decide +kernel
theorem dX7_unseen_43 : decode cX7_unseen 43 = .ok (.getfield 120, 3) := by decide +kernel
theorem dX7_unseen_46 : decode cX7_unseen 46 = .ok (.iload_n 3, 1) := by decide +kernel
theorem dX7_unseen_47 : decode cX7_unseen 47 = .ok (.iaload, 1) := by decide +kernel
theorem dX7_unseen_48 : decode cX7_unseen 48 = .ok (.aload_n 0, 1) := by decide +kernel
theorem dX7_unseen_49 : decode cX7_unseen 49 = .ok (.getfield 26, 3) := by decide +kernel
theorem dX7_unseen_52 : decode cX7_unseen 52 = .ok (.getfield 123, 3) := by decide +kernel
theorem dX7_unseen_55 : decode cX7_unseen 55 = .ok (.iload_n 3, 1) := by decide +kernel
theorem dX7_unseen_56 : decode cX7_unseen 56 = .ok (.iaload, 1) := by decide +kernel
theorem dX7_unseen_57 : decode cX7_unseen 57 = .ok (.iload_n 1, 1) := by decide +kernel
theorem dX7_unseen_58 : decode cX7_unseen 58 = .ok (.invokevirtual 214, 3) := by decide +kernel
theorem dX7_unseen_61 : decode cX7_unseen 61 = .ok (.aload_n 0, 1) := by decide +kernel
theorem dX7_unseen_62 : decode cX7_unseen 62 = .ok (.getfield 49, 3) := by decide +kernel
theorem dX7_unseen_65 : decode cX7_unseen 65 = .ok (.iconst 0, 1) := by decide +kernel
theorem dX7_unseen_66 : decode cX7_unseen 66 = .ok (.invokevirtual 217, 3) := by decide +kernel
theorem dX7_unseen_69 : decode cX7_unseen 69 = .ok (.aload_n 0, 1) := by decide +kernel
theorem dX7_unseen_70 : decode cX7_unseen 70 = .ok (.getfield 40, 3) := by decide +kernel
theorem dX7_unseen_73 : decode cX7_unseen 73 = .ok (.aload_n 0, 1) := by decide +kernel
theorem dX7_unseen_74 : decode cX7_unseen 74 = .ok (.getfield 49, 3) := by decide +kernel
theorem dX7_unseen_77 : decode cX7_unseen 77 = .ok (.invokevirtual 221, 3) := by decide +kernel
theorem dX7_unseen_80 : decode cX7_unseen 80 = .ok (.ifCond .eq 9, 3) := by decide +kernel
theorem dX7_unseen_83 : decode cX7_unseen 83 = .ok (.iload_n 2, 1) := by decide +kernel
theorem dX7_unseen_84 : decode cX7_unseen 84 = .ok (.iconst 1, 1) := by decide +kernel
theorem dX7_unseen_85 : decode cX7_unseen 85 = .ok (.iload_n 3, 1) := by decide +kernel
theorem dX7_unseen_86 : decode cX7_unseen 86 = .ok (.ishl, 1) := by decide +kernel
theorem dX7_unseen_87 : decode cX7_unseen 87 = .ok (.ior, 1) := by decide +kernel
theorem dX7_unseen_88 : decode cX7_unseen 88 = .ok (.istore_n 2, 1) := by decide +kernel
theorem dX7_unseen_89 : decode cX7_unseen 89 = .ok (.aload_n 0, 1) := by decide +kernel
theorem dX7_unseen_90 : decode cX7_unseen 90 = .ok (.getfield 49, 3) := by decide +kernel
theorem dX7_unseen_93 : decode cX7_unseen 93 = .ok (.iload_n 3, 1) := by decide +kernel
theorem dX7_unseen_94 : decode cX7_unseen 94 = .ok (.aload_n 0, 1) := by decide +kernel
theorem dX7_unseen_95 : decode cX7_unseen 95 = .ok (.getfield 26, 3) := by decide +kernel
theorem dX7_unseen_98 : decode cX7_unseen 98 = .ok (.getfield 120, 3) := by decide +kernel
theorem dX7_unseen_101 : decode cX7_unseen 101 = .ok (.iload_n 3, 1) := by decide +kernel
theorem dX7_unseen_102 : decode cX7_unseen 102 = .ok (.iaload, 1) := by decide +kernel
theorem dX7_unseen_103 : decode cX7_unseen 103 = .ok (.aload_n 0, 1) := by decide +kernel
theorem dX7_unseen_104 : decode cX7_unseen 104 = .ok (.getfield 26, 3) := by decide +kernel
theorem dX7_unseen_107 : decode cX7_unseen 107 = .ok (.getfield 123, 3) := by decide +kernel
theorem dX7_unseen_110 : decode cX7_unseen 110 = .ok (.iload_n 3, 1) := by decide +kernel
theorem dX7_unseen_111 : decode cX7_unseen 111 = .ok (.iaload, 1) := by decide +kernel
theorem dX7_unseen_112 : decode cX7_unseen 112 = .ok (.aload_n 0, 1) := by decide +kernel
theorem dX7_unseen_113 : decode cX7_unseen 113 = .ok (.getfield 26, 3) := by decide +kernel
theorem dX7_unseen_116 : decode cX7_unseen 116 = .ok (.getfield 126, 3) := by decide +kernel
theorem dX7_unseen_119 : decode cX7_unseen 119 = .ok (.iload_n 3, 1) := by decide +kernel
theorem dX7_unseen_120 : decode cX7_unseen 120 = .ok (.iaload, 1) := by decide +kernel
theorem dX7_unseen_121 : decode cX7_unseen 121 = .ok (.invokevirtual 214, 3) := by decide +kernel
theorem dX7_unseen_124 : decode cX7_unseen 124 = .ok (.iinc 3 1, 3) := by decide +kernel
theorem dX7_unseen_127 : decode cX7_unseen 127 = .ok (.goto (-104), 3) := by decide +kernel
theorem dX7_unseen_130 : decode cX7_unseen 130 = .ok (.iload_n 2, 1) := by decide +kernel
theorem dX7_unseen_131 : decode cX7_unseen 131 = .ok (.ireturn, 1) := by decide +kernel
theorem dX7_keep_0 : decode cX7_keep 0 = .ok (.iload_n 1, 1) := by decide +kernel
theorem dX7_keep_1 : decode cX7_keep 1 = .ok (.invokestatic 225, 3) := by decide +kernel
theorem dX7_keep_4 : decode cX7_keep 4 = .ok (.ifCond .ne 5, 3) := by decide +kernel
theorem dX7_keep_7 : decode cX7_keep 7 = .ok (.iconst (-1), 1) := by decide +kernel
theorem dX7_keep_8 : decode cX7_keep 8 = .ok (.ireturn, 1) := by decide +kernel
theorem dX7_keep_9 : decode cX7_keep 9 = .ok (.aload_n 0, 1) := by decide +kernel
theorem dX7_keep_10 : decode cX7_keep 10 = .ok (.getfield 62, 3) := by decide +kernel
theorem dX7_keep_13 : decode cX7_keep 13 = .ok (.iload_n 1, 1) := by decide +kernel
theorem dX7_keep_14 : decode cX7_keep 14 = .ok (.aaload, 1) := by decide +kernel
theorem dX7_keep_15 : decode cX7_keep 15 = .ok (.aload_n 0, 1) := by decide +kernel
theorem dX7_keep_16 : decode cX7_keep 16 = .ok (.getfield 26, 3) := by decide +kernel
theorem dX7_keep_19 : decode cX7_keep 19 = .ok (.invokevirtual 228, 3) := by decide +kernel
theorem dX7_keep_22 : decode cX7_keep 22 = .ok (.aload_n 0, 1) := by decide +kernel
theorem dX7_keep_23 : decode cX7_keep 23 = .ok (.getfield 66, 3) := by decide +kernel
theorem dX7_keep_26 : decode cX7_keep 26 = .ok (.iload_n 1, 1) := by decide +kernel
theorem dX7_keep_27 : decode cX7_keep 27 = .ok (.iconst 1, 1) := by decide +kernel
theorem dX7_keep_28 : decode cX7_keep 28 = .ok (.bastore, 1) := by decide +kernel
theorem dX7_keep_29 : decode cX7_keep 29 = .ok (.aload_n 0, 1) := by decide +kernel
theorem dX7_keep_30 : decode cX7_keep 30 = .ok (.getfield 19, 3) := by decide +kernel
theorem dX7_keep_33 : decode cX7_keep 33 = .ok (.getfield 183, 3) := by decide +kernel
theorem dX7_keep_36 : decode cX7_keep 36 = .ok (.ireturn, 1) := by decide +kernel
theorem dX7_back_0 : decode cX7_back 0 = .ok (.iload_n 1, 1) := by decide +kernel
theorem dX7_back_1 : decode cX7_back 1 = .ok (.invokestatic 225, 3) := by decide +kernel
theorem dX7_back_4 : decode cX7_back 4 = .ok (.ifCond .ne 5, 3) := by decide +kernel
theorem dX7_back_7 : decode cX7_back 7 = .ok (.iconst (-1), 1) := by decide +kernel
theorem dX7_back_8 : decode cX7_back 8 = .ok (.ireturn, 1) := by decide +kernel
theorem dX7_back_9 : decode cX7_back 9 = .ok (.aload_n 0, 1) := by decide +kernel
theorem dX7_back_10 : decode cX7_back 10 = .ok (.getfield 66, 3) := by decide +kernel
theorem dX7_back_13 : decode cX7_back 13 = .ok (.iload_n 1, 1) := by decide +kernel
theorem dX7_back_14 : decode cX7_back 14 = .ok (.baload, 1) := by decide +kernel
theorem dX7_back_15 : decode cX7_back 15 = .ok (.ifCond .ne 6, 3) := by decide +kernel
theorem dX7_back_18 : decode cX7_back 18 = .ok (.bipush (-2), 2) := by decide +kernel
theorem dX7_back_20 : decode cX7_back 20 = .ok (.ireturn, 1) := by decide +kernel
theorem dX7_back_21 : decode cX7_back 21 = .ok (.aload_n 0, 1) := by decide +kernel
theorem dX7_back_22 : decode cX7_back 22 = .ok (.getfield 26, 3) := by decide +kernel
theorem dX7_back_25 : decode cX7_back 25 = .ok (.aload_n 0, 1) := by decide +kernel
theorem dX7_back_26 : decode cX7_back 26 = .ok (.getfield 62, 3) := by decide +kernel
theorem dX7_back_29 : decode cX7_back 29 = .ok (.iload_n 1, 1) := by decide +kernel
theorem dX7_back_30 : decode cX7_back 30 = .ok (.aaload, 1) := by decide +kernel
theorem dX7_back_31 : decode cX7_back 31 = .ok (.invokevirtual 228, 3) := by decide +kernel
theorem dX7_back_34 : decode cX7_back 34 = .ok (.aload_n 0, 1) := by decide +kernel
theorem dX7_back_35 : decode cX7_back 35 = .ok (.getfield 33, 3) := by decide +kernel
theorem dX7_back_38 : decode cX7_back 38 = .ok (.iconst 0, 1) := by decide +kernel
theorem dX7_back_39 : decode cX7_back 39 = .ok (.putfield 96, 3) := by decide +kernel
theorem dX7_back_42 : decode cX7_back 42 = .ok (.aload_n 0, 1) := by decide +kernel
theorem dX7_back_43 : decode cX7_back 43 = .ok (.getfield 19, 3) := by decide +kernel
theorem dX7_back_46 : decode cX7_back 46 = .ok (.getfield 183, 3) := by decide +kernel
theorem dX7_back_49 : decode cX7_back 49 = .ok (.ireturn, 1) := by decide +kernel
theorem dX7_count_0 : decode cX7_count 0 = .ok (.iload_n 1, 1) := by decide +kernel
theorem dX7_count_1 : decode cX7_count 1 = .ok (.tableswitch 105 0 7 #[47, 55, 63, 71, 76, 81, 89, 97], 47) := by decide +kernel
theorem dX7_count_48 : decode cX7_count 48 = .ok (.aload_n 0, 1) := by decide +kernel
theorem dX7_count_49 : decode cX7_count 49 = .ok (.getfield 19, 3) := by decide +kernel
theorem dX7_count_52 : decode cX7_count 52 = .ok (.getfield 230, 3) := by decide +kernel
theorem dX7_count_55 : decode cX7_count 55 = .ok (.ireturn, 1) := by decide +kernel
theorem dX7_count_56 : decode cX7_count 56 = .ok (.aload_n 0, 1) := by decide +kernel
theorem dX7_count_57 : decode cX7_count 57 = .ok (.getfield 19, 3) := by decide +kernel
theorem dX7_count_60 : decode cX7_count 60 = .ok (.getfield 183, 3) := by decide +kernel
theorem dX7_count_63 : decode cX7_count 63 = .ok (.ireturn, 1) := by decide +kernel
theorem dX7_count_64 : decode cX7_count 64 = .ok (.aload_n 0, 1) := by decide +kernel
theorem dX7_count_65 : decode cX7_count 65 = .ok (.getfield 19, 3) := by decide +kernel
theorem dX7_count_68 : decode cX7_count 68 = .ok (.getfield 233, 3) := by decide +kernel
theorem dX7_count_71 : decode cX7_count 71 = .ok (.ireturn, 1) := by decide +kernel
theorem dX7_count_72 : decode cX7_count 72 = .ok (.aload_n 0, 1) := by decide +kernel
theorem dX7_count_73 : decode cX7_count 73 = .ok (.invokevirtual 236, 3) := by decide +kernel
theorem dX7_count_76 : decode cX7_count 76 = .ok (.ireturn, 1) := by decide +kernel
theorem dX7_count_77 : decode cX7_count 77 = .ok (.aload_n 0, 1) := by decide +kernel
theorem dX7_count_78 : decode cX7_count 78 = .ok (.invokevirtual 239, 3) := by decide +kernel
theorem dX7_count_81 : decode cX7_count 81 = .ok (.ireturn, 1) := by decide +kernel
theorem dX7_count_82 : decode cX7_count 82 = .ok (.aload_n 0, 1) := by decide +kernel
theorem dX7_count_83 : decode cX7_count 83 = .ok (.getfield 40, 3) := by decide +kernel
theorem dX7_count_86 : decode cX7_count 86 = .ok (.getfield 99, 3) := by decide +kernel
theorem dX7_count_89 : decode cX7_count 89 = .ok (.ireturn, 1) := by decide +kernel
theorem dX7_count_90 : decode cX7_count 90 = .ok (.aload_n 0, 1) := by decide +kernel
theorem dX7_count_91 : decode cX7_count 91 = .ok (.getfield 10, 3) := by decide +kernel
theorem dX7_count_94 : decode cX7_count 94 = .ok (.getfield 78, 3) := by decide +kernel
theorem dX7_count_97 : decode cX7_count 97 = .ok (.ireturn, 1) := by decide +kernel
theorem dX7_count_98 : decode cX7_count 98 = .ok (.aload_n 0, 1) := by decide +kernel
theorem dX7_count_99 : decode cX7_count 99 = .ok (.getfield 33, 3) := by decide +kernel
theorem dX7_count_102 : decode cX7_count 102 = .ok (.getfield 96, 3) := by decide +kernel
theorem dX7_count_105 : decode cX7_count 105 = .ok (.ireturn, 1) := by decide +kernel
theorem dX7_count_106 : decode cX7_count 106 = .ok (.iconst (-1), 1) := by decide +kernel
theorem dX7_count_107 : decode cX7_count 107 = .ok (.ireturn, 1) := by decide +kernel
theorem dX7_isContact_0 : decode cX7_isContact 0 = .ok (.iload_n 1, 1) := by decide +kernel
theorem dX7_isContact_1 : decode cX7_isContact 1 = .ok (.ifCond .lt 18, 3) := by decide +kernel
theorem dX7_isContact_4 : decode cX7_isContact 4 = .ok (.iload_n 1, 1) := by decide +kernel
theorem dX7_isContact_5 : decode cX7_isContact 5 = .ok (.aload_n 0, 1) := by decide +kernel
theorem dX7_isContact_6 : decode cX7_isContact 6 = .ok (.getfield 19, 3) := by decide +kernel
theorem dX7_isContact_9 : decode cX7_isContact 9 = .ok (.getfield 183, 3) := by decide +kernel
theorem dX7_isContact_12 : decode cX7_isContact 12 = .ok (.if_icmp .ge 7, 3) := by decide +kernel
theorem dX7_isContact_15 : decode cX7_isContact 15 = .ok (.iconst 1, 1) := by decide +kernel
theorem dX7_isContact_16 : decode cX7_isContact 16 = .ok (.goto 4, 3) := by decide +kernel
theorem dX7_isContact_19 : decode cX7_isContact 19 = .ok (.iconst 0, 1) := by decide +kernel
theorem dX7_isContact_20 : decode cX7_isContact 20 = .ok (.ireturn, 1) := by decide +kernel
theorem dX7_isLoad_0 : decode cX7_isLoad 0 = .ok (.iload_n 1, 1) := by decide +kernel
theorem dX7_isLoad_1 : decode cX7_isLoad 1 = .ok (.ifCond .lt 18, 3) := by decide +kernel
theorem dX7_isLoad_4 : decode cX7_isLoad 4 = .ok (.iload_n 1, 1) := by decide +kernel
theorem dX7_isLoad_5 : decode cX7_isLoad 5 = .ok (.aload_n 0, 1) := by decide +kernel
theorem dX7_isLoad_6 : decode cX7_isLoad 6 = .ok (.getfield 19, 3) := by decide +kernel
theorem dX7_isLoad_9 : decode cX7_isLoad 9 = .ok (.getfield 233, 3) := by decide +kernel
theorem dX7_isLoad_12 : decode cX7_isLoad 12 = .ok (.if_icmp .ge 7, 3) := by decide +kernel
theorem dX7_isLoad_15 : decode cX7_isLoad 15 = .ok (.iconst 1, 1) := by decide +kernel
theorem dX7_isLoad_16 : decode cX7_isLoad 16 = .ok (.goto 4, 3) := by decide +kernel
theorem dX7_isLoad_19 : decode cX7_isLoad 19 = .ok (.iconst 0, 1) := by decide +kernel
theorem dX7_isLoad_20 : decode cX7_isLoad 20 = .ok (.ireturn, 1) := by decide +kernel
theorem dX7_isState_0 : decode cX7_isState 0 = .ok (.iload_n 0, 1) := by decide +kernel
theorem dX7_isState_1 : decode cX7_isState 1 = .ok (.ifCond .lt 13, 3) := by decide +kernel
theorem dX7_isState_4 : decode cX7_isState 4 = .ok (.iload_n 0, 1) := by decide +kernel
theorem dX7_isState_5 : decode cX7_isState 5 = .ok (.bipush 16, 2) := by decide +kernel
theorem dX7_isState_7 : decode cX7_isState 7 = .ok (.if_icmp .ge 7, 3) := by decide +kernel
theorem dX7_isState_10 : decode cX7_isState 10 = .ok (.iconst 1, 1) := by decide +kernel
theorem dX7_isState_11 : decode cX7_isState 11 = .ok (.goto 4, 3) := by decide +kernel
theorem dX7_isState_14 : decode cX7_isState 14 = .ok (.iconst 0, 1) := by decide +kernel
theorem dX7_isState_15 : decode cX7_isState 15 = .ok (.ireturn, 1) := by decide +kernel
theorem dX7_isImage_0 : decode cX7_isImage 0 = .ok (.iload_n 0, 1) := by decide +kernel
theorem dX7_isImage_1 : decode cX7_isImage 1 = .ok (.ifCond .lt 12, 3) := by decide +kernel
theorem dX7_isImage_4 : decode cX7_isImage 4 = .ok (.iload_n 0, 1) := by decide +kernel
theorem dX7_isImage_5 : decode cX7_isImage 5 = .ok (.iconst 2, 1) := by decide +kernel
theorem dX7_isImage_6 : decode cX7_isImage 6 = .ok (.if_icmp .ge 7, 3) := by decide +kernel
theorem dX7_isImage_9 : decode cX7_isImage 9 = .ok (.iconst 1, 1) := by decide +kernel
theorem dX7_isImage_10 : decode cX7_isImage 10 = .ok (.goto 4, 3) := by decide +kernel
theorem dX7_isImage_13 : decode cX7_isImage 13 = .ok (.iconst 0, 1) := by decide +kernel
theorem dX7_isImage_14 : decode cX7_isImage 14 = .ok (.ireturn, 1) := by decide +kernel
theorem dX7_hasBit_0 : decode cX7_hasBit 0 = .ok (.iload_n 0, 1) := by decide +kernel
theorem dX7_hasBit_1 : decode cX7_hasBit 1 = .ok (.iload_n 1, 1) := by decide +kernel
theorem dX7_hasBit_2 : decode cX7_hasBit 2 = .ok (.ishr, 1) := by decide +kernel
theorem dX7_hasBit_3 : decode cX7_hasBit 3 = .ok (.iconst 1, 1) := by decide +kernel
theorem dX7_hasBit_4 : decode cX7_hasBit 4 = .ok (.iand, 1) := by decide +kernel
theorem dX7_hasBit_5 : decode cX7_hasBit 5 = .ok (.ifCond .eq 7, 3) := by decide +kernel
theorem dX7_hasBit_8 : decode cX7_hasBit 8 = .ok (.iconst 1, 1) := by decide +kernel
theorem dX7_hasBit_9 : decode cX7_hasBit 9 = .ok (.goto 4, 3) := by decide +kernel
theorem dX7_hasBit_12 : decode cX7_hasBit 12 = .ok (.iconst 0, 1) := by decide +kernel
theorem dX7_hasBit_13 : decode cX7_hasBit 13 = .ok (.ireturn, 1) := by decide +kernel
theorem dX7_choicesOfSwitch_0 : decode cX7_choicesOfSwitch 0 = .ok (.iload_n 0, 1) := by decide +kernel
theorem dX7_choicesOfSwitch_1 : decode cX7_choicesOfSwitch 1 = .ok (.iconst 1, 1) := by decide +kernel
theorem dX7_choicesOfSwitch_2 : decode cX7_choicesOfSwitch 2 = .ok (.if_icmp .gt 7, 3) := by decide +kernel
theorem dX7_choicesOfSwitch_5 : decode cX7_choicesOfSwitch 5 = .ok (.iconst 4, 1) := by decide +kernel
theorem dX7_choicesOfSwitch_6 : decode cX7_choicesOfSwitch 6 = .ok (.goto 4, 3) := by decide +kernel
theorem dX7_choicesOfSwitch_9 : decode cX7_choicesOfSwitch 9 = .ok (.iconst 1, 1) := by decide +kernel
theorem dX7_choicesOfSwitch_10 : decode cX7_choicesOfSwitch 10 = .ok (.ireturn, 1) := by decide +kernel
theorem dX7_wishWhatIsFed_0 : decode cX7_wishWhatIsFed 0 = .ok (.aload_n 0, 1) := by decide +kernel
theorem dX7_wishWhatIsFed_1 : decode cX7_wishWhatIsFed 1 = .ok (.getfield 49, 3) := by decide +kernel
theorem dX7_wishWhatIsFed_4 : decode cX7_wishWhatIsFed 4 = .ok (.invokevirtual 157, 3) := by decide +kernel
theorem dX7_wishWhatIsFed_7 : decode cX7_wishWhatIsFed 7 = .ok (.aload_n 0, 1) := by decide +kernel
theorem dX7_wishWhatIsFed_8 : decode cX7_wishWhatIsFed 8 = .ok (.getfield 49, 3) := by decide +kernel
theorem dX7_wishWhatIsFed_11 : decode cX7_wishWhatIsFed 11 = .ok (.iconst 0, 1) := by decide +kernel
theorem dX7_wishWhatIsFed_12 : decode cX7_wishWhatIsFed 12 = .ok (.invokevirtual 217, 3) := by decide +kernel
theorem dX7_wishWhatIsFed_15 : decode cX7_wishWhatIsFed 15 = .ok (.iconst 0, 1) := by decide +kernel
theorem dX7_wishWhatIsFed_16 : decode cX7_wishWhatIsFed 16 = .ok (.istore_n 1, 1) := by decide +kernel
theorem dX7_wishWhatIsFed_17 : decode cX7_wishWhatIsFed 17 = .ok (.iload_n 1, 1) := by decide +kernel
theorem dX7_wishWhatIsFed_18 : decode cX7_wishWhatIsFed 18 = .ok (.aload_n 0, 1) := by decide +kernel
theorem dX7_wishWhatIsFed_19 : decode cX7_wishWhatIsFed 19 = .ok (.getfield 19, 3) := by decide +kernel
theorem dX7_wishWhatIsFed_22 : decode cX7_wishWhatIsFed 22 = .ok (.getfield 233, 3) := by decide +kernel
theorem dX7_wishWhatIsFed_25 : decode cX7_wishWhatIsFed 25 = .ok (.if_icmp .ge 26, 3) := by decide +kernel
theorem dX7_wishWhatIsFed_28 : decode cX7_wishWhatIsFed 28 = .ok (.aload_n 0, 1) := by decide +kernel
theorem dX7_wishWhatIsFed_29 : decode cX7_wishWhatIsFed 29 = .ok (.getfield 26, 3) := by decide +kernel
theorem dX7_wishWhatIsFed_32 : decode cX7_wishWhatIsFed 32 = .ok (.getfield 139, 3) := by decide +kernel
theorem dX7_wishWhatIsFed_35 : decode cX7_wishWhatIsFed 35 = .ok (.iload_n 1, 1) := by decide +kernel
theorem dX7_wishWhatIsFed_36 : decode cX7_wishWhatIsFed 36 = .ok (.aload_n 0, 1) := by decide +kernel
theorem dX7_wishWhatIsFed_37 : decode cX7_wishWhatIsFed 37 = .ok (.getfield 49, 3) := by decide +kernel
theorem dX7_wishWhatIsFed_40 : decode cX7_wishWhatIsFed 40 = .ok (.iload_n 1, 1) := by decide +kernel
theorem dX7_wishWhatIsFed_41 : decode cX7_wishWhatIsFed 41 = .ok (.invokevirtual 242, 3) := by decide +kernel
theorem dX7_wishWhatIsFed_44 : decode cX7_wishWhatIsFed 44 = .ok (.iastore, 1) := by decide +kernel
theorem dX7_wishWhatIsFed_45 : decode cX7_wishWhatIsFed 45 = .ok (.iinc 1 1, 3) := by decide +kernel
theorem dX7_wishWhatIsFed_48 : decode cX7_wishWhatIsFed 48 = .ok (.goto (-31), 3) := by decide +kernel
theorem dX7_wishWhatIsFed_51 : decode cX7_wishWhatIsFed 51 = .ok (.return_, 1) := by decide +kernel
theorem dX7_fedNow_0 : decode cX7_fedNow 0 = .ok (.aload_n 0, 1) := by decide +kernel
theorem dX7_fedNow_1 : decode cX7_fedNow 1 = .ok (.getfield 49, 3) := by decide +kernel
theorem dX7_fedNow_4 : decode cX7_fedNow 4 = .ok (.invokevirtual 157, 3) := by decide +kernel
theorem dX7_fedNow_7 : decode cX7_fedNow 7 = .ok (.aload_n 0, 1) := by decide +kernel
theorem dX7_fedNow_8 : decode cX7_fedNow 8 = .ok (.getfield 49, 3) := by decide +kernel
theorem dX7_fedNow_11 : decode cX7_fedNow 11 = .ok (.iconst 0, 1) := by decide +kernel
theorem dX7_fedNow_12 : decode cX7_fedNow 12 = .ok (.invokevirtual 217, 3) := by decide +kernel
theorem dX7_fedNow_15 : decode cX7_fedNow 15 = .ok (.aload_n 0, 1) := by decide +kernel
theorem dX7_fedNow_16 : decode cX7_fedNow 16 = .ok (.getfield 49, 3) := by decide +kernel
theorem dX7_fedNow_19 : decode cX7_fedNow 19 = .ok (.iload_n 1, 1) := by decide +kernel
theorem dX7_fedNow_20 : decode cX7_fedNow 20 = .ok (.invokevirtual 242, 3) := by decide +kernel
theorem dX7_fedNow_23 : decode cX7_fedNow 23 = .ok (.ireturn, 1) := by decide +kernel
theorem dX7_howManyPaths_0 : decode cX7_howManyPaths 0 = .ok (.aload_n 0, 1) := by decide +kernel
theorem dX7_howManyPaths_1 : decode cX7_howManyPaths 1 = .ok (.getfield 49, 3) := by decide +kernel
theorem dX7_howManyPaths_4 : decode cX7_howManyPaths 4 = .ok (.invokevirtual 157, 3) := by decide +kernel
theorem dX7_howManyPaths_7 : decode cX7_howManyPaths 7 = .ok (.aload_n 0, 1) := by decide +kernel
theorem dX7_howManyPaths_8 : decode cX7_howManyPaths 8 = .ok (.getfield 58, 3) := by decide +kernel
theorem dX7_howManyPaths_11 : decode cX7_howManyPaths 11 = .ok (.iload_n 1, 1) := by decide +kernel
theorem dX7_howManyPaths_12 : decode cX7_howManyPaths 12 = .ok (.bipush (-9), 2) := by decide +kernel
theorem dX7_howManyPaths_14 : decode cX7_howManyPaths 14 = .ok (.bipush (-9), 2) := by decide +kernel
theorem dX7_howManyPaths_16 : decode cX7_howManyPaths 16 = .ok (.invokevirtual 160, 3) := by decide +kernel
theorem dX7_howManyPaths_19 : decode cX7_howManyPaths 19 = .ok (.aload_n 0, 1) := by decide +kernel
theorem dX7_howManyPaths_20 : decode cX7_howManyPaths 20 = .ok (.getfield 58, 3) := by decide +kernel
theorem dX7_howManyPaths_23 : decode cX7_howManyPaths 23 = .ok (.getfield 164, 3) := by decide +kernel
theorem dX7_howManyPaths_26 : decode cX7_howManyPaths 26 = .ok (.ireturn, 1) := by decide +kernel
theorem dX7_loadsThatSneak_0 : decode cX7_loadsThatSneak 0 = .ok (.iconst 0, 1) := by decide +kernel
theorem dX7_loadsThatSneak_1 : decode cX7_loadsThatSneak 1 = .ok (.istore_n 1, 1) := by decide +kernel
theorem dX7_loadsThatSneak_2 : decode cX7_loadsThatSneak 2 = .ok (.iconst 0, 1) := by decide +kernel
theorem dX7_loadsThatSneak_3 : decode cX7_loadsThatSneak 3 = .ok (.istore_n 2, 1) := by decide +kernel
theorem dX7_loadsThatSneak_4 : decode cX7_loadsThatSneak 4 = .ok (.iload_n 2, 1) := by decide +kernel
theorem dX7_loadsThatSneak_5 : decode cX7_loadsThatSneak 5 = .ok (.aload_n 0, 1) := by decide +kernel
theorem dX7_loadsThatSneak_6 : decode cX7_loadsThatSneak 6 = .ok (.getfield 19, 3) := by decide +kernel
theorem dX7_loadsThatSneak_9 : decode cX7_loadsThatSneak 9 = .ok (.getfield 233, 3) := by decide +kernel
theorem dX7_loadsThatSneak_12 : decode cX7_loadsThatSneak 12 = .ok (.if_icmp .ge 32, 3) := by decide +kernel
theorem dX7_loadsThatSneak_15 : decode cX7_loadsThatSneak 15 = .ok (.aload_n 0, 1) := by decide +kernel
theorem dX7_loadsThatSneak_16 : decode cX7_loadsThatSneak 16 = .ok (.iload_n 2, 1) := by decide +kernel
theorem dX7_loadsThatSneak_17 : decode cX7_loadsThatSneak 17 = .ok (.invokevirtual 135, 3) := by decide +kernel
theorem dX7_loadsThatSneak_20 : decode cX7_loadsThatSneak 20 = .ok (.aload_n 0, 1) := by decide +kernel
theorem dX7_loadsThatSneak_21 : decode cX7_loadsThatSneak 21 = .ok (.getfield 26, 3) := by decide +kernel
theorem dX7_loadsThatSneak_24 : decode cX7_loadsThatSneak 24 = .ok (.getfield 139, 3) := by decide +kernel
theorem dX7_loadsThatSneak_27 : decode cX7_loadsThatSneak 27 = .ok (.iload_n 2, 1) := by decide +kernel
theorem dX7_loadsThatSneak_28 : decode cX7_loadsThatSneak 28 = .ok (.iaload, 1) := by decide +kernel
theorem dX7_loadsThatSneak_29 : decode cX7_loadsThatSneak 29 = .ok (.iconst (-1), 1) := by decide +kernel
theorem dX7_loadsThatSneak_30 : decode cX7_loadsThatSneak 30 = .ok (.ixor, 1) := by decide +kernel
theorem dX7_loadsThatSneak_31 : decode cX7_loadsThatSneak 31 = .ok (.iand, 1) := by decide +kernel
theorem dX7_loadsThatSneak_32 : decode cX7_loadsThatSneak 32 = .ok (.ifCond .eq 6, 3) := by decide +kernel
theorem dX7_loadsThatSneak_35 : decode cX7_loadsThatSneak 35 = .ok (.iinc 1 1, 3) := by decide +kernel
theorem dX7_loadsThatSneak_38 : decode cX7_loadsThatSneak 38 = .ok (.iinc 2 1, 3) := by decide +kernel
theorem dX7_loadsThatSneak_41 : decode cX7_loadsThatSneak 41 = .ok (.goto (-37), 3) := by decide +kernel
theorem dX7_loadsThatSneak_44 : decode cX7_loadsThatSneak 44 = .ok (.iload_n 1, 1) := by decide +kernel
theorem dX7_loadsThatSneak_45 : decode cX7_loadsThatSneak 45 = .ok (.ireturn, 1) := by decide +kernel
theorem dX7_loadsThatMiss_0 : decode cX7_loadsThatMiss 0 = .ok (.iconst 0, 1) := by decide +kernel
theorem dX7_loadsThatMiss_1 : decode cX7_loadsThatMiss 1 = .ok (.istore_n 1, 1) := by decide +kernel
theorem dX7_loadsThatMiss_2 : decode cX7_loadsThatMiss 2 = .ok (.iconst 0, 1) := by decide +kernel
theorem dX7_loadsThatMiss_3 : decode cX7_loadsThatMiss 3 = .ok (.istore_n 2, 1) := by decide +kernel
theorem dX7_loadsThatMiss_4 : decode cX7_loadsThatMiss 4 = .ok (.iload_n 2, 1) := by decide +kernel
theorem dX7_loadsThatMiss_5 : decode cX7_loadsThatMiss 5 = .ok (.aload_n 0, 1) := by decide +kernel
theorem dX7_loadsThatMiss_6 : decode cX7_loadsThatMiss 6 = .ok (.getfield 19, 3) := by decide +kernel
theorem dX7_loadsThatMiss_9 : decode cX7_loadsThatMiss 9 = .ok (.getfield 233, 3) := by decide +kernel
theorem dX7_loadsThatMiss_12 : decode cX7_loadsThatMiss 12 = .ok (.if_icmp .ge 32, 3) := by decide +kernel
theorem dX7_loadsThatMiss_15 : decode cX7_loadsThatMiss 15 = .ok (.aload_n 0, 1) := by decide +kernel
theorem dX7_loadsThatMiss_16 : decode cX7_loadsThatMiss 16 = .ok (.getfield 26, 3) := by decide +kernel
theorem dX7_loadsThatMiss_19 : decode cX7_loadsThatMiss 19 = .ok (.getfield 139, 3) := by decide +kernel
theorem dX7_loadsThatMiss_22 : decode cX7_loadsThatMiss 22 = .ok (.iload_n 2, 1) := by decide +kernel
theorem dX7_loadsThatMiss_23 : decode cX7_loadsThatMiss 23 = .ok (.iaload, 1) := by decide +kernel
theorem dX7_loadsThatMiss_24 : decode cX7_loadsThatMiss 24 = .ok (.aload_n 0, 1) := by decide +kernel
theorem dX7_loadsThatMiss_25 : decode cX7_loadsThatMiss 25 = .ok (.iload_n 2, 1) := by decide +kernel
theorem dX7_loadsThatMiss_26 : decode cX7_loadsThatMiss 26 = .ok (.invokevirtual 135, 3) := by decide +kernel
theorem dX7_loadsThatMiss_29 : decode cX7_loadsThatMiss 29 = .ok (.iconst (-1), 1) := by decide +kernel
theorem dX7_loadsThatMiss_30 : decode cX7_loadsThatMiss 30 = .ok (.ixor, 1) := by decide +kernel
theorem dX7_loadsThatMiss_31 : decode cX7_loadsThatMiss 31 = .ok (.iand, 1) := by decide +kernel
theorem dX7_loadsThatMiss_32 : decode cX7_loadsThatMiss 32 = .ok (.ifCond .eq 6, 3) := by decide +kernel
theorem dX7_loadsThatMiss_35 : decode cX7_loadsThatMiss 35 = .ok (.iinc 1 1, 3) := by decide +kernel
theorem dX7_loadsThatMiss_38 : decode cX7_loadsThatMiss 38 = .ok (.iinc 2 1, 3) := by decide +kernel
theorem dX7_loadsThatMiss_41 : decode cX7_loadsThatMiss 41 = .ok (.goto (-37), 3) := by decide +kernel
theorem dX7_loadsThatMiss_44 : decode cX7_loadsThatMiss 44 = .ok (.iload_n 1, 1) := by decide +kernel
theorem dX7_loadsThatMiss_45 : decode cX7_loadsThatMiss 45 = .ok (.ireturn, 1) := by decide +kernel
theorem dX7_noteMissing_0 : decode cX7_noteMissing 0 = .ok (.aload_n 0, 1) := by decide +kernel
theorem dX7_noteMissing_1 : decode cX7_noteMissing 1 = .ok (.getfield 49, 3) := by decide +kernel
theorem dX7_noteMissing_4 : decode cX7_noteMissing 4 = .ok (.invokevirtual 157, 3) := by decide +kernel
theorem dX7_noteMissing_7 : decode cX7_noteMissing 7 = .ok (.aload_n 0, 1) := by decide +kernel
theorem dX7_noteMissing_8 : decode cX7_noteMissing 8 = .ok (.getfield 49, 3) := by decide +kernel
theorem dX7_noteMissing_11 : decode cX7_noteMissing 11 = .ok (.iconst 0, 1) := by decide +kernel
theorem dX7_noteMissing_12 : decode cX7_noteMissing 12 = .ok (.invokevirtual 217, 3) := by decide +kernel
theorem dX7_noteMissing_15 : decode cX7_noteMissing 15 = .ok (.iconst 0, 1) := by decide +kernel
theorem dX7_noteMissing_16 : decode cX7_noteMissing 16 = .ok (.istore_n 1, 1) := by decide +kernel
theorem dX7_noteMissing_17 : decode cX7_noteMissing 17 = .ok (.iload_n 1, 1) := by decide +kernel
theorem dX7_noteMissing_18 : decode cX7_noteMissing 18 = .ok (.aload_n 0, 1) := by decide +kernel
theorem dX7_noteMissing_19 : decode cX7_noteMissing 19 = .ok (.getfield 19, 3) := by decide +kernel
theorem dX7_noteMissing_22 : decode cX7_noteMissing 22 = .ok (.getfield 233, 3) := by decide +kernel
theorem dX7_noteMissing_25 : decode cX7_noteMissing 25 = .ok (.if_icmp .ge 35, 3) := by decide +kernel
theorem dX7_noteMissing_28 : decode cX7_noteMissing 28 = .ok (.aload_n 0, 1) := by decide +kernel
theorem dX7_noteMissing_29 : decode cX7_noteMissing 29 = .ok (.getfield 70, 3) := by decide +kernel
theorem dX7_noteMissing_32 : decode cX7_noteMissing 32 = .ok (.iload_n 1, 1) := by decide +kernel
theorem dX7_noteMissing_33 : decode cX7_noteMissing 33 = .ok (.aload_n 0, 1) := by decide +kernel
theorem dX7_noteMissing_34 : decode cX7_noteMissing 34 = .ok (.getfield 26, 3) := by decide +kernel
theorem dX7_noteMissing_37 : decode cX7_noteMissing 37 = .ok (.getfield 139, 3) := by decide +kernel
theorem dX7_noteMissing_40 : decode cX7_noteMissing 40 = .ok (.iload_n 1, 1) := by decide +kernel
theorem dX7_noteMissing_41 : decode cX7_noteMissing 41 = .ok (.iaload, 1) := by decide +kernel
theorem dX7_noteMissing_42 : decode cX7_noteMissing 42 = .ok (.aload_n 0, 1) := by decide +kernel
theorem dX7_noteMissing_43 : decode cX7_noteMissing 43 = .ok (.getfield 49, 3) := by decide +kernel
theorem dX7_noteMissing_46 : decode cX7_noteMissing 46 = .ok (.iload_n 1, 1) := by decide +kernel
theorem dX7_noteMissing_47 : decode cX7_noteMissing 47 = .ok (.invokevirtual 242, 3) := by decide +kernel
theorem dX7_noteMissing_50 : decode cX7_noteMissing 50 = .ok (.iconst (-1), 1) := by decide +kernel
theorem dX7_noteMissing_51 : decode cX7_noteMissing 51 = .ok (.ixor, 1) := by decide +kernel
theorem dX7_noteMissing_52 : decode cX7_noteMissing 52 = .ok (.iand, 1) := by decide +kernel
theorem dX7_noteMissing_53 : decode cX7_noteMissing 53 = .ok (.iastore, 1) := by decide +kernel
theorem dX7_noteMissing_54 : decode cX7_noteMissing 54 = .ok (.iinc 1 1, 3) := by decide +kernel
theorem dX7_noteMissing_57 : decode cX7_noteMissing 57 = .ok (.goto (-40), 3) := by decide +kernel
theorem dX7_noteMissing_60 : decode cX7_noteMissing 60 = .ok (.return_, 1) := by decide +kernel
theorem dX7_isEnough_0 : decode cX7_isEnough 0 = .ok (.aload_n 0, 1) := by decide +kernel
theorem dX7_isEnough_1 : decode cX7_isEnough 1 = .ok (.getfield 49, 3) := by decide +kernel
theorem dX7_isEnough_4 : decode cX7_isEnough 4 = .ok (.iload_n 1, 1) := by decide +kernel
theorem dX7_isEnough_5 : decode cX7_isEnough 5 = .ok (.iload_n 2, 1) := by decide +kernel
theorem dX7_isEnough_6 : decode cX7_isEnough 6 = .ok (.iload_n 3, 1) := by decide +kernel
theorem dX7_isEnough_7 : decode cX7_isEnough 7 = .ok (.aload_n 0, 1) := by decide +kernel
theorem dX7_isEnough_8 : decode cX7_isEnough 8 = .ok (.getfield 26, 3) := by decide +kernel
theorem dX7_isEnough_11 : decode cX7_isEnough 11 = .ok (.getfield 126, 3) := by decide +kernel
theorem dX7_isEnough_14 : decode cX7_isEnough 14 = .ok (.iload_n 1, 1) := by decide +kernel
theorem dX7_isEnough_15 : decode cX7_isEnough 15 = .ok (.iaload, 1) := by decide +kernel
theorem dX7_isEnough_16 : decode cX7_isEnough 16 = .ok (.invokevirtual 214, 3) := by decide +kernel
theorem dX7_isEnough_19 : decode cX7_isEnough 19 = .ok (.aload_n 0, 1) := by decide +kernel
theorem dX7_isEnough_20 : decode cX7_isEnough 20 = .ok (.getfield 49, 3) := by decide +kernel
theorem dX7_isEnough_23 : decode cX7_isEnough 23 = .ok (.iconst 0, 1) := by decide +kernel
theorem dX7_isEnough_24 : decode cX7_isEnough 24 = .ok (.invokevirtual 217, 3) := by decide +kernel
theorem dX7_isEnough_27 : decode cX7_isEnough 27 = .ok (.iconst 1, 1) := by decide +kernel
theorem dX7_isEnough_28 : decode cX7_isEnough 28 = .ok (.istore 4, 2) := by decide +kernel
theorem dX7_isEnough_30 : decode cX7_isEnough 30 = .ok (.iconst 0, 1) := by decide +kernel
theorem dX7_isEnough_31 : decode cX7_isEnough 31 = .ok (.istore 5, 2) := by decide +kernel
theorem dX7_isEnough_33 : decode cX7_isEnough 33 = .ok (.iload 5, 2) := by decide +kernel
theorem dX7_isEnough_35 : decode cX7_isEnough 35 = .ok (.aload_n 0, 1) := by decide +kernel
theorem dX7_isEnough_36 : decode cX7_isEnough 36 = .ok (.getfield 19, 3) := by decide +kernel
theorem dX7_isEnough_39 : decode cX7_isEnough 39 = .ok (.getfield 233, 3) := by decide +kernel
theorem dX7_isEnough_42 : decode cX7_isEnough 42 = .ok (.if_icmp .ge 77, 3) := by decide +kernel
theorem dX7_isEnough_45 : decode cX7_isEnough 45 = .ok (.aload_n 0, 1) := by decide +kernel
theorem dX7_isEnough_46 : decode cX7_isEnough 46 = .ok (.getfield 49, 3) := by decide +kernel
theorem dX7_isEnough_49 : decode cX7_isEnough 49 = .ok (.iload 5, 2) := by decide +kernel
theorem dX7_isEnough_51 : decode cX7_isEnough 51 = .ok (.invokevirtual 242, 3) := by decide +kernel
theorem dX7_isEnough_54 : decode cX7_isEnough 54 = .ok (.istore 6, 2) := by decide +kernel
theorem dX7_isEnough_56 : decode cX7_isEnough 56 = .ok (.iload 6, 2) := by decide +kernel
theorem dX7_isEnough_58 : decode cX7_isEnough 58 = .ok (.aload_n 0, 1) := by decide +kernel
theorem dX7_isEnough_59 : decode cX7_isEnough 59 = .ok (.getfield 26, 3) := by decide +kernel
theorem dX7_isEnough_62 : decode cX7_isEnough 62 = .ok (.getfield 139, 3) := by decide +kernel
theorem dX7_isEnough_65 : decode cX7_isEnough 65 = .ok (.iload 5, 2) := by decide +kernel
theorem dX7_isEnough_67 : decode cX7_isEnough 67 = .ok (.iaload, 1) := by decide +kernel
theorem dX7_isEnough_68 : decode cX7_isEnough 68 = .ok (.iconst (-1), 1) := by decide +kernel
theorem dX7_isEnough_69 : decode cX7_isEnough 69 = .ok (.ixor, 1) := by decide +kernel
theorem dX7_isEnough_70 : decode cX7_isEnough 70 = .ok (.iand, 1) := by decide +kernel
theorem dX7_isEnough_71 : decode cX7_isEnough 71 = .ok (.istore 7, 2) := by decide +kernel
theorem dX7_isEnough_73 : decode cX7_isEnough 73 = .ok (.aload_n 0, 1) := by decide +kernel
theorem dX7_isEnough_74 : decode cX7_isEnough 74 = .ok (.getfield 26, 3) := by decide +kernel
theorem dX7_isEnough_77 : decode cX7_isEnough 77 = .ok (.getfield 139, 3) := by decide +kernel
theorem dX7_isEnough_80 : decode cX7_isEnough 80 = .ok (.iload 5, 2) := by decide +kernel
theorem dX7_isEnough_82 : decode cX7_isEnough 82 = .ok (.iaload, 1) := by decide +kernel
theorem dX7_isEnough_83 : decode cX7_isEnough 83 = .ok (.iload 6, 2) := by decide +kernel
theorem dX7_isEnough_85 : decode cX7_isEnough 85 = .ok (.iconst (-1), 1) := by decide +kernel
theorem dX7_isEnough_86 : decode cX7_isEnough 86 = .ok (.ixor, 1) := by decide +kernel
theorem dX7_isEnough_87 : decode cX7_isEnough 87 = .ok (.iand, 1) := by decide +kernel
theorem dX7_isEnough_88 : decode cX7_isEnough 88 = .ok (.istore 8, 2) := by decide +kernel
theorem dX7_isEnough_90 : decode cX7_isEnough 90 = .ok (.iload 7, 2) := by decide +kernel
theorem dX7_isEnough_92 : decode cX7_isEnough 92 = .ok (.ifCond .ne 18, 3) := by decide +kernel
theorem dX7_isEnough_95 : decode cX7_isEnough 95 = .ok (.iload 8, 2) := by decide +kernel
theorem dX7_isEnough_97 : decode cX7_isEnough 97 = .ok (.aload_n 0, 1) := by decide +kernel
theorem dX7_isEnough_98 : decode cX7_isEnough 98 = .ok (.getfield 70, 3) := by decide +kernel
theorem dX7_isEnough_101 : decode cX7_isEnough 101 = .ok (.iload 5, 2) := by decide +kernel
theorem dX7_isEnough_103 : decode cX7_isEnough 103 = .ok (.iaload, 1) := by decide +kernel
theorem dX7_isEnough_104 : decode cX7_isEnough 104 = .ok (.iconst (-1), 1) := by decide +kernel
theorem dX7_isEnough_105 : decode cX7_isEnough 105 = .ok (.ixor, 1) := by decide +kernel
theorem dX7_isEnough_106 : decode cX7_isEnough 106 = .ok (.iand, 1) := by decide +kernel
theorem dX7_isEnough_107 : decode cX7_isEnough 107 = .ok (.ifCond .eq 6, 3) := by decide +kernel
theorem dX7_isEnough_110 : decode cX7_isEnough 110 = .ok (.iconst 0, 1) := by decide +kernel
theorem dX7_isEnough_111 : decode cX7_isEnough 111 = .ok (.istore 4, 2) := by decide +kernel
theorem dX7_isEnough_113 : decode cX7_isEnough 113 = .ok (.iinc 5 1, 3) := by decide +kernel
theorem dX7_isEnough_116 : decode cX7_isEnough 116 = .ok (.goto (-83), 3) := by decide +kernel
theorem dX7_isEnough_119 : decode cX7_isEnough 119 = .ok (.aload_n 0, 1) := by decide +kernel
theorem dX7_isEnough_120 : decode cX7_isEnough 120 = .ok (.getfield 49, 3) := by decide +kernel
theorem dX7_isEnough_123 : decode cX7_isEnough 123 = .ok (.iload_n 1, 1) := by decide +kernel
theorem dX7_isEnough_124 : decode cX7_isEnough 124 = .ok (.aload_n 0, 1) := by decide +kernel
theorem dX7_isEnough_125 : decode cX7_isEnough 125 = .ok (.getfield 26, 3) := by decide +kernel
theorem dX7_isEnough_128 : decode cX7_isEnough 128 = .ok (.getfield 120, 3) := by decide +kernel
theorem dX7_isEnough_131 : decode cX7_isEnough 131 = .ok (.iload_n 1, 1) := by decide +kernel
theorem dX7_isEnough_132 : decode cX7_isEnough 132 = .ok (.iaload, 1) := by decide +kernel
theorem dX7_isEnough_133 : decode cX7_isEnough 133 = .ok (.aload_n 0, 1) := by decide +kernel
theorem dX7_isEnough_134 : decode cX7_isEnough 134 = .ok (.getfield 26, 3) := by decide +kernel
theorem dX7_isEnough_137 : decode cX7_isEnough 137 = .ok (.getfield 123, 3) := by decide +kernel
theorem dX7_isEnough_140 : decode cX7_isEnough 140 = .ok (.iload_n 1, 1) := by decide +kernel
theorem dX7_isEnough_141 : decode cX7_isEnough 141 = .ok (.iaload, 1) := by decide +kernel
theorem dX7_isEnough_142 : decode cX7_isEnough 142 = .ok (.aload_n 0, 1) := by decide +kernel
theorem dX7_isEnough_143 : decode cX7_isEnough 143 = .ok (.getfield 26, 3) := by decide +kernel
theorem dX7_isEnough_146 : decode cX7_isEnough 146 = .ok (.getfield 126, 3) := by decide +kernel
theorem dX7_isEnough_149 : decode cX7_isEnough 149 = .ok (.iload_n 1, 1) := by decide +kernel
theorem dX7_isEnough_150 : decode cX7_isEnough 150 = .ok (.iaload, 1) := by decide +kernel
theorem dX7_isEnough_151 : decode cX7_isEnough 151 = .ok (.invokevirtual 214, 3) := by decide +kernel
theorem dX7_isEnough_154 : decode cX7_isEnough 154 = .ok (.iload 4, 2) := by decide +kernel
theorem dX7_isEnough_156 : decode cX7_isEnough 156 = .ok (.ireturn, 1) := by decide +kernel
theorem dX7_weight_0 : decode cX7_weight 0 = .ok (.iconst 1, 1) := by decide +kernel
theorem dX7_weight_1 : decode cX7_weight 1 = .ok (.istore_n 2, 1) := by decide +kernel
theorem dX7_weight_2 : decode cX7_weight 2 = .ok (.iconst 0, 1) := by decide +kernel
theorem dX7_weight_3 : decode cX7_weight 3 = .ok (.istore_n 3, 1) := by decide +kernel
theorem dX7_weight_4 : decode cX7_weight 4 = .ok (.iload_n 3, 1) := by decide +kernel
theorem dX7_weight_5 : decode cX7_weight 5 = .ok (.iload_n 1, 1) := by decide +kernel
theorem dX7_weight_6 : decode cX7_weight 6 = .ok (.if_icmp .ge 13, 3) := by decide +kernel
theorem dX7_weight_9 : decode cX7_weight 9 = .ok (.iload_n 2, 1) := by decide +kernel
theorem dX7_weight_10 : decode cX7_weight 10 = .ok (.iload_n 0, 1) := by decide +kernel
theorem dX7_weight_11 : decode cX7_weight 11 = .ok (.imul, 1) := by decide +kernel
theorem dX7_weight_12 : decode cX7_weight 12 = .ok (.istore_n 2, 1) := by decide +kernel
theorem dX7_weight_13 : decode cX7_weight 13 = .ok (.iinc 3 1, 3) := by decide +kernel
theorem dX7_weight_16 : decode cX7_weight 16 = .ok (.goto (-12), 3) := by decide +kernel
theorem dX7_weight_19 : decode cX7_weight 19 = .ok (.iload_n 2, 1) := by decide +kernel
theorem dX7_weight_20 : decode cX7_weight 20 = .ok (.ireturn, 1) := by decide +kernel
theorem dX7_commonDivisor_0 : decode cX7_commonDivisor 0 = .ok (.iload_n 0, 1) := by decide +kernel
theorem dX7_commonDivisor_1 : decode cX7_commonDivisor 1 = .ok (.istore_n 2, 1) := by decide +kernel
theorem dX7_commonDivisor_2 : decode cX7_commonDivisor 2 = .ok (.iload_n 1, 1) := by decide +kernel
theorem dX7_commonDivisor_3 : decode cX7_commonDivisor 3 = .ok (.istore_n 3, 1) := by decide +kernel
theorem dX7_commonDivisor_4 : decode cX7_commonDivisor 4 = .ok (.iconst 0, 1) := by decide +kernel
theorem dX7_commonDivisor_5 : decode cX7_commonDivisor 5 = .ok (.istore 4, 2) := by decide +kernel
theorem dX7_commonDivisor_7 : decode cX7_commonDivisor 7 = .ok (.iload 4, 2) := by decide +kernel
theorem dX7_commonDivisor_9 : decode cX7_commonDivisor 9 = .ok (.bipush 64, 2) := by decide +kernel
theorem dX7_commonDivisor_11 : decode cX7_commonDivisor 11 = .ok (.if_icmp .ge 23, 3) := by decide +kernel
theorem dX7_commonDivisor_14 : decode cX7_commonDivisor 14 = .ok (.iload_n 3, 1) := by decide +kernel
theorem dX7_commonDivisor_15 : decode cX7_commonDivisor 15 = .ok (.ifCond .eq 19, 3) := by decide +kernel
theorem dX7_commonDivisor_18 : decode cX7_commonDivisor 18 = .ok (.iload_n 2, 1) := by decide +kernel
theorem dX7_commonDivisor_19 : decode cX7_commonDivisor 19 = .ok (.iload_n 3, 1) := by decide +kernel
theorem dX7_commonDivisor_20 : decode cX7_commonDivisor 20 = .ok (.irem, 1) := by decide +kernel
theorem dX7_commonDivisor_21 : decode cX7_commonDivisor 21 = .ok (.istore 5, 2) := by decide +kernel
theorem dX7_commonDivisor_23 : decode cX7_commonDivisor 23 = .ok (.iload_n 3, 1) := by decide +kernel
theorem dX7_commonDivisor_24 : decode cX7_commonDivisor 24 = .ok (.istore_n 2, 1) := by decide +kernel
theorem dX7_commonDivisor_25 : decode cX7_commonDivisor 25 = .ok (.iload 5, 2) := by decide +kernel
theorem dX7_commonDivisor_27 : decode cX7_commonDivisor 27 = .ok (.istore_n 3, 1) := by decide +kernel
theorem dX7_commonDivisor_28 : decode cX7_commonDivisor 28 = .ok (.iinc 4 1, 3) := by decide +kernel
theorem dX7_commonDivisor_31 : decode cX7_commonDivisor 31 = .ok (.goto (-24), 3) := by decide +kernel
theorem dX7_commonDivisor_34 : decode cX7_commonDivisor 34 = .ok (.iload_n 2, 1) := by decide +kernel
theorem dX7_commonDivisor_35 : decode cX7_commonDivisor 35 = .ok (.ifCond .le 7, 3) := by decide +kernel
theorem dX7_commonDivisor_38 : decode cX7_commonDivisor 38 = .ok (.iload_n 2, 1) := by decide +kernel
theorem dX7_commonDivisor_39 : decode cX7_commonDivisor 39 = .ok (.goto 4, 3) := by decide +kernel
theorem dX7_commonDivisor_42 : decode cX7_commonDivisor 42 = .ok (.iconst 1, 1) := by decide +kernel
theorem dX7_commonDivisor_43 : decode cX7_commonDivisor 43 = .ok (.ireturn, 1) := by decide +kernel
