theorem dX0_init_0 : decode cX0_init 0 = .ok (.aload_n 0, 1) := by decide +kernel
theorem dX0_init_1 : decode cX0_init 1 = .ok (.invokespecial 3, 3) := by decide +kernel
theorem dX0_init_4 : decode cX0_init 4 = .ok (.aload_n 0, 1) := by decide +kernel
theorem dX0_init_5 : decode cX0_init 5 = .ok (.bipush 10, 2) := by decide +kernel
theorem dX0_init_7 : decode cX0_init 7 = .ok (.newarray .int, 2) := by decide +kernel
theorem dX0_init_9 : decode cX0_init 9 = .ok (.putfield 9, 3) := by decide +kernel
theorem dX0_init_12 : decode cX0_init 12 = .ok (.aload_n 0, 1) := by decide +kernel
theorem dX0_init_13 : decode cX0_init 13 = .ok (.bipush 10, 2) := by decide +kernel
theorem dX0_init_15 : decode cX0_init 15 = .ok (.newarray .int, 2) := by decide +kernel
theorem dX0_init_17 : decode cX0_init 17 = .ok (.putfield 15, 3) := by decide +kernel
theorem dX0_init_20 : decode cX0_init 20 = .ok (.aload_n 0, 1) := by decide +kernel
theorem dX0_init_21 : decode cX0_init 21 = .ok (.bipush 10, 2) := by decide +kernel
theorem dX0_init_23 : decode cX0_init 23 = .ok (.newarray .int, 2) := by decide +kernel
theorem dX0_init_25 : decode cX0_init 25 = .ok (.putfield 18, 3) := by decide +kernel
theorem dX0_init_28 : decode cX0_init 28 = .ok (.aload_n 0, 1) := by decide +kernel
theorem dX0_init_29 : decode cX0_init 29 = .ok (.bipush 10, 2) := by decide +kernel
theorem dX0_init_31 : decode cX0_init 31 = .ok (.newarray .int, 2) := by decide +kernel
theorem dX0_init_33 : decode cX0_init 33 = .ok (.putfield 21, 3) := by decide +kernel
theorem dX0_init_36 : decode cX0_init 36 = .ok (.return_, 1) := by decide +kernel
theorem dX0_note_0 : decode cX0_note 0 = .ok (.aload_n 0, 1) := by decide +kernel
theorem dX0_note_1 : decode cX0_note 1 = .ok (.getfield 24, 3) := by decide +kernel
theorem dX0_note_4 : decode cX0_note 4 = .ok (.bipush 10, 2) := by decide +kernel
theorem dX0_note_6 : decode cX0_note 6 = .ok (.if_icmp .lt 7, 3) := by decide +kernel
theorem dX0_note_9 : decode cX0_note 9 = .ok (.aload_n 0, 1) := by decide +kernel
theorem dX0_note_10 : decode cX0_note 10 = .ok (.invokevirtual 28, 3) := by decide +kernel
theorem dX0_note_13 : decode cX0_note 13 = .ok (.aload_n 0, 1) := by decide +kernel
theorem dX0_note_14 : decode cX0_note 14 = .ok (.getfield 9, 3) := by decide +kernel
theorem dX0_note_17 : decode cX0_note 17 = .ok (.aload_n 0, 1) := by decide +kernel
theorem dX0_note_18 : decode cX0_note 18 = .ok (.getfield 24, 3) := by decide +kernel
theorem dX0_note_21 : decode cX0_note 21 = .ok (.iload_n 1, 1) := by decide +kernel
theorem dX0_note_22 : decode cX0_note 22 = .ok (.iastore, 1) := by decide +kernel
theorem dX0_note_23 : decode cX0_note 23 = .ok (.aload_n 0, 1) := by decide +kernel
theorem dX0_note_24 : decode cX0_note 24 = .ok (.getfield 15, 3) := by decide +kernel
theorem dX0_note_27 : decode cX0_note 27 = .ok (.aload_n 0, 1) := by decide +kernel
theorem dX0_note_28 : decode cX0_note 28 = .ok (.getfield 24, 3) := by decide +kernel
theorem dX0_note_31 : decode cX0_note 31 = .ok (.iload_n 2, 1) := by decide +kernel
theorem dX0_note_32 : decode cX0_note 32 = .ok (.iastore, 1) := by decide +kernel
theorem dX0_note_33 : decode cX0_note 33 = .ok (.aload_n 0, 1) := by decide +kernel
theorem dX0_note_34 : decode cX0_note 34 = .ok (.getfield 18, 3) := by decide +kernel
theorem dX0_note_37 : decode cX0_note 37 = .ok (.aload_n 0, 1) := by decide +kernel
theorem dX0_note_38 : decode cX0_note 38 = .ok (.getfield 24, 3) := by decide +kernel
theorem dX0_note_41 : decode cX0_note 41 = .ok (.iload_n 3, 1) := by decide +kernel
theorem dX0_note_42 : decode cX0_note 42 = .ok (.iastore, 1) := by decide +kernel
theorem dX0_note_43 : decode cX0_note 43 = .ok (.aload_n 0, 1) := by decide +kernel
theorem dX0_note_44 : decode cX0_note 44 = .ok (.getfield 21, 3) := by decide +kernel
theorem dX0_note_47 : decode cX0_note 47 = .ok (.aload_n 0, 1) := by decide +kernel
theorem dX0_note_48 : decode cX0_note 48 = .ok (.getfield 24, 3) := by decide +kernel
theorem dX0_note_51 : decode cX0_note 51 = .ok (.iload 4, 2) := by decide +kernel
theorem dX0_note_53 : decode cX0_note 53 = .ok (.iastore, 1) := by decide +kernel
theorem dX0_note_54 : decode cX0_note 54 = .ok (.aload_n 0, 1) := by decide +kernel
theorem dX0_note_55 : decode cX0_note 55 = .ok (.dup, 1) := by decide +kernel
theorem dX0_note_56 : decode cX0_note 56 = .ok (.getfield 24, 3) := by decide +kernel
theorem dX0_note_59 : decode cX0_note 59 = .ok (.iconst 1, 1) := by decide +kernel
theorem dX0_note_60 : decode cX0_note 60 = .ok (.iadd, 1) := by decide +kernel
theorem dX0_note_61 : decode cX0_note 61 = .ok (.putfield 24, 3) := by decide +kernel
theorem dX0_note_64 : decode cX0_note 64 = .ok (.return_, 1) := by decide +kernel
theorem dX0_takeBack_0 : decode cX0_takeBack 0 = .ok (.aload_n 0, 1) := by decide +kernel
theorem dX0_takeBack_1 : decode cX0_takeBack 1 = .ok (.getfield 24, 3) := by decide +kernel
theorem dX0_takeBack_4 : decode cX0_takeBack 4 = .ok (.ifCond .gt 4, 3) := by decide +kernel
theorem dX0_takeBack_7 : decode cX0_takeBack 7 = .ok (.return_, 1) := by decide +kernel
theorem dX0_takeBack_8 : decode cX0_takeBack 8 = .ok (.aload_n 0, 1) := by decide +kernel
theorem dX0_takeBack_9 : decode cX0_takeBack 9 = .ok (.dup, 1) := by decide +kernel
theorem dX0_takeBack_10 : decode cX0_takeBack 10 = .ok (.getfield 24, 3) := by decide +kernel
theorem dX0_takeBack_13 : decode cX0_takeBack 13 = .ok (.iconst 1, 1) := by decide +kernel
theorem dX0_takeBack_14 : decode cX0_takeBack 14 = .ok (.isub, 1) := by decide +kernel
theorem dX0_takeBack_15 : decode cX0_takeBack 15 = .ok (.putfield 24, 3) := by decide +kernel
theorem dX0_takeBack_18 : decode cX0_takeBack 18 = .ok (.aload_n 0, 1) := by decide +kernel
theorem dX0_takeBack_19 : decode cX0_takeBack 19 = .ok (.getfield 15, 3) := by decide +kernel
theorem dX0_takeBack_22 : decode cX0_takeBack 22 = .ok (.aload_n 0, 1) := by decide +kernel
theorem dX0_takeBack_23 : decode cX0_takeBack 23 = .ok (.getfield 24, 3) := by decide +kernel
theorem dX0_takeBack_26 : decode cX0_takeBack 26 = .ok (.iaload, 1) := by decide +kernel
theorem dX0_takeBack_27 : decode cX0_takeBack 27 = .ok (.istore_n 2, 1) := by decide +kernel
theorem dX0_takeBack_28 : decode cX0_takeBack 28 = .ok (.aload_n 0, 1) := by decide +kernel
theorem dX0_takeBack_29 : decode cX0_takeBack 29 = .ok (.getfield 9, 3) := by decide +kernel
theorem dX0_takeBack_32 : decode cX0_takeBack 32 = .ok (.aload_n 0, 1) := by decide +kernel
theorem dX0_takeBack_33 : decode cX0_takeBack 33 = .ok (.getfield 24, 3) := by decide +kernel
theorem dX0_takeBack_36 : decode cX0_takeBack 36 = .ok (.iaload, 1) := by decide +kernel
theorem dX0_takeBack_37 : decode cX0_takeBack 37 = .ok (.lookupswitch 78 #[(0, 27), (1, 45)], 27) := by decide +kernel
theorem dX0_takeBack_64 : decode cX0_takeBack 64 = .ok (.aload_n 1, 1) := by decide +kernel
theorem dX0_takeBack_65 : decode cX0_takeBack 65 = .ok (.getfield 31, 3) := by decide +kernel
theorem dX0_takeBack_68 : decode cX0_takeBack 68 = .ok (.iload_n 2, 1) := by decide +kernel
theorem dX0_takeBack_69 : decode cX0_takeBack 69 = .ok (.aload_n 0, 1) := by decide +kernel
theorem dX0_takeBack_70 : decode cX0_takeBack 70 = .ok (.getfield 18, 3) := by decide +kernel
theorem dX0_takeBack_73 : decode cX0_takeBack 73 = .ok (.aload_n 0, 1) := by decide +kernel
theorem dX0_takeBack_74 : decode cX0_takeBack 74 = .ok (.getfield 24, 3) := by decide +kernel
theorem dX0_takeBack_77 : decode cX0_takeBack 77 = .ok (.iaload, 1) := by decide +kernel
theorem dX0_takeBack_78 : decode cX0_takeBack 78 = .ok (.iastore, 1) := by decide +kernel
theorem dX0_takeBack_79 : decode cX0_takeBack 79 = .ok (.goto 51, 3) := by decide +kernel
theorem dX0_takeBack_82 : decode cX0_takeBack 82 = .ok (.aload_n 1, 1) := by decide +kernel
theorem dX0_takeBack_83 : decode cX0_takeBack 83 = .ok (.getfield 36, 3) := by decide +kernel
theorem dX0_takeBack_86 : decode cX0_takeBack 86 = .ok (.iload_n 2, 1) := by decide +kernel
theorem dX0_takeBack_87 : decode cX0_takeBack 87 = .ok (.aload_n 0, 1) := by decide +kernel
theorem dX0_takeBack_88 : decode cX0_takeBack 88 = .ok (.getfield 18, 3) := by decide +kernel
theorem dX0_takeBack_91 : decode cX0_takeBack 91 = .ok (.aload_n 0, 1) := by decide +kernel
theorem dX0_takeBack_92 : decode cX0_takeBack 92 = .ok (.getfield 24, 3) := by decide +kernel
theorem dX0_takeBack_95 : decode cX0_takeBack 95 = .ok (.iaload, 1) := by decide +kernel
theorem dX0_takeBack_96 : decode cX0_takeBack 96 = .ok (.iastore, 1) := by decide +kernel
theorem dX0_takeBack_97 : decode cX0_takeBack 97 = .ok (.aload_n 1, 1) := by decide +kernel
theorem dX0_takeBack_98 : decode cX0_takeBack 98 = .ok (.getfield 39, 3) := by decide +kernel
theorem dX0_takeBack_101 : decode cX0_takeBack 101 = .ok (.iload_n 2, 1) := by decide +kernel
theorem dX0_takeBack_102 : decode cX0_takeBack 102 = .ok (.aload_n 0, 1) := by decide +kernel
theorem dX0_takeBack_103 : decode cX0_takeBack 103 = .ok (.getfield 21, 3) := by decide +kernel
theorem dX0_takeBack_106 : decode cX0_takeBack 106 = .ok (.aload_n 0, 1) := by decide +kernel
theorem dX0_takeBack_107 : decode cX0_takeBack 107 = .ok (.getfield 24, 3) := by decide +kernel
theorem dX0_takeBack_110 : decode cX0_takeBack 110 = .ok (.iaload, 1) := by decide +kernel
theorem dX0_takeBack_111 : decode cX0_takeBack 111 = .ok (.iastore, 1) := by decide +kernel
theorem dX0_takeBack_112 : decode cX0_takeBack 112 = .ok (.goto 18, 3) := by decide +kernel
theorem dX0_takeBack_115 : decode cX0_takeBack 115 = .ok (.aload_n 1, 1) := by decide +kernel
theorem dX0_takeBack_116 : decode cX0_takeBack 116 = .ok (.getfield 42, 3) := by decide +kernel
theorem dX0_takeBack_119 : decode cX0_takeBack 119 = .ok (.iload_n 2, 1) := by decide +kernel
theorem dX0_takeBack_120 : decode cX0_takeBack 120 = .ok (.aload_n 0, 1) := by decide +kernel
theorem dX0_takeBack_121 : decode cX0_takeBack 121 = .ok (.getfield 18, 3) := by decide +kernel
theorem dX0_takeBack_124 : decode cX0_takeBack 124 = .ok (.aload_n 0, 1) := by decide +kernel
theorem dX0_takeBack_125 : decode cX0_takeBack 125 = .ok (.getfield 24, 3) := by decide +kernel
theorem dX0_takeBack_128 : decode cX0_takeBack 128 = .ok (.iaload, 1) := by decide +kernel
theorem dX0_takeBack_129 : decode cX0_takeBack 129 = .ok (.iastore, 1) := by decide +kernel
theorem dX0_takeBack_130 : decode cX0_takeBack 130 = .ok (.return_, 1) := by decide +kernel
theorem dX0_dropOldest_0 : decode cX0_dropOldest 0 = .ok (.bipush 9, 2) := by decide +kernel
theorem dX0_dropOldest_2 : decode cX0_dropOldest 2 = .ok (.istore_n 1, 1) := by decide +kernel
theorem dX0_dropOldest_3 : decode cX0_dropOldest 3 = .ok (.aload_n 0, 1) := by decide +kernel
theorem dX0_dropOldest_4 : decode cX0_dropOldest 4 = .ok (.getfield 9, 3) := by decide +kernel
theorem dX0_dropOldest_7 : decode cX0_dropOldest 7 = .ok (.iconst 1, 1) := by decide +kernel
theorem dX0_dropOldest_8 : decode cX0_dropOldest 8 = .ok (.aload_n 0, 1) := by decide +kernel
theorem dX0_dropOldest_9 : decode cX0_dropOldest 9 = .ok (.getfield 9, 3) := by decide +kernel
theorem dX0_dropOldest_12 : decode cX0_dropOldest 12 = .ok (.iconst 0, 1) := by decide +kernel
theorem dX0_dropOldest_13 : decode cX0_dropOldest 13 = .ok (.iload_n 1, 1) := by decide +kernel
theorem dX0_dropOldest_14 : decode cX0_dropOldest 14 = .ok (.invokestatic 45, 3) := by decide +kernel
theorem dX0_dropOldest_17 : decode cX0_dropOldest 17 = .ok (.aload_n 0, 1) := by decide +kernel
theorem dX0_dropOldest_18 : decode cX0_dropOldest 18 = .ok (.getfield 15, 3) := by decide +kernel
theorem dX0_dropOldest_21 : decode cX0_dropOldest 21 = .ok (.iconst 1, 1) := by decide +kernel
theorem dX0_dropOldest_22 : decode cX0_dropOldest 22 = .ok (.aload_n 0, 1) := by decide +kernel
theorem dX0_dropOldest_23 : decode cX0_dropOldest 23 = .ok (.getfield 15, 3) := by decide +kernel
theorem dX0_dropOldest_26 : decode cX0_dropOldest 26 = .ok (.iconst 0, 1) := by decide +kernel
theorem dX0_dropOldest_27 : decode cX0_dropOldest 27 = .ok (.iload_n 1, 1) := by decide +kernel
theorem dX0_dropOldest_28 : decode cX0_dropOldest 28 = .ok (.invokestatic 45, 3) := by decide +kernel
theorem dX0_dropOldest_31 : decode cX0_dropOldest 31 = .ok (.aload_n 0, 1) := by decide +kernel
theorem dX0_dropOldest_32 : decode cX0_dropOldest 32 = .ok (.getfield 18, 3) := by decide +kernel
theorem dX0_dropOldest_35 : decode cX0_dropOldest 35 = .ok (.iconst 1, 1) := by decide +kernel
theorem dX0_dropOldest_36 : decode cX0_dropOldest 36 = .ok (.aload_n 0, 1) := by decide +kernel
theorem dX0_dropOldest_37 : decode cX0_dropOldest 37 = .ok (.getfield 18, 3) := by decide +kernel
theorem dX0_dropOldest_40 : decode cX0_dropOldest 40 = .ok (.iconst 0, 1) := by decide +kernel
theorem dX0_dropOldest_41 : decode cX0_dropOldest 41 = .ok (.iload_n 1, 1) := by decide +kernel
theorem dX0_dropOldest_42 : decode cX0_dropOldest 42 = .ok (.invokestatic 45, 3) := by decide +kernel
theorem dX0_dropOldest_45 : decode cX0_dropOldest 45 = .ok (.aload_n 0, 1) := by decide +kernel
theorem dX0_dropOldest_46 : decode cX0_dropOldest 46 = .ok (.getfield 21, 3) := by decide +kernel
theorem dX0_dropOldest_49 : decode cX0_dropOldest 49 = .ok (.iconst 1, 1) := by decide +kernel
theorem dX0_dropOldest_50 : decode cX0_dropOldest 50 = .ok (.aload_n 0, 1) := by decide +kernel
theorem dX0_dropOldest_51 : decode cX0_dropOldest 51 = .ok (.getfield 21, 3) := by decide +kernel
theorem dX0_dropOldest_54 : decode cX0_dropOldest 54 = .ok (.iconst 0, 1) := by decide +kernel
theorem dX0_dropOldest_55 : decode cX0_dropOldest 55 = .ok (.iload_n 1, 1) := by decide +kernel
theorem dX0_dropOldest_56 : decode cX0_dropOldest 56 = .ok (.invokestatic 45, 3) := by decide +kernel
theorem dX0_dropOldest_59 : decode cX0_dropOldest 59 = .ok (.aload_n 0, 1) := by decide +kernel
theorem dX0_dropOldest_60 : decode cX0_dropOldest 60 = .ok (.iload_n 1, 1) := by decide +kernel
theorem dX0_dropOldest_61 : decode cX0_dropOldest 61 = .ok (.putfield 24, 3) := by decide +kernel
theorem dX0_dropOldest_64 : decode cX0_dropOldest 64 = .ok (.return_, 1) := by decide +kernel
theorem dX1_init_0 : decode cX1_init 0 = .ok (.aload_n 0, 1) := by decide +kernel
theorem dX1_init_1 : decode cX1_init 1 = .ok (.invokespecial 3, 3) := by decide +kernel
theorem dX1_init_4 : decode cX1_init 4 = .ok (.aload_n 0, 1) := by decide +kernel
theorem dX1_init_5 : decode cX1_init 5 = .ok (.iconst 3, 1) := by decide +kernel
theorem dX1_init_6 : decode cX1_init 6 = .ok (.putfield 9, 3) := by decide +kernel
theorem dX1_init_9 : decode cX1_init 9 = .ok (.aload_n 0, 1) := by decide +kernel
theorem dX1_init_10 : decode cX1_init 10 = .ok (.bipush 9, 2) := by decide +kernel
theorem dX1_init_12 : decode cX1_init 12 = .ok (.newarray .int, 2) := by decide +kernel
theorem dX1_init_14 : decode cX1_init 14 = .ok (.putfield 15, 3) := by decide +kernel
theorem dX1_init_17 : decode cX1_init 17 = .ok (.aload_n 0, 1) := by decide +kernel
theorem dX1_init_18 : decode cX1_init 18 = .ok (.bipush 9, 2) := by decide +kernel
theorem dX1_init_20 : decode cX1_init 20 = .ok (.newarray .int, 2) := by decide +kernel
theorem dX1_init_22 : decode cX1_init 22 = .ok (.putfield 19, 3) := by decide +kernel
theorem dX1_init_25 : decode cX1_init 25 = .ok (.aload_n 0, 1) := by decide +kernel
theorem dX1_init_26 : decode cX1_init 26 = .ok (.bipush 9, 2) := by decide +kernel
theorem dX1_init_28 : decode cX1_init 28 = .ok (.newarray .int, 2) := by decide +kernel
theorem dX1_init_30 : decode cX1_init 30 = .ok (.putfield 22, 3) := by decide +kernel
theorem dX1_init_33 : decode cX1_init 33 = .ok (.aload_n 0, 1) := by decide +kernel
theorem dX1_init_34 : decode cX1_init 34 = .ok (.bipush 9, 2) := by decide +kernel
theorem dX1_init_36 : decode cX1_init 36 = .ok (.newarray .int, 2) := by decide +kernel
theorem dX1_init_38 : decode cX1_init 38 = .ok (.putfield 25, 3) := by decide +kernel
theorem dX1_init_41 : decode cX1_init 41 = .ok (.aload_n 0, 1) := by decide +kernel
theorem dX1_init_42 : decode cX1_init 42 = .ok (.iconst 3, 1) := by decide +kernel
theorem dX1_init_43 : decode cX1_init 43 = .ok (.newarray .int, 2) := by decide +kernel
theorem dX1_init_45 : decode cX1_init 45 = .ok (.putfield 28, 3) := by decide +kernel
theorem dX1_init_48 : decode cX1_init 48 = .ok (.return_, 1) := by decide +kernel
theorem dX1_reset_0 : decode cX1_reset 0 = .ok (.aload_n 0, 1) := by decide +kernel
theorem dX1_reset_1 : decode cX1_reset 1 = .ok (.iconst 3, 1) := by decide +kernel
theorem dX1_reset_2 : decode cX1_reset 2 = .ok (.putfield 9, 3) := by decide +kernel
theorem dX1_reset_5 : decode cX1_reset 5 = .ok (.aload_n 0, 1) := by decide +kernel
theorem dX1_reset_6 : decode cX1_reset 6 = .ok (.iconst 0, 1) := by decide +kernel
theorem dX1_reset_7 : decode cX1_reset 7 = .ok (.putfield 31, 3) := by decide +kernel
theorem dX1_reset_10 : decode cX1_reset 10 = .ok (.aload_n 0, 1) := by decide +kernel
theorem dX1_reset_11 : decode cX1_reset 11 = .ok (.iconst 0, 1) := by decide +kernel
theorem dX1_reset_12 : decode cX1_reset 12 = .ok (.putfield 34, 3) := by decide +kernel
theorem dX1_reset_15 : decode cX1_reset 15 = .ok (.return_, 1) := by decide +kernel
theorem dX1_addContact_0 : decode cX1_addContact 0 = .ok (.aload_n 0, 1) := by decide +kernel
theorem dX1_addContact_1 : decode cX1_addContact 1 = .ok (.getfield 31, 3) := by decide +kernel
theorem dX1_addContact_4 : decode cX1_addContact 4 = .ok (.bipush 9, 2) := by decide +kernel
theorem dX1_addContact_6 : decode cX1_addContact 6 = .ok (.if_icmp .lt 4, 3) := by decide +kernel
theorem dX1_addContact_9 : decode cX1_addContact 9 = .ok (.return_, 1) := by decide +kernel
theorem dX1_addContact_10 : decode cX1_addContact 10 = .ok (.aload_n 0, 1) := by decide +kernel
theorem dX1_addContact_11 : decode cX1_addContact 11 = .ok (.getfield 15, 3) := by decide +kernel
theorem dX1_addContact_14 : decode cX1_addContact 14 = .ok (.aload_n 0, 1) := by decide +kernel
theorem dX1_addContact_15 : decode cX1_addContact 15 = .ok (.getfield 31, 3) := by decide +kernel
theorem dX1_addContact_18 : decode cX1_addContact 18 = .ok (.iload_n 1, 1) := by decide +kernel
theorem dX1_addContact_19 : decode cX1_addContact 19 = .ok (.iastore, 1) := by decide +kernel
theorem dX1_addContact_20 : decode cX1_addContact 20 = .ok (.aload_n 0, 1) := by decide +kernel
theorem dX1_addContact_21 : decode cX1_addContact 21 = .ok (.getfield 19, 3) := by decide +kernel
theorem dX1_addContact_24 : decode cX1_addContact 24 = .ok (.aload_n 0, 1) := by decide +kernel
theorem dX1_addContact_25 : decode cX1_addContact 25 = .ok (.getfield 31, 3) := by decide +kernel
theorem dX1_addContact_28 : decode cX1_addContact 28 = .ok (.iload_n 2, 1) := by decide +kernel
theorem dX1_addContact_29 : decode cX1_addContact 29 = .ok (.iastore, 1) := by decide +kernel
theorem dX1_addContact_30 : decode cX1_addContact 30 = .ok (.aload_n 0, 1) := by decide +kernel
theorem dX1_addContact_31 : decode cX1_addContact 31 = .ok (.getfield 22, 3) := by decide +kernel
theorem dX1_addContact_34 : decode cX1_addContact 34 = .ok (.aload_n 0, 1) := by decide +kernel
theorem dX1_addContact_35 : decode cX1_addContact 35 = .ok (.getfield 31, 3) := by decide +kernel
theorem dX1_addContact_38 : decode cX1_addContact 38 = .ok (.iload_n 3, 1) := by decide +kernel
theorem dX1_addContact_39 : decode cX1_addContact 39 = .ok (.iastore, 1) := by decide +kernel
theorem dX1_addContact_40 : decode cX1_addContact 40 = .ok (.aload_n 0, 1) := by decide +kernel
theorem dX1_addContact_41 : decode cX1_addContact 41 = .ok (.getfield 25, 3) := by decide +kernel
theorem dX1_addContact_44 : decode cX1_addContact 44 = .ok (.aload_n 0, 1) := by decide +kernel
theorem dX1_addContact_45 : decode cX1_addContact 45 = .ok (.getfield 31, 3) := by decide +kernel
theorem dX1_addContact_48 : decode cX1_addContact 48 = .ok (.iload 4, 2) := by decide +kernel
theorem dX1_addContact_50 : decode cX1_addContact 50 = .ok (.iastore, 1) := by decide +kernel
theorem dX1_addContact_51 : decode cX1_addContact 51 = .ok (.aload_n 0, 1) := by decide +kernel
theorem dX1_addContact_52 : decode cX1_addContact 52 = .ok (.dup, 1) := by decide +kernel
theorem dX1_addContact_53 : decode cX1_addContact 53 = .ok (.getfield 31, 3) := by decide +kernel
theorem dX1_addContact_56 : decode cX1_addContact 56 = .ok (.iconst 1, 1) := by decide +kernel
theorem dX1_addContact_57 : decode cX1_addContact 57 = .ok (.iadd, 1) := by decide +kernel
theorem dX1_addContact_58 : decode cX1_addContact 58 = .ok (.putfield 31, 3) := by decide +kernel
theorem dX1_addContact_61 : decode cX1_addContact 61 = .ok (.return_, 1) := by decide +kernel
theorem dX1_addLoad_0 : decode cX1_addLoad 0 = .ok (.aload_n 0, 1) := by decide +kernel
theorem dX1_addLoad_1 : decode cX1_addLoad 1 = .ok (.getfield 34, 3) := by decide +kernel
theorem dX1_addLoad_4 : decode cX1_addLoad 4 = .ok (.iconst 3, 1) := by decide +kernel
theorem dX1_addLoad_5 : decode cX1_addLoad 5 = .ok (.if_icmp .lt 4, 3) := by decide +kernel
theorem dX1_addLoad_8 : decode cX1_addLoad 8 = .ok (.return_, 1) := by decide +kernel
theorem dX1_addLoad_9 : decode cX1_addLoad 9 = .ok (.aload_n 0, 1) := by decide +kernel
theorem dX1_addLoad_10 : decode cX1_addLoad 10 = .ok (.getfield 28, 3) := by decide +kernel
theorem dX1_addLoad_13 : decode cX1_addLoad 13 = .ok (.aload_n 0, 1) := by decide +kernel
theorem dX1_addLoad_14 : decode cX1_addLoad 14 = .ok (.getfield 34, 3) := by decide +kernel
theorem dX1_addLoad_17 : decode cX1_addLoad 17 = .ok (.iload_n 1, 1) := by decide +kernel
theorem dX1_addLoad_18 : decode cX1_addLoad 18 = .ok (.iastore, 1) := by decide +kernel
theorem dX1_addLoad_19 : decode cX1_addLoad 19 = .ok (.aload_n 0, 1) := by decide +kernel
theorem dX1_addLoad_20 : decode cX1_addLoad 20 = .ok (.dup, 1) := by decide +kernel
theorem dX1_addLoad_21 : decode cX1_addLoad 21 = .ok (.getfield 34, 3) := by decide +kernel
theorem dX1_addLoad_24 : decode cX1_addLoad 24 = .ok (.iconst 1, 1) := by decide +kernel
theorem dX1_addLoad_25 : decode cX1_addLoad 25 = .ok (.iadd, 1) := by decide +kernel
theorem dX1_addLoad_26 : decode cX1_addLoad 26 = .ok (.putfield 34, 3) := by decide +kernel
theorem dX1_addLoad_29 : decode cX1_addLoad 29 = .ok (.return_, 1) := by decide +kernel
theorem dX1_hasLoadAt_0 : decode cX1_hasLoadAt 0 = .ok (.iconst 0, 1) := by decide +kernel
theorem dX1_hasLoadAt_1 : decode cX1_hasLoadAt 1 = .ok (.istore_n 2, 1) := by decide +kernel
theorem dX1_hasLoadAt_2 : decode cX1_hasLoadAt 2 = .ok (.iload_n 2, 1) := by decide +kernel
theorem dX1_hasLoadAt_3 : decode cX1_hasLoadAt 3 = .ok (.aload_n 0, 1) := by decide +kernel
theorem dX1_hasLoadAt_4 : decode cX1_hasLoadAt 4 = .ok (.getfield 34, 3) := by decide +kernel
theorem dX1_hasLoadAt_7 : decode cX1_hasLoadAt 7 = .ok (.if_icmp .ge 21, 3) := by decide +kernel
theorem dX1_hasLoadAt_10 : decode cX1_hasLoadAt 10 = .ok (.aload_n 0, 1) := by decide +kernel
theorem dX1_hasLoadAt_11 : decode cX1_hasLoadAt 11 = .ok (.getfield 28, 3) := by decide +kernel
theorem dX1_hasLoadAt_14 : decode cX1_hasLoadAt 14 = .ok (.iload_n 2, 1) := by decide +kernel
theorem dX1_hasLoadAt_15 : decode cX1_hasLoadAt 15 = .ok (.iaload, 1) := by decide +kernel
theorem dX1_hasLoadAt_16 : decode cX1_hasLoadAt 16 = .ok (.iload_n 1, 1) := by decide +kernel
theorem dX1_hasLoadAt_17 : decode cX1_hasLoadAt 17 = .ok (.if_icmp .ne 5, 3) := by decide +kernel
theorem dX1_hasLoadAt_20 : decode cX1_hasLoadAt 20 = .ok (.iconst 1, 1) := by decide +kernel
theorem dX1_hasLoadAt_21 : decode cX1_hasLoadAt 21 = .ok (.ireturn, 1) := by decide +kernel
theorem dX1_hasLoadAt_22 : decode cX1_hasLoadAt 22 = .ok (.iinc 2 1, 3) := by decide +kernel
theorem dX1_hasLoadAt_25 : decode cX1_hasLoadAt 25 = .ok (.goto (-23), 3) := by decide +kernel
theorem dX1_hasLoadAt_28 : decode cX1_hasLoadAt 28 = .ok (.iconst 0, 1) := by decide +kernel
theorem dX1_hasLoadAt_29 : decode cX1_hasLoadAt 29 = .ok (.ireturn, 1) := by decide +kernel
theorem dX1_takeFrom_0 : decode cX1_takeFrom 0 = .ok (.aload_n 0, 1) := by decide +kernel
theorem dX1_takeFrom_1 : decode cX1_takeFrom 1 = .ok (.aload_n 1, 1) := by decide +kernel
theorem dX1_takeFrom_2 : decode cX1_takeFrom 2 = .ok (.getfield 9, 3) := by decide +kernel
theorem dX1_takeFrom_5 : decode cX1_takeFrom 5 = .ok (.putfield 9, 3) := by decide +kernel
theorem dX1_takeFrom_8 : decode cX1_takeFrom 8 = .ok (.aload_n 0, 1) := by decide +kernel
theorem dX1_takeFrom_9 : decode cX1_takeFrom 9 = .ok (.aload_n 1, 1) := by decide +kernel
theorem dX1_takeFrom_10 : decode cX1_takeFrom 10 = .ok (.getfield 31, 3) := by decide +kernel
theorem dX1_takeFrom_13 : decode cX1_takeFrom 13 = .ok (.putfield 31, 3) := by decide +kernel
theorem dX1_takeFrom_16 : decode cX1_takeFrom 16 = .ok (.aload_n 0, 1) := by decide +kernel
theorem dX1_takeFrom_17 : decode cX1_takeFrom 17 = .ok (.aload_n 1, 1) := by decide +kernel
theorem dX1_takeFrom_18 : decode cX1_takeFrom 18 = .ok (.getfield 34, 3) := by decide +kernel
theorem dX1_takeFrom_21 : decode cX1_takeFrom 21 = .ok (.putfield 34, 3) := by decide +kernel
theorem dX1_takeFrom_24 : decode cX1_takeFrom 24 = .ok (.aload_n 1, 1) := by decide +kernel
theorem dX1_takeFrom_25 : decode cX1_takeFrom 25 = .ok (.getfield 15, 3) := by decide +kernel
theorem dX1_takeFrom_28 : decode cX1_takeFrom 28 = .ok (.iconst 0, 1) := by decide +kernel
theorem dX1_takeFrom_29 : decode cX1_takeFrom 29 = .ok (.aload_n 0, 1) := by decide +kernel
theorem dX1_takeFrom_30 : decode cX1_takeFrom 30 = .ok (.getfield 15, 3) := by decide +kernel
theorem dX1_takeFrom_33 : decode cX1_takeFrom 33 = .ok (.iconst 0, 1) := by decide +kernel
theorem dX1_takeFrom_34 : decode cX1_takeFrom 34 = .ok (.bipush 9, 2) := by decide +kernel
theorem dX1_takeFrom_36 : decode cX1_takeFrom 36 = .ok (.invokestatic 37, 3) := by decide +kernel
theorem dX1_takeFrom_39 : decode cX1_takeFrom 39 = .ok (.aload_n 1, 1) := by decide +kernel
theorem dX1_takeFrom_40 : decode cX1_takeFrom 40 = .ok (.getfield 19, 3) := by decide +kernel
theorem dX1_takeFrom_43 : decode cX1_takeFrom 43 = .ok (.iconst 0, 1) := by decide +kernel
theorem dX1_takeFrom_44 : decode cX1_takeFrom 44 = .ok (.aload_n 0, 1) := by decide +kernel
theorem dX1_takeFrom_45 : decode cX1_takeFrom 45 = .ok (.getfield 19, 3) := by decide +kernel
theorem dX1_takeFrom_48 : decode cX1_takeFrom 48 = .ok (.iconst 0, 1) := by decide +kernel
theorem dX1_takeFrom_49 : decode cX1_takeFrom 49 = .ok (.bipush 9, 2) := by decide +kernel
theorem dX1_takeFrom_51 : decode cX1_takeFrom 51 = .ok (.invokestatic 37, 3) := by decide +kernel
theorem dX1_takeFrom_54 : decode cX1_takeFrom 54 = .ok (.aload_n 1, 1) := by decide +kernel
theorem dX1_takeFrom_55 : decode cX1_takeFrom 55 = .ok (.getfield 22, 3) := by decide +kernel
theorem dX1_takeFrom_58 : decode cX1_takeFrom 58 = .ok (.iconst 0, 1) := by decide +kernel
theorem dX1_takeFrom_59 : decode cX1_takeFrom 59 = .ok (.aload_n 0, 1) := by decide +kernel
theorem dX1_takeFrom_60 : decode cX1_takeFrom 60 = .ok (.getfield 22, 3) := by decide +kernel
theorem dX1_takeFrom_63 : decode cX1_takeFrom 63 = .ok (.iconst 0, 1) := by decide +kernel
theorem dX1_takeFrom_64 : decode cX1_takeFrom 64 = .ok (.bipush 9, 2) := by decide +kernel
theorem dX1_takeFrom_66 : decode cX1_takeFrom 66 = .ok (.invokestatic 37, 3) := by decide +kernel
theorem dX1_takeFrom_69 : decode cX1_takeFrom 69 = .ok (.aload_n 1, 1) := by decide +kernel
theorem dX1_takeFrom_70 : decode cX1_takeFrom 70 = .ok (.getfield 25, 3) := by decide +kernel
theorem dX1_takeFrom_73 : decode cX1_takeFrom 73 = .ok (.iconst 0, 1) := by decide +kernel
theorem dX1_takeFrom_74 : decode cX1_takeFrom 74 = .ok (.aload_n 0, 1) := by decide +kernel
theorem dX1_takeFrom_75 : decode cX1_takeFrom 75 = .ok (.getfield 25, 3) := by decide +kernel
theorem dX1_takeFrom_78 : decode cX1_takeFrom 78 = .ok (.iconst 0, 1) := by decide +kernel
theorem dX1_takeFrom_79 : decode cX1_takeFrom 79 = .ok (.bipush 9, 2) := by decide +kernel
theorem dX1_takeFrom_81 : decode cX1_takeFrom 81 = .ok (.invokestatic 37, 3) := by decide +kernel
theorem dX1_takeFrom_84 : decode cX1_takeFrom 84 = .ok (.aload_n 1, 1) := by decide +kernel
theorem dX1_takeFrom_85 : decode cX1_takeFrom 85 = .ok (.getfield 28, 3) := by decide +kernel
theorem dX1_takeFrom_88 : decode cX1_takeFrom 88 = .ok (.iconst 0, 1) := by decide +kernel
theorem dX1_takeFrom_89 : decode cX1_takeFrom 89 = .ok (.aload_n 0, 1) := by decide +kernel
theorem dX1_takeFrom_90 : decode cX1_takeFrom 90 = .ok (.getfield 28, 3) := by decide +kernel
theorem dX1_takeFrom_93 : decode cX1_takeFrom 93 = .ok (.iconst 0, 1) := by decide +kernel
theorem dX1_takeFrom_94 : decode cX1_takeFrom 94 = .ok (.iconst 3, 1) := by decide +kernel
theorem dX1_takeFrom_95 : decode cX1_takeFrom 95 = .ok (.invokestatic 37, 3) := by decide +kernel
theorem dX1_takeFrom_98 : decode cX1_takeFrom 98 = .ok (.return_, 1) := by decide +kernel
theorem dX2_init_0 : decode cX2_init 0 = .ok (.aload_n 0, 1) := by decide +kernel
theorem dX2_init_1 : decode cX2_init 1 = .ok (.invokespecial 3, 3) := by decide +kernel
theorem dX2_init_4 : decode cX2_init 4 = .ok (.aload_n 0, 1) := by decide +kernel
theorem dX2_init_5 : decode cX2_init 5 = .ok (.new 9, 3) := by decide +kernel
theorem dX2_init_8 : decode cX2_init 8 = .ok (.dup, 1) := by decide +kernel
theorem dX2_init_9 : decode cX2_init 9 = .ok (.invokespecial 11, 3) := by decide +kernel
theorem dX2_init_12 : decode cX2_init 12 = .ok (.putfield 12, 3) := by decide +kernel
theorem dX2_init_15 : decode cX2_init 15 = .ok (.aload_n 0, 1) := by decide +kernel
theorem dX2_init_16 : decode cX2_init 16 = .ok (.bipush 100, 2) := by decide +kernel
theorem dX2_init_18 : decode cX2_init 18 = .ok (.newarray .int, 2) := by decide +kernel
theorem dX2_init_20 : decode cX2_init 20 = .ok (.putfield 18, 3) := by decide +kernel
theorem dX2_init_23 : decode cX2_init 23 = .ok (.return_, 1) := by decide +kernel
theorem dX2_append_0 : decode cX2_append 0 = .ok (.aload_n 0, 1) := by decide +kernel
theorem dX2_append_1 : decode cX2_append 1 = .ok (.getfield 22, 3) := by decide +kernel
theorem dX2_append_4 : decode cX2_append 4 = .ok (.bipush 100, 2) := by decide +kernel
theorem dX2_append_6 : decode cX2_append 6 = .ok (.if_icmp .lt 5, 3) := by decide +kernel
theorem dX2_append_9 : decode cX2_append 9 = .ok (.iconst 0, 1) := by decide +kernel
theorem dX2_append_10 : decode cX2_append 10 = .ok (.ireturn, 1) := by decide +kernel
theorem dX2_append_11 : decode cX2_append 11 = .ok (.aload_n 0, 1) := by decide +kernel
theorem dX2_append_12 : decode cX2_append 12 = .ok (.getfield 18, 3) := by decide +kernel
theorem dX2_append_15 : decode cX2_append 15 = .ok (.aload_n 0, 1) := by decide +kernel
theorem dX2_append_16 : decode cX2_append 16 = .ok (.getfield 22, 3) := by decide +kernel
theorem dX2_append_19 : decode cX2_append 19 = .ok (.iload_n 1, 1) := by decide +kernel
theorem dX2_append_20 : decode cX2_append 20 = .ok (.iastore, 1) := by decide +kernel
theorem dX2_append_21 : decode cX2_append 21 = .ok (.aload_n 0, 1) := by decide +kernel
theorem dX2_append_22 : decode cX2_append 22 = .ok (.dup, 1) := by decide +kernel
theorem dX2_append_23 : decode cX2_append 23 = .ok (.getfield 22, 3) := by decide +kernel
theorem dX2_append_26 : decode cX2_append 26 = .ok (.iconst 1, 1) := by decide +kernel
theorem dX2_append_27 : decode cX2_append 27 = .ok (.iadd, 1) := by decide +kernel
theorem dX2_append_28 : decode cX2_append 28 = .ok (.putfield 22, 3) := by decide +kernel
theorem dX2_append_31 : decode cX2_append 31 = .ok (.iconst 1, 1) := by decide +kernel
theorem dX2_append_32 : decode cX2_append 32 = .ok (.ireturn, 1) := by decide +kernel
theorem dX2_read_0 : decode cX2_read 0 = .ok (.aload_n 0, 1) := by decide +kernel
theorem dX2_read_1 : decode cX2_read 1 = .ok (.getfield 12, 3) := by decide +kernel
theorem dX2_read_4 : decode cX2_read 4 = .ok (.invokevirtual 26, 3) := by decide +kernel
theorem dX2_read_7 : decode cX2_read 7 = .ok (.aload_n 0, 1) := by decide +kernel
theorem dX2_read_8 : decode cX2_read 8 = .ok (.iconst 0, 1) := by decide +kernel
theorem dX2_read_9 : decode cX2_read 9 = .ok (.putfield 29, 3) := by decide +kernel
theorem dX2_read_12 : decode cX2_read 12 = .ok (.iconst 0, 1) := by decide +kernel
theorem dX2_read_13 : decode cX2_read 13 = .ok (.istore_n 1, 1) := by decide +kernel
theorem dX2_read_14 : decode cX2_read 14 = .ok (.iload_n 1, 1) := by decide +kernel
theorem dX2_read_15 : decode cX2_read 15 = .ok (.bipush 100, 2) := by decide +kernel
theorem dX2_read_17 : decode cX2_read 17 = .ok (.if_icmp .gt 47, 3) := by decide +kernel
theorem dX2_read_20 : decode cX2_read 20 = .ok (.aload_n 0, 1) := by decide +kernel
theorem dX2_read_21 : decode cX2_read 21 = .ok (.invokevirtual 32, 3) := by decide +kernel
theorem dX2_read_24 : decode cX2_read 24 = .ok (.aload_n 0, 1) := by decide +kernel
theorem dX2_read_25 : decode cX2_read 25 = .ok (.getfield 35, 3) := by decide +kernel
theorem dX2_read_28 : decode cX2_read 28 = .ok (.iconst (-1), 1) := by decide +kernel
theorem dX2_read_29 : decode cX2_read 29 = .ok (.if_icmp .ne 5, 3) := by decide +kernel
theorem dX2_read_32 : decode cX2_read 32 = .ok (.iload_n 1, 1) := by decide +kernel
theorem dX2_read_33 : decode cX2_read 33 = .ok (.ireturn, 1) := by decide +kernel
theorem dX2_read_34 : decode cX2_read 34 = .ok (.aload_n 0, 1) := by decide +kernel
theorem dX2_read_35 : decode cX2_read 35 = .ok (.iload_n 1, 1) := by decide +kernel
theorem dX2_read_36 : decode cX2_read 36 = .ok (.ifCond .ne 7, 3) := by decide +kernel
theorem dX2_read_39 : decode cX2_read 39 = .ok (.iconst 1, 1) := by decide +kernel
theorem dX2_read_40 : decode cX2_read 40 = .ok (.goto 4, 3) := by decide +kernel
theorem dX2_read_43 : decode cX2_read 43 = .ok (.iconst 0, 1) := by decide +kernel
theorem dX2_read_44 : decode cX2_read 44 = .ok (.invokevirtual 38, 3) := by decide +kernel
theorem dX2_read_47 : decode cX2_read 47 = .ok (.ifCond .ne 11, 3) := by decide +kernel
theorem dX2_read_50 : decode cX2_read 50 = .ok (.bipush (-10), 2) := by decide +kernel
theorem dX2_read_52 : decode cX2_read 52 = .ok (.aload_n 0, 1) := by decide +kernel
theorem dX2_read_53 : decode cX2_read 53 = .ok (.getfield 42, 3) := by decide +kernel
theorem dX2_read_56 : decode cX2_read 56 = .ok (.isub, 1) := by decide +kernel
theorem dX2_read_57 : decode cX2_read 57 = .ok (.ireturn, 1) := by decide +kernel
theorem dX2_read_58 : decode cX2_read 58 = .ok (.iinc 1 1, 3) := by decide +kernel
theorem dX2_read_61 : decode cX2_read 61 = .ok (.goto (-47), 3) := by decide +kernel
theorem dX2_read_64 : decode cX2_read 64 = .ok (.bipush (-10), 2) := by decide +kernel
theorem dX2_read_66 : decode cX2_read 66 = .ok (.aload_n 0, 1) := by decide +kernel
theorem dX2_read_67 : decode cX2_read 67 = .ok (.getfield 42, 3) := by decide +kernel
theorem dX2_read_70 : decode cX2_read 70 = .ok (.isub, 1) := by decide +kernel
theorem dX2_read_71 : decode cX2_read 71 = .ok (.ireturn, 1) := by decide +kernel
theorem dX2_readItem_0 : decode cX2_readItem 0 = .ok (.aload_n 0, 1) := by decide +kernel
theorem dX2_readItem_1 : decode cX2_readItem 1 = .ok (.getfield 35, 3) := by decide +kernel
theorem dX2_readItem_4 : decode cX2_readItem 4 = .ok (.lookupswitch 106 #[(99, 83), (100, 95), (108, 101), (110, 60), (111, 77), (119, 89)], 60) := by decide +kernel
theorem dX2_readItem_64 : decode cX2_readItem 64 = .ok (.iload_n 1, 1) := by decide +kernel
theorem dX2_readItem_65 : decode cX2_readItem 65 = .ok (.ifCond .eq 14, 3) := by decide +kernel
theorem dX2_readItem_68 : decode cX2_readItem 68 = .ok (.aload_n 0, 1) := by decide +kernel
theorem dX2_readItem_69 : decode cX2_readItem 69 = .ok (.invokevirtual 45, 3) := by decide +kernel
theorem dX2_readItem_72 : decode cX2_readItem 72 = .ok (.ifCond .eq 7, 3) := by decide +kernel
theorem dX2_readItem_75 : decode cX2_readItem 75 = .ok (.iconst 1, 1) := by decide +kernel
theorem dX2_readItem_76 : decode cX2_readItem 76 = .ok (.goto 4, 3) := by decide +kernel
theorem dX2_readItem_79 : decode cX2_readItem 79 = .ok (.iconst 0, 1) := by decide +kernel
theorem dX2_readItem_80 : decode cX2_readItem 80 = .ok (.ireturn, 1) := by decide +kernel
theorem dX2_readItem_81 : decode cX2_readItem 81 = .ok (.aload_n 0, 1) := by decide +kernel
theorem dX2_readItem_82 : decode cX2_readItem 82 = .ok (.iconst 0, 1) := by decide +kernel
theorem dX2_readItem_83 : decode cX2_readItem 83 = .ok (.invokevirtual 49, 3) := by decide +kernel
theorem dX2_readItem_86 : decode cX2_readItem 86 = .ok (.ireturn, 1) := by decide +kernel
theorem dX2_readItem_87 : decode cX2_readItem 87 = .ok (.aload_n 0, 1) := by decide +kernel
theorem dX2_readItem_88 : decode cX2_readItem 88 = .ok (.iconst 1, 1) := by decide +kernel
theorem dX2_readItem_89 : decode cX2_readItem 89 = .ok (.invokevirtual 49, 3) := by decide +kernel
theorem dX2_readItem_92 : decode cX2_readItem 92 = .ok (.ireturn, 1) := by decide +kernel
theorem dX2_readItem_93 : decode cX2_readItem 93 = .ok (.aload_n 0, 1) := by decide +kernel
theorem dX2_readItem_94 : decode cX2_readItem 94 = .ok (.iconst 2, 1) := by decide +kernel
theorem dX2_readItem_95 : decode cX2_readItem 95 = .ok (.invokevirtual 49, 3) := by decide +kernel
theorem dX2_readItem_98 : decode cX2_readItem 98 = .ok (.ireturn, 1) := by decide +kernel
theorem dX2_readItem_99 : decode cX2_readItem 99 = .ok (.aload_n 0, 1) := by decide +kernel
theorem dX2_readItem_100 : decode cX2_readItem 100 = .ok (.iconst 3, 1) := by decide +kernel
theorem dX2_readItem_101 : decode cX2_readItem 101 = .ok (.invokevirtual 49, 3) := by decide +kernel
theorem dX2_readItem_104 : decode cX2_readItem 104 = .ok (.ireturn, 1) := by decide +kernel
theorem dX2_readItem_105 : decode cX2_readItem 105 = .ok (.aload_n 0, 1) := by decide +kernel
theorem dX2_readItem_106 : decode cX2_readItem 106 = .ok (.invokevirtual 53, 3) := by decide +kernel
theorem dX2_readItem_109 : decode cX2_readItem 109 = .ok (.ireturn, 1) := by decide +kernel
theorem dX2_readItem_110 : decode cX2_readItem 110 = .ok (.iconst 0, 1) := by decide +kernel
theorem dX2_readItem_111 : decode cX2_readItem 111 = .ok (.ireturn, 1) := by decide +kernel
theorem dX2_readNodes_0 : decode cX2_readNodes 0 = .ok (.aload_n 0, 1) := by decide +kernel
theorem dX2_readNodes_1 : decode cX2_readNodes 1 = .ok (.iconst 2, 1) := by decide +kernel
theorem dX2_readNodes_2 : decode cX2_readNodes 2 = .ok (.bipush 7, 2) := by decide +kernel
theorem dX2_readNodes_4 : decode cX2_readNodes 4 = .ok (.invokevirtual 56, 3) := by decide +kernel
theorem dX2_readNodes_7 : decode cX2_readNodes 7 = .ok (.istore_n 1, 1) := by decide +kernel
theorem dX2_readNodes_8 : decode cX2_readNodes 8 = .ok (.iload_n 1, 1) := by decide +kernel
theorem dX2_readNodes_9 : decode cX2_readNodes 9 = .ok (.ifCond .ge 5, 3) := by decide +kernel
theorem dX2_readNodes_12 : decode cX2_readNodes 12 = .ok (.iconst 0, 1) := by decide +kernel
theorem dX2_readNodes_13 : decode cX2_readNodes 13 = .ok (.ireturn, 1) := by decide +kernel
theorem dX2_readNodes_14 : decode cX2_readNodes 14 = .ok (.aload_n 0, 1) := by decide +kernel
theorem dX2_readNodes_15 : decode cX2_readNodes 15 = .ok (.getfield 12, 3) := by decide +kernel
theorem dX2_readNodes_18 : decode cX2_readNodes 18 = .ok (.iload_n 1, 1) := by decide +kernel
theorem dX2_readNodes_19 : decode cX2_readNodes 19 = .ok (.putfield 60, 3) := by decide +kernel
theorem dX2_readNodes_22 : decode cX2_readNodes 22 = .ok (.aload_n 0, 1) := by decide +kernel
theorem dX2_readNodes_23 : decode cX2_readNodes 23 = .ok (.invokevirtual 63, 3) := by decide +kernel
theorem dX2_readNodes_26 : decode cX2_readNodes 26 = .ok (.ireturn, 1) := by decide +kernel
theorem dX2_readContact_0 : decode cX2_readContact 0 = .ok (.aload_n 0, 1) := by decide +kernel
theorem dX2_readContact_1 : decode cX2_readContact 1 = .ok (.getfield 12, 3) := by decide +kernel
theorem dX2_readContact_4 : decode cX2_readContact 4 = .ok (.getfield 66, 3) := by decide +kernel
theorem dX2_readContact_7 : decode cX2_readContact 7 = .ok (.bipush 9, 2) := by decide +kernel
theorem dX2_readContact_9 : decode cX2_readContact 9 = .ok (.if_icmp .lt 5, 3) := by decide +kernel
theorem dX2_readContact_12 : decode cX2_readContact 12 = .ok (.iconst 0, 1) := by decide +kernel
theorem dX2_readContact_13 : decode cX2_readContact 13 = .ok (.ireturn, 1) := by decide +kernel
theorem dX2_readContact_14 : decode cX2_readContact 14 = .ok (.aload_n 0, 1) := by decide +kernel
theorem dX2_readContact_15 : decode cX2_readContact 15 = .ok (.iconst 0, 1) := by decide +kernel
theorem dX2_readContact_16 : decode cX2_readContact 16 = .ok (.aload_n 0, 1) := by decide +kernel
theorem dX2_readContact_17 : decode cX2_readContact 17 = .ok (.getfield 12, 3) := by decide +kernel
theorem dX2_readContact_20 : decode cX2_readContact 20 = .ok (.getfield 60, 3) := by decide +kernel
theorem dX2_readContact_23 : decode cX2_readContact 23 = .ok (.iconst 1, 1) := by decide +kernel
theorem dX2_readContact_24 : decode cX2_readContact 24 = .ok (.isub, 1) := by decide +kernel
theorem dX2_readContact_25 : decode cX2_readContact 25 = .ok (.invokevirtual 56, 3) := by decide +kernel
theorem dX2_readContact_28 : decode cX2_readContact 28 = .ok (.istore_n 2, 1) := by decide +kernel
theorem dX2_readContact_29 : decode cX2_readContact 29 = .ok (.iload_n 2, 1) := by decide +kernel
theorem dX2_readContact_30 : decode cX2_readContact 30 = .ok (.ifCond .ge 5, 3) := by decide +kernel
theorem dX2_readContact_33 : decode cX2_readContact 33 = .ok (.iconst 0, 1) := by decide +kernel
theorem dX2_readContact_34 : decode cX2_readContact 34 = .ok (.ireturn, 1) := by decide +kernel
theorem dX2_readContact_35 : decode cX2_readContact 35 = .ok (.aload_n 0, 1) := by decide +kernel
theorem dX2_readContact_36 : decode cX2_readContact 36 = .ok (.iconst 0, 1) := by decide +kernel
theorem dX2_readContact_37 : decode cX2_readContact 37 = .ok (.aload_n 0, 1) := by decide +kernel
theorem dX2_readContact_38 : decode cX2_readContact 38 = .ok (.getfield 12, 3) := by decide +kernel
theorem dX2_readContact_41 : decode cX2_readContact 41 = .ok (.getfield 60, 3) := by decide +kernel
theorem dX2_readContact_44 : decode cX2_readContact 44 = .ok (.iconst 1, 1) := by decide +kernel
theorem dX2_readContact_45 : decode cX2_readContact 45 = .ok (.isub, 1) := by decide +kernel
theorem dX2_readContact_46 : decode cX2_readContact 46 = .ok (.invokevirtual 56, 3) := by decide +kernel
theorem dX2_readContact_49 : decode cX2_readContact 49 = .ok (.istore_n 3, 1) := by decide +kernel
theorem dX2_readContact_50 : decode cX2_readContact 50 = .ok (.iload_n 3, 1) := by decide +kernel
theorem dX2_readContact_51 : decode cX2_readContact 51 = .ok (.ifCond .lt 8, 3) := by decide +kernel
theorem dX2_readContact_54 : decode cX2_readContact 54 = .ok (.iload_n 3, 1) := by decide +kernel
theorem dX2_readContact_55 : decode cX2_readContact 55 = .ok (.iload_n 2, 1) := by decide +kernel
theorem dX2_readContact_56 : decode cX2_readContact 56 = .ok (.if_icmp .ne 5, 3) := by decide +kernel
theorem dX2_readContact_59 : decode cX2_readContact 59 = .ok (.iconst 0, 1) := by decide +kernel
theorem dX2_readContact_60 : decode cX2_readContact 60 = .ok (.ireturn, 1) := by decide +kernel
theorem dX2_readContact_61 : decode cX2_readContact 61 = .ok (.bipush (-9), 2) := by decide +kernel
theorem dX2_readContact_63 : decode cX2_readContact 63 = .ok (.istore 4, 2) := by decide +kernel
theorem dX2_readContact_65 : decode cX2_readContact 65 = .ok (.iload_n 1, 1) := by decide +kernel
theorem dX2_readContact_66 : decode cX2_readContact 66 = .ok (.iconst 1, 1) := by decide +kernel
theorem dX2_readContact_67 : decode cX2_readContact 67 = .ok (.if_icmp .gt 18, 3) := by decide +kernel
theorem dX2_readContact_70 : decode cX2_readContact 70 = .ok (.aload_n 0, 1) := by decide +kernel
theorem dX2_readContact_71 : decode cX2_readContact 71 = .ok (.iconst 0, 1) := by decide +kernel
theorem dX2_readContact_72 : decode cX2_readContact 72 = .ok (.iconst 3, 1) := by decide +kernel
theorem dX2_readContact_73 : decode cX2_readContact 73 = .ok (.invokevirtual 56, 3) := by decide +kernel
theorem dX2_readContact_76 : decode cX2_readContact 76 = .ok (.istore 4, 2) := by decide +kernel
theorem dX2_readContact_78 : decode cX2_readContact 78 = .ok (.iload 4, 2) := by decide +kernel
theorem dX2_readContact_80 : decode cX2_readContact 80 = .ok (.ifCond .ge 5, 3) := by decide +kernel
theorem dX2_readContact_83 : decode cX2_readContact 83 = .ok (.iconst 0, 1) := by decide +kernel
theorem dX2_readContact_84 : decode cX2_readContact 84 = .ok (.ireturn, 1) := by decide +kernel
theorem dX2_readContact_85 : decode cX2_readContact 85 = .ok (.aload_n 0, 1) := by decide +kernel
theorem dX2_readContact_86 : decode cX2_readContact 86 = .ok (.getfield 12, 3) := by decide +kernel
theorem dX2_readContact_89 : decode cX2_readContact 89 = .ok (.iload_n 1, 1) := by decide +kernel
theorem dX2_readContact_90 : decode cX2_readContact 90 = .ok (.iload_n 2, 1) := by decide +kernel
theorem dX2_readContact_91 : decode cX2_readContact 91 = .ok (.iload_n 3, 1) := by decide +kernel
theorem dX2_readContact_92 : decode cX2_readContact 92 = .ok (.iload 4, 2) := by decide +kernel
theorem dX2_readContact_94 : decode cX2_readContact 94 = .ok (.invokevirtual 69, 3) := by decide +kernel
theorem dX2_readContact_97 : decode cX2_readContact 97 = .ok (.aload_n 0, 1) := by decide +kernel
theorem dX2_readContact_98 : decode cX2_readContact 98 = .ok (.invokevirtual 63, 3) := by decide +kernel
theorem dX2_readContact_101 : decode cX2_readContact 101 = .ok (.ireturn, 1) := by decide +kernel
theorem dX2_readLoad_0 : decode cX2_readLoad 0 = .ok (.aload_n 0, 1) := by decide +kernel
theorem dX2_readLoad_1 : decode cX2_readLoad 1 = .ok (.getfield 12, 3) := by decide +kernel
theorem dX2_readLoad_4 : decode cX2_readLoad 4 = .ok (.getfield 73, 3) := by decide +kernel
theorem dX2_readLoad_7 : decode cX2_readLoad 7 = .ok (.iconst 3, 1) := by decide +kernel
theorem dX2_readLoad_8 : decode cX2_readLoad 8 = .ok (.if_icmp .lt 5, 3) := by decide +kernel
theorem dX2_readLoad_11 : decode cX2_readLoad 11 = .ok (.iconst 0, 1) := by decide +kernel
theorem dX2_readLoad_12 : decode cX2_readLoad 12 = .ok (.ireturn, 1) := by decide +kernel
theorem dX2_readLoad_13 : decode cX2_readLoad 13 = .ok (.aload_n 0, 1) := by decide +kernel
theorem dX2_readLoad_14 : decode cX2_readLoad 14 = .ok (.iconst 1, 1) := by decide +kernel
theorem dX2_readLoad_15 : decode cX2_readLoad 15 = .ok (.aload_n 0, 1) := by decide +kernel
theorem dX2_readLoad_16 : decode cX2_readLoad 16 = .ok (.getfield 12, 3) := by decide +kernel
theorem dX2_readLoad_19 : decode cX2_readLoad 19 = .ok (.getfield 60, 3) := by decide +kernel
theorem dX2_readLoad_22 : decode cX2_readLoad 22 = .ok (.iconst 1, 1) := by decide +kernel
theorem dX2_readLoad_23 : decode cX2_readLoad 23 = .ok (.isub, 1) := by decide +kernel
theorem dX2_readLoad_24 : decode cX2_readLoad 24 = .ok (.invokevirtual 56, 3) := by decide +kernel
theorem dX2_readLoad_27 : decode cX2_readLoad 27 = .ok (.istore_n 1, 1) := by decide +kernel
theorem dX2_readLoad_28 : decode cX2_readLoad 28 = .ok (.iload_n 1, 1) := by decide +kernel
theorem dX2_readLoad_29 : decode cX2_readLoad 29 = .ok (.ifCond .lt 14, 3) := by decide +kernel
theorem dX2_readLoad_32 : decode cX2_readLoad 32 = .ok (.aload_n 0, 1) := by decide +kernel
theorem dX2_readLoad_33 : decode cX2_readLoad 33 = .ok (.getfield 12, 3) := by decide +kernel
theorem dX2_readLoad_36 : decode cX2_readLoad 36 = .ok (.iload_n 1, 1) := by decide +kernel
theorem dX2_readLoad_37 : decode cX2_readLoad 37 = .ok (.invokevirtual 76, 3) := by decide +kernel
theorem dX2_readLoad_40 : decode cX2_readLoad 40 = .ok (.ifCond .eq 5, 3) := by decide +kernel
theorem dX2_readLoad_43 : decode cX2_readLoad 43 = .ok (.iconst 0, 1) := by decide +kernel
theorem dX2_readLoad_44 : decode cX2_readLoad 44 = .ok (.ireturn, 1) := by decide +kernel
theorem dX2_readLoad_45 : decode cX2_readLoad 45 = .ok (.aload_n 0, 1) := by decide +kernel
theorem dX2_readLoad_46 : decode cX2_readLoad 46 = .ok (.getfield 12, 3) := by decide +kernel
theorem dX2_readLoad_49 : decode cX2_readLoad 49 = .ok (.iload_n 1, 1) := by decide +kernel
theorem dX2_readLoad_50 : decode cX2_readLoad 50 = .ok (.invokevirtual 79, 3) := by decide +kernel
theorem dX2_readLoad_53 : decode cX2_readLoad 53 = .ok (.aload_n 0, 1) := by decide +kernel
theorem dX2_readLoad_54 : decode cX2_readLoad 54 = .ok (.invokevirtual 63, 3) := by decide +kernel
theorem dX2_readLoad_57 : decode cX2_readLoad 57 = .ok (.ireturn, 1) := by decide +kernel
theorem dX2_readNumber_0 : decode cX2_readNumber 0 = .ok (.aload_n 0, 1) := by decide +kernel
theorem dX2_readNumber_1 : decode cX2_readNumber 1 = .ok (.invokevirtual 32, 3) := by decide +kernel
theorem dX2_readNumber_4 : decode cX2_readNumber 4 = .ok (.aload_n 0, 1) := by decide +kernel
theorem dX2_readNumber_5 : decode cX2_readNumber 5 = .ok (.getfield 35, 3) := by decide +kernel
theorem dX2_readNumber_8 : decode cX2_readNumber 8 = .ok (.invokestatic 83, 3) := by decide +kernel
theorem dX2_readNumber_11 : decode cX2_readNumber 11 = .ok (.ifCond .ne 6, 3) := by decide +kernel
theorem dX2_readNumber_14 : decode cX2_readNumber 14 = .ok (.bipush (-9), 2) := by decide +kernel
theorem dX2_readNumber_16 : decode cX2_readNumber 16 = .ok (.ireturn, 1) := by decide +kernel
theorem dX2_readNumber_17 : decode cX2_readNumber 17 = .ok (.aload_n 0, 1) := by decide +kernel
theorem dX2_readNumber_18 : decode cX2_readNumber 18 = .ok (.getfield 35, 3) := by decide +kernel
theorem dX2_readNumber_21 : decode cX2_readNumber 21 = .ok (.bipush 48, 2) := by decide +kernel
theorem dX2_readNumber_23 : decode cX2_readNumber 23 = .ok (.isub, 1) := by decide +kernel
theorem dX2_readNumber_24 : decode cX2_readNumber 24 = .ok (.istore_n 3, 1) := by decide +kernel
theorem dX2_readNumber_25 : decode cX2_readNumber 25 = .ok (.iload_n 3, 1) := by decide +kernel
theorem dX2_readNumber_26 : decode cX2_readNumber 26 = .ok (.iload_n 1, 1) := by decide +kernel
theorem dX2_readNumber_27 : decode cX2_readNumber 27 = .ok (.if_icmp .lt 12, 3) := by decide +kernel
theorem dX2_readNumber_30 : decode cX2_readNumber 30 = .ok (.iload_n 3, 1) := by decide +kernel
theorem dX2_readNumber_31 : decode cX2_readNumber 31 = .ok (.iload_n 2, 1) := by decide +kernel
theorem dX2_readNumber_32 : decode cX2_readNumber 32 = .ok (.if_icmp .gt 7, 3) := by decide +kernel
theorem dX2_readNumber_35 : decode cX2_readNumber 35 = .ok (.iload_n 3, 1) := by decide +kernel
theorem dX2_readNumber_36 : decode cX2_readNumber 36 = .ok (.goto 5, 3) := by decide +kernel
theorem dX2_readNumber_39 : decode cX2_readNumber 39 = .ok (.bipush (-9), 2) := by decide +kernel
theorem dX2_readNumber_41 : decode cX2_readNumber 41 = .ok (.ireturn, 1) := by decide +kernel
theorem dX2_readSemicolon_0 : decode cX2_readSemicolon 0 = .ok (.aload_n 0, 1) := by decide +kernel
theorem dX2_readSemicolon_1 : decode cX2_readSemicolon 1 = .ok (.invokevirtual 32, 3) := by decide +kernel
theorem dX2_readSemicolon_4 : decode cX2_readSemicolon 4 = .ok (.aload_n 0, 1) := by decide +kernel
theorem dX2_readSemicolon_5 : decode cX2_readSemicolon 5 = .ok (.getfield 35, 3) := by decide +kernel
theorem dX2_readSemicolon_8 : decode cX2_readSemicolon 8 = .ok (.bipush 59, 2) := by decide +kernel
theorem dX2_readSemicolon_10 : decode cX2_readSemicolon 10 = .ok (.if_icmp .ne 7, 3) := by decide +kernel
theorem dX2_readSemicolon_13 : decode cX2_readSemicolon 13 = .ok (.iconst 1, 1) := by decide +kernel
theorem dX2_readSemicolon_14 : decode cX2_readSemicolon 14 = .ok (.goto 4, 3) := by decide +kernel
theorem dX2_readSemicolon_17 : decode cX2_readSemicolon 17 = .ok (.iconst 0, 1) := by decide +kernel
theorem dX2_readSemicolon_18 : decode cX2_readSemicolon 18 = .ok (.ireturn, 1) := by decide +kernel
theorem dX2_nextToken_0 : decode cX2_nextToken 0 = .ok (.iconst 0, 1) := by decide +kernel
theorem dX2_nextToken_1 : decode cX2_nextToken 1 = .ok (.istore_n 1, 1) := by decide +kernel
theorem dX2_nextToken_2 : decode cX2_nextToken 2 = .ok (.iload_n 1, 1) := by decide +kernel
theorem dX2_nextToken_3 : decode cX2_nextToken 3 = .ok (.bipush 100, 2) := by decide +kernel
theorem dX2_nextToken_5 : decode cX2_nextToken 5 = .ok (.if_icmp .ge 32, 3) := by decide +kernel
theorem dX2_nextToken_8 : decode cX2_nextToken 8 = .ok (.aload_n 0, 1) := by decide +kernel
theorem dX2_nextToken_9 : decode cX2_nextToken 9 = .ok (.aload_n 0, 1) := by decide +kernel
theorem dX2_nextToken_10 : decode cX2_nextToken 10 = .ok (.getfield 29, 3) := by decide +kernel
theorem dX2_nextToken_13 : decode cX2_nextToken 13 = .ok (.invokevirtual 86, 3) := by decide +kernel
theorem dX2_nextToken_16 : decode cX2_nextToken 16 = .ok (.bipush 32, 2) := by decide +kernel
theorem dX2_nextToken_18 : decode cX2_nextToken 18 = .ok (.if_icmp .ne 19, 3) := by decide +kernel
theorem dX2_nextToken_21 : decode cX2_nextToken 21 = .ok (.aload_n 0, 1) := by decide +kernel
theorem dX2_nextToken_22 : decode cX2_nextToken 22 = .ok (.dup, 1) := by decide +kernel
theorem dX2_nextToken_23 : decode cX2_nextToken 23 = .ok (.getfield 29, 3) := by decide +kernel
theorem dX2_nextToken_26 : decode cX2_nextToken 26 = .ok (.iconst 1, 1) := by decide +kernel
theorem dX2_nextToken_27 : decode cX2_nextToken 27 = .ok (.iadd, 1) := by decide +kernel
theorem dX2_nextToken_28 : decode cX2_nextToken 28 = .ok (.putfield 29, 3) := by decide +kernel
theorem dX2_nextToken_31 : decode cX2_nextToken 31 = .ok (.iinc 1 1, 3) := by decide +kernel
theorem dX2_nextToken_34 : decode cX2_nextToken 34 = .ok (.goto (-32), 3) := by decide +kernel
theorem dX2_nextToken_37 : decode cX2_nextToken 37 = .ok (.aload_n 0, 1) := by decide +kernel
theorem dX2_nextToken_38 : decode cX2_nextToken 38 = .ok (.aload_n 0, 1) := by decide +kernel
theorem dX2_nextToken_39 : decode cX2_nextToken 39 = .ok (.getfield 29, 3) := by decide +kernel
theorem dX2_nextToken_42 : decode cX2_nextToken 42 = .ok (.putfield 42, 3) := by decide +kernel
theorem dX2_nextToken_45 : decode cX2_nextToken 45 = .ok (.aload_n 0, 1) := by decide +kernel
theorem dX2_nextToken_46 : decode cX2_nextToken 46 = .ok (.aload_n 0, 1) := by decide +kernel
theorem dX2_nextToken_47 : decode cX2_nextToken 47 = .ok (.aload_n 0, 1) := by decide +kernel
theorem dX2_nextToken_48 : decode cX2_nextToken 48 = .ok (.getfield 29, 3) := by decide +kernel
theorem dX2_nextToken_51 : decode cX2_nextToken 51 = .ok (.invokevirtual 86, 3) := by decide +kernel
theorem dX2_nextToken_54 : decode cX2_nextToken 54 = .ok (.putfield 35, 3) := by decide +kernel
theorem dX2_nextToken_57 : decode cX2_nextToken 57 = .ok (.aload_n 0, 1) := by decide +kernel
theorem dX2_nextToken_58 : decode cX2_nextToken 58 = .ok (.getfield 35, 3) := by decide +kernel
theorem dX2_nextToken_61 : decode cX2_nextToken 61 = .ok (.iconst (-1), 1) := by decide +kernel
theorem dX2_nextToken_62 : decode cX2_nextToken 62 = .ok (.if_icmp .ne 4, 3) := by decide +kernel
theorem dX2_nextToken_65 : decode cX2_nextToken 65 = .ok (.return_, 1) := by decide +kernel
theorem dX2_nextToken_66 : decode cX2_nextToken 66 = .ok (.aload_n 0, 1) := by decide +kernel
theorem dX2_nextToken_67 : decode cX2_nextToken 67 = .ok (.dup, 1) := by decide +kernel
theorem dX2_nextToken_68 : decode cX2_nextToken 68 = .ok (.getfield 29, 3) := by decide +kernel
theorem dX2_nextToken_71 : decode cX2_nextToken 71 = .ok (.iconst 1, 1) := by decide +kernel
theorem dX2_nextToken_72 : decode cX2_nextToken 72 = .ok (.iadd, 1) := by decide +kernel
theorem dX2_nextToken_73 : decode cX2_nextToken 73 = .ok (.putfield 29, 3) := by decide +kernel
theorem dX2_nextToken_76 : decode cX2_nextToken 76 = .ok (.aload_n 0, 1) := by decide +kernel
theorem dX2_nextToken_77 : decode cX2_nextToken 77 = .ok (.getfield 35, 3) := by decide +kernel
theorem dX2_nextToken_80 : decode cX2_nextToken 80 = .ok (.invokestatic 83, 3) := by decide +kernel
theorem dX2_nextToken_83 : decode cX2_nextToken 83 = .ok (.ifCond .ne 4, 3) := by decide +kernel
theorem dX2_nextToken_86 : decode cX2_nextToken 86 = .ok (.return_, 1) := by decide +kernel
theorem dX2_nextToken_87 : decode cX2_nextToken 87 = .ok (.iconst 0, 1) := by decide +kernel
theorem dX2_nextToken_88 : decode cX2_nextToken 88 = .ok (.istore_n 1, 1) := by decide +kernel
theorem dX2_nextToken_89 : decode cX2_nextToken 89 = .ok (.iload_n 1, 1) := by decide +kernel
theorem dX2_nextToken_90 : decode cX2_nextToken 90 = .ok (.bipush 100, 2) := by decide +kernel
theorem dX2_nextToken_92 : decode cX2_nextToken 92 = .ok (.if_icmp .ge 39, 3) := by decide +kernel
theorem dX2_nextToken_95 : decode cX2_nextToken 95 = .ok (.aload_n 0, 1) := by decide +kernel
theorem dX2_nextToken_96 : decode cX2_nextToken 96 = .ok (.aload_n 0, 1) := by decide +kernel
theorem dX2_nextToken_97 : decode cX2_nextToken 97 = .ok (.getfield 29, 3) := by decide +kernel
theorem dX2_nextToken_100 : decode cX2_nextToken 100 = .ok (.invokevirtual 86, 3) := by decide +kernel
theorem dX2_nextToken_103 : decode cX2_nextToken 103 = .ok (.invokestatic 83, 3) := by decide +kernel
theorem dX2_nextToken_106 : decode cX2_nextToken 106 = .ok (.ifCond .eq 25, 3) := by decide +kernel
theorem dX2_nextToken_109 : decode cX2_nextToken 109 = .ok (.aload_n 0, 1) := by decide +kernel
theorem dX2_nextToken_110 : decode cX2_nextToken 110 = .ok (.dup, 1) := by decide +kernel
theorem dX2_nextToken_111 : decode cX2_nextToken 111 = .ok (.getfield 29, 3) := by decide +kernel
theorem dX2_nextToken_114 : decode cX2_nextToken 114 = .ok (.iconst 1, 1) := by decide +kernel
theorem dX2_nextToken_115 : decode cX2_nextToken 115 = .ok (.iadd, 1) := by decide +kernel
theorem dX2_nextToken_116 : decode cX2_nextToken 116 = .ok (.putfield 29, 3) := by decide +kernel
theorem dX2_nextToken_119 : decode cX2_nextToken 119 = .ok (.aload_n 0, 1) := by decide +kernel
theorem dX2_nextToken_120 : decode cX2_nextToken 120 = .ok (.bipush (-2), 2) := by decide +kernel
theorem dX2_nextToken_122 : decode cX2_nextToken 122 = .ok (.putfield 35, 3) := by decide +kernel
theorem dX2_nextToken_125 : decode cX2_nextToken 125 = .ok (.iinc 1 1, 3) := by decide +kernel
theorem dX2_nextToken_128 : decode cX2_nextToken 128 = .ok (.goto (-39), 3) := by decide +kernel
theorem dX2_nextToken_131 : decode cX2_nextToken 131 = .ok (.return_, 1) := by decide +kernel
theorem dX2_letterAt_0 : decode cX2_letterAt 0 = .ok (.iload_n 1, 1) := by decide +kernel
theorem dX2_letterAt_1 : decode cX2_letterAt 1 = .ok (.ifCond .lt 26, 3) := by decide +kernel
theorem dX2_letterAt_4 : decode cX2_letterAt 4 = .ok (.iload_n 1, 1) := by decide +kernel
theorem dX2_letterAt_5 : decode cX2_letterAt 5 = .ok (.aload_n 0, 1) := by decide +kernel
theorem dX2_letterAt_6 : decode cX2_letterAt 6 = .ok (.getfield 22, 3) := by decide +kernel
theorem dX2_letterAt_9 : decode cX2_letterAt 9 = .ok (.if_icmp .ge 18, 3) := by decide +kernel
theorem dX2_letterAt_12 : decode cX2_letterAt 12 = .ok (.iload_n 1, 1) := by decide +kernel
theorem dX2_letterAt_13 : decode cX2_letterAt 13 = .ok (.bipush 100, 2) := by decide +kernel
theorem dX2_letterAt_15 : decode cX2_letterAt 15 = .ok (.if_icmp .ge 12, 3) := by decide +kernel
theorem dX2_letterAt_18 : decode cX2_letterAt 18 = .ok (.aload_n 0, 1) := by decide +kernel
theorem dX2_letterAt_19 : decode cX2_letterAt 19 = .ok (.getfield 18, 3) := by decide +kernel
theorem dX2_letterAt_22 : decode cX2_letterAt 22 = .ok (.iload_n 1, 1) := by decide +kernel
theorem dX2_letterAt_23 : decode cX2_letterAt 23 = .ok (.iaload, 1) := by decide +kernel
theorem dX2_letterAt_24 : decode cX2_letterAt 24 = .ok (.goto 4, 3) := by decide +kernel
theorem dX2_letterAt_27 : decode cX2_letterAt 27 = .ok (.iconst (-1), 1) := by decide +kernel
theorem dX2_letterAt_28 : decode cX2_letterAt 28 = .ok (.ireturn, 1) := by decide +kernel
theorem dX2_isDigit_0 : decode cX2_isDigit 0 = .ok (.iload_n 0, 1) := by decide +kernel
theorem dX2_isDigit_1 : decode cX2_isDigit 1 = .ok (.bipush 48, 2) := by decide +kernel
theorem dX2_isDigit_3 : decode cX2_isDigit 3 = .ok (.if_icmp .lt 13, 3) := by decide +kernel
theorem dX2_isDigit_6 : decode cX2_isDigit 6 = .ok (.iload_n 0, 1) := by decide +kernel
theorem dX2_isDigit_7 : decode cX2_isDigit 7 = .ok (.bipush 57, 2) := by decide +kernel
theorem dX2_isDigit_9 : decode cX2_isDigit 9 = .ok (.if_icmp .gt 7, 3) := by decide +kernel
theorem dX2_isDigit_12 : decode cX2_isDigit 12 = .ok (.iconst 1, 1) := by decide +kernel
theorem dX2_isDigit_13 : decode cX2_isDigit 13 = .ok (.goto 4, 3) := by decide +kernel
theorem dX2_isDigit_16 : decode cX2_isDigit 16 = .ok (.iconst 0, 1) := by decide +kernel
theorem dX2_isDigit_17 : decode cX2_isDigit 17 = .ok (.ireturn, 1) := by decide +kernel
theorem dX3_init_0 : decode cX3_init 0 = .ok (.aload_n 0, 1) := by decide +kernel
theorem dX3_init_1 : decode cX3_init 1 = .ok (.invokespecial 3, 3) := by decide +kernel
theorem dX3_init_4 : decode cX3_init 4 = .ok (.aload_n 0, 1) := by decide +kernel
theorem dX3_init_5 : decode cX3_init 5 = .ok (.bipush 6, 2) := by decide +kernel
theorem dX3_init_7 : decode cX3_init 7 = .ok (.newarray .int, 2) := by decide +kernel
theorem dX3_init_9 : decode cX3_init 9 = .ok (.putfield 9, 3) := by decide +kernel
theorem dX3_init_12 : decode cX3_init 12 = .ok (.aload_n 0, 1) := by decide +kernel
theorem dX3_init_13 : decode cX3_init 13 = .ok (.bipush 6, 2) := by decide +kernel
theorem dX3_init_15 : decode cX3_init 15 = .ok (.newarray .int, 2) := by decide +kernel
theorem dX3_init_17 : decode cX3_init 17 = .ok (.putfield 15, 3) := by decide +kernel
theorem dX3_init_20 : decode cX3_init 20 = .ok (.aload_n 0, 1) := by decide +kernel
theorem dX3_init_21 : decode cX3_init 21 = .ok (.bipush 6, 2) := by decide +kernel
theorem dX3_init_23 : decode cX3_init 23 = .ok (.newarray .int, 2) := by decide +kernel
theorem dX3_init_25 : decode cX3_init 25 = .ok (.putfield 18, 3) := by decide +kernel
theorem dX3_init_28 : decode cX3_init 28 = .ok (.return_, 1) := by decide +kernel
theorem dX3_append_0 : decode cX3_append 0 = .ok (.aload_n 0, 1) := by decide +kernel
theorem dX3_append_1 : decode cX3_append 1 = .ok (.getfield 21, 3) := by decide +kernel
theorem dX3_append_4 : decode cX3_append 4 = .ok (.bipush 6, 2) := by decide +kernel
theorem dX3_append_6 : decode cX3_append 6 = .ok (.if_icmp .lt 5, 3) := by decide +kernel
theorem dX3_append_9 : decode cX3_append 9 = .ok (.iconst 0, 1) := by decide +kernel
theorem dX3_append_10 : decode cX3_append 10 = .ok (.ireturn, 1) := by decide +kernel
theorem dX3_append_11 : decode cX3_append 11 = .ok (.aload_n 0, 1) := by decide +kernel
theorem dX3_append_12 : decode cX3_append 12 = .ok (.getfield 9, 3) := by decide +kernel
theorem dX3_append_15 : decode cX3_append 15 = .ok (.aload_n 0, 1) := by decide +kernel
theorem dX3_append_16 : decode cX3_append 16 = .ok (.getfield 21, 3) := by decide +kernel
theorem dX3_append_19 : decode cX3_append 19 = .ok (.iload_n 1, 1) := by decide +kernel
theorem dX3_append_20 : decode cX3_append 20 = .ok (.iastore, 1) := by decide +kernel
theorem dX3_append_21 : decode cX3_append 21 = .ok (.aload_n 0, 1) := by decide +kernel
theorem dX3_append_22 : decode cX3_append 22 = .ok (.getfield 15, 3) := by decide +kernel
theorem dX3_append_25 : decode cX3_append 25 = .ok (.aload_n 0, 1) := by decide +kernel
theorem dX3_append_26 : decode cX3_append 26 = .ok (.getfield 21, 3) := by decide +kernel
theorem dX3_append_29 : decode cX3_append 29 = .ok (.iload_n 2, 1) := by decide +kernel
theorem dX3_append_30 : decode cX3_append 30 = .ok (.iastore, 1) := by decide +kernel
theorem dX3_append_31 : decode cX3_append 31 = .ok (.aload_n 0, 1) := by decide +kernel
theorem dX3_append_32 : decode cX3_append 32 = .ok (.getfield 18, 3) := by decide +kernel
theorem dX3_append_35 : decode cX3_append 35 = .ok (.aload_n 0, 1) := by decide +kernel
theorem dX3_append_36 : decode cX3_append 36 = .ok (.getfield 21, 3) := by decide +kernel
theorem dX3_append_39 : decode cX3_append 39 = .ok (.iload_n 3, 1) := by decide +kernel
theorem dX3_append_40 : decode cX3_append 40 = .ok (.iastore, 1) := by decide +kernel
theorem dX3_append_41 : decode cX3_append 41 = .ok (.aload_n 0, 1) := by decide +kernel
theorem dX3_append_42 : decode cX3_append 42 = .ok (.dup, 1) := by decide +kernel
theorem dX3_append_43 : decode cX3_append 43 = .ok (.getfield 21, 3) := by decide +kernel
theorem dX3_append_46 : decode cX3_append 46 = .ok (.iconst 1, 1) := by decide +kernel
theorem dX3_append_47 : decode cX3_append 47 = .ok (.iadd, 1) := by decide +kernel
theorem dX3_append_48 : decode cX3_append 48 = .ok (.putfield 21, 3) := by decide +kernel
theorem dX3_append_51 : decode cX3_append 51 = .ok (.iconst 1, 1) := by decide +kernel
theorem dX3_append_52 : decode cX3_append 52 = .ok (.ireturn, 1) := by decide +kernel
theorem dX3_agrees_0 : decode cX3_agrees 0 = .ok (.iconst 0, 1) := by decide +kernel
theorem dX3_agrees_1 : decode cX3_agrees 1 = .ok (.istore_n 2, 1) := by decide +kernel
theorem dX3_agrees_2 : decode cX3_agrees 2 = .ok (.iload_n 2, 1) := by decide +kernel
theorem dX3_agrees_3 : decode cX3_agrees 3 = .ok (.aload_n 0, 1) := by decide +kernel
theorem dX3_agrees_4 : decode cX3_agrees 4 = .ok (.getfield 21, 3) := by decide +kernel
theorem dX3_agrees_7 : decode cX3_agrees 7 = .ok (.if_icmp .ge 39, 3) := by decide +kernel
theorem dX3_agrees_10 : decode cX3_agrees 10 = .ok (.aload_n 1, 1) := by decide +kernel
theorem dX3_agrees_11 : decode cX3_agrees 11 = .ok (.aload_n 0, 1) := by decide +kernel
theorem dX3_agrees_12 : decode cX3_agrees 12 = .ok (.getfield 9, 3) := by decide +kernel
theorem dX3_agrees_15 : decode cX3_agrees 15 = .ok (.iload_n 2, 1) := by decide +kernel
theorem dX3_agrees_16 : decode cX3_agrees 16 = .ok (.iaload, 1) := by decide +kernel
theorem dX3_agrees_17 : decode cX3_agrees 17 = .ok (.invokevirtual 25, 3) := by decide +kernel
theorem dX3_agrees_20 : decode cX3_agrees 20 = .ok (.aload_n 0, 1) := by decide +kernel
theorem dX3_agrees_21 : decode cX3_agrees 21 = .ok (.getfield 15, 3) := by decide +kernel
theorem dX3_agrees_24 : decode cX3_agrees 24 = .ok (.iload_n 2, 1) := by decide +kernel
theorem dX3_agrees_25 : decode cX3_agrees 25 = .ok (.iaload, 1) := by decide +kernel
theorem dX3_agrees_26 : decode cX3_agrees 26 = .ok (.ishr, 1) := by decide +kernel
theorem dX3_agrees_27 : decode cX3_agrees 27 = .ok (.iconst 1, 1) := by decide +kernel
theorem dX3_agrees_28 : decode cX3_agrees 28 = .ok (.iand, 1) := by decide +kernel
theorem dX3_agrees_29 : decode cX3_agrees 29 = .ok (.aload_n 0, 1) := by decide +kernel
theorem dX3_agrees_30 : decode cX3_agrees 30 = .ok (.getfield 18, 3) := by decide +kernel
theorem dX3_agrees_33 : decode cX3_agrees 33 = .ok (.iload_n 2, 1) := by decide +kernel
theorem dX3_agrees_34 : decode cX3_agrees 34 = .ok (.iaload, 1) := by decide +kernel
theorem dX3_agrees_35 : decode cX3_agrees 35 = .ok (.if_icmp .eq 5, 3) := by decide +kernel
theorem dX3_agrees_38 : decode cX3_agrees 38 = .ok (.iconst 0, 1) := by decide +kernel
theorem dX3_agrees_39 : decode cX3_agrees 39 = .ok (.ireturn, 1) := by decide +kernel
theorem dX3_agrees_40 : decode cX3_agrees 40 = .ok (.iinc 2 1, 3) := by decide +kernel
theorem dX3_agrees_43 : decode cX3_agrees 43 = .ok (.goto (-41), 3) := by decide +kernel
theorem dX3_agrees_46 : decode cX3_agrees 46 = .ok (.iconst 1, 1) := by decide +kernel
theorem dX3_agrees_47 : decode cX3_agrees 47 = .ok (.ireturn, 1) := by decide +kernel
theorem dX4_init_0 : decode cX4_init 0 = .ok (.aload_n 0, 1) := by decide +kernel
theorem dX4_init_1 : decode cX4_init 1 = .ok (.invokespecial 3, 3) := by decide +kernel
theorem dX4_init_4 : decode cX4_init 4 = .ok (.aload_n 0, 1) := by decide +kernel
theorem dX4_init_5 : decode cX4_init 5 = .ok (.iconst 3, 1) := by decide +kernel
theorem dX4_init_6 : decode cX4_init 6 = .ok (.newarray .int, 2) := by decide +kernel
theorem dX4_init_8 : decode cX4_init 8 = .ok (.putfield 9, 3) := by decide +kernel
theorem dX4_init_11 : decode cX4_init 11 = .ok (.aload_n 0, 1) := by decide +kernel
theorem dX4_init_12 : decode cX4_init 12 = .ok (.bipush 9, 2) := by decide +kernel
theorem dX4_init_14 : decode cX4_init 14 = .ok (.newarray .int, 2) := by decide +kernel
theorem dX4_init_16 : decode cX4_init 16 = .ok (.putfield 15, 3) := by decide +kernel
theorem dX4_init_19 : decode cX4_init 19 = .ok (.aload_n 0, 1) := by decide +kernel
theorem dX4_init_20 : decode cX4_init 20 = .ok (.bipush 9, 2) := by decide +kernel
theorem dX4_init_22 : decode cX4_init 22 = .ok (.newarray .int, 2) := by decide +kernel
theorem dX4_init_24 : decode cX4_init 24 = .ok (.putfield 18, 3) := by decide +kernel
theorem dX4_init_27 : decode cX4_init 27 = .ok (.aload_n 0, 1) := by decide +kernel
theorem dX4_init_28 : decode cX4_init 28 = .ok (.bipush 9, 2) := by decide +kernel
theorem dX4_init_30 : decode cX4_init 30 = .ok (.newarray .int, 2) := by decide +kernel
theorem dX4_init_32 : decode cX4_init 32 = .ok (.putfield 21, 3) := by decide +kernel
theorem dX4_init_35 : decode cX4_init 35 = .ok (.aload_n 0, 1) := by decide +kernel
theorem dX4_init_36 : decode cX4_init 36 = .ok (.invokevirtual 24, 3) := by decide +kernel
theorem dX4_init_39 : decode cX4_init 39 = .ok (.return_, 1) := by decide +kernel
theorem dX4_reset_0 : decode cX4_reset 0 = .ok (.iconst 0, 1) := by decide +kernel
theorem dX4_reset_1 : decode cX4_reset 1 = .ok (.istore_n 1, 1) := by decide +kernel
theorem dX4_reset_2 : decode cX4_reset 2 = .ok (.iload_n 1, 1) := by decide +kernel
theorem dX4_reset_3 : decode cX4_reset 3 = .ok (.iconst 3, 1) := by decide +kernel
theorem dX4_reset_4 : decode cX4_reset 4 = .ok (.if_icmp .ge 16, 3) := by decide +kernel
theorem dX4_reset_7 : decode cX4_reset 7 = .ok (.aload_n 0, 1) := by decide +kernel
theorem dX4_reset_8 : decode cX4_reset 8 = .ok (.getfield 9, 3) := by decide +kernel
theorem dX4_reset_11 : decode cX4_reset 11 = .ok (.iload_n 1, 1) := by decide +kernel
theorem dX4_reset_12 : decode cX4_reset 12 = .ok (.iconst 0, 1) := by decide +kernel
theorem dX4_reset_13 : decode cX4_reset 13 = .ok (.iastore, 1) := by decide +kernel
theorem dX4_reset_14 : decode cX4_reset 14 = .ok (.iinc 1 1, 3) := by decide +kernel
theorem dX4_reset_17 : decode cX4_reset 17 = .ok (.goto (-15), 3) := by decide +kernel
theorem dX4_reset_20 : decode cX4_reset 20 = .ok (.iconst 0, 1) := by decide +kernel
theorem dX4_reset_21 : decode cX4_reset 21 = .ok (.istore_n 1, 1) := by decide +kernel
theorem dX4_reset_22 : decode cX4_reset 22 = .ok (.iload_n 1, 1) := by decide +kernel
theorem dX4_reset_23 : decode cX4_reset 23 = .ok (.bipush 9, 2) := by decide +kernel
theorem dX4_reset_25 : decode cX4_reset 25 = .ok (.if_icmp .ge 30, 3) := by decide +kernel
theorem dX4_reset_28 : decode cX4_reset 28 = .ok (.aload_n 0, 1) := by decide +kernel
theorem dX4_reset_29 : decode cX4_reset 29 = .ok (.getfield 15, 3) := by decide +kernel
theorem dX4_reset_32 : decode cX4_reset 32 = .ok (.iload_n 1, 1) := by decide +kernel
theorem dX4_reset_33 : decode cX4_reset 33 = .ok (.iconst 4, 1) := by decide +kernel
theorem dX4_reset_34 : decode cX4_reset 34 = .ok (.iastore, 1) := by decide +kernel
theorem dX4_reset_35 : decode cX4_reset 35 = .ok (.aload_n 0, 1) := by decide +kernel
theorem dX4_reset_36 : decode cX4_reset 36 = .ok (.getfield 18, 3) := by decide +kernel
theorem dX4_reset_39 : decode cX4_reset 39 = .ok (.iload_n 1, 1) := by decide +kernel
theorem dX4_reset_40 : decode cX4_reset 40 = .ok (.iconst 0, 1) := by decide +kernel
theorem dX4_reset_41 : decode cX4_reset 41 = .ok (.iastore, 1) := by decide +kernel
theorem dX4_reset_42 : decode cX4_reset 42 = .ok (.aload_n 0, 1) := by decide +kernel
theorem dX4_reset_43 : decode cX4_reset 43 = .ok (.getfield 21, 3) := by decide +kernel
theorem dX4_reset_46 : decode cX4_reset 46 = .ok (.iload_n 1, 1) := by decide +kernel
theorem dX4_reset_47 : decode cX4_reset 47 = .ok (.iconst 0, 1) := by decide +kernel
theorem dX4_reset_48 : decode cX4_reset 48 = .ok (.iastore, 1) := by decide +kernel
theorem dX4_reset_49 : decode cX4_reset 49 = .ok (.iinc 1 1, 3) := by decide +kernel
theorem dX4_reset_52 : decode cX4_reset 52 = .ok (.goto (-30), 3) := by decide +kernel
theorem dX4_reset_55 : decode cX4_reset 55 = .ok (.return_, 1) := by decide +kernel
theorem dX4_takeFrom_0 : decode cX4_takeFrom 0 = .ok (.aload_n 1, 1) := by decide +kernel
theorem dX4_takeFrom_1 : decode cX4_takeFrom 1 = .ok (.getfield 9, 3) := by decide +kernel
theorem dX4_takeFrom_4 : decode cX4_takeFrom 4 = .ok (.iconst 0, 1) := by decide +kernel
theorem dX4_takeFrom_5 : decode cX4_takeFrom 5 = .ok (.aload_n 0, 1) := by decide +kernel
theorem dX4_takeFrom_6 : decode cX4_takeFrom 6 = .ok (.getfield 9, 3) := by decide +kernel
theorem dX4_takeFrom_9 : decode cX4_takeFrom 9 = .ok (.iconst 0, 1) := by decide +kernel
theorem dX4_takeFrom_10 : decode cX4_takeFrom 10 = .ok (.iconst 3, 1) := by decide +kernel
theorem dX4_takeFrom_11 : decode cX4_takeFrom 11 = .ok (.invokestatic 27, 3) := by decide +kernel
theorem dX4_takeFrom_14 : decode cX4_takeFrom 14 = .ok (.aload_n 1, 1) := by decide +kernel
theorem dX4_takeFrom_15 : decode cX4_takeFrom 15 = .ok (.getfield 15, 3) := by decide +kernel
theorem dX4_takeFrom_18 : decode cX4_takeFrom 18 = .ok (.iconst 0, 1) := by decide +kernel
theorem dX4_takeFrom_19 : decode cX4_takeFrom 19 = .ok (.aload_n 0, 1) := by decide +kernel
theorem dX4_takeFrom_20 : decode cX4_takeFrom 20 = .ok (.getfield 15, 3) := by decide +kernel
theorem dX4_takeFrom_23 : decode cX4_takeFrom 23 = .ok (.iconst 0, 1) := by decide +kernel
theorem dX4_takeFrom_24 : decode cX4_takeFrom 24 = .ok (.bipush 9, 2) := by decide +kernel
theorem dX4_takeFrom_26 : decode cX4_takeFrom 26 = .ok (.invokestatic 27, 3) := by decide +kernel
theorem dX4_takeFrom_29 : decode cX4_takeFrom 29 = .ok (.aload_n 1, 1) := by decide +kernel
theorem dX4_takeFrom_30 : decode cX4_takeFrom 30 = .ok (.getfield 18, 3) := by decide +kernel
theorem dX4_takeFrom_33 : decode cX4_takeFrom 33 = .ok (.iconst 0, 1) := by decide +kernel
theorem dX4_takeFrom_34 : decode cX4_takeFrom 34 = .ok (.aload_n 0, 1) := by decide +kernel
theorem dX4_takeFrom_35 : decode cX4_takeFrom 35 = .ok (.getfield 18, 3) := by decide +kernel
theorem dX4_takeFrom_38 : decode cX4_takeFrom 38 = .ok (.iconst 0, 1) := by decide +kernel
theorem dX4_takeFrom_39 : decode cX4_takeFrom 39 = .ok (.bipush 9, 2) := by decide +kernel
theorem dX4_takeFrom_41 : decode cX4_takeFrom 41 = .ok (.invokestatic 27, 3) := by decide +kernel
theorem dX4_takeFrom_44 : decode cX4_takeFrom 44 = .ok (.aload_n 1, 1) := by decide +kernel
theorem dX4_takeFrom_45 : decode cX4_takeFrom 45 = .ok (.getfield 21, 3) := by decide +kernel
theorem dX4_takeFrom_48 : decode cX4_takeFrom 48 = .ok (.iconst 0, 1) := by decide +kernel
theorem dX4_takeFrom_49 : decode cX4_takeFrom 49 = .ok (.aload_n 0, 1) := by decide +kernel
theorem dX4_takeFrom_50 : decode cX4_takeFrom 50 = .ok (.getfield 21, 3) := by decide +kernel
theorem dX4_takeFrom_53 : decode cX4_takeFrom 53 = .ok (.iconst 0, 1) := by decide +kernel
theorem dX4_takeFrom_54 : decode cX4_takeFrom 54 = .ok (.bipush 9, 2) := by decide +kernel
theorem dX4_takeFrom_56 : decode cX4_takeFrom 56 = .ok (.invokestatic 27, 3) := by decide +kernel
theorem dX4_takeFrom_59 : decode cX4_takeFrom 59 = .ok (.return_, 1) := by decide +kernel
theorem dX5_init_0 : decode cX5_init 0 = .ok (.aload_n 0, 1) := by decide +kernel
theorem dX5_init_1 : decode cX5_init 1 = .ok (.invokespecial 3, 3) := by decide +kernel
theorem dX5_init_4 : decode cX5_init 4 = .ok (.aload_n 0, 1) := by decide +kernel
theorem dX5_init_5 : decode cX5_init 5 = .ok (.bipush 7, 2) := by decide +kernel
theorem dX5_init_7 : decode cX5_init 7 = .ok (.newarray .int, 2) := by decide +kernel
theorem dX5_init_9 : decode cX5_init 9 = .ok (.putfield 9, 3) := by decide +kernel
theorem dX5_init_12 : decode cX5_init 12 = .ok (.aload_n 0, 1) := by decide +kernel
theorem dX5_init_13 : decode cX5_init 13 = .ok (.bipush 7, 2) := by decide +kernel
theorem dX5_init_15 : decode cX5_init 15 = .ok (.newarray .int, 2) := by decide +kernel
theorem dX5_init_17 : decode cX5_init 17 = .ok (.putfield 15, 3) := by decide +kernel
theorem dX5_init_20 : decode cX5_init 20 = .ok (.aload_n 0, 1) := by decide +kernel
theorem dX5_init_21 : decode cX5_init 21 = .ok (.aload_n 1, 1) := by decide +kernel
theorem dX5_init_22 : decode cX5_init 22 = .ok (.putfield 18, 3) := by decide +kernel
theorem dX5_init_25 : decode cX5_init 25 = .ok (.aload_n 0, 1) := by decide +kernel
theorem dX5_init_26 : decode cX5_init 26 = .ok (.aload_n 2, 1) := by decide +kernel
theorem dX5_init_27 : decode cX5_init 27 = .ok (.putfield 22, 3) := by decide +kernel
theorem dX5_init_30 : decode cX5_init 30 = .ok (.return_, 1) := by decide +kernel
theorem dX5_run_0 : decode cX5_run 0 = .ok (.aload_n 0, 1) := by decide +kernel
theorem dX5_run_1 : decode cX5_run 1 = .ok (.aload_n 0, 1) := by decide +kernel
theorem dX5_run_2 : decode cX5_run 2 = .ok (.getfield 18, 3) := by decide +kernel
theorem dX5_run_5 : decode cX5_run 5 = .ok (.getfield 26, 3) := by decide +kernel
theorem dX5_run_8 : decode cX5_run 8 = .ok (.iload_n 1, 1) := by decide +kernel
theorem dX5_run_9 : decode cX5_run 9 = .ok (.iaload, 1) := by decide +kernel
theorem dX5_run_10 : decode cX5_run 10 = .ok (.putfield 31, 3) := by decide +kernel
theorem dX5_run_13 : decode cX5_run 13 = .ok (.aload_n 0, 1) := by decide +kernel
theorem dX5_run_14 : decode cX5_run 14 = .ok (.iload_n 2, 1) := by decide +kernel
theorem dX5_run_15 : decode cX5_run 15 = .ok (.putfield 35, 3) := by decide +kernel
theorem dX5_run_18 : decode cX5_run 18 = .ok (.aload_n 0, 1) := by decide +kernel
theorem dX5_run_19 : decode cX5_run 19 = .ok (.iload_n 3, 1) := by decide +kernel
theorem dX5_run_20 : decode cX5_run 20 = .ok (.putfield 38, 3) := by decide +kernel
theorem dX5_run_23 : decode cX5_run 23 = .ok (.aload_n 0, 1) := by decide +kernel
theorem dX5_run_24 : decode cX5_run 24 = .ok (.iconst 0, 1) := by decide +kernel
theorem dX5_run_25 : decode cX5_run 25 = .ok (.putfield 41, 3) := by decide +kernel
theorem dX5_run_28 : decode cX5_run 28 = .ok (.aload_n 0, 1) := by decide +kernel
theorem dX5_run_29 : decode cX5_run 29 = .ok (.iconst 0, 1) := by decide +kernel
theorem dX5_run_30 : decode cX5_run 30 = .ok (.putfield 44, 3) := by decide +kernel
theorem dX5_run_33 : decode cX5_run 33 = .ok (.aload_n 0, 1) := by decide +kernel
theorem dX5_run_34 : decode cX5_run 34 = .ok (.iconst 0, 1) := by decide +kernel
theorem dX5_run_35 : decode cX5_run 35 = .ok (.iconst 1, 1) := by decide +kernel
theorem dX5_run_36 : decode cX5_run 36 = .ok (.iconst 0, 1) := by decide +kernel
theorem dX5_run_37 : decode cX5_run 37 = .ok (.iconst 0, 1) := by decide +kernel
theorem dX5_run_38 : decode cX5_run 38 = .ok (.ldc 47, 2) := by decide +kernel
theorem dX5_run_40 : decode cX5_run 40 = .ok (.invokevirtual 48, 3) := by decide +kernel
theorem dX5_run_43 : decode cX5_run 43 = .ok (.return_, 1) := by decide +kernel
theorem dX5_goOn_0 : decode cX5_goOn 0 = .ok (.iload_n 1, 1) := by decide +kernel
theorem dX5_goOn_1 : decode cX5_goOn 1 = .ok (.aload_n 0, 1) := by decide +kernel
theorem dX5_goOn_2 : decode cX5_goOn 2 = .ok (.getfield 31, 3) := by decide +kernel
theorem dX5_goOn_5 : decode cX5_goOn 5 = .ok (.if_icmp .ne 13, 3) := by decide +kernel
theorem dX5_goOn_8 : decode cX5_goOn 8 = .ok (.aload_n 0, 1) := by decide +kernel
theorem dX5_goOn_9 : decode cX5_goOn 9 = .ok (.iload_n 3, 1) := by decide +kernel
theorem dX5_goOn_10 : decode cX5_goOn 10 = .ok (.iload 4, 2) := by decide +kernel
theorem dX5_goOn_12 : decode cX5_goOn 12 = .ok (.iload 5, 2) := by decide +kernel
theorem dX5_goOn_14 : decode cX5_goOn 14 = .ok (.invokevirtual 52, 3) := by decide +kernel
theorem dX5_goOn_17 : decode cX5_goOn 17 = .ok (.return_, 1) := by decide +kernel
theorem dX5_goOn_18 : decode cX5_goOn 18 = .ok (.iload 4, 2) := by decide +kernel
theorem dX5_goOn_20 : decode cX5_goOn 20 = .ok (.bipush 7, 2) := by decide +kernel
theorem dX5_goOn_22 : decode cX5_goOn 22 = .ok (.if_icmp .lt 4, 3) := by decide +kernel
theorem dX5_goOn_25 : decode cX5_goOn 25 = .ok (.return_, 1) := by decide +kernel
theorem dX5_goOn_26 : decode cX5_goOn 26 = .ok (.iconst 0, 1) := by decide +kernel
theorem dX5_goOn_27 : decode cX5_goOn 27 = .ok (.istore 6, 2) := by decide +kernel
theorem dX5_goOn_29 : decode cX5_goOn 29 = .ok (.iload 6, 2) := by decide +kernel
theorem dX5_goOn_31 : decode cX5_goOn 31 = .ok (.aload_n 0, 1) := by decide +kernel
theorem dX5_goOn_32 : decode cX5_goOn 32 = .ok (.getfield 18, 3) := by decide +kernel
theorem dX5_goOn_35 : decode cX5_goOn 35 = .ok (.getfield 56, 3) := by decide +kernel
theorem dX5_goOn_38 : decode cX5_goOn 38 = .ok (.if_icmp .ge 79, 3) := by decide +kernel
theorem dX5_goOn_41 : decode cX5_goOn 41 = .ok (.aload_n 0, 1) := by decide +kernel
theorem dX5_goOn_42 : decode cX5_goOn 42 = .ok (.getfield 22, 3) := by decide +kernel
theorem dX5_goOn_45 : decode cX5_goOn 45 = .ok (.iload 6, 2) := by decide +kernel
theorem dX5_goOn_47 : decode cX5_goOn 47 = .ok (.iload_n 1, 1) := by decide +kernel
theorem dX5_goOn_48 : decode cX5_goOn 48 = .ok (.invokevirtual 59, 3) := by decide +kernel
theorem dX5_goOn_51 : decode cX5_goOn 51 = .ok (.istore 7, 2) := by decide +kernel
theorem dX5_goOn_53 : decode cX5_goOn 53 = .ok (.iload 7, 2) := by decide +kernel
theorem dX5_goOn_55 : decode cX5_goOn 55 = .ok (.ifCond .lt 56, 3) := by decide +kernel
theorem dX5_goOn_58 : decode cX5_goOn 58 = .ok (.iload_n 2, 1) := by decide +kernel
theorem dX5_goOn_59 : decode cX5_goOn 59 = .ok (.iload 7, 2) := by decide +kernel
theorem dX5_goOn_61 : decode cX5_goOn 61 = .ok (.ishr, 1) := by decide +kernel
theorem dX5_goOn_62 : decode cX5_goOn 62 = .ok (.iconst 1, 1) := by decide +kernel
theorem dX5_goOn_63 : decode cX5_goOn 63 = .ok (.iand, 1) := by decide +kernel
theorem dX5_goOn_64 : decode cX5_goOn 64 = .ok (.ifCond .ne 47, 3) := by decide +kernel
theorem dX5_goOn_67 : decode cX5_goOn 67 = .ok (.aload_n 0, 1) := by decide +kernel
theorem dX5_goOn_68 : decode cX5_goOn 68 = .ok (.getfield 15, 3) := by decide +kernel
theorem dX5_goOn_71 : decode cX5_goOn 71 = .ok (.iload 4, 2) := by decide +kernel
theorem dX5_goOn_73 : decode cX5_goOn 73 = .ok (.iload 6, 2) := by decide +kernel
theorem dX5_goOn_75 : decode cX5_goOn 75 = .ok (.iastore, 1) := by decide +kernel
theorem dX5_goOn_76 : decode cX5_goOn 76 = .ok (.aload_n 0, 1) := by decide +kernel
theorem dX5_goOn_77 : decode cX5_goOn 77 = .ok (.iload 7, 2) := by decide +kernel
theorem dX5_goOn_79 : decode cX5_goOn 79 = .ok (.iload_n 2, 1) := by decide +kernel
theorem dX5_goOn_80 : decode cX5_goOn 80 = .ok (.iconst 1, 1) := by decide +kernel
theorem dX5_goOn_81 : decode cX5_goOn 81 = .ok (.iload 7, 2) := by decide +kernel
theorem dX5_goOn_83 : decode cX5_goOn 83 = .ok (.ishl, 1) := by decide +kernel
theorem dX5_goOn_84 : decode cX5_goOn 84 = .ok (.ior, 1) := by decide +kernel
theorem dX5_goOn_85 : decode cX5_goOn 85 = .ok (.iload_n 3, 1) := by decide +kernel
theorem dX5_goOn_86 : decode cX5_goOn 86 = .ok (.iconst 1, 1) := by decide +kernel
theorem dX5_goOn_87 : decode cX5_goOn 87 = .ok (.iload 6, 2) := by decide +kernel
theorem dX5_goOn_89 : decode cX5_goOn 89 = .ok (.ishl, 1) := by decide +kernel
theorem dX5_goOn_90 : decode cX5_goOn 90 = .ok (.ior, 1) := by decide +kernel
theorem dX5_goOn_91 : decode cX5_goOn 91 = .ok (.iload 4, 2) := by decide +kernel
theorem dX5_goOn_93 : decode cX5_goOn 93 = .ok (.iconst 1, 1) := by decide +kernel
theorem dX5_goOn_94 : decode cX5_goOn 94 = .ok (.iadd, 1) := by decide +kernel
theorem dX5_goOn_95 : decode cX5_goOn 95 = .ok (.iload 5, 2) := by decide +kernel
theorem dX5_goOn_97 : decode cX5_goOn 97 = .ok (.aload_n 0, 1) := by decide +kernel
theorem dX5_goOn_98 : decode cX5_goOn 98 = .ok (.getfield 22, 3) := by decide +kernel
theorem dX5_goOn_101 : decode cX5_goOn 101 = .ok (.getfield 65, 3) := by decide +kernel
theorem dX5_goOn_104 : decode cX5_goOn 104 = .ok (.iload 6, 2) := by decide +kernel
theorem dX5_goOn_106 : decode cX5_goOn 106 = .ok (.iaload, 1) := by decide +kernel
theorem dX5_goOn_107 : decode cX5_goOn 107 = .ok (.iand, 1) := by decide +kernel
theorem dX5_goOn_108 : decode cX5_goOn 108 = .ok (.invokevirtual 48, 3) := by decide +kernel
theorem dX5_goOn_111 : decode cX5_goOn 111 = .ok (.iinc 6 1, 3) := by decide +kernel
theorem dX5_goOn_114 : decode cX5_goOn 114 = .ok (.goto (-85), 3) := by decide +kernel
theorem dX5_goOn_117 : decode cX5_goOn 117 = .ok (.return_, 1) := by decide +kernel
theorem dX5_arrive_0 : decode cX5_arrive 0 = .ok (.aload_n 0, 1) := by decide +kernel
theorem dX5_arrive_1 : decode cX5_arrive 1 = .ok (.getfield 41, 3) := by decide +kernel
theorem dX5_arrive_4 : decode cX5_arrive 4 = .ok (.aload_n 0, 1) := by decide +kernel
theorem dX5_arrive_5 : decode cX5_arrive 5 = .ok (.getfield 35, 3) := by decide +kernel
theorem dX5_arrive_8 : decode cX5_arrive 8 = .ok (.if_icmp .ne 18, 3) := by decide +kernel
theorem dX5_arrive_11 : decode cX5_arrive 11 = .ok (.aload_n 0, 1) := by decide +kernel
theorem dX5_arrive_12 : decode cX5_arrive 12 = .ok (.iload_n 1, 1) := by decide +kernel
theorem dX5_arrive_13 : decode cX5_arrive 13 = .ok (.putfield 68, 3) := by decide +kernel
theorem dX5_arrive_16 : decode cX5_arrive 16 = .ok (.aload_n 0, 1) := by decide +kernel
theorem dX5_arrive_17 : decode cX5_arrive 17 = .ok (.iload_n 2, 1) := by decide +kernel
theorem dX5_arrive_18 : decode cX5_arrive 18 = .ok (.putfield 71, 3) := by decide +kernel
theorem dX5_arrive_21 : decode cX5_arrive 21 = .ok (.aload_n 0, 1) := by decide +kernel
theorem dX5_arrive_22 : decode cX5_arrive 22 = .ok (.iload_n 3, 1) := by decide +kernel
theorem dX5_arrive_23 : decode cX5_arrive 23 = .ok (.putfield 74, 3) := by decide +kernel
theorem dX5_arrive_26 : decode cX5_arrive 26 = .ok (.aload_n 0, 1) := by decide +kernel
theorem dX5_arrive_27 : decode cX5_arrive 27 = .ok (.dup, 1) := by decide +kernel
theorem dX5_arrive_28 : decode cX5_arrive 28 = .ok (.getfield 41, 3) := by decide +kernel
theorem dX5_arrive_31 : decode cX5_arrive 31 = .ok (.iconst 1, 1) := by decide +kernel
theorem dX5_arrive_32 : decode cX5_arrive 32 = .ok (.iadd, 1) := by decide +kernel
theorem dX5_arrive_33 : decode cX5_arrive 33 = .ok (.putfield 41, 3) := by decide +kernel
theorem dX5_arrive_36 : decode cX5_arrive 36 = .ok (.aload_n 0, 1) := by decide +kernel
theorem dX5_arrive_37 : decode cX5_arrive 37 = .ok (.getfield 38, 3) := by decide +kernel
theorem dX5_arrive_40 : decode cX5_arrive 40 = .ok (.ifCond .lt 48, 3) := by decide +kernel
theorem dX5_arrive_43 : decode cX5_arrive 43 = .ok (.iload_n 3, 1) := by decide +kernel
theorem dX5_arrive_44 : decode cX5_arrive 44 = .ok (.aload_n 0, 1) := by decide +kernel
theorem dX5_arrive_45 : decode cX5_arrive 45 = .ok (.getfield 38, 3) := by decide +kernel
theorem dX5_arrive_48 : decode cX5_arrive 48 = .ok (.ishr, 1) := by decide +kernel
theorem dX5_arrive_49 : decode cX5_arrive 49 = .ok (.iconst 1, 1) := by decide +kernel
theorem dX5_arrive_50 : decode cX5_arrive 50 = .ok (.iand, 1) := by decide +kernel
theorem dX5_arrive_51 : decode cX5_arrive 51 = .ok (.ifCond .eq 37, 3) := by decide +kernel
theorem dX5_arrive_54 : decode cX5_arrive 54 = .ok (.aload_n 0, 1) := by decide +kernel
theorem dX5_arrive_55 : decode cX5_arrive 55 = .ok (.getfield 44, 3) := by decide +kernel
theorem dX5_arrive_58 : decode cX5_arrive 58 = .ok (.ifCond .eq 11, 3) := by decide +kernel
theorem dX5_arrive_61 : decode cX5_arrive 61 = .ok (.iload_n 2, 1) := by decide +kernel
theorem dX5_arrive_62 : decode cX5_arrive 62 = .ok (.aload_n 0, 1) := by decide +kernel
theorem dX5_arrive_63 : decode cX5_arrive 63 = .ok (.getfield 44, 3) := by decide +kernel
theorem dX5_arrive_66 : decode cX5_arrive 66 = .ok (.if_icmp .ge 22, 3) := by decide +kernel
theorem dX5_arrive_69 : decode cX5_arrive 69 = .ok (.aload_n 0, 1) := by decide +kernel
theorem dX5_arrive_70 : decode cX5_arrive 70 = .ok (.iload_n 2, 1) := by decide +kernel
theorem dX5_arrive_71 : decode cX5_arrive 71 = .ok (.putfield 44, 3) := by decide +kernel
theorem dX5_arrive_74 : decode cX5_arrive 74 = .ok (.aload_n 0, 1) := by decide +kernel
theorem dX5_arrive_75 : decode cX5_arrive 75 = .ok (.getfield 15, 3) := by decide +kernel
theorem dX5_arrive_78 : decode cX5_arrive 78 = .ok (.iconst 0, 1) := by decide +kernel
theorem dX5_arrive_79 : decode cX5_arrive 79 = .ok (.aload_n 0, 1) := by decide +kernel
theorem dX5_arrive_80 : decode cX5_arrive 80 = .ok (.getfield 9, 3) := by decide +kernel
theorem dX5_arrive_83 : decode cX5_arrive 83 = .ok (.iconst 0, 1) := by decide +kernel
theorem dX5_arrive_84 : decode cX5_arrive 84 = .ok (.iload_n 2, 1) := by decide +kernel
theorem dX5_arrive_85 : decode cX5_arrive 85 = .ok (.invokestatic 76, 3) := by decide +kernel
theorem dX5_arrive_88 : decode cX5_arrive 88 = .ok (.return_, 1) := by decide +kernel
theorem dX6_init_0 : decode cX6_init 0 = .ok (.aload_n 0, 1) := by decide +kernel
theorem dX6_init_1 : decode cX6_init 1 = .ok (.invokespecial 3, 3) := by decide +kernel
theorem dX6_init_4 : decode cX6_init 4 = .ok (.aload_n 0, 1) := by decide +kernel
theorem dX6_init_5 : decode cX6_init 5 = .ok (.bipush 9, 2) := by decide +kernel
theorem dX6_init_7 : decode cX6_init 7 = .ok (.newarray .int, 2) := by decide +kernel
theorem dX6_init_9 : decode cX6_init 9 = .ok (.putfield 9, 3) := by decide +kernel
theorem dX6_init_12 : decode cX6_init 12 = .ok (.aload_n 0, 1) := by decide +kernel
theorem dX6_init_13 : decode cX6_init 13 = .ok (.bipush 9, 2) := by decide +kernel
theorem dX6_init_15 : decode cX6_init 15 = .ok (.newarray .boolean, 2) := by decide +kernel
theorem dX6_init_17 : decode cX6_init 17 = .ok (.putfield 15, 3) := by decide +kernel
theorem dX6_init_20 : decode cX6_init 20 = .ok (.aload_n 0, 1) := by decide +kernel
theorem dX6_init_21 : decode cX6_init 21 = .ok (.bipush 9, 2) := by decide +kernel
theorem dX6_init_23 : decode cX6_init 23 = .ok (.newarray .boolean, 2) := by decide +kernel
theorem dX6_init_25 : decode cX6_init 25 = .ok (.putfield 19, 3) := by decide +kernel
theorem dX6_init_28 : decode cX6_init 28 = .ok (.aload_n 0, 1) := by decide +kernel
theorem dX6_init_29 : decode cX6_init 29 = .ok (.bipush 7, 2) := by decide +kernel
theorem dX6_init_31 : decode cX6_init 31 = .ok (.newarray .int, 2) := by decide +kernel
theorem dX6_init_33 : decode cX6_init 33 = .ok (.putfield 22, 3) := by decide +kernel
theorem dX6_init_36 : decode cX6_init 36 = .ok (.aload_n 0, 1) := by decide +kernel
theorem dX6_init_37 : decode cX6_init 37 = .ok (.aload_n 1, 1) := by decide +kernel
theorem dX6_init_38 : decode cX6_init 38 = .ok (.putfield 25, 3) := by decide +kernel
theorem dX6_init_41 : decode cX6_init 41 = .ok (.aload_n 0, 1) := by decide +kernel
theorem dX6_init_42 : decode cX6_init 42 = .ok (.aload_n 2, 1) := by decide +kernel
theorem dX6_init_43 : decode cX6_init 43 = .ok (.putfield 29, 3) := by decide +kernel
theorem dX6_init_46 : decode cX6_init 46 = .ok (.return_, 1) := by decide +kernel
theorem dX6_layAll_0 : decode cX6_layAll 0 = .ok (.iconst 0, 1) := by decide +kernel
theorem dX6_layAll_1 : decode cX6_layAll 1 = .ok (.istore_n 1, 1) := by decide +kernel
theorem dX6_layAll_2 : decode cX6_layAll 2 = .ok (.iload_n 1, 1) := by decide +kernel
theorem dX6_layAll_3 : decode cX6_layAll 3 = .ok (.aload_n 0, 1) := by decide +kernel
theorem dX6_layAll_4 : decode cX6_layAll 4 = .ok (.getfield 25, 3) := by decide +kernel
theorem dX6_layAll_7 : decode cX6_layAll 7 = .ok (.getfield 33, 3) := by decide +kernel
theorem dX6_layAll_10 : decode cX6_layAll 10 = .ok (.if_icmp .ge 41, 3) := by decide +kernel
theorem dX6_layAll_13 : decode cX6_layAll 13 = .ok (.aload_n 0, 1) := by decide +kernel
theorem dX6_layAll_14 : decode cX6_layAll 14 = .ok (.iload_n 1, 1) := by decide +kernel
theorem dX6_layAll_15 : decode cX6_layAll 15 = .ok (.aload_n 0, 1) := by decide +kernel
theorem dX6_layAll_16 : decode cX6_layAll 16 = .ok (.getfield 29, 3) := by decide +kernel
theorem dX6_layAll_19 : decode cX6_layAll 19 = .ok (.getfield 39, 3) := by decide +kernel
theorem dX6_layAll_22 : decode cX6_layAll 22 = .ok (.iload_n 1, 1) := by decide +kernel
theorem dX6_layAll_23 : decode cX6_layAll 23 = .ok (.iaload, 1) := by decide +kernel
theorem dX6_layAll_24 : decode cX6_layAll 24 = .ok (.aload_n 0, 1) := by decide +kernel
theorem dX6_layAll_25 : decode cX6_layAll 25 = .ok (.getfield 29, 3) := by decide +kernel
theorem dX6_layAll_28 : decode cX6_layAll 28 = .ok (.getfield 44, 3) := by decide +kernel
theorem dX6_layAll_31 : decode cX6_layAll 31 = .ok (.iload_n 1, 1) := by decide +kernel
theorem dX6_layAll_32 : decode cX6_layAll 32 = .ok (.iaload, 1) := by decide +kernel
theorem dX6_layAll_33 : decode cX6_layAll 33 = .ok (.aload_n 0, 1) := by decide +kernel
theorem dX6_layAll_34 : decode cX6_layAll 34 = .ok (.getfield 29, 3) := by decide +kernel
theorem dX6_layAll_37 : decode cX6_layAll 37 = .ok (.getfield 47, 3) := by decide +kernel
theorem dX6_layAll_40 : decode cX6_layAll 40 = .ok (.iload_n 1, 1) := by decide +kernel
theorem dX6_layAll_41 : decode cX6_layAll 41 = .ok (.iaload, 1) := by decide +kernel
theorem dX6_layAll_42 : decode cX6_layAll 42 = .ok (.invokevirtual 50, 3) := by decide +kernel
theorem dX6_layAll_45 : decode cX6_layAll 45 = .ok (.iinc 1 1, 3) := by decide +kernel
theorem dX6_layAll_48 : decode cX6_layAll 48 = .ok (.goto (-46), 3) := by decide +kernel
theorem dX6_layAll_51 : decode cX6_layAll 51 = .ok (.return_, 1) := by decide +kernel
theorem dX6_layOne_0 : decode cX6_layOne 0 = .ok (.iload 4, 2) := by decide +kernel
theorem dX6_layOne_2 : decode cX6_layOne 2 = .ok (.ifCond .eq 50, 3) := by decide +kernel
theorem dX6_layOne_5 : decode cX6_layOne 5 = .ok (.iload 4, 2) := by decide +kernel
theorem dX6_layOne_7 : decode cX6_layOne 7 = .ok (.iconst 2, 1) := by decide +kernel
theorem dX6_layOne_8 : decode cX6_layOne 8 = .ok (.if_icmp .ne 7, 3) := by decide +kernel
theorem dX6_layOne_11 : decode cX6_layOne 11 = .ok (.iconst 1, 1) := by decide +kernel
theorem dX6_layOne_12 : decode cX6_layOne 12 = .ok (.goto 4, 3) := by decide +kernel
theorem dX6_layOne_15 : decode cX6_layOne 15 = .ok (.iconst 0, 1) := by decide +kernel
theorem dX6_layOne_16 : decode cX6_layOne 16 = .ok (.istore 5, 2) := by decide +kernel
theorem dX6_layOne_18 : decode cX6_layOne 18 = .ok (.aload_n 0, 1) := by decide +kernel
theorem dX6_layOne_19 : decode cX6_layOne 19 = .ok (.getfield 9, 3) := by decide +kernel
theorem dX6_layOne_22 : decode cX6_layOne 22 = .ok (.iload_n 1, 1) := by decide +kernel
theorem dX6_layOne_23 : decode cX6_layOne 23 = .ok (.iload 5, 2) := by decide +kernel
theorem dX6_layOne_25 : decode cX6_layOne 25 = .ok (.ifCond .eq 8, 3) := by decide +kernel
theorem dX6_layOne_28 : decode cX6_layOne 28 = .ok (.ldc 54, 2) := by decide +kernel
theorem dX6_layOne_30 : decode cX6_layOne 30 = .ok (.goto 4, 3) := by decide +kernel
theorem dX6_layOne_33 : decode cX6_layOne 33 = .ok (.iconst 0, 1) := by decide +kernel
theorem dX6_layOne_34 : decode cX6_layOne 34 = .ok (.iastore, 1) := by decide +kernel
theorem dX6_layOne_35 : decode cX6_layOne 35 = .ok (.aload_n 0, 1) := by decide +kernel
theorem dX6_layOne_36 : decode cX6_layOne 36 = .ok (.getfield 15, 3) := by decide +kernel
theorem dX6_layOne_39 : decode cX6_layOne 39 = .ok (.iload_n 1, 1) := by decide +kernel
theorem dX6_layOne_40 : decode cX6_layOne 40 = .ok (.iload 5, 2) := by decide +kernel
theorem dX6_layOne_42 : decode cX6_layOne 42 = .ok (.bastore, 1) := by decide +kernel
theorem dX6_layOne_43 : decode cX6_layOne 43 = .ok (.aload_n 0, 1) := by decide +kernel
theorem dX6_layOne_44 : decode cX6_layOne 44 = .ok (.getfield 19, 3) := by decide +kernel
theorem dX6_layOne_47 : decode cX6_layOne 47 = .ok (.iload_n 1, 1) := by decide +kernel
theorem dX6_layOne_48 : decode cX6_layOne 48 = .ok (.iload 5, 2) := by decide +kernel
theorem dX6_layOne_50 : decode cX6_layOne 50 = .ok (.bastore, 1) := by decide +kernel
theorem dX6_layOne_51 : decode cX6_layOne 51 = .ok (.return_, 1) := by decide +kernel
theorem dX6_layOne_52 : decode cX6_layOne 52 = .ok (.aload_n 0, 1) := by decide +kernel
theorem dX6_layOne_53 : decode cX6_layOne 53 = .ok (.getfield 9, 3) := by decide +kernel
theorem dX6_layOne_56 : decode cX6_layOne 56 = .ok (.iload_n 1, 1) := by decide +kernel
theorem dX6_layOne_57 : decode cX6_layOne 57 = .ok (.aload_n 0, 1) := by decide +kernel
theorem dX6_layOne_58 : decode cX6_layOne 58 = .ok (.getfield 25, 3) := by decide +kernel
theorem dX6_layOne_61 : decode cX6_layOne 61 = .ok (.getfield 55, 3) := by decide +kernel
theorem dX6_layOne_64 : decode cX6_layOne 64 = .ok (.iload_n 1, 1) := by decide +kernel
theorem dX6_layOne_65 : decode cX6_layOne 65 = .ok (.iaload, 1) := by decide +kernel
theorem dX6_layOne_66 : decode cX6_layOne 66 = .ok (.aload_n 0, 1) := by decide +kernel
theorem dX6_layOne_67 : decode cX6_layOne 67 = .ok (.getfield 25, 3) := by decide +kernel
theorem dX6_layOne_70 : decode cX6_layOne 70 = .ok (.getfield 58, 3) := by decide +kernel
theorem dX6_layOne_73 : decode cX6_layOne 73 = .ok (.iload_n 1, 1) := by decide +kernel
theorem dX6_layOne_74 : decode cX6_layOne 74 = .ok (.iaload, 1) := by decide +kernel
theorem dX6_layOne_75 : decode cX6_layOne 75 = .ok (.invokestatic 61, 3) := by decide +kernel
theorem dX6_layOne_78 : decode cX6_layOne 78 = .ok (.iload_n 2, 1) := by decide +kernel
theorem dX6_layOne_79 : decode cX6_layOne 79 = .ok (.iload_n 3, 1) := by decide +kernel
theorem dX6_layOne_80 : decode cX6_layOne 80 = .ok (.invokestatic 61, 3) := by decide +kernel
theorem dX6_layOne_83 : decode cX6_layOne 83 = .ok (.iand, 1) := by decide +kernel
theorem dX6_layOne_84 : decode cX6_layOne 84 = .ok (.iastore, 1) := by decide +kernel
theorem dX6_layOne_85 : decode cX6_layOne 85 = .ok (.aload_n 0, 1) := by decide +kernel
theorem dX6_layOne_86 : decode cX6_layOne 86 = .ok (.getfield 15, 3) := by decide +kernel
theorem dX6_layOne_89 : decode cX6_layOne 89 = .ok (.iload_n 1, 1) := by decide +kernel
theorem dX6_layOne_90 : decode cX6_layOne 90 = .ok (.iload_n 2, 1) := by decide +kernel
theorem dX6_layOne_91 : decode cX6_layOne 91 = .ok (.iconst 3, 1) := by decide +kernel
theorem dX6_layOne_92 : decode cX6_layOne 92 = .ok (.if_icmp .eq 7, 3) := by decide +kernel
theorem dX6_layOne_95 : decode cX6_layOne 95 = .ok (.iconst 1, 1) := by decide +kernel
theorem dX6_layOne_96 : decode cX6_layOne 96 = .ok (.goto 4, 3) := by decide +kernel
theorem dX6_layOne_99 : decode cX6_layOne 99 = .ok (.iconst 0, 1) := by decide +kernel
theorem dX6_layOne_100 : decode cX6_layOne 100 = .ok (.bastore, 1) := by decide +kernel
theorem dX6_layOne_101 : decode cX6_layOne 101 = .ok (.aload_n 0, 1) := by decide +kernel
theorem dX6_layOne_102 : decode cX6_layOne 102 = .ok (.getfield 19, 3) := by decide +kernel
theorem dX6_layOne_105 : decode cX6_layOne 105 = .ok (.iload_n 1, 1) := by decide +kernel
theorem dX6_layOne_106 : decode cX6_layOne 106 = .ok (.iload_n 2, 1) := by decide +kernel
theorem dX6_layOne_107 : decode cX6_layOne 107 = .ok (.iconst 2, 1) := by decide +kernel
theorem dX6_layOne_108 : decode cX6_layOne 108 = .ok (.if_icmp .eq 20, 3) := by decide +kernel
theorem dX6_layOne_111 : decode cX6_layOne 111 = .ok (.aload_n 0, 1) := by decide +kernel
theorem dX6_layOne_112 : decode cX6_layOne 112 = .ok (.getfield 25, 3) := by decide +kernel
theorem dX6_layOne_115 : decode cX6_layOne 115 = .ok (.getfield 55, 3) := by decide +kernel
theorem dX6_layOne_118 : decode cX6_layOne 118 = .ok (.iload_n 1, 1) := by decide +kernel
theorem dX6_layOne_119 : decode cX6_layOne 119 = .ok (.iaload, 1) := by decide +kernel
theorem dX6_layOne_120 : decode cX6_layOne 120 = .ok (.iconst 3, 1) := by decide +kernel
theorem dX6_layOne_121 : decode cX6_layOne 121 = .ok (.if_icmp .eq 7, 3) := by decide +kernel
theorem dX6_layOne_124 : decode cX6_layOne 124 = .ok (.iconst 1, 1) := by decide +kernel
theorem dX6_layOne_125 : decode cX6_layOne 125 = .ok (.goto 4, 3) := by decide +kernel
theorem dX6_layOne_128 : decode cX6_layOne 128 = .ok (.iconst 0, 1) := by decide +kernel
theorem dX6_layOne_129 : decode cX6_layOne 129 = .ok (.bastore, 1) := by decide +kernel
theorem dX6_layOne_130 : decode cX6_layOne 130 = .ok (.return_, 1) := by decide +kernel
theorem dX6_shutBy_0 : decode cX6_shutBy 0 = .ok (.iload_n 0, 1) := by decide +kernel
theorem dX6_shutBy_1 : decode cX6_shutBy 1 = .ok (.iconst 1, 1) := by decide +kernel
theorem dX6_shutBy_2 : decode cX6_shutBy 2 = .ok (.if_icmp .gt 12, 3) := by decide +kernel
theorem dX6_shutBy_5 : decode cX6_shutBy 5 = .ok (.iload_n 1, 1) := by decide +kernel
theorem dX6_shutBy_6 : decode cX6_shutBy 6 = .ok (.ifCond .lt 8, 3) := by decide +kernel
theorem dX6_shutBy_9 : decode cX6_shutBy 9 = .ok (.iload_n 1, 1) := by decide +kernel
theorem dX6_shutBy_10 : decode cX6_shutBy 10 = .ok (.iconst 4, 1) := by decide +kernel
theorem dX6_shutBy_11 : decode cX6_shutBy 11 = .ok (.if_icmp .lt 6, 3) := by decide +kernel
theorem dX6_shutBy_14 : decode cX6_shutBy 14 = .ok (.ldc 54, 2) := by decide +kernel
theorem dX6_shutBy_16 : decode cX6_shutBy 16 = .ok (.ireturn, 1) := by decide +kernel
theorem dX6_shutBy_17 : decode cX6_shutBy 17 = .ok (.getstatic 65, 3) := by decide +kernel
theorem dX6_shutBy_20 : decode cX6_shutBy 20 = .ok (.iload_n 1, 1) := by decide +kernel
theorem dX6_shutBy_21 : decode cX6_shutBy 21 = .ok (.iaload, 1) := by decide +kernel
theorem dX6_shutBy_22 : decode cX6_shutBy 22 = .ok (.istore_n 2, 1) := by decide +kernel
theorem dX6_shutBy_23 : decode cX6_shutBy 23 = .ok (.iload_n 0, 1) := by decide +kernel
theorem dX6_shutBy_24 : decode cX6_shutBy 24 = .ok (.ifCond .ne 7, 3) := by decide +kernel
theorem dX6_shutBy_27 : decode cX6_shutBy 27 = .ok (.iload_n 2, 1) := by decide +kernel
theorem dX6_shutBy_28 : decode cX6_shutBy 28 = .ok (.goto 9, 3) := by decide +kernel
theorem dX6_shutBy_31 : decode cX6_shutBy 31 = .ok (.ldc 54, 2) := by decide +kernel
theorem dX6_shutBy_33 : decode cX6_shutBy 33 = .ok (.iload_n 2, 1) := by decide +kernel
theorem dX6_shutBy_34 : decode cX6_shutBy 34 = .ok (.iconst (-1), 1) := by decide +kernel
theorem dX6_shutBy_35 : decode cX6_shutBy 35 = .ok (.ixor, 1) := by decide +kernel
theorem dX6_shutBy_36 : decode cX6_shutBy 36 = .ok (.iand, 1) := by decide +kernel
theorem dX6_shutBy_37 : decode cX6_shutBy 37 = .ok (.ireturn, 1) := by decide +kernel
theorem dX6_spread_0 : decode cX6_spread 0 = .ok (.iconst 0, 1) := by decide +kernel
theorem dX6_spread_1 : decode cX6_spread 1 = .ok (.istore_n 2, 1) := by decide +kernel
theorem dX6_spread_2 : decode cX6_spread 2 = .ok (.iload_n 2, 1) := by decide +kernel
theorem dX6_spread_3 : decode cX6_spread 3 = .ok (.bipush 7, 2) := by decide +kernel
theorem dX6_spread_5 : decode cX6_spread 5 = .ok (.if_icmp .ge 16, 3) := by decide +kernel
theorem dX6_spread_8 : decode cX6_spread 8 = .ok (.aload_n 0, 1) := by decide +kernel
theorem dX6_spread_9 : decode cX6_spread 9 = .ok (.getfield 22, 3) := by decide +kernel
theorem dX6_spread_12 : decode cX6_spread 12 = .ok (.iload_n 2, 1) := by decide +kernel
theorem dX6_spread_13 : decode cX6_spread 13 = .ok (.iconst 0, 1) := by decide +kernel
theorem dX6_spread_14 : decode cX6_spread 14 = .ok (.iastore, 1) := by decide +kernel
theorem dX6_spread_15 : decode cX6_spread 15 = .ok (.iinc 2 1, 3) := by decide +kernel
theorem dX6_spread_18 : decode cX6_spread 18 = .ok (.goto (-16), 3) := by decide +kernel
theorem dX6_spread_21 : decode cX6_spread 21 = .ok (.aload_n 0, 1) := by decide +kernel
theorem dX6_spread_22 : decode cX6_spread 22 = .ok (.getfield 22, 3) := by decide +kernel
theorem dX6_spread_25 : decode cX6_spread 25 = .ok (.iconst 0, 1) := by decide +kernel
theorem dX6_spread_26 : decode cX6_spread 26 = .ok (.ldc 54, 2) := by decide +kernel
theorem dX6_spread_28 : decode cX6_spread 28 = .ok (.iastore, 1) := by decide +kernel
theorem dX6_spread_29 : decode cX6_spread 29 = .ok (.aload_n 0, 1) := by decide +kernel
theorem dX6_spread_30 : decode cX6_spread 30 = .ok (.iconst 1, 1) := by decide +kernel
theorem dX6_spread_31 : decode cX6_spread 31 = .ok (.putfield 68, 3) := by decide +kernel
theorem dX6_spread_34 : decode cX6_spread 34 = .ok (.iconst 1, 1) := by decide +kernel
theorem dX6_spread_35 : decode cX6_spread 35 = .ok (.istore_n 2, 1) := by decide +kernel
theorem dX6_spread_36 : decode cX6_spread 36 = .ok (.iload_n 2, 1) := by decide +kernel
theorem dX6_spread_37 : decode cX6_spread 37 = .ok (.aload_n 0, 1) := by decide +kernel
theorem dX6_spread_38 : decode cX6_spread 38 = .ok (.getfield 25, 3) := by decide +kernel
theorem dX6_spread_41 : decode cX6_spread 41 = .ok (.getfield 72, 3) := by decide +kernel
theorem dX6_spread_44 : decode cX6_spread 44 = .ok (.if_icmp .ge 53, 3) := by decide +kernel
theorem dX6_spread_47 : decode cX6_spread 47 = .ok (.aload_n 0, 1) := by decide +kernel
theorem dX6_spread_48 : decode cX6_spread 48 = .ok (.getfield 68, 3) := by decide +kernel
theorem dX6_spread_51 : decode cX6_spread 51 = .ok (.ifCond .eq 46, 3) := by decide +kernel
theorem dX6_spread_54 : decode cX6_spread 54 = .ok (.aload_n 0, 1) := by decide +kernel
theorem dX6_spread_55 : decode cX6_spread 55 = .ok (.iconst 0, 1) := by decide +kernel
theorem dX6_spread_56 : decode cX6_spread 56 = .ok (.putfield 68, 3) := by decide +kernel
theorem dX6_spread_59 : decode cX6_spread 59 = .ok (.iconst 0, 1) := by decide +kernel
theorem dX6_spread_60 : decode cX6_spread 60 = .ok (.istore_n 3, 1) := by decide +kernel
theorem dX6_spread_61 : decode cX6_spread 61 = .ok (.iload_n 3, 1) := by decide +kernel
theorem dX6_spread_62 : decode cX6_spread 62 = .ok (.aload_n 0, 1) := by decide +kernel
theorem dX6_spread_63 : decode cX6_spread 63 = .ok (.getfield 25, 3) := by decide +kernel
theorem dX6_spread_66 : decode cX6_spread 66 = .ok (.getfield 33, 3) := by decide +kernel
theorem dX6_spread_69 : decode cX6_spread 69 = .ok (.if_icmp .ge 22, 3) := by decide +kernel
theorem dX6_spread_72 : decode cX6_spread 72 = .ok (.iload_n 1, 1) := by decide +kernel
theorem dX6_spread_73 : decode cX6_spread 73 = .ok (.iload_n 3, 1) := by decide +kernel
theorem dX6_spread_74 : decode cX6_spread 74 = .ok (.ishr, 1) := by decide +kernel
theorem dX6_spread_75 : decode cX6_spread 75 = .ok (.iconst 1, 1) := by decide +kernel
theorem dX6_spread_76 : decode cX6_spread 76 = .ok (.iand, 1) := by decide +kernel
theorem dX6_spread_77 : decode cX6_spread 77 = .ok (.ifCond .ne 8, 3) := by decide +kernel
theorem dX6_spread_80 : decode cX6_spread 80 = .ok (.aload_n 0, 1) := by decide +kernel
theorem dX6_spread_81 : decode cX6_spread 81 = .ok (.iload_n 3, 1) := by decide +kernel
theorem dX6_spread_82 : decode cX6_spread 82 = .ok (.invokevirtual 75, 3) := by decide +kernel
theorem dX6_spread_85 : decode cX6_spread 85 = .ok (.iinc 3 1, 3) := by decide +kernel
theorem dX6_spread_88 : decode cX6_spread 88 = .ok (.goto (-27), 3) := by decide +kernel
theorem dX6_spread_91 : decode cX6_spread 91 = .ok (.iinc 2 1, 3) := by decide +kernel
theorem dX6_spread_94 : decode cX6_spread 94 = .ok (.goto (-58), 3) := by decide +kernel
theorem dX6_spread_97 : decode cX6_spread 97 = .ok (.return_, 1) := by decide +kernel
theorem dX6_spreadOver_0 : decode cX6_spreadOver 0 = .ok (.aload_n 0, 1) := by decide +kernel
theorem dX6_spreadOver_1 : decode cX6_spreadOver 1 = .ok (.getfield 25, 3) := by decide +kernel
theorem dX6_spreadOver_4 : decode cX6_spreadOver 4 = .ok (.getfield 79, 3) := by decide +kernel
theorem dX6_spreadOver_7 : decode cX6_spreadOver 7 = .ok (.iload_n 1, 1) := by decide +kernel
theorem dX6_spreadOver_8 : decode cX6_spreadOver 8 = .ok (.iaload, 1) := by decide +kernel
theorem dX6_spreadOver_9 : decode cX6_spreadOver 9 = .ok (.istore_n 2, 1) := by decide +kernel
theorem dX6_spreadOver_10 : decode cX6_spreadOver 10 = .ok (.aload_n 0, 1) := by decide +kernel
theorem dX6_spreadOver_11 : decode cX6_spreadOver 11 = .ok (.getfield 25, 3) := by decide +kernel
theorem dX6_spreadOver_14 : decode cX6_spreadOver 14 = .ok (.getfield 82, 3) := by decide +kernel
theorem dX6_spreadOver_17 : decode cX6_spreadOver 17 = .ok (.iload_n 1, 1) := by decide +kernel
theorem dX6_spreadOver_18 : decode cX6_spreadOver 18 = .ok (.iaload, 1) := by decide +kernel
theorem dX6_spreadOver_19 : decode cX6_spreadOver 19 = .ok (.istore_n 3, 1) := by decide +kernel
theorem dX6_spreadOver_20 : decode cX6_spreadOver 20 = .ok (.aload_n 0, 1) := by decide +kernel
theorem dX6_spreadOver_21 : decode cX6_spreadOver 21 = .ok (.getfield 15, 3) := by decide +kernel
theorem dX6_spreadOver_24 : decode cX6_spreadOver 24 = .ok (.iload_n 1, 1) := by decide +kernel
theorem dX6_spreadOver_25 : decode cX6_spreadOver 25 = .ok (.baload, 1) := by decide +kernel
theorem dX6_spreadOver_26 : decode cX6_spreadOver 26 = .ok (.ifCond .eq 15, 3) := by decide +kernel
theorem dX6_spreadOver_29 : decode cX6_spreadOver 29 = .ok (.aload_n 0, 1) := by decide +kernel
theorem dX6_spreadOver_30 : decode cX6_spreadOver 30 = .ok (.iload_n 2, 1) := by decide +kernel
theorem dX6_spreadOver_31 : decode cX6_spreadOver 31 = .ok (.iload_n 3, 1) := by decide +kernel
theorem dX6_spreadOver_32 : decode cX6_spreadOver 32 = .ok (.aload_n 0, 1) := by decide +kernel
theorem dX6_spreadOver_33 : decode cX6_spreadOver 33 = .ok (.getfield 9, 3) := by decide +kernel
theorem dX6_spreadOver_36 : decode cX6_spreadOver 36 = .ok (.iload_n 1, 1) := by decide +kernel
theorem dX6_spreadOver_37 : decode cX6_spreadOver 37 = .ok (.iaload, 1) := by decide +kernel
theorem dX6_spreadOver_38 : decode cX6_spreadOver 38 = .ok (.invokevirtual 85, 3) := by decide +kernel
theorem dX6_spreadOver_41 : decode cX6_spreadOver 41 = .ok (.aload_n 0, 1) := by decide +kernel
theorem dX6_spreadOver_42 : decode cX6_spreadOver 42 = .ok (.getfield 19, 3) := by decide +kernel
theorem dX6_spreadOver_45 : decode cX6_spreadOver 45 = .ok (.iload_n 1, 1) := by decide +kernel
theorem dX6_spreadOver_46 : decode cX6_spreadOver 46 = .ok (.baload, 1) := by decide +kernel
theorem dX6_spreadOver_47 : decode cX6_spreadOver 47 = .ok (.ifCond .eq 15, 3) := by decide +kernel
theorem dX6_spreadOver_50 : decode cX6_spreadOver 50 = .ok (.aload_n 0, 1) := by decide +kernel
theorem dX6_spreadOver_51 : decode cX6_spreadOver 51 = .ok (.iload_n 3, 1) := by decide +kernel
theorem dX6_spreadOver_52 : decode cX6_spreadOver 52 = .ok (.iload_n 2, 1) := by decide +kernel
theorem dX6_spreadOver_53 : decode cX6_spreadOver 53 = .ok (.aload_n 0, 1) := by decide +kernel
theorem dX6_spreadOver_54 : decode cX6_spreadOver 54 = .ok (.getfield 9, 3) := by decide +kernel
theorem dX6_spreadOver_57 : decode cX6_spreadOver 57 = .ok (.iload_n 1, 1) := by decide +kernel
theorem dX6_spreadOver_58 : decode cX6_spreadOver 58 = .ok (.iaload, 1) := by decide +kernel
theorem dX6_spreadOver_59 : decode cX6_spreadOver 59 = .ok (.invokevirtual 85, 3) := by decide +kernel
theorem dX6_spreadOver_62 : decode cX6_spreadOver 62 = .ok (.return_, 1) := by decide +kernel
theorem dX6_flow_0 : decode cX6_flow 0 = .ok (.aload_n 0, 1) := by decide +kernel
theorem dX6_flow_1 : decode cX6_flow 1 = .ok (.getfield 22, 3) := by decide +kernel
theorem dX6_flow_4 : decode cX6_flow 4 = .ok (.iload_n 1, 1) := by decide +kernel
theorem dX6_flow_5 : decode cX6_flow 5 = .ok (.iaload, 1) := by decide +kernel
theorem dX6_flow_6 : decode cX6_flow 6 = .ok (.iload_n 3, 1) := by decide +kernel
theorem dX6_flow_7 : decode cX6_flow 7 = .ok (.iand, 1) := by decide +kernel
theorem dX6_flow_8 : decode cX6_flow 8 = .ok (.aload_n 0, 1) := by decide +kernel
theorem dX6_flow_9 : decode cX6_flow 9 = .ok (.getfield 22, 3) := by decide +kernel
theorem dX6_flow_12 : decode cX6_flow 12 = .ok (.iload_n 2, 1) := by decide +kernel
theorem dX6_flow_13 : decode cX6_flow 13 = .ok (.iaload, 1) := by decide +kernel
theorem dX6_flow_14 : decode cX6_flow 14 = .ok (.iconst (-1), 1) := by decide +kernel
theorem dX6_flow_15 : decode cX6_flow 15 = .ok (.ixor, 1) := by decide +kernel
theorem dX6_flow_16 : decode cX6_flow 16 = .ok (.iand, 1) := by decide +kernel
theorem dX6_flow_17 : decode cX6_flow 17 = .ok (.istore 4, 2) := by decide +kernel
theorem dX6_flow_19 : decode cX6_flow 19 = .ok (.iload 4, 2) := by decide +kernel
theorem dX6_flow_21 : decode cX6_flow 21 = .ok (.ifCond .eq 19, 3) := by decide +kernel
theorem dX6_flow_24 : decode cX6_flow 24 = .ok (.aload_n 0, 1) := by decide +kernel
theorem dX6_flow_25 : decode cX6_flow 25 = .ok (.getfield 22, 3) := by decide +kernel
theorem dX6_flow_28 : decode cX6_flow 28 = .ok (.iload_n 2, 1) := by decide +kernel
theorem dX6_flow_29 : decode cX6_flow 29 = .ok (.dup2, 1) := by decide +kernel
theorem dX6_flow_30 : decode cX6_flow 30 = .ok (.iaload, 1) := by decide +kernel
theorem dX6_flow_31 : decode cX6_flow 31 = .ok (.iload 4, 2) := by decide +kernel
theorem dX6_flow_33 : decode cX6_flow 33 = .ok (.ior, 1) := by decide +kernel
theorem dX6_flow_34 : decode cX6_flow 34 = .ok (.iastore, 1) := by decide +kernel
theorem dX6_flow_35 : decode cX6_flow 35 = .ok (.aload_n 0, 1) := by decide +kernel
theorem dX6_flow_36 : decode cX6_flow 36 = .ok (.iconst 1, 1) := by decide +kernel
theorem dX6_flow_37 : decode cX6_flow 37 = .ok (.putfield 68, 3) := by decide +kernel
theorem dX6_flow_40 : decode cX6_flow 40 = .ok (.return_, 1) := by decide +kernel
theorem dX6_fed_0 : decode cX6_fed 0 = .ok (.aload_n 0, 1) := by decide +kernel
theorem dX6_fed_1 : decode cX6_fed 1 = .ok (.getfield 22, 3) := by decide +kernel
theorem dX6_fed_4 : decode cX6_fed 4 = .ok (.aload_n 0, 1) := by decide +kernel
theorem dX6_fed_5 : decode cX6_fed 5 = .ok (.getfield 25, 3) := by decide +kernel
theorem dX6_fed_8 : decode cX6_fed 8 = .ok (.getfield 89, 3) := by decide +kernel
theorem dX6_fed_11 : decode cX6_fed 11 = .ok (.iload_n 1, 1) := by decide +kernel
theorem dX6_fed_12 : decode cX6_fed 12 = .ok (.iaload, 1) := by decide +kernel
theorem dX6_fed_13 : decode cX6_fed 13 = .ok (.iaload, 1) := by decide +kernel
theorem dX6_fed_14 : decode cX6_fed 14 = .ok (.ireturn, 1) := by decide +kernel
theorem dX6_feedsWithout_0 : decode cX6_feedsWithout 0 = .ok (.aload_n 0, 1) := by decide +kernel
theorem dX6_feedsWithout_1 : decode cX6_feedsWithout 1 = .ok (.iload_n 1, 1) := by decide +kernel
theorem dX6_feedsWithout_2 : decode cX6_feedsWithout 2 = .ok (.invokevirtual 92, 3) := by decide +kernel
theorem dX6_feedsWithout_5 : decode cX6_feedsWithout 5 = .ok (.aload_n 0, 1) := by decide +kernel
theorem dX6_feedsWithout_6 : decode cX6_feedsWithout 6 = .ok (.iload_n 2, 1) := by decide +kernel
theorem dX6_feedsWithout_7 : decode cX6_feedsWithout 7 = .ok (.invokevirtual 95, 3) := by decide +kernel
theorem dX6_feedsWithout_10 : decode cX6_feedsWithout 10 = .ok (.iload_n 3, 1) := by decide +kernel
theorem dX6_feedsWithout_11 : decode cX6_feedsWithout 11 = .ok (.ishr, 1) := by decide +kernel
theorem dX6_feedsWithout_12 : decode cX6_feedsWithout 12 = .ok (.iconst 1, 1) := by decide +kernel
theorem dX6_feedsWithout_13 : decode cX6_feedsWithout 13 = .ok (.iand, 1) := by decide +kernel
theorem dX6_feedsWithout_14 : decode cX6_feedsWithout 14 = .ok (.ifCond .eq 7, 3) := by decide +kernel
theorem dX6_feedsWithout_17 : decode cX6_feedsWithout 17 = .ok (.iconst 1, 1) := by decide +kernel
theorem dX6_feedsWithout_18 : decode cX6_feedsWithout 18 = .ok (.goto 4, 3) := by decide +kernel
theorem dX6_feedsWithout_21 : decode cX6_feedsWithout 21 = .ok (.iconst 0, 1) := by decide +kernel
theorem dX6_feedsWithout_22 : decode cX6_feedsWithout 22 = .ok (.ireturn, 1) := by decide +kernel
theorem dX6_nodeBehind_0 : decode cX6_nodeBehind 0 = .ok (.aload_n 0, 1) := by decide +kernel
theorem dX6_nodeBehind_1 : decode cX6_nodeBehind 1 = .ok (.getfield 15, 3) := by decide +kernel
theorem dX6_nodeBehind_4 : decode cX6_nodeBehind 4 = .ok (.iload_n 1, 1) := by decide +kernel
theorem dX6_nodeBehind_5 : decode cX6_nodeBehind 5 = .ok (.baload, 1) := by decide +kernel
theorem dX6_nodeBehind_6 : decode cX6_nodeBehind 6 = .ok (.ifCond .eq 26, 3) := by decide +kernel
theorem dX6_nodeBehind_9 : decode cX6_nodeBehind 9 = .ok (.aload_n 0, 1) := by decide +kernel
theorem dX6_nodeBehind_10 : decode cX6_nodeBehind 10 = .ok (.getfield 25, 3) := by decide +kernel
theorem dX6_nodeBehind_13 : decode cX6_nodeBehind 13 = .ok (.getfield 79, 3) := by decide +kernel
theorem dX6_nodeBehind_16 : decode cX6_nodeBehind 16 = .ok (.iload_n 1, 1) := by decide +kernel
theorem dX6_nodeBehind_17 : decode cX6_nodeBehind 17 = .ok (.iaload, 1) := by decide +kernel
theorem dX6_nodeBehind_18 : decode cX6_nodeBehind 18 = .ok (.iload_n 2, 1) := by decide +kernel
theorem dX6_nodeBehind_19 : decode cX6_nodeBehind 19 = .ok (.if_icmp .ne 13, 3) := by decide +kernel
theorem dX6_nodeBehind_22 : decode cX6_nodeBehind 22 = .ok (.aload_n 0, 1) := by decide +kernel
theorem dX6_nodeBehind_23 : decode cX6_nodeBehind 23 = .ok (.getfield 25, 3) := by decide +kernel
theorem dX6_nodeBehind_26 : decode cX6_nodeBehind 26 = .ok (.getfield 82, 3) := by decide +kernel
theorem dX6_nodeBehind_29 : decode cX6_nodeBehind 29 = .ok (.iload_n 1, 1) := by decide +kernel
theorem dX6_nodeBehind_30 : decode cX6_nodeBehind 30 = .ok (.iaload, 1) := by decide +kernel
theorem dX6_nodeBehind_31 : decode cX6_nodeBehind 31 = .ok (.ireturn, 1) := by decide +kernel
theorem dX6_nodeBehind_32 : decode cX6_nodeBehind 32 = .ok (.aload_n 0, 1) := by decide +kernel
theorem dX6_nodeBehind_33 : decode cX6_nodeBehind 33 = .ok (.getfield 19, 3) := by decide +kernel
theorem dX6_nodeBehind_36 : decode cX6_nodeBehind 36 = .ok (.iload_n 1, 1) := by decide +kernel
theorem dX6_nodeBehind_37 : decode cX6_nodeBehind 37 = .ok (.baload, 1) := by decide +kernel
theorem dX6_nodeBehind_38 : decode cX6_nodeBehind 38 = .ok (.ifCond .eq 28, 3) := by decide +kernel
theorem dX6_nodeBehind_41 : decode cX6_nodeBehind 41 = .ok (.aload_n 0, 1) := by decide +kernel
theorem dX6_nodeBehind_42 : decode cX6_nodeBehind 42 = .ok (.getfield 25, 3) := by decide +kernel
theorem dX6_nodeBehind_45 : decode cX6_nodeBehind 45 = .ok (.getfield 82, 3) := by decide +kernel
theorem dX6_nodeBehind_48 : decode cX6_nodeBehind 48 = .ok (.iload_n 1, 1) := by decide +kernel
theorem dX6_nodeBehind_49 : decode cX6_nodeBehind 49 = .ok (.iaload, 1) := by decide +kernel
theorem dX6_nodeBehind_50 : decode cX6_nodeBehind 50 = .ok (.iload_n 2, 1) := by decide +kernel
theorem dX6_nodeBehind_51 : decode cX6_nodeBehind 51 = .ok (.if_icmp .ne 15, 3) := by decide +kernel
theorem dX6_nodeBehind_54 : decode cX6_nodeBehind 54 = .ok (.aload_n 0, 1) := by decide +kernel
theorem dX6_nodeBehind_55 : decode cX6_nodeBehind 55 = .ok (.getfield 25, 3) := by decide +kernel
theorem dX6_nodeBehind_58 : decode cX6_nodeBehind 58 = .ok (.getfield 79, 3) := by decide +kernel
theorem dX6_nodeBehind_61 : decode cX6_nodeBehind 61 = .ok (.iload_n 1, 1) := by decide +kernel
theorem dX6_nodeBehind_62 : decode cX6_nodeBehind 62 = .ok (.iaload, 1) := by decide +kernel
theorem dX6_nodeBehind_63 : decode cX6_nodeBehind 63 = .ok (.goto 5, 3) := by decide +kernel
theorem dX6_nodeBehind_66 : decode cX6_nodeBehind 66 = .ok (.bipush (-9), 2) := by decide +kernel
theorem dX6_nodeBehind_68 : decode cX6_nodeBehind 68 = .ok (.ireturn, 1) := by decide +kernel
theorem dJ6_bitCount_0f7a4_0 : decode cJ6_bitCount_0f7a4 0 = .ok (.iload_n 0, 1) := by decide +kernel
theorem dJ6_bitCount_0f7a4_1 : decode cJ6_bitCount_0f7a4 1 = .ok (.iload_n 0, 1) := by decide +kernel
theorem dJ6_bitCount_0f7a4_2 : decode cJ6_bitCount_0f7a4 2 = .ok (.iconst 1, 1) := by decide +kernel
theorem dJ6_bitCount_0f7a4_3 : decode cJ6_bitCount_0f7a4 3 = .ok (.iushr, 1) := by decide +kernel
theorem dJ6_bitCount_0f7a4_4 : decode cJ6_bitCount_0f7a4 4 = .ok (.ldc_w 265, 3) := by decide +kernel
theorem dJ6_bitCount_0f7a4_7 : decode cJ6_bitCount_0f7a4 7 = .ok (.iand, 1) := by decide +kernel
theorem dJ6_bitCount_0f7a4_8 : decode cJ6_bitCount_0f7a4 8 = .ok (.isub, 1) := by decide +kernel
theorem dJ6_bitCount_0f7a4_9 : decode cJ6_bitCount_0f7a4 9 = .ok (.istore_n 0, 1) := by decide +kernel
theorem dJ6_bitCount_0f7a4_10 : decode cJ6_bitCount_0f7a4 10 = .ok (.iload_n 0, 1) := by decide +kernel
theorem dJ6_bitCount_0f7a4_11 : decode cJ6_bitCount_0f7a4 11 = .ok (.ldc_w 266, 3) := by decide +kernel
theorem dJ6_bitCount_0f7a4_14 : decode cJ6_bitCount_0f7a4 14 = .ok (.iand, 1) := by decide +kernel
theorem dJ6_bitCount_0f7a4_15 : decode cJ6_bitCount_0f7a4 15 = .ok (.iload_n 0, 1) := by decide +kernel
theorem dJ6_bitCount_0f7a4_16 : decode cJ6_bitCount_0f7a4 16 = .ok (.iconst 2, 1) := by decide +kernel
theorem dJ6_bitCount_0f7a4_17 : decode cJ6_bitCount_0f7a4 17 = .ok (.iushr, 1) := by decide +kernel
theorem dJ6_bitCount_0f7a4_18 : decode cJ6_bitCount_0f7a4 18 = .ok (.ldc_w 266, 3) := by decide +kernel
theorem dJ6_bitCount_0f7a4_21 : decode cJ6_bitCount_0f7a4 21 = .ok (.iand, 1) := by decide +kernel
theorem dJ6_bitCount_0f7a4_22 : decode cJ6_bitCount_0f7a4 22 = .ok (.iadd, 1) := by decide +kernel
theorem dJ6_bitCount_0f7a4_23 : decode cJ6_bitCount_0f7a4 23 = .ok (.istore_n 0, 1) := by decide +kernel
theorem dJ6_bitCount_0f7a4_24 : decode cJ6_bitCount_0f7a4 24 = .ok (.iload_n 0, 1) := by decide +kernel
theorem dJ6_bitCount_0f7a4_25 : decode cJ6_bitCount_0f7a4 25 = .ok (.iload_n 0, 1) := by decide +kernel
theorem dJ6_bitCount_0f7a4_26 : decode cJ6_bitCount_0f7a4 26 = .ok (.iconst 4, 1) := by decide +kernel
theorem dJ6_bitCount_0f7a4_27 : decode cJ6_bitCount_0f7a4 27 = .ok (.iushr, 1) := by decide +kernel
theorem dJ6_bitCount_0f7a4_28 : decode cJ6_bitCount_0f7a4 28 = .ok (.iadd, 1) := by decide +kernel
theorem dJ6_bitCount_0f7a4_29 : decode cJ6_bitCount_0f7a4 29 = .ok (.ldc_w 267, 3) := by decide +kernel
theorem dJ6_bitCount_0f7a4_32 : decode cJ6_bitCount_0f7a4 32 = .ok (.iand, 1) := by decide +kernel
theorem dJ6_bitCount_0f7a4_33 : decode cJ6_bitCount_0f7a4 33 = .ok (.istore_n 0, 1) := by decide +kernel
theorem dJ6_bitCount_0f7a4_34 : decode cJ6_bitCount_0f7a4 34 = .ok (.iload_n 0, 1) := by decide +kernel
theorem dJ6_bitCount_0f7a4_35 : decode cJ6_bitCount_0f7a4 35 = .ok (.iload_n 0, 1) := by decide +kernel
theorem dJ6_bitCount_0f7a4_36 : decode cJ6_bitCount_0f7a4 36 = .ok (.bipush 8, 2) := by decide +kernel
theorem dJ6_bitCount_0f7a4_38 : decode cJ6_bitCount_0f7a4 38 = .ok (.iushr, 1) := by decide +kernel
theorem dJ6_bitCount_0f7a4_39 : decode cJ6_bitCount_0f7a4 39 = .ok (.iadd, 1) := by decide +kernel
theorem dJ6_bitCount_0f7a4_40 : decode cJ6_bitCount_0f7a4 40 = .ok (.istore_n 0, 1) := by decide +kernel
theorem dJ6_bitCount_0f7a4_41 : decode cJ6_bitCount_0f7a4 41 = .ok (.iload_n 0, 1) := by decide +kernel
theorem dJ6_bitCount_0f7a4_42 : decode cJ6_bitCount_0f7a4 42 = .ok (.iload_n 0, 1) := by decide +kernel
theorem dJ6_bitCount_0f7a4_43 : decode cJ6_bitCount_0f7a4 43 = .ok (.bipush 16, 2) := by decide +kernel
theorem dJ6_bitCount_0f7a4_45 : decode cJ6_bitCount_0f7a4 45 = .ok (.iushr, 1) := by decide +kernel
theorem dJ6_bitCount_0f7a4_46 : decode cJ6_bitCount_0f7a4 46 = .ok (.iadd, 1) := by decide +kernel
theorem dJ6_bitCount_0f7a4_47 : decode cJ6_bitCount_0f7a4 47 = .ok (.istore_n 0, 1) := by decide +kernel
theorem dJ6_bitCount_0f7a4_48 : decode cJ6_bitCount_0f7a4 48 = .ok (.iload_n 0, 1) := by decide +kernel
theorem dJ6_bitCount_0f7a4_49 : decode cJ6_bitCount_0f7a4 49 = .ok (.bipush 63, 2) := by decide +kernel
theorem dJ6_bitCount_0f7a4_51 : decode cJ6_bitCount_0f7a4 51 = .ok (.iand, 1) := by decide +kernel
theorem dJ6_bitCount_0f7a4_52 : decode cJ6_bitCount_0f7a4 52 = .ok (.ireturn, 1) := by decide +kernel
