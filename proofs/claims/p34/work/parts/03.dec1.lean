theorem dX0_init_0 : decode cX0_init 0 = .ok (.aload_n 0, 1) := by decide +kernel
theorem dX0_init_1 : decode cX0_init 1 = .ok (.invokespecial 3, 3) := by decide +kernel
theorem dX0_init_4 : decode cX0_init 4 = .ok (.aload_n 0, 1) := by decide +kernel
theorem dX0_init_5 : decode cX0_init 5 = .ok (.bipush 14, 2) := by decide +kernel
theorem dX0_init_7 : decode cX0_init 7 = .ok (.anewarray 9, 3) := by decide +kernel
theorem dX0_init_10 : decode cX0_init 10 = .ok (.putfield 11, 3) := by decide +kernel
theorem dX0_init_13 : decode cX0_init 13 = .ok (.iconst 0, 1) := by decide +kernel
theorem dX0_init_14 : decode cX0_init 14 = .ok (.istore_n 1, 1) := by decide +kernel
theorem dX0_init_15 : decode cX0_init 15 = .ok (.iload_n 1, 1) := by decide +kernel
theorem dX0_init_16 : decode cX0_init 16 = .ok (.bipush 14, 2) := by decide +kernel
theorem dX0_init_18 : decode cX0_init 18 = .ok (.if_icmp .ge 22, 3) := by decide +kernel
theorem dX0_init_21 : decode cX0_init 21 = .ok (.aload_n 0, 1) := by decide +kernel
theorem dX0_init_22 : decode cX0_init 22 = .ok (.getfield 11, 3) := by decide +kernel
theorem dX0_init_25 : decode cX0_init 25 = .ok (.iload_n 1, 1) := by decide +kernel
theorem dX0_init_26 : decode cX0_init 26 = .ok (.new 9, 3) := by decide +kernel
theorem dX0_init_29 : decode cX0_init 29 = .ok (.dup, 1) := by decide +kernel
theorem dX0_init_30 : decode cX0_init 30 = .ok (.invokespecial 17, 3) := by decide +kernel
theorem dX0_init_33 : decode cX0_init 33 = .ok (.aastore, 1) := by decide +kernel
theorem dX0_init_34 : decode cX0_init 34 = .ok (.iinc 1 1, 3) := by decide +kernel
theorem dX0_init_37 : decode cX0_init 37 = .ok (.goto (-22), 3) := by decide +kernel
theorem dX0_init_40 : decode cX0_init 40 = .ok (.return_, 1) := by decide +kernel
theorem dX0_clear_0 : decode cX0_clear 0 = .ok (.aload_n 0, 1) := by decide +kernel
theorem dX0_clear_1 : decode cX0_clear 1 = .ok (.iconst 0, 1) := by decide +kernel
theorem dX0_clear_2 : decode cX0_clear 2 = .ok (.putfield 18, 3) := by decide +kernel
theorem dX0_clear_5 : decode cX0_clear 5 = .ok (.aload_n 0, 1) := by decide +kernel
theorem dX0_clear_6 : decode cX0_clear 6 = .ok (.iconst 0, 1) := by decide +kernel
theorem dX0_clear_7 : decode cX0_clear 7 = .ok (.putfield 22, 3) := by decide +kernel
theorem dX0_clear_10 : decode cX0_clear 10 = .ok (.return_, 1) := by decide +kernel
theorem dX0_remember_0 : decode cX0_remember 0 = .ok (.aload_n 0, 1) := by decide +kernel
theorem dX0_remember_1 : decode cX0_remember 1 = .ok (.getfield 11, 3) := by decide +kernel
theorem dX0_remember_4 : decode cX0_remember 4 = .ok (.aload_n 0, 1) := by decide +kernel
theorem dX0_remember_5 : decode cX0_remember 5 = .ok (.getfield 22, 3) := by decide +kernel
theorem dX0_remember_8 : decode cX0_remember 8 = .ok (.aload_n 0, 1) := by decide +kernel
theorem dX0_remember_9 : decode cX0_remember 9 = .ok (.getfield 18, 3) := by decide +kernel
theorem dX0_remember_12 : decode cX0_remember 12 = .ok (.iadd, 1) := by decide +kernel
theorem dX0_remember_13 : decode cX0_remember 13 = .ok (.bipush 14, 2) := by decide +kernel
theorem dX0_remember_15 : decode cX0_remember 15 = .ok (.irem, 1) := by decide +kernel
theorem dX0_remember_16 : decode cX0_remember 16 = .ok (.aaload, 1) := by decide +kernel
theorem dX0_remember_17 : decode cX0_remember 17 = .ok (.aload_n 1, 1) := by decide +kernel
theorem dX0_remember_18 : decode cX0_remember 18 = .ok (.invokevirtual 25, 3) := by decide +kernel
theorem dX0_remember_21 : decode cX0_remember 21 = .ok (.aload_n 0, 1) := by decide +kernel
theorem dX0_remember_22 : decode cX0_remember 22 = .ok (.getfield 18, 3) := by decide +kernel
theorem dX0_remember_25 : decode cX0_remember 25 = .ok (.bipush 14, 2) := by decide +kernel
theorem dX0_remember_27 : decode cX0_remember 27 = .ok (.if_icmp .ge 16, 3) := by decide +kernel
theorem dX0_remember_30 : decode cX0_remember 30 = .ok (.aload_n 0, 1) := by decide +kernel
theorem dX0_remember_31 : decode cX0_remember 31 = .ok (.dup, 1) := by decide +kernel
theorem dX0_remember_32 : decode cX0_remember 32 = .ok (.getfield 18, 3) := by decide +kernel
theorem dX0_remember_35 : decode cX0_remember 35 = .ok (.iconst 1, 1) := by decide +kernel
theorem dX0_remember_36 : decode cX0_remember 36 = .ok (.iadd, 1) := by decide +kernel
theorem dX0_remember_37 : decode cX0_remember 37 = .ok (.putfield 18, 3) := by decide +kernel
theorem dX0_remember_40 : decode cX0_remember 40 = .ok (.goto 16, 3) := by decide +kernel
theorem dX0_remember_43 : decode cX0_remember 43 = .ok (.aload_n 0, 1) := by decide +kernel
theorem dX0_remember_44 : decode cX0_remember 44 = .ok (.aload_n 0, 1) := by decide +kernel
theorem dX0_remember_45 : decode cX0_remember 45 = .ok (.getfield 22, 3) := by decide +kernel
theorem dX0_remember_48 : decode cX0_remember 48 = .ok (.iconst 1, 1) := by decide +kernel
theorem dX0_remember_49 : decode cX0_remember 49 = .ok (.iadd, 1) := by decide +kernel
theorem dX0_remember_50 : decode cX0_remember 50 = .ok (.bipush 14, 2) := by decide +kernel
theorem dX0_remember_52 : decode cX0_remember 52 = .ok (.irem, 1) := by decide +kernel
theorem dX0_remember_53 : decode cX0_remember 53 = .ok (.putfield 22, 3) := by decide +kernel
theorem dX0_remember_56 : decode cX0_remember 56 = .ok (.return_, 1) := by decide +kernel
theorem dX0_takeBack_0 : decode cX0_takeBack 0 = .ok (.aload_n 0, 1) := by decide +kernel
theorem dX0_takeBack_1 : decode cX0_takeBack 1 = .ok (.getfield 18, 3) := by decide +kernel
theorem dX0_takeBack_4 : decode cX0_takeBack 4 = .ok (.ifCond .le 34, 3) := by decide +kernel
theorem dX0_takeBack_7 : decode cX0_takeBack 7 = .ok (.aload_n 0, 1) := by decide +kernel
theorem dX0_takeBack_8 : decode cX0_takeBack 8 = .ok (.dup, 1) := by decide +kernel
theorem dX0_takeBack_9 : decode cX0_takeBack 9 = .ok (.getfield 18, 3) := by decide +kernel
theorem dX0_takeBack_12 : decode cX0_takeBack 12 = .ok (.iconst 1, 1) := by decide +kernel
theorem dX0_takeBack_13 : decode cX0_takeBack 13 = .ok (.isub, 1) := by decide +kernel
theorem dX0_takeBack_14 : decode cX0_takeBack 14 = .ok (.putfield 18, 3) := by decide +kernel
theorem dX0_takeBack_17 : decode cX0_takeBack 17 = .ok (.aload_n 1, 1) := by decide +kernel
theorem dX0_takeBack_18 : decode cX0_takeBack 18 = .ok (.aload_n 0, 1) := by decide +kernel
theorem dX0_takeBack_19 : decode cX0_takeBack 19 = .ok (.getfield 11, 3) := by decide +kernel
theorem dX0_takeBack_22 : decode cX0_takeBack 22 = .ok (.aload_n 0, 1) := by decide +kernel
theorem dX0_takeBack_23 : decode cX0_takeBack 23 = .ok (.getfield 22, 3) := by decide +kernel
theorem dX0_takeBack_26 : decode cX0_takeBack 26 = .ok (.aload_n 0, 1) := by decide +kernel
theorem dX0_takeBack_27 : decode cX0_takeBack 27 = .ok (.getfield 18, 3) := by decide +kernel
theorem dX0_takeBack_30 : decode cX0_takeBack 30 = .ok (.iadd, 1) := by decide +kernel
theorem dX0_takeBack_31 : decode cX0_takeBack 31 = .ok (.bipush 14, 2) := by decide +kernel
theorem dX0_takeBack_33 : decode cX0_takeBack 33 = .ok (.irem, 1) := by decide +kernel
theorem dX0_takeBack_34 : decode cX0_takeBack 34 = .ok (.aaload, 1) := by decide +kernel
theorem dX0_takeBack_35 : decode cX0_takeBack 35 = .ok (.invokevirtual 25, 3) := by decide +kernel
theorem dX0_takeBack_38 : decode cX0_takeBack 38 = .ok (.return_, 1) := by decide +kernel
theorem dX1_init_0 : decode cX1_init 0 = .ok (.aload_n 0, 1) := by decide +kernel
theorem dX1_init_1 : decode cX1_init 1 = .ok (.invokespecial 3, 3) := by decide +kernel
theorem dX1_init_4 : decode cX1_init 4 = .ok (.aload_n 0, 1) := by decide +kernel
theorem dX1_init_5 : decode cX1_init 5 = .ok (.bipush 12, 2) := by decide +kernel
theorem dX1_init_7 : decode cX1_init 7 = .ok (.newarray .int, 2) := by decide +kernel
theorem dX1_init_9 : decode cX1_init 9 = .ok (.putfield 9, 3) := by decide +kernel
theorem dX1_init_12 : decode cX1_init 12 = .ok (.aload_n 0, 1) := by decide +kernel
theorem dX1_init_13 : decode cX1_init 13 = .ok (.bipush 12, 2) := by decide +kernel
theorem dX1_init_15 : decode cX1_init 15 = .ok (.newarray .int, 2) := by decide +kernel
theorem dX1_init_17 : decode cX1_init 17 = .ok (.putfield 15, 3) := by decide +kernel
theorem dX1_init_20 : decode cX1_init 20 = .ok (.aload_n 0, 1) := by decide +kernel
theorem dX1_init_21 : decode cX1_init 21 = .ok (.bipush 12, 2) := by decide +kernel
theorem dX1_init_23 : decode cX1_init 23 = .ok (.newarray .int, 2) := by decide +kernel
theorem dX1_init_25 : decode cX1_init 25 = .ok (.putfield 18, 3) := by decide +kernel
theorem dX1_init_28 : decode cX1_init 28 = .ok (.aload_n 0, 1) := by decide +kernel
theorem dX1_init_29 : decode cX1_init 29 = .ok (.bipush 12, 2) := by decide +kernel
theorem dX1_init_31 : decode cX1_init 31 = .ok (.newarray .int, 2) := by decide +kernel
theorem dX1_init_33 : decode cX1_init 33 = .ok (.putfield 21, 3) := by decide +kernel
theorem dX1_init_36 : decode cX1_init 36 = .ok (.aload_n 0, 1) := by decide +kernel
theorem dX1_init_37 : decode cX1_init 37 = .ok (.bipush 12, 2) := by decide +kernel
theorem dX1_init_39 : decode cX1_init 39 = .ok (.newarray .int, 2) := by decide +kernel
theorem dX1_init_41 : decode cX1_init 41 = .ok (.putfield 24, 3) := by decide +kernel
theorem dX1_init_44 : decode cX1_init 44 = .ok (.return_, 1) := by decide +kernel
theorem dX1_measure_0 : decode cX1_measure 0 = .ok (.iconst 0, 1) := by decide +kernel
theorem dX1_measure_1 : decode cX1_measure 1 = .ok (.istore_n 3, 1) := by decide +kernel
theorem dX1_measure_2 : decode cX1_measure 2 = .ok (.iload_n 3, 1) := by decide +kernel
theorem dX1_measure_3 : decode cX1_measure 3 = .ok (.aload_n 1, 1) := by decide +kernel
theorem dX1_measure_4 : decode cX1_measure 4 = .ok (.getfield 27, 3) := by decide +kernel
theorem dX1_measure_7 : decode cX1_measure 7 = .ok (.if_icmp .ge 25, 3) := by decide +kernel
theorem dX1_measure_10 : decode cX1_measure 10 = .ok (.aload_n 0, 1) := by decide +kernel
theorem dX1_measure_11 : decode cX1_measure 11 = .ok (.getfield 21, 3) := by decide +kernel
theorem dX1_measure_14 : decode cX1_measure 14 = .ok (.iload_n 3, 1) := by decide +kernel
theorem dX1_measure_15 : decode cX1_measure 15 = .ok (.aload_n 1, 1) := by decide +kernel
theorem dX1_measure_16 : decode cX1_measure 16 = .ok (.getfield 33, 3) := by decide +kernel
theorem dX1_measure_19 : decode cX1_measure 19 = .ok (.iload_n 3, 1) := by decide +kernel
theorem dX1_measure_20 : decode cX1_measure 20 = .ok (.aaload, 1) := by decide +kernel
theorem dX1_measure_21 : decode cX1_measure 21 = .ok (.iload_n 2, 1) := by decide +kernel
theorem dX1_measure_22 : decode cX1_measure 22 = .ok (.invokevirtual 37, 3) := by decide +kernel
theorem dX1_measure_25 : decode cX1_measure 25 = .ok (.iastore, 1) := by decide +kernel
theorem dX1_measure_26 : decode cX1_measure 26 = .ok (.iinc 3 1, 3) := by decide +kernel
theorem dX1_measure_29 : decode cX1_measure 29 = .ok (.goto (-27), 3) := by decide +kernel
theorem dX1_measure_32 : decode cX1_measure 32 = .ok (.return_, 1) := by decide +kernel
theorem dX1_wrap_0 : decode cX1_wrap 0 = .ok (.iconst 0, 1) := by decide +kernel
theorem dX1_wrap_1 : decode cX1_wrap 1 = .ok (.istore_n 3, 1) := by decide +kernel
theorem dX1_wrap_2 : decode cX1_wrap 2 = .ok (.iconst 0, 1) := by decide +kernel
theorem dX1_wrap_3 : decode cX1_wrap 3 = .ok (.istore 4, 2) := by decide +kernel
theorem dX1_wrap_5 : decode cX1_wrap 5 = .ok (.iconst 1, 1) := by decide +kernel
theorem dX1_wrap_6 : decode cX1_wrap 6 = .ok (.istore 5, 2) := by decide +kernel
theorem dX1_wrap_8 : decode cX1_wrap 8 = .ok (.aload_n 0, 1) := by decide +kernel
theorem dX1_wrap_9 : decode cX1_wrap 9 = .ok (.iconst 0, 1) := by decide +kernel
theorem dX1_wrap_10 : decode cX1_wrap 10 = .ok (.putfield 43, 3) := by decide +kernel
theorem dX1_wrap_13 : decode cX1_wrap 13 = .ok (.aload_n 0, 1) := by decide +kernel
theorem dX1_wrap_14 : decode cX1_wrap 14 = .ok (.iconst 0, 1) := by decide +kernel
theorem dX1_wrap_15 : decode cX1_wrap 15 = .ok (.putfield 46, 3) := by decide +kernel
theorem dX1_wrap_18 : decode cX1_wrap 18 = .ok (.iconst 0, 1) := by decide +kernel
theorem dX1_wrap_19 : decode cX1_wrap 19 = .ok (.istore 6, 2) := by decide +kernel
theorem dX1_wrap_21 : decode cX1_wrap 21 = .ok (.iload 6, 2) := by decide +kernel
theorem dX1_wrap_23 : decode cX1_wrap 23 = .ok (.aload_n 1, 1) := by decide +kernel
theorem dX1_wrap_24 : decode cX1_wrap 24 = .ok (.getfield 27, 3) := by decide +kernel
theorem dX1_wrap_27 : decode cX1_wrap 27 = .ok (.if_icmp .ge 157, 3) := by decide +kernel
theorem dX1_wrap_30 : decode cX1_wrap 30 = .ok (.iload_n 3, 1) := by decide +kernel
theorem dX1_wrap_31 : decode cX1_wrap 31 = .ok (.aload_n 1, 1) := by decide +kernel
theorem dX1_wrap_32 : decode cX1_wrap 32 = .ok (.getfield 49, 3) := by decide +kernel
theorem dX1_wrap_35 : decode cX1_wrap 35 = .ok (.iadd, 1) := by decide +kernel
theorem dX1_wrap_36 : decode cX1_wrap 36 = .ok (.istore 7, 2) := by decide +kernel
theorem dX1_wrap_38 : decode cX1_wrap 38 = .ok (.iload 5, 2) := by decide +kernel
theorem dX1_wrap_40 : decode cX1_wrap 40 = .ok (.ifCond .ne 17, 3) := by decide +kernel
theorem dX1_wrap_43 : decode cX1_wrap 43 = .ok (.iload 7, 2) := by decide +kernel
theorem dX1_wrap_45 : decode cX1_wrap 45 = .ok (.aload_n 0, 1) := by decide +kernel
theorem dX1_wrap_46 : decode cX1_wrap 46 = .ok (.getfield 21, 3) := by decide +kernel
theorem dX1_wrap_49 : decode cX1_wrap 49 = .ok (.iload 6, 2) := by decide +kernel
theorem dX1_wrap_51 : decode cX1_wrap 51 = .ok (.iaload, 1) := by decide +kernel
theorem dX1_wrap_52 : decode cX1_wrap 52 = .ok (.iadd, 1) := by decide +kernel
theorem dX1_wrap_53 : decode cX1_wrap 53 = .ok (.iload_n 2, 1) := by decide +kernel
theorem dX1_wrap_54 : decode cX1_wrap 54 = .ok (.if_icmp .le 26, 3) := by decide +kernel
theorem dX1_wrap_57 : decode cX1_wrap 57 = .ok (.iconst 0, 1) := by decide +kernel
theorem dX1_wrap_58 : decode cX1_wrap 58 = .ok (.istore 7, 2) := by decide +kernel
theorem dX1_wrap_60 : decode cX1_wrap 60 = .ok (.aload_n 0, 1) := by decide +kernel
theorem dX1_wrap_61 : decode cX1_wrap 61 = .ok (.dup, 1) := by decide +kernel
theorem dX1_wrap_62 : decode cX1_wrap 62 = .ok (.getfield 43, 3) := by decide +kernel
theorem dX1_wrap_65 : decode cX1_wrap 65 = .ok (.iconst 1, 1) := by decide +kernel
theorem dX1_wrap_66 : decode cX1_wrap 66 = .ok (.iadd, 1) := by decide +kernel
theorem dX1_wrap_67 : decode cX1_wrap 67 = .ok (.putfield 43, 3) := by decide +kernel
theorem dX1_wrap_70 : decode cX1_wrap 70 = .ok (.aload_n 0, 1) := by decide +kernel
theorem dX1_wrap_71 : decode cX1_wrap 71 = .ok (.dup, 1) := by decide +kernel
theorem dX1_wrap_72 : decode cX1_wrap 72 = .ok (.getfield 46, 3) := by decide +kernel
theorem dX1_wrap_75 : decode cX1_wrap 75 = .ok (.iconst 2, 1) := by decide +kernel
theorem dX1_wrap_76 : decode cX1_wrap 76 = .ok (.iadd, 1) := by decide +kernel
theorem dX1_wrap_77 : decode cX1_wrap 77 = .ok (.putfield 46, 3) := by decide +kernel
theorem dX1_wrap_80 : decode cX1_wrap 80 = .ok (.aload_n 0, 1) := by decide +kernel
theorem dX1_wrap_81 : decode cX1_wrap 81 = .ok (.getfield 9, 3) := by decide +kernel
theorem dX1_wrap_84 : decode cX1_wrap 84 = .ok (.iload 6, 2) := by decide +kernel
theorem dX1_wrap_86 : decode cX1_wrap 86 = .ok (.aload_n 0, 1) := by decide +kernel
theorem dX1_wrap_87 : decode cX1_wrap 87 = .ok (.getfield 43, 3) := by decide +kernel
theorem dX1_wrap_90 : decode cX1_wrap 90 = .ok (.iconst 1, 1) := by decide +kernel
theorem dX1_wrap_91 : decode cX1_wrap 91 = .ok (.isub, 1) := by decide +kernel
theorem dX1_wrap_92 : decode cX1_wrap 92 = .ok (.iastore, 1) := by decide +kernel
theorem dX1_wrap_93 : decode cX1_wrap 93 = .ok (.aload_n 0, 1) := by decide +kernel
theorem dX1_wrap_94 : decode cX1_wrap 94 = .ok (.getfield 15, 3) := by decide +kernel
theorem dX1_wrap_97 : decode cX1_wrap 97 = .ok (.iload 6, 2) := by decide +kernel
theorem dX1_wrap_99 : decode cX1_wrap 99 = .ok (.iload 7, 2) := by decide +kernel
theorem dX1_wrap_101 : decode cX1_wrap 101 = .ok (.iastore, 1) := by decide +kernel
theorem dX1_wrap_102 : decode cX1_wrap 102 = .ok (.aload_n 0, 1) := by decide +kernel
theorem dX1_wrap_103 : decode cX1_wrap 103 = .ok (.getfield 18, 3) := by decide +kernel
theorem dX1_wrap_106 : decode cX1_wrap 106 = .ok (.iload 6, 2) := by decide +kernel
theorem dX1_wrap_108 : decode cX1_wrap 108 = .ok (.iload 4, 2) := by decide +kernel
theorem dX1_wrap_110 : decode cX1_wrap 110 = .ok (.iastore, 1) := by decide +kernel
theorem dX1_wrap_111 : decode cX1_wrap 111 = .ok (.aload_n 0, 1) := by decide +kernel
theorem dX1_wrap_112 : decode cX1_wrap 112 = .ok (.getfield 24, 3) := by decide +kernel
theorem dX1_wrap_115 : decode cX1_wrap 115 = .ok (.iload 6, 2) := by decide +kernel
theorem dX1_wrap_117 : decode cX1_wrap 117 = .ok (.aload_n 0, 1) := by decide +kernel
theorem dX1_wrap_118 : decode cX1_wrap 118 = .ok (.getfield 46, 3) := by decide +kernel
theorem dX1_wrap_121 : decode cX1_wrap 121 = .ok (.iconst 2, 1) := by decide +kernel
theorem dX1_wrap_122 : decode cX1_wrap 122 = .ok (.isub, 1) := by decide +kernel
theorem dX1_wrap_123 : decode cX1_wrap 123 = .ok (.iastore, 1) := by decide +kernel
theorem dX1_wrap_124 : decode cX1_wrap 124 = .ok (.iload 7, 2) := by decide +kernel
theorem dX1_wrap_126 : decode cX1_wrap 126 = .ok (.aload_n 0, 1) := by decide +kernel
theorem dX1_wrap_127 : decode cX1_wrap 127 = .ok (.getfield 21, 3) := by decide +kernel
theorem dX1_wrap_130 : decode cX1_wrap 130 = .ok (.iload 6, 2) := by decide +kernel
theorem dX1_wrap_132 : decode cX1_wrap 132 = .ok (.iaload, 1) := by decide +kernel
theorem dX1_wrap_133 : decode cX1_wrap 133 = .ok (.iadd, 1) := by decide +kernel
theorem dX1_wrap_134 : decode cX1_wrap 134 = .ok (.istore_n 3, 1) := by decide +kernel
theorem dX1_wrap_135 : decode cX1_wrap 135 = .ok (.aload_n 1, 1) := by decide +kernel
theorem dX1_wrap_136 : decode cX1_wrap 136 = .ok (.getfield 33, 3) := by decide +kernel
theorem dX1_wrap_139 : decode cX1_wrap 139 = .ok (.iload 6, 2) := by decide +kernel
theorem dX1_wrap_141 : decode cX1_wrap 141 = .ok (.aaload, 1) := by decide +kernel
theorem dX1_wrap_142 : decode cX1_wrap 142 = .ok (.getfield 52, 3) := by decide +kernel
theorem dX1_wrap_145 : decode cX1_wrap 145 = .ok (.istore 5, 2) := by decide +kernel
theorem dX1_wrap_147 : decode cX1_wrap 147 = .ok (.iload 5, 2) := by decide +kernel
theorem dX1_wrap_149 : decode cX1_wrap 149 = .ok (.ifCond .eq 29, 3) := by decide +kernel
theorem dX1_wrap_152 : decode cX1_wrap 152 = .ok (.iinc 4 1, 3) := by decide +kernel
theorem dX1_wrap_155 : decode cX1_wrap 155 = .ok (.aload_n 0, 1) := by decide +kernel
theorem dX1_wrap_156 : decode cX1_wrap 156 = .ok (.dup, 1) := by decide +kernel
theorem dX1_wrap_157 : decode cX1_wrap 157 = .ok (.getfield 46, 3) := by decide +kernel
theorem dX1_wrap_160 : decode cX1_wrap 160 = .ok (.aload_n 1, 1) := by decide +kernel
theorem dX1_wrap_161 : decode cX1_wrap 161 = .ok (.getfield 33, 3) := by decide +kernel
theorem dX1_wrap_164 : decode cX1_wrap 164 = .ok (.iload 6, 2) := by decide +kernel
theorem dX1_wrap_166 : decode cX1_wrap 166 = .ok (.aaload, 1) := by decide +kernel
theorem dX1_wrap_167 : decode cX1_wrap 167 = .ok (.getfield 56, 3) := by decide +kernel
theorem dX1_wrap_170 : decode cX1_wrap 170 = .ok (.iload_n 2, 1) := by decide +kernel
theorem dX1_wrap_171 : decode cX1_wrap 171 = .ok (.invokestatic 59, 3) := by decide +kernel
theorem dX1_wrap_174 : decode cX1_wrap 174 = .ok (.iadd, 1) := by decide +kernel
theorem dX1_wrap_175 : decode cX1_wrap 175 = .ok (.putfield 46, 3) := by decide +kernel
theorem dX1_wrap_178 : decode cX1_wrap 178 = .ok (.iinc 6 1, 3) := by decide +kernel
theorem dX1_wrap_181 : decode cX1_wrap 181 = .ok (.goto (-160), 3) := by decide +kernel
theorem dX1_wrap_184 : decode cX1_wrap 184 = .ok (.return_, 1) := by decide +kernel
theorem dX1_rowsOfFree_0 : decode cX1_rowsOfFree 0 = .ok (.iload_n 1, 1) := by decide +kernel
theorem dX1_rowsOfFree_1 : decode cX1_rowsOfFree 1 = .ok (.iconst 1, 1) := by decide +kernel
theorem dX1_rowsOfFree_2 : decode cX1_rowsOfFree 2 = .ok (.if_icmp .ge 7, 3) := by decide +kernel
theorem dX1_rowsOfFree_5 : decode cX1_rowsOfFree 5 = .ok (.iconst 0, 1) := by decide +kernel
theorem dX1_rowsOfFree_6 : decode cX1_rowsOfFree 6 = .ok (.goto 10, 3) := by decide +kernel
theorem dX1_rowsOfFree_9 : decode cX1_rowsOfFree 9 = .ok (.iload_n 0, 1) := by decide +kernel
theorem dX1_rowsOfFree_10 : decode cX1_rowsOfFree 10 = .ok (.iload_n 1, 1) := by decide +kernel
theorem dX1_rowsOfFree_11 : decode cX1_rowsOfFree 11 = .ok (.iadd, 1) := by decide +kernel
theorem dX1_rowsOfFree_12 : decode cX1_rowsOfFree 12 = .ok (.iconst 1, 1) := by decide +kernel
theorem dX1_rowsOfFree_13 : decode cX1_rowsOfFree 13 = .ok (.isub, 1) := by decide +kernel
theorem dX1_rowsOfFree_14 : decode cX1_rowsOfFree 14 = .ok (.iload_n 1, 1) := by decide +kernel
theorem dX1_rowsOfFree_15 : decode cX1_rowsOfFree 15 = .ok (.idiv, 1) := by decide +kernel
theorem dX1_rowsOfFree_16 : decode cX1_rowsOfFree 16 = .ok (.ireturn, 1) := by decide +kernel
theorem dX1_countWider_0 : decode cX1_countWider 0 = .ok (.iconst 0, 1) := by decide +kernel
theorem dX1_countWider_1 : decode cX1_countWider 1 = .ok (.istore_n 3, 1) := by decide +kernel
theorem dX1_countWider_2 : decode cX1_countWider 2 = .ok (.iconst 0, 1) := by decide +kernel
theorem dX1_countWider_3 : decode cX1_countWider 3 = .ok (.istore 4, 2) := by decide +kernel
theorem dX1_countWider_5 : decode cX1_countWider 5 = .ok (.iload 4, 2) := by decide +kernel
theorem dX1_countWider_7 : decode cX1_countWider 7 = .ok (.aload_n 1, 1) := by decide +kernel
theorem dX1_countWider_8 : decode cX1_countWider 8 = .ok (.getfield 27, 3) := by decide +kernel
theorem dX1_countWider_11 : decode cX1_countWider 11 = .ok (.if_icmp .ge 23, 3) := by decide +kernel
theorem dX1_countWider_14 : decode cX1_countWider 14 = .ok (.aload_n 0, 1) := by decide +kernel
theorem dX1_countWider_15 : decode cX1_countWider 15 = .ok (.getfield 21, 3) := by decide +kernel
theorem dX1_countWider_18 : decode cX1_countWider 18 = .ok (.iload 4, 2) := by decide +kernel
theorem dX1_countWider_20 : decode cX1_countWider 20 = .ok (.iaload, 1) := by decide +kernel
theorem dX1_countWider_21 : decode cX1_countWider 21 = .ok (.iload_n 2, 1) := by decide +kernel
theorem dX1_countWider_22 : decode cX1_countWider 22 = .ok (.if_icmp .le 6, 3) := by decide +kernel
theorem dX1_countWider_25 : decode cX1_countWider 25 = .ok (.iinc 3 1, 3) := by decide +kernel
theorem dX1_countWider_28 : decode cX1_countWider 28 = .ok (.iinc 4 1, 3) := by decide +kernel
theorem dX1_countWider_31 : decode cX1_countWider 31 = .ok (.goto (-26), 3) := by decide +kernel
theorem dX1_countWider_34 : decode cX1_countWider 34 = .ok (.iload_n 3, 1) := by decide +kernel
theorem dX1_countWider_35 : decode cX1_countWider 35 = .ok (.ireturn, 1) := by decide +kernel
theorem dX1_countEmpty_0 : decode cX1_countEmpty 0 = .ok (.iconst 0, 1) := by decide +kernel
theorem dX1_countEmpty_1 : decode cX1_countEmpty 1 = .ok (.istore_n 3, 1) := by decide +kernel
theorem dX1_countEmpty_2 : decode cX1_countEmpty 2 = .ok (.iconst 0, 1) := by decide +kernel
theorem dX1_countEmpty_3 : decode cX1_countEmpty 3 = .ok (.istore 4, 2) := by decide +kernel
theorem dX1_countEmpty_5 : decode cX1_countEmpty 5 = .ok (.iload 4, 2) := by decide +kernel
theorem dX1_countEmpty_7 : decode cX1_countEmpty 7 = .ok (.aload_n 1, 1) := by decide +kernel
theorem dX1_countEmpty_8 : decode cX1_countEmpty 8 = .ok (.getfield 27, 3) := by decide +kernel
theorem dX1_countEmpty_11 : decode cX1_countEmpty 11 = .ok (.if_icmp .ge 75, 3) := by decide +kernel
theorem dX1_countEmpty_14 : decode cX1_countEmpty 14 = .ok (.iload 4, 2) := by decide +kernel
theorem dX1_countEmpty_16 : decode cX1_countEmpty 16 = .ok (.aload_n 1, 1) := by decide +kernel
theorem dX1_countEmpty_17 : decode cX1_countEmpty 17 = .ok (.getfield 27, 3) := by decide +kernel
theorem dX1_countEmpty_20 : decode cX1_countEmpty 20 = .ok (.iconst 1, 1) := by decide +kernel
theorem dX1_countEmpty_21 : decode cX1_countEmpty 21 = .ok (.isub, 1) := by decide +kernel
theorem dX1_countEmpty_22 : decode cX1_countEmpty 22 = .ok (.if_icmp .eq 22, 3) := by decide +kernel
theorem dX1_countEmpty_25 : decode cX1_countEmpty 25 = .ok (.aload_n 0, 1) := by decide +kernel
theorem dX1_countEmpty_26 : decode cX1_countEmpty 26 = .ok (.getfield 9, 3) := by decide +kernel
theorem dX1_countEmpty_29 : decode cX1_countEmpty 29 = .ok (.iload 4, 2) := by decide +kernel
theorem dX1_countEmpty_31 : decode cX1_countEmpty 31 = .ok (.iconst 1, 1) := by decide +kernel
theorem dX1_countEmpty_32 : decode cX1_countEmpty 32 = .ok (.iadd, 1) := by decide +kernel
theorem dX1_countEmpty_33 : decode cX1_countEmpty 33 = .ok (.iaload, 1) := by decide +kernel
theorem dX1_countEmpty_34 : decode cX1_countEmpty 34 = .ok (.aload_n 0, 1) := by decide +kernel
theorem dX1_countEmpty_35 : decode cX1_countEmpty 35 = .ok (.getfield 9, 3) := by decide +kernel
theorem dX1_countEmpty_38 : decode cX1_countEmpty 38 = .ok (.iload 4, 2) := by decide +kernel
theorem dX1_countEmpty_40 : decode cX1_countEmpty 40 = .ok (.iaload, 1) := by decide +kernel
theorem dX1_countEmpty_41 : decode cX1_countEmpty 41 = .ok (.if_icmp .eq 7, 3) := by decide +kernel
theorem dX1_countEmpty_44 : decode cX1_countEmpty 44 = .ok (.iconst 1, 1) := by decide +kernel
theorem dX1_countEmpty_45 : decode cX1_countEmpty 45 = .ok (.goto 4, 3) := by decide +kernel
theorem dX1_countEmpty_48 : decode cX1_countEmpty 48 = .ok (.iconst 0, 1) := by decide +kernel
theorem dX1_countEmpty_49 : decode cX1_countEmpty 49 = .ok (.istore 5, 2) := by decide +kernel
theorem dX1_countEmpty_51 : decode cX1_countEmpty 51 = .ok (.iload 5, 2) := by decide +kernel
theorem dX1_countEmpty_53 : decode cX1_countEmpty 53 = .ok (.ifCond .eq 27, 3) := by decide +kernel
theorem dX1_countEmpty_56 : decode cX1_countEmpty 56 = .ok (.iload_n 3, 1) := by decide +kernel
theorem dX1_countEmpty_57 : decode cX1_countEmpty 57 = .ok (.iconst 0, 1) := by decide +kernel
theorem dX1_countEmpty_58 : decode cX1_countEmpty 58 = .ok (.iload_n 2, 1) := by decide +kernel
theorem dX1_countEmpty_59 : decode cX1_countEmpty 59 = .ok (.aload_n 0, 1) := by decide +kernel
theorem dX1_countEmpty_60 : decode cX1_countEmpty 60 = .ok (.getfield 15, 3) := by decide +kernel
theorem dX1_countEmpty_63 : decode cX1_countEmpty 63 = .ok (.iload 4, 2) := by decide +kernel
theorem dX1_countEmpty_65 : decode cX1_countEmpty 65 = .ok (.iaload, 1) := by decide +kernel
theorem dX1_countEmpty_66 : decode cX1_countEmpty 66 = .ok (.isub, 1) := by decide +kernel
theorem dX1_countEmpty_67 : decode cX1_countEmpty 67 = .ok (.aload_n 0, 1) := by decide +kernel
theorem dX1_countEmpty_68 : decode cX1_countEmpty 68 = .ok (.getfield 21, 3) := by decide +kernel
theorem dX1_countEmpty_71 : decode cX1_countEmpty 71 = .ok (.iload 4, 2) := by decide +kernel
theorem dX1_countEmpty_73 : decode cX1_countEmpty 73 = .ok (.iaload, 1) := by decide +kernel
theorem dX1_countEmpty_74 : decode cX1_countEmpty 74 = .ok (.isub, 1) := by decide +kernel
theorem dX1_countEmpty_75 : decode cX1_countEmpty 75 = .ok (.invokestatic 63, 3) := by decide +kernel
theorem dX1_countEmpty_78 : decode cX1_countEmpty 78 = .ok (.iadd, 1) := by decide +kernel
theorem dX1_countEmpty_79 : decode cX1_countEmpty 79 = .ok (.istore_n 3, 1) := by decide +kernel
theorem dX1_countEmpty_80 : decode cX1_countEmpty 80 = .ok (.iinc 4 1, 3) := by decide +kernel
theorem dX1_countEmpty_83 : decode cX1_countEmpty 83 = .ok (.goto (-78), 3) := by decide +kernel
theorem dX1_countEmpty_86 : decode cX1_countEmpty 86 = .ok (.iload_n 3, 1) := by decide +kernel
theorem dX1_countEmpty_87 : decode cX1_countEmpty 87 = .ok (.ireturn, 1) := by decide +kernel
theorem dX1_kindOfRow_0 : decode cX1_kindOfRow 0 = .ok (.iload_n 2, 1) := by decide +kernel
theorem dX1_kindOfRow_1 : decode cX1_kindOfRow 1 = .ok (.aload_n 0, 1) := by decide +kernel
theorem dX1_kindOfRow_2 : decode cX1_kindOfRow 2 = .ok (.getfield 24, 3) := by decide +kernel
theorem dX1_kindOfRow_5 : decode cX1_kindOfRow 5 = .ok (.aload_n 0, 1) := by decide +kernel
theorem dX1_kindOfRow_6 : decode cX1_kindOfRow 6 = .ok (.aload_n 1, 1) := by decide +kernel
theorem dX1_kindOfRow_7 : decode cX1_kindOfRow 7 = .ok (.iload_n 2, 1) := by decide +kernel
theorem dX1_kindOfRow_8 : decode cX1_kindOfRow 8 = .ok (.invokevirtual 68, 3) := by decide +kernel
theorem dX1_kindOfRow_11 : decode cX1_kindOfRow 11 = .ok (.iaload, 1) := by decide +kernel
theorem dX1_kindOfRow_12 : decode cX1_kindOfRow 12 = .ok (.isub, 1) := by decide +kernel
theorem dX1_kindOfRow_13 : decode cX1_kindOfRow 13 = .ok (.iconst 2, 1) := by decide +kernel
theorem dX1_kindOfRow_14 : decode cX1_kindOfRow 14 = .ok (.invokestatic 72, 3) := by decide +kernel
theorem dX1_kindOfRow_17 : decode cX1_kindOfRow 17 = .ok (.ireturn, 1) := by decide +kernel
theorem dX1_lengthOfRow_0 : decode cX1_lengthOfRow 0 = .ok (.aload_n 0, 1) := by decide +kernel
theorem dX1_lengthOfRow_1 : decode cX1_lengthOfRow 1 = .ok (.aload_n 1, 1) := by decide +kernel
theorem dX1_lengthOfRow_2 : decode cX1_lengthOfRow 2 = .ok (.iload_n 2, 1) := by decide +kernel
theorem dX1_lengthOfRow_3 : decode cX1_lengthOfRow 3 = .ok (.invokevirtual 68, 3) := by decide +kernel
theorem dX1_lengthOfRow_6 : decode cX1_lengthOfRow 6 = .ok (.istore_n 3, 1) := by decide +kernel
theorem dX1_lengthOfRow_7 : decode cX1_lengthOfRow 7 = .ok (.aload_n 0, 1) := by decide +kernel
theorem dX1_lengthOfRow_8 : decode cX1_lengthOfRow 8 = .ok (.aload_n 1, 1) := by decide +kernel
theorem dX1_lengthOfRow_9 : decode cX1_lengthOfRow 9 = .ok (.iload_n 2, 1) := by decide +kernel
theorem dX1_lengthOfRow_10 : decode cX1_lengthOfRow 10 = .ok (.invokevirtual 75, 3) := by decide +kernel
theorem dX1_lengthOfRow_13 : decode cX1_lengthOfRow 13 = .ok (.iconst 2, 1) := by decide +kernel
theorem dX1_lengthOfRow_14 : decode cX1_lengthOfRow 14 = .ok (.if_icmp .ne 27, 3) := by decide +kernel
theorem dX1_lengthOfRow_17 : decode cX1_lengthOfRow 17 = .ok (.aload_n 1, 1) := by decide +kernel
theorem dX1_lengthOfRow_18 : decode cX1_lengthOfRow 18 = .ok (.getfield 78, 3) := by decide +kernel
theorem dX1_lengthOfRow_21 : decode cX1_lengthOfRow 21 = .ok (.aload_n 1, 1) := by decide +kernel
theorem dX1_lengthOfRow_22 : decode cX1_lengthOfRow 22 = .ok (.getfield 33, 3) := by decide +kernel
theorem dX1_lengthOfRow_25 : decode cX1_lengthOfRow 25 = .ok (.iload_n 3, 1) := by decide +kernel
theorem dX1_lengthOfRow_26 : decode cX1_lengthOfRow 26 = .ok (.aaload, 1) := by decide +kernel
theorem dX1_lengthOfRow_27 : decode cX1_lengthOfRow 27 = .ok (.getfield 56, 3) := by decide +kernel
theorem dX1_lengthOfRow_30 : decode cX1_lengthOfRow 30 = .ok (.aload_n 0, 1) := by decide +kernel
theorem dX1_lengthOfRow_31 : decode cX1_lengthOfRow 31 = .ok (.aload_n 1, 1) := by decide +kernel
theorem dX1_lengthOfRow_32 : decode cX1_lengthOfRow 32 = .ok (.iload_n 2, 1) := by decide +kernel
theorem dX1_lengthOfRow_33 : decode cX1_lengthOfRow 33 = .ok (.invokevirtual 80, 3) := by decide +kernel
theorem dX1_lengthOfRow_36 : decode cX1_lengthOfRow 36 = .ok (.isub, 1) := by decide +kernel
theorem dX1_lengthOfRow_37 : decode cX1_lengthOfRow 37 = .ok (.invokestatic 72, 3) := by decide +kernel
theorem dX1_lengthOfRow_40 : decode cX1_lengthOfRow 40 = .ok (.ireturn, 1) := by decide +kernel
theorem dX1_lengthOfRow_41 : decode cX1_lengthOfRow 41 = .ok (.aload_n 0, 1) := by decide +kernel
theorem dX1_lengthOfRow_42 : decode cX1_lengthOfRow 42 = .ok (.getfield 15, 3) := by decide +kernel
theorem dX1_lengthOfRow_45 : decode cX1_lengthOfRow 45 = .ok (.iload_n 3, 1) := by decide +kernel
theorem dX1_lengthOfRow_46 : decode cX1_lengthOfRow 46 = .ok (.iaload, 1) := by decide +kernel
theorem dX1_lengthOfRow_47 : decode cX1_lengthOfRow 47 = .ok (.aload_n 0, 1) := by decide +kernel
theorem dX1_lengthOfRow_48 : decode cX1_lengthOfRow 48 = .ok (.getfield 21, 3) := by decide +kernel
theorem dX1_lengthOfRow_51 : decode cX1_lengthOfRow 51 = .ok (.iload_n 3, 1) := by decide +kernel
theorem dX1_lengthOfRow_52 : decode cX1_lengthOfRow 52 = .ok (.iaload, 1) := by decide +kernel
theorem dX1_lengthOfRow_53 : decode cX1_lengthOfRow 53 = .ok (.iadd, 1) := by decide +kernel
theorem dX1_lengthOfRow_54 : decode cX1_lengthOfRow 54 = .ok (.ireturn, 1) := by decide +kernel
theorem dX1_sentenceOfRow_0 : decode cX1_sentenceOfRow 0 = .ok (.aload_n 0, 1) := by decide +kernel
theorem dX1_sentenceOfRow_1 : decode cX1_sentenceOfRow 1 = .ok (.getfield 18, 3) := by decide +kernel
theorem dX1_sentenceOfRow_4 : decode cX1_sentenceOfRow 4 = .ok (.aload_n 0, 1) := by decide +kernel
theorem dX1_sentenceOfRow_5 : decode cX1_sentenceOfRow 5 = .ok (.aload_n 1, 1) := by decide +kernel
theorem dX1_sentenceOfRow_6 : decode cX1_sentenceOfRow 6 = .ok (.iload_n 2, 1) := by decide +kernel
theorem dX1_sentenceOfRow_7 : decode cX1_sentenceOfRow 7 = .ok (.invokevirtual 68, 3) := by decide +kernel
theorem dX1_sentenceOfRow_10 : decode cX1_sentenceOfRow 10 = .ok (.iaload, 1) := by decide +kernel
theorem dX1_sentenceOfRow_11 : decode cX1_sentenceOfRow 11 = .ok (.ireturn, 1) := by decide +kernel
theorem dX1_codeInRow_0 : decode cX1_codeInRow 0 = .ok (.iload_n 3, 1) := by decide +kernel
theorem dX1_codeInRow_1 : decode cX1_codeInRow 1 = .ok (.aload_n 0, 1) := by decide +kernel
theorem dX1_codeInRow_2 : decode cX1_codeInRow 2 = .ok (.aload_n 1, 1) := by decide +kernel
theorem dX1_codeInRow_3 : decode cX1_codeInRow 3 = .ok (.iload_n 2, 1) := by decide +kernel
theorem dX1_codeInRow_4 : decode cX1_codeInRow 4 = .ok (.invokevirtual 83, 3) := by decide +kernel
theorem dX1_codeInRow_7 : decode cX1_codeInRow 7 = .ok (.if_icmp .lt 6, 3) := by decide +kernel
theorem dX1_codeInRow_10 : decode cX1_codeInRow 10 = .ok (.bipush (-9), 2) := by decide +kernel
theorem dX1_codeInRow_12 : decode cX1_codeInRow 12 = .ok (.ireturn, 1) := by decide +kernel
theorem dX1_codeInRow_13 : decode cX1_codeInRow 13 = .ok (.aload_n 0, 1) := by decide +kernel
theorem dX1_codeInRow_14 : decode cX1_codeInRow 14 = .ok (.aload_n 1, 1) := by decide +kernel
theorem dX1_codeInRow_15 : decode cX1_codeInRow 15 = .ok (.iload_n 2, 1) := by decide +kernel
theorem dX1_codeInRow_16 : decode cX1_codeInRow 16 = .ok (.invokevirtual 68, 3) := by decide +kernel
theorem dX1_codeInRow_19 : decode cX1_codeInRow 19 = .ok (.istore 4, 2) := by decide +kernel
theorem dX1_codeInRow_21 : decode cX1_codeInRow 21 = .ok (.aload_n 0, 1) := by decide +kernel
theorem dX1_codeInRow_22 : decode cX1_codeInRow 22 = .ok (.aload_n 1, 1) := by decide +kernel
theorem dX1_codeInRow_23 : decode cX1_codeInRow 23 = .ok (.iload_n 2, 1) := by decide +kernel
theorem dX1_codeInRow_24 : decode cX1_codeInRow 24 = .ok (.invokevirtual 75, 3) := by decide +kernel
theorem dX1_codeInRow_27 : decode cX1_codeInRow 27 = .ok (.istore 5, 2) := by decide +kernel
theorem dX1_codeInRow_29 : decode cX1_codeInRow 29 = .ok (.iload 5, 2) := by decide +kernel
theorem dX1_codeInRow_31 : decode cX1_codeInRow 31 = .ok (.iconst 2, 1) := by decide +kernel
theorem dX1_codeInRow_32 : decode cX1_codeInRow 32 = .ok (.if_icmp .ne 22, 3) := by decide +kernel
theorem dX1_codeInRow_35 : decode cX1_codeInRow 35 = .ok (.aload_n 1, 1) := by decide +kernel
theorem dX1_codeInRow_36 : decode cX1_codeInRow 36 = .ok (.getfield 33, 3) := by decide +kernel
theorem dX1_codeInRow_39 : decode cX1_codeInRow 39 = .ok (.iload 4, 2) := by decide +kernel
theorem dX1_codeInRow_41 : decode cX1_codeInRow 41 = .ok (.aaload, 1) := by decide +kernel
theorem dX1_codeInRow_42 : decode cX1_codeInRow 42 = .ok (.aload_n 0, 1) := by decide +kernel
theorem dX1_codeInRow_43 : decode cX1_codeInRow 43 = .ok (.aload_n 1, 1) := by decide +kernel
theorem dX1_codeInRow_44 : decode cX1_codeInRow 44 = .ok (.iload_n 2, 1) := by decide +kernel
theorem dX1_codeInRow_45 : decode cX1_codeInRow 45 = .ok (.invokevirtual 80, 3) := by decide +kernel
theorem dX1_codeInRow_48 : decode cX1_codeInRow 48 = .ok (.iload_n 3, 1) := by decide +kernel
theorem dX1_codeInRow_49 : decode cX1_codeInRow 49 = .ok (.iadd, 1) := by decide +kernel
theorem dX1_codeInRow_50 : decode cX1_codeInRow 50 = .ok (.invokevirtual 86, 3) := by decide +kernel
theorem dX1_codeInRow_53 : decode cX1_codeInRow 53 = .ok (.ireturn, 1) := by decide +kernel
theorem dX1_codeInRow_54 : decode cX1_codeInRow 54 = .ok (.iload 4, 2) := by decide +kernel
theorem dX1_codeInRow_56 : decode cX1_codeInRow 56 = .ok (.istore 6, 2) := by decide +kernel
theorem dX1_codeInRow_58 : decode cX1_codeInRow 58 = .ok (.iload 6, 2) := by decide +kernel
theorem dX1_codeInRow_60 : decode cX1_codeInRow 60 = .ok (.ifCond .lt 63, 3) := by decide +kernel
theorem dX1_codeInRow_63 : decode cX1_codeInRow 63 = .ok (.aload_n 0, 1) := by decide +kernel
theorem dX1_codeInRow_64 : decode cX1_codeInRow 64 = .ok (.getfield 9, 3) := by decide +kernel
theorem dX1_codeInRow_67 : decode cX1_codeInRow 67 = .ok (.iload 6, 2) := by decide +kernel
theorem dX1_codeInRow_69 : decode cX1_codeInRow 69 = .ok (.iaload, 1) := by decide +kernel
theorem dX1_codeInRow_70 : decode cX1_codeInRow 70 = .ok (.aload_n 0, 1) := by decide +kernel
theorem dX1_codeInRow_71 : decode cX1_codeInRow 71 = .ok (.getfield 9, 3) := by decide +kernel
theorem dX1_codeInRow_74 : decode cX1_codeInRow 74 = .ok (.iload 4, 2) := by decide +kernel
theorem dX1_codeInRow_76 : decode cX1_codeInRow 76 = .ok (.iaload, 1) := by decide +kernel
theorem dX1_codeInRow_77 : decode cX1_codeInRow 77 = .ok (.if_icmp .ne 46, 3) := by decide +kernel
theorem dX1_codeInRow_80 : decode cX1_codeInRow 80 = .ok (.iload_n 3, 1) := by decide +kernel
theorem dX1_codeInRow_81 : decode cX1_codeInRow 81 = .ok (.aload_n 0, 1) := by decide +kernel
theorem dX1_codeInRow_82 : decode cX1_codeInRow 82 = .ok (.getfield 15, 3) := by decide +kernel
theorem dX1_codeInRow_85 : decode cX1_codeInRow 85 = .ok (.iload 6, 2) := by decide +kernel
theorem dX1_codeInRow_87 : decode cX1_codeInRow 87 = .ok (.iaload, 1) := by decide +kernel
theorem dX1_codeInRow_88 : decode cX1_codeInRow 88 = .ok (.if_icmp .lt 29, 3) := by decide +kernel
theorem dX1_codeInRow_91 : decode cX1_codeInRow 91 = .ok (.aload_n 1, 1) := by decide +kernel
theorem dX1_codeInRow_92 : decode cX1_codeInRow 92 = .ok (.getfield 33, 3) := by decide +kernel
theorem dX1_codeInRow_95 : decode cX1_codeInRow 95 = .ok (.iload 6, 2) := by decide +kernel
theorem dX1_codeInRow_97 : decode cX1_codeInRow 97 = .ok (.aaload, 1) := by decide +kernel
theorem dX1_codeInRow_98 : decode cX1_codeInRow 98 = .ok (.iload 5, 2) := by decide +kernel
theorem dX1_codeInRow_100 : decode cX1_codeInRow 100 = .ok (.aload_n 1, 1) := by decide +kernel
theorem dX1_codeInRow_101 : decode cX1_codeInRow 101 = .ok (.getfield 89, 3) := by decide +kernel
theorem dX1_codeInRow_104 : decode cX1_codeInRow 104 = .ok (.iload_n 3, 1) := by decide +kernel
theorem dX1_codeInRow_105 : decode cX1_codeInRow 105 = .ok (.aload_n 0, 1) := by decide +kernel
theorem dX1_codeInRow_106 : decode cX1_codeInRow 106 = .ok (.getfield 15, 3) := by decide +kernel
theorem dX1_codeInRow_109 : decode cX1_codeInRow 109 = .ok (.iload 6, 2) := by decide +kernel
theorem dX1_codeInRow_111 : decode cX1_codeInRow 111 = .ok (.iaload, 1) := by decide +kernel
theorem dX1_codeInRow_112 : decode cX1_codeInRow 112 = .ok (.isub, 1) := by decide +kernel
theorem dX1_codeInRow_113 : decode cX1_codeInRow 113 = .ok (.invokevirtual 92, 3) := by decide +kernel
theorem dX1_codeInRow_116 : decode cX1_codeInRow 116 = .ok (.ireturn, 1) := by decide +kernel
theorem dX1_codeInRow_117 : decode cX1_codeInRow 117 = .ok (.iinc 6 (-1), 3) := by decide +kernel
theorem dX1_codeInRow_120 : decode cX1_codeInRow 120 = .ok (.goto (-62), 3) := by decide +kernel
theorem dX1_codeInRow_123 : decode cX1_codeInRow 123 = .ok (.bipush 32, 2) := by decide +kernel
theorem dX1_codeInRow_125 : decode cX1_codeInRow 125 = .ok (.ireturn, 1) := by decide +kernel
theorem dX1_beginInFree_0 : decode cX1_beginInFree 0 = .ok (.iload_n 2, 1) := by decide +kernel
theorem dX1_beginInFree_1 : decode cX1_beginInFree 1 = .ok (.aload_n 0, 1) := by decide +kernel
theorem dX1_beginInFree_2 : decode cX1_beginInFree 2 = .ok (.getfield 24, 3) := by decide +kernel
theorem dX1_beginInFree_5 : decode cX1_beginInFree 5 = .ok (.aload_n 0, 1) := by decide +kernel
theorem dX1_beginInFree_6 : decode cX1_beginInFree 6 = .ok (.aload_n 1, 1) := by decide +kernel
theorem dX1_beginInFree_7 : decode cX1_beginInFree 7 = .ok (.iload_n 2, 1) := by decide +kernel
theorem dX1_beginInFree_8 : decode cX1_beginInFree 8 = .ok (.invokevirtual 68, 3) := by decide +kernel
theorem dX1_beginInFree_11 : decode cX1_beginInFree 11 = .ok (.iaload, 1) := by decide +kernel
theorem dX1_beginInFree_12 : decode cX1_beginInFree 12 = .ok (.isub, 1) := by decide +kernel
theorem dX1_beginInFree_13 : decode cX1_beginInFree 13 = .ok (.iconst 2, 1) := by decide +kernel
theorem dX1_beginInFree_14 : decode cX1_beginInFree 14 = .ok (.isub, 1) := by decide +kernel
theorem dX1_beginInFree_15 : decode cX1_beginInFree 15 = .ok (.aload_n 1, 1) := by decide +kernel
theorem dX1_beginInFree_16 : decode cX1_beginInFree 16 = .ok (.getfield 78, 3) := by decide +kernel
theorem dX1_beginInFree_19 : decode cX1_beginInFree 19 = .ok (.imul, 1) := by decide +kernel
theorem dX1_beginInFree_20 : decode cX1_beginInFree 20 = .ok (.ireturn, 1) := by decide +kernel
theorem dX1_lastWordOfRow_0 : decode cX1_lastWordOfRow 0 = .ok (.iconst 0, 1) := by decide +kernel
theorem dX1_lastWordOfRow_1 : decode cX1_lastWordOfRow 1 = .ok (.istore_n 3, 1) := by decide +kernel
theorem dX1_lastWordOfRow_2 : decode cX1_lastWordOfRow 2 = .ok (.iconst 1, 1) := by decide +kernel
theorem dX1_lastWordOfRow_3 : decode cX1_lastWordOfRow 3 = .ok (.istore 4, 2) := by decide +kernel
theorem dX1_lastWordOfRow_5 : decode cX1_lastWordOfRow 5 = .ok (.iload 4, 2) := by decide +kernel
theorem dX1_lastWordOfRow_7 : decode cX1_lastWordOfRow 7 = .ok (.aload_n 1, 1) := by decide +kernel
theorem dX1_lastWordOfRow_8 : decode cX1_lastWordOfRow 8 = .ok (.getfield 27, 3) := by decide +kernel
theorem dX1_lastWordOfRow_11 : decode cX1_lastWordOfRow 11 = .ok (.if_icmp .ge 23, 3) := by decide +kernel
theorem dX1_lastWordOfRow_14 : decode cX1_lastWordOfRow 14 = .ok (.aload_n 0, 1) := by decide +kernel
theorem dX1_lastWordOfRow_15 : decode cX1_lastWordOfRow 15 = .ok (.getfield 24, 3) := by decide +kernel
theorem dX1_lastWordOfRow_18 : decode cX1_lastWordOfRow 18 = .ok (.iload 4, 2) := by decide +kernel
theorem dX1_lastWordOfRow_20 : decode cX1_lastWordOfRow 20 = .ok (.iaload, 1) := by decide +kernel
theorem dX1_lastWordOfRow_21 : decode cX1_lastWordOfRow 21 = .ok (.iload_n 2, 1) := by decide +kernel
theorem dX1_lastWordOfRow_22 : decode cX1_lastWordOfRow 22 = .ok (.if_icmp .gt 6, 3) := by decide +kernel
theorem dX1_lastWordOfRow_25 : decode cX1_lastWordOfRow 25 = .ok (.iload 4, 2) := by decide +kernel
theorem dX1_lastWordOfRow_27 : decode cX1_lastWordOfRow 27 = .ok (.istore_n 3, 1) := by decide +kernel
theorem dX1_lastWordOfRow_28 : decode cX1_lastWordOfRow 28 = .ok (.iinc 4 1, 3) := by decide +kernel
theorem dX1_lastWordOfRow_31 : decode cX1_lastWordOfRow 31 = .ok (.goto (-26), 3) := by decide +kernel
theorem dX1_lastWordOfRow_34 : decode cX1_lastWordOfRow 34 = .ok (.iload_n 3, 1) := by decide +kernel
theorem dX1_lastWordOfRow_35 : decode cX1_lastWordOfRow 35 = .ok (.ireturn, 1) := by decide +kernel
theorem dX2_length_0 : decode cX2_length 0 = .ok (.lload_n 0, 1) := by decide +kernel
theorem dX2_length_1 : decode cX2_length 1 = .ok (.ldc2_w 9, 3) := by decide +kernel
theorem dX2_length_4 : decode cX2_length 4 = .ok (.land, 1) := by decide +kernel
theorem dX2_length_5 : decode cX2_length 5 = .ok (.l2i, 1) := by decide +kernel
theorem dX2_length_6 : decode cX2_length 6 = .ok (.ireturn, 1) := by decide +kernel
theorem dX2_code_0 : decode cX2_code 0 = .ok (.iload_n 2, 1) := by decide +kernel
theorem dX2_code_1 : decode cX2_code 1 = .ok (.ifCond .lt 11, 3) := by decide +kernel
theorem dX2_code_4 : decode cX2_code 4 = .ok (.iload_n 2, 1) := by decide +kernel
theorem dX2_code_5 : decode cX2_code 5 = .ok (.lload_n 0, 1) := by decide +kernel
theorem dX2_code_6 : decode cX2_code 6 = .ok (.invokestatic 11, 3) := by decide +kernel
theorem dX2_code_9 : decode cX2_code 9 = .ok (.if_icmp .lt 6, 3) := by decide +kernel
theorem dX2_code_12 : decode cX2_code 12 = .ok (.bipush (-9), 2) := by decide +kernel
theorem dX2_code_14 : decode cX2_code 14 = .ok (.ireturn, 1) := by decide +kernel
theorem dX2_code_15 : decode cX2_code 15 = .ok (.lload_n 0, 1) := by decide +kernel
theorem dX2_code_16 : decode cX2_code 16 = .ok (.iload_n 2, 1) := by decide +kernel
theorem dX2_code_17 : decode cX2_code 17 = .ok (.invokestatic 17, 3) := by decide +kernel
theorem dX2_code_20 : decode cX2_code 20 = .ok (.lushr, 1) := by decide +kernel
theorem dX2_code_21 : decode cX2_code 21 = .ok (.l2i, 1) := by decide +kernel
theorem dX2_code_22 : decode cX2_code 22 = .ok (.bipush 127, 2) := by decide +kernel
theorem dX2_code_24 : decode cX2_code 24 = .ok (.iand, 1) := by decide +kernel
theorem dX2_code_25 : decode cX2_code 25 = .ok (.ireturn, 1) := by decide +kernel
theorem dX2_with_0 : decode cX2_with 0 = .ok (.lload_n 0, 1) := by decide +kernel
theorem dX2_with_1 : decode cX2_with 1 = .ok (.invokestatic 11, 3) := by decide +kernel
theorem dX2_with_4 : decode cX2_with 4 = .ok (.istore_n 3, 1) := by decide +kernel
theorem dX2_with_5 : decode cX2_with 5 = .ok (.iload_n 3, 1) := by decide +kernel
theorem dX2_with_6 : decode cX2_with 6 = .ok (.bipush 8, 2) := by decide +kernel
theorem dX2_with_8 : decode cX2_with 8 = .ok (.if_icmp .lt 5, 3) := by decide +kernel
theorem dX2_with_11 : decode cX2_with 11 = .ok (.lload_n 0, 1) := by decide +kernel
theorem dX2_with_12 : decode cX2_with 12 = .ok (.lreturn, 1) := by decide +kernel
theorem dX2_with_13 : decode cX2_with 13 = .ok (.lload_n 0, 1) := by decide +kernel
theorem dX2_with_14 : decode cX2_with 14 = .ok (.iload_n 2, 1) := by decide +kernel
theorem dX2_with_15 : decode cX2_with 15 = .ok (.i2l, 1) := by decide +kernel
theorem dX2_with_16 : decode cX2_with 16 = .ok (.iload_n 3, 1) := by decide +kernel
theorem dX2_with_17 : decode cX2_with 17 = .ok (.invokestatic 17, 3) := by decide +kernel
theorem dX2_with_20 : decode cX2_with 20 = .ok (.lshl, 1) := by decide +kernel
theorem dX2_with_21 : decode cX2_with 21 = .ok (.ladd, 1) := by decide +kernel
theorem dX2_with_22 : decode cX2_with 22 = .ok (.lconst 1, 1) := by decide +kernel
theorem dX2_with_23 : decode cX2_with 23 = .ok (.ladd, 1) := by decide +kernel
theorem dX2_with_24 : decode cX2_with 24 = .ok (.lreturn, 1) := by decide +kernel
theorem dX2_placeOf_0 : decode cX2_placeOf 0 = .ok (.iconst 4, 1) := by decide +kernel
theorem dX2_placeOf_1 : decode cX2_placeOf 1 = .ok (.bipush 7, 2) := by decide +kernel
theorem dX2_placeOf_3 : decode cX2_placeOf 3 = .ok (.bipush 7, 2) := by decide +kernel
theorem dX2_placeOf_5 : decode cX2_placeOf 5 = .ok (.iload_n 0, 1) := by decide +kernel
theorem dX2_placeOf_6 : decode cX2_placeOf 6 = .ok (.isub, 1) := by decide +kernel
theorem dX2_placeOf_7 : decode cX2_placeOf 7 = .ok (.imul, 1) := by decide +kernel
theorem dX2_placeOf_8 : decode cX2_placeOf 8 = .ok (.iadd, 1) := by decide +kernel
theorem dX2_placeOf_9 : decode cX2_placeOf 9 = .ok (.ireturn, 1) := by decide +kernel
theorem dX2_isLetter_0 : decode cX2_isLetter 0 = .ok (.iload_n 0, 1) := by decide +kernel
theorem dX2_isLetter_1 : decode cX2_isLetter 1 = .ok (.bipush 97, 2) := by decide +kernel
theorem dX2_isLetter_3 : decode cX2_isLetter 3 = .ok (.if_icmp .lt 13, 3) := by decide +kernel
theorem dX2_isLetter_6 : decode cX2_isLetter 6 = .ok (.iload_n 0, 1) := by decide +kernel
theorem dX2_isLetter_7 : decode cX2_isLetter 7 = .ok (.bipush 122, 2) := by decide +kernel
theorem dX2_isLetter_9 : decode cX2_isLetter 9 = .ok (.if_icmp .gt 7, 3) := by decide +kernel
theorem dX2_isLetter_12 : decode cX2_isLetter 12 = .ok (.iconst 1, 1) := by decide +kernel
theorem dX2_isLetter_13 : decode cX2_isLetter 13 = .ok (.goto 4, 3) := by decide +kernel
theorem dX2_isLetter_16 : decode cX2_isLetter 16 = .ok (.iconst 0, 1) := by decide +kernel
theorem dX2_isLetter_17 : decode cX2_isLetter 17 = .ok (.ireturn, 1) := by decide +kernel
theorem dX2_isGlossLetter_0 : decode cX2_isGlossLetter 0 = .ok (.iload_n 0, 1) := by decide +kernel
theorem dX2_isGlossLetter_1 : decode cX2_isGlossLetter 1 = .ok (.invokestatic 21, 3) := by decide +kernel
theorem dX2_isGlossLetter_4 : decode cX2_isGlossLetter 4 = .ok (.ifCond .ne 9, 3) := by decide +kernel
theorem dX2_isGlossLetter_7 : decode cX2_isGlossLetter 7 = .ok (.iload_n 0, 1) := by decide +kernel
theorem dX2_isGlossLetter_8 : decode cX2_isGlossLetter 8 = .ok (.bipush 46, 2) := by decide +kernel
theorem dX2_isGlossLetter_10 : decode cX2_isGlossLetter 10 = .ok (.if_icmp .ne 7, 3) := by decide +kernel
theorem dX2_isGlossLetter_13 : decode cX2_isGlossLetter 13 = .ok (.iconst 1, 1) := by decide +kernel
theorem dX2_isGlossLetter_14 : decode cX2_isGlossLetter 14 = .ok (.goto 4, 3) := by decide +kernel
theorem dX2_isGlossLetter_17 : decode cX2_isGlossLetter 17 = .ok (.iconst 0, 1) := by decide +kernel
theorem dX2_isGlossLetter_18 : decode cX2_isGlossLetter 18 = .ok (.ireturn, 1) := by decide +kernel
theorem dX2_isMark_0 : decode cX2_isMark 0 = .ok (.iload_n 0, 1) := by decide +kernel
theorem dX2_isMark_1 : decode cX2_isMark 1 = .ok (.bipush 45, 2) := by decide +kernel
theorem dX2_isMark_3 : decode cX2_isMark 3 = .ok (.if_icmp .eq 9, 3) := by decide +kernel
theorem dX2_isMark_6 : decode cX2_isMark 6 = .ok (.iload_n 0, 1) := by decide +kernel
theorem dX2_isMark_7 : decode cX2_isMark 7 = .ok (.bipush 61, 2) := by decide +kernel
theorem dX2_isMark_9 : decode cX2_isMark 9 = .ok (.if_icmp .ne 7, 3) := by decide +kernel
theorem dX2_isMark_12 : decode cX2_isMark 12 = .ok (.iconst 1, 1) := by decide +kernel
theorem dX2_isMark_13 : decode cX2_isMark 13 = .ok (.goto 4, 3) := by decide +kernel
theorem dX2_isMark_16 : decode cX2_isMark 16 = .ok (.iconst 0, 1) := by decide +kernel
theorem dX2_isMark_17 : decode cX2_isMark 17 = .ok (.ireturn, 1) := by decide +kernel
theorem dX3_init_0 : decode cX3_init 0 = .ok (.aload_n 0, 1) := by decide +kernel
theorem dX3_init_1 : decode cX3_init 1 = .ok (.invokespecial 3, 3) := by decide +kernel
theorem dX3_init_4 : decode cX3_init 4 = .ok (.aload_n 0, 1) := by decide +kernel
theorem dX3_init_5 : decode cX3_init 5 = .ok (.bipush 16, 2) := by decide +kernel
theorem dX3_init_7 : decode cX3_init 7 = .ok (.newarray .long, 2) := by decide +kernel
theorem dX3_init_9 : decode cX3_init 9 = .ok (.putfield 9, 3) := by decide +kernel
theorem dX3_init_12 : decode cX3_init 12 = .ok (.aload_n 0, 1) := by decide +kernel
theorem dX3_init_13 : decode cX3_init 13 = .ok (.bipush 16, 2) := by decide +kernel
theorem dX3_init_15 : decode cX3_init 15 = .ok (.newarray .long, 2) := by decide +kernel
theorem dX3_init_17 : decode cX3_init 17 = .ok (.putfield 15, 3) := by decide +kernel
theorem dX3_init_20 : decode cX3_init 20 = .ok (.return_, 1) := by decide +kernel
theorem dX3_copyFrom_0 : decode cX3_copyFrom 0 = .ok (.aload_n 0, 1) := by decide +kernel
theorem dX3_copyFrom_1 : decode cX3_copyFrom 1 = .ok (.aload_n 1, 1) := by decide +kernel
theorem dX3_copyFrom_2 : decode cX3_copyFrom 2 = .ok (.getfield 18, 3) := by decide +kernel
theorem dX3_copyFrom_5 : decode cX3_copyFrom 5 = .ok (.putfield 18, 3) := by decide +kernel
theorem dX3_copyFrom_8 : decode cX3_copyFrom 8 = .ok (.iconst 0, 1) := by decide +kernel
theorem dX3_copyFrom_9 : decode cX3_copyFrom 9 = .ok (.istore_n 2, 1) := by decide +kernel
theorem dX3_copyFrom_10 : decode cX3_copyFrom 10 = .ok (.iload_n 2, 1) := by decide +kernel
theorem dX3_copyFrom_11 : decode cX3_copyFrom 11 = .ok (.aload_n 0, 1) := by decide +kernel
theorem dX3_copyFrom_12 : decode cX3_copyFrom 12 = .ok (.getfield 18, 3) := by decide +kernel
theorem dX3_copyFrom_15 : decode cX3_copyFrom 15 = .ok (.if_icmp .ge 33, 3) := by decide +kernel
theorem dX3_copyFrom_18 : decode cX3_copyFrom 18 = .ok (.aload_n 0, 1) := by decide +kernel
theorem dX3_copyFrom_19 : decode cX3_copyFrom 19 = .ok (.getfield 9, 3) := by decide +kernel
theorem dX3_copyFrom_22 : decode cX3_copyFrom 22 = .ok (.iload_n 2, 1) := by decide +kernel
theorem dX3_copyFrom_23 : decode cX3_copyFrom 23 = .ok (.aload_n 1, 1) := by decide +kernel
theorem dX3_copyFrom_24 : decode cX3_copyFrom 24 = .ok (.getfield 9, 3) := by decide +kernel
theorem dX3_copyFrom_27 : decode cX3_copyFrom 27 = .ok (.iload_n 2, 1) := by decide +kernel
theorem dX3_copyFrom_28 : decode cX3_copyFrom 28 = .ok (.laload, 1) := by decide +kernel
theorem dX3_copyFrom_29 : decode cX3_copyFrom 29 = .ok (.lastore, 1) := by decide +kernel
theorem dX3_copyFrom_30 : decode cX3_copyFrom 30 = .ok (.aload_n 0, 1) := by decide +kernel
theorem dX3_copyFrom_31 : decode cX3_copyFrom 31 = .ok (.getfield 15, 3) := by decide +kernel
theorem dX3_copyFrom_34 : decode cX3_copyFrom 34 = .ok (.iload_n 2, 1) := by decide +kernel
theorem dX3_copyFrom_35 : decode cX3_copyFrom 35 = .ok (.aload_n 1, 1) := by decide +kernel
theorem dX3_copyFrom_36 : decode cX3_copyFrom 36 = .ok (.getfield 15, 3) := by decide +kernel
theorem dX3_copyFrom_39 : decode cX3_copyFrom 39 = .ok (.iload_n 2, 1) := by decide +kernel
theorem dX3_copyFrom_40 : decode cX3_copyFrom 40 = .ok (.laload, 1) := by decide +kernel
theorem dX3_copyFrom_41 : decode cX3_copyFrom 41 = .ok (.lastore, 1) := by decide +kernel
theorem dX3_copyFrom_42 : decode cX3_copyFrom 42 = .ok (.iinc 2 1, 3) := by decide +kernel
theorem dX3_copyFrom_45 : decode cX3_copyFrom 45 = .ok (.goto (-35), 3) := by decide +kernel
theorem dX3_copyFrom_48 : decode cX3_copyFrom 48 = .ok (.return_, 1) := by decide +kernel
theorem dX3_find_0 : decode cX3_find 0 = .ok (.iconst 0, 1) := by decide +kernel
theorem dX3_find_1 : decode cX3_find 1 = .ok (.istore_n 3, 1) := by decide +kernel
theorem dX3_find_2 : decode cX3_find 2 = .ok (.iload_n 3, 1) := by decide +kernel
theorem dX3_find_3 : decode cX3_find 3 = .ok (.aload_n 0, 1) := by decide +kernel
theorem dX3_find_4 : decode cX3_find 4 = .ok (.getfield 18, 3) := by decide +kernel
theorem dX3_find_7 : decode cX3_find 7 = .ok (.if_icmp .ge 22, 3) := by decide +kernel
theorem dX3_find_10 : decode cX3_find 10 = .ok (.aload_n 0, 1) := by decide +kernel
theorem dX3_find_11 : decode cX3_find 11 = .ok (.getfield 9, 3) := by decide +kernel
theorem dX3_find_14 : decode cX3_find 14 = .ok (.iload_n 3, 1) := by decide +kernel
theorem dX3_find_15 : decode cX3_find 15 = .ok (.laload, 1) := by decide +kernel
theorem dX3_find_16 : decode cX3_find 16 = .ok (.lload_n 1, 1) := by decide +kernel
theorem dX3_find_17 : decode cX3_find 17 = .ok (.lcmp, 1) := by decide +kernel
theorem dX3_find_18 : decode cX3_find 18 = .ok (.ifCond .ne 5, 3) := by decide +kernel
theorem dX3_find_21 : decode cX3_find 21 = .ok (.iload_n 3, 1) := by decide +kernel
theorem dX3_find_22 : decode cX3_find 22 = .ok (.ireturn, 1) := by decide +kernel
theorem dX3_find_23 : decode cX3_find 23 = .ok (.iinc 3 1, 3) := by decide +kernel
theorem dX3_find_26 : decode cX3_find 26 = .ok (.goto (-24), 3) := by decide +kernel
theorem dX3_find_29 : decode cX3_find 29 = .ok (.bipush (-9), 2) := by decide +kernel
theorem dX3_find_31 : decode cX3_find 31 = .ok (.ireturn, 1) := by decide +kernel
theorem dX3_canTake_0 : decode cX3_canTake 0 = .ok (.aload_n 0, 1) := by decide +kernel
theorem dX3_canTake_1 : decode cX3_canTake 1 = .ok (.getfield 18, 3) := by decide +kernel
theorem dX3_canTake_4 : decode cX3_canTake 4 = .ok (.bipush 16, 2) := by decide +kernel
theorem dX3_canTake_6 : decode cX3_canTake 6 = .ok (.if_icmp .lt 13, 3) := by decide +kernel
theorem dX3_canTake_9 : decode cX3_canTake 9 = .ok (.aload_n 0, 1) := by decide +kernel
theorem dX3_canTake_10 : decode cX3_canTake 10 = .ok (.lload_n 1, 1) := by decide +kernel
theorem dX3_canTake_11 : decode cX3_canTake 11 = .ok (.invokevirtual 22, 3) := by decide +kernel
theorem dX3_canTake_14 : decode cX3_canTake 14 = .ok (.bipush (-9), 2) := by decide +kernel
theorem dX3_canTake_16 : decode cX3_canTake 16 = .ok (.if_icmp .eq 7, 3) := by decide +kernel
theorem dX3_canTake_19 : decode cX3_canTake 19 = .ok (.iconst 1, 1) := by decide +kernel
theorem dX3_canTake_20 : decode cX3_canTake 20 = .ok (.goto 4, 3) := by decide +kernel
theorem dX3_canTake_23 : decode cX3_canTake 23 = .ok (.iconst 0, 1) := by decide +kernel
theorem dX3_canTake_24 : decode cX3_canTake 24 = .ok (.ireturn, 1) := by decide +kernel
theorem dX3_take_0 : decode cX3_take 0 = .ok (.aload_n 0, 1) := by decide +kernel
theorem dX3_take_1 : decode cX3_take 1 = .ok (.lload_n 1, 1) := by decide +kernel
theorem dX3_take_2 : decode cX3_take 2 = .ok (.invokevirtual 22, 3) := by decide +kernel
theorem dX3_take_5 : decode cX3_take 5 = .ok (.istore 5, 2) := by decide +kernel
theorem dX3_take_7 : decode cX3_take 7 = .ok (.iload 5, 2) := by decide +kernel
theorem dX3_take_9 : decode cX3_take 9 = .ok (.bipush (-9), 2) := by decide +kernel
theorem dX3_take_11 : decode cX3_take 11 = .ok (.if_icmp .ne 10, 3) := by decide +kernel
theorem dX3_take_14 : decode cX3_take 14 = .ok (.aload_n 0, 1) := by decide +kernel
theorem dX3_take_15 : decode cX3_take 15 = .ok (.lload_n 1, 1) := by decide +kernel
theorem dX3_take_16 : decode cX3_take 16 = .ok (.invokevirtual 26, 3) := by decide +kernel
theorem dX3_take_19 : decode cX3_take 19 = .ok (.istore 5, 2) := by decide +kernel
theorem dX3_take_21 : decode cX3_take 21 = .ok (.iload 5, 2) := by decide +kernel
theorem dX3_take_23 : decode cX3_take 23 = .ok (.bipush (-9), 2) := by decide +kernel
theorem dX3_take_25 : decode cX3_take 25 = .ok (.if_icmp .eq 19, 3) := by decide +kernel
theorem dX3_take_28 : decode cX3_take 28 = .ok (.aload_n 0, 1) := by decide +kernel
theorem dX3_take_29 : decode cX3_take 29 = .ok (.getfield 9, 3) := by decide +kernel
theorem dX3_take_32 : decode cX3_take 32 = .ok (.iload 5, 2) := by decide +kernel
theorem dX3_take_34 : decode cX3_take 34 = .ok (.lload_n 1, 1) := by decide +kernel
theorem dX3_take_35 : decode cX3_take 35 = .ok (.lastore, 1) := by decide +kernel
theorem dX3_take_36 : decode cX3_take 36 = .ok (.aload_n 0, 1) := by decide +kernel
theorem dX3_take_37 : decode cX3_take 37 = .ok (.getfield 15, 3) := by decide +kernel
theorem dX3_take_40 : decode cX3_take 40 = .ok (.iload 5, 2) := by decide +kernel
theorem dX3_take_42 : decode cX3_take 42 = .ok (.lload_n 3, 1) := by decide +kernel
theorem dX3_take_43 : decode cX3_take 43 = .ok (.lastore, 1) := by decide +kernel
theorem dX3_take_44 : decode cX3_take 44 = .ok (.return_, 1) := by decide +kernel
theorem dX3_makePlaceFor_0 : decode cX3_makePlaceFor 0 = .ok (.aload_n 0, 1) := by decide +kernel
theorem dX3_makePlaceFor_1 : decode cX3_makePlaceFor 1 = .ok (.getfield 18, 3) := by decide +kernel
theorem dX3_makePlaceFor_4 : decode cX3_makePlaceFor 4 = .ok (.bipush 16, 2) := by decide +kernel
theorem dX3_makePlaceFor_6 : decode cX3_makePlaceFor 6 = .ok (.if_icmp .lt 6, 3) := by decide +kernel
theorem dX3_makePlaceFor_9 : decode cX3_makePlaceFor 9 = .ok (.bipush (-9), 2) := by decide +kernel
theorem dX3_makePlaceFor_11 : decode cX3_makePlaceFor 11 = .ok (.ireturn, 1) := by decide +kernel
theorem dX3_makePlaceFor_12 : decode cX3_makePlaceFor 12 = .ok (.aload_n 0, 1) := by decide +kernel
theorem dX3_makePlaceFor_13 : decode cX3_makePlaceFor 13 = .ok (.getfield 18, 3) := by decide +kernel
theorem dX3_makePlaceFor_16 : decode cX3_makePlaceFor 16 = .ok (.istore_n 3, 1) := by decide +kernel
theorem dX3_makePlaceFor_17 : decode cX3_makePlaceFor 17 = .ok (.iload_n 3, 1) := by decide +kernel
theorem dX3_makePlaceFor_18 : decode cX3_makePlaceFor 18 = .ok (.ifCond .le 50, 3) := by decide +kernel
theorem dX3_makePlaceFor_21 : decode cX3_makePlaceFor 21 = .ok (.aload_n 0, 1) := by decide +kernel
theorem dX3_makePlaceFor_22 : decode cX3_makePlaceFor 22 = .ok (.getfield 9, 3) := by decide +kernel
theorem dX3_makePlaceFor_25 : decode cX3_makePlaceFor 25 = .ok (.iload_n 3, 1) := by decide +kernel
theorem dX3_makePlaceFor_26 : decode cX3_makePlaceFor 26 = .ok (.iconst 1, 1) := by decide +kernel
theorem dX3_makePlaceFor_27 : decode cX3_makePlaceFor 27 = .ok (.isub, 1) := by decide +kernel
theorem dX3_makePlaceFor_28 : decode cX3_makePlaceFor 28 = .ok (.laload, 1) := by decide +kernel
theorem dX3_makePlaceFor_29 : decode cX3_makePlaceFor 29 = .ok (.lload_n 1, 1) := by decide +kernel
theorem dX3_makePlaceFor_30 : decode cX3_makePlaceFor 30 = .ok (.lcmp, 1) := by decide +kernel
theorem dX3_makePlaceFor_31 : decode cX3_makePlaceFor 31 = .ok (.ifCond .le 37, 3) := by decide +kernel
theorem dX3_makePlaceFor_34 : decode cX3_makePlaceFor 34 = .ok (.aload_n 0, 1) := by decide +kernel
theorem dX3_makePlaceFor_35 : decode cX3_makePlaceFor 35 = .ok (.getfield 9, 3) := by decide +kernel
theorem dX3_makePlaceFor_38 : decode cX3_makePlaceFor 38 = .ok (.iload_n 3, 1) := by decide +kernel
theorem dX3_makePlaceFor_39 : decode cX3_makePlaceFor 39 = .ok (.aload_n 0, 1) := by decide +kernel
theorem dX3_makePlaceFor_40 : decode cX3_makePlaceFor 40 = .ok (.getfield 9, 3) := by decide +kernel
theorem dX3_makePlaceFor_43 : decode cX3_makePlaceFor 43 = .ok (.iload_n 3, 1) := by decide +kernel
theorem dX3_makePlaceFor_44 : decode cX3_makePlaceFor 44 = .ok (.iconst 1, 1) := by decide +kernel
theorem dX3_makePlaceFor_45 : decode cX3_makePlaceFor 45 = .ok (.isub, 1) := by decide +kernel
theorem dX3_makePlaceFor_46 : decode cX3_makePlaceFor 46 = .ok (.laload, 1) := by decide +kernel
theorem dX3_makePlaceFor_47 : decode cX3_makePlaceFor 47 = .ok (.lastore, 1) := by decide +kernel
theorem dX3_makePlaceFor_48 : decode cX3_makePlaceFor 48 = .ok (.aload_n 0, 1) := by decide +kernel
theorem dX3_makePlaceFor_49 : decode cX3_makePlaceFor 49 = .ok (.getfield 15, 3) := by decide +kernel
theorem dX3_makePlaceFor_52 : decode cX3_makePlaceFor 52 = .ok (.iload_n 3, 1) := by decide +kernel
theorem dX3_makePlaceFor_53 : decode cX3_makePlaceFor 53 = .ok (.aload_n 0, 1) := by decide +kernel
theorem dX3_makePlaceFor_54 : decode cX3_makePlaceFor 54 = .ok (.getfield 15, 3) := by decide +kernel
theorem dX3_makePlaceFor_57 : decode cX3_makePlaceFor 57 = .ok (.iload_n 3, 1) := by decide +kernel
theorem dX3_makePlaceFor_58 : decode cX3_makePlaceFor 58 = .ok (.iconst 1, 1) := by decide +kernel
theorem dX3_makePlaceFor_59 : decode cX3_makePlaceFor 59 = .ok (.isub, 1) := by decide +kernel
theorem dX3_makePlaceFor_60 : decode cX3_makePlaceFor 60 = .ok (.laload, 1) := by decide +kernel
theorem dX3_makePlaceFor_61 : decode cX3_makePlaceFor 61 = .ok (.lastore, 1) := by decide +kernel
theorem dX3_makePlaceFor_62 : decode cX3_makePlaceFor 62 = .ok (.iinc 3 (-1), 3) := by decide +kernel
theorem dX3_makePlaceFor_65 : decode cX3_makePlaceFor 65 = .ok (.goto (-48), 3) := by decide +kernel
theorem dX3_makePlaceFor_68 : decode cX3_makePlaceFor 68 = .ok (.aload_n 0, 1) := by decide +kernel
theorem dX3_makePlaceFor_69 : decode cX3_makePlaceFor 69 = .ok (.dup, 1) := by decide +kernel
theorem dX3_makePlaceFor_70 : decode cX3_makePlaceFor 70 = .ok (.getfield 18, 3) := by decide +kernel
theorem dX3_makePlaceFor_73 : decode cX3_makePlaceFor 73 = .ok (.iconst 1, 1) := by decide +kernel
theorem dX3_makePlaceFor_74 : decode cX3_makePlaceFor 74 = .ok (.iadd, 1) := by decide +kernel
theorem dX3_makePlaceFor_75 : decode cX3_makePlaceFor 75 = .ok (.putfield 18, 3) := by decide +kernel
theorem dX3_makePlaceFor_78 : decode cX3_makePlaceFor 78 = .ok (.iload_n 3, 1) := by decide +kernel
theorem dX3_makePlaceFor_79 : decode cX3_makePlaceFor 79 = .ok (.ireturn, 1) := by decide +kernel
theorem dX3_drop_0 : decode cX3_drop 0 = .ok (.iload_n 1, 1) := by decide +kernel
theorem dX3_drop_1 : decode cX3_drop 1 = .ok (.ifCond .lt 11, 3) := by decide +kernel
theorem dX3_drop_4 : decode cX3_drop 4 = .ok (.iload_n 1, 1) := by decide +kernel
theorem dX3_drop_5 : decode cX3_drop 5 = .ok (.aload_n 0, 1) := by decide +kernel
theorem dX3_drop_6 : decode cX3_drop 6 = .ok (.getfield 18, 3) := by decide +kernel
theorem dX3_drop_9 : decode cX3_drop 9 = .ok (.if_icmp .lt 4, 3) := by decide +kernel
theorem dX3_drop_12 : decode cX3_drop 12 = .ok (.return_, 1) := by decide +kernel
theorem dX3_drop_13 : decode cX3_drop 13 = .ok (.aload_n 0, 1) := by decide +kernel
theorem dX3_drop_14 : decode cX3_drop 14 = .ok (.dup, 1) := by decide +kernel
theorem dX3_drop_15 : decode cX3_drop 15 = .ok (.getfield 18, 3) := by decide +kernel
theorem dX3_drop_18 : decode cX3_drop 18 = .ok (.iconst 1, 1) := by decide +kernel
theorem dX3_drop_19 : decode cX3_drop 19 = .ok (.isub, 1) := by decide +kernel
theorem dX3_drop_20 : decode cX3_drop 20 = .ok (.putfield 18, 3) := by decide +kernel
theorem dX3_drop_23 : decode cX3_drop 23 = .ok (.iload_n 1, 1) := by decide +kernel
theorem dX3_drop_24 : decode cX3_drop 24 = .ok (.istore_n 2, 1) := by decide +kernel
theorem dX3_drop_25 : decode cX3_drop 25 = .ok (.iload_n 2, 1) := by decide +kernel
theorem dX3_drop_26 : decode cX3_drop 26 = .ok (.aload_n 0, 1) := by decide +kernel
theorem dX3_drop_27 : decode cX3_drop 27 = .ok (.getfield 18, 3) := by decide +kernel
theorem dX3_drop_30 : decode cX3_drop 30 = .ok (.if_icmp .ge 37, 3) := by decide +kernel
theorem dX3_drop_33 : decode cX3_drop 33 = .ok (.aload_n 0, 1) := by decide +kernel
theorem dX3_drop_34 : decode cX3_drop 34 = .ok (.getfield 9, 3) := by decide +kernel
theorem dX3_drop_37 : decode cX3_drop 37 = .ok (.iload_n 2, 1) := by decide +kernel
theorem dX3_drop_38 : decode cX3_drop 38 = .ok (.aload_n 0, 1) := by decide +kernel
theorem dX3_drop_39 : decode cX3_drop 39 = .ok (.getfield 9, 3) := by decide +kernel
theorem dX3_drop_42 : decode cX3_drop 42 = .ok (.iload_n 2, 1) := by decide +kernel
theorem dX3_drop_43 : decode cX3_drop 43 = .ok (.iconst 1, 1) := by decide +kernel
theorem dX3_drop_44 : decode cX3_drop 44 = .ok (.iadd, 1) := by decide +kernel
theorem dX3_drop_45 : decode cX3_drop 45 = .ok (.laload, 1) := by decide +kernel
theorem dX3_drop_46 : decode cX3_drop 46 = .ok (.lastore, 1) := by decide +kernel
theorem dX3_drop_47 : decode cX3_drop 47 = .ok (.aload_n 0, 1) := by decide +kernel
theorem dX3_drop_48 : decode cX3_drop 48 = .ok (.getfield 15, 3) := by decide +kernel
theorem dX3_drop_51 : decode cX3_drop 51 = .ok (.iload_n 2, 1) := by decide +kernel
theorem dX3_drop_52 : decode cX3_drop 52 = .ok (.aload_n 0, 1) := by decide +kernel
theorem dX3_drop_53 : decode cX3_drop 53 = .ok (.getfield 15, 3) := by decide +kernel
theorem dX3_drop_56 : decode cX3_drop 56 = .ok (.iload_n 2, 1) := by decide +kernel
theorem dX3_drop_57 : decode cX3_drop 57 = .ok (.iconst 1, 1) := by decide +kernel
theorem dX3_drop_58 : decode cX3_drop 58 = .ok (.iadd, 1) := by decide +kernel
theorem dX3_drop_59 : decode cX3_drop 59 = .ok (.laload, 1) := by decide +kernel
theorem dX3_drop_60 : decode cX3_drop 60 = .ok (.lastore, 1) := by decide +kernel
theorem dX3_drop_61 : decode cX3_drop 61 = .ok (.iinc 2 1, 3) := by decide +kernel
theorem dX3_drop_64 : decode cX3_drop 64 = .ok (.goto (-39), 3) := by decide +kernel
theorem dX3_drop_67 : decode cX3_drop 67 = .ok (.return_, 1) := by decide +kernel
theorem dX4_init_0 : decode cX4_init 0 = .ok (.aload_n 0, 1) := by decide +kernel
theorem dX4_init_1 : decode cX4_init 1 = .ok (.invokespecial 3, 3) := by decide +kernel
theorem dX4_init_4 : decode cX4_init 4 = .ok (.aload_n 0, 1) := by decide +kernel
theorem dX4_init_5 : decode cX4_init 5 = .ok (.bipush 12, 2) := by decide +kernel
theorem dX4_init_7 : decode cX4_init 7 = .ok (.anewarray 9, 3) := by decide +kernel
theorem dX4_init_10 : decode cX4_init 10 = .ok (.putfield 11, 3) := by decide +kernel
theorem dX4_init_13 : decode cX4_init 13 = .ok (.aload_n 0, 1) := by decide +kernel
theorem dX4_init_14 : decode cX4_init 14 = .ok (.new 17, 3) := by decide +kernel
theorem dX4_init_17 : decode cX4_init 17 = .ok (.dup, 1) := by decide +kernel
theorem dX4_init_18 : decode cX4_init 18 = .ok (.invokespecial 19, 3) := by decide +kernel
theorem dX4_init_21 : decode cX4_init 21 = .ok (.putfield 20, 3) := by decide +kernel
theorem dX4_init_24 : decode cX4_init 24 = .ok (.iconst 0, 1) := by decide +kernel
theorem dX4_init_25 : decode cX4_init 25 = .ok (.istore_n 1, 1) := by decide +kernel
theorem dX4_init_26 : decode cX4_init 26 = .ok (.iload_n 1, 1) := by decide +kernel
theorem dX4_init_27 : decode cX4_init 27 = .ok (.bipush 12, 2) := by decide +kernel
theorem dX4_init_29 : decode cX4_init 29 = .ok (.if_icmp .ge 22, 3) := by decide +kernel
theorem dX4_init_32 : decode cX4_init 32 = .ok (.aload_n 0, 1) := by decide +kernel
theorem dX4_init_33 : decode cX4_init 33 = .ok (.getfield 11, 3) := by decide +kernel
theorem dX4_init_36 : decode cX4_init 36 = .ok (.iload_n 1, 1) := by decide +kernel
theorem dX4_init_37 : decode cX4_init 37 = .ok (.new 9, 3) := by decide +kernel
theorem dX4_init_40 : decode cX4_init 40 = .ok (.dup, 1) := by decide +kernel
theorem dX4_init_41 : decode cX4_init 41 = .ok (.invokespecial 24, 3) := by decide +kernel
theorem dX4_init_44 : decode cX4_init 44 = .ok (.aastore, 1) := by decide +kernel
theorem dX4_init_45 : decode cX4_init 45 = .ok (.iinc 1 1, 3) := by decide +kernel
theorem dX4_init_48 : decode cX4_init 48 = .ok (.goto (-22), 3) := by decide +kernel
theorem dX4_init_51 : decode cX4_init 51 = .ok (.aload_n 0, 1) := by decide +kernel
theorem dX4_init_52 : decode cX4_init 52 = .ok (.invokevirtual 25, 3) := by decide +kernel
theorem dX4_init_55 : decode cX4_init 55 = .ok (.return_, 1) := by decide +kernel
theorem dX4_reset_0 : decode cX4_reset 0 = .ok (.aload_n 0, 1) := by decide +kernel
theorem dX4_reset_1 : decode cX4_reset 1 = .ok (.iconst 0, 1) := by decide +kernel
theorem dX4_reset_2 : decode cX4_reset 2 = .ok (.putfield 28, 3) := by decide +kernel
theorem dX4_reset_5 : decode cX4_reset 5 = .ok (.aload_n 0, 1) := by decide +kernel
theorem dX4_reset_6 : decode cX4_reset 6 = .ok (.getfield 20, 3) := by decide +kernel
theorem dX4_reset_9 : decode cX4_reset 9 = .ok (.iconst 0, 1) := by decide +kernel
theorem dX4_reset_10 : decode cX4_reset 10 = .ok (.putfield 32, 3) := by decide +kernel
theorem dX4_reset_13 : decode cX4_reset 13 = .ok (.aload_n 0, 1) := by decide +kernel
theorem dX4_reset_14 : decode cX4_reset 14 = .ok (.bipush 30, 2) := by decide +kernel
theorem dX4_reset_16 : decode cX4_reset 16 = .ok (.putfield 35, 3) := by decide +kernel
theorem dX4_reset_19 : decode cX4_reset 19 = .ok (.aload_n 0, 1) := by decide +kernel
theorem dX4_reset_20 : decode cX4_reset 20 = .ok (.iconst 2, 1) := by decide +kernel
theorem dX4_reset_21 : decode cX4_reset 21 = .ok (.putfield 38, 3) := by decide +kernel
theorem dX4_reset_24 : decode cX4_reset 24 = .ok (.aload_n 0, 1) := by decide +kernel
theorem dX4_reset_25 : decode cX4_reset 25 = .ok (.iconst 1, 1) := by decide +kernel
theorem dX4_reset_26 : decode cX4_reset 26 = .ok (.putfield 41, 3) := by decide +kernel
theorem dX4_reset_29 : decode cX4_reset 29 = .ok (.return_, 1) := by decide +kernel
theorem dX4_copyFrom_0 : decode cX4_copyFrom 0 = .ok (.aload_n 0, 1) := by decide +kernel
theorem dX4_copyFrom_1 : decode cX4_copyFrom 1 = .ok (.aload_n 1, 1) := by decide +kernel
theorem dX4_copyFrom_2 : decode cX4_copyFrom 2 = .ok (.getfield 28, 3) := by decide +kernel
theorem dX4_copyFrom_5 : decode cX4_copyFrom 5 = .ok (.putfield 28, 3) := by decide +kernel
theorem dX4_copyFrom_8 : decode cX4_copyFrom 8 = .ok (.iconst 0, 1) := by decide +kernel
theorem dX4_copyFrom_9 : decode cX4_copyFrom 9 = .ok (.istore_n 2, 1) := by decide +kernel
theorem dX4_copyFrom_10 : decode cX4_copyFrom 10 = .ok (.iload_n 2, 1) := by decide +kernel
theorem dX4_copyFrom_11 : decode cX4_copyFrom 11 = .ok (.aload_n 0, 1) := by decide +kernel
theorem dX4_copyFrom_12 : decode cX4_copyFrom 12 = .ok (.getfield 28, 3) := by decide +kernel
theorem dX4_copyFrom_15 : decode cX4_copyFrom 15 = .ok (.if_icmp .ge 24, 3) := by decide +kernel
theorem dX4_copyFrom_18 : decode cX4_copyFrom 18 = .ok (.aload_n 0, 1) := by decide +kernel
theorem dX4_copyFrom_19 : decode cX4_copyFrom 19 = .ok (.getfield 11, 3) := by decide +kernel
theorem dX4_copyFrom_22 : decode cX4_copyFrom 22 = .ok (.iload_n 2, 1) := by decide +kernel
theorem dX4_copyFrom_23 : decode cX4_copyFrom 23 = .ok (.aaload, 1) := by decide +kernel
theorem dX4_copyFrom_24 : decode cX4_copyFrom 24 = .ok (.aload_n 1, 1) := by decide +kernel
theorem dX4_copyFrom_25 : decode cX4_copyFrom 25 = .ok (.getfield 11, 3) := by decide +kernel
theorem dX4_copyFrom_28 : decode cX4_copyFrom 28 = .ok (.iload_n 2, 1) := by decide +kernel
theorem dX4_copyFrom_29 : decode cX4_copyFrom 29 = .ok (.aaload, 1) := by decide +kernel
theorem dX4_copyFrom_30 : decode cX4_copyFrom 30 = .ok (.invokevirtual 44, 3) := by decide +kernel
theorem dX4_copyFrom_33 : decode cX4_copyFrom 33 = .ok (.iinc 2 1, 3) := by decide +kernel
theorem dX4_copyFrom_36 : decode cX4_copyFrom 36 = .ok (.goto (-26), 3) := by decide +kernel
theorem dX4_copyFrom_39 : decode cX4_copyFrom 39 = .ok (.aload_n 0, 1) := by decide +kernel
theorem dX4_copyFrom_40 : decode cX4_copyFrom 40 = .ok (.getfield 20, 3) := by decide +kernel
theorem dX4_copyFrom_43 : decode cX4_copyFrom 43 = .ok (.aload_n 1, 1) := by decide +kernel
theorem dX4_copyFrom_44 : decode cX4_copyFrom 44 = .ok (.getfield 20, 3) := by decide +kernel
theorem dX4_copyFrom_47 : decode cX4_copyFrom 47 = .ok (.invokevirtual 48, 3) := by decide +kernel
theorem dX4_copyFrom_50 : decode cX4_copyFrom 50 = .ok (.aload_n 0, 1) := by decide +kernel
theorem dX4_copyFrom_51 : decode cX4_copyFrom 51 = .ok (.aload_n 1, 1) := by decide +kernel
theorem dX4_copyFrom_52 : decode cX4_copyFrom 52 = .ok (.getfield 35, 3) := by decide +kernel
theorem dX4_copyFrom_55 : decode cX4_copyFrom 55 = .ok (.putfield 35, 3) := by decide +kernel
theorem dX4_copyFrom_58 : decode cX4_copyFrom 58 = .ok (.aload_n 0, 1) := by decide +kernel
theorem dX4_copyFrom_59 : decode cX4_copyFrom 59 = .ok (.aload_n 1, 1) := by decide +kernel
theorem dX4_copyFrom_60 : decode cX4_copyFrom 60 = .ok (.getfield 38, 3) := by decide +kernel
theorem dX4_copyFrom_63 : decode cX4_copyFrom 63 = .ok (.putfield 38, 3) := by decide +kernel
theorem dX4_copyFrom_66 : decode cX4_copyFrom 66 = .ok (.aload_n 0, 1) := by decide +kernel
theorem dX4_copyFrom_67 : decode cX4_copyFrom 67 = .ok (.aload_n 1, 1) := by decide +kernel
theorem dX4_copyFrom_68 : decode cX4_copyFrom 68 = .ok (.getfield 41, 3) := by decide +kernel
theorem dX4_copyFrom_71 : decode cX4_copyFrom 71 = .ok (.putfield 41, 3) := by decide +kernel
theorem dX4_copyFrom_74 : decode cX4_copyFrom 74 = .ok (.return_, 1) := by decide +kernel
theorem dX4_hasWord_0 : decode cX4_hasWord 0 = .ok (.iload_n 1, 1) := by decide +kernel
theorem dX4_hasWord_1 : decode cX4_hasWord 1 = .ok (.ifCond .lt 15, 3) := by decide +kernel
theorem dX4_hasWord_4 : decode cX4_hasWord 4 = .ok (.iload_n 1, 1) := by decide +kernel
theorem dX4_hasWord_5 : decode cX4_hasWord 5 = .ok (.aload_n 0, 1) := by decide +kernel
theorem dX4_hasWord_6 : decode cX4_hasWord 6 = .ok (.getfield 28, 3) := by decide +kernel
theorem dX4_hasWord_9 : decode cX4_hasWord 9 = .ok (.if_icmp .ge 7, 3) := by decide +kernel
theorem dX4_hasWord_12 : decode cX4_hasWord 12 = .ok (.iconst 1, 1) := by decide +kernel
theorem dX4_hasWord_13 : decode cX4_hasWord 13 = .ok (.goto 4, 3) := by decide +kernel
theorem dX4_hasWord_16 : decode cX4_hasWord 16 = .ok (.iconst 0, 1) := by decide +kernel
theorem dX4_hasWord_17 : decode cX4_hasWord 17 = .ok (.ireturn, 1) := by decide +kernel
theorem dX4_hasPart_0 : decode cX4_hasPart 0 = .ok (.aload_n 0, 1) := by decide +kernel
theorem dX4_hasPart_1 : decode cX4_hasPart 1 = .ok (.iload_n 1, 1) := by decide +kernel
theorem dX4_hasPart_2 : decode cX4_hasPart 2 = .ok (.invokevirtual 51, 3) := by decide +kernel
theorem dX4_hasPart_5 : decode cX4_hasPart 5 = .ok (.ifCond .eq 24, 3) := by decide +kernel
theorem dX4_hasPart_8 : decode cX4_hasPart 8 = .ok (.iload_n 2, 1) := by decide +kernel
theorem dX4_hasPart_9 : decode cX4_hasPart 9 = .ok (.ifCond .lt 20, 3) := by decide +kernel
theorem dX4_hasPart_12 : decode cX4_hasPart 12 = .ok (.iload_n 2, 1) := by decide +kernel
theorem dX4_hasPart_13 : decode cX4_hasPart 13 = .ok (.aload_n 0, 1) := by decide +kernel
theorem dX4_hasPart_14 : decode cX4_hasPart 14 = .ok (.getfield 11, 3) := by decide +kernel
theorem dX4_hasPart_17 : decode cX4_hasPart 17 = .ok (.iload_n 1, 1) := by decide +kernel
theorem dX4_hasPart_18 : decode cX4_hasPart 18 = .ok (.aaload, 1) := by decide +kernel
theorem dX4_hasPart_19 : decode cX4_hasPart 19 = .ok (.getfield 55, 3) := by decide +kernel
theorem dX4_hasPart_22 : decode cX4_hasPart 22 = .ok (.if_icmp .ge 7, 3) := by decide +kernel
theorem dX4_hasPart_25 : decode cX4_hasPart 25 = .ok (.iconst 1, 1) := by decide +kernel
theorem dX4_hasPart_26 : decode cX4_hasPart 26 = .ok (.goto 4, 3) := by decide +kernel
theorem dX4_hasPart_29 : decode cX4_hasPart 29 = .ok (.iconst 0, 1) := by decide +kernel
theorem dX4_hasPart_30 : decode cX4_hasPart 30 = .ok (.ireturn, 1) := by decide +kernel
theorem dX4_addWords_0 : decode cX4_addWords 0 = .ok (.aload_n 1, 1) := by decide +kernel
theorem dX4_addWords_1 : decode cX4_addWords 1 = .ok (.getfield 56, 3) := by decide +kernel
theorem dX4_addWords_4 : decode cX4_addWords 4 = .ok (.istore_n 3, 1) := by decide +kernel
theorem dX4_addWords_5 : decode cX4_addWords 5 = .ok (.iload_n 2, 1) := by decide +kernel
theorem dX4_addWords_6 : decode cX4_addWords 6 = .ok (.ifCond .lt 22, 3) := by decide +kernel
theorem dX4_addWords_9 : decode cX4_addWords 9 = .ok (.iload_n 2, 1) := by decide +kernel
theorem dX4_addWords_10 : decode cX4_addWords 10 = .ok (.aload_n 0, 1) := by decide +kernel
theorem dX4_addWords_11 : decode cX4_addWords 11 = .ok (.getfield 28, 3) := by decide +kernel
theorem dX4_addWords_14 : decode cX4_addWords 14 = .ok (.if_icmp .gt 14, 3) := by decide +kernel
theorem dX4_addWords_17 : decode cX4_addWords 17 = .ok (.aload_n 0, 1) := by decide +kernel
theorem dX4_addWords_18 : decode cX4_addWords 18 = .ok (.getfield 28, 3) := by decide +kernel
theorem dX4_addWords_21 : decode cX4_addWords 21 = .ok (.iload_n 3, 1) := by decide +kernel
theorem dX4_addWords_22 : decode cX4_addWords 22 = .ok (.iadd, 1) := by decide +kernel
theorem dX4_addWords_23 : decode cX4_addWords 23 = .ok (.bipush 12, 2) := by decide +kernel
theorem dX4_addWords_25 : decode cX4_addWords 25 = .ok (.if_icmp .le 4, 3) := by decide +kernel
theorem dX4_addWords_28 : decode cX4_addWords 28 = .ok (.return_, 1) := by decide +kernel
theorem dX4_addWords_29 : decode cX4_addWords 29 = .ok (.aload_n 0, 1) := by decide +kernel
theorem dX4_addWords_30 : decode cX4_addWords 30 = .ok (.getfield 28, 3) := by decide +kernel
theorem dX4_addWords_33 : decode cX4_addWords 33 = .ok (.iconst 1, 1) := by decide +kernel
theorem dX4_addWords_34 : decode cX4_addWords 34 = .ok (.isub, 1) := by decide +kernel
theorem dX4_addWords_35 : decode cX4_addWords 35 = .ok (.istore 4, 2) := by decide +kernel
theorem dX4_addWords_37 : decode cX4_addWords 37 = .ok (.iload 4, 2) := by decide +kernel
theorem dX4_addWords_39 : decode cX4_addWords 39 = .ok (.iload_n 2, 1) := by decide +kernel
theorem dX4_addWords_40 : decode cX4_addWords 40 = .ok (.if_icmp .lt 28, 3) := by decide +kernel
theorem dX4_addWords_43 : decode cX4_addWords 43 = .ok (.aload_n 0, 1) := by decide +kernel
theorem dX4_addWords_44 : decode cX4_addWords 44 = .ok (.getfield 11, 3) := by decide +kernel
theorem dX4_addWords_47 : decode cX4_addWords 47 = .ok (.iload 4, 2) := by decide +kernel
theorem dX4_addWords_49 : decode cX4_addWords 49 = .ok (.iload_n 3, 1) := by decide +kernel
theorem dX4_addWords_50 : decode cX4_addWords 50 = .ok (.iadd, 1) := by decide +kernel
theorem dX4_addWords_51 : decode cX4_addWords 51 = .ok (.aaload, 1) := by decide +kernel
theorem dX4_addWords_52 : decode cX4_addWords 52 = .ok (.aload_n 0, 1) := by decide +kernel
theorem dX4_addWords_53 : decode cX4_addWords 53 = .ok (.getfield 11, 3) := by decide +kernel
theorem dX4_addWords_56 : decode cX4_addWords 56 = .ok (.iload 4, 2) := by decide +kernel
theorem dX4_addWords_58 : decode cX4_addWords 58 = .ok (.aaload, 1) := by decide +kernel
theorem dX4_addWords_59 : decode cX4_addWords 59 = .ok (.invokevirtual 44, 3) := by decide +kernel
theorem dX4_addWords_62 : decode cX4_addWords 62 = .ok (.iinc 4 (-1), 3) := by decide +kernel
theorem dX4_addWords_65 : decode cX4_addWords 65 = .ok (.goto (-28), 3) := by decide +kernel
theorem dX4_addWords_68 : decode cX4_addWords 68 = .ok (.iconst 0, 1) := by decide +kernel
theorem dX4_addWords_69 : decode cX4_addWords 69 = .ok (.istore 4, 2) := by decide +kernel
theorem dX4_addWords_71 : decode cX4_addWords 71 = .ok (.iload 4, 2) := by decide +kernel
theorem dX4_addWords_73 : decode cX4_addWords 73 = .ok (.iload_n 3, 1) := by decide +kernel
theorem dX4_addWords_74 : decode cX4_addWords 74 = .ok (.if_icmp .ge 28, 3) := by decide +kernel
theorem dX4_addWords_77 : decode cX4_addWords 77 = .ok (.aload_n 0, 1) := by decide +kernel
theorem dX4_addWords_78 : decode cX4_addWords 78 = .ok (.getfield 11, 3) := by decide +kernel
theorem dX4_addWords_81 : decode cX4_addWords 81 = .ok (.iload_n 2, 1) := by decide +kernel
theorem dX4_addWords_82 : decode cX4_addWords 82 = .ok (.iload 4, 2) := by decide +kernel
theorem dX4_addWords_84 : decode cX4_addWords 84 = .ok (.iadd, 1) := by decide +kernel
theorem dX4_addWords_85 : decode cX4_addWords 85 = .ok (.aaload, 1) := by decide +kernel
theorem dX4_addWords_86 : decode cX4_addWords 86 = .ok (.aload_n 1, 1) := by decide +kernel
theorem dX4_addWords_87 : decode cX4_addWords 87 = .ok (.getfield 59, 3) := by decide +kernel
theorem dX4_addWords_90 : decode cX4_addWords 90 = .ok (.iload 4, 2) := by decide +kernel
theorem dX4_addWords_92 : decode cX4_addWords 92 = .ok (.aaload, 1) := by decide +kernel
theorem dX4_addWords_93 : decode cX4_addWords 93 = .ok (.invokevirtual 44, 3) := by decide +kernel
theorem dX4_addWords_96 : decode cX4_addWords 96 = .ok (.iinc 4 1, 3) := by decide +kernel
theorem dX4_addWords_99 : decode cX4_addWords 99 = .ok (.goto (-28), 3) := by decide +kernel
theorem dX4_addWords_102 : decode cX4_addWords 102 = .ok (.aload_n 0, 1) := by decide +kernel
theorem dX4_addWords_103 : decode cX4_addWords 103 = .ok (.dup, 1) := by decide +kernel
theorem dX4_addWords_104 : decode cX4_addWords 104 = .ok (.getfield 28, 3) := by decide +kernel
theorem dX4_addWords_107 : decode cX4_addWords 107 = .ok (.iload_n 3, 1) := by decide +kernel
theorem dX4_addWords_108 : decode cX4_addWords 108 = .ok (.iadd, 1) := by decide +kernel
theorem dX4_addWords_109 : decode cX4_addWords 109 = .ok (.putfield 28, 3) := by decide +kernel
theorem dX4_addWords_112 : decode cX4_addWords 112 = .ok (.return_, 1) := by decide +kernel
theorem dX4_dropWord_0 : decode cX4_dropWord 0 = .ok (.aload_n 0, 1) := by decide +kernel
theorem dX4_dropWord_1 : decode cX4_dropWord 1 = .ok (.iload_n 1, 1) := by decide +kernel
theorem dX4_dropWord_2 : decode cX4_dropWord 2 = .ok (.invokevirtual 51, 3) := by decide +kernel
theorem dX4_dropWord_5 : decode cX4_dropWord 5 = .ok (.ifCond .ne 4, 3) := by decide +kernel
theorem dX4_dropWord_8 : decode cX4_dropWord 8 = .ok (.return_, 1) := by decide +kernel
theorem dX4_dropWord_9 : decode cX4_dropWord 9 = .ok (.aload_n 0, 1) := by decide +kernel
theorem dX4_dropWord_10 : decode cX4_dropWord 10 = .ok (.dup, 1) := by decide +kernel
theorem dX4_dropWord_11 : decode cX4_dropWord 11 = .ok (.getfield 28, 3) := by decide +kernel
theorem dX4_dropWord_14 : decode cX4_dropWord 14 = .ok (.iconst 1, 1) := by decide +kernel
theorem dX4_dropWord_15 : decode cX4_dropWord 15 = .ok (.isub, 1) := by decide +kernel
theorem dX4_dropWord_16 : decode cX4_dropWord 16 = .ok (.putfield 28, 3) := by decide +kernel
theorem dX4_dropWord_19 : decode cX4_dropWord 19 = .ok (.iload_n 1, 1) := by decide +kernel
theorem dX4_dropWord_20 : decode cX4_dropWord 20 = .ok (.istore_n 2, 1) := by decide +kernel
theorem dX4_dropWord_21 : decode cX4_dropWord 21 = .ok (.iload_n 2, 1) := by decide +kernel
theorem dX4_dropWord_22 : decode cX4_dropWord 22 = .ok (.aload_n 0, 1) := by decide +kernel
theorem dX4_dropWord_23 : decode cX4_dropWord 23 = .ok (.getfield 28, 3) := by decide +kernel
theorem dX4_dropWord_26 : decode cX4_dropWord 26 = .ok (.if_icmp .ge 26, 3) := by decide +kernel
theorem dX4_dropWord_29 : decode cX4_dropWord 29 = .ok (.aload_n 0, 1) := by decide +kernel
theorem dX4_dropWord_30 : decode cX4_dropWord 30 = .ok (.getfield 11, 3) := by decide +kernel
theorem dX4_dropWord_33 : decode cX4_dropWord 33 = .ok (.iload_n 2, 1) := by decide +kernel
theorem dX4_dropWord_34 : decode cX4_dropWord 34 = .ok (.aaload, 1) := by decide +kernel
theorem dX4_dropWord_35 : decode cX4_dropWord 35 = .ok (.aload_n 0, 1) := by decide +kernel
theorem dX4_dropWord_36 : decode cX4_dropWord 36 = .ok (.getfield 11, 3) := by decide +kernel
theorem dX4_dropWord_39 : decode cX4_dropWord 39 = .ok (.iload_n 2, 1) := by decide +kernel
theorem dX4_dropWord_40 : decode cX4_dropWord 40 = .ok (.iconst 1, 1) := by decide +kernel
theorem dX4_dropWord_41 : decode cX4_dropWord 41 = .ok (.iadd, 1) := by decide +kernel
theorem dX4_dropWord_42 : decode cX4_dropWord 42 = .ok (.aaload, 1) := by decide +kernel
theorem dX4_dropWord_43 : decode cX4_dropWord 43 = .ok (.invokevirtual 44, 3) := by decide +kernel
theorem dX4_dropWord_46 : decode cX4_dropWord 46 = .ok (.iinc 2 1, 3) := by decide +kernel
theorem dX4_dropWord_49 : decode cX4_dropWord 49 = .ok (.goto (-28), 3) := by decide +kernel
theorem dX4_dropWord_52 : decode cX4_dropWord 52 = .ok (.return_, 1) := by decide +kernel
theorem dX4_allows_0 : decode cX4_allows 0 = .ok (.iload_n 0, 1) := by decide +kernel
theorem dX4_allows_1 : decode cX4_allows 1 = .ok (.tableswitch 76 9 11 #[27, 45, 61], 27) := by decide +kernel
theorem dX4_allows_28 : decode cX4_allows 28 = .ok (.iload_n 1, 1) := by decide +kernel
theorem dX4_allows_29 : decode cX4_allows 29 = .ok (.bipush 10, 2) := by decide +kernel
theorem dX4_allows_31 : decode cX4_allows 31 = .ok (.if_icmp .lt 13, 3) := by decide +kernel
theorem dX4_allows_34 : decode cX4_allows 34 = .ok (.iload_n 1, 1) := by decide +kernel
theorem dX4_allows_35 : decode cX4_allows 35 = .ok (.bipush 60, 2) := by decide +kernel
theorem dX4_allows_37 : decode cX4_allows 37 = .ok (.if_icmp .gt 7, 3) := by decide +kernel
theorem dX4_allows_40 : decode cX4_allows 40 = .ok (.iconst 1, 1) := by decide +kernel
theorem dX4_allows_41 : decode cX4_allows 41 = .ok (.goto 4, 3) := by decide +kernel
theorem dX4_allows_44 : decode cX4_allows 44 = .ok (.iconst 0, 1) := by decide +kernel
theorem dX4_allows_45 : decode cX4_allows 45 = .ok (.ireturn, 1) := by decide +kernel
theorem dX4_allows_46 : decode cX4_allows 46 = .ok (.iload_n 1, 1) := by decide +kernel
theorem dX4_allows_47 : decode cX4_allows 47 = .ok (.iconst 1, 1) := by decide +kernel
theorem dX4_allows_48 : decode cX4_allows 48 = .ok (.if_icmp .lt 12, 3) := by decide +kernel
theorem dX4_allows_51 : decode cX4_allows 51 = .ok (.iload_n 1, 1) := by decide +kernel
theorem dX4_allows_52 : decode cX4_allows 52 = .ok (.iconst 3, 1) := by decide +kernel
theorem dX4_allows_53 : decode cX4_allows 53 = .ok (.if_icmp .gt 7, 3) := by decide +kernel
theorem dX4_allows_56 : decode cX4_allows 56 = .ok (.iconst 1, 1) := by decide +kernel
theorem dX4_allows_57 : decode cX4_allows 57 = .ok (.goto 4, 3) := by decide +kernel
theorem dX4_allows_60 : decode cX4_allows 60 = .ok (.iconst 0, 1) := by decide +kernel
theorem dX4_allows_61 : decode cX4_allows 61 = .ok (.ireturn, 1) := by decide +kernel
theorem dX4_allows_62 : decode cX4_allows 62 = .ok (.iload_n 1, 1) := by decide +kernel
theorem dX4_allows_63 : decode cX4_allows 63 = .ok (.ifCond .eq 8, 3) := by decide +kernel
theorem dX4_allows_66 : decode cX4_allows 66 = .ok (.iload_n 1, 1) := by decide +kernel
theorem dX4_allows_67 : decode cX4_allows 67 = .ok (.iconst 1, 1) := by decide +kernel
theorem dX4_allows_68 : decode cX4_allows 68 = .ok (.if_icmp .ne 7, 3) := by decide +kernel
theorem dX4_allows_71 : decode cX4_allows 71 = .ok (.iconst 1, 1) := by decide +kernel
theorem dX4_allows_72 : decode cX4_allows 72 = .ok (.goto 4, 3) := by decide +kernel
theorem dX4_allows_75 : decode cX4_allows 75 = .ok (.iconst 0, 1) := by decide +kernel
theorem dX4_allows_76 : decode cX4_allows 76 = .ok (.ireturn, 1) := by decide +kernel
theorem dX4_allows_77 : decode cX4_allows 77 = .ok (.iconst 0, 1) := by decide +kernel
theorem dX4_allows_78 : decode cX4_allows 78 = .ok (.ireturn, 1) := by decide +kernel
theorem dX4_change_0 : decode cX4_change 0 = .ok (.aload_n 0, 1) := by decide +kernel
theorem dX4_change_1 : decode cX4_change 1 = .ok (.getfield 35, 3) := by decide +kernel
theorem dX4_change_4 : decode cX4_change 4 = .ok (.istore_n 3, 1) := by decide +kernel
theorem dX4_change_5 : decode cX4_change 5 = .ok (.iload_n 1, 1) := by decide +kernel
theorem dX4_change_6 : decode cX4_change 6 = .ok (.bipush 9, 2) := by decide +kernel
theorem dX4_change_8 : decode cX4_change 8 = .ok (.if_icmp .ne 11, 3) := by decide +kernel
theorem dX4_change_11 : decode cX4_change 11 = .ok (.aload_n 0, 1) := by decide +kernel
theorem dX4_change_12 : decode cX4_change 12 = .ok (.iload_n 2, 1) := by decide +kernel
theorem dX4_change_13 : decode cX4_change 13 = .ok (.putfield 35, 3) := by decide +kernel
theorem dX4_change_16 : decode cX4_change 16 = .ok (.goto 32, 3) := by decide +kernel
theorem dX4_change_19 : decode cX4_change 19 = .ok (.iload_n 1, 1) := by decide +kernel
theorem dX4_change_20 : decode cX4_change 20 = .ok (.bipush 10, 2) := by decide +kernel
theorem dX4_change_22 : decode cX4_change 22 = .ok (.if_icmp .ne 16, 3) := by decide +kernel
theorem dX4_change_25 : decode cX4_change 25 = .ok (.aload_n 0, 1) := by decide +kernel
theorem dX4_change_26 : decode cX4_change 26 = .ok (.getfield 38, 3) := by decide +kernel
theorem dX4_change_29 : decode cX4_change 29 = .ok (.istore_n 3, 1) := by decide +kernel
theorem dX4_change_30 : decode cX4_change 30 = .ok (.aload_n 0, 1) := by decide +kernel
theorem dX4_change_31 : decode cX4_change 31 = .ok (.iload_n 2, 1) := by decide +kernel
theorem dX4_change_32 : decode cX4_change 32 = .ok (.putfield 38, 3) := by decide +kernel
theorem dX4_change_35 : decode cX4_change 35 = .ok (.goto 13, 3) := by decide +kernel
theorem dX4_change_38 : decode cX4_change 38 = .ok (.aload_n 0, 1) := by decide +kernel
theorem dX4_change_39 : decode cX4_change 39 = .ok (.getfield 41, 3) := by decide +kernel
theorem dX4_change_42 : decode cX4_change 42 = .ok (.istore_n 3, 1) := by decide +kernel
theorem dX4_change_43 : decode cX4_change 43 = .ok (.aload_n 0, 1) := by decide +kernel
theorem dX4_change_44 : decode cX4_change 44 = .ok (.iload_n 2, 1) := by decide +kernel
theorem dX4_change_45 : decode cX4_change 45 = .ok (.putfield 41, 3) := by decide +kernel
theorem dX4_change_48 : decode cX4_change 48 = .ok (.iload_n 3, 1) := by decide +kernel
theorem dX4_change_49 : decode cX4_change 49 = .ok (.ireturn, 1) := by decide +kernel
theorem dX4_canLearn_0 : decode cX4_canLearn 0 = .ok (.aload_n 0, 1) := by decide +kernel
theorem dX4_canLearn_1 : decode cX4_canLearn 1 = .ok (.iload_n 1, 1) := by decide +kernel
theorem dX4_canLearn_2 : decode cX4_canLearn 2 = .ok (.iload_n 2, 1) := by decide +kernel
theorem dX4_canLearn_3 : decode cX4_canLearn 3 = .ok (.invokevirtual 60, 3) := by decide +kernel
theorem dX4_canLearn_6 : decode cX4_canLearn 6 = .ok (.ifCond .eq 44, 3) := by decide +kernel
theorem dX4_canLearn_9 : decode cX4_canLearn 9 = .ok (.aload_n 0, 1) := by decide +kernel
theorem dX4_canLearn_10 : decode cX4_canLearn 10 = .ok (.getfield 11, 3) := by decide +kernel
theorem dX4_canLearn_13 : decode cX4_canLearn 13 = .ok (.iload_n 1, 1) := by decide +kernel
theorem dX4_canLearn_14 : decode cX4_canLearn 14 = .ok (.aaload, 1) := by decide +kernel
theorem dX4_canLearn_15 : decode cX4_canLearn 15 = .ok (.getfield 64, 3) := by decide +kernel
theorem dX4_canLearn_18 : decode cX4_canLearn 18 = .ok (.iload_n 2, 1) := by decide +kernel
theorem dX4_canLearn_19 : decode cX4_canLearn 19 = .ok (.laload, 1) := by decide +kernel
theorem dX4_canLearn_20 : decode cX4_canLearn 20 = .ok (.lconst 0, 1) := by decide +kernel
theorem dX4_canLearn_21 : decode cX4_canLearn 21 = .ok (.lcmp, 1) := by decide +kernel
theorem dX4_canLearn_22 : decode cX4_canLearn 22 = .ok (.ifCond .eq 28, 3) := by decide +kernel
theorem dX4_canLearn_25 : decode cX4_canLearn 25 = .ok (.aload_n 0, 1) := by decide +kernel
theorem dX4_canLearn_26 : decode cX4_canLearn 26 = .ok (.getfield 20, 3) := by decide +kernel
theorem dX4_canLearn_29 : decode cX4_canLearn 29 = .ok (.aload_n 0, 1) := by decide +kernel
theorem dX4_canLearn_30 : decode cX4_canLearn 30 = .ok (.getfield 11, 3) := by decide +kernel
theorem dX4_canLearn_33 : decode cX4_canLearn 33 = .ok (.iload_n 1, 1) := by decide +kernel
theorem dX4_canLearn_34 : decode cX4_canLearn 34 = .ok (.aaload, 1) := by decide +kernel
theorem dX4_canLearn_35 : decode cX4_canLearn 35 = .ok (.getfield 68, 3) := by decide +kernel
theorem dX4_canLearn_38 : decode cX4_canLearn 38 = .ok (.iload_n 2, 1) := by decide +kernel
theorem dX4_canLearn_39 : decode cX4_canLearn 39 = .ok (.laload, 1) := by decide +kernel
theorem dX4_canLearn_40 : decode cX4_canLearn 40 = .ok (.invokevirtual 71, 3) := by decide +kernel
theorem dX4_canLearn_43 : decode cX4_canLearn 43 = .ok (.ifCond .eq 7, 3) := by decide +kernel
theorem dX4_canLearn_46 : decode cX4_canLearn 46 = .ok (.iconst 1, 1) := by decide +kernel
theorem dX4_canLearn_47 : decode cX4_canLearn 47 = .ok (.goto 4, 3) := by decide +kernel
theorem dX4_canLearn_50 : decode cX4_canLearn 50 = .ok (.iconst 0, 1) := by decide +kernel
theorem dX4_canLearn_51 : decode cX4_canLearn 51 = .ok (.ireturn, 1) := by decide +kernel
theorem dX4_learnPart_0 : decode cX4_learnPart 0 = .ok (.aload_n 0, 1) := by decide +kernel
theorem dX4_learnPart_1 : decode cX4_learnPart 1 = .ok (.iload_n 1, 1) := by decide +kernel
theorem dX4_learnPart_2 : decode cX4_learnPart 2 = .ok (.iload_n 2, 1) := by decide +kernel
theorem dX4_learnPart_3 : decode cX4_learnPart 3 = .ok (.invokevirtual 75, 3) := by decide +kernel
theorem dX4_learnPart_6 : decode cX4_learnPart 6 = .ok (.ifCond .eq 32, 3) := by decide +kernel
theorem dX4_learnPart_9 : decode cX4_learnPart 9 = .ok (.aload_n 0, 1) := by decide +kernel
theorem dX4_learnPart_10 : decode cX4_learnPart 10 = .ok (.getfield 20, 3) := by decide +kernel
theorem dX4_learnPart_13 : decode cX4_learnPart 13 = .ok (.aload_n 0, 1) := by decide +kernel
theorem dX4_learnPart_14 : decode cX4_learnPart 14 = .ok (.getfield 11, 3) := by decide +kernel
theorem dX4_learnPart_17 : decode cX4_learnPart 17 = .ok (.iload_n 1, 1) := by decide +kernel
theorem dX4_learnPart_18 : decode cX4_learnPart 18 = .ok (.aaload, 1) := by decide +kernel
theorem dX4_learnPart_19 : decode cX4_learnPart 19 = .ok (.getfield 68, 3) := by decide +kernel
theorem dX4_learnPart_22 : decode cX4_learnPart 22 = .ok (.iload_n 2, 1) := by decide +kernel
theorem dX4_learnPart_23 : decode cX4_learnPart 23 = .ok (.laload, 1) := by decide +kernel
theorem dX4_learnPart_24 : decode cX4_learnPart 24 = .ok (.aload_n 0, 1) := by decide +kernel
theorem dX4_learnPart_25 : decode cX4_learnPart 25 = .ok (.getfield 11, 3) := by decide +kernel
theorem dX4_learnPart_28 : decode cX4_learnPart 28 = .ok (.iload_n 1, 1) := by decide +kernel
theorem dX4_learnPart_29 : decode cX4_learnPart 29 = .ok (.aaload, 1) := by decide +kernel
theorem dX4_learnPart_30 : decode cX4_learnPart 30 = .ok (.getfield 64, 3) := by decide +kernel
theorem dX4_learnPart_33 : decode cX4_learnPart 33 = .ok (.iload_n 2, 1) := by decide +kernel
theorem dX4_learnPart_34 : decode cX4_learnPart 34 = .ok (.laload, 1) := by decide +kernel
theorem dX4_learnPart_35 : decode cX4_learnPart 35 = .ok (.invokevirtual 78, 3) := by decide +kernel
theorem dX4_learnPart_38 : decode cX4_learnPart 38 = .ok (.return_, 1) := by decide +kernel
theorem dX4_fill_0 : decode cX4_fill 0 = .ok (.iconst 0, 1) := by decide +kernel
theorem dX4_fill_1 : decode cX4_fill 1 = .ok (.istore_n 1, 1) := by decide +kernel
theorem dX4_fill_2 : decode cX4_fill 2 = .ok (.iconst 0, 1) := by decide +kernel
theorem dX4_fill_3 : decode cX4_fill 3 = .ok (.istore_n 2, 1) := by decide +kernel
theorem dX4_fill_4 : decode cX4_fill 4 = .ok (.iload_n 2, 1) := by decide +kernel
theorem dX4_fill_5 : decode cX4_fill 5 = .ok (.aload_n 0, 1) := by decide +kernel
theorem dX4_fill_6 : decode cX4_fill 6 = .ok (.getfield 28, 3) := by decide +kernel
theorem dX4_fill_9 : decode cX4_fill 9 = .ok (.if_icmp .ge 97, 3) := by decide +kernel
theorem dX4_fill_12 : decode cX4_fill 12 = .ok (.iconst 0, 1) := by decide +kernel
theorem dX4_fill_13 : decode cX4_fill 13 = .ok (.istore_n 3, 1) := by decide +kernel
theorem dX4_fill_14 : decode cX4_fill 14 = .ok (.iload_n 3, 1) := by decide +kernel
theorem dX4_fill_15 : decode cX4_fill 15 = .ok (.aload_n 0, 1) := by decide +kernel
theorem dX4_fill_16 : decode cX4_fill 16 = .ok (.getfield 11, 3) := by decide +kernel
theorem dX4_fill_19 : decode cX4_fill 19 = .ok (.iload_n 2, 1) := by decide +kernel
theorem dX4_fill_20 : decode cX4_fill 20 = .ok (.aaload, 1) := by decide +kernel
theorem dX4_fill_21 : decode cX4_fill 21 = .ok (.getfield 55, 3) := by decide +kernel
theorem dX4_fill_24 : decode cX4_fill 24 = .ok (.if_icmp .ge 76, 3) := by decide +kernel
theorem dX4_fill_27 : decode cX4_fill 27 = .ok (.aload_n 0, 1) := by decide +kernel
theorem dX4_fill_28 : decode cX4_fill 28 = .ok (.getfield 20, 3) := by decide +kernel
theorem dX4_fill_31 : decode cX4_fill 31 = .ok (.aload_n 0, 1) := by decide +kernel
theorem dX4_fill_32 : decode cX4_fill 32 = .ok (.getfield 11, 3) := by decide +kernel
theorem dX4_fill_35 : decode cX4_fill 35 = .ok (.iload_n 2, 1) := by decide +kernel
theorem dX4_fill_36 : decode cX4_fill 36 = .ok (.aaload, 1) := by decide +kernel
theorem dX4_fill_37 : decode cX4_fill 37 = .ok (.getfield 68, 3) := by decide +kernel
theorem dX4_fill_40 : decode cX4_fill 40 = .ok (.iload_n 3, 1) := by decide +kernel
theorem dX4_fill_41 : decode cX4_fill 41 = .ok (.laload, 1) := by decide +kernel
theorem dX4_fill_42 : decode cX4_fill 42 = .ok (.invokevirtual 82, 3) := by decide +kernel
theorem dX4_fill_45 : decode cX4_fill 45 = .ok (.istore 4, 2) := by decide +kernel
theorem dX4_fill_47 : decode cX4_fill 47 = .ok (.aload_n 0, 1) := by decide +kernel
theorem dX4_fill_48 : decode cX4_fill 48 = .ok (.getfield 11, 3) := by decide +kernel
theorem dX4_fill_51 : decode cX4_fill 51 = .ok (.iload_n 2, 1) := by decide +kernel
theorem dX4_fill_52 : decode cX4_fill 52 = .ok (.aaload, 1) := by decide +kernel
theorem dX4_fill_53 : decode cX4_fill 53 = .ok (.getfield 64, 3) := by decide +kernel
theorem dX4_fill_56 : decode cX4_fill 56 = .ok (.iload_n 3, 1) := by decide +kernel
theorem dX4_fill_57 : decode cX4_fill 57 = .ok (.laload, 1) := by decide +kernel
theorem dX4_fill_58 : decode cX4_fill 58 = .ok (.lconst 0, 1) := by decide +kernel
theorem dX4_fill_59 : decode cX4_fill 59 = .ok (.lcmp, 1) := by decide +kernel
theorem dX4_fill_60 : decode cX4_fill 60 = .ok (.ifCond .ne 34, 3) := by decide +kernel
theorem dX4_fill_63 : decode cX4_fill 63 = .ok (.iload 4, 2) := by decide +kernel
theorem dX4_fill_65 : decode cX4_fill 65 = .ok (.bipush (-9), 2) := by decide +kernel
theorem dX4_fill_67 : decode cX4_fill 67 = .ok (.if_icmp .eq 27, 3) := by decide +kernel
theorem dX4_fill_70 : decode cX4_fill 70 = .ok (.aload_n 0, 1) := by decide +kernel
theorem dX4_fill_71 : decode cX4_fill 71 = .ok (.getfield 11, 3) := by decide +kernel
theorem dX4_fill_74 : decode cX4_fill 74 = .ok (.iload_n 2, 1) := by decide +kernel
theorem dX4_fill_75 : decode cX4_fill 75 = .ok (.aaload, 1) := by decide +kernel
theorem dX4_fill_76 : decode cX4_fill 76 = .ok (.getfield 64, 3) := by decide +kernel
theorem dX4_fill_79 : decode cX4_fill 79 = .ok (.iload_n 3, 1) := by decide +kernel
theorem dX4_fill_80 : decode cX4_fill 80 = .ok (.aload_n 0, 1) := by decide +kernel
theorem dX4_fill_81 : decode cX4_fill 81 = .ok (.getfield 20, 3) := by decide +kernel
theorem dX4_fill_84 : decode cX4_fill 84 = .ok (.getfield 86, 3) := by decide +kernel
theorem dX4_fill_87 : decode cX4_fill 87 = .ok (.iload 4, 2) := by decide +kernel
theorem dX4_fill_89 : decode cX4_fill 89 = .ok (.laload, 1) := by decide +kernel
theorem dX4_fill_90 : decode cX4_fill 90 = .ok (.lastore, 1) := by decide +kernel
theorem dX4_fill_91 : decode cX4_fill 91 = .ok (.iinc 1 1, 3) := by decide +kernel
theorem dX4_fill_94 : decode cX4_fill 94 = .ok (.iinc 3 1, 3) := by decide +kernel
theorem dX4_fill_97 : decode cX4_fill 97 = .ok (.goto (-83), 3) := by decide +kernel
theorem dX4_fill_100 : decode cX4_fill 100 = .ok (.iinc 2 1, 3) := by decide +kernel
theorem dX4_fill_103 : decode cX4_fill 103 = .ok (.goto (-99), 3) := by decide +kernel
theorem dX4_fill_106 : decode cX4_fill 106 = .ok (.iload_n 1, 1) := by decide +kernel
theorem dX4_fill_107 : decode cX4_fill 107 = .ok (.ireturn, 1) := by decide +kernel
theorem dX4_countParts_0 : decode cX4_countParts 0 = .ok (.iconst 0, 1) := by decide +kernel
theorem dX4_countParts_1 : decode cX4_countParts 1 = .ok (.istore_n 1, 1) := by decide +kernel
theorem dX4_countParts_2 : decode cX4_countParts 2 = .ok (.iconst 0, 1) := by decide +kernel
theorem dX4_countParts_3 : decode cX4_countParts 3 = .ok (.istore_n 2, 1) := by decide +kernel
theorem dX4_countParts_4 : decode cX4_countParts 4 = .ok (.iload_n 2, 1) := by decide +kernel
theorem dX4_countParts_5 : decode cX4_countParts 5 = .ok (.aload_n 0, 1) := by decide +kernel
theorem dX4_countParts_6 : decode cX4_countParts 6 = .ok (.getfield 28, 3) := by decide +kernel
theorem dX4_countParts_9 : decode cX4_countParts 9 = .ok (.if_icmp .ge 21, 3) := by decide +kernel
theorem dX4_countParts_12 : decode cX4_countParts 12 = .ok (.iload_n 1, 1) := by decide +kernel
theorem dX4_countParts_13 : decode cX4_countParts 13 = .ok (.aload_n 0, 1) := by decide +kernel
theorem dX4_countParts_14 : decode cX4_countParts 14 = .ok (.getfield 11, 3) := by decide +kernel
theorem dX4_countParts_17 : decode cX4_countParts 17 = .ok (.iload_n 2, 1) := by decide +kernel
theorem dX4_countParts_18 : decode cX4_countParts 18 = .ok (.aaload, 1) := by decide +kernel
theorem dX4_countParts_19 : decode cX4_countParts 19 = .ok (.getfield 55, 3) := by decide +kernel
theorem dX4_countParts_22 : decode cX4_countParts 22 = .ok (.iadd, 1) := by decide +kernel
theorem dX4_countParts_23 : decode cX4_countParts 23 = .ok (.istore_n 1, 1) := by decide +kernel
theorem dX4_countParts_24 : decode cX4_countParts 24 = .ok (.iinc 2 1, 3) := by decide +kernel
theorem dX4_countParts_27 : decode cX4_countParts 27 = .ok (.goto (-23), 3) := by decide +kernel
theorem dX4_countParts_30 : decode cX4_countParts 30 = .ok (.iload_n 1, 1) := by decide +kernel
theorem dX4_countParts_31 : decode cX4_countParts 31 = .ok (.ireturn, 1) := by decide +kernel
theorem dX4_countGaps_0 : decode cX4_countGaps 0 = .ok (.iconst 0, 1) := by decide +kernel
theorem dX4_countGaps_1 : decode cX4_countGaps 1 = .ok (.istore_n 1, 1) := by decide +kernel
theorem dX4_countGaps_2 : decode cX4_countGaps 2 = .ok (.iconst 0, 1) := by decide +kernel
theorem dX4_countGaps_3 : decode cX4_countGaps 3 = .ok (.istore_n 2, 1) := by decide +kernel
theorem dX4_countGaps_4 : decode cX4_countGaps 4 = .ok (.iload_n 2, 1) := by decide +kernel
theorem dX4_countGaps_5 : decode cX4_countGaps 5 = .ok (.aload_n 0, 1) := by decide +kernel
theorem dX4_countGaps_6 : decode cX4_countGaps 6 = .ok (.getfield 28, 3) := by decide +kernel
theorem dX4_countGaps_9 : decode cX4_countGaps 9 = .ok (.if_icmp .ge 21, 3) := by decide +kernel
theorem dX4_countGaps_12 : decode cX4_countGaps 12 = .ok (.iload_n 1, 1) := by decide +kernel
theorem dX4_countGaps_13 : decode cX4_countGaps 13 = .ok (.aload_n 0, 1) := by decide +kernel
theorem dX4_countGaps_14 : decode cX4_countGaps 14 = .ok (.getfield 11, 3) := by decide +kernel
theorem dX4_countGaps_17 : decode cX4_countGaps 17 = .ok (.iload_n 2, 1) := by decide +kernel
theorem dX4_countGaps_18 : decode cX4_countGaps 18 = .ok (.aaload, 1) := by decide +kernel
theorem dX4_countGaps_19 : decode cX4_countGaps 19 = .ok (.invokevirtual 87, 3) := by decide +kernel
theorem dX4_countGaps_22 : decode cX4_countGaps 22 = .ok (.iadd, 1) := by decide +kernel
theorem dX4_countGaps_23 : decode cX4_countGaps 23 = .ok (.istore_n 1, 1) := by decide +kernel
theorem dX4_countGaps_24 : decode cX4_countGaps 24 = .ok (.iinc 2 1, 3) := by decide +kernel
theorem dX4_countGaps_27 : decode cX4_countGaps 27 = .ok (.goto (-23), 3) := by decide +kernel
theorem dX4_countGaps_30 : decode cX4_countGaps 30 = .ok (.iload_n 1, 1) := by decide +kernel
theorem dX4_countGaps_31 : decode cX4_countGaps 31 = .ok (.ireturn, 1) := by decide +kernel
theorem dX4_countSentences_0 : decode cX4_countSentences 0 = .ok (.iconst 0, 1) := by decide +kernel
theorem dX4_countSentences_1 : decode cX4_countSentences 1 = .ok (.istore_n 1, 1) := by decide +kernel
theorem dX4_countSentences_2 : decode cX4_countSentences 2 = .ok (.iconst 0, 1) := by decide +kernel
theorem dX4_countSentences_3 : decode cX4_countSentences 3 = .ok (.istore_n 2, 1) := by decide +kernel
theorem dX4_countSentences_4 : decode cX4_countSentences 4 = .ok (.iload_n 2, 1) := by decide +kernel
theorem dX4_countSentences_5 : decode cX4_countSentences 5 = .ok (.aload_n 0, 1) := by decide +kernel
theorem dX4_countSentences_6 : decode cX4_countSentences 6 = .ok (.getfield 28, 3) := by decide +kernel
theorem dX4_countSentences_9 : decode cX4_countSentences 9 = .ok (.if_icmp .ge 34, 3) := by decide +kernel
theorem dX4_countSentences_12 : decode cX4_countSentences 12 = .ok (.aload_n 0, 1) := by decide +kernel
theorem dX4_countSentences_13 : decode cX4_countSentences 13 = .ok (.getfield 11, 3) := by decide +kernel
theorem dX4_countSentences_16 : decode cX4_countSentences 16 = .ok (.iload_n 2, 1) := by decide +kernel
theorem dX4_countSentences_17 : decode cX4_countSentences 17 = .ok (.aaload, 1) := by decide +kernel
theorem dX4_countSentences_18 : decode cX4_countSentences 18 = .ok (.getfield 91, 3) := by decide +kernel
theorem dX4_countSentences_21 : decode cX4_countSentences 21 = .ok (.ifCond .ne 13, 3) := by decide +kernel
theorem dX4_countSentences_24 : decode cX4_countSentences 24 = .ok (.iload_n 2, 1) := by decide +kernel
theorem dX4_countSentences_25 : decode cX4_countSentences 25 = .ok (.aload_n 0, 1) := by decide +kernel
theorem dX4_countSentences_26 : decode cX4_countSentences 26 = .ok (.getfield 28, 3) := by decide +kernel
theorem dX4_countSentences_29 : decode cX4_countSentences 29 = .ok (.iconst 1, 1) := by decide +kernel
theorem dX4_countSentences_30 : decode cX4_countSentences 30 = .ok (.isub, 1) := by decide +kernel
theorem dX4_countSentences_31 : decode cX4_countSentences 31 = .ok (.if_icmp .ne 6, 3) := by decide +kernel
theorem dX4_countSentences_34 : decode cX4_countSentences 34 = .ok (.iinc 1 1, 3) := by decide +kernel
theorem dX4_countSentences_37 : decode cX4_countSentences 37 = .ok (.iinc 2 1, 3) := by decide +kernel
theorem dX4_countSentences_40 : decode cX4_countSentences 40 = .ok (.goto (-36), 3) := by decide +kernel
theorem dX4_countSentences_43 : decode cX4_countSentences 43 = .ok (.iload_n 1, 1) := by decide +kernel
theorem dX4_countSentences_44 : decode cX4_countSentences 44 = .ok (.ireturn, 1) := by decide +kernel
theorem dX4_countDiffering_0 : decode cX4_countDiffering 0 = .ok (.iconst 0, 1) := by decide +kernel
theorem dX4_countDiffering_1 : decode cX4_countDiffering 1 = .ok (.istore_n 1, 1) := by decide +kernel
theorem dX4_countDiffering_2 : decode cX4_countDiffering 2 = .ok (.iconst 0, 1) := by decide +kernel
theorem dX4_countDiffering_3 : decode cX4_countDiffering 3 = .ok (.istore_n 2, 1) := by decide +kernel
theorem dX4_countDiffering_4 : decode cX4_countDiffering 4 = .ok (.iload_n 2, 1) := by decide +kernel
theorem dX4_countDiffering_5 : decode cX4_countDiffering 5 = .ok (.aload_n 0, 1) := by decide +kernel
theorem dX4_countDiffering_6 : decode cX4_countDiffering 6 = .ok (.getfield 28, 3) := by decide +kernel
theorem dX4_countDiffering_9 : decode cX4_countDiffering 9 = .ok (.if_icmp .ge 96, 3) := by decide +kernel
theorem dX4_countDiffering_12 : decode cX4_countDiffering 12 = .ok (.iconst 0, 1) := by decide +kernel
theorem dX4_countDiffering_13 : decode cX4_countDiffering 13 = .ok (.istore_n 3, 1) := by decide +kernel
theorem dX4_countDiffering_14 : decode cX4_countDiffering 14 = .ok (.iload_n 3, 1) := by decide +kernel
theorem dX4_countDiffering_15 : decode cX4_countDiffering 15 = .ok (.aload_n 0, 1) := by decide +kernel
theorem dX4_countDiffering_16 : decode cX4_countDiffering 16 = .ok (.getfield 11, 3) := by decide +kernel
theorem dX4_countDiffering_19 : decode cX4_countDiffering 19 = .ok (.iload_n 2, 1) := by decide +kernel
theorem dX4_countDiffering_20 : decode cX4_countDiffering 20 = .ok (.aaload, 1) := by decide +kernel
theorem dX4_countDiffering_21 : decode cX4_countDiffering 21 = .ok (.getfield 55, 3) := by decide +kernel
theorem dX4_countDiffering_24 : decode cX4_countDiffering 24 = .ok (.if_icmp .ge 75, 3) := by decide +kernel
theorem dX4_countDiffering_27 : decode cX4_countDiffering 27 = .ok (.aload_n 0, 1) := by decide +kernel
theorem dX4_countDiffering_28 : decode cX4_countDiffering 28 = .ok (.getfield 11, 3) := by decide +kernel
theorem dX4_countDiffering_31 : decode cX4_countDiffering 31 = .ok (.iload_n 2, 1) := by decide +kernel
theorem dX4_countDiffering_32 : decode cX4_countDiffering 32 = .ok (.aaload, 1) := by decide +kernel
theorem dX4_countDiffering_33 : decode cX4_countDiffering 33 = .ok (.getfield 64, 3) := by decide +kernel
theorem dX4_countDiffering_36 : decode cX4_countDiffering 36 = .ok (.iload_n 3, 1) := by decide +kernel
theorem dX4_countDiffering_37 : decode cX4_countDiffering 37 = .ok (.laload, 1) := by decide +kernel
theorem dX4_countDiffering_38 : decode cX4_countDiffering 38 = .ok (.lstore 4, 2) := by decide +kernel
theorem dX4_countDiffering_40 : decode cX4_countDiffering 40 = .ok (.aload_n 0, 1) := by decide +kernel
theorem dX4_countDiffering_41 : decode cX4_countDiffering 41 = .ok (.getfield 20, 3) := by decide +kernel
theorem dX4_countDiffering_44 : decode cX4_countDiffering 44 = .ok (.aload_n 0, 1) := by decide +kernel
theorem dX4_countDiffering_45 : decode cX4_countDiffering 45 = .ok (.getfield 11, 3) := by decide +kernel
theorem dX4_countDiffering_48 : decode cX4_countDiffering 48 = .ok (.iload_n 2, 1) := by decide +kernel
theorem dX4_countDiffering_49 : decode cX4_countDiffering 49 = .ok (.aaload, 1) := by decide +kernel
theorem dX4_countDiffering_50 : decode cX4_countDiffering 50 = .ok (.getfield 68, 3) := by decide +kernel
theorem dX4_countDiffering_53 : decode cX4_countDiffering 53 = .ok (.iload_n 3, 1) := by decide +kernel
theorem dX4_countDiffering_54 : decode cX4_countDiffering 54 = .ok (.laload, 1) := by decide +kernel
theorem dX4_countDiffering_55 : decode cX4_countDiffering 55 = .ok (.invokevirtual 82, 3) := by decide +kernel
theorem dX4_countDiffering_58 : decode cX4_countDiffering 58 = .ok (.istore 6, 2) := by decide +kernel
theorem dX4_countDiffering_60 : decode cX4_countDiffering 60 = .ok (.lload 4, 2) := by decide +kernel
theorem dX4_countDiffering_62 : decode cX4_countDiffering 62 = .ok (.lconst 0, 1) := by decide +kernel
theorem dX4_countDiffering_63 : decode cX4_countDiffering 63 = .ok (.lcmp, 1) := by decide +kernel
theorem dX4_countDiffering_64 : decode cX4_countDiffering 64 = .ok (.ifCond .eq 29, 3) := by decide +kernel
theorem dX4_countDiffering_67 : decode cX4_countDiffering 67 = .ok (.iload 6, 2) := by decide +kernel
theorem dX4_countDiffering_69 : decode cX4_countDiffering 69 = .ok (.bipush (-9), 2) := by decide +kernel
theorem dX4_countDiffering_71 : decode cX4_countDiffering 71 = .ok (.if_icmp .eq 22, 3) := by decide +kernel
theorem dX4_countDiffering_74 : decode cX4_countDiffering 74 = .ok (.aload_n 0, 1) := by decide +kernel
theorem dX4_countDiffering_75 : decode cX4_countDiffering 75 = .ok (.getfield 20, 3) := by decide +kernel
theorem dX4_countDiffering_78 : decode cX4_countDiffering 78 = .ok (.getfield 86, 3) := by decide +kernel
theorem dX4_countDiffering_81 : decode cX4_countDiffering 81 = .ok (.iload 6, 2) := by decide +kernel
theorem dX4_countDiffering_83 : decode cX4_countDiffering 83 = .ok (.laload, 1) := by decide +kernel
theorem dX4_countDiffering_84 : decode cX4_countDiffering 84 = .ok (.lload 4, 2) := by decide +kernel
theorem dX4_countDiffering_86 : decode cX4_countDiffering 86 = .ok (.lcmp, 1) := by decide +kernel
theorem dX4_countDiffering_87 : decode cX4_countDiffering 87 = .ok (.ifCond .eq 6, 3) := by decide +kernel
theorem dX4_countDiffering_90 : decode cX4_countDiffering 90 = .ok (.iinc 1 1, 3) := by decide +kernel
theorem dX4_countDiffering_93 : decode cX4_countDiffering 93 = .ok (.iinc 3 1, 3) := by decide +kernel
theorem dX4_countDiffering_96 : decode cX4_countDiffering 96 = .ok (.goto (-82), 3) := by decide +kernel
theorem dX4_countDiffering_99 : decode cX4_countDiffering 99 = .ok (.iinc 2 1, 3) := by decide +kernel
theorem dX4_countDiffering_102 : decode cX4_countDiffering 102 = .ok (.goto (-98), 3) := by decide +kernel
theorem dX4_countDiffering_105 : decode cX4_countDiffering 105 = .ok (.iload_n 1, 1) := by decide +kernel
theorem dX4_countDiffering_106 : decode cX4_countDiffering 106 = .ok (.ireturn, 1) := by decide +kernel
theorem dX4_placeOfGap_0 : decode cX4_placeOfGap 0 = .ok (.iconst 0, 1) := by decide +kernel
theorem dX4_placeOfGap_1 : decode cX4_placeOfGap 1 = .ok (.istore_n 2, 1) := by decide +kernel
theorem dX4_placeOfGap_2 : decode cX4_placeOfGap 2 = .ok (.iconst 0, 1) := by decide +kernel
theorem dX4_placeOfGap_3 : decode cX4_placeOfGap 3 = .ok (.istore_n 3, 1) := by decide +kernel
theorem dX4_placeOfGap_4 : decode cX4_placeOfGap 4 = .ok (.iload_n 3, 1) := by decide +kernel
theorem dX4_placeOfGap_5 : decode cX4_placeOfGap 5 = .ok (.aload_n 0, 1) := by decide +kernel
theorem dX4_placeOfGap_6 : decode cX4_placeOfGap 6 = .ok (.getfield 28, 3) := by decide +kernel
theorem dX4_placeOfGap_9 : decode cX4_placeOfGap 9 = .ok (.if_icmp .ge 65, 3) := by decide +kernel
theorem dX4_placeOfGap_12 : decode cX4_placeOfGap 12 = .ok (.iconst 0, 1) := by decide +kernel
theorem dX4_placeOfGap_13 : decode cX4_placeOfGap 13 = .ok (.istore 4, 2) := by decide +kernel
theorem dX4_placeOfGap_15 : decode cX4_placeOfGap 15 = .ok (.iload 4, 2) := by decide +kernel
theorem dX4_placeOfGap_17 : decode cX4_placeOfGap 17 = .ok (.aload_n 0, 1) := by decide +kernel
theorem dX4_placeOfGap_18 : decode cX4_placeOfGap 18 = .ok (.getfield 11, 3) := by decide +kernel
theorem dX4_placeOfGap_21 : decode cX4_placeOfGap 21 = .ok (.iload_n 3, 1) := by decide +kernel
theorem dX4_placeOfGap_22 : decode cX4_placeOfGap 22 = .ok (.aaload, 1) := by decide +kernel
theorem dX4_placeOfGap_23 : decode cX4_placeOfGap 23 = .ok (.getfield 55, 3) := by decide +kernel
theorem dX4_placeOfGap_26 : decode cX4_placeOfGap 26 = .ok (.if_icmp .ge 42, 3) := by decide +kernel
theorem dX4_placeOfGap_29 : decode cX4_placeOfGap 29 = .ok (.aload_n 0, 1) := by decide +kernel
theorem dX4_placeOfGap_30 : decode cX4_placeOfGap 30 = .ok (.getfield 11, 3) := by decide +kernel
theorem dX4_placeOfGap_33 : decode cX4_placeOfGap 33 = .ok (.iload_n 3, 1) := by decide +kernel
theorem dX4_placeOfGap_34 : decode cX4_placeOfGap 34 = .ok (.aaload, 1) := by decide +kernel
theorem dX4_placeOfGap_35 : decode cX4_placeOfGap 35 = .ok (.getfield 64, 3) := by decide +kernel
theorem dX4_placeOfGap_38 : decode cX4_placeOfGap 38 = .ok (.iload 4, 2) := by decide +kernel
theorem dX4_placeOfGap_40 : decode cX4_placeOfGap 40 = .ok (.laload, 1) := by decide +kernel
theorem dX4_placeOfGap_41 : decode cX4_placeOfGap 41 = .ok (.lconst 0, 1) := by decide +kernel
theorem dX4_placeOfGap_42 : decode cX4_placeOfGap 42 = .ok (.lcmp, 1) := by decide +kernel
theorem dX4_placeOfGap_43 : decode cX4_placeOfGap 43 = .ok (.ifCond .ne 19, 3) := by decide +kernel
theorem dX4_placeOfGap_46 : decode cX4_placeOfGap 46 = .ok (.iload_n 2, 1) := by decide +kernel
theorem dX4_placeOfGap_47 : decode cX4_placeOfGap 47 = .ok (.iload_n 1, 1) := by decide +kernel
theorem dX4_placeOfGap_48 : decode cX4_placeOfGap 48 = .ok (.if_icmp .ne 11, 3) := by decide +kernel
theorem dX4_placeOfGap_51 : decode cX4_placeOfGap 51 = .ok (.bipush 10, 2) := by decide +kernel
theorem dX4_placeOfGap_53 : decode cX4_placeOfGap 53 = .ok (.iload_n 3, 1) := by decide +kernel
theorem dX4_placeOfGap_54 : decode cX4_placeOfGap 54 = .ok (.imul, 1) := by decide +kernel
theorem dX4_placeOfGap_55 : decode cX4_placeOfGap 55 = .ok (.iload 4, 2) := by decide +kernel
theorem dX4_placeOfGap_57 : decode cX4_placeOfGap 57 = .ok (.iadd, 1) := by decide +kernel
theorem dX4_placeOfGap_58 : decode cX4_placeOfGap 58 = .ok (.ireturn, 1) := by decide +kernel
theorem dX4_placeOfGap_59 : decode cX4_placeOfGap 59 = .ok (.iinc 2 1, 3) := by decide +kernel
theorem dX4_placeOfGap_62 : decode cX4_placeOfGap 62 = .ok (.iinc 4 1, 3) := by decide +kernel
theorem dX4_placeOfGap_65 : decode cX4_placeOfGap 65 = .ok (.goto (-50), 3) := by decide +kernel
theorem dX4_placeOfGap_68 : decode cX4_placeOfGap 68 = .ok (.iinc 3 1, 3) := by decide +kernel
theorem dX4_placeOfGap_71 : decode cX4_placeOfGap 71 = .ok (.goto (-67), 3) := by decide +kernel
theorem dX4_placeOfGap_74 : decode cX4_placeOfGap 74 = .ok (.bipush (-9), 2) := by decide +kernel
theorem dX4_placeOfGap_76 : decode cX4_placeOfGap 76 = .ok (.ireturn, 1) := by decide +kernel
theorem dX4_placeOfMostUsed_0 : decode cX4_placeOfMostUsed 0 = .ok (.bipush (-9), 2) := by decide +kernel
theorem dX4_placeOfMostUsed_2 : decode cX4_placeOfMostUsed 2 = .ok (.istore_n 1, 1) := by decide +kernel
theorem dX4_placeOfMostUsed_3 : decode cX4_placeOfMostUsed 3 = .ok (.iconst 0, 1) := by decide +kernel
theorem dX4_placeOfMostUsed_4 : decode cX4_placeOfMostUsed 4 = .ok (.istore_n 2, 1) := by decide +kernel
theorem dX4_placeOfMostUsed_5 : decode cX4_placeOfMostUsed 5 = .ok (.lconst 0, 1) := by decide +kernel
theorem dX4_placeOfMostUsed_6 : decode cX4_placeOfMostUsed 6 = .ok (.lstore_n 3, 1) := by decide +kernel
theorem dX4_placeOfMostUsed_7 : decode cX4_placeOfMostUsed 7 = .ok (.iconst 0, 1) := by decide +kernel
theorem dX4_placeOfMostUsed_8 : decode cX4_placeOfMostUsed 8 = .ok (.istore 5, 2) := by decide +kernel
theorem dX4_placeOfMostUsed_10 : decode cX4_placeOfMostUsed 10 = .ok (.iload 5, 2) := by decide +kernel
theorem dX4_placeOfMostUsed_12 : decode cX4_placeOfMostUsed 12 = .ok (.aload_n 0, 1) := by decide +kernel
theorem dX4_placeOfMostUsed_13 : decode cX4_placeOfMostUsed 13 = .ok (.getfield 28, 3) := by decide +kernel
theorem dX4_placeOfMostUsed_16 : decode cX4_placeOfMostUsed 16 = .ok (.if_icmp .ge 90, 3) := by decide +kernel
theorem dX4_placeOfMostUsed_19 : decode cX4_placeOfMostUsed 19 = .ok (.iconst 0, 1) := by decide +kernel
theorem dX4_placeOfMostUsed_20 : decode cX4_placeOfMostUsed 20 = .ok (.istore 6, 2) := by decide +kernel
theorem dX4_placeOfMostUsed_22 : decode cX4_placeOfMostUsed 22 = .ok (.iload 6, 2) := by decide +kernel
theorem dX4_placeOfMostUsed_24 : decode cX4_placeOfMostUsed 24 = .ok (.aload_n 0, 1) := by decide +kernel
theorem dX4_placeOfMostUsed_25 : decode cX4_placeOfMostUsed 25 = .ok (.getfield 11, 3) := by decide +kernel
theorem dX4_placeOfMostUsed_28 : decode cX4_placeOfMostUsed 28 = .ok (.iload 5, 2) := by decide +kernel
theorem dX4_placeOfMostUsed_30 : decode cX4_placeOfMostUsed 30 = .ok (.aaload, 1) := by decide +kernel
theorem dX4_placeOfMostUsed_31 : decode cX4_placeOfMostUsed 31 = .ok (.getfield 55, 3) := by decide +kernel
theorem dX4_placeOfMostUsed_34 : decode cX4_placeOfMostUsed 34 = .ok (.if_icmp .ge 66, 3) := by decide +kernel
theorem dX4_placeOfMostUsed_37 : decode cX4_placeOfMostUsed 37 = .ok (.aload_n 0, 1) := by decide +kernel
theorem dX4_placeOfMostUsed_38 : decode cX4_placeOfMostUsed 38 = .ok (.getfield 11, 3) := by decide +kernel
theorem dX4_placeOfMostUsed_41 : decode cX4_placeOfMostUsed 41 = .ok (.iload 5, 2) := by decide +kernel
theorem dX4_placeOfMostUsed_43 : decode cX4_placeOfMostUsed 43 = .ok (.aaload, 1) := by decide +kernel
theorem dX4_placeOfMostUsed_44 : decode cX4_placeOfMostUsed 44 = .ok (.getfield 68, 3) := by decide +kernel
theorem dX4_placeOfMostUsed_47 : decode cX4_placeOfMostUsed 47 = .ok (.iload 6, 2) := by decide +kernel
theorem dX4_placeOfMostUsed_49 : decode cX4_placeOfMostUsed 49 = .ok (.laload, 1) := by decide +kernel
theorem dX4_placeOfMostUsed_50 : decode cX4_placeOfMostUsed 50 = .ok (.lstore 7, 2) := by decide +kernel
theorem dX4_placeOfMostUsed_52 : decode cX4_placeOfMostUsed 52 = .ok (.aload_n 0, 1) := by decide +kernel
theorem dX4_placeOfMostUsed_53 : decode cX4_placeOfMostUsed 53 = .ok (.lload 7, 2) := by decide +kernel
theorem dX4_placeOfMostUsed_55 : decode cX4_placeOfMostUsed 55 = .ok (.invokevirtual 95, 3) := by decide +kernel
theorem dX4_placeOfMostUsed_58 : decode cX4_placeOfMostUsed 58 = .ok (.istore 9, 2) := by decide +kernel
theorem dX4_placeOfMostUsed_60 : decode cX4_placeOfMostUsed 60 = .ok (.iload 9, 2) := by decide +kernel
theorem dX4_placeOfMostUsed_62 : decode cX4_placeOfMostUsed 62 = .ok (.iload_n 2, 1) := by decide +kernel
theorem dX4_placeOfMostUsed_63 : decode cX4_placeOfMostUsed 63 = .ok (.if_icmp .gt 16, 3) := by decide +kernel
theorem dX4_placeOfMostUsed_66 : decode cX4_placeOfMostUsed 66 = .ok (.iload 9, 2) := by decide +kernel
theorem dX4_placeOfMostUsed_68 : decode cX4_placeOfMostUsed 68 = .ok (.iload_n 2, 1) := by decide +kernel
theorem dX4_placeOfMostUsed_69 : decode cX4_placeOfMostUsed 69 = .ok (.if_icmp .ne 25, 3) := by decide +kernel
theorem dX4_placeOfMostUsed_72 : decode cX4_placeOfMostUsed 72 = .ok (.lload 7, 2) := by decide +kernel
theorem dX4_placeOfMostUsed_74 : decode cX4_placeOfMostUsed 74 = .ok (.lload_n 3, 1) := by decide +kernel
theorem dX4_placeOfMostUsed_75 : decode cX4_placeOfMostUsed 75 = .ok (.lcmp, 1) := by decide +kernel
theorem dX4_placeOfMostUsed_76 : decode cX4_placeOfMostUsed 76 = .ok (.ifCond .ge 18, 3) := by decide +kernel
theorem dX4_placeOfMostUsed_79 : decode cX4_placeOfMostUsed 79 = .ok (.bipush 10, 2) := by decide +kernel
theorem dX4_placeOfMostUsed_81 : decode cX4_placeOfMostUsed 81 = .ok (.iload 5, 2) := by decide +kernel
theorem dX4_placeOfMostUsed_83 : decode cX4_placeOfMostUsed 83 = .ok (.imul, 1) := by decide +kernel
theorem dX4_placeOfMostUsed_84 : decode cX4_placeOfMostUsed 84 = .ok (.iload 6, 2) := by decide +kernel
theorem dX4_placeOfMostUsed_86 : decode cX4_placeOfMostUsed 86 = .ok (.iadd, 1) := by decide +kernel
theorem dX4_placeOfMostUsed_87 : decode cX4_placeOfMostUsed 87 = .ok (.istore_n 1, 1) := by decide +kernel
theorem dX4_placeOfMostUsed_88 : decode cX4_placeOfMostUsed 88 = .ok (.iload 9, 2) := by decide +kernel
theorem dX4_placeOfMostUsed_90 : decode cX4_placeOfMostUsed 90 = .ok (.istore_n 2, 1) := by decide +kernel
theorem dX4_placeOfMostUsed_91 : decode cX4_placeOfMostUsed 91 = .ok (.lload 7, 2) := by decide +kernel
theorem dX4_placeOfMostUsed_93 : decode cX4_placeOfMostUsed 93 = .ok (.lstore_n 3, 1) := by decide +kernel
theorem dX4_placeOfMostUsed_94 : decode cX4_placeOfMostUsed 94 = .ok (.iinc 6 1, 3) := by decide +kernel
theorem dX4_placeOfMostUsed_97 : decode cX4_placeOfMostUsed 97 = .ok (.goto (-75), 3) := by decide +kernel
theorem dX4_placeOfMostUsed_100 : decode cX4_placeOfMostUsed 100 = .ok (.iinc 5 1, 3) := by decide +kernel
theorem dX4_placeOfMostUsed_103 : decode cX4_placeOfMostUsed 103 = .ok (.goto (-93), 3) := by decide +kernel
theorem dX4_placeOfMostUsed_106 : decode cX4_placeOfMostUsed 106 = .ok (.iload_n 1, 1) := by decide +kernel
theorem dX4_placeOfMostUsed_107 : decode cX4_placeOfMostUsed 107 = .ok (.ireturn, 1) := by decide +kernel
theorem dX4_countUses_0 : decode cX4_countUses 0 = .ok (.iconst 0, 1) := by decide +kernel
theorem dX4_countUses_1 : decode cX4_countUses 1 = .ok (.istore_n 3, 1) := by decide +kernel
theorem dX4_countUses_2 : decode cX4_countUses 2 = .ok (.iconst 0, 1) := by decide +kernel
theorem dX4_countUses_3 : decode cX4_countUses 3 = .ok (.istore 4, 2) := by decide +kernel
theorem dX4_countUses_5 : decode cX4_countUses 5 = .ok (.iload 4, 2) := by decide +kernel
theorem dX4_countUses_7 : decode cX4_countUses 7 = .ok (.aload_n 0, 1) := by decide +kernel
theorem dX4_countUses_8 : decode cX4_countUses 8 = .ok (.getfield 28, 3) := by decide +kernel
theorem dX4_countUses_11 : decode cX4_countUses 11 = .ok (.if_icmp .ge 54, 3) := by decide +kernel
theorem dX4_countUses_14 : decode cX4_countUses 14 = .ok (.iconst 0, 1) := by decide +kernel
theorem dX4_countUses_15 : decode cX4_countUses 15 = .ok (.istore 5, 2) := by decide +kernel
theorem dX4_countUses_17 : decode cX4_countUses 17 = .ok (.iload 5, 2) := by decide +kernel
theorem dX4_countUses_19 : decode cX4_countUses 19 = .ok (.aload_n 0, 1) := by decide +kernel
theorem dX4_countUses_20 : decode cX4_countUses 20 = .ok (.getfield 11, 3) := by decide +kernel
theorem dX4_countUses_23 : decode cX4_countUses 23 = .ok (.iload 4, 2) := by decide +kernel
theorem dX4_countUses_25 : decode cX4_countUses 25 = .ok (.aaload, 1) := by decide +kernel
theorem dX4_countUses_26 : decode cX4_countUses 26 = .ok (.getfield 55, 3) := by decide +kernel
theorem dX4_countUses_29 : decode cX4_countUses 29 = .ok (.if_icmp .ge 30, 3) := by decide +kernel
theorem dX4_countUses_32 : decode cX4_countUses 32 = .ok (.aload_n 0, 1) := by decide +kernel
theorem dX4_countUses_33 : decode cX4_countUses 33 = .ok (.getfield 11, 3) := by decide +kernel
theorem dX4_countUses_36 : decode cX4_countUses 36 = .ok (.iload 4, 2) := by decide +kernel
theorem dX4_countUses_38 : decode cX4_countUses 38 = .ok (.aaload, 1) := by decide +kernel
theorem dX4_countUses_39 : decode cX4_countUses 39 = .ok (.getfield 68, 3) := by decide +kernel
theorem dX4_countUses_42 : decode cX4_countUses 42 = .ok (.iload 5, 2) := by decide +kernel
theorem dX4_countUses_44 : decode cX4_countUses 44 = .ok (.laload, 1) := by decide +kernel
theorem dX4_countUses_45 : decode cX4_countUses 45 = .ok (.lload_n 1, 1) := by decide +kernel
theorem dX4_countUses_46 : decode cX4_countUses 46 = .ok (.lcmp, 1) := by decide +kernel
theorem dX4_countUses_47 : decode cX4_countUses 47 = .ok (.ifCond .ne 6, 3) := by decide +kernel
theorem dX4_countUses_50 : decode cX4_countUses 50 = .ok (.iinc 3 1, 3) := by decide +kernel
theorem dX4_countUses_53 : decode cX4_countUses 53 = .ok (.iinc 5 1, 3) := by decide +kernel
theorem dX4_countUses_56 : decode cX4_countUses 56 = .ok (.goto (-39), 3) := by decide +kernel
theorem dX4_countUses_59 : decode cX4_countUses 59 = .ok (.iinc 4 1, 3) := by decide +kernel
theorem dX4_countUses_62 : decode cX4_countUses 62 = .ok (.goto (-57), 3) := by decide +kernel
theorem dX4_countUses_65 : decode cX4_countUses 65 = .ok (.iload_n 3, 1) := by decide +kernel
theorem dX4_countUses_66 : decode cX4_countUses 66 = .ok (.ireturn, 1) := by decide +kernel
theorem dX5_init_0 : decode cX5_init 0 = .ok (.aload_n 0, 1) := by decide +kernel
theorem dX5_init_1 : decode cX5_init 1 = .ok (.invokespecial 3, 3) := by decide +kernel
theorem dX5_init_4 : decode cX5_init 4 = .ok (.aload_n 0, 1) := by decide +kernel
theorem dX5_init_5 : decode cX5_init 5 = .ok (.bipush 12, 2) := by decide +kernel
theorem dX5_init_7 : decode cX5_init 7 = .ok (.anewarray 9, 3) := by decide +kernel
theorem dX5_init_10 : decode cX5_init 10 = .ok (.putfield 11, 3) := by decide +kernel
theorem dX5_init_13 : decode cX5_init 13 = .ok (.iconst 0, 1) := by decide +kernel
theorem dX5_init_14 : decode cX5_init 14 = .ok (.istore_n 1, 1) := by decide +kernel
theorem dX5_init_15 : decode cX5_init 15 = .ok (.iload_n 1, 1) := by decide +kernel
theorem dX5_init_16 : decode cX5_init 16 = .ok (.bipush 12, 2) := by decide +kernel
theorem dX5_init_18 : decode cX5_init 18 = .ok (.if_icmp .ge 22, 3) := by decide +kernel
theorem dX5_init_21 : decode cX5_init 21 = .ok (.aload_n 0, 1) := by decide +kernel
theorem dX5_init_22 : decode cX5_init 22 = .ok (.getfield 11, 3) := by decide +kernel
theorem dX5_init_25 : decode cX5_init 25 = .ok (.iload_n 1, 1) := by decide +kernel
theorem dX5_init_26 : decode cX5_init 26 = .ok (.new 9, 3) := by decide +kernel
theorem dX5_init_29 : decode cX5_init 29 = .ok (.dup, 1) := by decide +kernel
theorem dX5_init_30 : decode cX5_init 30 = .ok (.invokespecial 17, 3) := by decide +kernel
theorem dX5_init_33 : decode cX5_init 33 = .ok (.aastore, 1) := by decide +kernel
theorem dX5_init_34 : decode cX5_init 34 = .ok (.iinc 1 1, 3) := by decide +kernel
theorem dX5_init_37 : decode cX5_init 37 = .ok (.goto (-22), 3) := by decide +kernel
theorem dX5_init_40 : decode cX5_init 40 = .ok (.aload_n 0, 1) := by decide +kernel
theorem dX5_init_41 : decode cX5_init 41 = .ok (.aload_n 0, 1) := by decide +kernel
theorem dX5_init_42 : decode cX5_init 42 = .ok (.getfield 11, 3) := by decide +kernel
theorem dX5_init_45 : decode cX5_init 45 = .ok (.iconst 0, 1) := by decide +kernel
theorem dX5_init_46 : decode cX5_init 46 = .ok (.aaload, 1) := by decide +kernel
theorem dX5_init_47 : decode cX5_init 47 = .ok (.putfield 18, 3) := by decide +kernel
theorem dX5_init_50 : decode cX5_init 50 = .ok (.return_, 1) := by decide +kernel
theorem dX5_read_0 : decode cX5_read 0 = .ok (.aload_n 0, 1) := by decide +kernel
theorem dX5_read_1 : decode cX5_read 1 = .ok (.iconst 0, 1) := by decide +kernel
theorem dX5_read_2 : decode cX5_read 2 = .ok (.putfield 22, 3) := by decide +kernel
theorem dX5_read_5 : decode cX5_read 5 = .ok (.aload_n 0, 1) := by decide +kernel
theorem dX5_read_6 : decode cX5_read 6 = .ok (.invokevirtual 26, 3) := by decide +kernel
theorem dX5_read_9 : decode cX5_read 9 = .ok (.iconst 0, 1) := by decide +kernel
theorem dX5_read_10 : decode cX5_read 10 = .ok (.istore_n 2, 1) := by decide +kernel
theorem dX5_read_11 : decode cX5_read 11 = .ok (.iload_n 2, 1) := by decide +kernel
theorem dX5_read_12 : decode cX5_read 12 = .ok (.aload_n 1, 1) := by decide +kernel
theorem dX5_read_13 : decode cX5_read 13 = .ok (.getfield 29, 3) := by decide +kernel
theorem dX5_read_16 : decode cX5_read 16 = .ok (.if_icmp .ge 24, 3) := by decide +kernel
theorem dX5_read_19 : decode cX5_read 19 = .ok (.aload_n 0, 1) := by decide +kernel
theorem dX5_read_20 : decode cX5_read 20 = .ok (.aload_n 1, 1) := by decide +kernel
theorem dX5_read_21 : decode cX5_read 21 = .ok (.getfield 34, 3) := by decide +kernel
theorem dX5_read_24 : decode cX5_read 24 = .ok (.iload_n 2, 1) := by decide +kernel
theorem dX5_read_25 : decode cX5_read 25 = .ok (.iaload, 1) := by decide +kernel
theorem dX5_read_26 : decode cX5_read 26 = .ok (.invokevirtual 38, 3) := by decide +kernel
theorem dX5_read_29 : decode cX5_read 29 = .ok (.ifCond .ne 5, 3) := by decide +kernel
theorem dX5_read_32 : decode cX5_read 32 = .ok (.iload_n 2, 1) := by decide +kernel
theorem dX5_read_33 : decode cX5_read 33 = .ok (.ireturn, 1) := by decide +kernel
theorem dX5_read_34 : decode cX5_read 34 = .ok (.iinc 2 1, 3) := by decide +kernel
theorem dX5_read_37 : decode cX5_read 37 = .ok (.goto (-26), 3) := by decide +kernel
theorem dX5_read_40 : decode cX5_read 40 = .ok (.aload_n 0, 1) := by decide +kernel
theorem dX5_read_41 : decode cX5_read 41 = .ok (.invokevirtual 42, 3) := by decide +kernel
theorem dX5_read_44 : decode cX5_read 44 = .ok (.ifCond .eq 8, 3) := by decide +kernel
theorem dX5_read_47 : decode cX5_read 47 = .ok (.bipush (-9), 2) := by decide +kernel
theorem dX5_read_49 : decode cX5_read 49 = .ok (.goto 7, 3) := by decide +kernel
theorem dX5_read_52 : decode cX5_read 52 = .ok (.aload_n 1, 1) := by decide +kernel
theorem dX5_read_53 : decode cX5_read 53 = .ok (.getfield 29, 3) := by decide +kernel
theorem dX5_read_56 : decode cX5_read 56 = .ok (.ireturn, 1) := by decide +kernel
theorem dX5_openWord_0 : decode cX5_openWord 0 = .ok (.aload_n 0, 1) := by decide +kernel
theorem dX5_openWord_1 : decode cX5_openWord 1 = .ok (.getfield 22, 3) := by decide +kernel
theorem dX5_openWord_4 : decode cX5_openWord 4 = .ok (.bipush 12, 2) := by decide +kernel
theorem dX5_openWord_6 : decode cX5_openWord 6 = .ok (.if_icmp .ge 52, 3) := by decide +kernel
theorem dX5_openWord_9 : decode cX5_openWord 9 = .ok (.aload_n 0, 1) := by decide +kernel
theorem dX5_openWord_10 : decode cX5_openWord 10 = .ok (.aload_n 0, 1) := by decide +kernel
theorem dX5_openWord_11 : decode cX5_openWord 11 = .ok (.getfield 11, 3) := by decide +kernel
theorem dX5_openWord_14 : decode cX5_openWord 14 = .ok (.aload_n 0, 1) := by decide +kernel
theorem dX5_openWord_15 : decode cX5_openWord 15 = .ok (.getfield 22, 3) := by decide +kernel
theorem dX5_openWord_18 : decode cX5_openWord 18 = .ok (.aaload, 1) := by decide +kernel
theorem dX5_openWord_19 : decode cX5_openWord 19 = .ok (.putfield 18, 3) := by decide +kernel
theorem dX5_openWord_22 : decode cX5_openWord 22 = .ok (.aload_n 0, 1) := by decide +kernel
theorem dX5_openWord_23 : decode cX5_openWord 23 = .ok (.dup, 1) := by decide +kernel
theorem dX5_openWord_24 : decode cX5_openWord 24 = .ok (.getfield 22, 3) := by decide +kernel
theorem dX5_openWord_27 : decode cX5_openWord 27 = .ok (.iconst 1, 1) := by decide +kernel
theorem dX5_openWord_28 : decode cX5_openWord 28 = .ok (.iadd, 1) := by decide +kernel
theorem dX5_openWord_29 : decode cX5_openWord 29 = .ok (.putfield 22, 3) := by decide +kernel
theorem dX5_openWord_32 : decode cX5_openWord 32 = .ok (.aload_n 0, 1) := by decide +kernel
theorem dX5_openWord_33 : decode cX5_openWord 33 = .ok (.getfield 18, 3) := by decide +kernel
theorem dX5_openWord_36 : decode cX5_openWord 36 = .ok (.invokevirtual 46, 3) := by decide +kernel
theorem dX5_openWord_39 : decode cX5_openWord 39 = .ok (.aload_n 0, 1) := by decide +kernel
theorem dX5_openWord_40 : decode cX5_openWord 40 = .ok (.getfield 18, 3) := by decide +kernel
theorem dX5_openWord_43 : decode cX5_openWord 43 = .ok (.bipush (-9), 2) := by decide +kernel
theorem dX5_openWord_45 : decode cX5_openWord 45 = .ok (.invokevirtual 49, 3) := by decide +kernel
theorem dX5_openWord_48 : decode cX5_openWord 48 = .ok (.aload_n 0, 1) := by decide +kernel
theorem dX5_openWord_49 : decode cX5_openWord 49 = .ok (.iconst 0, 1) := by decide +kernel
theorem dX5_openWord_50 : decode cX5_openWord 50 = .ok (.putfield 53, 3) := by decide +kernel
theorem dX5_openWord_53 : decode cX5_openWord 53 = .ok (.aload_n 0, 1) := by decide +kernel
theorem dX5_openWord_54 : decode cX5_openWord 54 = .ok (.iconst 0, 1) := by decide +kernel
theorem dX5_openWord_55 : decode cX5_openWord 55 = .ok (.putfield 57, 3) := by decide +kernel
theorem dX5_openWord_58 : decode cX5_openWord 58 = .ok (.return_, 1) := by decide +kernel
theorem dX5_takes_0 : decode cX5_takes 0 = .ok (.iload_n 1, 1) := by decide +kernel
theorem dX5_takes_1 : decode cX5_takes 1 = .ok (.bipush 32, 2) := by decide +kernel
theorem dX5_takes_3 : decode cX5_takes 3 = .ok (.if_icmp .ne 8, 3) := by decide +kernel
theorem dX5_takes_6 : decode cX5_takes 6 = .ok (.aload_n 0, 1) := by decide +kernel
theorem dX5_takes_7 : decode cX5_takes 7 = .ok (.invokevirtual 60, 3) := by decide +kernel
theorem dX5_takes_10 : decode cX5_takes 10 = .ok (.ireturn, 1) := by decide +kernel
theorem dX5_takes_11 : decode cX5_takes 11 = .ok (.iload_n 1, 1) := by decide +kernel
theorem dX5_takes_12 : decode cX5_takes 12 = .ok (.bipush 58, 2) := by decide +kernel
theorem dX5_takes_14 : decode cX5_takes 14 = .ok (.if_icmp .ne 8, 3) := by decide +kernel
theorem dX5_takes_17 : decode cX5_takes 17 = .ok (.aload_n 0, 1) := by decide +kernel
theorem dX5_takes_18 : decode cX5_takes 18 = .ok (.invokevirtual 63, 3) := by decide +kernel
theorem dX5_takes_21 : decode cX5_takes 21 = .ok (.ireturn, 1) := by decide +kernel
theorem dX5_takes_22 : decode cX5_takes 22 = .ok (.iload_n 1, 1) := by decide +kernel
theorem dX5_takes_23 : decode cX5_takes 23 = .ok (.invokestatic 66, 3) := by decide +kernel
theorem dX5_takes_26 : decode cX5_takes 26 = .ok (.ifCond .eq 24, 3) := by decide +kernel
theorem dX5_takes_29 : decode cX5_takes 29 = .ok (.aload_n 0, 1) := by decide +kernel
theorem dX5_takes_30 : decode cX5_takes 30 = .ok (.getfield 53, 3) := by decide +kernel
theorem dX5_takes_33 : decode cX5_takes 33 = .ok (.ifCond .eq 11, 3) := by decide +kernel
theorem dX5_takes_36 : decode cX5_takes 36 = .ok (.aload_n 0, 1) := by decide +kernel
theorem dX5_takes_37 : decode cX5_takes 37 = .ok (.iload_n 1, 1) := by decide +kernel
theorem dX5_takes_38 : decode cX5_takes 38 = .ok (.invokevirtual 71, 3) := by decide +kernel
theorem dX5_takes_41 : decode cX5_takes 41 = .ok (.goto 8, 3) := by decide +kernel
theorem dX5_takes_44 : decode cX5_takes 44 = .ok (.aload_n 0, 1) := by decide +kernel
theorem dX5_takes_45 : decode cX5_takes 45 = .ok (.iload_n 1, 1) := by decide +kernel
theorem dX5_takes_46 : decode cX5_takes 46 = .ok (.invokevirtual 74, 3) := by decide +kernel
theorem dX5_takes_49 : decode cX5_takes 49 = .ok (.ireturn, 1) := by decide +kernel
theorem dX5_takes_50 : decode cX5_takes 50 = .ok (.aload_n 0, 1) := by decide +kernel
theorem dX5_takes_51 : decode cX5_takes 51 = .ok (.getfield 53, 3) := by decide +kernel
theorem dX5_takes_54 : decode cX5_takes 54 = .ok (.ifCond .eq 11, 3) := by decide +kernel
theorem dX5_takes_57 : decode cX5_takes 57 = .ok (.aload_n 0, 1) := by decide +kernel
theorem dX5_takes_58 : decode cX5_takes 58 = .ok (.iload_n 1, 1) := by decide +kernel
theorem dX5_takes_59 : decode cX5_takes 59 = .ok (.invokevirtual 77, 3) := by decide +kernel
theorem dX5_takes_62 : decode cX5_takes 62 = .ok (.goto 8, 3) := by decide +kernel
theorem dX5_takes_65 : decode cX5_takes 65 = .ok (.aload_n 0, 1) := by decide +kernel
theorem dX5_takes_66 : decode cX5_takes 66 = .ok (.iload_n 1, 1) := by decide +kernel
theorem dX5_takes_67 : decode cX5_takes 67 = .ok (.invokevirtual 80, 3) := by decide +kernel
theorem dX5_takes_70 : decode cX5_takes 70 = .ok (.ireturn, 1) := by decide +kernel
theorem dX5_takesBlank_0 : decode cX5_takesBlank 0 = .ok (.aload_n 0, 1) := by decide +kernel
theorem dX5_takesBlank_1 : decode cX5_takesBlank 1 = .ok (.invokevirtual 42, 3) := by decide +kernel
theorem dX5_takesBlank_4 : decode cX5_takesBlank 4 = .ok (.ifCond .eq 12, 3) := by decide +kernel
theorem dX5_takesBlank_7 : decode cX5_takesBlank 7 = .ok (.aload_n 0, 1) := by decide +kernel
theorem dX5_takesBlank_8 : decode cX5_takesBlank 8 = .ok (.getfield 22, 3) := by decide +kernel
theorem dX5_takesBlank_11 : decode cX5_takesBlank 11 = .ok (.bipush 12, 2) := by decide +kernel
theorem dX5_takesBlank_13 : decode cX5_takesBlank 13 = .ok (.if_icmp .lt 5, 3) := by decide +kernel
theorem dX5_takesBlank_16 : decode cX5_takesBlank 16 = .ok (.iconst 0, 1) := by decide +kernel
theorem dX5_takesBlank_17 : decode cX5_takesBlank 17 = .ok (.ireturn, 1) := by decide +kernel
theorem dX5_takesBlank_18 : decode cX5_takesBlank 18 = .ok (.aload_n 0, 1) := by decide +kernel
theorem dX5_takesBlank_19 : decode cX5_takesBlank 19 = .ok (.invokevirtual 26, 3) := by decide +kernel
theorem dX5_takesBlank_22 : decode cX5_takesBlank 22 = .ok (.iconst 1, 1) := by decide +kernel
theorem dX5_takesBlank_23 : decode cX5_takesBlank 23 = .ok (.ireturn, 1) := by decide +kernel
theorem dX5_takesColon_0 : decode cX5_takesColon 0 = .ok (.aload_n 0, 1) := by decide +kernel
theorem dX5_takesColon_1 : decode cX5_takesColon 1 = .ok (.getfield 53, 3) := by decide +kernel
theorem dX5_takesColon_4 : decode cX5_takesColon 4 = .ok (.ifCond .ne 10, 3) := by decide +kernel
theorem dX5_takesColon_7 : decode cX5_takesColon 7 = .ok (.aload_n 0, 1) := by decide +kernel
theorem dX5_takesColon_8 : decode cX5_takesColon 8 = .ok (.invokevirtual 83, 3) := by decide +kernel
theorem dX5_takesColon_11 : decode cX5_takesColon 11 = .ok (.ifCond .ne 5, 3) := by decide +kernel
theorem dX5_takesColon_14 : decode cX5_takesColon 14 = .ok (.iconst 0, 1) := by decide +kernel
theorem dX5_takesColon_15 : decode cX5_takesColon 15 = .ok (.ireturn, 1) := by decide +kernel
theorem dX5_takesColon_16 : decode cX5_takesColon 16 = .ok (.aload_n 0, 1) := by decide +kernel
theorem dX5_takesColon_17 : decode cX5_takesColon 17 = .ok (.iconst 1, 1) := by decide +kernel
theorem dX5_takesColon_18 : decode cX5_takesColon 18 = .ok (.putfield 53, 3) := by decide +kernel
theorem dX5_takesColon_21 : decode cX5_takesColon 21 = .ok (.aload_n 0, 1) := by decide +kernel
theorem dX5_takesColon_22 : decode cX5_takesColon 22 = .ok (.iconst 0, 1) := by decide +kernel
theorem dX5_takesColon_23 : decode cX5_takesColon 23 = .ok (.putfield 57, 3) := by decide +kernel
theorem dX5_takesColon_26 : decode cX5_takesColon 26 = .ok (.iconst 1, 1) := by decide +kernel
theorem dX5_takesColon_27 : decode cX5_takesColon 27 = .ok (.ireturn, 1) := by decide +kernel
theorem dX5_takesMarkOfParts_0 : decode cX5_takesMarkOfParts 0 = .ok (.aload_n 0, 1) := by decide +kernel
theorem dX5_takesMarkOfParts_1 : decode cX5_takesMarkOfParts 1 = .ok (.invokevirtual 83, 3) := by decide +kernel
theorem dX5_takesMarkOfParts_4 : decode cX5_takesMarkOfParts 4 = .ok (.ifCond .eq 14, 3) := by decide +kernel
theorem dX5_takesMarkOfParts_7 : decode cX5_takesMarkOfParts 7 = .ok (.aload_n 0, 1) := by decide +kernel
theorem dX5_takesMarkOfParts_8 : decode cX5_takesMarkOfParts 8 = .ok (.getfield 18, 3) := by decide +kernel
theorem dX5_takesMarkOfParts_11 : decode cX5_takesMarkOfParts 11 = .ok (.getfield 86, 3) := by decide +kernel
theorem dX5_takesMarkOfParts_14 : decode cX5_takesMarkOfParts 14 = .ok (.iconst 4, 1) := by decide +kernel
theorem dX5_takesMarkOfParts_15 : decode cX5_takesMarkOfParts 15 = .ok (.if_icmp .lt 5, 3) := by decide +kernel
theorem dX5_takesMarkOfParts_18 : decode cX5_takesMarkOfParts 18 = .ok (.iconst 0, 1) := by decide +kernel
theorem dX5_takesMarkOfParts_19 : decode cX5_takesMarkOfParts 19 = .ok (.ireturn, 1) := by decide +kernel
theorem dX5_takesMarkOfParts_20 : decode cX5_takesMarkOfParts 20 = .ok (.aload_n 0, 1) := by decide +kernel
theorem dX5_takesMarkOfParts_21 : decode cX5_takesMarkOfParts 21 = .ok (.getfield 18, 3) := by decide +kernel
theorem dX5_takesMarkOfParts_24 : decode cX5_takesMarkOfParts 24 = .ok (.iload_n 1, 1) := by decide +kernel
theorem dX5_takesMarkOfParts_25 : decode cX5_takesMarkOfParts 25 = .ok (.invokevirtual 49, 3) := by decide +kernel
theorem dX5_takesMarkOfParts_28 : decode cX5_takesMarkOfParts 28 = .ok (.aload_n 0, 1) := by decide +kernel
theorem dX5_takesMarkOfParts_29 : decode cX5_takesMarkOfParts 29 = .ok (.dup, 1) := by decide +kernel
theorem dX5_takesMarkOfParts_30 : decode cX5_takesMarkOfParts 30 = .ok (.getfield 57, 3) := by decide +kernel
theorem dX5_takesMarkOfParts_33 : decode cX5_takesMarkOfParts 33 = .ok (.iconst 1, 1) := by decide +kernel
theorem dX5_takesMarkOfParts_34 : decode cX5_takesMarkOfParts 34 = .ok (.iadd, 1) := by decide +kernel
theorem dX5_takesMarkOfParts_35 : decode cX5_takesMarkOfParts 35 = .ok (.putfield 57, 3) := by decide +kernel
theorem dX5_takesMarkOfParts_38 : decode cX5_takesMarkOfParts 38 = .ok (.iconst 1, 1) := by decide +kernel
theorem dX5_takesMarkOfParts_39 : decode cX5_takesMarkOfParts 39 = .ok (.ireturn, 1) := by decide +kernel
theorem dX5_takesMarkOfGlosses_0 : decode cX5_takesMarkOfGlosses 0 = .ok (.aload_n 0, 1) := by decide +kernel
theorem dX5_takesMarkOfGlosses_1 : decode cX5_takesMarkOfGlosses 1 = .ok (.getfield 57, 3) := by decide +kernel
theorem dX5_takesMarkOfGlosses_4 : decode cX5_takesMarkOfGlosses 4 = .ok (.iconst 1, 1) := by decide +kernel
theorem dX5_takesMarkOfGlosses_5 : decode cX5_takesMarkOfGlosses 5 = .ok (.iadd, 1) := by decide +kernel
theorem dX5_takesMarkOfGlosses_6 : decode cX5_takesMarkOfGlosses 6 = .ok (.aload_n 0, 1) := by decide +kernel
theorem dX5_takesMarkOfGlosses_7 : decode cX5_takesMarkOfGlosses 7 = .ok (.getfield 18, 3) := by decide +kernel
theorem dX5_takesMarkOfGlosses_10 : decode cX5_takesMarkOfGlosses 10 = .ok (.getfield 86, 3) := by decide +kernel
theorem dX5_takesMarkOfGlosses_13 : decode cX5_takesMarkOfGlosses 13 = .ok (.if_icmp .ge 21, 3) := by decide +kernel
theorem dX5_takesMarkOfGlosses_16 : decode cX5_takesMarkOfGlosses 16 = .ok (.aload_n 0, 1) := by decide +kernel
theorem dX5_takesMarkOfGlosses_17 : decode cX5_takesMarkOfGlosses 17 = .ok (.getfield 18, 3) := by decide +kernel
theorem dX5_takesMarkOfGlosses_20 : decode cX5_takesMarkOfGlosses 20 = .ok (.getfield 89, 3) := by decide +kernel
theorem dX5_takesMarkOfGlosses_23 : decode cX5_takesMarkOfGlosses 23 = .ok (.aload_n 0, 1) := by decide +kernel
theorem dX5_takesMarkOfGlosses_24 : decode cX5_takesMarkOfGlosses 24 = .ok (.getfield 57, 3) := by decide +kernel
theorem dX5_takesMarkOfGlosses_27 : decode cX5_takesMarkOfGlosses 27 = .ok (.iconst 1, 1) := by decide +kernel
theorem dX5_takesMarkOfGlosses_28 : decode cX5_takesMarkOfGlosses 28 = .ok (.iadd, 1) := by decide +kernel
theorem dX5_takesMarkOfGlosses_29 : decode cX5_takesMarkOfGlosses 29 = .ok (.iaload, 1) := by decide +kernel
theorem dX5_takesMarkOfGlosses_30 : decode cX5_takesMarkOfGlosses 30 = .ok (.iload_n 1, 1) := by decide +kernel
theorem dX5_takesMarkOfGlosses_31 : decode cX5_takesMarkOfGlosses 31 = .ok (.if_icmp .eq 5, 3) := by decide +kernel
theorem dX5_takesMarkOfGlosses_34 : decode cX5_takesMarkOfGlosses 34 = .ok (.iconst 0, 1) := by decide +kernel
theorem dX5_takesMarkOfGlosses_35 : decode cX5_takesMarkOfGlosses 35 = .ok (.ireturn, 1) := by decide +kernel
theorem dX5_takesMarkOfGlosses_36 : decode cX5_takesMarkOfGlosses 36 = .ok (.aload_n 0, 1) := by decide +kernel
theorem dX5_takesMarkOfGlosses_37 : decode cX5_takesMarkOfGlosses 37 = .ok (.dup, 1) := by decide +kernel
theorem dX5_takesMarkOfGlosses_38 : decode cX5_takesMarkOfGlosses 38 = .ok (.getfield 57, 3) := by decide +kernel
theorem dX5_takesMarkOfGlosses_41 : decode cX5_takesMarkOfGlosses 41 = .ok (.iconst 1, 1) := by decide +kernel
theorem dX5_takesMarkOfGlosses_42 : decode cX5_takesMarkOfGlosses 42 = .ok (.iadd, 1) := by decide +kernel
theorem dX5_takesMarkOfGlosses_43 : decode cX5_takesMarkOfGlosses 43 = .ok (.putfield 57, 3) := by decide +kernel
theorem dX5_takesMarkOfGlosses_46 : decode cX5_takesMarkOfGlosses 46 = .ok (.iconst 1, 1) := by decide +kernel
theorem dX5_takesMarkOfGlosses_47 : decode cX5_takesMarkOfGlosses 47 = .ok (.ireturn, 1) := by decide +kernel
theorem dX5_takesLetter_0 : decode cX5_takesLetter 0 = .ok (.iload_n 1, 1) := by decide +kernel
theorem dX5_takesLetter_1 : decode cX5_takesLetter 1 = .ok (.invokestatic 92, 3) := by decide +kernel
theorem dX5_takesLetter_4 : decode cX5_takesLetter 4 = .ok (.ifCond .eq 23, 3) := by decide +kernel
theorem dX5_takesLetter_7 : decode cX5_takesLetter 7 = .ok (.aload_n 0, 1) := by decide +kernel
theorem dX5_takesLetter_8 : decode cX5_takesLetter 8 = .ok (.getfield 18, 3) := by decide +kernel
theorem dX5_takesLetter_11 : decode cX5_takesLetter 11 = .ok (.getfield 95, 3) := by decide +kernel
theorem dX5_takesLetter_14 : decode cX5_takesLetter 14 = .ok (.aload_n 0, 1) := by decide +kernel
theorem dX5_takesLetter_15 : decode cX5_takesLetter 15 = .ok (.getfield 57, 3) := by decide +kernel
theorem dX5_takesLetter_18 : decode cX5_takesLetter 18 = .ok (.laload, 1) := by decide +kernel
theorem dX5_takesLetter_19 : decode cX5_takesLetter 19 = .ok (.invokestatic 99, 3) := by decide +kernel
theorem dX5_takesLetter_22 : decode cX5_takesLetter 22 = .ok (.bipush 8, 2) := by decide +kernel
theorem dX5_takesLetter_24 : decode cX5_takesLetter 24 = .ok (.if_icmp .lt 5, 3) := by decide +kernel
theorem dX5_takesLetter_27 : decode cX5_takesLetter 27 = .ok (.iconst 0, 1) := by decide +kernel
theorem dX5_takesLetter_28 : decode cX5_takesLetter 28 = .ok (.ireturn, 1) := by decide +kernel
theorem dX5_takesLetter_29 : decode cX5_takesLetter 29 = .ok (.aload_n 0, 1) := by decide +kernel
theorem dX5_takesLetter_30 : decode cX5_takesLetter 30 = .ok (.getfield 18, 3) := by decide +kernel
theorem dX5_takesLetter_33 : decode cX5_takesLetter 33 = .ok (.getfield 95, 3) := by decide +kernel
theorem dX5_takesLetter_36 : decode cX5_takesLetter 36 = .ok (.aload_n 0, 1) := by decide +kernel
theorem dX5_takesLetter_37 : decode cX5_takesLetter 37 = .ok (.getfield 57, 3) := by decide +kernel
theorem dX5_takesLetter_40 : decode cX5_takesLetter 40 = .ok (.aload_n 0, 1) := by decide +kernel
theorem dX5_takesLetter_41 : decode cX5_takesLetter 41 = .ok (.getfield 18, 3) := by decide +kernel
theorem dX5_takesLetter_44 : decode cX5_takesLetter 44 = .ok (.getfield 95, 3) := by decide +kernel
theorem dX5_takesLetter_47 : decode cX5_takesLetter 47 = .ok (.aload_n 0, 1) := by decide +kernel
theorem dX5_takesLetter_48 : decode cX5_takesLetter 48 = .ok (.getfield 57, 3) := by decide +kernel
theorem dX5_takesLetter_51 : decode cX5_takesLetter 51 = .ok (.laload, 1) := by decide +kernel
theorem dX5_takesLetter_52 : decode cX5_takesLetter 52 = .ok (.iload_n 1, 1) := by decide +kernel
theorem dX5_takesLetter_53 : decode cX5_takesLetter 53 = .ok (.invokestatic 102, 3) := by decide +kernel
theorem dX5_takesLetter_56 : decode cX5_takesLetter 56 = .ok (.lastore, 1) := by decide +kernel
theorem dX5_takesLetter_57 : decode cX5_takesLetter 57 = .ok (.iconst 1, 1) := by decide +kernel
theorem dX5_takesLetter_58 : decode cX5_takesLetter 58 = .ok (.ireturn, 1) := by decide +kernel
theorem dX5_takesGlossLetter_0 : decode cX5_takesGlossLetter 0 = .ok (.iload_n 1, 1) := by decide +kernel
theorem dX5_takesGlossLetter_1 : decode cX5_takesGlossLetter 1 = .ok (.invokestatic 106, 3) := by decide +kernel
theorem dX5_takesGlossLetter_4 : decode cX5_takesGlossLetter 4 = .ok (.ifCond .eq 23, 3) := by decide +kernel
theorem dX5_takesGlossLetter_7 : decode cX5_takesGlossLetter 7 = .ok (.aload_n 0, 1) := by decide +kernel
theorem dX5_takesGlossLetter_8 : decode cX5_takesGlossLetter 8 = .ok (.getfield 18, 3) := by decide +kernel
theorem dX5_takesGlossLetter_11 : decode cX5_takesGlossLetter 11 = .ok (.getfield 109, 3) := by decide +kernel
theorem dX5_takesGlossLetter_14 : decode cX5_takesGlossLetter 14 = .ok (.aload_n 0, 1) := by decide +kernel
theorem dX5_takesGlossLetter_15 : decode cX5_takesGlossLetter 15 = .ok (.getfield 57, 3) := by decide +kernel
theorem dX5_takesGlossLetter_18 : decode cX5_takesGlossLetter 18 = .ok (.laload, 1) := by decide +kernel
theorem dX5_takesGlossLetter_19 : decode cX5_takesGlossLetter 19 = .ok (.invokestatic 99, 3) := by decide +kernel
theorem dX5_takesGlossLetter_22 : decode cX5_takesGlossLetter 22 = .ok (.bipush 8, 2) := by decide +kernel
theorem dX5_takesGlossLetter_24 : decode cX5_takesGlossLetter 24 = .ok (.if_icmp .lt 5, 3) := by decide +kernel
theorem dX5_takesGlossLetter_27 : decode cX5_takesGlossLetter 27 = .ok (.iconst 0, 1) := by decide +kernel
theorem dX5_takesGlossLetter_28 : decode cX5_takesGlossLetter 28 = .ok (.ireturn, 1) := by decide +kernel
theorem dX5_takesGlossLetter_29 : decode cX5_takesGlossLetter 29 = .ok (.aload_n 0, 1) := by decide +kernel
theorem dX5_takesGlossLetter_30 : decode cX5_takesGlossLetter 30 = .ok (.getfield 18, 3) := by decide +kernel
theorem dX5_takesGlossLetter_33 : decode cX5_takesGlossLetter 33 = .ok (.getfield 109, 3) := by decide +kernel
theorem dX5_takesGlossLetter_36 : decode cX5_takesGlossLetter 36 = .ok (.aload_n 0, 1) := by decide +kernel
theorem dX5_takesGlossLetter_37 : decode cX5_takesGlossLetter 37 = .ok (.getfield 57, 3) := by decide +kernel
theorem dX5_takesGlossLetter_40 : decode cX5_takesGlossLetter 40 = .ok (.aload_n 0, 1) := by decide +kernel
theorem dX5_takesGlossLetter_41 : decode cX5_takesGlossLetter 41 = .ok (.getfield 18, 3) := by decide +kernel
theorem dX5_takesGlossLetter_44 : decode cX5_takesGlossLetter 44 = .ok (.getfield 109, 3) := by decide +kernel
theorem dX5_takesGlossLetter_47 : decode cX5_takesGlossLetter 47 = .ok (.aload_n 0, 1) := by decide +kernel
theorem dX5_takesGlossLetter_48 : decode cX5_takesGlossLetter 48 = .ok (.getfield 57, 3) := by decide +kernel
theorem dX5_takesGlossLetter_51 : decode cX5_takesGlossLetter 51 = .ok (.laload, 1) := by decide +kernel
theorem dX5_takesGlossLetter_52 : decode cX5_takesGlossLetter 52 = .ok (.iload_n 1, 1) := by decide +kernel
theorem dX5_takesGlossLetter_53 : decode cX5_takesGlossLetter 53 = .ok (.invokestatic 102, 3) := by decide +kernel
theorem dX5_takesGlossLetter_56 : decode cX5_takesGlossLetter 56 = .ok (.lastore, 1) := by decide +kernel
theorem dX5_takesGlossLetter_57 : decode cX5_takesGlossLetter 57 = .ok (.iconst 1, 1) := by decide +kernel
theorem dX5_takesGlossLetter_58 : decode cX5_takesGlossLetter 58 = .ok (.ireturn, 1) := by decide +kernel
theorem dX5_isWordWhole_0 : decode cX5_isWordWhole 0 = .ok (.aload_n 0, 1) := by decide +kernel
theorem dX5_isWordWhole_1 : decode cX5_isWordWhole 1 = .ok (.getfield 53, 3) := by decide +kernel
theorem dX5_isWordWhole_4 : decode cX5_isWordWhole 4 = .ok (.ifCond .eq 27, 3) := by decide +kernel
theorem dX5_isWordWhole_7 : decode cX5_isWordWhole 7 = .ok (.aload_n 0, 1) := by decide +kernel
theorem dX5_isWordWhole_8 : decode cX5_isWordWhole 8 = .ok (.getfield 57, 3) := by decide +kernel
theorem dX5_isWordWhole_11 : decode cX5_isWordWhole 11 = .ok (.aload_n 0, 1) := by decide +kernel
theorem dX5_isWordWhole_12 : decode cX5_isWordWhole 12 = .ok (.getfield 18, 3) := by decide +kernel
theorem dX5_isWordWhole_15 : decode cX5_isWordWhole 15 = .ok (.getfield 86, 3) := by decide +kernel
theorem dX5_isWordWhole_18 : decode cX5_isWordWhole 18 = .ok (.iconst 1, 1) := by decide +kernel
theorem dX5_isWordWhole_19 : decode cX5_isWordWhole 19 = .ok (.isub, 1) := by decide +kernel
theorem dX5_isWordWhole_20 : decode cX5_isWordWhole 20 = .ok (.if_icmp .ne 7, 3) := by decide +kernel
theorem dX5_isWordWhole_23 : decode cX5_isWordWhole 23 = .ok (.iconst 1, 1) := by decide +kernel
theorem dX5_isWordWhole_24 : decode cX5_isWordWhole 24 = .ok (.goto 11, 3) := by decide +kernel
theorem dX5_isWordWhole_27 : decode cX5_isWordWhole 27 = .ok (.iconst 0, 1) := by decide +kernel
theorem dX5_isWordWhole_28 : decode cX5_isWordWhole 28 = .ok (.goto 7, 3) := by decide +kernel
theorem dX5_isWordWhole_31 : decode cX5_isWordWhole 31 = .ok (.aload_n 0, 1) := by decide +kernel
theorem dX5_isWordWhole_32 : decode cX5_isWordWhole 32 = .ok (.invokevirtual 83, 3) := by decide +kernel
theorem dX5_isWordWhole_35 : decode cX5_isWordWhole 35 = .ok (.ireturn, 1) := by decide +kernel
theorem dX5_hasPartLetters_0 : decode cX5_hasPartLetters 0 = .ok (.aload_n 0, 1) := by decide +kernel
theorem dX5_hasPartLetters_1 : decode cX5_hasPartLetters 1 = .ok (.getfield 18, 3) := by decide +kernel
theorem dX5_hasPartLetters_4 : decode cX5_hasPartLetters 4 = .ok (.getfield 95, 3) := by decide +kernel
theorem dX5_hasPartLetters_7 : decode cX5_hasPartLetters 7 = .ok (.aload_n 0, 1) := by decide +kernel
theorem dX5_hasPartLetters_8 : decode cX5_hasPartLetters 8 = .ok (.getfield 57, 3) := by decide +kernel
theorem dX5_hasPartLetters_11 : decode cX5_hasPartLetters 11 = .ok (.laload, 1) := by decide +kernel
theorem dX5_hasPartLetters_12 : decode cX5_hasPartLetters 12 = .ok (.invokestatic 99, 3) := by decide +kernel
theorem dX5_hasPartLetters_15 : decode cX5_hasPartLetters 15 = .ok (.ifCond .le 7, 3) := by decide +kernel
theorem dX5_hasPartLetters_18 : decode cX5_hasPartLetters 18 = .ok (.iconst 1, 1) := by decide +kernel
theorem dX5_hasPartLetters_19 : decode cX5_hasPartLetters 19 = .ok (.goto 4, 3) := by decide +kernel
theorem dX5_hasPartLetters_22 : decode cX5_hasPartLetters 22 = .ok (.iconst 0, 1) := by decide +kernel
theorem dX5_hasPartLetters_23 : decode cX5_hasPartLetters 23 = .ok (.ireturn, 1) := by decide +kernel
theorem dX6_init_0 : decode cX6_init 0 = .ok (.aload_n 0, 1) := by decide +kernel
theorem dX6_init_1 : decode cX6_init 1 = .ok (.invokespecial 3, 3) := by decide +kernel
theorem dX6_init_4 : decode cX6_init 4 = .ok (.aload_n 0, 1) := by decide +kernel
theorem dX6_init_5 : decode cX6_init 5 = .ok (.bipush 60, 2) := by decide +kernel
theorem dX6_init_7 : decode cX6_init 7 = .ok (.newarray .int, 2) := by decide +kernel
theorem dX6_init_9 : decode cX6_init 9 = .ok (.putfield 9, 3) := by decide +kernel
theorem dX6_init_12 : decode cX6_init 12 = .ok (.return_, 1) := by decide +kernel
theorem dX6_add_0 : decode cX6_add 0 = .ok (.aload_n 0, 1) := by decide +kernel
theorem dX6_add_1 : decode cX6_add 1 = .ok (.getfield 15, 3) := by decide +kernel
theorem dX6_add_4 : decode cX6_add 4 = .ok (.bipush 60, 2) := by decide +kernel
theorem dX6_add_6 : decode cX6_add 6 = .ok (.if_icmp .ge 23, 3) := by decide +kernel
theorem dX6_add_9 : decode cX6_add 9 = .ok (.aload_n 0, 1) := by decide +kernel
theorem dX6_add_10 : decode cX6_add 10 = .ok (.getfield 9, 3) := by decide +kernel
theorem dX6_add_13 : decode cX6_add 13 = .ok (.aload_n 0, 1) := by decide +kernel
theorem dX6_add_14 : decode cX6_add 14 = .ok (.getfield 15, 3) := by decide +kernel
theorem dX6_add_17 : decode cX6_add 17 = .ok (.iload_n 1, 1) := by decide +kernel
theorem dX6_add_18 : decode cX6_add 18 = .ok (.iastore, 1) := by decide +kernel
theorem dX6_add_19 : decode cX6_add 19 = .ok (.aload_n 0, 1) := by decide +kernel
theorem dX6_add_20 : decode cX6_add 20 = .ok (.dup, 1) := by decide +kernel
theorem dX6_add_21 : decode cX6_add 21 = .ok (.getfield 15, 3) := by decide +kernel
theorem dX6_add_24 : decode cX6_add 24 = .ok (.iconst 1, 1) := by decide +kernel
theorem dX6_add_25 : decode cX6_add 25 = .ok (.iadd, 1) := by decide +kernel
theorem dX6_add_26 : decode cX6_add 26 = .ok (.putfield 15, 3) := by decide +kernel
theorem dX6_add_29 : decode cX6_add 29 = .ok (.return_, 1) := by decide +kernel
theorem dX6_isFreeLine_0 : decode cX6_isFreeLine 0 = .ok (.iconst 0, 1) := by decide +kernel
theorem dX6_isFreeLine_1 : decode cX6_isFreeLine 1 = .ok (.istore_n 1, 1) := by decide +kernel
theorem dX6_isFreeLine_2 : decode cX6_isFreeLine 2 = .ok (.iload_n 1, 1) := by decide +kernel
theorem dX6_isFreeLine_3 : decode cX6_isFreeLine 3 = .ok (.aload_n 0, 1) := by decide +kernel
theorem dX6_isFreeLine_4 : decode cX6_isFreeLine 4 = .ok (.getfield 15, 3) := by decide +kernel
theorem dX6_isFreeLine_7 : decode cX6_isFreeLine 7 = .ok (.if_icmp .ge 33, 3) := by decide +kernel
theorem dX6_isFreeLine_10 : decode cX6_isFreeLine 10 = .ok (.aload_n 0, 1) := by decide +kernel
theorem dX6_isFreeLine_11 : decode cX6_isFreeLine 11 = .ok (.getfield 9, 3) := by decide +kernel
theorem dX6_isFreeLine_14 : decode cX6_isFreeLine 14 = .ok (.iload_n 1, 1) := by decide +kernel
theorem dX6_isFreeLine_15 : decode cX6_isFreeLine 15 = .ok (.iaload, 1) := by decide +kernel
theorem dX6_isFreeLine_16 : decode cX6_isFreeLine 16 = .ok (.bipush 32, 2) := by decide +kernel
theorem dX6_isFreeLine_18 : decode cX6_isFreeLine 18 = .ok (.if_icmp .lt 14, 3) := by decide +kernel
theorem dX6_isFreeLine_21 : decode cX6_isFreeLine 21 = .ok (.aload_n 0, 1) := by decide +kernel
theorem dX6_isFreeLine_22 : decode cX6_isFreeLine 22 = .ok (.getfield 9, 3) := by decide +kernel
theorem dX6_isFreeLine_25 : decode cX6_isFreeLine 25 = .ok (.iload_n 1, 1) := by decide +kernel
theorem dX6_isFreeLine_26 : decode cX6_isFreeLine 26 = .ok (.iaload, 1) := by decide +kernel
theorem dX6_isFreeLine_27 : decode cX6_isFreeLine 27 = .ok (.bipush 126, 2) := by decide +kernel
theorem dX6_isFreeLine_29 : decode cX6_isFreeLine 29 = .ok (.if_icmp .le 5, 3) := by decide +kernel
theorem dX6_isFreeLine_32 : decode cX6_isFreeLine 32 = .ok (.iconst 0, 1) := by decide +kernel
theorem dX6_isFreeLine_33 : decode cX6_isFreeLine 33 = .ok (.ireturn, 1) := by decide +kernel
theorem dX6_isFreeLine_34 : decode cX6_isFreeLine 34 = .ok (.iinc 1 1, 3) := by decide +kernel
theorem dX6_isFreeLine_37 : decode cX6_isFreeLine 37 = .ok (.goto (-35), 3) := by decide +kernel
theorem dX6_isFreeLine_40 : decode cX6_isFreeLine 40 = .ok (.aload_n 0, 1) := by decide +kernel
theorem dX6_isFreeLine_41 : decode cX6_isFreeLine 41 = .ok (.getfield 15, 3) := by decide +kernel
theorem dX6_isFreeLine_44 : decode cX6_isFreeLine 44 = .ok (.bipush 24, 2) := by decide +kernel
theorem dX6_isFreeLine_46 : decode cX6_isFreeLine 46 = .ok (.if_icmp .gt 7, 3) := by decide +kernel
theorem dX6_isFreeLine_49 : decode cX6_isFreeLine 49 = .ok (.iconst 1, 1) := by decide +kernel
theorem dX6_isFreeLine_50 : decode cX6_isFreeLine 50 = .ok (.goto 4, 3) := by decide +kernel
theorem dX6_isFreeLine_53 : decode cX6_isFreeLine 53 = .ok (.iconst 0, 1) := by decide +kernel
theorem dX6_isFreeLine_54 : decode cX6_isFreeLine 54 = .ok (.ireturn, 1) := by decide +kernel
theorem dX6_isGloss_0 : decode cX6_isGloss 0 = .ok (.iconst 0, 1) := by decide +kernel
theorem dX6_isGloss_1 : decode cX6_isGloss 1 = .ok (.istore_n 1, 1) := by decide +kernel
theorem dX6_isGloss_2 : decode cX6_isGloss 2 = .ok (.iload_n 1, 1) := by decide +kernel
theorem dX6_isGloss_3 : decode cX6_isGloss 3 = .ok (.aload_n 0, 1) := by decide +kernel
theorem dX6_isGloss_4 : decode cX6_isGloss 4 = .ok (.getfield 15, 3) := by decide +kernel
theorem dX6_isGloss_7 : decode cX6_isGloss 7 = .ok (.if_icmp .ge 23, 3) := by decide +kernel
theorem dX6_isGloss_10 : decode cX6_isGloss 10 = .ok (.aload_n 0, 1) := by decide +kernel
theorem dX6_isGloss_11 : decode cX6_isGloss 11 = .ok (.getfield 9, 3) := by decide +kernel
theorem dX6_isGloss_14 : decode cX6_isGloss 14 = .ok (.iload_n 1, 1) := by decide +kernel
theorem dX6_isGloss_15 : decode cX6_isGloss 15 = .ok (.iaload, 1) := by decide +kernel
theorem dX6_isGloss_16 : decode cX6_isGloss 16 = .ok (.invokestatic 19, 3) := by decide +kernel
theorem dX6_isGloss_19 : decode cX6_isGloss 19 = .ok (.ifCond .ne 5, 3) := by decide +kernel
theorem dX6_isGloss_22 : decode cX6_isGloss 22 = .ok (.iconst 0, 1) := by decide +kernel
theorem dX6_isGloss_23 : decode cX6_isGloss 23 = .ok (.ireturn, 1) := by decide +kernel
theorem dX6_isGloss_24 : decode cX6_isGloss 24 = .ok (.iinc 1 1, 3) := by decide +kernel
theorem dX6_isGloss_27 : decode cX6_isGloss 27 = .ok (.goto (-25), 3) := by decide +kernel
theorem dX6_isGloss_30 : decode cX6_isGloss 30 = .ok (.aload_n 0, 1) := by decide +kernel
theorem dX6_isGloss_31 : decode cX6_isGloss 31 = .ok (.getfield 15, 3) := by decide +kernel
theorem dX6_isGloss_34 : decode cX6_isGloss 34 = .ok (.bipush 8, 2) := by decide +kernel
theorem dX6_isGloss_36 : decode cX6_isGloss 36 = .ok (.if_icmp .gt 7, 3) := by decide +kernel
theorem dX6_isGloss_39 : decode cX6_isGloss 39 = .ok (.iconst 1, 1) := by decide +kernel
theorem dX6_isGloss_40 : decode cX6_isGloss 40 = .ok (.goto 4, 3) := by decide +kernel
theorem dX6_isGloss_43 : decode cX6_isGloss 43 = .ok (.iconst 0, 1) := by decide +kernel
theorem dX6_isGloss_44 : decode cX6_isGloss 44 = .ok (.ireturn, 1) := by decide +kernel
theorem dX6_letters_0 : decode cX6_letters 0 = .ok (.lconst 0, 1) := by decide +kernel
theorem dX6_letters_1 : decode cX6_letters 1 = .ok (.lstore_n 1, 1) := by decide +kernel
theorem dX6_letters_2 : decode cX6_letters 2 = .ok (.iconst 0, 1) := by decide +kernel
theorem dX6_letters_3 : decode cX6_letters 3 = .ok (.istore_n 3, 1) := by decide +kernel
theorem dX6_letters_4 : decode cX6_letters 4 = .ok (.iload_n 3, 1) := by decide +kernel
theorem dX6_letters_5 : decode cX6_letters 5 = .ok (.aload_n 0, 1) := by decide +kernel
theorem dX6_letters_6 : decode cX6_letters 6 = .ok (.getfield 15, 3) := by decide +kernel
theorem dX6_letters_9 : decode cX6_letters 9 = .ok (.if_icmp .ge 20, 3) := by decide +kernel
theorem dX6_letters_12 : decode cX6_letters 12 = .ok (.lload_n 1, 1) := by decide +kernel
theorem dX6_letters_13 : decode cX6_letters 13 = .ok (.aload_n 0, 1) := by decide +kernel
theorem dX6_letters_14 : decode cX6_letters 14 = .ok (.getfield 9, 3) := by decide +kernel
theorem dX6_letters_17 : decode cX6_letters 17 = .ok (.iload_n 3, 1) := by decide +kernel
theorem dX6_letters_18 : decode cX6_letters 18 = .ok (.iaload, 1) := by decide +kernel
theorem dX6_letters_19 : decode cX6_letters 19 = .ok (.invokestatic 25, 3) := by decide +kernel
theorem dX6_letters_22 : decode cX6_letters 22 = .ok (.lstore_n 1, 1) := by decide +kernel
theorem dX6_letters_23 : decode cX6_letters 23 = .ok (.iinc 3 1, 3) := by decide +kernel
theorem dX6_letters_26 : decode cX6_letters 26 = .ok (.goto (-22), 3) := by decide +kernel
theorem dX6_letters_29 : decode cX6_letters 29 = .ok (.lload_n 1, 1) := by decide +kernel
theorem dX6_letters_30 : decode cX6_letters 30 = .ok (.lreturn, 1) := by decide +kernel
theorem dX7_init_0 : decode cX7_init 0 = .ok (.aload_n 0, 1) := by decide +kernel
theorem dX7_init_1 : decode cX7_init 1 = .ok (.invokespecial 3, 3) := by decide +kernel
theorem dX7_init_4 : decode cX7_init 4 = .ok (.aload_n 0, 1) := by decide +kernel
theorem dX7_init_5 : decode cX7_init 5 = .ok (.iconst 4, 1) := by decide +kernel
theorem dX7_init_6 : decode cX7_init 6 = .ok (.newarray .long, 2) := by decide +kernel
theorem dX7_init_8 : decode cX7_init 8 = .ok (.putfield 9, 3) := by decide +kernel
theorem dX7_init_11 : decode cX7_init 11 = .ok (.aload_n 0, 1) := by decide +kernel
theorem dX7_init_12 : decode cX7_init 12 = .ok (.iconst 4, 1) := by decide +kernel
theorem dX7_init_13 : decode cX7_init 13 = .ok (.newarray .long, 2) := by decide +kernel
theorem dX7_init_15 : decode cX7_init 15 = .ok (.putfield 15, 3) := by decide +kernel
theorem dX7_init_18 : decode cX7_init 18 = .ok (.aload_n 0, 1) := by decide +kernel
theorem dX7_init_19 : decode cX7_init 19 = .ok (.iconst 4, 1) := by decide +kernel
theorem dX7_init_20 : decode cX7_init 20 = .ok (.newarray .int, 2) := by decide +kernel
theorem dX7_init_22 : decode cX7_init 22 = .ok (.putfield 18, 3) := by decide +kernel
theorem dX7_init_25 : decode cX7_init 25 = .ok (.aload_n 0, 1) := by decide +kernel
theorem dX7_init_26 : decode cX7_init 26 = .ok (.bipush 24, 2) := by decide +kernel
theorem dX7_init_28 : decode cX7_init 28 = .ok (.newarray .int, 2) := by decide +kernel
theorem dX7_init_30 : decode cX7_init 30 = .ok (.putfield 22, 3) := by decide +kernel
theorem dX7_init_33 : decode cX7_init 33 = .ok (.return_, 1) := by decide +kernel
theorem dX7_reset_0 : decode cX7_reset 0 = .ok (.aload_n 0, 1) := by decide +kernel
theorem dX7_reset_1 : decode cX7_reset 1 = .ok (.iconst 0, 1) := by decide +kernel
theorem dX7_reset_2 : decode cX7_reset 2 = .ok (.putfield 25, 3) := by decide +kernel
theorem dX7_reset_5 : decode cX7_reset 5 = .ok (.aload_n 0, 1) := by decide +kernel
theorem dX7_reset_6 : decode cX7_reset 6 = .ok (.iconst 0, 1) := by decide +kernel
theorem dX7_reset_7 : decode cX7_reset 7 = .ok (.putfield 29, 3) := by decide +kernel
theorem dX7_reset_10 : decode cX7_reset 10 = .ok (.aload_n 0, 1) := by decide +kernel
theorem dX7_reset_11 : decode cX7_reset 11 = .ok (.iconst 0, 1) := by decide +kernel
theorem dX7_reset_12 : decode cX7_reset 12 = .ok (.putfield 32, 3) := by decide +kernel
theorem dX7_reset_15 : decode cX7_reset 15 = .ok (.return_, 1) := by decide +kernel
theorem dX7_copyFrom_0 : decode cX7_copyFrom 0 = .ok (.aload_n 0, 1) := by decide +kernel
theorem dX7_copyFrom_1 : decode cX7_copyFrom 1 = .ok (.aload_n 1, 1) := by decide +kernel
theorem dX7_copyFrom_2 : decode cX7_copyFrom 2 = .ok (.getfield 25, 3) := by decide +kernel
theorem dX7_copyFrom_5 : decode cX7_copyFrom 5 = .ok (.putfield 25, 3) := by decide +kernel
theorem dX7_copyFrom_8 : decode cX7_copyFrom 8 = .ok (.aload_n 0, 1) := by decide +kernel
theorem dX7_copyFrom_9 : decode cX7_copyFrom 9 = .ok (.aload_n 1, 1) := by decide +kernel
theorem dX7_copyFrom_10 : decode cX7_copyFrom 10 = .ok (.getfield 29, 3) := by decide +kernel
theorem dX7_copyFrom_13 : decode cX7_copyFrom 13 = .ok (.putfield 29, 3) := by decide +kernel
theorem dX7_copyFrom_16 : decode cX7_copyFrom 16 = .ok (.aload_n 0, 1) := by decide +kernel
theorem dX7_copyFrom_17 : decode cX7_copyFrom 17 = .ok (.aload_n 1, 1) := by decide +kernel
theorem dX7_copyFrom_18 : decode cX7_copyFrom 18 = .ok (.getfield 32, 3) := by decide +kernel
theorem dX7_copyFrom_21 : decode cX7_copyFrom 21 = .ok (.putfield 32, 3) := by decide +kernel
theorem dX7_copyFrom_24 : decode cX7_copyFrom 24 = .ok (.iconst 0, 1) := by decide +kernel
theorem dX7_copyFrom_25 : decode cX7_copyFrom 25 = .ok (.istore_n 2, 1) := by decide +kernel
theorem dX7_copyFrom_26 : decode cX7_copyFrom 26 = .ok (.iload_n 2, 1) := by decide +kernel
theorem dX7_copyFrom_27 : decode cX7_copyFrom 27 = .ok (.aload_n 0, 1) := by decide +kernel
theorem dX7_copyFrom_28 : decode cX7_copyFrom 28 = .ok (.getfield 25, 3) := by decide +kernel
theorem dX7_copyFrom_31 : decode cX7_copyFrom 31 = .ok (.if_icmp .ge 45, 3) := by decide +kernel
theorem dX7_copyFrom_34 : decode cX7_copyFrom 34 = .ok (.aload_n 0, 1) := by decide +kernel
theorem dX7_copyFrom_35 : decode cX7_copyFrom 35 = .ok (.getfield 9, 3) := by decide +kernel
theorem dX7_copyFrom_38 : decode cX7_copyFrom 38 = .ok (.iload_n 2, 1) := by decide +kernel
theorem dX7_copyFrom_39 : decode cX7_copyFrom 39 = .ok (.aload_n 1, 1) := by decide +kernel
theorem dX7_copyFrom_40 : decode cX7_copyFrom 40 = .ok (.getfield 9, 3) := by decide +kernel
theorem dX7_copyFrom_43 : decode cX7_copyFrom 43 = .ok (.iload_n 2, 1) := by decide +kernel
theorem dX7_copyFrom_44 : decode cX7_copyFrom 44 = .ok (.laload, 1) := by decide +kernel
theorem dX7_copyFrom_45 : decode cX7_copyFrom 45 = .ok (.lastore, 1) := by decide +kernel
theorem dX7_copyFrom_46 : decode cX7_copyFrom 46 = .ok (.aload_n 0, 1) := by decide +kernel
theorem dX7_copyFrom_47 : decode cX7_copyFrom 47 = .ok (.getfield 15, 3) := by decide +kernel
theorem dX7_copyFrom_50 : decode cX7_copyFrom 50 = .ok (.iload_n 2, 1) := by decide +kernel
theorem dX7_copyFrom_51 : decode cX7_copyFrom 51 = .ok (.aload_n 1, 1) := by decide +kernel
theorem dX7_copyFrom_52 : decode cX7_copyFrom 52 = .ok (.getfield 15, 3) := by decide +kernel
theorem dX7_copyFrom_55 : decode cX7_copyFrom 55 = .ok (.iload_n 2, 1) := by decide +kernel
theorem dX7_copyFrom_56 : decode cX7_copyFrom 56 = .ok (.laload, 1) := by decide +kernel
theorem dX7_copyFrom_57 : decode cX7_copyFrom 57 = .ok (.lastore, 1) := by decide +kernel
theorem dX7_copyFrom_58 : decode cX7_copyFrom 58 = .ok (.aload_n 0, 1) := by decide +kernel
theorem dX7_copyFrom_59 : decode cX7_copyFrom 59 = .ok (.getfield 18, 3) := by decide +kernel
theorem dX7_copyFrom_62 : decode cX7_copyFrom 62 = .ok (.iload_n 2, 1) := by decide +kernel
theorem dX7_copyFrom_63 : decode cX7_copyFrom 63 = .ok (.aload_n 1, 1) := by decide +kernel
theorem dX7_copyFrom_64 : decode cX7_copyFrom 64 = .ok (.getfield 18, 3) := by decide +kernel
theorem dX7_copyFrom_67 : decode cX7_copyFrom 67 = .ok (.iload_n 2, 1) := by decide +kernel
theorem dX7_copyFrom_68 : decode cX7_copyFrom 68 = .ok (.iaload, 1) := by decide +kernel
theorem dX7_copyFrom_69 : decode cX7_copyFrom 69 = .ok (.iastore, 1) := by decide +kernel
theorem dX7_copyFrom_70 : decode cX7_copyFrom 70 = .ok (.iinc 2 1, 3) := by decide +kernel
theorem dX7_copyFrom_73 : decode cX7_copyFrom 73 = .ok (.goto (-47), 3) := by decide +kernel
theorem dX7_copyFrom_76 : decode cX7_copyFrom 76 = .ok (.iconst 0, 1) := by decide +kernel
theorem dX7_copyFrom_77 : decode cX7_copyFrom 77 = .ok (.istore_n 2, 1) := by decide +kernel
theorem dX7_copyFrom_78 : decode cX7_copyFrom 78 = .ok (.iload_n 2, 1) := by decide +kernel
theorem dX7_copyFrom_79 : decode cX7_copyFrom 79 = .ok (.aload_n 0, 1) := by decide +kernel
theorem dX7_copyFrom_80 : decode cX7_copyFrom 80 = .ok (.getfield 29, 3) := by decide +kernel
theorem dX7_copyFrom_83 : decode cX7_copyFrom 83 = .ok (.if_icmp .ge 21, 3) := by decide +kernel
theorem dX7_copyFrom_86 : decode cX7_copyFrom 86 = .ok (.aload_n 0, 1) := by decide +kernel
theorem dX7_copyFrom_87 : decode cX7_copyFrom 87 = .ok (.getfield 22, 3) := by decide +kernel
theorem dX7_copyFrom_90 : decode cX7_copyFrom 90 = .ok (.iload_n 2, 1) := by decide +kernel
theorem dX7_copyFrom_91 : decode cX7_copyFrom 91 = .ok (.aload_n 1, 1) := by decide +kernel
theorem dX7_copyFrom_92 : decode cX7_copyFrom 92 = .ok (.getfield 22, 3) := by decide +kernel
theorem dX7_copyFrom_95 : decode cX7_copyFrom 95 = .ok (.iload_n 2, 1) := by decide +kernel
theorem dX7_copyFrom_96 : decode cX7_copyFrom 96 = .ok (.iaload, 1) := by decide +kernel
theorem dX7_copyFrom_97 : decode cX7_copyFrom 97 = .ok (.iastore, 1) := by decide +kernel
theorem dX7_copyFrom_98 : decode cX7_copyFrom 98 = .ok (.iinc 2 1, 3) := by decide +kernel
theorem dX7_copyFrom_101 : decode cX7_copyFrom 101 = .ok (.goto (-23), 3) := by decide +kernel
theorem dX7_copyFrom_104 : decode cX7_copyFrom 104 = .ok (.return_, 1) := by decide +kernel
theorem dX7_openPart_0 : decode cX7_openPart 0 = .ok (.aload_n 0, 1) := by decide +kernel
theorem dX7_openPart_1 : decode cX7_openPart 1 = .ok (.getfield 25, 3) := by decide +kernel
theorem dX7_openPart_4 : decode cX7_openPart 4 = .ok (.iconst 4, 1) := by decide +kernel
theorem dX7_openPart_5 : decode cX7_openPart 5 = .ok (.if_icmp .ge 43, 3) := by decide +kernel
theorem dX7_openPart_8 : decode cX7_openPart 8 = .ok (.aload_n 0, 1) := by decide +kernel
theorem dX7_openPart_9 : decode cX7_openPart 9 = .ok (.getfield 9, 3) := by decide +kernel
theorem dX7_openPart_12 : decode cX7_openPart 12 = .ok (.aload_n 0, 1) := by decide +kernel
theorem dX7_openPart_13 : decode cX7_openPart 13 = .ok (.getfield 25, 3) := by decide +kernel
theorem dX7_openPart_16 : decode cX7_openPart 16 = .ok (.lconst 0, 1) := by decide +kernel
theorem dX7_openPart_17 : decode cX7_openPart 17 = .ok (.lastore, 1) := by decide +kernel
theorem dX7_openPart_18 : decode cX7_openPart 18 = .ok (.aload_n 0, 1) := by decide +kernel
theorem dX7_openPart_19 : decode cX7_openPart 19 = .ok (.getfield 15, 3) := by decide +kernel
theorem dX7_openPart_22 : decode cX7_openPart 22 = .ok (.aload_n 0, 1) := by decide +kernel
theorem dX7_openPart_23 : decode cX7_openPart 23 = .ok (.getfield 25, 3) := by decide +kernel
theorem dX7_openPart_26 : decode cX7_openPart 26 = .ok (.lconst 0, 1) := by decide +kernel
theorem dX7_openPart_27 : decode cX7_openPart 27 = .ok (.lastore, 1) := by decide +kernel
theorem dX7_openPart_28 : decode cX7_openPart 28 = .ok (.aload_n 0, 1) := by decide +kernel
theorem dX7_openPart_29 : decode cX7_openPart 29 = .ok (.getfield 18, 3) := by decide +kernel
theorem dX7_openPart_32 : decode cX7_openPart 32 = .ok (.aload_n 0, 1) := by decide +kernel
theorem dX7_openPart_33 : decode cX7_openPart 33 = .ok (.getfield 25, 3) := by decide +kernel
theorem dX7_openPart_36 : decode cX7_openPart 36 = .ok (.iload_n 1, 1) := by decide +kernel
theorem dX7_openPart_37 : decode cX7_openPart 37 = .ok (.iastore, 1) := by decide +kernel
theorem dX7_openPart_38 : decode cX7_openPart 38 = .ok (.aload_n 0, 1) := by decide +kernel
theorem dX7_openPart_39 : decode cX7_openPart 39 = .ok (.dup, 1) := by decide +kernel
theorem dX7_openPart_40 : decode cX7_openPart 40 = .ok (.getfield 25, 3) := by decide +kernel
theorem dX7_openPart_43 : decode cX7_openPart 43 = .ok (.iconst 1, 1) := by decide +kernel
theorem dX7_openPart_44 : decode cX7_openPart 44 = .ok (.iadd, 1) := by decide +kernel
theorem dX7_openPart_45 : decode cX7_openPart 45 = .ok (.putfield 25, 3) := by decide +kernel
theorem dX7_openPart_48 : decode cX7_openPart 48 = .ok (.return_, 1) := by decide +kernel
theorem dX7_dropEnd_0 : decode cX7_dropEnd 0 = .ok (.aload_n 0, 1) := by decide +kernel
theorem dX7_dropEnd_1 : decode cX7_dropEnd 1 = .ok (.iconst 0, 1) := by decide +kernel
theorem dX7_dropEnd_2 : decode cX7_dropEnd 2 = .ok (.putfield 32, 3) := by decide +kernel
theorem dX7_dropEnd_5 : decode cX7_dropEnd 5 = .ok (.aload_n 0, 1) := by decide +kernel
theorem dX7_dropEnd_6 : decode cX7_dropEnd 6 = .ok (.iconst 0, 1) := by decide +kernel
theorem dX7_dropEnd_7 : decode cX7_dropEnd 7 = .ok (.putfield 29, 3) := by decide +kernel
theorem dX7_dropEnd_10 : decode cX7_dropEnd 10 = .ok (.return_, 1) := by decide +kernel
theorem dX7_turnEnd_0 : decode cX7_turnEnd 0 = .ok (.aload_n 0, 1) := by decide +kernel
theorem dX7_turnEnd_1 : decode cX7_turnEnd 1 = .ok (.getfield 32, 3) := by decide +kernel
theorem dX7_turnEnd_4 : decode cX7_turnEnd 4 = .ok (.ifCond .eq 10, 3) := by decide +kernel
theorem dX7_turnEnd_7 : decode cX7_turnEnd 7 = .ok (.aload_n 0, 1) := by decide +kernel
theorem dX7_turnEnd_8 : decode cX7_turnEnd 8 = .ok (.invokevirtual 36, 3) := by decide +kernel
theorem dX7_turnEnd_11 : decode cX7_turnEnd 11 = .ok (.goto 8, 3) := by decide +kernel
theorem dX7_turnEnd_14 : decode cX7_turnEnd 14 = .ok (.aload_n 0, 1) := by decide +kernel
theorem dX7_turnEnd_15 : decode cX7_turnEnd 15 = .ok (.iconst 1, 1) := by decide +kernel
theorem dX7_turnEnd_16 : decode cX7_turnEnd 16 = .ok (.putfield 32, 3) := by decide +kernel
theorem dX7_turnEnd_19 : decode cX7_turnEnd 19 = .ok (.return_, 1) := by decide +kernel
theorem dX7_takeFree_0 : decode cX7_takeFree 0 = .ok (.aload_n 0, 1) := by decide +kernel
theorem dX7_takeFree_1 : decode cX7_takeFree 1 = .ok (.aload_n 1, 1) := by decide +kernel
theorem dX7_takeFree_2 : decode cX7_takeFree 2 = .ok (.getfield 39, 3) := by decide +kernel
theorem dX7_takeFree_5 : decode cX7_takeFree 5 = .ok (.bipush 24, 2) := by decide +kernel
theorem dX7_takeFree_7 : decode cX7_takeFree 7 = .ok (.invokestatic 44, 3) := by decide +kernel
theorem dX7_takeFree_10 : decode cX7_takeFree 10 = .ok (.putfield 29, 3) := by decide +kernel
theorem dX7_takeFree_13 : decode cX7_takeFree 13 = .ok (.iconst 0, 1) := by decide +kernel
theorem dX7_takeFree_14 : decode cX7_takeFree 14 = .ok (.istore_n 2, 1) := by decide +kernel
theorem dX7_takeFree_15 : decode cX7_takeFree 15 = .ok (.iload_n 2, 1) := by decide +kernel
theorem dX7_takeFree_16 : decode cX7_takeFree 16 = .ok (.aload_n 0, 1) := by decide +kernel
theorem dX7_takeFree_17 : decode cX7_takeFree 17 = .ok (.getfield 29, 3) := by decide +kernel
theorem dX7_takeFree_20 : decode cX7_takeFree 20 = .ok (.if_icmp .ge 21, 3) := by decide +kernel
theorem dX7_takeFree_23 : decode cX7_takeFree 23 = .ok (.aload_n 0, 1) := by decide +kernel
theorem dX7_takeFree_24 : decode cX7_takeFree 24 = .ok (.getfield 22, 3) := by decide +kernel
theorem dX7_takeFree_27 : decode cX7_takeFree 27 = .ok (.iload_n 2, 1) := by decide +kernel
theorem dX7_takeFree_28 : decode cX7_takeFree 28 = .ok (.aload_n 1, 1) := by decide +kernel
theorem dX7_takeFree_29 : decode cX7_takeFree 29 = .ok (.getfield 50, 3) := by decide +kernel
theorem dX7_takeFree_32 : decode cX7_takeFree 32 = .ok (.iload_n 2, 1) := by decide +kernel
theorem dX7_takeFree_33 : decode cX7_takeFree 33 = .ok (.iaload, 1) := by decide +kernel
theorem dX7_takeFree_34 : decode cX7_takeFree 34 = .ok (.iastore, 1) := by decide +kernel
theorem dX7_takeFree_35 : decode cX7_takeFree 35 = .ok (.iinc 2 1, 3) := by decide +kernel
theorem dX7_takeFree_38 : decode cX7_takeFree 38 = .ok (.goto (-23), 3) := by decide +kernel
theorem dX7_takeFree_41 : decode cX7_takeFree 41 = .ok (.aload_n 0, 1) := by decide +kernel
theorem dX7_takeFree_42 : decode cX7_takeFree 42 = .ok (.getfield 29, 3) := by decide +kernel
theorem dX7_takeFree_45 : decode cX7_takeFree 45 = .ok (.ifCond .le 8, 3) := by decide +kernel
theorem dX7_takeFree_48 : decode cX7_takeFree 48 = .ok (.aload_n 0, 1) := by decide +kernel
theorem dX7_takeFree_49 : decode cX7_takeFree 49 = .ok (.iconst 1, 1) := by decide +kernel
theorem dX7_takeFree_50 : decode cX7_takeFree 50 = .ok (.putfield 32, 3) := by decide +kernel
theorem dX7_takeFree_53 : decode cX7_takeFree 53 = .ok (.return_, 1) := by decide +kernel
theorem dX7_countGaps_0 : decode cX7_countGaps 0 = .ok (.iconst 0, 1) := by decide +kernel
theorem dX7_countGaps_1 : decode cX7_countGaps 1 = .ok (.istore_n 1, 1) := by decide +kernel
theorem dX7_countGaps_2 : decode cX7_countGaps 2 = .ok (.iconst 0, 1) := by decide +kernel
theorem dX7_countGaps_3 : decode cX7_countGaps 3 = .ok (.istore_n 2, 1) := by decide +kernel
theorem dX7_countGaps_4 : decode cX7_countGaps 4 = .ok (.iload_n 2, 1) := by decide +kernel
theorem dX7_countGaps_5 : decode cX7_countGaps 5 = .ok (.aload_n 0, 1) := by decide +kernel
theorem dX7_countGaps_6 : decode cX7_countGaps 6 = .ok (.getfield 25, 3) := by decide +kernel
theorem dX7_countGaps_9 : decode cX7_countGaps 9 = .ok (.if_icmp .ge 23, 3) := by decide +kernel
theorem dX7_countGaps_12 : decode cX7_countGaps 12 = .ok (.aload_n 0, 1) := by decide +kernel
theorem dX7_countGaps_13 : decode cX7_countGaps 13 = .ok (.getfield 15, 3) := by decide +kernel
theorem dX7_countGaps_16 : decode cX7_countGaps 16 = .ok (.iload_n 2, 1) := by decide +kernel
theorem dX7_countGaps_17 : decode cX7_countGaps 17 = .ok (.laload, 1) := by decide +kernel
theorem dX7_countGaps_18 : decode cX7_countGaps 18 = .ok (.lconst 0, 1) := by decide +kernel
theorem dX7_countGaps_19 : decode cX7_countGaps 19 = .ok (.lcmp, 1) := by decide +kernel
theorem dX7_countGaps_20 : decode cX7_countGaps 20 = .ok (.ifCond .ne 6, 3) := by decide +kernel
theorem dX7_countGaps_23 : decode cX7_countGaps 23 = .ok (.iinc 1 1, 3) := by decide +kernel
theorem dX7_countGaps_26 : decode cX7_countGaps 26 = .ok (.iinc 2 1, 3) := by decide +kernel
theorem dX7_countGaps_29 : decode cX7_countGaps 29 = .ok (.goto (-25), 3) := by decide +kernel
theorem dX7_countGaps_32 : decode cX7_countGaps 32 = .ok (.iload_n 1, 1) := by decide +kernel
theorem dX7_countGaps_33 : decode cX7_countGaps 33 = .ok (.ireturn, 1) := by decide +kernel
theorem dX7_width_0 : decode cX7_width 0 = .ok (.iconst 0, 1) := by decide +kernel
theorem dX7_width_1 : decode cX7_width 1 = .ok (.istore_n 2, 1) := by decide +kernel
theorem dX7_width_2 : decode cX7_width 2 = .ok (.iconst 0, 1) := by decide +kernel
theorem dX7_width_3 : decode cX7_width 3 = .ok (.istore_n 3, 1) := by decide +kernel
theorem dX7_width_4 : decode cX7_width 4 = .ok (.iconst 0, 1) := by decide +kernel
theorem dX7_width_5 : decode cX7_width 5 = .ok (.istore 4, 2) := by decide +kernel
theorem dX7_width_7 : decode cX7_width 7 = .ok (.iconst 0, 1) := by decide +kernel
theorem dX7_width_8 : decode cX7_width 8 = .ok (.istore 5, 2) := by decide +kernel
theorem dX7_width_10 : decode cX7_width 10 = .ok (.iload 5, 2) := by decide +kernel
theorem dX7_width_12 : decode cX7_width 12 = .ok (.aload_n 0, 1) := by decide +kernel
theorem dX7_width_13 : decode cX7_width 13 = .ok (.getfield 25, 3) := by decide +kernel
theorem dX7_width_16 : decode cX7_width 16 = .ok (.if_icmp .ge 54, 3) := by decide +kernel
theorem dX7_width_19 : decode cX7_width 19 = .ok (.aload_n 0, 1) := by decide +kernel
theorem dX7_width_20 : decode cX7_width 20 = .ok (.getfield 9, 3) := by decide +kernel
theorem dX7_width_23 : decode cX7_width 23 = .ok (.iload 5, 2) := by decide +kernel
theorem dX7_width_25 : decode cX7_width 25 = .ok (.laload, 1) := by decide +kernel
theorem dX7_width_26 : decode cX7_width 26 = .ok (.invokestatic 53, 3) := by decide +kernel
theorem dX7_width_29 : decode cX7_width 29 = .ok (.istore 6, 2) := by decide +kernel
theorem dX7_width_31 : decode cX7_width 31 = .ok (.aload_n 0, 1) := by decide +kernel
theorem dX7_width_32 : decode cX7_width 32 = .ok (.iload 5, 2) := by decide +kernel
theorem dX7_width_34 : decode cX7_width 34 = .ok (.invokevirtual 58, 3) := by decide +kernel
theorem dX7_width_37 : decode cX7_width 37 = .ok (.invokestatic 53, 3) := by decide +kernel
theorem dX7_width_40 : decode cX7_width 40 = .ok (.istore 7, 2) := by decide +kernel
theorem dX7_width_42 : decode cX7_width 42 = .ok (.iload_n 2, 1) := by decide +kernel
theorem dX7_width_43 : decode cX7_width 43 = .ok (.iload 6, 2) := by decide +kernel
theorem dX7_width_45 : decode cX7_width 45 = .ok (.iadd, 1) := by decide +kernel
theorem dX7_width_46 : decode cX7_width 46 = .ok (.istore_n 2, 1) := by decide +kernel
theorem dX7_width_47 : decode cX7_width 47 = .ok (.iload_n 3, 1) := by decide +kernel
theorem dX7_width_48 : decode cX7_width 48 = .ok (.iload 7, 2) := by decide +kernel
theorem dX7_width_50 : decode cX7_width 50 = .ok (.iadd, 1) := by decide +kernel
theorem dX7_width_51 : decode cX7_width 51 = .ok (.istore_n 3, 1) := by decide +kernel
theorem dX7_width_52 : decode cX7_width 52 = .ok (.iload 4, 2) := by decide +kernel
theorem dX7_width_54 : decode cX7_width 54 = .ok (.iload 6, 2) := by decide +kernel
theorem dX7_width_56 : decode cX7_width 56 = .ok (.iload 7, 2) := by decide +kernel
theorem dX7_width_58 : decode cX7_width 58 = .ok (.invokestatic 62, 3) := by decide +kernel
theorem dX7_width_61 : decode cX7_width 61 = .ok (.iadd, 1) := by decide +kernel
theorem dX7_width_62 : decode cX7_width 62 = .ok (.istore 4, 2) := by decide +kernel
theorem dX7_width_64 : decode cX7_width 64 = .ok (.iinc 5 1, 3) := by decide +kernel
theorem dX7_width_67 : decode cX7_width 67 = .ok (.goto (-57), 3) := by decide +kernel
theorem dX7_width_70 : decode cX7_width 70 = .ok (.aload_n 0, 1) := by decide +kernel
theorem dX7_width_71 : decode cX7_width 71 = .ok (.getfield 25, 3) := by decide +kernel
theorem dX7_width_74 : decode cX7_width 74 = .ok (.iconst 1, 1) := by decide +kernel
theorem dX7_width_75 : decode cX7_width 75 = .ok (.isub, 1) := by decide +kernel
theorem dX7_width_76 : decode cX7_width 76 = .ok (.iload_n 1, 1) := by decide +kernel
theorem dX7_width_77 : decode cX7_width 77 = .ok (.iconst 1, 1) := by decide +kernel
theorem dX7_width_78 : decode cX7_width 78 = .ok (.if_icmp .ne 8, 3) := by decide +kernel
theorem dX7_width_81 : decode cX7_width 81 = .ok (.iload 4, 2) := by decide +kernel
theorem dX7_width_83 : decode cX7_width 83 = .ok (.goto 8, 3) := by decide +kernel
theorem dX7_width_86 : decode cX7_width 86 = .ok (.iload_n 2, 1) := by decide +kernel
theorem dX7_width_87 : decode cX7_width 87 = .ok (.iload_n 3, 1) := by decide +kernel
theorem dX7_width_88 : decode cX7_width 88 = .ok (.invokestatic 62, 3) := by decide +kernel
theorem dX7_width_91 : decode cX7_width 91 = .ok (.iadd, 1) := by decide +kernel
theorem dX7_width_92 : decode cX7_width 92 = .ok (.ireturn, 1) := by decide +kernel
theorem dX7_codeShown_0 : decode cX7_codeShown 0 = .ok (.iload_n 3, 1) := by decide +kernel
theorem dX7_codeShown_1 : decode cX7_codeShown 1 = .ok (.istore 4, 2) := by decide +kernel
theorem dX7_codeShown_3 : decode cX7_codeShown 3 = .ok (.iconst 0, 1) := by decide +kernel
theorem dX7_codeShown_4 : decode cX7_codeShown 4 = .ok (.istore 5, 2) := by decide +kernel
theorem dX7_codeShown_6 : decode cX7_codeShown 6 = .ok (.iload 5, 2) := by decide +kernel
theorem dX7_codeShown_8 : decode cX7_codeShown 8 = .ok (.aload_n 0, 1) := by decide +kernel
theorem dX7_codeShown_9 : decode cX7_codeShown 9 = .ok (.getfield 25, 3) := by decide +kernel
theorem dX7_codeShown_12 : decode cX7_codeShown 12 = .ok (.if_icmp .ge 139, 3) := by decide +kernel
theorem dX7_codeShown_15 : decode cX7_codeShown 15 = .ok (.iload_n 1, 1) := by decide +kernel
theorem dX7_codeShown_16 : decode cX7_codeShown 16 = .ok (.ifCond .ne 13, 3) := by decide +kernel
theorem dX7_codeShown_19 : decode cX7_codeShown 19 = .ok (.aload_n 0, 1) := by decide +kernel
theorem dX7_codeShown_20 : decode cX7_codeShown 20 = .ok (.getfield 9, 3) := by decide +kernel
theorem dX7_codeShown_23 : decode cX7_codeShown 23 = .ok (.iload 5, 2) := by decide +kernel
theorem dX7_codeShown_25 : decode cX7_codeShown 25 = .ok (.laload, 1) := by decide +kernel
theorem dX7_codeShown_26 : decode cX7_codeShown 26 = .ok (.goto 9, 3) := by decide +kernel
theorem dX7_codeShown_29 : decode cX7_codeShown 29 = .ok (.aload_n 0, 1) := by decide +kernel
theorem dX7_codeShown_30 : decode cX7_codeShown 30 = .ok (.iload 5, 2) := by decide +kernel
theorem dX7_codeShown_32 : decode cX7_codeShown 32 = .ok (.invokevirtual 58, 3) := by decide +kernel
theorem dX7_codeShown_35 : decode cX7_codeShown 35 = .ok (.lstore 6, 2) := by decide +kernel
theorem dX7_codeShown_37 : decode cX7_codeShown 37 = .ok (.lload 6, 2) := by decide +kernel
theorem dX7_codeShown_39 : decode cX7_codeShown 39 = .ok (.invokestatic 53, 3) := by decide +kernel
theorem dX7_codeShown_42 : decode cX7_codeShown 42 = .ok (.istore 8, 2) := by decide +kernel
theorem dX7_codeShown_44 : decode cX7_codeShown 44 = .ok (.iload_n 2, 1) := by decide +kernel
theorem dX7_codeShown_45 : decode cX7_codeShown 45 = .ok (.iconst 1, 1) := by decide +kernel
theorem dX7_codeShown_46 : decode cX7_codeShown 46 = .ok (.if_icmp .ne 27, 3) := by decide +kernel
theorem dX7_codeShown_49 : decode cX7_codeShown 49 = .ok (.aload_n 0, 1) := by decide +kernel
theorem dX7_codeShown_50 : decode cX7_codeShown 50 = .ok (.getfield 9, 3) := by decide +kernel
theorem dX7_codeShown_53 : decode cX7_codeShown 53 = .ok (.iload 5, 2) := by decide +kernel
theorem dX7_codeShown_55 : decode cX7_codeShown 55 = .ok (.laload, 1) := by decide +kernel
theorem dX7_codeShown_56 : decode cX7_codeShown 56 = .ok (.invokestatic 53, 3) := by decide +kernel
theorem dX7_codeShown_59 : decode cX7_codeShown 59 = .ok (.aload_n 0, 1) := by decide +kernel
theorem dX7_codeShown_60 : decode cX7_codeShown 60 = .ok (.iload 5, 2) := by decide +kernel
theorem dX7_codeShown_62 : decode cX7_codeShown 62 = .ok (.invokevirtual 58, 3) := by decide +kernel
theorem dX7_codeShown_65 : decode cX7_codeShown 65 = .ok (.invokestatic 53, 3) := by decide +kernel
theorem dX7_codeShown_68 : decode cX7_codeShown 68 = .ok (.invokestatic 62, 3) := by decide +kernel
theorem dX7_codeShown_71 : decode cX7_codeShown 71 = .ok (.istore 8, 2) := by decide +kernel
theorem dX7_codeShown_73 : decode cX7_codeShown 73 = .ok (.iload 4, 2) := by decide +kernel
theorem dX7_codeShown_75 : decode cX7_codeShown 75 = .ok (.iload 8, 2) := by decide +kernel
theorem dX7_codeShown_77 : decode cX7_codeShown 77 = .ok (.if_icmp .ge 26, 3) := by decide +kernel
theorem dX7_codeShown_80 : decode cX7_codeShown 80 = .ok (.iload 4, 2) := by decide +kernel
theorem dX7_codeShown_82 : decode cX7_codeShown 82 = .ok (.lload 6, 2) := by decide +kernel
theorem dX7_codeShown_84 : decode cX7_codeShown 84 = .ok (.invokestatic 53, 3) := by decide +kernel
theorem dX7_codeShown_87 : decode cX7_codeShown 87 = .ok (.if_icmp .ge 13, 3) := by decide +kernel
theorem dX7_codeShown_90 : decode cX7_codeShown 90 = .ok (.lload 6, 2) := by decide +kernel
theorem dX7_codeShown_92 : decode cX7_codeShown 92 = .ok (.iload 4, 2) := by decide +kernel
theorem dX7_codeShown_94 : decode cX7_codeShown 94 = .ok (.invokestatic 65, 3) := by decide +kernel
theorem dX7_codeShown_97 : decode cX7_codeShown 97 = .ok (.goto 5, 3) := by decide +kernel
theorem dX7_codeShown_100 : decode cX7_codeShown 100 = .ok (.bipush 32, 2) := by decide +kernel
theorem dX7_codeShown_102 : decode cX7_codeShown 102 = .ok (.ireturn, 1) := by decide +kernel
theorem dX7_codeShown_103 : decode cX7_codeShown 103 = .ok (.iload 4, 2) := by decide +kernel
theorem dX7_codeShown_105 : decode cX7_codeShown 105 = .ok (.iload 8, 2) := by decide +kernel
theorem dX7_codeShown_107 : decode cX7_codeShown 107 = .ok (.if_icmp .ne 29, 3) := by decide +kernel
theorem dX7_codeShown_110 : decode cX7_codeShown 110 = .ok (.iload 5, 2) := by decide +kernel
theorem dX7_codeShown_112 : decode cX7_codeShown 112 = .ok (.iconst 1, 1) := by decide +kernel
theorem dX7_codeShown_113 : decode cX7_codeShown 113 = .ok (.iadd, 1) := by decide +kernel
theorem dX7_codeShown_114 : decode cX7_codeShown 114 = .ok (.aload_n 0, 1) := by decide +kernel
theorem dX7_codeShown_115 : decode cX7_codeShown 115 = .ok (.getfield 25, 3) := by decide +kernel
theorem dX7_codeShown_118 : decode cX7_codeShown 118 = .ok (.if_icmp .ge 15, 3) := by decide +kernel
theorem dX7_codeShown_121 : decode cX7_codeShown 121 = .ok (.aload_n 0, 1) := by decide +kernel
theorem dX7_codeShown_122 : decode cX7_codeShown 122 = .ok (.getfield 18, 3) := by decide +kernel
theorem dX7_codeShown_125 : decode cX7_codeShown 125 = .ok (.iload 5, 2) := by decide +kernel
theorem dX7_codeShown_127 : decode cX7_codeShown 127 = .ok (.iconst 1, 1) := by decide +kernel
theorem dX7_codeShown_128 : decode cX7_codeShown 128 = .ok (.iadd, 1) := by decide +kernel
theorem dX7_codeShown_129 : decode cX7_codeShown 129 = .ok (.iaload, 1) := by decide +kernel
theorem dX7_codeShown_130 : decode cX7_codeShown 130 = .ok (.goto 5, 3) := by decide +kernel
theorem dX7_codeShown_133 : decode cX7_codeShown 133 = .ok (.bipush 32, 2) := by decide +kernel
theorem dX7_codeShown_135 : decode cX7_codeShown 135 = .ok (.ireturn, 1) := by decide +kernel
theorem dX7_codeShown_136 : decode cX7_codeShown 136 = .ok (.iload 4, 2) := by decide +kernel
theorem dX7_codeShown_138 : decode cX7_codeShown 138 = .ok (.iload 8, 2) := by decide +kernel
theorem dX7_codeShown_140 : decode cX7_codeShown 140 = .ok (.iconst 1, 1) := by decide +kernel
theorem dX7_codeShown_141 : decode cX7_codeShown 141 = .ok (.iadd, 1) := by decide +kernel
theorem dX7_codeShown_142 : decode cX7_codeShown 142 = .ok (.isub, 1) := by decide +kernel
theorem dX7_codeShown_143 : decode cX7_codeShown 143 = .ok (.istore 4, 2) := by decide +kernel
theorem dX7_codeShown_145 : decode cX7_codeShown 145 = .ok (.iinc 5 1, 3) := by decide +kernel
theorem dX7_codeShown_148 : decode cX7_codeShown 148 = .ok (.goto (-142), 3) := by decide +kernel
theorem dX7_codeShown_151 : decode cX7_codeShown 151 = .ok (.bipush 32, 2) := by decide +kernel
theorem dX7_codeShown_153 : decode cX7_codeShown 153 = .ok (.ireturn, 1) := by decide +kernel
theorem dX7_codeOfFree_0 : decode cX7_codeOfFree 0 = .ok (.iload_n 1, 1) := by decide +kernel
theorem dX7_codeOfFree_1 : decode cX7_codeOfFree 1 = .ok (.ifCond .lt 20, 3) := by decide +kernel
theorem dX7_codeOfFree_4 : decode cX7_codeOfFree 4 = .ok (.iload_n 1, 1) := by decide +kernel
theorem dX7_codeOfFree_5 : decode cX7_codeOfFree 5 = .ok (.aload_n 0, 1) := by decide +kernel
theorem dX7_codeOfFree_6 : decode cX7_codeOfFree 6 = .ok (.getfield 29, 3) := by decide +kernel
theorem dX7_codeOfFree_9 : decode cX7_codeOfFree 9 = .ok (.if_icmp .ge 12, 3) := by decide +kernel
theorem dX7_codeOfFree_12 : decode cX7_codeOfFree 12 = .ok (.aload_n 0, 1) := by decide +kernel
theorem dX7_codeOfFree_13 : decode cX7_codeOfFree 13 = .ok (.getfield 22, 3) := by decide +kernel
theorem dX7_codeOfFree_16 : decode cX7_codeOfFree 16 = .ok (.iload_n 1, 1) := by decide +kernel
theorem dX7_codeOfFree_17 : decode cX7_codeOfFree 17 = .ok (.iaload, 1) := by decide +kernel
theorem dX7_codeOfFree_18 : decode cX7_codeOfFree 18 = .ok (.goto 5, 3) := by decide +kernel
theorem dX7_codeOfFree_21 : decode cX7_codeOfFree 21 = .ok (.bipush (-9), 2) := by decide +kernel
theorem dX7_codeOfFree_23 : decode cX7_codeOfFree 23 = .ok (.ireturn, 1) := by decide +kernel
theorem dX7_shownGloss_0 : decode cX7_shownGloss 0 = .ok (.aload_n 0, 1) := by decide +kernel
theorem dX7_shownGloss_1 : decode cX7_shownGloss 1 = .ok (.getfield 15, 3) := by decide +kernel
theorem dX7_shownGloss_4 : decode cX7_shownGloss 4 = .ok (.iload_n 1, 1) := by decide +kernel
theorem dX7_shownGloss_5 : decode cX7_shownGloss 5 = .ok (.laload, 1) := by decide +kernel
theorem dX7_shownGloss_6 : decode cX7_shownGloss 6 = .ok (.lconst 0, 1) := by decide +kernel
theorem dX7_shownGloss_7 : decode cX7_shownGloss 7 = .ok (.lcmp, 1) := by decide +kernel
theorem dX7_shownGloss_8 : decode cX7_shownGloss 8 = .ok (.ifCond .ne 12, 3) := by decide +kernel
theorem dX7_shownGloss_11 : decode cX7_shownGloss 11 = .ok (.lconst 0, 1) := by decide +kernel
theorem dX7_shownGloss_12 : decode cX7_shownGloss 12 = .ok (.bipush 42, 2) := by decide +kernel
theorem dX7_shownGloss_14 : decode cX7_shownGloss 14 = .ok (.invokestatic 69, 3) := by decide +kernel
theorem dX7_shownGloss_17 : decode cX7_shownGloss 17 = .ok (.goto 9, 3) := by decide +kernel
theorem dX7_shownGloss_20 : decode cX7_shownGloss 20 = .ok (.aload_n 0, 1) := by decide +kernel
theorem dX7_shownGloss_21 : decode cX7_shownGloss 21 = .ok (.getfield 15, 3) := by decide +kernel
theorem dX7_shownGloss_24 : decode cX7_shownGloss 24 = .ok (.iload_n 1, 1) := by decide +kernel
theorem dX7_shownGloss_25 : decode cX7_shownGloss 25 = .ok (.laload, 1) := by decide +kernel
theorem dX7_shownGloss_26 : decode cX7_shownGloss 26 = .ok (.lreturn, 1) := by decide +kernel
theorem dX8_init_0 : decode cX8_init 0 = .ok (.aload_n 0, 1) := by decide +kernel
theorem dX8_init_1 : decode cX8_init 1 = .ok (.invokespecial 1, 3) := by decide +kernel
theorem dX8_init_4 : decode cX8_init 4 = .ok (.aload_n 0, 1) := by decide +kernel
theorem dX8_init_5 : decode cX8_init 5 = .ok (.new 7, 3) := by decide +kernel
theorem dX8_init_8 : decode cX8_init 8 = .ok (.dup, 1) := by decide +kernel
theorem dX8_init_9 : decode cX8_init 9 = .ok (.invokespecial 9, 3) := by decide +kernel
theorem dX8_init_12 : decode cX8_init 12 = .ok (.putfield 10, 3) := by decide +kernel
theorem dX8_init_15 : decode cX8_init 15 = .ok (.aload_n 0, 1) := by decide +kernel
theorem dX8_init_16 : decode cX8_init 16 = .ok (.new 16, 3) := by decide +kernel
theorem dX8_init_19 : decode cX8_init 19 = .ok (.dup, 1) := by decide +kernel
theorem dX8_init_20 : decode cX8_init 20 = .ok (.invokespecial 18, 3) := by decide +kernel
theorem dX8_init_23 : decode cX8_init 23 = .ok (.putfield 19, 3) := by decide +kernel
theorem dX8_init_26 : decode cX8_init 26 = .ok (.aload_n 0, 1) := by decide +kernel
theorem dX8_init_27 : decode cX8_init 27 = .ok (.new 23, 3) := by decide +kernel
theorem dX8_init_30 : decode cX8_init 30 = .ok (.dup, 1) := by decide +kernel
theorem dX8_init_31 : decode cX8_init 31 = .ok (.invokespecial 25, 3) := by decide +kernel
theorem dX8_init_34 : decode cX8_init 34 = .ok (.putfield 26, 3) := by decide +kernel
theorem dX8_init_37 : decode cX8_init 37 = .ok (.aload_n 0, 1) := by decide +kernel
theorem dX8_init_38 : decode cX8_init 38 = .ok (.new 23, 3) := by decide +kernel
theorem dX8_init_41 : decode cX8_init 41 = .ok (.dup, 1) := by decide +kernel
theorem dX8_init_42 : decode cX8_init 42 = .ok (.invokespecial 25, 3) := by decide +kernel
theorem dX8_init_45 : decode cX8_init 45 = .ok (.putfield 30, 3) := by decide +kernel
theorem dX8_init_48 : decode cX8_init 48 = .ok (.aload_n 0, 1) := by decide +kernel
theorem dX8_init_49 : decode cX8_init 49 = .ok (.new 33, 3) := by decide +kernel
theorem dX8_init_52 : decode cX8_init 52 = .ok (.dup, 1) := by decide +kernel
theorem dX8_init_53 : decode cX8_init 53 = .ok (.invokespecial 35, 3) := by decide +kernel
theorem dX8_init_56 : decode cX8_init 56 = .ok (.putfield 36, 3) := by decide +kernel
theorem dX8_init_59 : decode cX8_init 59 = .ok (.aload_n 0, 1) := by decide +kernel
theorem dX8_init_60 : decode cX8_init 60 = .ok (.new 40, 3) := by decide +kernel
theorem dX8_init_63 : decode cX8_init 63 = .ok (.dup, 1) := by decide +kernel
theorem dX8_init_64 : decode cX8_init 64 = .ok (.invokespecial 42, 3) := by decide +kernel
theorem dX8_init_67 : decode cX8_init 67 = .ok (.putfield 43, 3) := by decide +kernel
theorem dX8_init_70 : decode cX8_init 70 = .ok (.aload_n 0, 1) := by decide +kernel
theorem dX8_init_71 : decode cX8_init 71 = .ok (.iconst 2, 1) := by decide +kernel
theorem dX8_init_72 : decode cX8_init 72 = .ok (.anewarray 23, 3) := by decide +kernel
theorem dX8_init_75 : decode cX8_init 75 = .ok (.putfield 47, 3) := by decide +kernel
theorem dX8_init_78 : decode cX8_init 78 = .ok (.aload_n 0, 1) := by decide +kernel
theorem dX8_init_79 : decode cX8_init 79 = .ok (.iconst 2, 1) := by decide +kernel
theorem dX8_init_80 : decode cX8_init 80 = .ok (.newarray .boolean, 2) := by decide +kernel
theorem dX8_init_82 : decode cX8_init 82 = .ok (.putfield 51, 3) := by decide +kernel
theorem dX8_init_85 : decode cX8_init 85 = .ok (.iconst 0, 1) := by decide +kernel
theorem dX8_init_86 : decode cX8_init 86 = .ok (.istore_n 1, 1) := by decide +kernel
theorem dX8_init_87 : decode cX8_init 87 = .ok (.iload_n 1, 1) := by decide +kernel
theorem dX8_init_88 : decode cX8_init 88 = .ok (.iconst 2, 1) := by decide +kernel
theorem dX8_init_89 : decode cX8_init 89 = .ok (.if_icmp .ge 22, 3) := by decide +kernel
theorem dX8_init_92 : decode cX8_init 92 = .ok (.aload_n 0, 1) := by decide +kernel
theorem dX8_init_93 : decode cX8_init 93 = .ok (.getfield 47, 3) := by decide +kernel
theorem dX8_init_96 : decode cX8_init 96 = .ok (.iload_n 1, 1) := by decide +kernel
theorem dX8_init_97 : decode cX8_init 97 = .ok (.new 23, 3) := by decide +kernel
theorem dX8_init_100 : decode cX8_init 100 = .ok (.dup, 1) := by decide +kernel
theorem dX8_init_101 : decode cX8_init 101 = .ok (.invokespecial 25, 3) := by decide +kernel
theorem dX8_init_104 : decode cX8_init 104 = .ok (.aastore, 1) := by decide +kernel
theorem dX8_init_105 : decode cX8_init 105 = .ok (.iinc 1 1, 3) := by decide +kernel
theorem dX8_init_108 : decode cX8_init 108 = .ok (.goto (-21), 3) := by decide +kernel
theorem dX8_init_111 : decode cX8_init 111 = .ok (.return_, 1) := by decide +kernel
theorem dX8_append_0 : decode cX8_append 0 = .ok (.iload_n 1, 1) := by decide +kernel
theorem dX8_append_1 : decode cX8_append 1 = .ok (.ifCond .lt 10, 3) := by decide +kernel
theorem dX8_append_4 : decode cX8_append 4 = .ok (.iload_n 1, 1) := by decide +kernel
theorem dX8_append_5 : decode cX8_append 5 = .ok (.sipush 255, 3) := by decide +kernel
theorem dX8_append_8 : decode cX8_append 8 = .ok (.if_icmp .le 13, 3) := by decide +kernel
theorem dX8_append_11 : decode cX8_append 11 = .ok (.new 55, 3) := by decide +kernel
theorem dX8_append_14 : decode cX8_append 14 = .ok (.dup, 1) := by decide +kernel
theorem dX8_append_15 : decode cX8_append 15 = .ok (.ldc 57, 2) := by decide +kernel
theorem dX8_append_17 : decode cX8_append 17 = .ok (.invokespecial 59, 3) := by decide +kernel
theorem dX8_append_20 : decode cX8_append 20 = .ok (.athrow, 1) := by decide +kernel
theorem dX8_append_21 : decode cX8_append 21 = .ok (.aload_n 0, 1) := by decide +kernel
theorem dX8_append_22 : decode cX8_append 22 = .ok (.getfield 10, 3) := by decide +kernel
theorem dX8_append_25 : decode cX8_append 25 = .ok (.getfield 62, 3) := by decide +kernel
theorem dX8_append_28 : decode cX8_append 28 = .ok (.bipush 60, 2) := by decide +kernel
theorem dX8_append_30 : decode cX8_append 30 = .ok (.if_icmp .lt 13, 3) := by decide +kernel
theorem dX8_append_33 : decode cX8_append 33 = .ok (.new 66, 3) := by decide +kernel
theorem dX8_append_36 : decode cX8_append 36 = .ok (.dup, 1) := by decide +kernel
theorem dX8_append_37 : decode cX8_append 37 = .ok (.ldc 68, 2) := by decide +kernel
theorem dX8_append_39 : decode cX8_append 39 = .ok (.invokespecial 70, 3) := by decide +kernel
theorem dX8_append_42 : decode cX8_append 42 = .ok (.athrow, 1) := by decide +kernel
theorem dX8_append_43 : decode cX8_append 43 = .ok (.aload_n 0, 1) := by decide +kernel
theorem dX8_append_44 : decode cX8_append 44 = .ok (.getfield 10, 3) := by decide +kernel
theorem dX8_append_47 : decode cX8_append 47 = .ok (.iload_n 1, 1) := by decide +kernel
theorem dX8_append_48 : decode cX8_append 48 = .ok (.invokevirtual 71, 3) := by decide +kernel
theorem dX8_append_51 : decode cX8_append 51 = .ok (.aload_n 0, 1) := by decide +kernel
theorem dX8_append_52 : decode cX8_append 52 = .ok (.getfield 10, 3) := by decide +kernel
theorem dX8_append_55 : decode cX8_append 55 = .ok (.getfield 62, 3) := by decide +kernel
theorem dX8_append_58 : decode cX8_append 58 = .ok (.ireturn, 1) := by decide +kernel
theorem dX8_clearText_0 : decode cX8_clearText 0 = .ok (.aload_n 0, 1) := by decide +kernel
theorem dX8_clearText_1 : decode cX8_clearText 1 = .ok (.getfield 10, 3) := by decide +kernel
theorem dX8_clearText_4 : decode cX8_clearText 4 = .ok (.getfield 62, 3) := by decide +kernel
theorem dX8_clearText_7 : decode cX8_clearText 7 = .ok (.istore_n 1, 1) := by decide +kernel
theorem dX8_clearText_8 : decode cX8_clearText 8 = .ok (.aload_n 0, 1) := by decide +kernel
theorem dX8_clearText_9 : decode cX8_clearText 9 = .ok (.getfield 10, 3) := by decide +kernel
theorem dX8_clearText_12 : decode cX8_clearText 12 = .ok (.iconst 0, 1) := by decide +kernel
theorem dX8_clearText_13 : decode cX8_clearText 13 = .ok (.putfield 62, 3) := by decide +kernel
theorem dX8_clearText_16 : decode cX8_clearText 16 = .ok (.iload_n 1, 1) := by decide +kernel
theorem dX8_clearText_17 : decode cX8_clearText 17 = .ok (.ireturn, 1) := by decide +kernel
theorem dX8_errorPosition_0 : decode cX8_errorPosition 0 = .ok (.aload_n 0, 1) := by decide +kernel
theorem dX8_errorPosition_1 : decode cX8_errorPosition 1 = .ok (.getfield 19, 3) := by decide +kernel
theorem dX8_errorPosition_4 : decode cX8_errorPosition 4 = .ok (.aload_n 0, 1) := by decide +kernel
theorem dX8_errorPosition_5 : decode cX8_errorPosition 5 = .ok (.getfield 10, 3) := by decide +kernel
theorem dX8_errorPosition_8 : decode cX8_errorPosition 8 = .ok (.invokevirtual 75, 3) := by decide +kernel
theorem dX8_errorPosition_11 : decode cX8_errorPosition 11 = .ok (.ireturn, 1) := by decide +kernel
theorem dX8_load_0 : decode cX8_load 0 = .ok (.aload_n 0, 1) := by decide +kernel
theorem dX8_load_1 : decode cX8_load 1 = .ok (.getfield 19, 3) := by decide +kernel
theorem dX8_load_4 : decode cX8_load 4 = .ok (.aload_n 0, 1) := by decide +kernel
theorem dX8_load_5 : decode cX8_load 5 = .ok (.getfield 10, 3) := by decide +kernel
theorem dX8_load_8 : decode cX8_load 8 = .ok (.invokevirtual 75, 3) := by decide +kernel
theorem dX8_load_11 : decode cX8_load 11 = .ok (.bipush (-9), 2) := by decide +kernel
theorem dX8_load_13 : decode cX8_load 13 = .ok (.if_icmp .eq 13, 3) := by decide +kernel
theorem dX8_load_16 : decode cX8_load 16 = .ok (.new 66, 3) := by decide +kernel
theorem dX8_load_19 : decode cX8_load 19 = .ok (.dup, 1) := by decide +kernel
theorem dX8_load_20 : decode cX8_load 20 = .ok (.ldc 79, 2) := by decide +kernel
theorem dX8_load_22 : decode cX8_load 22 = .ok (.invokespecial 70, 3) := by decide +kernel
theorem dX8_load_25 : decode cX8_load 25 = .ok (.athrow, 1) := by decide +kernel
theorem dX8_load_26 : decode cX8_load 26 = .ok (.aload_n 0, 1) := by decide +kernel
theorem dX8_load_27 : decode cX8_load 27 = .ok (.getfield 26, 3) := by decide +kernel
theorem dX8_load_30 : decode cX8_load 30 = .ok (.invokevirtual 81, 3) := by decide +kernel
theorem dX8_load_33 : decode cX8_load 33 = .ok (.aload_n 0, 1) := by decide +kernel
theorem dX8_load_34 : decode cX8_load 34 = .ok (.getfield 26, 3) := by decide +kernel
theorem dX8_load_37 : decode cX8_load 37 = .ok (.aload_n 0, 1) := by decide +kernel
theorem dX8_load_38 : decode cX8_load 38 = .ok (.getfield 19, 3) := by decide +kernel
theorem dX8_load_41 : decode cX8_load 41 = .ok (.iconst 0, 1) := by decide +kernel
theorem dX8_load_42 : decode cX8_load 42 = .ok (.invokevirtual 84, 3) := by decide +kernel
theorem dX8_load_45 : decode cX8_load 45 = .ok (.aload_n 0, 1) := by decide +kernel
theorem dX8_load_46 : decode cX8_load 46 = .ok (.getfield 43, 3) := by decide +kernel
theorem dX8_load_49 : decode cX8_load 49 = .ok (.invokevirtual 88, 3) := by decide +kernel
theorem dX8_load_52 : decode cX8_load 52 = .ok (.iconst 0, 1) := by decide +kernel
theorem dX8_load_53 : decode cX8_load 53 = .ok (.istore_n 1, 1) := by decide +kernel
theorem dX8_load_54 : decode cX8_load 54 = .ok (.iload_n 1, 1) := by decide +kernel
theorem dX8_load_55 : decode cX8_load 55 = .ok (.iconst 2, 1) := by decide +kernel
theorem dX8_load_56 : decode cX8_load 56 = .ok (.if_icmp .ge 16, 3) := by decide +kernel
theorem dX8_load_59 : decode cX8_load 59 = .ok (.aload_n 0, 1) := by decide +kernel
theorem dX8_load_60 : decode cX8_load 60 = .ok (.getfield 51, 3) := by decide +kernel
theorem dX8_load_63 : decode cX8_load 63 = .ok (.iload_n 1, 1) := by decide +kernel
theorem dX8_load_64 : decode cX8_load 64 = .ok (.iconst 0, 1) := by decide +kernel
theorem dX8_load_65 : decode cX8_load 65 = .ok (.bastore, 1) := by decide +kernel
theorem dX8_load_66 : decode cX8_load 66 = .ok (.iinc 1 1, 3) := by decide +kernel
theorem dX8_load_69 : decode cX8_load 69 = .ok (.goto (-15), 3) := by decide +kernel
theorem dX8_load_72 : decode cX8_load 72 = .ok (.aload_n 0, 1) := by decide +kernel
theorem dX8_load_73 : decode cX8_load 73 = .ok (.getfield 26, 3) := by decide +kernel
theorem dX8_load_76 : decode cX8_load 76 = .ok (.getfield 91, 3) := by decide +kernel
theorem dX8_load_79 : decode cX8_load 79 = .ok (.ireturn, 1) := by decide +kernel
theorem dX8_about_0 : decode cX8_about 0 = .ok (.iload_n 1, 1) := by decide +kernel
theorem dX8_about_1 : decode cX8_about 1 = .ok (.tableswitch 185 0 11 #[63, 71, 79, 87, 95, 107, 119, 142, 153, 161, 169, 177], 63) := by decide +kernel
theorem dX8_about_64 : decode cX8_about 64 = .ok (.aload_n 0, 1) := by decide +kernel
theorem dX8_about_65 : decode cX8_about 65 = .ok (.getfield 26, 3) := by decide +kernel
theorem dX8_about_68 : decode cX8_about 68 = .ok (.getfield 91, 3) := by decide +kernel
theorem dX8_about_71 : decode cX8_about 71 = .ok (.ireturn, 1) := by decide +kernel
theorem dX8_about_72 : decode cX8_about 72 = .ok (.aload_n 0, 1) := by decide +kernel
theorem dX8_about_73 : decode cX8_about 73 = .ok (.getfield 26, 3) := by decide +kernel
theorem dX8_about_76 : decode cX8_about 76 = .ok (.invokevirtual 94, 3) := by decide +kernel
theorem dX8_about_79 : decode cX8_about 79 = .ok (.ireturn, 1) := by decide +kernel
theorem dX8_about_80 : decode cX8_about 80 = .ok (.aload_n 0, 1) := by decide +kernel
theorem dX8_about_81 : decode cX8_about 81 = .ok (.getfield 26, 3) := by decide +kernel
theorem dX8_about_84 : decode cX8_about 84 = .ok (.invokevirtual 98, 3) := by decide +kernel
theorem dX8_about_87 : decode cX8_about 87 = .ok (.ireturn, 1) := by decide +kernel
theorem dX8_about_88 : decode cX8_about 88 = .ok (.aload_n 0, 1) := by decide +kernel
theorem dX8_about_89 : decode cX8_about 89 = .ok (.getfield 26, 3) := by decide +kernel
theorem dX8_about_92 : decode cX8_about 92 = .ok (.invokevirtual 101, 3) := by decide +kernel
theorem dX8_about_95 : decode cX8_about 95 = .ok (.ireturn, 1) := by decide +kernel
theorem dX8_about_96 : decode cX8_about 96 = .ok (.aload_n 0, 1) := by decide +kernel
theorem dX8_about_97 : decode cX8_about 97 = .ok (.aload_n 0, 1) := by decide +kernel
theorem dX8_about_98 : decode cX8_about 98 = .ok (.getfield 26, 3) := by decide +kernel
theorem dX8_about_101 : decode cX8_about 101 = .ok (.invokevirtual 104, 3) := by decide +kernel
theorem dX8_about_104 : decode cX8_about 104 = .ok (.getfield 108, 3) := by decide +kernel
theorem dX8_about_107 : decode cX8_about 107 = .ok (.ireturn, 1) := by decide +kernel
theorem dX8_about_108 : decode cX8_about 108 = .ok (.aload_n 0, 1) := by decide +kernel
theorem dX8_about_109 : decode cX8_about 109 = .ok (.aload_n 0, 1) := by decide +kernel
theorem dX8_about_110 : decode cX8_about 110 = .ok (.getfield 26, 3) := by decide +kernel
theorem dX8_about_113 : decode cX8_about 113 = .ok (.invokevirtual 104, 3) := by decide +kernel
theorem dX8_about_116 : decode cX8_about 116 = .ok (.getfield 111, 3) := by decide +kernel
theorem dX8_about_119 : decode cX8_about 119 = .ok (.ireturn, 1) := by decide +kernel
theorem dX8_about_120 : decode cX8_about 120 = .ok (.aload_n 0, 1) := by decide +kernel
theorem dX8_about_121 : decode cX8_about 121 = .ok (.aload_n 0, 1) := by decide +kernel
theorem dX8_about_122 : decode cX8_about 122 = .ok (.getfield 26, 3) := by decide +kernel
theorem dX8_about_125 : decode cX8_about 125 = .ok (.invokevirtual 104, 3) := by decide +kernel
theorem dX8_about_128 : decode cX8_about 128 = .ok (.aload_n 0, 1) := by decide +kernel
theorem dX8_about_129 : decode cX8_about 129 = .ok (.getfield 26, 3) := by decide +kernel
theorem dX8_about_132 : decode cX8_about 132 = .ok (.aload_n 0, 1) := by decide +kernel
theorem dX8_about_133 : decode cX8_about 133 = .ok (.getfield 26, 3) := by decide +kernel
theorem dX8_about_136 : decode cX8_about 136 = .ok (.getfield 114, 3) := by decide +kernel
theorem dX8_about_139 : decode cX8_about 139 = .ok (.invokevirtual 117, 3) := by decide +kernel
theorem dX8_about_142 : decode cX8_about 142 = .ok (.ireturn, 1) := by decide +kernel
theorem dX8_about_143 : decode cX8_about 143 = .ok (.aload_n 0, 1) := by decide +kernel
theorem dX8_about_144 : decode cX8_about 144 = .ok (.getfield 26, 3) := by decide +kernel
theorem dX8_about_147 : decode cX8_about 147 = .ok (.getfield 121, 3) := by decide +kernel
theorem dX8_about_150 : decode cX8_about 150 = .ok (.getfield 125, 3) := by decide +kernel
theorem dX8_about_153 : decode cX8_about 153 = .ok (.ireturn, 1) := by decide +kernel
theorem dX8_about_154 : decode cX8_about 154 = .ok (.aload_n 0, 1) := by decide +kernel
theorem dX8_about_155 : decode cX8_about 155 = .ok (.getfield 26, 3) := by decide +kernel
theorem dX8_about_158 : decode cX8_about 158 = .ok (.invokevirtual 130, 3) := by decide +kernel
theorem dX8_about_161 : decode cX8_about 161 = .ok (.ireturn, 1) := by decide +kernel
theorem dX8_about_162 : decode cX8_about 162 = .ok (.aload_n 0, 1) := by decide +kernel
theorem dX8_about_163 : decode cX8_about 163 = .ok (.getfield 26, 3) := by decide +kernel
theorem dX8_about_166 : decode cX8_about 166 = .ok (.getfield 114, 3) := by decide +kernel
theorem dX8_about_169 : decode cX8_about 169 = .ok (.ireturn, 1) := by decide +kernel
theorem dX8_about_170 : decode cX8_about 170 = .ok (.aload_n 0, 1) := by decide +kernel
theorem dX8_about_171 : decode cX8_about 171 = .ok (.getfield 26, 3) := by decide +kernel
theorem dX8_about_174 : decode cX8_about 174 = .ok (.getfield 133, 3) := by decide +kernel
theorem dX8_about_177 : decode cX8_about 177 = .ok (.ireturn, 1) := by decide +kernel
theorem dX8_about_178 : decode cX8_about 178 = .ok (.aload_n 0, 1) := by decide +kernel
theorem dX8_about_179 : decode cX8_about 179 = .ok (.getfield 26, 3) := by decide +kernel
theorem dX8_about_182 : decode cX8_about 182 = .ok (.getfield 136, 3) := by decide +kernel
theorem dX8_about_185 : decode cX8_about 185 = .ok (.ireturn, 1) := by decide +kernel
theorem dX8_about_186 : decode cX8_about 186 = .ok (.new 55, 3) := by decide +kernel
theorem dX8_about_189 : decode cX8_about 189 = .ok (.dup, 1) := by decide +kernel
theorem dX8_about_190 : decode cX8_about 190 = .ok (.ldc 139, 2) := by decide +kernel
theorem dX8_about_192 : decode cX8_about 192 = .ok (.invokespecial 59, 3) := by decide +kernel
theorem dX8_about_195 : decode cX8_about 195 = .ok (.athrow, 1) := by decide +kernel
theorem dX8_word_0 : decode cX8_word 0 = .ok (.aload_n 0, 1) := by decide +kernel
theorem dX8_word_1 : decode cX8_word 1 = .ok (.iload_n 1, 1) := by decide +kernel
theorem dX8_word_2 : decode cX8_word 2 = .ok (.invokevirtual 141, 3) := by decide +kernel
theorem dX8_word_5 : decode cX8_word 5 = .ok (.iload_n 2, 1) := by decide +kernel
theorem dX8_word_6 : decode cX8_word 6 = .ok (.tableswitch 168 0 7 #[46, 59, 79, 93, 107, 121, 142, 155], 46) := by decide +kernel
theorem dX8_word_52 : decode cX8_word 52 = .ok (.aload_n 0, 1) := by decide +kernel
theorem dX8_word_53 : decode cX8_word 53 = .ok (.getfield 26, 3) := by decide +kernel
theorem dX8_word_56 : decode cX8_word 56 = .ok (.getfield 144, 3) := by decide +kernel
theorem dX8_word_59 : decode cX8_word 59 = .ok (.iload_n 1, 1) := by decide +kernel
theorem dX8_word_60 : decode cX8_word 60 = .ok (.aaload, 1) := by decide +kernel
theorem dX8_word_61 : decode cX8_word 61 = .ok (.getfield 148, 3) := by decide +kernel
theorem dX8_word_64 : decode cX8_word 64 = .ok (.ireturn, 1) := by decide +kernel
theorem dX8_word_65 : decode cX8_word 65 = .ok (.aload_n 0, 1) := by decide +kernel
theorem dX8_word_66 : decode cX8_word 66 = .ok (.getfield 26, 3) := by decide +kernel
theorem dX8_word_69 : decode cX8_word 69 = .ok (.getfield 144, 3) := by decide +kernel
theorem dX8_word_72 : decode cX8_word 72 = .ok (.iload_n 1, 1) := by decide +kernel
theorem dX8_word_73 : decode cX8_word 73 = .ok (.aaload, 1) := by decide +kernel
theorem dX8_word_74 : decode cX8_word 74 = .ok (.aload_n 0, 1) := by decide +kernel
theorem dX8_word_75 : decode cX8_word 75 = .ok (.getfield 26, 3) := by decide +kernel
theorem dX8_word_78 : decode cX8_word 78 = .ok (.getfield 136, 3) := by decide +kernel
theorem dX8_word_81 : decode cX8_word 81 = .ok (.invokevirtual 151, 3) := by decide +kernel
theorem dX8_word_84 : decode cX8_word 84 = .ok (.ireturn, 1) := by decide +kernel
theorem dX8_word_85 : decode cX8_word 85 = .ok (.aload_n 0, 1) := by decide +kernel
theorem dX8_word_86 : decode cX8_word 86 = .ok (.aload_n 0, 1) := by decide +kernel
theorem dX8_word_87 : decode cX8_word 87 = .ok (.getfield 26, 3) := by decide +kernel
theorem dX8_word_90 : decode cX8_word 90 = .ok (.invokevirtual 104, 3) := by decide +kernel
theorem dX8_word_93 : decode cX8_word 93 = .ok (.getfield 154, 3) := by decide +kernel
theorem dX8_word_96 : decode cX8_word 96 = .ok (.iload_n 1, 1) := by decide +kernel
theorem dX8_word_97 : decode cX8_word 97 = .ok (.iaload, 1) := by decide +kernel
theorem dX8_word_98 : decode cX8_word 98 = .ok (.ireturn, 1) := by decide +kernel
theorem dX8_word_99 : decode cX8_word 99 = .ok (.aload_n 0, 1) := by decide +kernel
theorem dX8_word_100 : decode cX8_word 100 = .ok (.aload_n 0, 1) := by decide +kernel
theorem dX8_word_101 : decode cX8_word 101 = .ok (.getfield 26, 3) := by decide +kernel
theorem dX8_word_104 : decode cX8_word 104 = .ok (.invokevirtual 104, 3) := by decide +kernel
theorem dX8_word_107 : decode cX8_word 107 = .ok (.getfield 158, 3) := by decide +kernel
theorem dX8_word_110 : decode cX8_word 110 = .ok (.iload_n 1, 1) := by decide +kernel
theorem dX8_word_111 : decode cX8_word 111 = .ok (.iaload, 1) := by decide +kernel
theorem dX8_word_112 : decode cX8_word 112 = .ok (.ireturn, 1) := by decide +kernel
theorem dX8_word_113 : decode cX8_word 113 = .ok (.aload_n 0, 1) := by decide +kernel
theorem dX8_word_114 : decode cX8_word 114 = .ok (.aload_n 0, 1) := by decide +kernel
theorem dX8_word_115 : decode cX8_word 115 = .ok (.getfield 26, 3) := by decide +kernel
theorem dX8_word_118 : decode cX8_word 118 = .ok (.invokevirtual 104, 3) := by decide +kernel
theorem dX8_word_121 : decode cX8_word 121 = .ok (.getfield 161, 3) := by decide +kernel
theorem dX8_word_124 : decode cX8_word 124 = .ok (.iload_n 1, 1) := by decide +kernel
theorem dX8_word_125 : decode cX8_word 125 = .ok (.iaload, 1) := by decide +kernel
theorem dX8_word_126 : decode cX8_word 126 = .ok (.ireturn, 1) := by decide +kernel
theorem dX8_word_127 : decode cX8_word 127 = .ok (.aload_n 0, 1) := by decide +kernel
theorem dX8_word_128 : decode cX8_word 128 = .ok (.getfield 26, 3) := by decide +kernel
theorem dX8_word_131 : decode cX8_word 131 = .ok (.getfield 144, 3) := by decide +kernel
theorem dX8_word_134 : decode cX8_word 134 = .ok (.iload_n 1, 1) := by decide +kernel
theorem dX8_word_135 : decode cX8_word 135 = .ok (.aaload, 1) := by decide +kernel
theorem dX8_word_136 : decode cX8_word 136 = .ok (.getfield 164, 3) := by decide +kernel
theorem dX8_word_139 : decode cX8_word 139 = .ok (.ifCond .eq 7, 3) := by decide +kernel
theorem dX8_word_142 : decode cX8_word 142 = .ok (.iconst 1, 1) := by decide +kernel
theorem dX8_word_143 : decode cX8_word 143 = .ok (.goto 4, 3) := by decide +kernel
theorem dX8_word_146 : decode cX8_word 146 = .ok (.iconst 0, 1) := by decide +kernel
theorem dX8_word_147 : decode cX8_word 147 = .ok (.ireturn, 1) := by decide +kernel
theorem dX8_word_148 : decode cX8_word 148 = .ok (.aload_n 0, 1) := by decide +kernel
theorem dX8_word_149 : decode cX8_word 149 = .ok (.getfield 26, 3) := by decide +kernel
theorem dX8_word_152 : decode cX8_word 152 = .ok (.getfield 144, 3) := by decide +kernel
theorem dX8_word_155 : decode cX8_word 155 = .ok (.iload_n 1, 1) := by decide +kernel
theorem dX8_word_156 : decode cX8_word 156 = .ok (.aaload, 1) := by decide +kernel
theorem dX8_word_157 : decode cX8_word 157 = .ok (.invokevirtual 168, 3) := by decide +kernel
theorem dX8_word_160 : decode cX8_word 160 = .ok (.ireturn, 1) := by decide +kernel
theorem dX8_word_161 : decode cX8_word 161 = .ok (.aload_n 0, 1) := by decide +kernel
theorem dX8_word_162 : decode cX8_word 162 = .ok (.getfield 26, 3) := by decide +kernel
theorem dX8_word_165 : decode cX8_word 165 = .ok (.getfield 144, 3) := by decide +kernel
theorem dX8_word_168 : decode cX8_word 168 = .ok (.iload_n 1, 1) := by decide +kernel
theorem dX8_word_169 : decode cX8_word 169 = .ok (.aaload, 1) := by decide +kernel
theorem dX8_word_170 : decode cX8_word 170 = .ok (.getfield 169, 3) := by decide +kernel
theorem dX8_word_173 : decode cX8_word 173 = .ok (.ireturn, 1) := by decide +kernel
theorem dX8_word_174 : decode cX8_word 174 = .ok (.new 55, 3) := by decide +kernel
theorem dX8_word_177 : decode cX8_word 177 = .ok (.dup, 1) := by decide +kernel
theorem dX8_word_178 : decode cX8_word 178 = .ok (.ldc 172, 2) := by decide +kernel
theorem dX8_word_180 : decode cX8_word 180 = .ok (.invokespecial 59, 3) := by decide +kernel
theorem dX8_word_183 : decode cX8_word 183 = .ok (.athrow, 1) := by decide +kernel
theorem dX8_part_0 : decode cX8_part 0 = .ok (.aload_n 0, 1) := by decide +kernel
theorem dX8_part_1 : decode cX8_part 1 = .ok (.iload_n 1, 1) := by decide +kernel
theorem dX8_part_2 : decode cX8_part 2 = .ok (.iload_n 2, 1) := by decide +kernel
theorem dX8_part_3 : decode cX8_part 3 = .ok (.invokevirtual 174, 3) := by decide +kernel
theorem dX8_part_6 : decode cX8_part 6 = .ok (.iload_n 3, 1) := by decide +kernel
theorem dX8_part_7 : decode cX8_part 7 = .ok (.tableswitch 105 0 3 #[29, 47, 65, 80], 29) := by decide +kernel
theorem dX8_part_36 : decode cX8_part 36 = .ok (.aload_n 0, 1) := by decide +kernel
theorem dX8_part_37 : decode cX8_part 37 = .ok (.getfield 26, 3) := by decide +kernel
theorem dX8_part_40 : decode cX8_part 40 = .ok (.getfield 144, 3) := by decide +kernel
theorem dX8_part_43 : decode cX8_part 43 = .ok (.iload_n 1, 1) := by decide +kernel
theorem dX8_part_44 : decode cX8_part 44 = .ok (.aaload, 1) := by decide +kernel
theorem dX8_part_45 : decode cX8_part 45 = .ok (.getfield 178, 3) := by decide +kernel
theorem dX8_part_48 : decode cX8_part 48 = .ok (.iload_n 2, 1) := by decide +kernel
theorem dX8_part_49 : decode cX8_part 49 = .ok (.laload, 1) := by decide +kernel
theorem dX8_part_50 : decode cX8_part 50 = .ok (.invokestatic 182, 3) := by decide +kernel
theorem dX8_part_53 : decode cX8_part 53 = .ok (.ireturn, 1) := by decide +kernel
theorem dX8_part_54 : decode cX8_part 54 = .ok (.aload_n 0, 1) := by decide +kernel
theorem dX8_part_55 : decode cX8_part 55 = .ok (.getfield 26, 3) := by decide +kernel
theorem dX8_part_58 : decode cX8_part 58 = .ok (.getfield 144, 3) := by decide +kernel
theorem dX8_part_61 : decode cX8_part 61 = .ok (.iload_n 1, 1) := by decide +kernel
theorem dX8_part_62 : decode cX8_part 62 = .ok (.aaload, 1) := by decide +kernel
theorem dX8_part_63 : decode cX8_part 63 = .ok (.getfield 187, 3) := by decide +kernel
theorem dX8_part_66 : decode cX8_part 66 = .ok (.iload_n 2, 1) := by decide +kernel
theorem dX8_part_67 : decode cX8_part 67 = .ok (.laload, 1) := by decide +kernel
theorem dX8_part_68 : decode cX8_part 68 = .ok (.invokestatic 182, 3) := by decide +kernel
theorem dX8_part_71 : decode cX8_part 71 = .ok (.ireturn, 1) := by decide +kernel
theorem dX8_part_72 : decode cX8_part 72 = .ok (.aload_n 0, 1) := by decide +kernel
theorem dX8_part_73 : decode cX8_part 73 = .ok (.getfield 26, 3) := by decide +kernel
theorem dX8_part_76 : decode cX8_part 76 = .ok (.getfield 144, 3) := by decide +kernel
theorem dX8_part_79 : decode cX8_part 79 = .ok (.iload_n 1, 1) := by decide +kernel
theorem dX8_part_80 : decode cX8_part 80 = .ok (.aaload, 1) := by decide +kernel
theorem dX8_part_81 : decode cX8_part 81 = .ok (.getfield 190, 3) := by decide +kernel
theorem dX8_part_84 : decode cX8_part 84 = .ok (.iload_n 2, 1) := by decide +kernel
theorem dX8_part_85 : decode cX8_part 85 = .ok (.iaload, 1) := by decide +kernel
theorem dX8_part_86 : decode cX8_part 86 = .ok (.ireturn, 1) := by decide +kernel
theorem dX8_part_87 : decode cX8_part 87 = .ok (.aload_n 0, 1) := by decide +kernel
theorem dX8_part_88 : decode cX8_part 88 = .ok (.getfield 26, 3) := by decide +kernel
theorem dX8_part_91 : decode cX8_part 91 = .ok (.getfield 121, 3) := by decide +kernel
theorem dX8_part_94 : decode cX8_part 94 = .ok (.aload_n 0, 1) := by decide +kernel
theorem dX8_part_95 : decode cX8_part 95 = .ok (.getfield 26, 3) := by decide +kernel
theorem dX8_part_98 : decode cX8_part 98 = .ok (.getfield 144, 3) := by decide +kernel
theorem dX8_part_101 : decode cX8_part 101 = .ok (.iload_n 1, 1) := by decide +kernel
theorem dX8_part_102 : decode cX8_part 102 = .ok (.aaload, 1) := by decide +kernel
theorem dX8_part_103 : decode cX8_part 103 = .ok (.getfield 178, 3) := by decide +kernel
theorem dX8_part_106 : decode cX8_part 106 = .ok (.iload_n 2, 1) := by decide +kernel
theorem dX8_part_107 : decode cX8_part 107 = .ok (.laload, 1) := by decide +kernel
theorem dX8_part_108 : decode cX8_part 108 = .ok (.invokevirtual 193, 3) := by decide +kernel
theorem dX8_part_111 : decode cX8_part 111 = .ok (.ireturn, 1) := by decide +kernel
theorem dX8_part_112 : decode cX8_part 112 = .ok (.new 55, 3) := by decide +kernel
theorem dX8_part_115 : decode cX8_part 115 = .ok (.dup, 1) := by decide +kernel
theorem dX8_part_116 : decode cX8_part 116 = .ok (.ldc 196, 2) := by decide +kernel
theorem dX8_part_118 : decode cX8_part 118 = .ok (.invokespecial 59, 3) := by decide +kernel
theorem dX8_part_121 : decode cX8_part 121 = .ok (.athrow, 1) := by decide +kernel
theorem dX8_letter_0 : decode cX8_letter 0 = .ok (.aload_n 0, 1) := by decide +kernel
theorem dX8_letter_1 : decode cX8_letter 1 = .ok (.iload_n 1, 1) := by decide +kernel
theorem dX8_letter_2 : decode cX8_letter 2 = .ok (.iload_n 2, 1) := by decide +kernel
theorem dX8_letter_3 : decode cX8_letter 3 = .ok (.invokevirtual 174, 3) := by decide +kernel
theorem dX8_letter_6 : decode cX8_letter 6 = .ok (.aload_n 0, 1) := by decide +kernel
theorem dX8_letter_7 : decode cX8_letter 7 = .ok (.iload 4, 2) := by decide +kernel
theorem dX8_letter_9 : decode cX8_letter 9 = .ok (.invokevirtual 198, 3) := by decide +kernel
theorem dX8_letter_12 : decode cX8_letter 12 = .ok (.iload_n 3, 1) := by decide +kernel
theorem dX8_letter_13 : decode cX8_letter 13 = .ok (.ifCond .eq 20, 3) := by decide +kernel
theorem dX8_letter_16 : decode cX8_letter 16 = .ok (.aload_n 0, 1) := by decide +kernel
theorem dX8_letter_17 : decode cX8_letter 17 = .ok (.getfield 26, 3) := by decide +kernel
theorem dX8_letter_20 : decode cX8_letter 20 = .ok (.getfield 144, 3) := by decide +kernel
theorem dX8_letter_23 : decode cX8_letter 23 = .ok (.iload_n 1, 1) := by decide +kernel
theorem dX8_letter_24 : decode cX8_letter 24 = .ok (.aaload, 1) := by decide +kernel
theorem dX8_letter_25 : decode cX8_letter 25 = .ok (.getfield 187, 3) := by decide +kernel
theorem dX8_letter_28 : decode cX8_letter 28 = .ok (.iload_n 2, 1) := by decide +kernel
theorem dX8_letter_29 : decode cX8_letter 29 = .ok (.laload, 1) := by decide +kernel
theorem dX8_letter_30 : decode cX8_letter 30 = .ok (.goto 17, 3) := by decide +kernel
theorem dX8_letter_33 : decode cX8_letter 33 = .ok (.aload_n 0, 1) := by decide +kernel
theorem dX8_letter_34 : decode cX8_letter 34 = .ok (.getfield 26, 3) := by decide +kernel
theorem dX8_letter_37 : decode cX8_letter 37 = .ok (.getfield 144, 3) := by decide +kernel
theorem dX8_letter_40 : decode cX8_letter 40 = .ok (.iload_n 1, 1) := by decide +kernel
theorem dX8_letter_41 : decode cX8_letter 41 = .ok (.aaload, 1) := by decide +kernel
theorem dX8_letter_42 : decode cX8_letter 42 = .ok (.getfield 178, 3) := by decide +kernel
theorem dX8_letter_45 : decode cX8_letter 45 = .ok (.iload_n 2, 1) := by decide +kernel
theorem dX8_letter_46 : decode cX8_letter 46 = .ok (.laload, 1) := by decide +kernel
theorem dX8_letter_47 : decode cX8_letter 47 = .ok (.iload 4, 2) := by decide +kernel
theorem dX8_letter_49 : decode cX8_letter 49 = .ok (.invokestatic 201, 3) := by decide +kernel
theorem dX8_letter_52 : decode cX8_letter 52 = .ok (.ireturn, 1) := by decide +kernel
theorem dX8_entry_0 : decode cX8_entry 0 = .ok (.aload_n 0, 1) := by decide +kernel
theorem dX8_entry_1 : decode cX8_entry 1 = .ok (.iload_n 1, 1) := by decide +kernel
theorem dX8_entry_2 : decode cX8_entry 2 = .ok (.invokevirtual 205, 3) := by decide +kernel
theorem dX8_entry_5 : decode cX8_entry 5 = .ok (.aload_n 0, 1) := by decide +kernel
theorem dX8_entry_6 : decode cX8_entry 6 = .ok (.iload_n 3, 1) := by decide +kernel
theorem dX8_entry_7 : decode cX8_entry 7 = .ok (.invokevirtual 198, 3) := by decide +kernel
theorem dX8_entry_10 : decode cX8_entry 10 = .ok (.iload_n 2, 1) := by decide +kernel
theorem dX8_entry_11 : decode cX8_entry 11 = .ok (.ifCond .eq 18, 3) := by decide +kernel
theorem dX8_entry_14 : decode cX8_entry 14 = .ok (.aload_n 0, 1) := by decide +kernel
theorem dX8_entry_15 : decode cX8_entry 15 = .ok (.getfield 26, 3) := by decide +kernel
theorem dX8_entry_18 : decode cX8_entry 18 = .ok (.getfield 121, 3) := by decide +kernel
theorem dX8_entry_21 : decode cX8_entry 21 = .ok (.getfield 208, 3) := by decide +kernel
theorem dX8_entry_24 : decode cX8_entry 24 = .ok (.iload_n 1, 1) := by decide +kernel
theorem dX8_entry_25 : decode cX8_entry 25 = .ok (.laload, 1) := by decide +kernel
theorem dX8_entry_26 : decode cX8_entry 26 = .ok (.goto 15, 3) := by decide +kernel
theorem dX8_entry_29 : decode cX8_entry 29 = .ok (.aload_n 0, 1) := by decide +kernel
theorem dX8_entry_30 : decode cX8_entry 30 = .ok (.getfield 26, 3) := by decide +kernel
theorem dX8_entry_33 : decode cX8_entry 33 = .ok (.getfield 121, 3) := by decide +kernel
theorem dX8_entry_36 : decode cX8_entry 36 = .ok (.getfield 209, 3) := by decide +kernel
theorem dX8_entry_39 : decode cX8_entry 39 = .ok (.iload_n 1, 1) := by decide +kernel
theorem dX8_entry_40 : decode cX8_entry 40 = .ok (.laload, 1) := by decide +kernel
theorem dX8_entry_41 : decode cX8_entry 41 = .ok (.iload_n 3, 1) := by decide +kernel
theorem dX8_entry_42 : decode cX8_entry 42 = .ok (.invokestatic 201, 3) := by decide +kernel
theorem dX8_entry_45 : decode cX8_entry 45 = .ok (.ireturn, 1) := by decide +kernel
theorem dX8_row_0 : decode cX8_row 0 = .ok (.aload_n 0, 1) := by decide +kernel
theorem dX8_row_1 : decode cX8_row 1 = .ok (.iload_n 1, 1) := by decide +kernel
theorem dX8_row_2 : decode cX8_row 2 = .ok (.invokevirtual 210, 3) := by decide +kernel
theorem dX8_row_5 : decode cX8_row 5 = .ok (.iload_n 2, 1) := by decide +kernel
theorem dX8_row_6 : decode cX8_row 6 = .ok (.tableswitch 65 0 2 #[26, 39, 52], 26) := by decide +kernel
theorem dX8_row_32 : decode cX8_row 32 = .ok (.aload_n 0, 1) := by decide +kernel
theorem dX8_row_33 : decode cX8_row 33 = .ok (.getfield 36, 3) := by decide +kernel
theorem dX8_row_36 : decode cX8_row 36 = .ok (.aload_n 0, 1) := by decide +kernel
theorem dX8_row_37 : decode cX8_row 37 = .ok (.getfield 26, 3) := by decide +kernel
theorem dX8_row_40 : decode cX8_row 40 = .ok (.iload_n 1, 1) := by decide +kernel
theorem dX8_row_41 : decode cX8_row 41 = .ok (.invokevirtual 213, 3) := by decide +kernel
theorem dX8_row_44 : decode cX8_row 44 = .ok (.ireturn, 1) := by decide +kernel
theorem dX8_row_45 : decode cX8_row 45 = .ok (.aload_n 0, 1) := by decide +kernel
theorem dX8_row_46 : decode cX8_row 46 = .ok (.getfield 36, 3) := by decide +kernel
theorem dX8_row_49 : decode cX8_row 49 = .ok (.aload_n 0, 1) := by decide +kernel
theorem dX8_row_50 : decode cX8_row 50 = .ok (.getfield 26, 3) := by decide +kernel
theorem dX8_row_53 : decode cX8_row 53 = .ok (.iload_n 1, 1) := by decide +kernel
theorem dX8_row_54 : decode cX8_row 54 = .ok (.invokevirtual 216, 3) := by decide +kernel
theorem dX8_row_57 : decode cX8_row 57 = .ok (.ireturn, 1) := by decide +kernel
theorem dX8_row_58 : decode cX8_row 58 = .ok (.aload_n 0, 1) := by decide +kernel
theorem dX8_row_59 : decode cX8_row 59 = .ok (.getfield 36, 3) := by decide +kernel
theorem dX8_row_62 : decode cX8_row 62 = .ok (.aload_n 0, 1) := by decide +kernel
theorem dX8_row_63 : decode cX8_row 63 = .ok (.getfield 26, 3) := by decide +kernel
theorem dX8_row_66 : decode cX8_row 66 = .ok (.iload_n 1, 1) := by decide +kernel
theorem dX8_row_67 : decode cX8_row 67 = .ok (.invokevirtual 219, 3) := by decide +kernel
theorem dX8_row_70 : decode cX8_row 70 = .ok (.ireturn, 1) := by decide +kernel
theorem dX8_row_71 : decode cX8_row 71 = .ok (.new 55, 3) := by decide +kernel
theorem dX8_row_74 : decode cX8_row 74 = .ok (.dup, 1) := by decide +kernel
theorem dX8_row_75 : decode cX8_row 75 = .ok (.ldc 222, 2) := by decide +kernel
theorem dX8_row_77 : decode cX8_row 77 = .ok (.invokespecial 59, 3) := by decide +kernel
theorem dX8_row_80 : decode cX8_row 80 = .ok (.athrow, 1) := by decide +kernel
theorem dX8_at_0 : decode cX8_at 0 = .ok (.aload_n 0, 1) := by decide +kernel
theorem dX8_at_1 : decode cX8_at 1 = .ok (.iload_n 1, 1) := by decide +kernel
theorem dX8_at_2 : decode cX8_at 2 = .ok (.invokevirtual 210, 3) := by decide +kernel
theorem dX8_at_5 : decode cX8_at 5 = .ok (.aload_n 0, 1) := by decide +kernel
theorem dX8_at_6 : decode cX8_at 6 = .ok (.iload_n 2, 1) := by decide +kernel
theorem dX8_at_7 : decode cX8_at 7 = .ok (.invokevirtual 198, 3) := by decide +kernel
theorem dX8_at_10 : decode cX8_at 10 = .ok (.aload_n 0, 1) := by decide +kernel
theorem dX8_at_11 : decode cX8_at 11 = .ok (.getfield 36, 3) := by decide +kernel
theorem dX8_at_14 : decode cX8_at 14 = .ok (.aload_n 0, 1) := by decide +kernel
theorem dX8_at_15 : decode cX8_at 15 = .ok (.getfield 26, 3) := by decide +kernel
theorem dX8_at_18 : decode cX8_at 18 = .ok (.iload_n 1, 1) := by decide +kernel
theorem dX8_at_19 : decode cX8_at 19 = .ok (.iload_n 2, 1) := by decide +kernel
theorem dX8_at_20 : decode cX8_at 20 = .ok (.invokevirtual 224, 3) := by decide +kernel
theorem dX8_at_23 : decode cX8_at 23 = .ok (.ireturn, 1) := by decide +kernel
theorem dX8_insert_0 : decode cX8_insert 0 = .ok (.iload_n 1, 1) := by decide +kernel
theorem dX8_insert_1 : decode cX8_insert 1 = .ok (.ifCond .lt 14, 3) := by decide +kernel
theorem dX8_insert_4 : decode cX8_insert 4 = .ok (.iload_n 1, 1) := by decide +kernel
theorem dX8_insert_5 : decode cX8_insert 5 = .ok (.aload_n 0, 1) := by decide +kernel
theorem dX8_insert_6 : decode cX8_insert 6 = .ok (.getfield 26, 3) := by decide +kernel
theorem dX8_insert_9 : decode cX8_insert 9 = .ok (.getfield 91, 3) := by decide +kernel
theorem dX8_insert_12 : decode cX8_insert 12 = .ok (.if_icmp .le 13, 3) := by decide +kernel
theorem dX8_insert_15 : decode cX8_insert 15 = .ok (.new 228, 3) := by decide +kernel
theorem dX8_insert_18 : decode cX8_insert 18 = .ok (.dup, 1) := by decide +kernel
theorem dX8_insert_19 : decode cX8_insert 19 = .ok (.ldc 230, 2) := by decide +kernel
theorem dX8_insert_21 : decode cX8_insert 21 = .ok (.invokespecial 232, 3) := by decide +kernel
theorem dX8_insert_24 : decode cX8_insert 24 = .ok (.athrow, 1) := by decide +kernel
theorem dX8_insert_25 : decode cX8_insert 25 = .ok (.aload_n 0, 1) := by decide +kernel
theorem dX8_insert_26 : decode cX8_insert 26 = .ok (.getfield 19, 3) := by decide +kernel
theorem dX8_insert_29 : decode cX8_insert 29 = .ok (.aload_n 0, 1) := by decide +kernel
theorem dX8_insert_30 : decode cX8_insert 30 = .ok (.getfield 10, 3) := by decide +kernel
theorem dX8_insert_33 : decode cX8_insert 33 = .ok (.invokevirtual 75, 3) := by decide +kernel
theorem dX8_insert_36 : decode cX8_insert 36 = .ok (.bipush (-9), 2) := by decide +kernel
theorem dX8_insert_38 : decode cX8_insert 38 = .ok (.if_icmp .eq 13, 3) := by decide +kernel
theorem dX8_insert_41 : decode cX8_insert 41 = .ok (.new 66, 3) := by decide +kernel
theorem dX8_insert_44 : decode cX8_insert 44 = .ok (.dup, 1) := by decide +kernel
theorem dX8_insert_45 : decode cX8_insert 45 = .ok (.ldc 79, 2) := by decide +kernel
theorem dX8_insert_47 : decode cX8_insert 47 = .ok (.invokespecial 70, 3) := by decide +kernel
theorem dX8_insert_50 : decode cX8_insert 50 = .ok (.athrow, 1) := by decide +kernel
theorem dX8_insert_51 : decode cX8_insert 51 = .ok (.aload_n 0, 1) := by decide +kernel
theorem dX8_insert_52 : decode cX8_insert 52 = .ok (.getfield 26, 3) := by decide +kernel
theorem dX8_insert_55 : decode cX8_insert 55 = .ok (.getfield 91, 3) := by decide +kernel
theorem dX8_insert_58 : decode cX8_insert 58 = .ok (.aload_n 0, 1) := by decide +kernel
theorem dX8_insert_59 : decode cX8_insert 59 = .ok (.getfield 19, 3) := by decide +kernel
theorem dX8_insert_62 : decode cX8_insert 62 = .ok (.getfield 233, 3) := by decide +kernel
theorem dX8_insert_65 : decode cX8_insert 65 = .ok (.iadd, 1) := by decide +kernel
theorem dX8_insert_66 : decode cX8_insert 66 = .ok (.bipush 12, 2) := by decide +kernel
theorem dX8_insert_68 : decode cX8_insert 68 = .ok (.if_icmp .le 13, 3) := by decide +kernel
theorem dX8_insert_71 : decode cX8_insert 71 = .ok (.new 66, 3) := by decide +kernel
theorem dX8_insert_74 : decode cX8_insert 74 = .ok (.dup, 1) := by decide +kernel
theorem dX8_insert_75 : decode cX8_insert 75 = .ok (.ldc 234, 2) := by decide +kernel
theorem dX8_insert_77 : decode cX8_insert 77 = .ok (.invokespecial 70, 3) := by decide +kernel
theorem dX8_insert_80 : decode cX8_insert 80 = .ok (.athrow, 1) := by decide +kernel
theorem dX8_insert_81 : decode cX8_insert 81 = .ok (.aload_n 0, 1) := by decide +kernel
theorem dX8_insert_82 : decode cX8_insert 82 = .ok (.getfield 43, 3) := by decide +kernel
theorem dX8_insert_85 : decode cX8_insert 85 = .ok (.aload_n 0, 1) := by decide +kernel
theorem dX8_insert_86 : decode cX8_insert 86 = .ok (.getfield 26, 3) := by decide +kernel
theorem dX8_insert_89 : decode cX8_insert 89 = .ok (.invokevirtual 236, 3) := by decide +kernel
theorem dX8_insert_92 : decode cX8_insert 92 = .ok (.aload_n 0, 1) := by decide +kernel
theorem dX8_insert_93 : decode cX8_insert 93 = .ok (.getfield 26, 3) := by decide +kernel
theorem dX8_insert_96 : decode cX8_insert 96 = .ok (.aload_n 0, 1) := by decide +kernel
theorem dX8_insert_97 : decode cX8_insert 97 = .ok (.getfield 19, 3) := by decide +kernel
theorem dX8_insert_100 : decode cX8_insert 100 = .ok (.iload_n 1, 1) := by decide +kernel
theorem dX8_insert_101 : decode cX8_insert 101 = .ok (.invokevirtual 84, 3) := by decide +kernel
theorem dX8_insert_104 : decode cX8_insert 104 = .ok (.aload_n 0, 1) := by decide +kernel
theorem dX8_insert_105 : decode cX8_insert 105 = .ok (.getfield 26, 3) := by decide +kernel
theorem dX8_insert_108 : decode cX8_insert 108 = .ok (.getfield 91, 3) := by decide +kernel
theorem dX8_insert_111 : decode cX8_insert 111 = .ok (.ireturn, 1) := by decide +kernel
theorem dX8_remove_0 : decode cX8_remove 0 = .ok (.aload_n 0, 1) := by decide +kernel
theorem dX8_remove_1 : decode cX8_remove 1 = .ok (.iload_n 1, 1) := by decide +kernel
theorem dX8_remove_2 : decode cX8_remove 2 = .ok (.invokevirtual 141, 3) := by decide +kernel
theorem dX8_remove_5 : decode cX8_remove 5 = .ok (.aload_n 0, 1) := by decide +kernel
theorem dX8_remove_6 : decode cX8_remove 6 = .ok (.getfield 43, 3) := by decide +kernel
theorem dX8_remove_9 : decode cX8_remove 9 = .ok (.aload_n 0, 1) := by decide +kernel
theorem dX8_remove_10 : decode cX8_remove 10 = .ok (.getfield 26, 3) := by decide +kernel
theorem dX8_remove_13 : decode cX8_remove 13 = .ok (.invokevirtual 236, 3) := by decide +kernel
theorem dX8_remove_16 : decode cX8_remove 16 = .ok (.aload_n 0, 1) := by decide +kernel
theorem dX8_remove_17 : decode cX8_remove 17 = .ok (.getfield 26, 3) := by decide +kernel
theorem dX8_remove_20 : decode cX8_remove 20 = .ok (.iload_n 1, 1) := by decide +kernel
theorem dX8_remove_21 : decode cX8_remove 21 = .ok (.invokevirtual 240, 3) := by decide +kernel
theorem dX8_remove_24 : decode cX8_remove 24 = .ok (.aload_n 0, 1) := by decide +kernel
theorem dX8_remove_25 : decode cX8_remove 25 = .ok (.getfield 26, 3) := by decide +kernel
theorem dX8_remove_28 : decode cX8_remove 28 = .ok (.getfield 91, 3) := by decide +kernel
theorem dX8_remove_31 : decode cX8_remove 31 = .ok (.ireturn, 1) := by decide +kernel
theorem dX8_end_0 : decode cX8_end 0 = .ok (.aload_n 0, 1) := by decide +kernel
theorem dX8_end_1 : decode cX8_end 1 = .ok (.iload_n 1, 1) := by decide +kernel
theorem dX8_end_2 : decode cX8_end 2 = .ok (.invokevirtual 141, 3) := by decide +kernel
theorem dX8_end_5 : decode cX8_end 5 = .ok (.aload_n 0, 1) := by decide +kernel
theorem dX8_end_6 : decode cX8_end 6 = .ok (.getfield 43, 3) := by decide +kernel
theorem dX8_end_9 : decode cX8_end 9 = .ok (.aload_n 0, 1) := by decide +kernel
theorem dX8_end_10 : decode cX8_end 10 = .ok (.getfield 26, 3) := by decide +kernel
theorem dX8_end_13 : decode cX8_end 13 = .ok (.invokevirtual 236, 3) := by decide +kernel
theorem dX8_end_16 : decode cX8_end 16 = .ok (.aload_n 0, 1) := by decide +kernel
theorem dX8_end_17 : decode cX8_end 17 = .ok (.getfield 26, 3) := by decide +kernel
theorem dX8_end_20 : decode cX8_end 20 = .ok (.getfield 144, 3) := by decide +kernel
theorem dX8_end_23 : decode cX8_end 23 = .ok (.iload_n 1, 1) := by decide +kernel
theorem dX8_end_24 : decode cX8_end 24 = .ok (.aaload, 1) := by decide +kernel
theorem dX8_end_25 : decode cX8_end 25 = .ok (.iconst 1, 1) := by decide +kernel
theorem dX8_end_26 : decode cX8_end 26 = .ok (.putfield 164, 3) := by decide +kernel
theorem dX8_end_29 : decode cX8_end 29 = .ok (.aload_n 0, 1) := by decide +kernel
theorem dX8_end_30 : decode cX8_end 30 = .ok (.getfield 26, 3) := by decide +kernel
theorem dX8_end_33 : decode cX8_end 33 = .ok (.invokevirtual 101, 3) := by decide +kernel
theorem dX8_end_36 : decode cX8_end 36 = .ok (.ireturn, 1) := by decide +kernel
theorem dX8_join_0 : decode cX8_join 0 = .ok (.aload_n 0, 1) := by decide +kernel
theorem dX8_join_1 : decode cX8_join 1 = .ok (.iload_n 1, 1) := by decide +kernel
theorem dX8_join_2 : decode cX8_join 2 = .ok (.invokevirtual 141, 3) := by decide +kernel
theorem dX8_join_5 : decode cX8_join 5 = .ok (.aload_n 0, 1) := by decide +kernel
theorem dX8_join_6 : decode cX8_join 6 = .ok (.getfield 43, 3) := by decide +kernel
theorem dX8_join_9 : decode cX8_join 9 = .ok (.aload_n 0, 1) := by decide +kernel
theorem dX8_join_10 : decode cX8_join 10 = .ok (.getfield 26, 3) := by decide +kernel
theorem dX8_join_13 : decode cX8_join 13 = .ok (.invokevirtual 236, 3) := by decide +kernel
theorem dX8_join_16 : decode cX8_join 16 = .ok (.aload_n 0, 1) := by decide +kernel
theorem dX8_join_17 : decode cX8_join 17 = .ok (.getfield 26, 3) := by decide +kernel
theorem dX8_join_20 : decode cX8_join 20 = .ok (.getfield 144, 3) := by decide +kernel
theorem dX8_join_23 : decode cX8_join 23 = .ok (.iload_n 1, 1) := by decide +kernel
theorem dX8_join_24 : decode cX8_join 24 = .ok (.aaload, 1) := by decide +kernel
theorem dX8_join_25 : decode cX8_join 25 = .ok (.invokevirtual 243, 3) := by decide +kernel
theorem dX8_join_28 : decode cX8_join 28 = .ok (.aload_n 0, 1) := by decide +kernel
theorem dX8_join_29 : decode cX8_join 29 = .ok (.getfield 26, 3) := by decide +kernel
theorem dX8_join_32 : decode cX8_join 32 = .ok (.invokevirtual 101, 3) := by decide +kernel
theorem dX8_join_35 : decode cX8_join 35 = .ok (.ireturn, 1) := by decide +kernel
theorem dX8_setFree_0 : decode cX8_setFree 0 = .ok (.aload_n 0, 1) := by decide +kernel
theorem dX8_setFree_1 : decode cX8_setFree 1 = .ok (.iload_n 1, 1) := by decide +kernel
theorem dX8_setFree_2 : decode cX8_setFree 2 = .ok (.invokevirtual 141, 3) := by decide +kernel
theorem dX8_setFree_5 : decode cX8_setFree 5 = .ok (.aload_n 0, 1) := by decide +kernel
theorem dX8_setFree_6 : decode cX8_setFree 6 = .ok (.getfield 10, 3) := by decide +kernel
theorem dX8_setFree_9 : decode cX8_setFree 9 = .ok (.invokevirtual 246, 3) := by decide +kernel
theorem dX8_setFree_12 : decode cX8_setFree 12 = .ok (.ifCond .ne 13, 3) := by decide +kernel
theorem dX8_setFree_15 : decode cX8_setFree 15 = .ok (.new 66, 3) := by decide +kernel
theorem dX8_setFree_18 : decode cX8_setFree 18 = .ok (.dup, 1) := by decide +kernel
theorem dX8_setFree_19 : decode cX8_setFree 19 = .ok (.ldc 250, 2) := by decide +kernel
theorem dX8_setFree_21 : decode cX8_setFree 21 = .ok (.invokespecial 70, 3) := by decide +kernel
theorem dX8_setFree_24 : decode cX8_setFree 24 = .ok (.athrow, 1) := by decide +kernel
theorem dX8_setFree_25 : decode cX8_setFree 25 = .ok (.aload_n 0, 1) := by decide +kernel
theorem dX8_setFree_26 : decode cX8_setFree 26 = .ok (.getfield 43, 3) := by decide +kernel
theorem dX8_setFree_29 : decode cX8_setFree 29 = .ok (.aload_n 0, 1) := by decide +kernel
theorem dX8_setFree_30 : decode cX8_setFree 30 = .ok (.getfield 26, 3) := by decide +kernel
theorem dX8_setFree_33 : decode cX8_setFree 33 = .ok (.invokevirtual 236, 3) := by decide +kernel
theorem dX8_setFree_36 : decode cX8_setFree 36 = .ok (.aload_n 0, 1) := by decide +kernel
theorem dX8_setFree_37 : decode cX8_setFree 37 = .ok (.getfield 26, 3) := by decide +kernel
theorem dX8_setFree_40 : decode cX8_setFree 40 = .ok (.getfield 144, 3) := by decide +kernel
theorem dX8_setFree_43 : decode cX8_setFree 43 = .ok (.iload_n 1, 1) := by decide +kernel
theorem dX8_setFree_44 : decode cX8_setFree 44 = .ok (.aaload, 1) := by decide +kernel
theorem dX8_setFree_45 : decode cX8_setFree 45 = .ok (.aload_n 0, 1) := by decide +kernel
theorem dX8_setFree_46 : decode cX8_setFree 46 = .ok (.getfield 10, 3) := by decide +kernel
theorem dX8_setFree_49 : decode cX8_setFree 49 = .ok (.invokevirtual 252, 3) := by decide +kernel
theorem dX8_setFree_52 : decode cX8_setFree 52 = .ok (.aload_n 0, 1) := by decide +kernel
theorem dX8_setFree_53 : decode cX8_setFree 53 = .ok (.getfield 26, 3) := by decide +kernel
theorem dX8_setFree_56 : decode cX8_setFree 56 = .ok (.getfield 144, 3) := by decide +kernel
theorem dX8_setFree_59 : decode cX8_setFree 59 = .ok (.iload_n 1, 1) := by decide +kernel
theorem dX8_setFree_60 : decode cX8_setFree 60 = .ok (.aaload, 1) := by decide +kernel
theorem dX8_setFree_61 : decode cX8_setFree 61 = .ok (.getfield 169, 3) := by decide +kernel
theorem dX8_setFree_64 : decode cX8_setFree 64 = .ok (.ireturn, 1) := by decide +kernel
theorem dX8_setGloss_0 : decode cX8_setGloss 0 = .ok (.aload_n 0, 1) := by decide +kernel
theorem dX8_setGloss_1 : decode cX8_setGloss 1 = .ok (.iload_n 1, 1) := by decide +kernel
theorem dX8_setGloss_2 : decode cX8_setGloss 2 = .ok (.iload_n 2, 1) := by decide +kernel
theorem dX8_setGloss_3 : decode cX8_setGloss 3 = .ok (.invokevirtual 174, 3) := by decide +kernel
theorem dX8_setGloss_6 : decode cX8_setGloss 6 = .ok (.aload_n 0, 1) := by decide +kernel
theorem dX8_setGloss_7 : decode cX8_setGloss 7 = .ok (.getfield 10, 3) := by decide +kernel
theorem dX8_setGloss_10 : decode cX8_setGloss 10 = .ok (.invokevirtual 256, 3) := by decide +kernel
theorem dX8_setGloss_13 : decode cX8_setGloss 13 = .ok (.ifCond .ne 14, 3) := by decide +kernel
theorem dX8_setGloss_16 : decode cX8_setGloss 16 = .ok (.new 66, 3) := by decide +kernel
theorem dX8_setGloss_19 : decode cX8_setGloss 19 = .ok (.dup, 1) := by decide +kernel
theorem dX8_setGloss_20 : decode cX8_setGloss 20 = .ok (.ldc_w 259, 3) := by decide +kernel
theorem dX8_setGloss_23 : decode cX8_setGloss 23 = .ok (.invokespecial 70, 3) := by decide +kernel
theorem dX8_setGloss_26 : decode cX8_setGloss 26 = .ok (.athrow, 1) := by decide +kernel
theorem dX8_setGloss_27 : decode cX8_setGloss 27 = .ok (.aload_n 0, 1) := by decide +kernel
theorem dX8_setGloss_28 : decode cX8_setGloss 28 = .ok (.getfield 43, 3) := by decide +kernel
theorem dX8_setGloss_31 : decode cX8_setGloss 31 = .ok (.aload_n 0, 1) := by decide +kernel
theorem dX8_setGloss_32 : decode cX8_setGloss 32 = .ok (.getfield 26, 3) := by decide +kernel
theorem dX8_setGloss_35 : decode cX8_setGloss 35 = .ok (.invokevirtual 236, 3) := by decide +kernel
theorem dX8_setGloss_38 : decode cX8_setGloss 38 = .ok (.aload_n 0, 1) := by decide +kernel
theorem dX8_setGloss_39 : decode cX8_setGloss 39 = .ok (.getfield 26, 3) := by decide +kernel
theorem dX8_setGloss_42 : decode cX8_setGloss 42 = .ok (.getfield 144, 3) := by decide +kernel
theorem dX8_setGloss_45 : decode cX8_setGloss 45 = .ok (.iload_n 1, 1) := by decide +kernel
theorem dX8_setGloss_46 : decode cX8_setGloss 46 = .ok (.aaload, 1) := by decide +kernel
theorem dX8_setGloss_47 : decode cX8_setGloss 47 = .ok (.getfield 187, 3) := by decide +kernel
theorem dX8_setGloss_50 : decode cX8_setGloss 50 = .ok (.iload_n 2, 1) := by decide +kernel
theorem dX8_setGloss_51 : decode cX8_setGloss 51 = .ok (.aload_n 0, 1) := by decide +kernel
theorem dX8_setGloss_52 : decode cX8_setGloss 52 = .ok (.getfield 10, 3) := by decide +kernel
theorem dX8_setGloss_55 : decode cX8_setGloss 55 = .ok (.invokevirtual 261, 3) := by decide +kernel
theorem dX8_setGloss_58 : decode cX8_setGloss 58 = .ok (.lastore, 1) := by decide +kernel
theorem dX8_setGloss_59 : decode cX8_setGloss 59 = .ok (.aload_n 0, 1) := by decide +kernel
theorem dX8_setGloss_60 : decode cX8_setGloss 60 = .ok (.getfield 26, 3) := by decide +kernel
theorem dX8_setGloss_63 : decode cX8_setGloss 63 = .ok (.invokevirtual 98, 3) := by decide +kernel
theorem dX8_setGloss_66 : decode cX8_setGloss 66 = .ok (.ireturn, 1) := by decide +kernel
theorem dX8_set_0 : decode cX8_set 0 = .ok (.iload_n 1, 1) := by decide +kernel
theorem dX8_set_1 : decode cX8_set 1 = .ok (.iload_n 2, 1) := by decide +kernel
theorem dX8_set_2 : decode cX8_set 2 = .ok (.invokestatic 265, 3) := by decide +kernel
theorem dX8_set_5 : decode cX8_set 5 = .ok (.ifCond .ne 14, 3) := by decide +kernel
theorem dX8_set_8 : decode cX8_set 8 = .ok (.new 55, 3) := by decide +kernel
theorem dX8_set_11 : decode cX8_set 11 = .ok (.dup, 1) := by decide +kernel
theorem dX8_set_12 : decode cX8_set 12 = .ok (.ldc_w 269, 3) := by decide +kernel
theorem dX8_set_15 : decode cX8_set 15 = .ok (.invokespecial 59, 3) := by decide +kernel
theorem dX8_set_18 : decode cX8_set 18 = .ok (.athrow, 1) := by decide +kernel
theorem dX8_set_19 : decode cX8_set 19 = .ok (.aload_n 0, 1) := by decide +kernel
theorem dX8_set_20 : decode cX8_set 20 = .ok (.getfield 43, 3) := by decide +kernel
theorem dX8_set_23 : decode cX8_set 23 = .ok (.aload_n 0, 1) := by decide +kernel
theorem dX8_set_24 : decode cX8_set 24 = .ok (.getfield 26, 3) := by decide +kernel
theorem dX8_set_27 : decode cX8_set 27 = .ok (.invokevirtual 236, 3) := by decide +kernel
theorem dX8_set_30 : decode cX8_set 30 = .ok (.aload_n 0, 1) := by decide +kernel
theorem dX8_set_31 : decode cX8_set 31 = .ok (.getfield 26, 3) := by decide +kernel
theorem dX8_set_34 : decode cX8_set 34 = .ok (.iload_n 1, 1) := by decide +kernel
theorem dX8_set_35 : decode cX8_set 35 = .ok (.iload_n 2, 1) := by decide +kernel
theorem dX8_set_36 : decode cX8_set 36 = .ok (.invokevirtual 271, 3) := by decide +kernel
theorem dX8_set_39 : decode cX8_set 39 = .ok (.ireturn, 1) := by decide +kernel
theorem dX8_learn_0 : decode cX8_learn 0 = .ok (.aload_n 0, 1) := by decide +kernel
theorem dX8_learn_1 : decode cX8_learn 1 = .ok (.iload_n 1, 1) := by decide +kernel
theorem dX8_learn_2 : decode cX8_learn 2 = .ok (.iload_n 2, 1) := by decide +kernel
theorem dX8_learn_3 : decode cX8_learn 3 = .ok (.invokevirtual 174, 3) := by decide +kernel
theorem dX8_learn_6 : decode cX8_learn 6 = .ok (.aload_n 0, 1) := by decide +kernel
theorem dX8_learn_7 : decode cX8_learn 7 = .ok (.getfield 26, 3) := by decide +kernel
theorem dX8_learn_10 : decode cX8_learn 10 = .ok (.iload_n 1, 1) := by decide +kernel
theorem dX8_learn_11 : decode cX8_learn 11 = .ok (.iload_n 2, 1) := by decide +kernel
theorem dX8_learn_12 : decode cX8_learn 12 = .ok (.invokevirtual 275, 3) := by decide +kernel
theorem dX8_learn_15 : decode cX8_learn 15 = .ok (.ifCond .ne 14, 3) := by decide +kernel
theorem dX8_learn_18 : decode cX8_learn 18 = .ok (.new 66, 3) := by decide +kernel
theorem dX8_learn_21 : decode cX8_learn 21 = .ok (.dup, 1) := by decide +kernel
theorem dX8_learn_22 : decode cX8_learn 22 = .ok (.ldc_w 278, 3) := by decide +kernel
theorem dX8_learn_25 : decode cX8_learn 25 = .ok (.invokespecial 70, 3) := by decide +kernel
theorem dX8_learn_28 : decode cX8_learn 28 = .ok (.athrow, 1) := by decide +kernel
theorem dX8_learn_29 : decode cX8_learn 29 = .ok (.aload_n 0, 1) := by decide +kernel
theorem dX8_learn_30 : decode cX8_learn 30 = .ok (.getfield 43, 3) := by decide +kernel
theorem dX8_learn_33 : decode cX8_learn 33 = .ok (.aload_n 0, 1) := by decide +kernel
theorem dX8_learn_34 : decode cX8_learn 34 = .ok (.getfield 26, 3) := by decide +kernel
theorem dX8_learn_37 : decode cX8_learn 37 = .ok (.invokevirtual 236, 3) := by decide +kernel
theorem dX8_learn_40 : decode cX8_learn 40 = .ok (.aload_n 0, 1) := by decide +kernel
theorem dX8_learn_41 : decode cX8_learn 41 = .ok (.getfield 26, 3) := by decide +kernel
theorem dX8_learn_44 : decode cX8_learn 44 = .ok (.iload_n 1, 1) := by decide +kernel
theorem dX8_learn_45 : decode cX8_learn 45 = .ok (.iload_n 2, 1) := by decide +kernel
theorem dX8_learn_46 : decode cX8_learn 46 = .ok (.invokevirtual 280, 3) := by decide +kernel
theorem dX8_learn_49 : decode cX8_learn 49 = .ok (.aload_n 0, 1) := by decide +kernel
theorem dX8_learn_50 : decode cX8_learn 50 = .ok (.getfield 26, 3) := by decide +kernel
theorem dX8_learn_53 : decode cX8_learn 53 = .ok (.getfield 121, 3) := by decide +kernel
theorem dX8_learn_56 : decode cX8_learn 56 = .ok (.getfield 125, 3) := by decide +kernel
theorem dX8_learn_59 : decode cX8_learn 59 = .ok (.ireturn, 1) := by decide +kernel
theorem dX8_forget_0 : decode cX8_forget 0 = .ok (.aload_n 0, 1) := by decide +kernel
theorem dX8_forget_1 : decode cX8_forget 1 = .ok (.iload_n 1, 1) := by decide +kernel
theorem dX8_forget_2 : decode cX8_forget 2 = .ok (.invokevirtual 205, 3) := by decide +kernel
theorem dX8_forget_5 : decode cX8_forget 5 = .ok (.aload_n 0, 1) := by decide +kernel
theorem dX8_forget_6 : decode cX8_forget 6 = .ok (.getfield 43, 3) := by decide +kernel
theorem dX8_forget_9 : decode cX8_forget 9 = .ok (.aload_n 0, 1) := by decide +kernel
theorem dX8_forget_10 : decode cX8_forget 10 = .ok (.getfield 26, 3) := by decide +kernel
theorem dX8_forget_13 : decode cX8_forget 13 = .ok (.invokevirtual 236, 3) := by decide +kernel
theorem dX8_forget_16 : decode cX8_forget 16 = .ok (.aload_n 0, 1) := by decide +kernel
theorem dX8_forget_17 : decode cX8_forget 17 = .ok (.getfield 26, 3) := by decide +kernel
theorem dX8_forget_20 : decode cX8_forget 20 = .ok (.getfield 121, 3) := by decide +kernel
theorem dX8_forget_23 : decode cX8_forget 23 = .ok (.iload_n 1, 1) := by decide +kernel
theorem dX8_forget_24 : decode cX8_forget 24 = .ok (.invokevirtual 283, 3) := by decide +kernel
theorem dX8_forget_27 : decode cX8_forget 27 = .ok (.aload_n 0, 1) := by decide +kernel
theorem dX8_forget_28 : decode cX8_forget 28 = .ok (.getfield 26, 3) := by decide +kernel
theorem dX8_forget_31 : decode cX8_forget 31 = .ok (.getfield 121, 3) := by decide +kernel
theorem dX8_forget_34 : decode cX8_forget 34 = .ok (.getfield 125, 3) := by decide +kernel
theorem dX8_forget_37 : decode cX8_forget 37 = .ok (.ireturn, 1) := by decide +kernel
theorem dX8_fillGaps_0 : decode cX8_fillGaps 0 = .ok (.aload_n 0, 1) := by decide +kernel
theorem dX8_fillGaps_1 : decode cX8_fillGaps 1 = .ok (.getfield 43, 3) := by decide +kernel
theorem dX8_fillGaps_4 : decode cX8_fillGaps 4 = .ok (.aload_n 0, 1) := by decide +kernel
theorem dX8_fillGaps_5 : decode cX8_fillGaps 5 = .ok (.getfield 26, 3) := by decide +kernel
theorem dX8_fillGaps_8 : decode cX8_fillGaps 8 = .ok (.invokevirtual 236, 3) := by decide +kernel
theorem dX8_fillGaps_11 : decode cX8_fillGaps 11 = .ok (.aload_n 0, 1) := by decide +kernel
theorem dX8_fillGaps_12 : decode cX8_fillGaps 12 = .ok (.getfield 26, 3) := by decide +kernel
theorem dX8_fillGaps_15 : decode cX8_fillGaps 15 = .ok (.invokevirtual 286, 3) := by decide +kernel
theorem dX8_fillGaps_18 : decode cX8_fillGaps 18 = .ok (.ireturn, 1) := by decide +kernel
theorem dX8_undo_0 : decode cX8_undo 0 = .ok (.aload_n 0, 1) := by decide +kernel
theorem dX8_undo_1 : decode cX8_undo 1 = .ok (.getfield 43, 3) := by decide +kernel
theorem dX8_undo_4 : decode cX8_undo 4 = .ok (.getfield 289, 3) := by decide +kernel
theorem dX8_undo_7 : decode cX8_undo 7 = .ok (.ifCond .ne 14, 3) := by decide +kernel
theorem dX8_undo_10 : decode cX8_undo 10 = .ok (.new 66, 3) := by decide +kernel
theorem dX8_undo_13 : decode cX8_undo 13 = .ok (.dup, 1) := by decide +kernel
theorem dX8_undo_14 : decode cX8_undo 14 = .ok (.ldc_w 290, 3) := by decide +kernel
theorem dX8_undo_17 : decode cX8_undo 17 = .ok (.invokespecial 70, 3) := by decide +kernel
theorem dX8_undo_20 : decode cX8_undo 20 = .ok (.athrow, 1) := by decide +kernel
theorem dX8_undo_21 : decode cX8_undo 21 = .ok (.aload_n 0, 1) := by decide +kernel
theorem dX8_undo_22 : decode cX8_undo 22 = .ok (.getfield 43, 3) := by decide +kernel
theorem dX8_undo_25 : decode cX8_undo 25 = .ok (.aload_n 0, 1) := by decide +kernel
theorem dX8_undo_26 : decode cX8_undo 26 = .ok (.getfield 26, 3) := by decide +kernel
theorem dX8_undo_29 : decode cX8_undo 29 = .ok (.invokevirtual 292, 3) := by decide +kernel
theorem dX8_undo_32 : decode cX8_undo 32 = .ok (.aload_n 0, 1) := by decide +kernel
theorem dX8_undo_33 : decode cX8_undo 33 = .ok (.getfield 43, 3) := by decide +kernel
theorem dX8_undo_36 : decode cX8_undo 36 = .ok (.getfield 289, 3) := by decide +kernel
theorem dX8_undo_39 : decode cX8_undo 39 = .ok (.ireturn, 1) := by decide +kernel
theorem dX8_gap_0 : decode cX8_gap 0 = .ok (.aload_n 0, 1) := by decide +kernel
theorem dX8_gap_1 : decode cX8_gap 1 = .ok (.iload_n 1, 1) := by decide +kernel
theorem dX8_gap_2 : decode cX8_gap 2 = .ok (.invokevirtual 198, 3) := by decide +kernel
theorem dX8_gap_5 : decode cX8_gap 5 = .ok (.aload_n 0, 1) := by decide +kernel
theorem dX8_gap_6 : decode cX8_gap 6 = .ok (.getfield 26, 3) := by decide +kernel
theorem dX8_gap_9 : decode cX8_gap 9 = .ok (.iload_n 1, 1) := by decide +kernel
theorem dX8_gap_10 : decode cX8_gap 10 = .ok (.invokevirtual 295, 3) := by decide +kernel
theorem dX8_gap_13 : decode cX8_gap 13 = .ok (.ireturn, 1) := by decide +kernel
theorem dX8_mostUsed_0 : decode cX8_mostUsed 0 = .ok (.aload_n 0, 1) := by decide +kernel
theorem dX8_mostUsed_1 : decode cX8_mostUsed 1 = .ok (.getfield 26, 3) := by decide +kernel
theorem dX8_mostUsed_4 : decode cX8_mostUsed 4 = .ok (.invokevirtual 298, 3) := by decide +kernel
theorem dX8_mostUsed_7 : decode cX8_mostUsed 7 = .ok (.ireturn, 1) := by decide +kernel
theorem dX8_widthFor_0 : decode cX8_widthFor 0 = .ok (.iload_n 1, 1) := by decide +kernel
theorem dX8_widthFor_1 : decode cX8_widthFor 1 = .ok (.ifCond .lt 9, 3) := by decide +kernel
theorem dX8_widthFor_4 : decode cX8_widthFor 4 = .ok (.iload_n 1, 1) := by decide +kernel
theorem dX8_widthFor_5 : decode cX8_widthFor 5 = .ok (.bipush 99, 2) := by decide +kernel
theorem dX8_widthFor_7 : decode cX8_widthFor 7 = .ok (.if_icmp .le 14, 3) := by decide +kernel
theorem dX8_widthFor_10 : decode cX8_widthFor 10 = .ok (.new 55, 3) := by decide +kernel
theorem dX8_widthFor_13 : decode cX8_widthFor 13 = .ok (.dup, 1) := by decide +kernel
theorem dX8_widthFor_14 : decode cX8_widthFor 14 = .ok (.ldc_w 301, 3) := by decide +kernel
theorem dX8_widthFor_17 : decode cX8_widthFor 17 = .ok (.invokespecial 59, 3) := by decide +kernel
theorem dX8_widthFor_20 : decode cX8_widthFor 20 = .ok (.athrow, 1) := by decide +kernel
theorem dX8_widthFor_21 : decode cX8_widthFor 21 = .ok (.aload_n 0, 1) := by decide +kernel
theorem dX8_widthFor_22 : decode cX8_widthFor 22 = .ok (.getfield 36, 3) := by decide +kernel
theorem dX8_widthFor_25 : decode cX8_widthFor 25 = .ok (.aload_n 0, 1) := by decide +kernel
theorem dX8_widthFor_26 : decode cX8_widthFor 26 = .ok (.getfield 26, 3) := by decide +kernel
theorem dX8_widthFor_29 : decode cX8_widthFor 29 = .ok (.aload_n 0, 1) := by decide +kernel
theorem dX8_widthFor_30 : decode cX8_widthFor 30 = .ok (.getfield 26, 3) := by decide +kernel
theorem dX8_widthFor_33 : decode cX8_widthFor 33 = .ok (.getfield 136, 3) := by decide +kernel
theorem dX8_widthFor_36 : decode cX8_widthFor 36 = .ok (.invokevirtual 303, 3) := by decide +kernel
theorem dX8_widthFor_39 : decode cX8_widthFor 39 = .ok (.bipush 10, 2) := by decide +kernel
theorem dX8_widthFor_41 : decode cX8_widthFor 41 = .ok (.istore_n 2, 1) := by decide +kernel
theorem dX8_widthFor_42 : decode cX8_widthFor 42 = .ok (.iload_n 2, 1) := by decide +kernel
theorem dX8_widthFor_43 : decode cX8_widthFor 43 = .ok (.bipush 60, 2) := by decide +kernel
theorem dX8_widthFor_45 : decode cX8_widthFor 45 = .ok (.if_icmp .gt 34, 3) := by decide +kernel
theorem dX8_widthFor_48 : decode cX8_widthFor 48 = .ok (.aload_n 0, 1) := by decide +kernel
theorem dX8_widthFor_49 : decode cX8_widthFor 49 = .ok (.getfield 36, 3) := by decide +kernel
theorem dX8_widthFor_52 : decode cX8_widthFor 52 = .ok (.aload_n 0, 1) := by decide +kernel
theorem dX8_widthFor_53 : decode cX8_widthFor 53 = .ok (.getfield 26, 3) := by decide +kernel
theorem dX8_widthFor_56 : decode cX8_widthFor 56 = .ok (.iload_n 2, 1) := by decide +kernel
theorem dX8_widthFor_57 : decode cX8_widthFor 57 = .ok (.invokevirtual 307, 3) := by decide +kernel
theorem dX8_widthFor_60 : decode cX8_widthFor 60 = .ok (.aload_n 0, 1) := by decide +kernel
theorem dX8_widthFor_61 : decode cX8_widthFor 61 = .ok (.getfield 36, 3) := by decide +kernel
theorem dX8_widthFor_64 : decode cX8_widthFor 64 = .ok (.getfield 111, 3) := by decide +kernel
theorem dX8_widthFor_67 : decode cX8_widthFor 67 = .ok (.iload_n 1, 1) := by decide +kernel
theorem dX8_widthFor_68 : decode cX8_widthFor 68 = .ok (.if_icmp .gt 5, 3) := by decide +kernel
theorem dX8_widthFor_71 : decode cX8_widthFor 71 = .ok (.iload_n 2, 1) := by decide +kernel
theorem dX8_widthFor_72 : decode cX8_widthFor 72 = .ok (.ireturn, 1) := by decide +kernel
theorem dX8_widthFor_73 : decode cX8_widthFor 73 = .ok (.iinc 2 1, 3) := by decide +kernel
theorem dX8_widthFor_76 : decode cX8_widthFor 76 = .ok (.goto (-34), 3) := by decide +kernel
theorem dX8_widthFor_79 : decode cX8_widthFor 79 = .ok (.bipush (-9), 2) := by decide +kernel
theorem dX8_widthFor_81 : decode cX8_widthFor 81 = .ok (.ireturn, 1) := by decide +kernel
theorem dX8_empty_0 : decode cX8_empty 0 = .ok (.aload_n 0, 1) := by decide +kernel
theorem dX8_empty_1 : decode cX8_empty 1 = .ok (.aload_n 0, 1) := by decide +kernel
theorem dX8_empty_2 : decode cX8_empty 2 = .ok (.getfield 26, 3) := by decide +kernel
theorem dX8_empty_5 : decode cX8_empty 5 = .ok (.invokevirtual 104, 3) := by decide +kernel
theorem dX8_empty_8 : decode cX8_empty 8 = .ok (.aload_n 0, 1) := by decide +kernel
theorem dX8_empty_9 : decode cX8_empty 9 = .ok (.getfield 26, 3) := by decide +kernel
theorem dX8_empty_12 : decode cX8_empty 12 = .ok (.aload_n 0, 1) := by decide +kernel
theorem dX8_empty_13 : decode cX8_empty 13 = .ok (.getfield 26, 3) := by decide +kernel
theorem dX8_empty_16 : decode cX8_empty 16 = .ok (.getfield 114, 3) := by decide +kernel
theorem dX8_empty_19 : decode cX8_empty 19 = .ok (.invokevirtual 310, 3) := by decide +kernel
theorem dX8_empty_22 : decode cX8_empty 22 = .ok (.ireturn, 1) := by decide +kernel
theorem dX8_rowsWith_0 : decode cX8_rowsWith 0 = .ok (.bipush 9, 2) := by decide +kernel
theorem dX8_rowsWith_2 : decode cX8_rowsWith 2 = .ok (.iload_n 1, 1) := by decide +kernel
theorem dX8_rowsWith_3 : decode cX8_rowsWith 3 = .ok (.invokestatic 265, 3) := by decide +kernel
theorem dX8_rowsWith_6 : decode cX8_rowsWith 6 = .ok (.ifCond .eq 12, 3) := by decide +kernel
theorem dX8_rowsWith_9 : decode cX8_rowsWith 9 = .ok (.bipush 11, 2) := by decide +kernel
theorem dX8_rowsWith_11 : decode cX8_rowsWith 11 = .ok (.iload_n 2, 1) := by decide +kernel
theorem dX8_rowsWith_12 : decode cX8_rowsWith 12 = .ok (.invokestatic 265, 3) := by decide +kernel
theorem dX8_rowsWith_15 : decode cX8_rowsWith 15 = .ok (.ifCond .ne 14, 3) := by decide +kernel
theorem dX8_rowsWith_18 : decode cX8_rowsWith 18 = .ok (.new 55, 3) := by decide +kernel
theorem dX8_rowsWith_21 : decode cX8_rowsWith 21 = .ok (.dup, 1) := by decide +kernel
theorem dX8_rowsWith_22 : decode cX8_rowsWith 22 = .ok (.ldc_w 313, 3) := by decide +kernel
theorem dX8_rowsWith_25 : decode cX8_rowsWith 25 = .ok (.invokespecial 59, 3) := by decide +kernel
theorem dX8_rowsWith_28 : decode cX8_rowsWith 28 = .ok (.athrow, 1) := by decide +kernel
theorem dX8_rowsWith_29 : decode cX8_rowsWith 29 = .ok (.aload_n 0, 1) := by decide +kernel
theorem dX8_rowsWith_30 : decode cX8_rowsWith 30 = .ok (.getfield 36, 3) := by decide +kernel
theorem dX8_rowsWith_33 : decode cX8_rowsWith 33 = .ok (.aload_n 0, 1) := by decide +kernel
theorem dX8_rowsWith_34 : decode cX8_rowsWith 34 = .ok (.getfield 26, 3) := by decide +kernel
theorem dX8_rowsWith_37 : decode cX8_rowsWith 37 = .ok (.iload_n 2, 1) := by decide +kernel
theorem dX8_rowsWith_38 : decode cX8_rowsWith 38 = .ok (.invokevirtual 303, 3) := by decide +kernel
theorem dX8_rowsWith_41 : decode cX8_rowsWith 41 = .ok (.aload_n 0, 1) := by decide +kernel
theorem dX8_rowsWith_42 : decode cX8_rowsWith 42 = .ok (.getfield 36, 3) := by decide +kernel
theorem dX8_rowsWith_45 : decode cX8_rowsWith 45 = .ok (.aload_n 0, 1) := by decide +kernel
theorem dX8_rowsWith_46 : decode cX8_rowsWith 46 = .ok (.getfield 26, 3) := by decide +kernel
theorem dX8_rowsWith_49 : decode cX8_rowsWith 49 = .ok (.iload_n 1, 1) := by decide +kernel
theorem dX8_rowsWith_50 : decode cX8_rowsWith 50 = .ok (.invokevirtual 307, 3) := by decide +kernel
theorem dX8_rowsWith_53 : decode cX8_rowsWith 53 = .ok (.aload_n 0, 1) := by decide +kernel
theorem dX8_rowsWith_54 : decode cX8_rowsWith 54 = .ok (.getfield 36, 3) := by decide +kernel
theorem dX8_rowsWith_57 : decode cX8_rowsWith 57 = .ok (.getfield 111, 3) := by decide +kernel
theorem dX8_rowsWith_60 : decode cX8_rowsWith 60 = .ok (.ireturn, 1) := by decide +kernel
theorem dX8_runScript_0 : decode cX8_runScript 0 = .ok (.iload_n 1, 1) := by decide +kernel
theorem dX8_runScript_1 : decode cX8_runScript 1 = .ok (.iconst 1, 1) := by decide +kernel
theorem dX8_runScript_2 : decode cX8_runScript 2 = .ok (.if_icmp .lt 8, 3) := by decide +kernel
theorem dX8_runScript_5 : decode cX8_runScript 5 = .ok (.iload_n 1, 1) := by decide +kernel
theorem dX8_runScript_6 : decode cX8_runScript 6 = .ok (.iconst 4, 1) := by decide +kernel
theorem dX8_runScript_7 : decode cX8_runScript 7 = .ok (.if_icmp .le 14, 3) := by decide +kernel
theorem dX8_runScript_10 : decode cX8_runScript 10 = .ok (.new 55, 3) := by decide +kernel
theorem dX8_runScript_13 : decode cX8_runScript 13 = .ok (.dup, 1) := by decide +kernel
theorem dX8_runScript_14 : decode cX8_runScript 14 = .ok (.ldc_w 315, 3) := by decide +kernel
theorem dX8_runScript_17 : decode cX8_runScript 17 = .ok (.invokespecial 59, 3) := by decide +kernel
theorem dX8_runScript_20 : decode cX8_runScript 20 = .ok (.athrow, 1) := by decide +kernel
theorem dX8_runScript_21 : decode cX8_runScript 21 = .ok (.lload_n 2, 1) := by decide +kernel
theorem dX8_runScript_22 : decode cX8_runScript 22 = .ok (.lconst 0, 1) := by decide +kernel
theorem dX8_runScript_23 : decode cX8_runScript 23 = .ok (.lcmp, 1) := by decide +kernel
theorem dX8_runScript_24 : decode cX8_runScript 24 = .ok (.ifCond .lt 13, 3) := by decide +kernel
theorem dX8_runScript_27 : decode cX8_runScript 27 = .ok (.lload_n 2, 1) := by decide +kernel
theorem dX8_runScript_28 : decode cX8_runScript 28 = .ok (.iload_n 1, 1) := by decide +kernel
theorem dX8_runScript_29 : decode cX8_runScript 29 = .ok (.invokestatic 317, 3) := by decide +kernel
theorem dX8_runScript_32 : decode cX8_runScript 32 = .ok (.lconst 0, 1) := by decide +kernel
theorem dX8_runScript_33 : decode cX8_runScript 33 = .ok (.lcmp, 1) := by decide +kernel
theorem dX8_runScript_34 : decode cX8_runScript 34 = .ok (.ifCond .eq 14, 3) := by decide +kernel
theorem dX8_runScript_37 : decode cX8_runScript 37 = .ok (.new 55, 3) := by decide +kernel
theorem dX8_runScript_40 : decode cX8_runScript 40 = .ok (.dup, 1) := by decide +kernel
theorem dX8_runScript_41 : decode cX8_runScript 41 = .ok (.ldc_w 321, 3) := by decide +kernel
theorem dX8_runScript_44 : decode cX8_runScript 44 = .ok (.invokespecial 59, 3) := by decide +kernel
theorem dX8_runScript_47 : decode cX8_runScript 47 = .ok (.athrow, 1) := by decide +kernel
theorem dX8_runScript_48 : decode cX8_runScript 48 = .ok (.aload_n 0, 1) := by decide +kernel
theorem dX8_runScript_49 : decode cX8_runScript 49 = .ok (.getfield 30, 3) := by decide +kernel
theorem dX8_runScript_52 : decode cX8_runScript 52 = .ok (.aload_n 0, 1) := by decide +kernel
theorem dX8_runScript_53 : decode cX8_runScript 53 = .ok (.getfield 26, 3) := by decide +kernel
theorem dX8_runScript_56 : decode cX8_runScript 56 = .ok (.invokevirtual 323, 3) := by decide +kernel
theorem dX8_runScript_59 : decode cX8_runScript 59 = .ok (.iconst 0, 1) := by decide +kernel
theorem dX8_runScript_60 : decode cX8_runScript 60 = .ok (.istore 4, 2) := by decide +kernel
theorem dX8_runScript_62 : decode cX8_runScript 62 = .ok (.iload 4, 2) := by decide +kernel
theorem dX8_runScript_64 : decode cX8_runScript 64 = .ok (.iload_n 1, 1) := by decide +kernel
theorem dX8_runScript_65 : decode cX8_runScript 65 = .ok (.if_icmp .ge 34, 3) := by decide +kernel
theorem dX8_runScript_68 : decode cX8_runScript 68 = .ok (.aload_n 0, 1) := by decide +kernel
theorem dX8_runScript_69 : decode cX8_runScript 69 = .ok (.lload_n 2, 1) := by decide +kernel
theorem dX8_runScript_70 : decode cX8_runScript 70 = .ok (.iload_n 1, 1) := by decide +kernel
theorem dX8_runScript_71 : decode cX8_runScript 71 = .ok (.iconst 1, 1) := by decide +kernel
theorem dX8_runScript_72 : decode cX8_runScript 72 = .ok (.isub, 1) := by decide +kernel
theorem dX8_runScript_73 : decode cX8_runScript 73 = .ok (.iload 4, 2) := by decide +kernel
theorem dX8_runScript_75 : decode cX8_runScript 75 = .ok (.isub, 1) := by decide +kernel
theorem dX8_runScript_76 : decode cX8_runScript 76 = .ok (.invokestatic 317, 3) := by decide +kernel
theorem dX8_runScript_79 : decode cX8_runScript 79 = .ok (.ldc2_w 326, 3) := by decide +kernel
theorem dX8_runScript_82 : decode cX8_runScript 82 = .ok (.lrem, 1) := by decide +kernel
theorem dX8_runScript_83 : decode cX8_runScript 83 = .ok (.l2i, 1) := by decide +kernel
theorem dX8_runScript_84 : decode cX8_runScript 84 = .ok (.invokevirtual 328, 3) := by decide +kernel
theorem dX8_runScript_87 : decode cX8_runScript 87 = .ok (.ifCond .ne 6, 3) := by decide +kernel
theorem dX8_runScript_90 : decode cX8_runScript 90 = .ok (.iload 4, 2) := by decide +kernel
theorem dX8_runScript_92 : decode cX8_runScript 92 = .ok (.ireturn, 1) := by decide +kernel
theorem dX8_runScript_93 : decode cX8_runScript 93 = .ok (.iinc 4 1, 3) := by decide +kernel
theorem dX8_runScript_96 : decode cX8_runScript 96 = .ok (.goto (-34), 3) := by decide +kernel
theorem dX8_runScript_99 : decode cX8_runScript 99 = .ok (.bipush (-9), 2) := by decide +kernel
theorem dX8_runScript_101 : decode cX8_runScript 101 = .ok (.ireturn, 1) := by decide +kernel
theorem dX8_simulate_0 : decode cX8_simulate 0 = .ok (.iload_n 3, 1) := by decide +kernel
theorem dX8_simulate_1 : decode cX8_simulate 1 = .ok (.iconst 1, 1) := by decide +kernel
theorem dX8_simulate_2 : decode cX8_simulate 2 = .ok (.if_icmp .lt 9, 3) := by decide +kernel
theorem dX8_simulate_5 : decode cX8_simulate 5 = .ok (.iload_n 3, 1) := by decide +kernel
theorem dX8_simulate_6 : decode cX8_simulate 6 = .ok (.bipush 99, 2) := by decide +kernel
theorem dX8_simulate_8 : decode cX8_simulate 8 = .ok (.if_icmp .le 14, 3) := by decide +kernel
theorem dX8_simulate_11 : decode cX8_simulate 11 = .ok (.new 55, 3) := by decide +kernel
theorem dX8_simulate_14 : decode cX8_simulate 14 = .ok (.dup, 1) := by decide +kernel
theorem dX8_simulate_15 : decode cX8_simulate 15 = .ok (.ldc_w 332, 3) := by decide +kernel
theorem dX8_simulate_18 : decode cX8_simulate 18 = .ok (.invokespecial 59, 3) := by decide +kernel
theorem dX8_simulate_21 : decode cX8_simulate 21 = .ok (.athrow, 1) := by decide +kernel
theorem dX8_simulate_22 : decode cX8_simulate 22 = .ok (.aload_n 0, 1) := by decide +kernel
theorem dX8_simulate_23 : decode cX8_simulate 23 = .ok (.getfield 30, 3) := by decide +kernel
theorem dX8_simulate_26 : decode cX8_simulate 26 = .ok (.aload_n 0, 1) := by decide +kernel
theorem dX8_simulate_27 : decode cX8_simulate 27 = .ok (.getfield 26, 3) := by decide +kernel
theorem dX8_simulate_30 : decode cX8_simulate 30 = .ok (.invokevirtual 323, 3) := by decide +kernel
theorem dX8_simulate_33 : decode cX8_simulate 33 = .ok (.lload_n 1, 1) := by decide +kernel
theorem dX8_simulate_34 : decode cX8_simulate 34 = .ok (.lstore 4, 2) := by decide +kernel
theorem dX8_simulate_36 : decode cX8_simulate 36 = .ok (.iconst 0, 1) := by decide +kernel
theorem dX8_simulate_37 : decode cX8_simulate 37 = .ok (.istore 6, 2) := by decide +kernel
theorem dX8_simulate_39 : decode cX8_simulate 39 = .ok (.iconst 0, 1) := by decide +kernel
theorem dX8_simulate_40 : decode cX8_simulate 40 = .ok (.istore 7, 2) := by decide +kernel
theorem dX8_simulate_42 : decode cX8_simulate 42 = .ok (.iload 7, 2) := by decide +kernel
theorem dX8_simulate_44 : decode cX8_simulate 44 = .ok (.iload_n 3, 1) := by decide +kernel
theorem dX8_simulate_45 : decode cX8_simulate 45 = .ok (.if_icmp .ge 47, 3) := by decide +kernel
theorem dX8_simulate_48 : decode cX8_simulate 48 = .ok (.lload 4, 2) := by decide +kernel
theorem dX8_simulate_50 : decode cX8_simulate 50 = .ok (.ldc2_w 334, 3) := by decide +kernel
theorem dX8_simulate_53 : decode cX8_simulate 53 = .ok (.lmul, 1) := by decide +kernel
theorem dX8_simulate_54 : decode cX8_simulate 54 = .ok (.ldc2_w 336, 3) := by decide +kernel
theorem dX8_simulate_57 : decode cX8_simulate 57 = .ok (.ladd, 1) := by decide +kernel
theorem dX8_simulate_58 : decode cX8_simulate 58 = .ok (.lstore 4, 2) := by decide +kernel
theorem dX8_simulate_60 : decode cX8_simulate 60 = .ok (.aload_n 0, 1) := by decide +kernel
theorem dX8_simulate_61 : decode cX8_simulate 61 = .ok (.lload 4, 2) := by decide +kernel
theorem dX8_simulate_63 : decode cX8_simulate 63 = .ok (.bipush 33, 2) := by decide +kernel
theorem dX8_simulate_65 : decode cX8_simulate 65 = .ok (.lushr, 1) := by decide +kernel
theorem dX8_simulate_66 : decode cX8_simulate 66 = .ok (.l2i, 1) := by decide +kernel
theorem dX8_simulate_67 : decode cX8_simulate 67 = .ok (.invokevirtual 338, 3) := by decide +kernel
theorem dX8_simulate_70 : decode cX8_simulate 70 = .ok (.iload 6, 2) := by decide +kernel
theorem dX8_simulate_72 : decode cX8_simulate 72 = .ok (.aload_n 0, 1) := by decide +kernel
theorem dX8_simulate_73 : decode cX8_simulate 73 = .ok (.aload_n 0, 1) := by decide +kernel
theorem dX8_simulate_74 : decode cX8_simulate 74 = .ok (.getfield 30, 3) := by decide +kernel
theorem dX8_simulate_77 : decode cX8_simulate 77 = .ok (.invokevirtual 104, 3) := by decide +kernel
theorem dX8_simulate_80 : decode cX8_simulate 80 = .ok (.getfield 111, 3) := by decide +kernel
theorem dX8_simulate_83 : decode cX8_simulate 83 = .ok (.iadd, 1) := by decide +kernel
theorem dX8_simulate_84 : decode cX8_simulate 84 = .ok (.istore 6, 2) := by decide +kernel
theorem dX8_simulate_86 : decode cX8_simulate 86 = .ok (.iinc 7 1, 3) := by decide +kernel
theorem dX8_simulate_89 : decode cX8_simulate 89 = .ok (.goto (-47), 3) := by decide +kernel
theorem dX8_simulate_92 : decode cX8_simulate 92 = .ok (.iload 6, 2) := by decide +kernel
theorem dX8_simulate_94 : decode cX8_simulate 94 = .ok (.ireturn, 1) := by decide +kernel
theorem dX8_save_0 : decode cX8_save 0 = .ok (.aload_n 0, 1) := by decide +kernel
theorem dX8_save_1 : decode cX8_save 1 = .ok (.iload_n 1, 1) := by decide +kernel
theorem dX8_save_2 : decode cX8_save 2 = .ok (.invokevirtual 341, 3) := by decide +kernel
theorem dX8_save_5 : decode cX8_save 5 = .ok (.aload_n 0, 1) := by decide +kernel
theorem dX8_save_6 : decode cX8_save 6 = .ok (.getfield 47, 3) := by decide +kernel
theorem dX8_save_9 : decode cX8_save 9 = .ok (.iload_n 1, 1) := by decide +kernel
theorem dX8_save_10 : decode cX8_save 10 = .ok (.aaload, 1) := by decide +kernel
theorem dX8_save_11 : decode cX8_save 11 = .ok (.aload_n 0, 1) := by decide +kernel
theorem dX8_save_12 : decode cX8_save 12 = .ok (.getfield 26, 3) := by decide +kernel
theorem dX8_save_15 : decode cX8_save 15 = .ok (.invokevirtual 323, 3) := by decide +kernel
theorem dX8_save_18 : decode cX8_save 18 = .ok (.aload_n 0, 1) := by decide +kernel
theorem dX8_save_19 : decode cX8_save 19 = .ok (.getfield 51, 3) := by decide +kernel
theorem dX8_save_22 : decode cX8_save 22 = .ok (.iload_n 1, 1) := by decide +kernel
theorem dX8_save_23 : decode cX8_save 23 = .ok (.iconst 1, 1) := by decide +kernel
theorem dX8_save_24 : decode cX8_save 24 = .ok (.bastore, 1) := by decide +kernel
theorem dX8_save_25 : decode cX8_save 25 = .ok (.aload_n 0, 1) := by decide +kernel
theorem dX8_save_26 : decode cX8_save 26 = .ok (.getfield 26, 3) := by decide +kernel
theorem dX8_save_29 : decode cX8_save 29 = .ok (.getfield 91, 3) := by decide +kernel
theorem dX8_save_32 : decode cX8_save 32 = .ok (.ireturn, 1) := by decide +kernel
theorem dX8_restore_0 : decode cX8_restore 0 = .ok (.aload_n 0, 1) := by decide +kernel
theorem dX8_restore_1 : decode cX8_restore 1 = .ok (.iload_n 1, 1) := by decide +kernel
theorem dX8_restore_2 : decode cX8_restore 2 = .ok (.invokevirtual 341, 3) := by decide +kernel
theorem dX8_restore_5 : decode cX8_restore 5 = .ok (.aload_n 0, 1) := by decide +kernel
theorem dX8_restore_6 : decode cX8_restore 6 = .ok (.getfield 51, 3) := by decide +kernel
theorem dX8_restore_9 : decode cX8_restore 9 = .ok (.iload_n 1, 1) := by decide +kernel
theorem dX8_restore_10 : decode cX8_restore 10 = .ok (.baload, 1) := by decide +kernel
theorem dX8_restore_11 : decode cX8_restore 11 = .ok (.ifCond .ne 14, 3) := by decide +kernel
theorem dX8_restore_14 : decode cX8_restore 14 = .ok (.new 66, 3) := by decide +kernel
theorem dX8_restore_17 : decode cX8_restore 17 = .ok (.dup, 1) := by decide +kernel
theorem dX8_restore_18 : decode cX8_restore 18 = .ok (.ldc_w 344, 3) := by decide +kernel
theorem dX8_restore_21 : decode cX8_restore 21 = .ok (.invokespecial 70, 3) := by decide +kernel
theorem dX8_restore_24 : decode cX8_restore 24 = .ok (.athrow, 1) := by decide +kernel
theorem dX8_restore_25 : decode cX8_restore 25 = .ok (.aload_n 0, 1) := by decide +kernel
theorem dX8_restore_26 : decode cX8_restore 26 = .ok (.getfield 26, 3) := by decide +kernel
theorem dX8_restore_29 : decode cX8_restore 29 = .ok (.aload_n 0, 1) := by decide +kernel
theorem dX8_restore_30 : decode cX8_restore 30 = .ok (.getfield 47, 3) := by decide +kernel
theorem dX8_restore_33 : decode cX8_restore 33 = .ok (.iload_n 1, 1) := by decide +kernel
theorem dX8_restore_34 : decode cX8_restore 34 = .ok (.aaload, 1) := by decide +kernel
theorem dX8_restore_35 : decode cX8_restore 35 = .ok (.invokevirtual 323, 3) := by decide +kernel
theorem dX8_restore_38 : decode cX8_restore 38 = .ok (.aload_n 0, 1) := by decide +kernel
theorem dX8_restore_39 : decode cX8_restore 39 = .ok (.getfield 43, 3) := by decide +kernel
theorem dX8_restore_42 : decode cX8_restore 42 = .ok (.invokevirtual 88, 3) := by decide +kernel
theorem dX8_restore_45 : decode cX8_restore 45 = .ok (.aload_n 0, 1) := by decide +kernel
theorem dX8_restore_46 : decode cX8_restore 46 = .ok (.getfield 26, 3) := by decide +kernel
theorem dX8_restore_49 : decode cX8_restore 49 = .ok (.getfield 91, 3) := by decide +kernel
theorem dX8_restore_52 : decode cX8_restore 52 = .ok (.ireturn, 1) := by decide +kernel
theorem dX8_requireWord_0 : decode cX8_requireWord 0 = .ok (.aload_n 0, 1) := by decide +kernel
theorem dX8_requireWord_1 : decode cX8_requireWord 1 = .ok (.getfield 26, 3) := by decide +kernel
theorem dX8_requireWord_4 : decode cX8_requireWord 4 = .ok (.iload_n 1, 1) := by decide +kernel
theorem dX8_requireWord_5 : decode cX8_requireWord 5 = .ok (.invokevirtual 346, 3) := by decide +kernel
theorem dX8_requireWord_8 : decode cX8_requireWord 8 = .ok (.ifCond .ne 14, 3) := by decide +kernel
theorem dX8_requireWord_11 : decode cX8_requireWord 11 = .ok (.new 228, 3) := by decide +kernel
theorem dX8_requireWord_14 : decode cX8_requireWord 14 = .ok (.dup, 1) := by decide +kernel
theorem dX8_requireWord_15 : decode cX8_requireWord 15 = .ok (.ldc_w 349, 3) := by decide +kernel
theorem dX8_requireWord_18 : decode cX8_requireWord 18 = .ok (.invokespecial 232, 3) := by decide +kernel
theorem dX8_requireWord_21 : decode cX8_requireWord 21 = .ok (.athrow, 1) := by decide +kernel
theorem dX8_requireWord_22 : decode cX8_requireWord 22 = .ok (.return_, 1) := by decide +kernel
theorem dX8_requirePart_0 : decode cX8_requirePart 0 = .ok (.aload_n 0, 1) := by decide +kernel
theorem dX8_requirePart_1 : decode cX8_requirePart 1 = .ok (.getfield 26, 3) := by decide +kernel
theorem dX8_requirePart_4 : decode cX8_requirePart 4 = .ok (.iload_n 1, 1) := by decide +kernel
theorem dX8_requirePart_5 : decode cX8_requirePart 5 = .ok (.iload_n 2, 1) := by decide +kernel
theorem dX8_requirePart_6 : decode cX8_requirePart 6 = .ok (.invokevirtual 351, 3) := by decide +kernel
theorem dX8_requirePart_9 : decode cX8_requirePart 9 = .ok (.ifCond .ne 14, 3) := by decide +kernel
theorem dX8_requirePart_12 : decode cX8_requirePart 12 = .ok (.new 228, 3) := by decide +kernel
theorem dX8_requirePart_15 : decode cX8_requirePart 15 = .ok (.dup, 1) := by decide +kernel
theorem dX8_requirePart_16 : decode cX8_requirePart 16 = .ok (.ldc_w 354, 3) := by decide +kernel
theorem dX8_requirePart_19 : decode cX8_requirePart 19 = .ok (.invokespecial 232, 3) := by decide +kernel
theorem dX8_requirePart_22 : decode cX8_requirePart 22 = .ok (.athrow, 1) := by decide +kernel
theorem dX8_requirePart_23 : decode cX8_requirePart 23 = .ok (.return_, 1) := by decide +kernel
theorem dX8_requireEntry_0 : decode cX8_requireEntry 0 = .ok (.iload_n 1, 1) := by decide +kernel
theorem dX8_requireEntry_1 : decode cX8_requireEntry 1 = .ok (.ifCond .lt 17, 3) := by decide +kernel
theorem dX8_requireEntry_4 : decode cX8_requireEntry 4 = .ok (.iload_n 1, 1) := by decide +kernel
theorem dX8_requireEntry_5 : decode cX8_requireEntry 5 = .ok (.aload_n 0, 1) := by decide +kernel
theorem dX8_requireEntry_6 : decode cX8_requireEntry 6 = .ok (.getfield 26, 3) := by decide +kernel
theorem dX8_requireEntry_9 : decode cX8_requireEntry 9 = .ok (.getfield 121, 3) := by decide +kernel
theorem dX8_requireEntry_12 : decode cX8_requireEntry 12 = .ok (.getfield 125, 3) := by decide +kernel
theorem dX8_requireEntry_15 : decode cX8_requireEntry 15 = .ok (.if_icmp .lt 14, 3) := by decide +kernel
theorem dX8_requireEntry_18 : decode cX8_requireEntry 18 = .ok (.new 228, 3) := by decide +kernel
theorem dX8_requireEntry_21 : decode cX8_requireEntry 21 = .ok (.dup, 1) := by decide +kernel
theorem dX8_requireEntry_22 : decode cX8_requireEntry 22 = .ok (.ldc_w 356, 3) := by decide +kernel
theorem dX8_requireEntry_25 : decode cX8_requireEntry 25 = .ok (.invokespecial 232, 3) := by decide +kernel
theorem dX8_requireEntry_28 : decode cX8_requireEntry 28 = .ok (.athrow, 1) := by decide +kernel
theorem dX8_requireEntry_29 : decode cX8_requireEntry 29 = .ok (.return_, 1) := by decide +kernel
theorem dX8_requireRow_0 : decode cX8_requireRow 0 = .ok (.iload_n 1, 1) := by decide +kernel
theorem dX8_requireRow_1 : decode cX8_requireRow 1 = .ok (.ifCond .lt 18, 3) := by decide +kernel
theorem dX8_requireRow_4 : decode cX8_requireRow 4 = .ok (.iload_n 1, 1) := by decide +kernel
theorem dX8_requireRow_5 : decode cX8_requireRow 5 = .ok (.aload_n 0, 1) := by decide +kernel
theorem dX8_requireRow_6 : decode cX8_requireRow 6 = .ok (.aload_n 0, 1) := by decide +kernel
theorem dX8_requireRow_7 : decode cX8_requireRow 7 = .ok (.getfield 26, 3) := by decide +kernel
theorem dX8_requireRow_10 : decode cX8_requireRow 10 = .ok (.invokevirtual 104, 3) := by decide +kernel
theorem dX8_requireRow_13 : decode cX8_requireRow 13 = .ok (.getfield 111, 3) := by decide +kernel
theorem dX8_requireRow_16 : decode cX8_requireRow 16 = .ok (.if_icmp .lt 14, 3) := by decide +kernel
theorem dX8_requireRow_19 : decode cX8_requireRow 19 = .ok (.new 228, 3) := by decide +kernel
theorem dX8_requireRow_22 : decode cX8_requireRow 22 = .ok (.dup, 1) := by decide +kernel
theorem dX8_requireRow_23 : decode cX8_requireRow 23 = .ok (.ldc_w 358, 3) := by decide +kernel
theorem dX8_requireRow_26 : decode cX8_requireRow 26 = .ok (.invokespecial 232, 3) := by decide +kernel
theorem dX8_requireRow_29 : decode cX8_requireRow 29 = .ok (.athrow, 1) := by decide +kernel
theorem dX8_requireRow_30 : decode cX8_requireRow 30 = .ok (.return_, 1) := by decide +kernel
theorem dX8_requireSlot_0 : decode cX8_requireSlot 0 = .ok (.iload_n 1, 1) := by decide +kernel
theorem dX8_requireSlot_1 : decode cX8_requireSlot 1 = .ok (.ifCond .lt 8, 3) := by decide +kernel
theorem dX8_requireSlot_4 : decode cX8_requireSlot 4 = .ok (.iload_n 1, 1) := by decide +kernel
theorem dX8_requireSlot_5 : decode cX8_requireSlot 5 = .ok (.iconst 2, 1) := by decide +kernel
theorem dX8_requireSlot_6 : decode cX8_requireSlot 6 = .ok (.if_icmp .lt 14, 3) := by decide +kernel
theorem dX8_requireSlot_9 : decode cX8_requireSlot 9 = .ok (.new 228, 3) := by decide +kernel
theorem dX8_requireSlot_12 : decode cX8_requireSlot 12 = .ok (.dup, 1) := by decide +kernel
theorem dX8_requireSlot_13 : decode cX8_requireSlot 13 = .ok (.ldc_w 360, 3) := by decide +kernel
theorem dX8_requireSlot_16 : decode cX8_requireSlot 16 = .ok (.invokespecial 232, 3) := by decide +kernel
theorem dX8_requireSlot_19 : decode cX8_requireSlot 19 = .ok (.athrow, 1) := by decide +kernel
theorem dX8_requireSlot_20 : decode cX8_requireSlot 20 = .ok (.return_, 1) := by decide +kernel
theorem dX8_requireNotNegative_0 : decode cX8_requireNotNegative 0 = .ok (.iload_n 1, 1) := by decide +kernel
theorem dX8_requireNotNegative_1 : decode cX8_requireNotNegative 1 = .ok (.ifCond .ge 14, 3) := by decide +kernel
theorem dX8_requireNotNegative_4 : decode cX8_requireNotNegative 4 = .ok (.new 55, 3) := by decide +kernel
theorem dX8_requireNotNegative_7 : decode cX8_requireNotNegative 7 = .ok (.dup, 1) := by decide +kernel
theorem dX8_requireNotNegative_8 : decode cX8_requireNotNegative 8 = .ok (.ldc_w 362, 3) := by decide +kernel
theorem dX8_requireNotNegative_11 : decode cX8_requireNotNegative 11 = .ok (.invokespecial 59, 3) := by decide +kernel
theorem dX8_requireNotNegative_14 : decode cX8_requireNotNegative 14 = .ok (.athrow, 1) := by decide +kernel
theorem dX8_requireNotNegative_15 : decode cX8_requireNotNegative 15 = .ok (.return_, 1) := by decide +kernel
theorem dX8_arranged_0 : decode cX8_arranged 0 = .ok (.aload_n 0, 1) := by decide +kernel
theorem dX8_arranged_1 : decode cX8_arranged 1 = .ok (.getfield 36, 3) := by decide +kernel
theorem dX8_arranged_4 : decode cX8_arranged 4 = .ok (.aload_n 1, 1) := by decide +kernel
theorem dX8_arranged_5 : decode cX8_arranged 5 = .ok (.aload_n 1, 1) := by decide +kernel
theorem dX8_arranged_6 : decode cX8_arranged 6 = .ok (.getfield 136, 3) := by decide +kernel
theorem dX8_arranged_9 : decode cX8_arranged 9 = .ok (.invokevirtual 303, 3) := by decide +kernel
theorem dX8_arranged_12 : decode cX8_arranged 12 = .ok (.aload_n 0, 1) := by decide +kernel
theorem dX8_arranged_13 : decode cX8_arranged 13 = .ok (.getfield 36, 3) := by decide +kernel
theorem dX8_arranged_16 : decode cX8_arranged 16 = .ok (.aload_n 1, 1) := by decide +kernel
theorem dX8_arranged_17 : decode cX8_arranged 17 = .ok (.aload_n 1, 1) := by decide +kernel
theorem dX8_arranged_18 : decode cX8_arranged 18 = .ok (.getfield 114, 3) := by decide +kernel
theorem dX8_arranged_21 : decode cX8_arranged 21 = .ok (.invokevirtual 307, 3) := by decide +kernel
theorem dX8_arranged_24 : decode cX8_arranged 24 = .ok (.aload_n 0, 1) := by decide +kernel
theorem dX8_arranged_25 : decode cX8_arranged 25 = .ok (.getfield 36, 3) := by decide +kernel
theorem dX8_arranged_28 : decode cX8_arranged 28 = .ok (.areturn, 1) := by decide +kernel
theorem dX8_withoutLowest_0 : decode cX8_withoutLowest 0 = .ok (.lload_n 0, 1) := by decide +kernel
theorem dX8_withoutLowest_1 : decode cX8_withoutLowest 1 = .ok (.lstore_n 3, 1) := by decide +kernel
theorem dX8_withoutLowest_2 : decode cX8_withoutLowest 2 = .ok (.iconst 0, 1) := by decide +kernel
theorem dX8_withoutLowest_3 : decode cX8_withoutLowest 3 = .ok (.istore 5, 2) := by decide +kernel
theorem dX8_withoutLowest_5 : decode cX8_withoutLowest 5 = .ok (.iload 5, 2) := by decide +kernel
theorem dX8_withoutLowest_7 : decode cX8_withoutLowest 7 = .ok (.iload_n 2, 1) := by decide +kernel
theorem dX8_withoutLowest_8 : decode cX8_withoutLowest 8 = .ok (.if_icmp .ge 15, 3) := by decide +kernel
theorem dX8_withoutLowest_11 : decode cX8_withoutLowest 11 = .ok (.lload_n 3, 1) := by decide +kernel
theorem dX8_withoutLowest_12 : decode cX8_withoutLowest 12 = .ok (.ldc2_w 326, 3) := by decide +kernel
theorem dX8_withoutLowest_15 : decode cX8_withoutLowest 15 = .ok (.ldiv, 1) := by decide +kernel
theorem dX8_withoutLowest_16 : decode cX8_withoutLowest 16 = .ok (.lstore_n 3, 1) := by decide +kernel
theorem dX8_withoutLowest_17 : decode cX8_withoutLowest 17 = .ok (.iinc 5 1, 3) := by decide +kernel
theorem dX8_withoutLowest_20 : decode cX8_withoutLowest 20 = .ok (.goto (-15), 3) := by decide +kernel
theorem dX8_withoutLowest_23 : decode cX8_withoutLowest 23 = .ok (.lload_n 3, 1) := by decide +kernel
theorem dX8_withoutLowest_24 : decode cX8_withoutLowest 24 = .ok (.lreturn, 1) := by decide +kernel
theorem dX8_succeeds_0 : decode cX8_succeeds 0 = .ok (.iload_n 1, 1) := by decide +kernel
theorem dX8_succeeds_1 : decode cX8_succeeds 1 = .ok (.sipush 1000, 3) := by decide +kernel
theorem dX8_succeeds_4 : decode cX8_succeeds 4 = .ok (.idiv, 1) := by decide +kernel
theorem dX8_succeeds_5 : decode cX8_succeeds 5 = .ok (.istore_n 2, 1) := by decide +kernel
theorem dX8_succeeds_6 : decode cX8_succeeds 6 = .ok (.iload_n 1, 1) := by decide +kernel
theorem dX8_succeeds_7 : decode cX8_succeeds 7 = .ok (.bipush 100, 2) := by decide +kernel
theorem dX8_succeeds_9 : decode cX8_succeeds 9 = .ok (.idiv, 1) := by decide +kernel
theorem dX8_succeeds_10 : decode cX8_succeeds 10 = .ok (.bipush 10, 2) := by decide +kernel
theorem dX8_succeeds_12 : decode cX8_succeeds 12 = .ok (.irem, 1) := by decide +kernel
theorem dX8_succeeds_13 : decode cX8_succeeds 13 = .ok (.istore_n 3, 1) := by decide +kernel
theorem dX8_succeeds_14 : decode cX8_succeeds 14 = .ok (.iload_n 1, 1) := by decide +kernel
theorem dX8_succeeds_15 : decode cX8_succeeds 15 = .ok (.bipush 100, 2) := by decide +kernel
theorem dX8_succeeds_17 : decode cX8_succeeds 17 = .ok (.irem, 1) := by decide +kernel
theorem dX8_succeeds_18 : decode cX8_succeeds 18 = .ok (.istore 4, 2) := by decide +kernel
theorem dX8_succeeds_20 : decode cX8_succeeds 20 = .ok (.iload_n 2, 1) := by decide +kernel
theorem dX8_succeeds_21 : decode cX8_succeeds 21 = .ok (.bipush 6, 2) := by decide +kernel
theorem dX8_succeeds_23 : decode cX8_succeeds 23 = .ok (.if_icmp .ne 11, 3) := by decide +kernel
theorem dX8_succeeds_26 : decode cX8_succeeds 26 = .ok (.aload_n 0, 1) := by decide +kernel
theorem dX8_succeeds_27 : decode cX8_succeeds 27 = .ok (.iload 4, 2) := by decide +kernel
theorem dX8_succeeds_29 : decode cX8_succeeds 29 = .ok (.iload_n 3, 1) := by decide +kernel
theorem dX8_succeeds_30 : decode cX8_succeeds 30 = .ok (.invokevirtual 364, 3) := by decide +kernel
theorem dX8_succeeds_33 : decode cX8_succeeds 33 = .ok (.ireturn, 1) := by decide +kernel
theorem dX8_succeeds_34 : decode cX8_succeeds 34 = .ok (.iload_n 3, 1) := by decide +kernel
theorem dX8_succeeds_35 : decode cX8_succeeds 35 = .ok (.ifCond .eq 5, 3) := by decide +kernel
theorem dX8_succeeds_38 : decode cX8_succeeds 38 = .ok (.iconst 0, 1) := by decide +kernel
theorem dX8_succeeds_39 : decode cX8_succeeds 39 = .ok (.ireturn, 1) := by decide +kernel
theorem dX8_succeeds_40 : decode cX8_succeeds 40 = .ok (.iload_n 2, 1) := by decide +kernel
theorem dX8_succeeds_41 : decode cX8_succeeds 41 = .ok (.tableswitch 135 1 9 #[51, 60, 69, 69, 69, 135, 77, 95, 117], 51) := by decide +kernel
theorem dX8_succeeds_92 : decode cX8_succeeds 92 = .ok (.aload_n 0, 1) := by decide +kernel
theorem dX8_succeeds_93 : decode cX8_succeeds 93 = .ok (.bipush 9, 2) := by decide +kernel
theorem dX8_succeeds_95 : decode cX8_succeeds 95 = .ok (.iload 4, 2) := by decide +kernel
theorem dX8_succeeds_97 : decode cX8_succeeds 97 = .ok (.invokevirtual 367, 3) := by decide +kernel
theorem dX8_succeeds_100 : decode cX8_succeeds 100 = .ok (.ireturn, 1) := by decide +kernel
theorem dX8_succeeds_101 : decode cX8_succeeds 101 = .ok (.aload_n 0, 1) := by decide +kernel
theorem dX8_succeeds_102 : decode cX8_succeeds 102 = .ok (.bipush 11, 2) := by decide +kernel
theorem dX8_succeeds_104 : decode cX8_succeeds 104 = .ok (.iload 4, 2) := by decide +kernel
theorem dX8_succeeds_106 : decode cX8_succeeds 106 = .ok (.invokevirtual 367, 3) := by decide +kernel
theorem dX8_succeeds_109 : decode cX8_succeeds 109 = .ok (.ireturn, 1) := by decide +kernel
theorem dX8_succeeds_110 : decode cX8_succeeds 110 = .ok (.aload_n 0, 1) := by decide +kernel
theorem dX8_succeeds_111 : decode cX8_succeeds 111 = .ok (.iload_n 2, 1) := by decide +kernel
theorem dX8_succeeds_112 : decode cX8_succeeds 112 = .ok (.iload 4, 2) := by decide +kernel
theorem dX8_succeeds_114 : decode cX8_succeeds 114 = .ok (.invokevirtual 370, 3) := by decide +kernel
theorem dX8_succeeds_117 : decode cX8_succeeds 117 = .ok (.ireturn, 1) := by decide +kernel
theorem dX8_succeeds_118 : decode cX8_succeeds 118 = .ok (.iload 4, 2) := by decide +kernel
theorem dX8_succeeds_120 : decode cX8_succeeds 120 = .ok (.ifCond .ne 14, 3) := by decide +kernel
theorem dX8_succeeds_123 : decode cX8_succeeds 123 = .ok (.aload_n 0, 1) := by decide +kernel
theorem dX8_succeeds_124 : decode cX8_succeeds 124 = .ok (.invokevirtual 373, 3) := by decide +kernel
theorem dX8_succeeds_127 : decode cX8_succeeds 127 = .ok (.ifCond .eq 7, 3) := by decide +kernel
theorem dX8_succeeds_130 : decode cX8_succeeds 130 = .ok (.iconst 1, 1) := by decide +kernel
theorem dX8_succeeds_131 : decode cX8_succeeds 131 = .ok (.goto 4, 3) := by decide +kernel
theorem dX8_succeeds_134 : decode cX8_succeeds 134 = .ok (.iconst 0, 1) := by decide +kernel
theorem dX8_succeeds_135 : decode cX8_succeeds 135 = .ok (.ireturn, 1) := by decide +kernel
theorem dX8_succeeds_136 : decode cX8_succeeds 136 = .ok (.aload_n 0, 1) := by decide +kernel
theorem dX8_succeeds_137 : decode cX8_succeeds 137 = .ok (.aload_n 0, 1) := by decide +kernel
theorem dX8_succeeds_138 : decode cX8_succeeds 138 = .ok (.getfield 30, 3) := by decide +kernel
theorem dX8_succeeds_141 : decode cX8_succeeds 141 = .ok (.invokevirtual 104, 3) := by decide +kernel
theorem dX8_succeeds_144 : decode cX8_succeeds 144 = .ok (.getfield 111, 3) := by decide +kernel
theorem dX8_succeeds_147 : decode cX8_succeeds 147 = .ok (.iload 4, 2) := by decide +kernel
theorem dX8_succeeds_149 : decode cX8_succeeds 149 = .ok (.if_icmp .gt 7, 3) := by decide +kernel
theorem dX8_succeeds_152 : decode cX8_succeeds 152 = .ok (.iconst 1, 1) := by decide +kernel
theorem dX8_succeeds_153 : decode cX8_succeeds 153 = .ok (.goto 4, 3) := by decide +kernel
theorem dX8_succeeds_156 : decode cX8_succeeds 156 = .ok (.iconst 0, 1) := by decide +kernel
theorem dX8_succeeds_157 : decode cX8_succeeds 157 = .ok (.ireturn, 1) := by decide +kernel
theorem dX8_succeeds_158 : decode cX8_succeeds 158 = .ok (.aload_n 0, 1) := by decide +kernel
theorem dX8_succeeds_159 : decode cX8_succeeds 159 = .ok (.getfield 30, 3) := by decide +kernel
theorem dX8_succeeds_162 : decode cX8_succeeds 162 = .ok (.invokevirtual 98, 3) := by decide +kernel
theorem dX8_succeeds_165 : decode cX8_succeeds 165 = .ok (.iload 4, 2) := by decide +kernel
theorem dX8_succeeds_167 : decode cX8_succeeds 167 = .ok (.if_icmp .ne 7, 3) := by decide +kernel
theorem dX8_succeeds_170 : decode cX8_succeeds 170 = .ok (.iconst 1, 1) := by decide +kernel
theorem dX8_succeeds_171 : decode cX8_succeeds 171 = .ok (.goto 4, 3) := by decide +kernel
theorem dX8_succeeds_174 : decode cX8_succeeds 174 = .ok (.iconst 0, 1) := by decide +kernel
theorem dX8_succeeds_175 : decode cX8_succeeds 175 = .ok (.ireturn, 1) := by decide +kernel
theorem dX8_succeeds_176 : decode cX8_succeeds 176 = .ok (.iconst 0, 1) := by decide +kernel
theorem dX8_succeeds_177 : decode cX8_succeeds 177 = .ok (.ireturn, 1) := by decide +kernel
theorem dX8_setsOnTrial_0 : decode cX8_setsOnTrial 0 = .ok (.iload_n 1, 1) := by decide +kernel
theorem dX8_setsOnTrial_1 : decode cX8_setsOnTrial 1 = .ok (.iload_n 2, 1) := by decide +kernel
theorem dX8_setsOnTrial_2 : decode cX8_setsOnTrial 2 = .ok (.invokestatic 265, 3) := by decide +kernel
theorem dX8_setsOnTrial_5 : decode cX8_setsOnTrial 5 = .ok (.ifCond .ne 5, 3) := by decide +kernel
theorem dX8_setsOnTrial_8 : decode cX8_setsOnTrial 8 = .ok (.iconst 0, 1) := by decide +kernel
theorem dX8_setsOnTrial_9 : decode cX8_setsOnTrial 9 = .ok (.ireturn, 1) := by decide +kernel
theorem dX8_setsOnTrial_10 : decode cX8_setsOnTrial 10 = .ok (.aload_n 0, 1) := by decide +kernel
theorem dX8_setsOnTrial_11 : decode cX8_setsOnTrial 11 = .ok (.getfield 30, 3) := by decide +kernel
theorem dX8_setsOnTrial_14 : decode cX8_setsOnTrial 14 = .ok (.iload_n 1, 1) := by decide +kernel
theorem dX8_setsOnTrial_15 : decode cX8_setsOnTrial 15 = .ok (.iload_n 2, 1) := by decide +kernel
theorem dX8_setsOnTrial_16 : decode cX8_setsOnTrial 16 = .ok (.invokevirtual 271, 3) := by decide +kernel
theorem dX8_setsOnTrial_19 : decode cX8_setsOnTrial 19 = .ok (.pop, 1) := by decide +kernel
theorem dX8_setsOnTrial_20 : decode cX8_setsOnTrial 20 = .ok (.iconst 1, 1) := by decide +kernel
theorem dX8_setsOnTrial_21 : decode cX8_setsOnTrial 21 = .ok (.ireturn, 1) := by decide +kernel
theorem dX8_changesWordOfTrial_0 : decode cX8_changesWordOfTrial 0 = .ok (.aload_n 0, 1) := by decide +kernel
theorem dX8_changesWordOfTrial_1 : decode cX8_changesWordOfTrial 1 = .ok (.getfield 30, 3) := by decide +kernel
theorem dX8_changesWordOfTrial_4 : decode cX8_changesWordOfTrial 4 = .ok (.iload_n 2, 1) := by decide +kernel
theorem dX8_changesWordOfTrial_5 : decode cX8_changesWordOfTrial 5 = .ok (.invokevirtual 346, 3) := by decide +kernel
theorem dX8_changesWordOfTrial_8 : decode cX8_changesWordOfTrial 8 = .ok (.ifCond .ne 5, 3) := by decide +kernel
theorem dX8_changesWordOfTrial_11 : decode cX8_changesWordOfTrial 11 = .ok (.iconst 0, 1) := by decide +kernel
theorem dX8_changesWordOfTrial_12 : decode cX8_changesWordOfTrial 12 = .ok (.ireturn, 1) := by decide +kernel
theorem dX8_changesWordOfTrial_13 : decode cX8_changesWordOfTrial 13 = .ok (.iload_n 1, 1) := by decide +kernel
theorem dX8_changesWordOfTrial_14 : decode cX8_changesWordOfTrial 14 = .ok (.iconst 3, 1) := by decide +kernel
theorem dX8_changesWordOfTrial_15 : decode cX8_changesWordOfTrial 15 = .ok (.if_icmp .ne 19, 3) := by decide +kernel
theorem dX8_changesWordOfTrial_18 : decode cX8_changesWordOfTrial 18 = .ok (.aload_n 0, 1) := by decide +kernel
theorem dX8_changesWordOfTrial_19 : decode cX8_changesWordOfTrial 19 = .ok (.getfield 30, 3) := by decide +kernel
theorem dX8_changesWordOfTrial_22 : decode cX8_changesWordOfTrial 22 = .ok (.getfield 144, 3) := by decide +kernel
theorem dX8_changesWordOfTrial_25 : decode cX8_changesWordOfTrial 25 = .ok (.iload_n 2, 1) := by decide +kernel
theorem dX8_changesWordOfTrial_26 : decode cX8_changesWordOfTrial 26 = .ok (.aaload, 1) := by decide +kernel
theorem dX8_changesWordOfTrial_27 : decode cX8_changesWordOfTrial 27 = .ok (.iconst 1, 1) := by decide +kernel
theorem dX8_changesWordOfTrial_28 : decode cX8_changesWordOfTrial 28 = .ok (.putfield 164, 3) := by decide +kernel
theorem dX8_changesWordOfTrial_31 : decode cX8_changesWordOfTrial 31 = .ok (.goto 31, 3) := by decide +kernel
theorem dX8_changesWordOfTrial_34 : decode cX8_changesWordOfTrial 34 = .ok (.iload_n 1, 1) := by decide +kernel
theorem dX8_changesWordOfTrial_35 : decode cX8_changesWordOfTrial 35 = .ok (.iconst 4, 1) := by decide +kernel
theorem dX8_changesWordOfTrial_36 : decode cX8_changesWordOfTrial 36 = .ok (.if_icmp .ne 18, 3) := by decide +kernel
theorem dX8_changesWordOfTrial_39 : decode cX8_changesWordOfTrial 39 = .ok (.aload_n 0, 1) := by decide +kernel
theorem dX8_changesWordOfTrial_40 : decode cX8_changesWordOfTrial 40 = .ok (.getfield 30, 3) := by decide +kernel
theorem dX8_changesWordOfTrial_43 : decode cX8_changesWordOfTrial 43 = .ok (.getfield 144, 3) := by decide +kernel
theorem dX8_changesWordOfTrial_46 : decode cX8_changesWordOfTrial 46 = .ok (.iload_n 2, 1) := by decide +kernel
theorem dX8_changesWordOfTrial_47 : decode cX8_changesWordOfTrial 47 = .ok (.aaload, 1) := by decide +kernel
theorem dX8_changesWordOfTrial_48 : decode cX8_changesWordOfTrial 48 = .ok (.invokevirtual 243, 3) := by decide +kernel
theorem dX8_changesWordOfTrial_51 : decode cX8_changesWordOfTrial 51 = .ok (.goto 11, 3) := by decide +kernel
theorem dX8_changesWordOfTrial_54 : decode cX8_changesWordOfTrial 54 = .ok (.aload_n 0, 1) := by decide +kernel
theorem dX8_changesWordOfTrial_55 : decode cX8_changesWordOfTrial 55 = .ok (.getfield 30, 3) := by decide +kernel
theorem dX8_changesWordOfTrial_58 : decode cX8_changesWordOfTrial 58 = .ok (.iload_n 2, 1) := by decide +kernel
theorem dX8_changesWordOfTrial_59 : decode cX8_changesWordOfTrial 59 = .ok (.invokevirtual 240, 3) := by decide +kernel
theorem dX8_changesWordOfTrial_62 : decode cX8_changesWordOfTrial 62 = .ok (.iconst 1, 1) := by decide +kernel
theorem dX8_changesWordOfTrial_63 : decode cX8_changesWordOfTrial 63 = .ok (.ireturn, 1) := by decide +kernel
theorem dX8_learnsOnTrial_0 : decode cX8_learnsOnTrial 0 = .ok (.aload_n 0, 1) := by decide +kernel
theorem dX8_learnsOnTrial_1 : decode cX8_learnsOnTrial 1 = .ok (.getfield 30, 3) := by decide +kernel
theorem dX8_learnsOnTrial_4 : decode cX8_learnsOnTrial 4 = .ok (.iload_n 1, 1) := by decide +kernel
theorem dX8_learnsOnTrial_5 : decode cX8_learnsOnTrial 5 = .ok (.iload_n 2, 1) := by decide +kernel
theorem dX8_learnsOnTrial_6 : decode cX8_learnsOnTrial 6 = .ok (.invokevirtual 275, 3) := by decide +kernel
theorem dX8_learnsOnTrial_9 : decode cX8_learnsOnTrial 9 = .ok (.ifCond .ne 5, 3) := by decide +kernel
theorem dX8_learnsOnTrial_12 : decode cX8_learnsOnTrial 12 = .ok (.iconst 0, 1) := by decide +kernel
theorem dX8_learnsOnTrial_13 : decode cX8_learnsOnTrial 13 = .ok (.ireturn, 1) := by decide +kernel
theorem dX8_learnsOnTrial_14 : decode cX8_learnsOnTrial 14 = .ok (.aload_n 0, 1) := by decide +kernel
theorem dX8_learnsOnTrial_15 : decode cX8_learnsOnTrial 15 = .ok (.getfield 30, 3) := by decide +kernel
theorem dX8_learnsOnTrial_18 : decode cX8_learnsOnTrial 18 = .ok (.iload_n 1, 1) := by decide +kernel
theorem dX8_learnsOnTrial_19 : decode cX8_learnsOnTrial 19 = .ok (.iload_n 2, 1) := by decide +kernel
theorem dX8_learnsOnTrial_20 : decode cX8_learnsOnTrial 20 = .ok (.invokevirtual 280, 3) := by decide +kernel
theorem dX8_learnsOnTrial_23 : decode cX8_learnsOnTrial 23 = .ok (.iconst 1, 1) := by decide +kernel
theorem dX8_learnsOnTrial_24 : decode cX8_learnsOnTrial 24 = .ok (.ireturn, 1) := by decide +kernel
theorem dX8_fillsTrial_0 : decode cX8_fillsTrial 0 = .ok (.aload_n 0, 1) := by decide +kernel
theorem dX8_fillsTrial_1 : decode cX8_fillsTrial 1 = .ok (.getfield 30, 3) := by decide +kernel
theorem dX8_fillsTrial_4 : decode cX8_fillsTrial 4 = .ok (.invokevirtual 286, 3) := by decide +kernel
theorem dX8_fillsTrial_7 : decode cX8_fillsTrial 7 = .ok (.pop, 1) := by decide +kernel
theorem dX8_fillsTrial_8 : decode cX8_fillsTrial 8 = .ok (.iconst 1, 1) := by decide +kernel
theorem dX8_fillsTrial_9 : decode cX8_fillsTrial 9 = .ok (.ireturn, 1) := by decide +kernel
theorem dX8_playRound_0 : decode cX8_playRound 0 = .ok (.iload_n 1, 1) := by decide +kernel
theorem dX8_playRound_1 : decode cX8_playRound 1 = .ok (.iconst 4, 1) := by decide +kernel
theorem dX8_playRound_2 : decode cX8_playRound 2 = .ok (.idiv, 1) := by decide +kernel
theorem dX8_playRound_3 : decode cX8_playRound 3 = .ok (.istore_n 2, 1) := by decide +kernel
theorem dX8_playRound_4 : decode cX8_playRound 4 = .ok (.iload_n 1, 1) := by decide +kernel
theorem dX8_playRound_5 : decode cX8_playRound 5 = .ok (.iconst 4, 1) := by decide +kernel
theorem dX8_playRound_6 : decode cX8_playRound 6 = .ok (.irem, 1) := by decide +kernel
theorem dX8_playRound_7 : decode cX8_playRound 7 = .ok (.tableswitch 79 0 2 #[25, 45, 61], 25) := by decide +kernel
theorem dX8_playRound_32 : decode cX8_playRound 32 = .ok (.aload_n 0, 1) := by decide +kernel
theorem dX8_playRound_33 : decode cX8_playRound 33 = .ok (.getfield 30, 3) := by decide +kernel
theorem dX8_playRound_36 : decode cX8_playRound 36 = .ok (.bipush 9, 2) := by decide +kernel
theorem dX8_playRound_38 : decode cX8_playRound 38 = .ok (.bipush 10, 2) := by decide +kernel
theorem dX8_playRound_40 : decode cX8_playRound 40 = .ok (.iload_n 2, 1) := by decide +kernel
theorem dX8_playRound_41 : decode cX8_playRound 41 = .ok (.bipush 51, 2) := by decide +kernel
theorem dX8_playRound_43 : decode cX8_playRound 43 = .ok (.irem, 1) := by decide +kernel
theorem dX8_playRound_44 : decode cX8_playRound 44 = .ok (.iadd, 1) := by decide +kernel
theorem dX8_playRound_45 : decode cX8_playRound 45 = .ok (.invokevirtual 271, 3) := by decide +kernel
theorem dX8_playRound_48 : decode cX8_playRound 48 = .ok (.pop, 1) := by decide +kernel
theorem dX8_playRound_49 : decode cX8_playRound 49 = .ok (.goto 67, 3) := by decide +kernel
theorem dX8_playRound_52 : decode cX8_playRound 52 = .ok (.aload_n 0, 1) := by decide +kernel
theorem dX8_playRound_53 : decode cX8_playRound 53 = .ok (.getfield 30, 3) := by decide +kernel
theorem dX8_playRound_56 : decode cX8_playRound 56 = .ok (.bipush 11, 2) := by decide +kernel
theorem dX8_playRound_58 : decode cX8_playRound 58 = .ok (.iload_n 2, 1) := by decide +kernel
theorem dX8_playRound_59 : decode cX8_playRound 59 = .ok (.iconst 2, 1) := by decide +kernel
theorem dX8_playRound_60 : decode cX8_playRound 60 = .ok (.irem, 1) := by decide +kernel
theorem dX8_playRound_61 : decode cX8_playRound 61 = .ok (.invokevirtual 271, 3) := by decide +kernel
theorem dX8_playRound_64 : decode cX8_playRound 64 = .ok (.pop, 1) := by decide +kernel
theorem dX8_playRound_65 : decode cX8_playRound 65 = .ok (.goto 51, 3) := by decide +kernel
theorem dX8_playRound_68 : decode cX8_playRound 68 = .ok (.aload_n 0, 1) := by decide +kernel
theorem dX8_playRound_69 : decode cX8_playRound 69 = .ok (.getfield 30, 3) := by decide +kernel
theorem dX8_playRound_72 : decode cX8_playRound 72 = .ok (.bipush 10, 2) := by decide +kernel
theorem dX8_playRound_74 : decode cX8_playRound 74 = .ok (.iconst 1, 1) := by decide +kernel
theorem dX8_playRound_75 : decode cX8_playRound 75 = .ok (.iload_n 2, 1) := by decide +kernel
theorem dX8_playRound_76 : decode cX8_playRound 76 = .ok (.iconst 3, 1) := by decide +kernel
theorem dX8_playRound_77 : decode cX8_playRound 77 = .ok (.irem, 1) := by decide +kernel
theorem dX8_playRound_78 : decode cX8_playRound 78 = .ok (.iadd, 1) := by decide +kernel
theorem dX8_playRound_79 : decode cX8_playRound 79 = .ok (.invokevirtual 271, 3) := by decide +kernel
theorem dX8_playRound_82 : decode cX8_playRound 82 = .ok (.pop, 1) := by decide +kernel
theorem dX8_playRound_83 : decode cX8_playRound 83 = .ok (.goto 33, 3) := by decide +kernel
theorem dX8_playRound_86 : decode cX8_playRound 86 = .ok (.aload_n 0, 1) := by decide +kernel
theorem dX8_playRound_87 : decode cX8_playRound 87 = .ok (.getfield 30, 3) := by decide +kernel
theorem dX8_playRound_90 : decode cX8_playRound 90 = .ok (.getfield 91, 3) := by decide +kernel
theorem dX8_playRound_93 : decode cX8_playRound 93 = .ok (.ifCond .le 23, 3) := by decide +kernel
theorem dX8_playRound_96 : decode cX8_playRound 96 = .ok (.aload_n 0, 1) := by decide +kernel
theorem dX8_playRound_97 : decode cX8_playRound 97 = .ok (.getfield 30, 3) := by decide +kernel
theorem dX8_playRound_100 : decode cX8_playRound 100 = .ok (.getfield 144, 3) := by decide +kernel
theorem dX8_playRound_103 : decode cX8_playRound 103 = .ok (.iload_n 2, 1) := by decide +kernel
theorem dX8_playRound_104 : decode cX8_playRound 104 = .ok (.aload_n 0, 1) := by decide +kernel
theorem dX8_playRound_105 : decode cX8_playRound 105 = .ok (.getfield 30, 3) := by decide +kernel
theorem dX8_playRound_108 : decode cX8_playRound 108 = .ok (.getfield 91, 3) := by decide +kernel
theorem dX8_playRound_111 : decode cX8_playRound 111 = .ok (.irem, 1) := by decide +kernel
theorem dX8_playRound_112 : decode cX8_playRound 112 = .ok (.aaload, 1) := by decide +kernel
theorem dX8_playRound_113 : decode cX8_playRound 113 = .ok (.invokevirtual 376, 3) := by decide +kernel
theorem dX8_playRound_116 : decode cX8_playRound 116 = .ok (.return_, 1) := by decide +kernel
theorem dJ9_max_7cf53_0 : decode cJ9_max_7cf53 0 = .ok (.iload_n 0, 1) := by decide +kernel
theorem dJ9_max_7cf53_1 : decode cJ9_max_7cf53 1 = .ok (.iload_n 1, 1) := by decide +kernel
theorem dJ9_max_7cf53_2 : decode cJ9_max_7cf53 2 = .ok (.if_icmp .lt 7, 3) := by decide +kernel
theorem dJ9_max_7cf53_5 : decode cJ9_max_7cf53 5 = .ok (.iload_n 0, 1) := by decide +kernel
theorem dJ9_max_7cf53_6 : decode cJ9_max_7cf53 6 = .ok (.goto 4, 3) := by decide +kernel
theorem dJ9_max_7cf53_9 : decode cJ9_max_7cf53 9 = .ok (.iload_n 1, 1) := by decide +kernel
theorem dJ9_max_7cf53_10 : decode cJ9_max_7cf53 10 = .ok (.ireturn, 1) := by decide +kernel
theorem dJ9_min_7cf53_0 : decode cJ9_min_7cf53 0 = .ok (.iload_n 0, 1) := by decide +kernel
theorem dJ9_min_7cf53_1 : decode cJ9_min_7cf53 1 = .ok (.iload_n 1, 1) := by decide +kernel
theorem dJ9_min_7cf53_2 : decode cJ9_min_7cf53 2 = .ok (.if_icmp .gt 7, 3) := by decide +kernel
theorem dJ9_min_7cf53_5 : decode cJ9_min_7cf53 5 = .ok (.iload_n 0, 1) := by decide +kernel
theorem dJ9_min_7cf53_6 : decode cJ9_min_7cf53 6 = .ok (.goto 4, 3) := by decide +kernel
theorem dJ9_min_7cf53_9 : decode cJ9_min_7cf53 9 = .ok (.iload_n 1, 1) := by decide +kernel
theorem dJ9_min_7cf53_10 : decode cJ9_min_7cf53 10 = .ok (.ireturn, 1) := by decide +kernel
